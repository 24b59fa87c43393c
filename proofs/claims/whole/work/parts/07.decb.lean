/-! decode rows 700 .. (printed) -/
theorem d_St_joinWith_1 : decode c_St_joinWith 1 = .ok (.getfield 17, 3) := by decide +kernel
theorem d_St_joinWith_4 : decode c_St_joinWith 4 = .ok (.ifCond .eq 5, 3) := by decide +kernel
theorem d_St_joinWith_7 : decode c_St_joinWith 7 = .ok (.iconst 0, 1) := by decide +kernel
theorem d_St_joinWith_8 : decode c_St_joinWith 8 = .ok (.ireturn, 1) := by decide +kernel
theorem d_St_joinWith_9 : decode c_St_joinWith 9 = .ok (.aload_n 0, 1) := by decide +kernel
theorem d_St_joinWith_10 : decode c_St_joinWith 10 = .ok (.getfield 17, 3) := by decide +kernel
theorem d_St_joinWith_13 : decode c_St_joinWith 13 = .ok (.ifCond .eq 10, 3) := by decide +kernel
theorem d_St_joinWith_16 : decode c_St_joinWith 16 = .ok (.aload_n 0, 1) := by decide +kernel
theorem d_St_joinWith_17 : decode c_St_joinWith 17 = .ok (.aload_n 1, 1) := by decide +kernel
theorem d_St_joinWith_18 : decode c_St_joinWith 18 = .ok (.invokevirtual 61, 3) := by decide +kernel
theorem d_St_joinWith_21 : decode c_St_joinWith 21 = .ok (.iconst 1, 1) := by decide +kernel
theorem d_St_joinWith_22 : decode c_St_joinWith 22 = .ok (.ireturn, 1) := by decide +kernel
theorem d_St_joinWith_23 : decode c_St_joinWith 23 = .ok (.iconst 0, 1) := by decide +kernel
theorem d_St_joinWith_24 : decode c_St_joinWith 24 = .ok (.istore_n 2, 1) := by decide +kernel
theorem d_St_joinWith_25 : decode c_St_joinWith 25 = .ok (.iconst 0, 1) := by decide +kernel
theorem d_St_joinWith_26 : decode c_St_joinWith 26 = .ok (.istore_n 3, 1) := by decide +kernel
theorem d_St_joinWith_27 : decode c_St_joinWith 27 = .ok (.iload_n 3, 1) := by decide +kernel
theorem d_St_joinWith_28 : decode c_St_joinWith 28 = .ok (.iconst 4, 1) := by decide +kernel
theorem d_St_joinWith_29 : decode c_St_joinWith 29 = .ok (.if_icmp .ge 29, 3) := by decide +kernel
theorem d_St_joinWith_32 : decode c_St_joinWith 32 = .ok (.aload_n 0, 1) := by decide +kernel
theorem d_St_joinWith_33 : decode c_St_joinWith 33 = .ok (.getfield 11, 3) := by decide +kernel
theorem d_St_joinWith_36 : decode c_St_joinWith 36 = .ok (.iload_n 3, 1) := by decide +kernel
theorem d_St_joinWith_37 : decode c_St_joinWith 37 = .ok (.aaload, 1) := by decide +kernel
theorem d_St_joinWith_38 : decode c_St_joinWith 38 = .ok (.aload_n 1, 1) := by decide +kernel
theorem d_St_joinWith_39 : decode c_St_joinWith 39 = .ok (.getfield 11, 3) := by decide +kernel
theorem d_St_joinWith_42 : decode c_St_joinWith 42 = .ok (.iload_n 3, 1) := by decide +kernel
theorem d_St_joinWith_43 : decode c_St_joinWith 43 = .ok (.aaload, 1) := by decide +kernel
theorem d_St_joinWith_44 : decode c_St_joinWith 44 = .ok (.invokevirtual 64, 3) := by decide +kernel
theorem d_St_joinWith_47 : decode c_St_joinWith 47 = .ok (.ifCond .eq 5, 3) := by decide +kernel
theorem d_St_joinWith_50 : decode c_St_joinWith 50 = .ok (.iconst 1, 1) := by decide +kernel
theorem d_St_joinWith_51 : decode c_St_joinWith 51 = .ok (.istore_n 2, 1) := by decide +kernel
theorem d_St_joinWith_52 : decode c_St_joinWith 52 = .ok (.iinc 3 1, 3) := by decide +kernel
theorem d_St_joinWith_55 : decode c_St_joinWith 55 = .ok (.goto (-28), 3) := by decide +kernel
theorem d_St_joinWith_58 : decode c_St_joinWith 58 = .ok (.iload_n 2, 1) := by decide +kernel
theorem d_St_joinWith_59 : decode c_St_joinWith 59 = .ok (.ireturn, 1) := by decide +kernel
theorem d_Fa_joinWith_0 : decode c_Fa_joinWith 0 = .ok (.aload_n 0, 1) := by decide +kernel
theorem d_Fa_joinWith_1 : decode c_Fa_joinWith 1 = .ok (.getfield 15, 3) := by decide +kernel
theorem d_Fa_joinWith_4 : decode c_Fa_joinWith 4 = .ok (.aload_n 1, 1) := by decide +kernel
theorem d_Fa_joinWith_5 : decode c_Fa_joinWith 5 = .ok (.getfield 15, 3) := by decide +kernel
theorem d_Fa_joinWith_8 : decode c_Fa_joinWith 8 = .ok (.ixor, 1) := by decide +kernel
theorem d_Fa_joinWith_9 : decode c_Fa_joinWith 9 = .ok (.istore_n 2, 1) := by decide +kernel
theorem d_Fa_joinWith_10 : decode c_Fa_joinWith 10 = .ok (.aload_n 0, 1) := by decide +kernel
theorem d_Fa_joinWith_11 : decode c_Fa_joinWith 11 = .ok (.getfield 9, 3) := by decide +kernel
theorem d_Fa_joinWith_14 : decode c_Fa_joinWith 14 = .ok (.aload_n 1, 1) := by decide +kernel
theorem d_Fa_joinWith_15 : decode c_Fa_joinWith 15 = .ok (.getfield 9, 3) := by decide +kernel
theorem d_Fa_joinWith_18 : decode c_Fa_joinWith 18 = .ok (.invokestatic 48, 3) := by decide +kernel
theorem d_Fa_joinWith_21 : decode c_Fa_joinWith 21 = .ok (.istore_n 3, 1) := by decide +kernel
theorem d_Fa_joinWith_22 : decode c_Fa_joinWith 22 = .ok (.iload_n 3, 1) := by decide +kernel
theorem d_Fa_joinWith_23 : decode c_Fa_joinWith 23 = .ok (.bipush 32, 2) := by decide +kernel
theorem d_Fa_joinWith_25 : decode c_Fa_joinWith 25 = .ok (.if_icmp .ne 7, 3) := by decide +kernel
theorem d_Fa_joinWith_28 : decode c_Fa_joinWith 28 = .ok (.iload_n 2, 1) := by decide +kernel
theorem d_Fa_joinWith_29 : decode c_Fa_joinWith 29 = .ok (.ifCond .eq 21, 3) := by decide +kernel
theorem d_Fa_joinWith_32 : decode c_Fa_joinWith 32 = .ok (.iload_n 2, 1) := by decide +kernel
theorem d_Fa_joinWith_33 : decode c_Fa_joinWith 33 = .ok (.invokestatic 53, 3) := by decide +kernel
theorem d_Fa_joinWith_36 : decode c_Fa_joinWith 36 = .ok (.istore 4, 2) := by decide +kernel
theorem d_Fa_joinWith_38 : decode c_Fa_joinWith 38 = .ok (.bipush 16, 2) := by decide +kernel
theorem d_Fa_joinWith_40 : decode c_Fa_joinWith 40 = .ok (.iload_n 3, 1) := by decide +kernel
theorem d_Fa_joinWith_41 : decode c_Fa_joinWith 41 = .ok (.iload 4, 2) := by decide +kernel
theorem d_Fa_joinWith_43 : decode c_Fa_joinWith 43 = .ok (.invokestatic 48, 3) := by decide +kernel
theorem d_Fa_joinWith_46 : decode c_Fa_joinWith 46 = .ok (.invokestatic 48, 3) := by decide +kernel
theorem d_Fa_joinWith_49 : decode c_Fa_joinWith 49 = .ok (.istore_n 3, 1) := by decide +kernel
theorem d_Fa_joinWith_50 : decode c_Fa_joinWith 50 = .ok (.aload_n 0, 1) := by decide +kernel
theorem d_Fa_joinWith_51 : decode c_Fa_joinWith 51 = .ok (.getfield 18, 3) := by decide +kernel
theorem d_Fa_joinWith_54 : decode c_Fa_joinWith 54 = .ok (.aload_n 1, 1) := by decide +kernel
theorem d_Fa_joinWith_55 : decode c_Fa_joinWith 55 = .ok (.getfield 18, 3) := by decide +kernel
theorem d_Fa_joinWith_58 : decode c_Fa_joinWith 58 = .ok (.ior, 1) := by decide +kernel
theorem d_Fa_joinWith_59 : decode c_Fa_joinWith 59 = .ok (.istore 4, 2) := by decide +kernel
theorem d_Fa_joinWith_61 : decode c_Fa_joinWith 61 = .ok (.iload_n 3, 1) := by decide +kernel
theorem d_Fa_joinWith_62 : decode c_Fa_joinWith 62 = .ok (.aload_n 0, 1) := by decide +kernel
theorem d_Fa_joinWith_63 : decode c_Fa_joinWith 63 = .ok (.getfield 9, 3) := by decide +kernel
theorem d_Fa_joinWith_66 : decode c_Fa_joinWith 66 = .ok (.if_icmp .ne 12, 3) := by decide +kernel
theorem d_Fa_joinWith_69 : decode c_Fa_joinWith 69 = .ok (.iload 4, 2) := by decide +kernel
theorem d_Fa_joinWith_71 : decode c_Fa_joinWith 71 = .ok (.aload_n 0, 1) := by decide +kernel
theorem d_Fa_joinWith_72 : decode c_Fa_joinWith 72 = .ok (.getfield 18, 3) := by decide +kernel
theorem d_Fa_joinWith_75 : decode c_Fa_joinWith 75 = .ok (.if_icmp .eq 7, 3) := by decide +kernel
theorem d_Fa_joinWith_78 : decode c_Fa_joinWith 78 = .ok (.iconst 1, 1) := by decide +kernel
theorem d_Fa_joinWith_79 : decode c_Fa_joinWith 79 = .ok (.goto 4, 3) := by decide +kernel
theorem d_Fa_joinWith_82 : decode c_Fa_joinWith 82 = .ok (.iconst 0, 1) := by decide +kernel
theorem d_Fa_joinWith_83 : decode c_Fa_joinWith 83 = .ok (.istore 5, 2) := by decide +kernel
theorem d_Fa_joinWith_85 : decode c_Fa_joinWith 85 = .ok (.aload_n 0, 1) := by decide +kernel
theorem d_Fa_joinWith_86 : decode c_Fa_joinWith 86 = .ok (.iload_n 3, 1) := by decide +kernel
theorem d_Fa_joinWith_87 : decode c_Fa_joinWith 87 = .ok (.putfield 9, 3) := by decide +kernel
theorem d_Fa_joinWith_90 : decode c_Fa_joinWith 90 = .ok (.aload_n 0, 1) := by decide +kernel
theorem d_Fa_joinWith_91 : decode c_Fa_joinWith 91 = .ok (.aload_n 0, 1) := by decide +kernel
theorem d_Fa_joinWith_92 : decode c_Fa_joinWith 92 = .ok (.getfield 15, 3) := by decide +kernel
theorem d_Fa_joinWith_95 : decode c_Fa_joinWith 95 = .ok (.iload_n 3, 1) := by decide +kernel
theorem d_Fa_joinWith_96 : decode c_Fa_joinWith 96 = .ok (.invokestatic 44, 3) := by decide +kernel
theorem d_Fa_joinWith_99 : decode c_Fa_joinWith 99 = .ok (.putfield 15, 3) := by decide +kernel
theorem d_Fa_joinWith_102 : decode c_Fa_joinWith 102 = .ok (.aload_n 0, 1) := by decide +kernel
theorem d_Fa_joinWith_103 : decode c_Fa_joinWith 103 = .ok (.iload 4, 2) := by decide +kernel
theorem d_Fa_joinWith_105 : decode c_Fa_joinWith 105 = .ok (.putfield 18, 3) := by decide +kernel
theorem d_Fa_joinWith_108 : decode c_Fa_joinWith 108 = .ok (.iload 5, 2) := by decide +kernel
theorem d_Fa_joinWith_110 : decode c_Fa_joinWith 110 = .ok (.ireturn, 1) := by decide +kernel
theorem d_Ig_numberOfTrailingZeros_0 : decode c_Ig_numberOfTrailingZeros 0 = .ok (.iload_n 0, 1) := by decide +kernel
theorem d_Ig_numberOfTrailingZeros_1 : decode c_Ig_numberOfTrailingZeros 1 = .ok (.iconst (-1), 1) := by decide +kernel
theorem d_Ig_numberOfTrailingZeros_2 : decode c_Ig_numberOfTrailingZeros 2 = .ok (.ixor, 1) := by decide +kernel
theorem d_Ig_numberOfTrailingZeros_3 : decode c_Ig_numberOfTrailingZeros 3 = .ok (.iload_n 0, 1) := by decide +kernel
theorem d_Ig_numberOfTrailingZeros_4 : decode c_Ig_numberOfTrailingZeros 4 = .ok (.iconst 1, 1) := by decide +kernel
theorem d_Ig_numberOfTrailingZeros_5 : decode c_Ig_numberOfTrailingZeros 5 = .ok (.isub, 1) := by decide +kernel
theorem d_Ig_numberOfTrailingZeros_6 : decode c_Ig_numberOfTrailingZeros 6 = .ok (.iand, 1) := by decide +kernel
theorem d_Ig_numberOfTrailingZeros_7 : decode c_Ig_numberOfTrailingZeros 7 = .ok (.istore_n 0, 1) := by decide +kernel
theorem d_Ig_numberOfTrailingZeros_8 : decode c_Ig_numberOfTrailingZeros 8 = .ok (.iload_n 0, 1) := by decide +kernel
theorem d_Ig_numberOfTrailingZeros_9 : decode c_Ig_numberOfTrailingZeros 9 = .ok (.ifCond .gt 8, 3) := by decide +kernel
theorem d_Ig_numberOfTrailingZeros_12 : decode c_Ig_numberOfTrailingZeros 12 = .ok (.iload_n 0, 1) := by decide +kernel
theorem d_Ig_numberOfTrailingZeros_13 : decode c_Ig_numberOfTrailingZeros 13 = .ok (.bipush 32, 2) := by decide +kernel
theorem d_Ig_numberOfTrailingZeros_15 : decode c_Ig_numberOfTrailingZeros 15 = .ok (.iand, 1) := by decide +kernel
theorem d_Ig_numberOfTrailingZeros_16 : decode c_Ig_numberOfTrailingZeros 16 = .ok (.ireturn, 1) := by decide +kernel
theorem d_Ig_numberOfTrailingZeros_17 : decode c_Ig_numberOfTrailingZeros 17 = .ok (.iconst 1, 1) := by decide +kernel
theorem d_Ig_numberOfTrailingZeros_18 : decode c_Ig_numberOfTrailingZeros 18 = .ok (.istore_n 1, 1) := by decide +kernel
theorem d_Ig_numberOfTrailingZeros_19 : decode c_Ig_numberOfTrailingZeros 19 = .ok (.iload_n 0, 1) := by decide +kernel
theorem d_Ig_numberOfTrailingZeros_20 : decode c_Ig_numberOfTrailingZeros 20 = .ok (.ldc_w 264, 3) := by decide +kernel
theorem d_Ig_numberOfTrailingZeros_23 : decode c_Ig_numberOfTrailingZeros 23 = .ok (.if_icmp .le 11, 3) := by decide +kernel
theorem d_Ig_numberOfTrailingZeros_26 : decode c_Ig_numberOfTrailingZeros 26 = .ok (.iinc 1 16, 3) := by decide +kernel
theorem d_Ig_numberOfTrailingZeros_29 : decode c_Ig_numberOfTrailingZeros 29 = .ok (.iload_n 0, 1) := by decide +kernel
theorem d_Ig_numberOfTrailingZeros_30 : decode c_Ig_numberOfTrailingZeros 30 = .ok (.bipush 16, 2) := by decide +kernel
theorem d_Ig_numberOfTrailingZeros_32 : decode c_Ig_numberOfTrailingZeros 32 = .ok (.iushr, 1) := by decide +kernel
theorem d_Ig_numberOfTrailingZeros_33 : decode c_Ig_numberOfTrailingZeros 33 = .ok (.istore_n 0, 1) := by decide +kernel
theorem d_Ig_numberOfTrailingZeros_34 : decode c_Ig_numberOfTrailingZeros 34 = .ok (.iload_n 0, 1) := by decide +kernel
theorem d_Ig_numberOfTrailingZeros_35 : decode c_Ig_numberOfTrailingZeros 35 = .ok (.sipush 256, 3) := by decide +kernel
theorem d_Ig_numberOfTrailingZeros_38 : decode c_Ig_numberOfTrailingZeros 38 = .ok (.if_icmp .le 11, 3) := by decide +kernel
theorem d_Ig_numberOfTrailingZeros_41 : decode c_Ig_numberOfTrailingZeros 41 = .ok (.iinc 1 8, 3) := by decide +kernel
theorem d_Ig_numberOfTrailingZeros_44 : decode c_Ig_numberOfTrailingZeros 44 = .ok (.iload_n 0, 1) := by decide +kernel
theorem d_Ig_numberOfTrailingZeros_45 : decode c_Ig_numberOfTrailingZeros 45 = .ok (.bipush 8, 2) := by decide +kernel
theorem d_Ig_numberOfTrailingZeros_47 : decode c_Ig_numberOfTrailingZeros 47 = .ok (.iushr, 1) := by decide +kernel
theorem d_Ig_numberOfTrailingZeros_48 : decode c_Ig_numberOfTrailingZeros 48 = .ok (.istore_n 0, 1) := by decide +kernel
theorem d_Ig_numberOfTrailingZeros_49 : decode c_Ig_numberOfTrailingZeros 49 = .ok (.iload_n 0, 1) := by decide +kernel
theorem d_Ig_numberOfTrailingZeros_50 : decode c_Ig_numberOfTrailingZeros 50 = .ok (.bipush 16, 2) := by decide +kernel
theorem d_Ig_numberOfTrailingZeros_52 : decode c_Ig_numberOfTrailingZeros 52 = .ok (.if_icmp .le 10, 3) := by decide +kernel
theorem d_Ig_numberOfTrailingZeros_55 : decode c_Ig_numberOfTrailingZeros 55 = .ok (.iinc 1 4, 3) := by decide +kernel
theorem d_Ig_numberOfTrailingZeros_58 : decode c_Ig_numberOfTrailingZeros 58 = .ok (.iload_n 0, 1) := by decide +kernel
theorem d_Ig_numberOfTrailingZeros_59 : decode c_Ig_numberOfTrailingZeros 59 = .ok (.iconst 4, 1) := by decide +kernel
theorem d_Ig_numberOfTrailingZeros_60 : decode c_Ig_numberOfTrailingZeros 60 = .ok (.iushr, 1) := by decide +kernel
theorem d_Ig_numberOfTrailingZeros_61 : decode c_Ig_numberOfTrailingZeros 61 = .ok (.istore_n 0, 1) := by decide +kernel
theorem d_Ig_numberOfTrailingZeros_62 : decode c_Ig_numberOfTrailingZeros 62 = .ok (.iload_n 0, 1) := by decide +kernel
theorem d_Ig_numberOfTrailingZeros_63 : decode c_Ig_numberOfTrailingZeros 63 = .ok (.iconst 4, 1) := by decide +kernel
theorem d_Ig_numberOfTrailingZeros_64 : decode c_Ig_numberOfTrailingZeros 64 = .ok (.if_icmp .le 10, 3) := by decide +kernel
theorem d_Ig_numberOfTrailingZeros_67 : decode c_Ig_numberOfTrailingZeros 67 = .ok (.iinc 1 2, 3) := by decide +kernel
theorem d_Ig_numberOfTrailingZeros_70 : decode c_Ig_numberOfTrailingZeros 70 = .ok (.iload_n 0, 1) := by decide +kernel
theorem d_Ig_numberOfTrailingZeros_71 : decode c_Ig_numberOfTrailingZeros 71 = .ok (.iconst 2, 1) := by decide +kernel
theorem d_Ig_numberOfTrailingZeros_72 : decode c_Ig_numberOfTrailingZeros 72 = .ok (.iushr, 1) := by decide +kernel
theorem d_Ig_numberOfTrailingZeros_73 : decode c_Ig_numberOfTrailingZeros 73 = .ok (.istore_n 0, 1) := by decide +kernel
theorem d_Ig_numberOfTrailingZeros_74 : decode c_Ig_numberOfTrailingZeros 74 = .ok (.iload_n 1, 1) := by decide +kernel
theorem d_Ig_numberOfTrailingZeros_75 : decode c_Ig_numberOfTrailingZeros 75 = .ok (.iload_n 0, 1) := by decide +kernel
theorem d_Ig_numberOfTrailingZeros_76 : decode c_Ig_numberOfTrailingZeros 76 = .ok (.iconst 1, 1) := by decide +kernel
theorem d_Ig_numberOfTrailingZeros_77 : decode c_Ig_numberOfTrailingZeros 77 = .ok (.iushr, 1) := by decide +kernel
theorem d_Ig_numberOfTrailingZeros_78 : decode c_Ig_numberOfTrailingZeros 78 = .ok (.iadd, 1) := by decide +kernel
theorem d_Ig_numberOfTrailingZeros_79 : decode c_Ig_numberOfTrailingZeros 79 = .ok (.ireturn, 1) := by decide +kernel
theorem d_Fa_lastBits_0 : decode c_Fa_lastBits 0 = .ok (.iload_n 1, 1) := by decide +kernel
theorem d_Fa_lastBits_1 : decode c_Fa_lastBits 1 = .ok (.bipush 32, 2) := by decide +kernel
theorem d_Fa_lastBits_3 : decode c_Fa_lastBits 3 = .ok (.if_icmp .ne 7, 3) := by decide +kernel
theorem d_Fa_lastBits_6 : decode c_Fa_lastBits 6 = .ok (.iload_n 0, 1) := by decide +kernel
theorem d_Fa_lastBits_7 : decode c_Fa_lastBits 7 = .ok (.goto 10, 3) := by decide +kernel
theorem d_Fa_lastBits_10 : decode c_Fa_lastBits 10 = .ok (.iload_n 0, 1) := by decide +kernel
theorem d_Fa_lastBits_11 : decode c_Fa_lastBits 11 = .ok (.iconst 1, 1) := by decide +kernel
theorem d_Fa_lastBits_12 : decode c_Fa_lastBits 12 = .ok (.iload_n 1, 1) := by decide +kernel
theorem d_Fa_lastBits_13 : decode c_Fa_lastBits 13 = .ok (.ishl, 1) := by decide +kernel
theorem d_Fa_lastBits_14 : decode c_Fa_lastBits 14 = .ok (.iconst 1, 1) := by decide +kernel
theorem d_Fa_lastBits_15 : decode c_Fa_lastBits 15 = .ok (.isub, 1) := by decide +kernel
theorem d_Fa_lastBits_16 : decode c_Fa_lastBits 16 = .ok (.iand, 1) := by decide +kernel
theorem d_Fa_lastBits_17 : decode c_Fa_lastBits 17 = .ok (.ireturn, 1) := by decide +kernel
theorem d_In_jumpSigns_0 : decode c_In_jumpSigns 0 = .ok (.aload_n 0, 1) := by decide +kernel
theorem d_In_jumpSigns_1 : decode c_In_jumpSigns 1 = .ok (.getfield 9, 3) := by decide +kernel
theorem d_In_jumpSigns_4 : decode c_In_jumpSigns 4 = .ok (.bipush 7, 2) := by decide +kernel
theorem d_In_jumpSigns_6 : decode c_In_jumpSigns 6 = .ok (.if_icmp .ne 7, 3) := by decide +kernel
theorem d_In_jumpSigns_9 : decode c_In_jumpSigns 9 = .ok (.iconst 2, 1) := by decide +kernel
theorem d_In_jumpSigns_10 : decode c_In_jumpSigns 10 = .ok (.goto 4, 3) := by decide +kernel
theorem d_In_jumpSigns_13 : decode c_In_jumpSigns 13 = .ok (.iconst 1, 1) := by decide +kernel
theorem d_In_jumpSigns_14 : decode c_In_jumpSigns 14 = .ok (.ireturn, 1) := by decide +kernel
theorem d_St_keepSigns_0 : decode c_St_keepSigns 0 = .ok (.aload_n 0, 1) := by decide +kernel
theorem d_St_keepSigns_1 : decode c_St_keepSigns 1 = .ok (.getfield 11, 3) := by decide +kernel
theorem d_St_keepSigns_4 : decode c_St_keepSigns 4 = .ok (.iload_n 1, 1) := by decide +kernel
theorem d_St_keepSigns_5 : decode c_St_keepSigns 5 = .ok (.aaload, 1) := by decide +kernel
theorem d_St_keepSigns_6 : decode c_St_keepSigns 6 = .ok (.iload_n 2, 1) := by decide +kernel
theorem d_St_keepSigns_7 : decode c_St_keepSigns 7 = .ok (.invokevirtual 30, 3) := by decide +kernel
theorem d_St_keepSigns_10 : decode c_St_keepSigns 10 = .ok (.aload_n 0, 1) := by decide +kernel
theorem d_St_keepSigns_11 : decode c_St_keepSigns 11 = .ok (.getfield 11, 3) := by decide +kernel
theorem d_St_keepSigns_14 : decode c_St_keepSigns 14 = .ok (.iload_n 1, 1) := by decide +kernel
theorem d_St_keepSigns_15 : decode c_St_keepSigns 15 = .ok (.aaload, 1) := by decide +kernel
theorem d_St_keepSigns_16 : decode c_St_keepSigns 16 = .ok (.getfield 33, 3) := by decide +kernel
theorem d_St_keepSigns_19 : decode c_St_keepSigns 19 = .ok (.ifCond .ne 8, 3) := by decide +kernel
theorem d_St_keepSigns_22 : decode c_St_keepSigns 22 = .ok (.aload_n 0, 1) := by decide +kernel
theorem d_St_keepSigns_23 : decode c_St_keepSigns 23 = .ok (.iconst 1, 1) := by decide +kernel
theorem d_St_keepSigns_24 : decode c_St_keepSigns 24 = .ok (.putfield 17, 3) := by decide +kernel
theorem d_St_keepSigns_27 : decode c_St_keepSigns 27 = .ok (.return_, 1) := by decide +kernel
theorem d_Fa_keepSigns_0 : decode c_Fa_keepSigns 0 = .ok (.aload_n 0, 1) := by decide +kernel
theorem d_Fa_keepSigns_1 : decode c_Fa_keepSigns 1 = .ok (.dup, 1) := by decide +kernel
theorem d_Fa_keepSigns_2 : decode c_Fa_keepSigns 2 = .ok (.getfield 18, 3) := by decide +kernel
theorem d_Fa_keepSigns_5 : decode c_Fa_keepSigns 5 = .ok (.iload_n 1, 1) := by decide +kernel
theorem d_Fa_keepSigns_6 : decode c_Fa_keepSigns 6 = .ok (.iand, 1) := by decide +kernel
theorem d_Fa_keepSigns_7 : decode c_Fa_keepSigns 7 = .ok (.putfield 18, 3) := by decide +kernel
theorem d_Fa_keepSigns_10 : decode c_Fa_keepSigns 10 = .ok (.aload_n 0, 1) := by decide +kernel
theorem d_Fa_keepSigns_11 : decode c_Fa_keepSigns 11 = .ok (.invokevirtual 21, 3) := by decide +kernel
theorem d_Fa_keepSigns_14 : decode c_Fa_keepSigns 14 = .ok (.return_, 1) := by decide +kernel
theorem d_St_goThrough_0 : decode c_St_goThrough 0 = .ok (.aload_n 1, 1) := by decide +kernel
theorem d_St_goThrough_1 : decode c_St_goThrough 1 = .ok (.getfield 37, 3) := by decide +kernel
theorem d_St_goThrough_4 : decode c_St_goThrough 4 = .ok (.tableswitch 189 0 6 #[44, 63, 87, 87, 87, 124, 174], 44) := by decide +kernel
theorem d_St_goThrough_48 : decode c_St_goThrough 48 = .ok (.aload_n 0, 1) := by decide +kernel
theorem d_St_goThrough_49 : decode c_St_goThrough 49 = .ok (.getfield 11, 3) := by decide +kernel
theorem d_St_goThrough_52 : decode c_St_goThrough 52 = .ok (.aload_n 1, 1) := by decide +kernel
theorem d_St_goThrough_53 : decode c_St_goThrough 53 = .ok (.getfield 42, 3) := by decide +kernel
theorem d_St_goThrough_56 : decode c_St_goThrough 56 = .ok (.aaload, 1) := by decide +kernel
theorem d_St_goThrough_57 : decode c_St_goThrough 57 = .ok (.aload_n 1, 1) := by decide +kernel
theorem d_St_goThrough_58 : decode c_St_goThrough 58 = .ok (.getfield 45, 3) := by decide +kernel
theorem d_St_goThrough_61 : decode c_St_goThrough 61 = .ok (.invokevirtual 22, 3) := by decide +kernel
theorem d_St_goThrough_64 : decode c_St_goThrough 64 = .ok (.goto 129, 3) := by decide +kernel
theorem d_St_goThrough_67 : decode c_St_goThrough 67 = .ok (.aload_n 0, 1) := by decide +kernel
theorem d_St_goThrough_68 : decode c_St_goThrough 68 = .ok (.getfield 11, 3) := by decide +kernel
theorem d_St_goThrough_71 : decode c_St_goThrough 71 = .ok (.aload_n 1, 1) := by decide +kernel
theorem d_St_goThrough_72 : decode c_St_goThrough 72 = .ok (.getfield 42, 3) := by decide +kernel
theorem d_St_goThrough_75 : decode c_St_goThrough 75 = .ok (.aaload, 1) := by decide +kernel
theorem d_St_goThrough_76 : decode c_St_goThrough 76 = .ok (.aload_n 0, 1) := by decide +kernel
theorem d_St_goThrough_77 : decode c_St_goThrough 77 = .ok (.getfield 11, 3) := by decide +kernel
theorem d_St_goThrough_80 : decode c_St_goThrough 80 = .ok (.aload_n 1, 1) := by decide +kernel
theorem d_St_goThrough_81 : decode c_St_goThrough 81 = .ok (.getfield 48, 3) := by decide +kernel
theorem d_St_goThrough_84 : decode c_St_goThrough 84 = .ok (.aaload, 1) := by decide +kernel
theorem d_St_goThrough_85 : decode c_St_goThrough 85 = .ok (.invokevirtual 26, 3) := by decide +kernel
theorem d_St_goThrough_88 : decode c_St_goThrough 88 = .ok (.goto 105, 3) := by decide +kernel
theorem d_St_goThrough_91 : decode c_St_goThrough 91 = .ok (.aload_n 0, 1) := by decide +kernel
theorem d_St_goThrough_92 : decode c_St_goThrough 92 = .ok (.getfield 11, 3) := by decide +kernel
theorem d_St_goThrough_95 : decode c_St_goThrough 95 = .ok (.aload_n 1, 1) := by decide +kernel
theorem d_St_goThrough_96 : decode c_St_goThrough 96 = .ok (.getfield 42, 3) := by decide +kernel
theorem d_St_goThrough_99 : decode c_St_goThrough 99 = .ok (.aaload, 1) := by decide +kernel
theorem d_St_goThrough_100 : decode c_St_goThrough 100 = .ok (.aload_n 1, 1) := by decide +kernel
theorem d_St_goThrough_101 : decode c_St_goThrough 101 = .ok (.getfield 37, 3) := by decide +kernel
theorem d_St_goThrough_104 : decode c_St_goThrough 104 = .ok (.aload_n 0, 1) := by decide +kernel
theorem d_St_goThrough_105 : decode c_St_goThrough 105 = .ok (.getfield 11, 3) := by decide +kernel
theorem d_St_goThrough_108 : decode c_St_goThrough 108 = .ok (.aload_n 1, 1) := by decide +kernel
theorem d_St_goThrough_109 : decode c_St_goThrough 109 = .ok (.getfield 48, 3) := by decide +kernel
theorem d_St_goThrough_112 : decode c_St_goThrough 112 = .ok (.aaload, 1) := by decide +kernel
theorem d_St_goThrough_113 : decode c_St_goThrough 113 = .ok (.aload_n 0, 1) := by decide +kernel
theorem d_St_goThrough_114 : decode c_St_goThrough 114 = .ok (.getfield 11, 3) := by decide +kernel
theorem d_St_goThrough_117 : decode c_St_goThrough 117 = .ok (.aload_n 1, 1) := by decide +kernel
theorem d_St_goThrough_118 : decode c_St_goThrough 118 = .ok (.getfield 45, 3) := by decide +kernel
theorem d_St_goThrough_121 : decode c_St_goThrough 121 = .ok (.aaload, 1) := by decide +kernel
theorem d_St_goThrough_122 : decode c_St_goThrough 122 = .ok (.invokevirtual 51, 3) := by decide +kernel
theorem d_St_goThrough_125 : decode c_St_goThrough 125 = .ok (.goto 68, 3) := by decide +kernel
theorem d_St_goThrough_128 : decode c_St_goThrough 128 = .ok (.aload_n 0, 1) := by decide +kernel
theorem d_St_goThrough_129 : decode c_St_goThrough 129 = .ok (.aload_n 1, 1) := by decide +kernel
theorem d_St_goThrough_130 : decode c_St_goThrough 130 = .ok (.getfield 45, 3) := by decide +kernel
theorem d_St_goThrough_133 : decode c_St_goThrough 133 = .ok (.iconst 5, 1) := by decide +kernel
theorem d_St_goThrough_134 : decode c_St_goThrough 134 = .ok (.invokevirtual 55, 3) := by decide +kernel
theorem d_St_goThrough_137 : decode c_St_goThrough 137 = .ok (.aload_n 0, 1) := by decide +kernel
theorem d_St_goThrough_138 : decode c_St_goThrough 138 = .ok (.getfield 17, 3) := by decide +kernel
theorem d_St_goThrough_141 : decode c_St_goThrough 141 = .ok (.ifCond .ne 52, 3) := by decide +kernel
theorem d_St_goThrough_144 : decode c_St_goThrough 144 = .ok (.aload_n 0, 1) := by decide +kernel
theorem d_St_goThrough_145 : decode c_St_goThrough 145 = .ok (.getfield 11, 3) := by decide +kernel
theorem d_St_goThrough_148 : decode c_St_goThrough 148 = .ok (.aload_n 1, 1) := by decide +kernel
theorem d_St_goThrough_149 : decode c_St_goThrough 149 = .ok (.getfield 42, 3) := by decide +kernel
theorem d_St_goThrough_152 : decode c_St_goThrough 152 = .ok (.aaload, 1) := by decide +kernel
theorem d_St_goThrough_153 : decode c_St_goThrough 153 = .ok (.iconst 5, 1) := by decide +kernel
theorem d_St_goThrough_154 : decode c_St_goThrough 154 = .ok (.aload_n 0, 1) := by decide +kernel
theorem d_St_goThrough_155 : decode c_St_goThrough 155 = .ok (.getfield 11, 3) := by decide +kernel
theorem d_St_goThrough_158 : decode c_St_goThrough 158 = .ok (.aload_n 1, 1) := by decide +kernel
theorem d_St_goThrough_159 : decode c_St_goThrough 159 = .ok (.getfield 48, 3) := by decide +kernel
theorem d_St_goThrough_162 : decode c_St_goThrough 162 = .ok (.aaload, 1) := by decide +kernel
theorem d_St_goThrough_163 : decode c_St_goThrough 163 = .ok (.aload_n 0, 1) := by decide +kernel
theorem d_St_goThrough_164 : decode c_St_goThrough 164 = .ok (.getfield 11, 3) := by decide +kernel
theorem d_St_goThrough_167 : decode c_St_goThrough 167 = .ok (.aload_n 1, 1) := by decide +kernel
theorem d_St_goThrough_168 : decode c_St_goThrough 168 = .ok (.getfield 45, 3) := by decide +kernel
theorem d_St_goThrough_171 : decode c_St_goThrough 171 = .ok (.aaload, 1) := by decide +kernel
theorem d_St_goThrough_172 : decode c_St_goThrough 172 = .ok (.invokevirtual 51, 3) := by decide +kernel
theorem d_St_goThrough_175 : decode c_St_goThrough 175 = .ok (.goto 18, 3) := by decide +kernel
theorem d_St_goThrough_178 : decode c_St_goThrough 178 = .ok (.aload_n 0, 1) := by decide +kernel
theorem d_St_goThrough_179 : decode c_St_goThrough 179 = .ok (.getfield 11, 3) := by decide +kernel
theorem d_St_goThrough_182 : decode c_St_goThrough 182 = .ok (.aload_n 1, 1) := by decide +kernel
theorem d_St_goThrough_183 : decode c_St_goThrough 183 = .ok (.getfield 42, 3) := by decide +kernel
theorem d_St_goThrough_186 : decode c_St_goThrough 186 = .ok (.aaload, 1) := by decide +kernel
theorem d_St_goThrough_187 : decode c_St_goThrough 187 = .ok (.invokevirtual 58, 3) := by decide +kernel
theorem d_St_goThrough_190 : decode c_St_goThrough 190 = .ok (.goto 3, 3) := by decide +kernel
theorem d_St_goThrough_193 : decode c_St_goThrough 193 = .ok (.return_, 1) := by decide +kernel
theorem d_Fa_becomeResult_0 : decode c_Fa_becomeResult 0 = .ok (.iload_n 1, 1) := by decide +kernel
theorem d_Fa_becomeResult_1 : decode c_Fa_becomeResult 1 = .ok (.iconst 4, 1) := by decide +kernel
theorem d_Fa_becomeResult_2 : decode c_Fa_becomeResult 2 = .ok (.if_icmp .ne 11, 3) := by decide +kernel
theorem d_Fa_becomeResult_5 : decode c_Fa_becomeResult 5 = .ok (.aload_n 2, 1) := by decide +kernel
theorem d_Fa_becomeResult_6 : decode c_Fa_becomeResult 6 = .ok (.aload_n 3, 1) := by decide +kernel
theorem d_Fa_becomeResult_7 : decode c_Fa_becomeResult 7 = .ok (.invokestatic 24, 3) := by decide +kernel
theorem d_Fa_becomeResult_10 : decode c_Fa_becomeResult 10 = .ok (.goto 9, 3) := by decide +kernel
theorem d_Fa_becomeResult_13 : decode c_Fa_becomeResult 13 = .ok (.iload_n 1, 1) := by decide +kernel
theorem d_Fa_becomeResult_14 : decode c_Fa_becomeResult 14 = .ok (.aload_n 2, 1) := by decide +kernel
theorem d_Fa_becomeResult_15 : decode c_Fa_becomeResult 15 = .ok (.aload_n 3, 1) := by decide +kernel
theorem d_Fa_becomeResult_16 : decode c_Fa_becomeResult 16 = .ok (.invokestatic 28, 3) := by decide +kernel
theorem d_Fa_becomeResult_19 : decode c_Fa_becomeResult 19 = .ok (.istore 4, 2) := by decide +kernel
theorem d_Fa_becomeResult_21 : decode c_Fa_becomeResult 21 = .ok (.iload 4, 2) := by decide +kernel
theorem d_Fa_becomeResult_23 : decode c_Fa_becomeResult 23 = .ok (.ifCond .ne 7, 3) := by decide +kernel
theorem d_Fa_becomeResult_26 : decode c_Fa_becomeResult 26 = .ok (.iconst 0, 1) := by decide +kernel
theorem d_Fa_becomeResult_27 : decode c_Fa_becomeResult 27 = .ok (.goto 15, 3) := by decide +kernel
theorem d_Fa_becomeResult_30 : decode c_Fa_becomeResult 30 = .ok (.iload_n 1, 1) := by decide +kernel
theorem d_Fa_becomeResult_31 : decode c_Fa_becomeResult 31 = .ok (.aload_n 2, 1) := by decide +kernel
theorem d_Fa_becomeResult_32 : decode c_Fa_becomeResult 32 = .ok (.getfield 15, 3) := by decide +kernel
theorem d_Fa_becomeResult_35 : decode c_Fa_becomeResult 35 = .ok (.aload_n 3, 1) := by decide +kernel
theorem d_Fa_becomeResult_36 : decode c_Fa_becomeResult 36 = .ok (.getfield 15, 3) := by decide +kernel
theorem d_Fa_becomeResult_39 : decode c_Fa_becomeResult 39 = .ok (.invokestatic 32, 3) := by decide +kernel
theorem d_Fa_becomeResult_42 : decode c_Fa_becomeResult 42 = .ok (.istore 5, 2) := by decide +kernel
theorem d_Fa_becomeResult_44 : decode c_Fa_becomeResult 44 = .ok (.iload_n 1, 1) := by decide +kernel
theorem d_Fa_becomeResult_45 : decode c_Fa_becomeResult 45 = .ok (.invokestatic 36, 3) := by decide +kernel
theorem d_Fa_becomeResult_48 : decode c_Fa_becomeResult 48 = .ok (.aload_n 2, 1) := by decide +kernel
theorem d_Fa_becomeResult_49 : decode c_Fa_becomeResult 49 = .ok (.getfield 18, 3) := by decide +kernel
theorem d_Fa_becomeResult_52 : decode c_Fa_becomeResult 52 = .ok (.aload_n 3, 1) := by decide +kernel
theorem d_Fa_becomeResult_53 : decode c_Fa_becomeResult 53 = .ok (.getfield 18, 3) := by decide +kernel
theorem d_Fa_becomeResult_56 : decode c_Fa_becomeResult 56 = .ok (.invokestatic 40, 3) := by decide +kernel
theorem d_Fa_becomeResult_59 : decode c_Fa_becomeResult 59 = .ok (.istore 6, 2) := by decide +kernel
theorem d_Fa_becomeResult_61 : decode c_Fa_becomeResult 61 = .ok (.aload_n 0, 1) := by decide +kernel
theorem d_Fa_becomeResult_62 : decode c_Fa_becomeResult 62 = .ok (.iload 4, 2) := by decide +kernel
theorem d_Fa_becomeResult_64 : decode c_Fa_becomeResult 64 = .ok (.putfield 9, 3) := by decide +kernel
theorem d_Fa_becomeResult_67 : decode c_Fa_becomeResult 67 = .ok (.aload_n 0, 1) := by decide +kernel
theorem d_Fa_becomeResult_68 : decode c_Fa_becomeResult 68 = .ok (.iload 5, 2) := by decide +kernel
theorem d_Fa_becomeResult_70 : decode c_Fa_becomeResult 70 = .ok (.iload 4, 2) := by decide +kernel
theorem d_Fa_becomeResult_72 : decode c_Fa_becomeResult 72 = .ok (.invokestatic 44, 3) := by decide +kernel
theorem d_Fa_becomeResult_75 : decode c_Fa_becomeResult 75 = .ok (.putfield 15, 3) := by decide +kernel
theorem d_Fa_becomeResult_78 : decode c_Fa_becomeResult 78 = .ok (.aload_n 0, 1) := by decide +kernel
theorem d_Fa_becomeResult_79 : decode c_Fa_becomeResult 79 = .ok (.iload 6, 2) := by decide +kernel
theorem d_Fa_becomeResult_81 : decode c_Fa_becomeResult 81 = .ok (.putfield 18, 3) := by decide +kernel
theorem d_Fa_becomeResult_84 : decode c_Fa_becomeResult 84 = .ok (.aload_n 0, 1) := by decide +kernel
theorem d_Fa_becomeResult_85 : decode c_Fa_becomeResult 85 = .ok (.invokevirtual 21, 3) := by decide +kernel
theorem d_Fa_becomeResult_88 : decode c_Fa_becomeResult 88 = .ok (.return_, 1) := by decide +kernel
theorem d_Fa_productBits_0 : decode c_Fa_productBits 0 = .ok (.aload_n 0, 1) := by decide +kernel
theorem d_Fa_productBits_1 : decode c_Fa_productBits 1 = .ok (.getfield 9, 3) := by decide +kernel
theorem d_Fa_productBits_4 : decode c_Fa_productBits 4 = .ok (.aload_n 1, 1) := by decide +kernel
theorem d_Fa_productBits_5 : decode c_Fa_productBits 5 = .ok (.getfield 15, 3) := by decide +kernel
theorem d_Fa_productBits_8 : decode c_Fa_productBits 8 = .ok (.invokestatic 53, 3) := by decide +kernel
theorem d_Fa_productBits_11 : decode c_Fa_productBits 11 = .ok (.iadd, 1) := by decide +kernel
theorem d_Fa_productBits_12 : decode c_Fa_productBits 12 = .ok (.istore_n 2, 1) := by decide +kernel
theorem d_Fa_productBits_13 : decode c_Fa_productBits 13 = .ok (.aload_n 1, 1) := by decide +kernel
theorem d_Fa_productBits_14 : decode c_Fa_productBits 14 = .ok (.getfield 9, 3) := by decide +kernel
theorem d_Fa_productBits_17 : decode c_Fa_productBits 17 = .ok (.aload_n 0, 1) := by decide +kernel
theorem d_Fa_productBits_18 : decode c_Fa_productBits 18 = .ok (.getfield 15, 3) := by decide +kernel
theorem d_Fa_productBits_21 : decode c_Fa_productBits 21 = .ok (.invokestatic 53, 3) := by decide +kernel
theorem d_Fa_productBits_24 : decode c_Fa_productBits 24 = .ok (.iadd, 1) := by decide +kernel
theorem d_Fa_productBits_25 : decode c_Fa_productBits 25 = .ok (.istore_n 3, 1) := by decide +kernel
theorem d_Fa_productBits_26 : decode c_Fa_productBits 26 = .ok (.aload_n 0, 1) := by decide +kernel
theorem d_Fa_productBits_27 : decode c_Fa_productBits 27 = .ok (.getfield 9, 3) := by decide +kernel
theorem d_Fa_productBits_30 : decode c_Fa_productBits 30 = .ok (.aload_n 1, 1) := by decide +kernel
theorem d_Fa_productBits_31 : decode c_Fa_productBits 31 = .ok (.getfield 9, 3) := by decide +kernel
theorem d_Fa_productBits_34 : decode c_Fa_productBits 34 = .ok (.iadd, 1) := by decide +kernel
theorem d_Fa_productBits_35 : decode c_Fa_productBits 35 = .ok (.iload_n 2, 1) := by decide +kernel
theorem d_Fa_productBits_36 : decode c_Fa_productBits 36 = .ok (.iload_n 3, 1) := by decide +kernel
theorem d_Fa_productBits_37 : decode c_Fa_productBits 37 = .ok (.invokestatic 48, 3) := by decide +kernel
theorem d_Fa_productBits_40 : decode c_Fa_productBits 40 = .ok (.invokestatic 48, 3) := by decide +kernel
theorem d_Fa_productBits_43 : decode c_Fa_productBits 43 = .ok (.istore 4, 2) := by decide +kernel
theorem d_Fa_productBits_45 : decode c_Fa_productBits 45 = .ok (.iload 4, 2) := by decide +kernel
theorem d_Fa_productBits_47 : decode c_Fa_productBits 47 = .ok (.bipush 32, 2) := by decide +kernel
theorem d_Fa_productBits_49 : decode c_Fa_productBits 49 = .ok (.if_icmp .lt 8, 3) := by decide +kernel
theorem d_Fa_productBits_52 : decode c_Fa_productBits 52 = .ok (.bipush 32, 2) := by decide +kernel
theorem d_Fa_productBits_54 : decode c_Fa_productBits 54 = .ok (.goto 10, 3) := by decide +kernel
theorem d_Fa_productBits_57 : decode c_Fa_productBits 57 = .ok (.bipush 16, 2) := by decide +kernel
theorem d_Fa_productBits_59 : decode c_Fa_productBits 59 = .ok (.iload 4, 2) := by decide +kernel
theorem d_Fa_productBits_61 : decode c_Fa_productBits 61 = .ok (.invokestatic 48, 3) := by decide +kernel
theorem d_Fa_productBits_64 : decode c_Fa_productBits 64 = .ok (.ireturn, 1) := by decide +kernel
theorem d_Fa_otherBits_0 : decode c_Fa_otherBits 0 = .ok (.aload_n 1, 1) := by decide +kernel
theorem d_Fa_otherBits_1 : decode c_Fa_otherBits 1 = .ok (.getfield 9, 3) := by decide +kernel
theorem d_Fa_otherBits_4 : decode c_Fa_otherBits 4 = .ok (.aload_n 2, 1) := by decide +kernel
theorem d_Fa_otherBits_5 : decode c_Fa_otherBits 5 = .ok (.getfield 9, 3) := by decide +kernel
theorem d_Fa_otherBits_8 : decode c_Fa_otherBits 8 = .ok (.invokestatic 48, 3) := by decide +kernel
theorem d_Fa_otherBits_11 : decode c_Fa_otherBits 11 = .ok (.istore_n 3, 1) := by decide +kernel
theorem d_Fa_otherBits_12 : decode c_Fa_otherBits 12 = .ok (.iload_n 0, 1) := by decide +kernel
theorem d_Fa_otherBits_13 : decode c_Fa_otherBits 13 = .ok (.iconst 5, 1) := by decide +kernel
theorem d_Fa_otherBits_14 : decode c_Fa_otherBits 14 = .ok (.if_icmp .ne 13, 3) := by decide +kernel
theorem d_Fa_otherBits_17 : decode c_Fa_otherBits 17 = .ok (.iload_n 3, 1) := by decide +kernel
theorem d_Fa_otherBits_18 : decode c_Fa_otherBits 18 = .ok (.bipush 32, 2) := by decide +kernel
theorem d_Fa_otherBits_20 : decode c_Fa_otherBits 20 = .ok (.if_icmp .eq 7, 3) := by decide +kernel
theorem d_Fa_otherBits_23 : decode c_Fa_otherBits 23 = .ok (.iconst 0, 1) := by decide +kernel
theorem d_Fa_otherBits_24 : decode c_Fa_otherBits 24 = .ok (.goto 4, 3) := by decide +kernel
theorem d_Fa_otherBits_27 : decode c_Fa_otherBits 27 = .ok (.iload_n 3, 1) := by decide +kernel
theorem d_Fa_otherBits_28 : decode c_Fa_otherBits 28 = .ok (.ireturn, 1) := by decide +kernel
theorem d_Ff_calculated_0 : decode c_Ff_calculated 0 = .ok (.iload_n 0, 1) := by decide +kernel
theorem d_Ff_calculated_1 : decode c_Ff_calculated 1 = .ok (.tableswitch 39 2 4 #[27, 31, 35], 27) := by decide +kernel
theorem d_Ff_calculated_28 : decode c_Ff_calculated 28 = .ok (.iload_n 1, 1) := by decide +kernel
theorem d_Ff_calculated_29 : decode c_Ff_calculated 29 = .ok (.iload_n 2, 1) := by decide +kernel
theorem d_Ff_calculated_30 : decode c_Ff_calculated 30 = .ok (.iadd, 1) := by decide +kernel
theorem d_Ff_calculated_31 : decode c_Ff_calculated 31 = .ok (.ireturn, 1) := by decide +kernel
theorem d_Ff_calculated_32 : decode c_Ff_calculated 32 = .ok (.iload_n 1, 1) := by decide +kernel
theorem d_Ff_calculated_33 : decode c_Ff_calculated 33 = .ok (.iload_n 2, 1) := by decide +kernel
theorem d_Ff_calculated_34 : decode c_Ff_calculated 34 = .ok (.isub, 1) := by decide +kernel
theorem d_Ff_calculated_35 : decode c_Ff_calculated 35 = .ok (.ireturn, 1) := by decide +kernel
theorem d_Ff_calculated_36 : decode c_Ff_calculated 36 = .ok (.iload_n 1, 1) := by decide +kernel
theorem d_Ff_calculated_37 : decode c_Ff_calculated 37 = .ok (.iload_n 2, 1) := by decide +kernel
theorem d_Ff_calculated_38 : decode c_Ff_calculated 38 = .ok (.imul, 1) := by decide +kernel
theorem d_Ff_calculated_39 : decode c_Ff_calculated 39 = .ok (.ireturn, 1) := by decide +kernel
theorem d_Ff_calculated_40 : decode c_Ff_calculated 40 = .ok (.iload_n 2, 1) := by decide +kernel
theorem d_Ff_calculated_41 : decode c_Ff_calculated 41 = .ok (.ifCond .ne 7, 3) := by decide +kernel
theorem d_Ff_calculated_44 : decode c_Ff_calculated 44 = .ok (.iconst 0, 1) := by decide +kernel
theorem d_Ff_calculated_45 : decode c_Ff_calculated 45 = .ok (.goto 6, 3) := by decide +kernel
theorem d_Ff_calculated_48 : decode c_Ff_calculated 48 = .ok (.iload_n 1, 1) := by decide +kernel
theorem d_Ff_calculated_49 : decode c_Ff_calculated 49 = .ok (.iload_n 2, 1) := by decide +kernel
theorem d_Ff_calculated_50 : decode c_Ff_calculated 50 = .ok (.idiv, 1) := by decide +kernel
theorem d_Ff_calculated_51 : decode c_Ff_calculated 51 = .ok (.ireturn, 1) := by decide +kernel
theorem d_Fa_signTable_0 : decode c_Fa_signTable 0 = .ok (.iload_n 0, 1) := by decide +kernel
theorem d_Fa_signTable_1 : decode c_Fa_signTable 1 = .ok (.tableswitch 39 2 4 #[27, 31, 35], 27) := by decide +kernel
theorem d_Fa_signTable_28 : decode c_Fa_signTable 28 = .ok (.getstatic 59, 3) := by decide +kernel
theorem d_Fa_signTable_31 : decode c_Fa_signTable 31 = .ok (.areturn, 1) := by decide +kernel
theorem d_Fa_signTable_32 : decode c_Fa_signTable 32 = .ok (.getstatic 63, 3) := by decide +kernel
theorem d_Fa_signTable_35 : decode c_Fa_signTable 35 = .ok (.areturn, 1) := by decide +kernel
theorem d_Fa_signTable_36 : decode c_Fa_signTable 36 = .ok (.getstatic 66, 3) := by decide +kernel
theorem d_Fa_signTable_39 : decode c_Fa_signTable 39 = .ok (.areturn, 1) := by decide +kernel
theorem d_Fa_signTable_40 : decode c_Fa_signTable 40 = .ok (.getstatic 69, 3) := by decide +kernel
theorem d_Fa_signTable_43 : decode c_Fa_signTable 43 = .ok (.areturn, 1) := by decide +kernel
theorem d_Fa_resultSigns_0 : decode c_Fa_resultSigns 0 = .ok (.iconst 0, 1) := by decide +kernel
theorem d_Fa_resultSigns_1 : decode c_Fa_resultSigns 1 = .ok (.istore_n 3, 1) := by decide +kernel
theorem d_Fa_resultSigns_2 : decode c_Fa_resultSigns 2 = .ok (.iconst 0, 1) := by decide +kernel
theorem d_Fa_resultSigns_3 : decode c_Fa_resultSigns 3 = .ok (.istore 4, 2) := by decide +kernel
theorem d_Fa_resultSigns_5 : decode c_Fa_resultSigns 5 = .ok (.iload 4, 2) := by decide +kernel
theorem d_Fa_resultSigns_7 : decode c_Fa_resultSigns 7 = .ok (.iconst 3, 1) := by decide +kernel
theorem d_Fa_resultSigns_8 : decode c_Fa_resultSigns 8 = .ok (.if_icmp .ge 50, 3) := by decide +kernel
theorem d_Fa_resultSigns_11 : decode c_Fa_resultSigns 11 = .ok (.iconst 0, 1) := by decide +kernel
theorem d_Fa_resultSigns_12 : decode c_Fa_resultSigns 12 = .ok (.istore 5, 2) := by decide +kernel
theorem d_Fa_resultSigns_14 : decode c_Fa_resultSigns 14 = .ok (.iload 5, 2) := by decide +kernel
theorem d_Fa_resultSigns_16 : decode c_Fa_resultSigns 16 = .ok (.iconst 3, 1) := by decide +kernel
theorem d_Fa_resultSigns_17 : decode c_Fa_resultSigns 17 = .ok (.if_icmp .ge 35, 3) := by decide +kernel
theorem d_Fa_resultSigns_20 : decode c_Fa_resultSigns 20 = .ok (.iload_n 1, 1) := by decide +kernel
theorem d_Fa_resultSigns_21 : decode c_Fa_resultSigns 21 = .ok (.iload 4, 2) := by decide +kernel
theorem d_Fa_resultSigns_23 : decode c_Fa_resultSigns 23 = .ok (.ishr, 1) := by decide +kernel
theorem d_Fa_resultSigns_24 : decode c_Fa_resultSigns 24 = .ok (.iload_n 2, 1) := by decide +kernel
theorem d_Fa_resultSigns_25 : decode c_Fa_resultSigns 25 = .ok (.iload 5, 2) := by decide +kernel
theorem d_Fa_resultSigns_27 : decode c_Fa_resultSigns 27 = .ok (.ishr, 1) := by decide +kernel
theorem d_Fa_resultSigns_28 : decode c_Fa_resultSigns 28 = .ok (.iand, 1) := by decide +kernel
theorem d_Fa_resultSigns_29 : decode c_Fa_resultSigns 29 = .ok (.iconst 1, 1) := by decide +kernel
theorem d_Fa_resultSigns_30 : decode c_Fa_resultSigns 30 = .ok (.iand, 1) := by decide +kernel
theorem d_Fa_resultSigns_31 : decode c_Fa_resultSigns 31 = .ok (.ifCond .eq 15, 3) := by decide +kernel
theorem d_Fa_resultSigns_34 : decode c_Fa_resultSigns 34 = .ok (.iload_n 3, 1) := by decide +kernel
theorem d_Fa_resultSigns_35 : decode c_Fa_resultSigns 35 = .ok (.aload_n 0, 1) := by decide +kernel
theorem d_Fa_resultSigns_36 : decode c_Fa_resultSigns 36 = .ok (.iconst 3, 1) := by decide +kernel
theorem d_Fa_resultSigns_37 : decode c_Fa_resultSigns 37 = .ok (.iload 4, 2) := by decide +kernel
theorem d_Fa_resultSigns_39 : decode c_Fa_resultSigns 39 = .ok (.imul, 1) := by decide +kernel
theorem d_Fa_resultSigns_40 : decode c_Fa_resultSigns 40 = .ok (.iload 5, 2) := by decide +kernel
theorem d_Fa_resultSigns_42 : decode c_Fa_resultSigns 42 = .ok (.iadd, 1) := by decide +kernel
theorem d_Fa_resultSigns_43 : decode c_Fa_resultSigns 43 = .ok (.iaload, 1) := by decide +kernel
theorem d_Fa_resultSigns_44 : decode c_Fa_resultSigns 44 = .ok (.ior, 1) := by decide +kernel
theorem d_Fa_resultSigns_45 : decode c_Fa_resultSigns 45 = .ok (.istore_n 3, 1) := by decide +kernel
theorem d_Fa_resultSigns_46 : decode c_Fa_resultSigns 46 = .ok (.iinc 5 1, 3) := by decide +kernel
theorem d_Fa_resultSigns_49 : decode c_Fa_resultSigns 49 = .ok (.goto (-35), 3) := by decide +kernel
theorem d_Fa_resultSigns_52 : decode c_Fa_resultSigns 52 = .ok (.iinc 4 1, 3) := by decide +kernel
theorem d_Fa_resultSigns_55 : decode c_Fa_resultSigns 55 = .ok (.goto (-50), 3) := by decide +kernel
theorem d_Fa_resultSigns_58 : decode c_Fa_resultSigns 58 = .ok (.iload_n 3, 1) := by decide +kernel
theorem d_Fa_resultSigns_59 : decode c_Fa_resultSigns 59 = .ok (.ireturn, 1) := by decide +kernel
theorem d_Fa_becomeAnything_0 : decode c_Fa_becomeAnything 0 = .ok (.aload_n 0, 1) := by decide +kernel
theorem d_Fa_becomeAnything_1 : decode c_Fa_becomeAnything 1 = .ok (.iconst 0, 1) := by decide +kernel
theorem d_Fa_becomeAnything_2 : decode c_Fa_becomeAnything 2 = .ok (.putfield 9, 3) := by decide +kernel
theorem d_Fa_becomeAnything_5 : decode c_Fa_becomeAnything 5 = .ok (.aload_n 0, 1) := by decide +kernel
theorem d_Fa_becomeAnything_6 : decode c_Fa_becomeAnything 6 = .ok (.iconst 0, 1) := by decide +kernel
theorem d_Fa_becomeAnything_7 : decode c_Fa_becomeAnything 7 = .ok (.putfield 15, 3) := by decide +kernel
theorem d_Fa_becomeAnything_10 : decode c_Fa_becomeAnything 10 = .ok (.aload_n 0, 1) := by decide +kernel
theorem d_Fa_becomeAnything_11 : decode c_Fa_becomeAnything 11 = .ok (.bipush 7, 2) := by decide +kernel
theorem d_Fa_becomeAnything_13 : decode c_Fa_becomeAnything 13 = .ok (.putfield 18, 3) := by decide +kernel
theorem d_Fa_becomeAnything_16 : decode c_Fa_becomeAnything 16 = .ok (.return_, 1) := by decide +kernel
theorem d_Ff_comesTo_0 : decode c_Ff_comesTo 0 = .ok (.aload_n 0, 1) := by decide +kernel
theorem d_Ff_comesTo_1 : decode c_Ff_comesTo 1 = .ok (.getfield 12, 3) := by decide +kernel
theorem d_Ff_comesTo_4 : decode c_Ff_comesTo 4 = .ok (.iload_n 1, 1) := by decide +kernel
theorem d_Ff_comesTo_5 : decode c_Ff_comesTo 5 = .ok (.invokevirtual 59, 3) := by decide +kernel
theorem d_Ff_comesTo_8 : decode c_Ff_comesTo 8 = .ok (.ifCond .eq 22, 3) := by decide +kernel
theorem d_Ff_comesTo_11 : decode c_Ff_comesTo 11 = .ok (.aload_n 0, 1) := by decide +kernel
theorem d_Ff_comesTo_12 : decode c_Ff_comesTo 12 = .ok (.getfield 19, 3) := by decide +kernel
theorem d_Ff_comesTo_15 : decode c_Ff_comesTo 15 = .ok (.getfield 77, 3) := by decide +kernel
theorem d_Ff_comesTo_18 : decode c_Ff_comesTo 18 = .ok (.iload_n 1, 1) := by decide +kernel
theorem d_Ff_comesTo_19 : decode c_Ff_comesTo 19 = .ok (.aaload, 1) := by decide +kernel
theorem d_Ff_comesTo_20 : decode c_Ff_comesTo 20 = .ok (.getfield 126, 3) := by decide +kernel
theorem d_Ff_comesTo_23 : decode c_Ff_comesTo 23 = .ok (.ifCond .ne 7, 3) := by decide +kernel
theorem d_Ff_comesTo_26 : decode c_Ff_comesTo 26 = .ok (.iconst 1, 1) := by decide +kernel
theorem d_Ff_comesTo_27 : decode c_Ff_comesTo 27 = .ok (.goto 4, 3) := by decide +kernel
theorem d_Ff_comesTo_30 : decode c_Ff_comesTo 30 = .ok (.iconst 0, 1) := by decide +kernel
theorem d_Ff_comesTo_31 : decode c_Ff_comesTo 31 = .ok (.ireturn, 1) := by decide +kernel
theorem d_Ff_bits_0 : decode c_Ff_bits 0 = .ok (.aload_n 0, 1) := by decide +kernel
theorem d_Ff_bits_1 : decode c_Ff_bits 1 = .ok (.getfield 19, 3) := by decide +kernel
theorem d_Ff_bits_4 : decode c_Ff_bits 4 = .ok (.aload_n 0, 1) := by decide +kernel
theorem d_Ff_bits_5 : decode c_Ff_bits 5 = .ok (.getfield 12, 3) := by decide +kernel
theorem d_Ff_bits_8 : decode c_Ff_bits 8 = .ok (.invokevirtual 67, 3) := by decide +kernel
theorem d_Ff_bits_11 : decode c_Ff_bits 11 = .ok (.iload_n 2, 1) := by decide +kernel
theorem d_Ff_bits_12 : decode c_Ff_bits 12 = .ok (.invokestatic 74, 3) := by decide +kernel
theorem d_Ff_bits_15 : decode c_Ff_bits 15 = .ok (.ifCond .eq 31, 3) := by decide +kernel
theorem d_Ff_bits_18 : decode c_Ff_bits 18 = .ok (.aload_n 0, 1) := by decide +kernel
theorem d_Ff_bits_19 : decode c_Ff_bits 19 = .ok (.iload_n 1, 1) := by decide +kernel
theorem d_Ff_bits_20 : decode c_Ff_bits 20 = .ok (.invokevirtual 71, 3) := by decide +kernel
theorem d_Ff_bits_23 : decode c_Ff_bits 23 = .ok (.ifCond .eq 23, 3) := by decide +kernel
theorem d_Ff_bits_26 : decode c_Ff_bits 26 = .ok (.aload_n 0, 1) := by decide +kernel
theorem d_Ff_bits_27 : decode c_Ff_bits 27 = .ok (.getfield 19, 3) := by decide +kernel
theorem d_Ff_bits_30 : decode c_Ff_bits 30 = .ok (.getfield 77, 3) := by decide +kernel
theorem d_Ff_bits_33 : decode c_Ff_bits 33 = .ok (.iload_n 1, 1) := by decide +kernel
theorem d_Ff_bits_34 : decode c_Ff_bits 34 = .ok (.aaload, 1) := by decide +kernel
theorem d_Ff_bits_35 : decode c_Ff_bits 35 = .ok (.getfield 81, 3) := by decide +kernel
theorem d_Ff_bits_38 : decode c_Ff_bits 38 = .ok (.iload_n 2, 1) := by decide +kernel
theorem d_Ff_bits_39 : decode c_Ff_bits 39 = .ok (.aaload, 1) := by decide +kernel
theorem d_Ff_bits_40 : decode c_Ff_bits 40 = .ok (.getfield 87, 3) := by decide +kernel
theorem d_Ff_bits_43 : decode c_Ff_bits 43 = .ok (.goto 4, 3) := by decide +kernel
theorem d_Ff_bits_46 : decode c_Ff_bits 46 = .ok (.iconst (-1), 1) := by decide +kernel
theorem d_Ff_bits_47 : decode c_Ff_bits 47 = .ok (.ireturn, 1) := by decide +kernel
theorem d_Ff_rest_0 : decode c_Ff_rest 0 = .ok (.aload_n 0, 1) := by decide +kernel
theorem d_Ff_rest_1 : decode c_Ff_rest 1 = .ok (.getfield 19, 3) := by decide +kernel
theorem d_Ff_rest_4 : decode c_Ff_rest 4 = .ok (.aload_n 0, 1) := by decide +kernel
theorem d_Ff_rest_5 : decode c_Ff_rest 5 = .ok (.getfield 12, 3) := by decide +kernel
theorem d_Ff_rest_8 : decode c_Ff_rest 8 = .ok (.invokevirtual 67, 3) := by decide +kernel
theorem d_Ff_rest_11 : decode c_Ff_rest 11 = .ok (.iload_n 2, 1) := by decide +kernel
theorem d_Ff_rest_12 : decode c_Ff_rest 12 = .ok (.invokestatic 74, 3) := by decide +kernel
theorem d_Ff_rest_15 : decode c_Ff_rest 15 = .ok (.ifCond .eq 31, 3) := by decide +kernel
theorem d_Ff_rest_18 : decode c_Ff_rest 18 = .ok (.aload_n 0, 1) := by decide +kernel
theorem d_Ff_rest_19 : decode c_Ff_rest 19 = .ok (.iload_n 1, 1) := by decide +kernel
theorem d_Ff_rest_20 : decode c_Ff_rest 20 = .ok (.invokevirtual 71, 3) := by decide +kernel
theorem d_Ff_rest_23 : decode c_Ff_rest 23 = .ok (.ifCond .eq 23, 3) := by decide +kernel
theorem d_Ff_rest_26 : decode c_Ff_rest 26 = .ok (.aload_n 0, 1) := by decide +kernel
theorem d_Ff_rest_27 : decode c_Ff_rest 27 = .ok (.getfield 19, 3) := by decide +kernel
theorem d_Ff_rest_30 : decode c_Ff_rest 30 = .ok (.getfield 77, 3) := by decide +kernel
theorem d_Ff_rest_33 : decode c_Ff_rest 33 = .ok (.iload_n 1, 1) := by decide +kernel
theorem d_Ff_rest_34 : decode c_Ff_rest 34 = .ok (.aaload, 1) := by decide +kernel
theorem d_Ff_rest_35 : decode c_Ff_rest 35 = .ok (.getfield 81, 3) := by decide +kernel
theorem d_Ff_rest_38 : decode c_Ff_rest 38 = .ok (.iload_n 2, 1) := by decide +kernel
theorem d_Ff_rest_39 : decode c_Ff_rest 39 = .ok (.aaload, 1) := by decide +kernel
theorem d_Ff_rest_40 : decode c_Ff_rest 40 = .ok (.getfield 92, 3) := by decide +kernel
theorem d_Ff_rest_43 : decode c_Ff_rest 43 = .ok (.goto 4, 3) := by decide +kernel
theorem d_Ff_rest_46 : decode c_Ff_rest 46 = .ok (.iconst 0, 1) := by decide +kernel
theorem d_Ff_rest_47 : decode c_Ff_rest 47 = .ok (.ireturn, 1) := by decide +kernel
theorem d_Ff_signs_0 : decode c_Ff_signs 0 = .ok (.aload_n 0, 1) := by decide +kernel
theorem d_Ff_signs_1 : decode c_Ff_signs 1 = .ok (.getfield 19, 3) := by decide +kernel
theorem d_Ff_signs_4 : decode c_Ff_signs 4 = .ok (.aload_n 0, 1) := by decide +kernel
theorem d_Ff_signs_5 : decode c_Ff_signs 5 = .ok (.getfield 12, 3) := by decide +kernel
theorem d_Ff_signs_8 : decode c_Ff_signs 8 = .ok (.invokevirtual 67, 3) := by decide +kernel
theorem d_Ff_signs_11 : decode c_Ff_signs 11 = .ok (.iload_n 2, 1) := by decide +kernel
theorem d_Ff_signs_12 : decode c_Ff_signs 12 = .ok (.invokestatic 74, 3) := by decide +kernel
theorem d_Ff_signs_15 : decode c_Ff_signs 15 = .ok (.ifCond .eq 31, 3) := by decide +kernel
theorem d_Ff_signs_18 : decode c_Ff_signs 18 = .ok (.aload_n 0, 1) := by decide +kernel
theorem d_Ff_signs_19 : decode c_Ff_signs 19 = .ok (.iload_n 1, 1) := by decide +kernel
theorem d_Ff_signs_20 : decode c_Ff_signs 20 = .ok (.invokevirtual 71, 3) := by decide +kernel
theorem d_Ff_signs_23 : decode c_Ff_signs 23 = .ok (.ifCond .eq 23, 3) := by decide +kernel
theorem d_Ff_signs_26 : decode c_Ff_signs 26 = .ok (.aload_n 0, 1) := by decide +kernel
theorem d_Ff_signs_27 : decode c_Ff_signs 27 = .ok (.getfield 19, 3) := by decide +kernel
theorem d_Ff_signs_30 : decode c_Ff_signs 30 = .ok (.getfield 77, 3) := by decide +kernel
theorem d_Ff_signs_33 : decode c_Ff_signs 33 = .ok (.iload_n 1, 1) := by decide +kernel
theorem d_Ff_signs_34 : decode c_Ff_signs 34 = .ok (.aaload, 1) := by decide +kernel
theorem d_Ff_signs_35 : decode c_Ff_signs 35 = .ok (.getfield 81, 3) := by decide +kernel
theorem d_Ff_signs_38 : decode c_Ff_signs 38 = .ok (.iload_n 2, 1) := by decide +kernel
theorem d_Ff_signs_39 : decode c_Ff_signs 39 = .ok (.aaload, 1) := by decide +kernel
theorem d_Ff_signs_40 : decode c_Ff_signs 40 = .ok (.getfield 95, 3) := by decide +kernel
theorem d_Ff_signs_43 : decode c_Ff_signs 43 = .ok (.goto 4, 3) := by decide +kernel
theorem d_Ff_signs_46 : decode c_Ff_signs 46 = .ok (.iconst 0, 1) := by decide +kernel
theorem d_Ff_signs_47 : decode c_Ff_signs 47 = .ok (.ireturn, 1) := by decide +kernel
theorem d_Ff_rewrite_0 : decode c_Ff_rewrite 0 = .ok (.aload_n 0, 1) := by decide +kernel
theorem d_Ff_rewrite_1 : decode c_Ff_rewrite 1 = .ok (.getfield 19, 3) := by decide +kernel
theorem d_Ff_rewrite_4 : decode c_Ff_rewrite 4 = .ok (.aload_n 0, 1) := by decide +kernel
theorem d_Ff_rewrite_5 : decode c_Ff_rewrite 5 = .ok (.getfield 12, 3) := by decide +kernel
theorem d_Ff_rewrite_8 : decode c_Ff_rewrite 8 = .ok (.invokevirtual 67, 3) := by decide +kernel
theorem d_Ff_rewrite_11 : decode c_Ff_rewrite 11 = .ok (.iconst 0, 1) := by decide +kernel
theorem d_Ff_rewrite_12 : decode c_Ff_rewrite 12 = .ok (.istore_n 1, 1) := by decide +kernel
theorem d_Ff_rewrite_13 : decode c_Ff_rewrite 13 = .ok (.iconst 0, 1) := by decide +kernel
theorem d_Ff_rewrite_14 : decode c_Ff_rewrite 14 = .ok (.istore_n 2, 1) := by decide +kernel
theorem d_Ff_rewrite_15 : decode c_Ff_rewrite 15 = .ok (.iload_n 2, 1) := by decide +kernel
theorem d_Ff_rewrite_16 : decode c_Ff_rewrite 16 = .ok (.aload_n 0, 1) := by decide +kernel
theorem d_Ff_rewrite_17 : decode c_Ff_rewrite 17 = .ok (.getfield 12, 3) := by decide +kernel
theorem d_Ff_rewrite_20 : decode c_Ff_rewrite 20 = .ok (.getfield 43, 3) := by decide +kernel
theorem d_Ff_rewrite_23 : decode c_Ff_rewrite 23 = .ok (.if_icmp .ge 32, 3) := by decide +kernel
theorem d_Ff_rewrite_26 : decode c_Ff_rewrite 26 = .ok (.aload_n 0, 1) := by decide +kernel
theorem d_Ff_rewrite_27 : decode c_Ff_rewrite 27 = .ok (.getfield 12, 3) := by decide +kernel
theorem d_Ff_rewrite_30 : decode c_Ff_rewrite 30 = .ok (.iload_n 2, 1) := by decide +kernel
theorem d_Ff_rewrite_31 : decode c_Ff_rewrite 31 = .ok (.aload_n 0, 1) := by decide +kernel
theorem d_Ff_rewrite_32 : decode c_Ff_rewrite 32 = .ok (.getfield 19, 3) := by decide +kernel
theorem d_Ff_rewrite_35 : decode c_Ff_rewrite 35 = .ok (.getfield 77, 3) := by decide +kernel
theorem d_Ff_rewrite_38 : decode c_Ff_rewrite 38 = .ok (.iload_n 2, 1) := by decide +kernel
theorem d_Ff_rewrite_39 : decode c_Ff_rewrite 39 = .ok (.aaload, 1) := by decide +kernel
theorem d_Ff_rewrite_40 : decode c_Ff_rewrite 40 = .ok (.invokevirtual 98, 3) := by decide +kernel
theorem d_Ff_rewrite_43 : decode c_Ff_rewrite 43 = .ok (.ifCond .eq 6, 3) := by decide +kernel
theorem d_Ff_rewrite_46 : decode c_Ff_rewrite 46 = .ok (.iinc 1 1, 3) := by decide +kernel
theorem d_Ff_rewrite_49 : decode c_Ff_rewrite 49 = .ok (.iinc 2 1, 3) := by decide +kernel
theorem d_Ff_rewrite_52 : decode c_Ff_rewrite 52 = .ok (.goto (-37), 3) := by decide +kernel
theorem d_Ff_rewrite_55 : decode c_Ff_rewrite 55 = .ok (.aload_n 0, 1) := by decide +kernel
theorem d_Ff_rewrite_56 : decode c_Ff_rewrite 56 = .ok (.getfield 19, 3) := by decide +kernel
theorem d_Ff_rewrite_59 : decode c_Ff_rewrite 59 = .ok (.iload_n 1, 1) := by decide +kernel
theorem d_Ff_rewrite_60 : decode c_Ff_rewrite 60 = .ok (.ifCond .ne 7, 3) := by decide +kernel
theorem d_Ff_rewrite_63 : decode c_Ff_rewrite 63 = .ok (.iconst 1, 1) := by decide +kernel
theorem d_Ff_rewrite_64 : decode c_Ff_rewrite 64 = .ok (.goto 4, 3) := by decide +kernel
theorem d_Ff_rewrite_67 : decode c_Ff_rewrite 67 = .ok (.iconst 0, 1) := by decide +kernel
theorem d_Ff_rewrite_68 : decode c_Ff_rewrite 68 = .ok (.putfield 55, 3) := by decide +kernel
theorem d_Ff_rewrite_71 : decode c_Ff_rewrite 71 = .ok (.iload_n 1, 1) := by decide +kernel
theorem d_Ff_rewrite_72 : decode c_Ff_rewrite 72 = .ok (.ireturn, 1) := by decide +kernel
theorem d_Pr_improve_0 : decode c_Pr_improve 0 = .ok (.aload_n 0, 1) := by decide +kernel
theorem d_Pr_improve_1 : decode c_Pr_improve 1 = .ok (.getfield 11, 3) := by decide +kernel
theorem d_Pr_improve_4 : decode c_Pr_improve 4 = .ok (.iload_n 1, 1) := by decide +kernel
theorem d_Pr_improve_5 : decode c_Pr_improve 5 = .ok (.aaload, 1) := by decide +kernel
theorem d_Pr_improve_6 : decode c_Pr_improve 6 = .ok (.astore_n 3, 1) := by decide +kernel
theorem d_Pr_improve_7 : decode c_Pr_improve 7 = .ok (.aload_n 2, 1) := by decide +kernel
theorem d_Pr_improve_8 : decode c_Pr_improve 8 = .ok (.getfield 29, 3) := by decide +kernel
theorem d_Pr_improve_11 : decode c_Pr_improve 11 = .ok (.ifCond .eq 8, 3) := by decide +kernel
theorem d_Pr_improve_14 : decode c_Pr_improve 14 = .ok (.aload_n 3, 1) := by decide +kernel
theorem d_Pr_improve_15 : decode c_Pr_improve 15 = .ok (.invokestatic 35, 3) := by decide +kernel
theorem d_Pr_improve_18 : decode c_Pr_improve 18 = .ok (.ireturn, 1) := by decide +kernel
theorem d_Pr_improve_19 : decode c_Pr_improve 19 = .ok (.aload_n 3, 1) := by decide +kernel
theorem d_Pr_improve_20 : decode c_Pr_improve 20 = .ok (.getfield 39, 3) := by decide +kernel
theorem d_Pr_improve_23 : decode c_Pr_improve 23 = .ok (.bipush 7, 2) := by decide +kernel
theorem d_Pr_improve_25 : decode c_Pr_improve 25 = .ok (.if_icmp .eq 12, 3) := by decide +kernel
theorem d_Pr_improve_28 : decode c_Pr_improve 28 = .ok (.aload_n 3, 1) := by decide +kernel
theorem d_Pr_improve_29 : decode c_Pr_improve 29 = .ok (.getfield 39, 3) := by decide +kernel
theorem d_Pr_improve_32 : decode c_Pr_improve 32 = .ok (.bipush 8, 2) := by decide +kernel
theorem d_Pr_improve_34 : decode c_Pr_improve 34 = .ok (.if_icmp .ne 23, 3) := by decide +kernel
theorem d_Pr_improve_37 : decode c_Pr_improve 37 = .ok (.aload_n 3, 1) := by decide +kernel
theorem d_Pr_improve_38 : decode c_Pr_improve 38 = .ok (.aload_n 2, 1) := by decide +kernel
theorem d_Pr_improve_39 : decode c_Pr_improve 39 = .ok (.getfield 42, 3) := by decide +kernel
theorem d_Pr_improve_42 : decode c_Pr_improve 42 = .ok (.aload_n 3, 1) := by decide +kernel
theorem d_Pr_improve_43 : decode c_Pr_improve 43 = .ok (.getfield 46, 3) := by decide +kernel
theorem d_Pr_improve_46 : decode c_Pr_improve 46 = .ok (.aaload, 1) := by decide +kernel
theorem d_Pr_improve_47 : decode c_Pr_improve 47 = .ok (.getfield 49, 3) := by decide +kernel
theorem d_Pr_improve_50 : decode c_Pr_improve 50 = .ok (.iload_n 1, 1) := by decide +kernel
theorem d_Pr_improve_51 : decode c_Pr_improve 51 = .ok (.iconst 1, 1) := by decide +kernel
theorem d_Pr_improve_52 : decode c_Pr_improve 52 = .ok (.iadd, 1) := by decide +kernel
theorem d_Pr_improve_53 : decode c_Pr_improve 53 = .ok (.invokestatic 52, 3) := by decide +kernel
theorem d_Pr_improve_56 : decode c_Pr_improve 56 = .ok (.ireturn, 1) := by decide +kernel
theorem d_Pr_improve_57 : decode c_Pr_improve 57 = .ok (.aload_n 3, 1) := by decide +kernel
theorem d_Pr_improve_58 : decode c_Pr_improve 58 = .ok (.getfield 39, 3) := by decide +kernel
theorem d_Pr_improve_61 : decode c_Pr_improve 61 = .ok (.iconst 1, 1) := by decide +kernel
theorem d_Pr_improve_62 : decode c_Pr_improve 62 = .ok (.if_icmp .ne 17, 3) := by decide +kernel
theorem d_Pr_improve_65 : decode c_Pr_improve 65 = .ok (.aload_n 3, 1) := by decide +kernel
theorem d_Pr_improve_66 : decode c_Pr_improve 66 = .ok (.aload_n 2, 1) := by decide +kernel
theorem d_Pr_improve_67 : decode c_Pr_improve 67 = .ok (.getfield 42, 3) := by decide +kernel
theorem d_Pr_improve_70 : decode c_Pr_improve 70 = .ok (.aload_n 3, 1) := by decide +kernel
theorem d_Pr_improve_71 : decode c_Pr_improve 71 = .ok (.getfield 56, 3) := by decide +kernel
theorem d_Pr_improve_74 : decode c_Pr_improve 74 = .ok (.aaload, 1) := by decide +kernel
theorem d_Pr_improve_75 : decode c_Pr_improve 75 = .ok (.invokestatic 59, 3) := by decide +kernel
theorem d_Pr_improve_78 : decode c_Pr_improve 78 = .ok (.ireturn, 1) := by decide +kernel
theorem d_Pr_improve_79 : decode c_Pr_improve 79 = .ok (.aload_n 3, 1) := by decide +kernel
theorem d_Pr_improve_80 : decode c_Pr_improve 80 = .ok (.getfield 39, 3) := by decide +kernel
theorem d_Pr_improve_83 : decode c_Pr_improve 83 = .ok (.invokestatic 63, 3) := by decide +kernel
theorem d_Pr_improve_86 : decode c_Pr_improve 86 = .ok (.ifCond .ne 5, 3) := by decide +kernel
theorem d_Pr_improve_89 : decode c_Pr_improve 89 = .ok (.iconst 0, 1) := by decide +kernel
theorem d_Pr_improve_90 : decode c_Pr_improve 90 = .ok (.ireturn, 1) := by decide +kernel
theorem d_Pr_improve_91 : decode c_Pr_improve 91 = .ok (.aload_n 3, 1) := by decide +kernel
theorem d_Pr_improve_92 : decode c_Pr_improve 92 = .ok (.getfield 39, 3) := by decide +kernel
theorem d_Pr_improve_95 : decode c_Pr_improve 95 = .ok (.iconst 5, 1) := by decide +kernel
theorem d_Pr_improve_96 : decode c_Pr_improve 96 = .ok (.if_icmp .ne 22, 3) := by decide +kernel
theorem d_Pr_improve_99 : decode c_Pr_improve 99 = .ok (.aload_n 2, 1) := by decide +kernel
theorem d_Pr_improve_100 : decode c_Pr_improve 100 = .ok (.getfield 42, 3) := by decide +kernel
theorem d_Pr_improve_103 : decode c_Pr_improve 103 = .ok (.aload_n 3, 1) := by decide +kernel
theorem d_Pr_improve_104 : decode c_Pr_improve 104 = .ok (.getfield 67, 3) := by decide +kernel
theorem d_Pr_improve_107 : decode c_Pr_improve 107 = .ok (.aaload, 1) := by decide +kernel
theorem d_Pr_improve_108 : decode c_Pr_improve 108 = .ok (.getfield 49, 3) := by decide +kernel
theorem d_Pr_improve_111 : decode c_Pr_improve 111 = .ok (.iconst 2, 1) := by decide +kernel
theorem d_Pr_improve_112 : decode c_Pr_improve 112 = .ok (.iand, 1) := by decide +kernel
theorem d_Pr_improve_113 : decode c_Pr_improve 113 = .ok (.ifCond .eq 5, 3) := by decide +kernel
theorem d_Pr_improve_116 : decode c_Pr_improve 116 = .ok (.iconst 0, 1) := by decide +kernel
theorem d_Pr_improve_117 : decode c_Pr_improve 117 = .ok (.ireturn, 1) := by decide +kernel
theorem d_Pr_improve_118 : decode c_Pr_improve 118 = .ok (.aload_n 0, 1) := by decide +kernel
theorem d_Pr_improve_119 : decode c_Pr_improve 119 = .ok (.getfield 24, 3) := by decide +kernel
theorem d_Pr_improve_122 : decode c_Pr_improve 122 = .ok (.aload_n 3, 1) := by decide +kernel
theorem d_Pr_improve_123 : decode c_Pr_improve 123 = .ok (.getfield 39, 3) := by decide +kernel
theorem d_Pr_improve_126 : decode c_Pr_improve 126 = .ok (.aload_n 2, 1) := by decide +kernel
theorem d_Pr_improve_127 : decode c_Pr_improve 127 = .ok (.getfield 42, 3) := by decide +kernel
theorem d_Pr_improve_130 : decode c_Pr_improve 130 = .ok (.aload_n 3, 1) := by decide +kernel
theorem d_Pr_improve_131 : decode c_Pr_improve 131 = .ok (.getfield 56, 3) := by decide +kernel
theorem d_Pr_improve_134 : decode c_Pr_improve 134 = .ok (.aaload, 1) := by decide +kernel
theorem d_Pr_improve_135 : decode c_Pr_improve 135 = .ok (.aload_n 2, 1) := by decide +kernel
theorem d_Pr_improve_136 : decode c_Pr_improve 136 = .ok (.getfield 42, 3) := by decide +kernel
theorem d_Pr_improve_139 : decode c_Pr_improve 139 = .ok (.aload_n 3, 1) := by decide +kernel
theorem d_Pr_improve_140 : decode c_Pr_improve 140 = .ok (.getfield 67, 3) := by decide +kernel
theorem d_Pr_improve_143 : decode c_Pr_improve 143 = .ok (.aaload, 1) := by decide +kernel
theorem d_Pr_improve_144 : decode c_Pr_improve 144 = .ok (.invokevirtual 70, 3) := by decide +kernel
theorem d_Pr_improve_147 : decode c_Pr_improve 147 = .ok (.aload_n 3, 1) := by decide +kernel
theorem d_Pr_improve_148 : decode c_Pr_improve 148 = .ok (.aload_n 0, 1) := by decide +kernel
theorem d_Pr_improve_149 : decode c_Pr_improve 149 = .ok (.getfield 24, 3) := by decide +kernel
theorem d_Pr_improve_152 : decode c_Pr_improve 152 = .ok (.invokestatic 59, 3) := by decide +kernel
theorem d_Pr_improve_155 : decode c_Pr_improve 155 = .ok (.ireturn, 1) := by decide +kernel
theorem d_Pr_stopInstead_0 : decode c_Pr_stopInstead 0 = .ok (.aload_n 0, 1) := by decide +kernel
theorem d_Pr_stopInstead_1 : decode c_Pr_stopInstead 1 = .ok (.getfield 39, 3) := by decide +kernel
theorem d_Pr_stopInstead_4 : decode c_Pr_stopInstead 4 = .ok (.bipush 11, 2) := by decide +kernel
theorem d_Pr_stopInstead_6 : decode c_Pr_stopInstead 6 = .ok (.if_icmp .ne 5, 3) := by decide +kernel
theorem d_Pr_stopInstead_9 : decode c_Pr_stopInstead 9 = .ok (.iconst 0, 1) := by decide +kernel
theorem d_Pr_stopInstead_10 : decode c_Pr_stopInstead 10 = .ok (.ireturn, 1) := by decide +kernel
theorem d_Pr_stopInstead_11 : decode c_Pr_stopInstead 11 = .ok (.aload_n 0, 1) := by decide +kernel
theorem d_Pr_stopInstead_12 : decode c_Pr_stopInstead 12 = .ok (.bipush 11, 2) := by decide +kernel
theorem d_Pr_stopInstead_14 : decode c_Pr_stopInstead 14 = .ok (.iconst 0, 1) := by decide +kernel
theorem d_Pr_stopInstead_15 : decode c_Pr_stopInstead 15 = .ok (.iconst 0, 1) := by decide +kernel
theorem d_Pr_stopInstead_16 : decode c_Pr_stopInstead 16 = .ok (.iconst 0, 1) := by decide +kernel
theorem d_Pr_stopInstead_17 : decode c_Pr_stopInstead 17 = .ok (.invokevirtual 74, 3) := by decide +kernel
theorem d_Pr_stopInstead_20 : decode c_Pr_stopInstead 20 = .ok (.iconst 1, 1) := by decide +kernel
theorem d_Pr_stopInstead_21 : decode c_Pr_stopInstead 21 = .ok (.ireturn, 1) := by decide +kernel
theorem d_Pr_goInstead_0 : decode c_Pr_goInstead 0 = .ok (.iload_n 1, 1) := by decide +kernel
theorem d_Pr_goInstead_1 : decode c_Pr_goInstead 1 = .ok (.aload_n 0, 1) := by decide +kernel
theorem d_Pr_goInstead_2 : decode c_Pr_goInstead 2 = .ok (.invokevirtual 78, 3) := by decide +kernel
theorem d_Pr_goInstead_5 : decode c_Pr_goInstead 5 = .ok (.iand, 1) := by decide +kernel
theorem d_Pr_goInstead_6 : decode c_Pr_goInstead 6 = .ok (.ifCond .eq 7, 3) := by decide +kernel
theorem d_Pr_goInstead_9 : decode c_Pr_goInstead 9 = .ok (.iconst 1, 1) := by decide +kernel
theorem d_Pr_goInstead_10 : decode c_Pr_goInstead 10 = .ok (.goto 4, 3) := by decide +kernel
theorem d_Pr_goInstead_13 : decode c_Pr_goInstead 13 = .ok (.iconst 0, 1) := by decide +kernel
theorem d_Pr_goInstead_14 : decode c_Pr_goInstead 14 = .ok (.istore_n 3, 1) := by decide +kernel
theorem d_Pr_goInstead_15 : decode c_Pr_goInstead 15 = .ok (.iload_n 1, 1) := by decide +kernel
theorem d_Pr_goInstead_16 : decode c_Pr_goInstead 16 = .ok (.aload_n 0, 1) := by decide +kernel
theorem d_Pr_goInstead_17 : decode c_Pr_goInstead 17 = .ok (.invokevirtual 78, 3) := by decide +kernel
theorem d_Pr_goInstead_20 : decode c_Pr_goInstead 20 = .ok (.iconst (-1), 1) := by decide +kernel
theorem d_Pr_goInstead_21 : decode c_Pr_goInstead 21 = .ok (.ixor, 1) := by decide +kernel
theorem d_Pr_goInstead_22 : decode c_Pr_goInstead 22 = .ok (.iand, 1) := by decide +kernel
theorem d_Pr_goInstead_23 : decode c_Pr_goInstead 23 = .ok (.ifCond .eq 7, 3) := by decide +kernel
theorem d_Pr_goInstead_26 : decode c_Pr_goInstead 26 = .ok (.iconst 1, 1) := by decide +kernel
theorem d_Pr_goInstead_27 : decode c_Pr_goInstead 27 = .ok (.goto 4, 3) := by decide +kernel
theorem d_Pr_goInstead_30 : decode c_Pr_goInstead 30 = .ok (.iconst 0, 1) := by decide +kernel
theorem d_Pr_goInstead_31 : decode c_Pr_goInstead 31 = .ok (.istore 4, 2) := by decide +kernel
theorem d_Pr_goInstead_33 : decode c_Pr_goInstead 33 = .ok (.iload_n 3, 1) := by decide +kernel
theorem d_Pr_goInstead_34 : decode c_Pr_goInstead 34 = .ok (.ifCond .eq 10, 3) := by decide +kernel
theorem d_Pr_goInstead_37 : decode c_Pr_goInstead 37 = .ok (.iload 4, 2) := by decide +kernel
theorem d_Pr_goInstead_39 : decode c_Pr_goInstead 39 = .ok (.ifCond .eq 5, 3) := by decide +kernel
theorem d_Pr_goInstead_42 : decode c_Pr_goInstead 42 = .ok (.iconst 0, 1) := by decide +kernel
theorem d_Pr_goInstead_43 : decode c_Pr_goInstead 43 = .ok (.ireturn, 1) := by decide +kernel
theorem d_Pr_goInstead_44 : decode c_Pr_goInstead 44 = .ok (.aload_n 0, 1) := by decide +kernel
theorem d_Pr_goInstead_45 : decode c_Pr_goInstead 45 = .ok (.bipush 9, 2) := by decide +kernel
theorem d_Pr_goInstead_47 : decode c_Pr_goInstead 47 = .ok (.iconst 0, 1) := by decide +kernel
theorem d_Pr_goInstead_48 : decode c_Pr_goInstead 48 = .ok (.iconst 0, 1) := by decide +kernel
theorem d_Pr_goInstead_49 : decode c_Pr_goInstead 49 = .ok (.iload_n 3, 1) := by decide +kernel
theorem d_Pr_goInstead_50 : decode c_Pr_goInstead 50 = .ok (.ifCond .eq 10, 3) := by decide +kernel
theorem d_Pr_goInstead_53 : decode c_Pr_goInstead 53 = .ok (.aload_n 0, 1) := by decide +kernel
