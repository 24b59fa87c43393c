/-! decode rows 2100 .. (printed) -/
theorem d_Mo_solve_1 : decode c_Mo_solve 1 = .ok (.getfield 83, 3) := by decide +kernel
theorem d_Mo_solve_4 : decode c_Mo_solve 4 = .ok (.ifCond .eq 4, 3) := by decide +kernel
theorem d_Mo_solve_7 : decode c_Mo_solve 7 = .ok (.return_, 1) := by decide +kernel
theorem d_Mo_solve_8 : decode c_Mo_solve 8 = .ok (.aload_n 0, 1) := by decide +kernel
theorem d_Mo_solve_9 : decode c_Mo_solve 9 = .ok (.iconst 1, 1) := by decide +kernel
theorem d_Mo_solve_10 : decode c_Mo_solve 10 = .ok (.putfield 83, 3) := by decide +kernel
theorem d_Mo_solve_13 : decode c_Mo_solve 13 = .ok (.iconst 0, 1) := by decide +kernel
theorem d_Mo_solve_14 : decode c_Mo_solve 14 = .ok (.istore_n 1, 1) := by decide +kernel
theorem d_Mo_solve_15 : decode c_Mo_solve 15 = .ok (.iload_n 1, 1) := by decide +kernel
theorem d_Mo_solve_16 : decode c_Mo_solve 16 = .ok (.bipush 24, 2) := by decide +kernel
theorem d_Mo_solve_18 : decode c_Mo_solve 18 = .ok (.if_icmp .ge 16, 3) := by decide +kernel
theorem d_Mo_solve_21 : decode c_Mo_solve 21 = .ok (.aload_n 0, 1) := by decide +kernel
theorem d_Mo_solve_22 : decode c_Mo_solve 22 = .ok (.getfield 22, 3) := by decide +kernel
theorem d_Mo_solve_25 : decode c_Mo_solve 25 = .ok (.iload_n 1, 1) := by decide +kernel
theorem d_Mo_solve_26 : decode c_Mo_solve 26 = .ok (.iconst 0, 1) := by decide +kernel
theorem d_Mo_solve_27 : decode c_Mo_solve 27 = .ok (.bastore, 1) := by decide +kernel
theorem d_Mo_solve_28 : decode c_Mo_solve 28 = .ok (.iinc 1 1, 3) := by decide +kernel
theorem d_Mo_solve_31 : decode c_Mo_solve 31 = .ok (.goto (-16), 3) := by decide +kernel
theorem d_Mo_solve_34 : decode c_Mo_solve 34 = .ok (.iconst 0, 1) := by decide +kernel
theorem d_Mo_solve_35 : decode c_Mo_solve 35 = .ok (.istore_n 1, 1) := by decide +kernel
theorem d_Mo_solve_36 : decode c_Mo_solve 36 = .ok (.iload_n 1, 1) := by decide +kernel
theorem d_Mo_solve_37 : decode c_Mo_solve 37 = .ok (.iconst 4, 1) := by decide +kernel
theorem d_Mo_solve_38 : decode c_Mo_solve 38 = .ok (.if_icmp .ge 22, 3) := by decide +kernel
theorem d_Mo_solve_41 : decode c_Mo_solve 41 = .ok (.aload_n 0, 1) := by decide +kernel
theorem d_Mo_solve_42 : decode c_Mo_solve 42 = .ok (.bipush 32, 2) := by decide +kernel
theorem d_Mo_solve_44 : decode c_Mo_solve 44 = .ok (.iconst 0, 1) := by decide +kernel
theorem d_Mo_solve_45 : decode c_Mo_solve 45 = .ok (.iconst 2, 1) := by decide +kernel
theorem d_Mo_solve_46 : decode c_Mo_solve 46 = .ok (.invokevirtual 126, 3) := by decide +kernel
theorem d_Mo_solve_49 : decode c_Mo_solve 49 = .ok (.aload_n 0, 1) := by decide +kernel
theorem d_Mo_solve_50 : decode c_Mo_solve 50 = .ok (.iload_n 1, 1) := by decide +kernel
theorem d_Mo_solve_51 : decode c_Mo_solve 51 = .ok (.invokevirtual 140, 3) := by decide +kernel
theorem d_Mo_solve_54 : decode c_Mo_solve 54 = .ok (.iinc 1 1, 3) := by decide +kernel
theorem d_Mo_solve_57 : decode c_Mo_solve 57 = .ok (.goto (-21), 3) := by decide +kernel
theorem d_Mo_solve_60 : decode c_Mo_solve 60 = .ok (.aload_n 0, 1) := by decide +kernel
theorem d_Mo_solve_61 : decode c_Mo_solve 61 = .ok (.iconst 0, 1) := by decide +kernel
theorem d_Mo_solve_62 : decode c_Mo_solve 62 = .ok (.invokevirtual 162, 3) := by decide +kernel
theorem d_Mo_solve_65 : decode c_Mo_solve 65 = .ok (.aload_n 0, 1) := by decide +kernel
theorem d_Mo_solve_66 : decode c_Mo_solve 66 = .ok (.aload_n 0, 1) := by decide +kernel
theorem d_Mo_solve_67 : decode c_Mo_solve 67 = .ok (.getfield 77, 3) := by decide +kernel
theorem d_Mo_solve_70 : decode c_Mo_solve 70 = .ok (.ifCond .le 7, 3) := by decide +kernel
theorem d_Mo_solve_73 : decode c_Mo_solve 73 = .ok (.iconst 1, 1) := by decide +kernel
theorem d_Mo_solve_74 : decode c_Mo_solve 74 = .ok (.goto 4, 3) := by decide +kernel
theorem d_Mo_solve_77 : decode c_Mo_solve 77 = .ok (.iconst 0, 1) := by decide +kernel
theorem d_Mo_solve_78 : decode c_Mo_solve 78 = .ok (.putfield 152, 3) := by decide +kernel
theorem d_Mo_solve_81 : decode c_Mo_solve 81 = .ok (.aload_n 0, 1) := by decide +kernel
theorem d_Mo_solve_82 : decode c_Mo_solve 82 = .ok (.getfield 152, 3) := by decide +kernel
theorem d_Mo_solve_85 : decode c_Mo_solve 85 = .ok (.ifCond .eq 41, 3) := by decide +kernel
theorem d_Mo_solve_88 : decode c_Mo_solve 88 = .ok (.aload_n 0, 1) := by decide +kernel
theorem d_Mo_solve_89 : decode c_Mo_solve 89 = .ok (.iconst 0, 1) := by decide +kernel
theorem d_Mo_solve_90 : decode c_Mo_solve 90 = .ok (.putfield 152, 3) := by decide +kernel
theorem d_Mo_solve_93 : decode c_Mo_solve 93 = .ok (.iconst 0, 1) := by decide +kernel
theorem d_Mo_solve_94 : decode c_Mo_solve 94 = .ok (.istore_n 1, 1) := by decide +kernel
theorem d_Mo_solve_95 : decode c_Mo_solve 95 = .ok (.iload_n 1, 1) := by decide +kernel
theorem d_Mo_solve_96 : decode c_Mo_solve 96 = .ok (.aload_n 0, 1) := by decide +kernel
theorem d_Mo_solve_97 : decode c_Mo_solve 97 = .ok (.getfield 77, 3) := by decide +kernel
theorem d_Mo_solve_100 : decode c_Mo_solve 100 = .ok (.if_icmp .ge 23, 3) := by decide +kernel
theorem d_Mo_solve_103 : decode c_Mo_solve 103 = .ok (.aload_n 0, 1) := by decide +kernel
theorem d_Mo_solve_104 : decode c_Mo_solve 104 = .ok (.getfield 22, 3) := by decide +kernel
theorem d_Mo_solve_107 : decode c_Mo_solve 107 = .ok (.iload_n 1, 1) := by decide +kernel
theorem d_Mo_solve_108 : decode c_Mo_solve 108 = .ok (.baload, 1) := by decide +kernel
theorem d_Mo_solve_109 : decode c_Mo_solve 109 = .ok (.ifCond .eq 8, 3) := by decide +kernel
theorem d_Mo_solve_112 : decode c_Mo_solve 112 = .ok (.aload_n 0, 1) := by decide +kernel
theorem d_Mo_solve_113 : decode c_Mo_solve 113 = .ok (.iload_n 1, 1) := by decide +kernel
theorem d_Mo_solve_114 : decode c_Mo_solve 114 = .ok (.invokevirtual 168, 3) := by decide +kernel
theorem d_Mo_solve_117 : decode c_Mo_solve 117 = .ok (.iinc 1 1, 3) := by decide +kernel
theorem d_Mo_solve_120 : decode c_Mo_solve 120 = .ok (.goto (-25), 3) := by decide +kernel
theorem d_Mo_solve_123 : decode c_Mo_solve 123 = .ok (.goto (-42), 3) := by decide +kernel
theorem d_Mo_solve_126 : decode c_Mo_solve 126 = .ok (.return_, 1) := by decide +kernel
theorem d_Mo_result_0 : decode c_Mo_result 0 = .ok (.aload_n 0, 1) := by decide +kernel
theorem d_Mo_result_1 : decode c_Mo_result 1 = .ok (.iload_n 1, 1) := by decide +kernel
theorem d_Mo_result_2 : decode c_Mo_result 2 = .ok (.putfield 93, 3) := by decide +kernel
theorem d_Mo_result_5 : decode c_Mo_result 5 = .ok (.aload_n 0, 1) := by decide +kernel
theorem d_Mo_result_6 : decode c_Mo_result 6 = .ok (.iload_n 2, 1) := by decide +kernel
theorem d_Mo_result_7 : decode c_Mo_result 7 = .ok (.putfield 90, 3) := by decide +kernel
theorem d_Mo_result_10 : decode c_Mo_result 10 = .ok (.aload_n 0, 1) := by decide +kernel
theorem d_Mo_result_11 : decode c_Mo_result 11 = .ok (.iload_n 3, 1) := by decide +kernel
theorem d_Mo_result_12 : decode c_Mo_result 12 = .ok (.putfield 100, 3) := by decide +kernel
theorem d_Mo_result_15 : decode c_Mo_result 15 = .ok (.return_, 1) := by decide +kernel
theorem d_Mo_take_0 : decode c_Mo_take 0 = .ok (.aload_n 0, 1) := by decide +kernel
theorem d_Mo_take_1 : decode c_Mo_take 1 = .ok (.getfield 35, 3) := by decide +kernel
theorem d_Mo_take_4 : decode c_Mo_take 4 = .ok (.iload_n 1, 1) := by decide +kernel
theorem d_Mo_take_5 : decode c_Mo_take 5 = .ok (.aload_n 0, 1) := by decide +kernel
theorem d_Mo_take_6 : decode c_Mo_take 6 = .ok (.getfield 93, 3) := by decide +kernel
theorem d_Mo_take_9 : decode c_Mo_take 9 = .ok (.iastore, 1) := by decide +kernel
theorem d_Mo_take_10 : decode c_Mo_take 10 = .ok (.aload_n 0, 1) := by decide +kernel
theorem d_Mo_take_11 : decode c_Mo_take 11 = .ok (.getfield 38, 3) := by decide +kernel
theorem d_Mo_take_14 : decode c_Mo_take 14 = .ok (.iload_n 1, 1) := by decide +kernel
theorem d_Mo_take_15 : decode c_Mo_take 15 = .ok (.aload_n 0, 1) := by decide +kernel
theorem d_Mo_take_16 : decode c_Mo_take 16 = .ok (.getfield 90, 3) := by decide +kernel
theorem d_Mo_take_19 : decode c_Mo_take 19 = .ok (.iastore, 1) := by decide +kernel
theorem d_Mo_take_20 : decode c_Mo_take 20 = .ok (.aload_n 0, 1) := by decide +kernel
theorem d_Mo_take_21 : decode c_Mo_take 21 = .ok (.getfield 41, 3) := by decide +kernel
theorem d_Mo_take_24 : decode c_Mo_take 24 = .ok (.iload_n 1, 1) := by decide +kernel
theorem d_Mo_take_25 : decode c_Mo_take 25 = .ok (.aload_n 0, 1) := by decide +kernel
theorem d_Mo_take_26 : decode c_Mo_take 26 = .ok (.getfield 100, 3) := by decide +kernel
theorem d_Mo_take_29 : decode c_Mo_take 29 = .ok (.iastore, 1) := by decide +kernel
theorem d_Mo_take_30 : decode c_Mo_take 30 = .ok (.return_, 1) := by decide +kernel
theorem d_Mo_join_0 : decode c_Mo_join 0 = .ok (.iload_n 1, 1) := by decide +kernel
theorem d_Mo_join_1 : decode c_Mo_join 1 = .ok (.aload_n 0, 1) := by decide +kernel
theorem d_Mo_join_2 : decode c_Mo_join 2 = .ok (.getfield 77, 3) := by decide +kernel
theorem d_Mo_join_5 : decode c_Mo_join 5 = .ok (.if_icmp .lt 4, 3) := by decide +kernel
theorem d_Mo_join_8 : decode c_Mo_join 8 = .ok (.return_, 1) := by decide +kernel
theorem d_Mo_join_9 : decode c_Mo_join 9 = .ok (.aload_n 0, 1) := by decide +kernel
theorem d_Mo_join_10 : decode c_Mo_join 10 = .ok (.getfield 22, 3) := by decide +kernel
theorem d_Mo_join_13 : decode c_Mo_join 13 = .ok (.iload_n 1, 1) := by decide +kernel
theorem d_Mo_join_14 : decode c_Mo_join 14 = .ok (.baload, 1) := by decide +kernel
theorem d_Mo_join_15 : decode c_Mo_join 15 = .ok (.ifCond .ne 77, 3) := by decide +kernel
theorem d_Mo_join_18 : decode c_Mo_join 18 = .ok (.aload_n 0, 1) := by decide +kernel
theorem d_Mo_join_19 : decode c_Mo_join 19 = .ok (.getfield 22, 3) := by decide +kernel
theorem d_Mo_join_22 : decode c_Mo_join 22 = .ok (.iload_n 1, 1) := by decide +kernel
theorem d_Mo_join_23 : decode c_Mo_join 23 = .ok (.iconst 1, 1) := by decide +kernel
theorem d_Mo_join_24 : decode c_Mo_join 24 = .ok (.bastore, 1) := by decide +kernel
theorem d_Mo_join_25 : decode c_Mo_join 25 = .ok (.aload_n 0, 1) := by decide +kernel
theorem d_Mo_join_26 : decode c_Mo_join 26 = .ok (.iconst 1, 1) := by decide +kernel
theorem d_Mo_join_27 : decode c_Mo_join 27 = .ok (.putfield 152, 3) := by decide +kernel
theorem d_Mo_join_30 : decode c_Mo_join 30 = .ok (.iconst 0, 1) := by decide +kernel
theorem d_Mo_join_31 : decode c_Mo_join 31 = .ok (.istore_n 2, 1) := by decide +kernel
theorem d_Mo_join_32 : decode c_Mo_join 32 = .ok (.iload_n 2, 1) := by decide +kernel
theorem d_Mo_join_33 : decode c_Mo_join 33 = .ok (.iconst 4, 1) := by decide +kernel
theorem d_Mo_join_34 : decode c_Mo_join 34 = .ok (.if_icmp .ge 57, 3) := by decide +kernel
theorem d_Mo_join_37 : decode c_Mo_join 37 = .ok (.aload_n 0, 1) := by decide +kernel
theorem d_Mo_join_38 : decode c_Mo_join 38 = .ok (.getfield 26, 3) := by decide +kernel
theorem d_Mo_join_41 : decode c_Mo_join 41 = .ok (.iconst 4, 1) := by decide +kernel
theorem d_Mo_join_42 : decode c_Mo_join 42 = .ok (.iload_n 1, 1) := by decide +kernel
theorem d_Mo_join_43 : decode c_Mo_join 43 = .ok (.imul, 1) := by decide +kernel
theorem d_Mo_join_44 : decode c_Mo_join 44 = .ok (.iload_n 2, 1) := by decide +kernel
theorem d_Mo_join_45 : decode c_Mo_join 45 = .ok (.iadd, 1) := by decide +kernel
theorem d_Mo_join_46 : decode c_Mo_join 46 = .ok (.aload_n 0, 1) := by decide +kernel
theorem d_Mo_join_47 : decode c_Mo_join 47 = .ok (.getfield 35, 3) := by decide +kernel
theorem d_Mo_join_50 : decode c_Mo_join 50 = .ok (.iload_n 2, 1) := by decide +kernel
theorem d_Mo_join_51 : decode c_Mo_join 51 = .ok (.iaload, 1) := by decide +kernel
theorem d_Mo_join_52 : decode c_Mo_join 52 = .ok (.iastore, 1) := by decide +kernel
theorem d_Mo_join_53 : decode c_Mo_join 53 = .ok (.aload_n 0, 1) := by decide +kernel
theorem d_Mo_join_54 : decode c_Mo_join 54 = .ok (.getfield 29, 3) := by decide +kernel
theorem d_Mo_join_57 : decode c_Mo_join 57 = .ok (.iconst 4, 1) := by decide +kernel
theorem d_Mo_join_58 : decode c_Mo_join 58 = .ok (.iload_n 1, 1) := by decide +kernel
theorem d_Mo_join_59 : decode c_Mo_join 59 = .ok (.imul, 1) := by decide +kernel
theorem d_Mo_join_60 : decode c_Mo_join 60 = .ok (.iload_n 2, 1) := by decide +kernel
theorem d_Mo_join_61 : decode c_Mo_join 61 = .ok (.iadd, 1) := by decide +kernel
theorem d_Mo_join_62 : decode c_Mo_join 62 = .ok (.aload_n 0, 1) := by decide +kernel
theorem d_Mo_join_63 : decode c_Mo_join 63 = .ok (.getfield 38, 3) := by decide +kernel
theorem d_Mo_join_66 : decode c_Mo_join 66 = .ok (.iload_n 2, 1) := by decide +kernel
theorem d_Mo_join_67 : decode c_Mo_join 67 = .ok (.iaload, 1) := by decide +kernel
theorem d_Mo_join_68 : decode c_Mo_join 68 = .ok (.iastore, 1) := by decide +kernel
theorem d_Mo_join_69 : decode c_Mo_join 69 = .ok (.aload_n 0, 1) := by decide +kernel
theorem d_Mo_join_70 : decode c_Mo_join 70 = .ok (.getfield 32, 3) := by decide +kernel
theorem d_Mo_join_73 : decode c_Mo_join 73 = .ok (.iconst 4, 1) := by decide +kernel
theorem d_Mo_join_74 : decode c_Mo_join 74 = .ok (.iload_n 1, 1) := by decide +kernel
theorem d_Mo_join_75 : decode c_Mo_join 75 = .ok (.imul, 1) := by decide +kernel
theorem d_Mo_join_76 : decode c_Mo_join 76 = .ok (.iload_n 2, 1) := by decide +kernel
theorem d_Mo_join_77 : decode c_Mo_join 77 = .ok (.iadd, 1) := by decide +kernel
theorem d_Mo_join_78 : decode c_Mo_join 78 = .ok (.aload_n 0, 1) := by decide +kernel
theorem d_Mo_join_79 : decode c_Mo_join 79 = .ok (.getfield 41, 3) := by decide +kernel
theorem d_Mo_join_82 : decode c_Mo_join 82 = .ok (.iload_n 2, 1) := by decide +kernel
theorem d_Mo_join_83 : decode c_Mo_join 83 = .ok (.iaload, 1) := by decide +kernel
theorem d_Mo_join_84 : decode c_Mo_join 84 = .ok (.iastore, 1) := by decide +kernel
theorem d_Mo_join_85 : decode c_Mo_join 85 = .ok (.iinc 2 1, 3) := by decide +kernel
theorem d_Mo_join_88 : decode c_Mo_join 88 = .ok (.goto (-56), 3) := by decide +kernel
theorem d_Mo_join_91 : decode c_Mo_join 91 = .ok (.return_, 1) := by decide +kernel
theorem d_Mo_join_92 : decode c_Mo_join 92 = .ok (.iconst 0, 1) := by decide +kernel
theorem d_Mo_join_93 : decode c_Mo_join 93 = .ok (.istore_n 2, 1) := by decide +kernel
theorem d_Mo_join_94 : decode c_Mo_join 94 = .ok (.iload_n 2, 1) := by decide +kernel
theorem d_Mo_join_95 : decode c_Mo_join 95 = .ok (.iconst 4, 1) := by decide +kernel
theorem d_Mo_join_96 : decode c_Mo_join 96 = .ok (.if_icmp .ge 19, 3) := by decide +kernel
theorem d_Mo_join_99 : decode c_Mo_join 99 = .ok (.aload_n 0, 1) := by decide +kernel
theorem d_Mo_join_100 : decode c_Mo_join 100 = .ok (.iconst 4, 1) := by decide +kernel
theorem d_Mo_join_101 : decode c_Mo_join 101 = .ok (.iload_n 1, 1) := by decide +kernel
theorem d_Mo_join_102 : decode c_Mo_join 102 = .ok (.imul, 1) := by decide +kernel
theorem d_Mo_join_103 : decode c_Mo_join 103 = .ok (.iload_n 2, 1) := by decide +kernel
theorem d_Mo_join_104 : decode c_Mo_join 104 = .ok (.iadd, 1) := by decide +kernel
theorem d_Mo_join_105 : decode c_Mo_join 105 = .ok (.iload_n 2, 1) := by decide +kernel
theorem d_Mo_join_106 : decode c_Mo_join 106 = .ok (.invokevirtual 155, 3) := by decide +kernel
theorem d_Mo_join_109 : decode c_Mo_join 109 = .ok (.iinc 2 1, 3) := by decide +kernel
theorem d_Mo_join_112 : decode c_Mo_join 112 = .ok (.goto (-18), 3) := by decide +kernel
theorem d_Mo_join_115 : decode c_Mo_join 115 = .ok (.return_, 1) := by decide +kernel
theorem d_Mo_joinFact_0 : decode c_Mo_joinFact 0 = .ok (.aload_n 0, 1) := by decide +kernel
theorem d_Mo_joinFact_1 : decode c_Mo_joinFact 1 = .ok (.getfield 26, 3) := by decide +kernel
theorem d_Mo_joinFact_4 : decode c_Mo_joinFact 4 = .ok (.iload_n 1, 1) := by decide +kernel
theorem d_Mo_joinFact_5 : decode c_Mo_joinFact 5 = .ok (.iaload, 1) := by decide +kernel
theorem d_Mo_joinFact_6 : decode c_Mo_joinFact 6 = .ok (.aload_n 0, 1) := by decide +kernel
theorem d_Mo_joinFact_7 : decode c_Mo_joinFact 7 = .ok (.getfield 35, 3) := by decide +kernel
theorem d_Mo_joinFact_10 : decode c_Mo_joinFact 10 = .ok (.iload_n 2, 1) := by decide +kernel
theorem d_Mo_joinFact_11 : decode c_Mo_joinFact 11 = .ok (.iaload, 1) := by decide +kernel
theorem d_Mo_joinFact_12 : decode c_Mo_joinFact 12 = .ok (.invokestatic 120, 3) := by decide +kernel
theorem d_Mo_joinFact_15 : decode c_Mo_joinFact 15 = .ok (.istore_n 3, 1) := by decide +kernel
theorem d_Mo_joinFact_16 : decode c_Mo_joinFact 16 = .ok (.iload_n 3, 1) := by decide +kernel
theorem d_Mo_joinFact_17 : decode c_Mo_joinFact 17 = .ok (.bipush 32, 2) := by decide +kernel
theorem d_Mo_joinFact_19 : decode c_Mo_joinFact 19 = .ok (.if_icmp .ne 22, 3) := by decide +kernel
theorem d_Mo_joinFact_22 : decode c_Mo_joinFact 22 = .ok (.aload_n 0, 1) := by decide +kernel
theorem d_Mo_joinFact_23 : decode c_Mo_joinFact 23 = .ok (.getfield 29, 3) := by decide +kernel
theorem d_Mo_joinFact_26 : decode c_Mo_joinFact 26 = .ok (.iload_n 1, 1) := by decide +kernel
theorem d_Mo_joinFact_27 : decode c_Mo_joinFact 27 = .ok (.iaload, 1) := by decide +kernel
theorem d_Mo_joinFact_28 : decode c_Mo_joinFact 28 = .ok (.aload_n 0, 1) := by decide +kernel
theorem d_Mo_joinFact_29 : decode c_Mo_joinFact 29 = .ok (.getfield 38, 3) := by decide +kernel
theorem d_Mo_joinFact_32 : decode c_Mo_joinFact 32 = .ok (.iload_n 2, 1) := by decide +kernel
theorem d_Mo_joinFact_33 : decode c_Mo_joinFact 33 = .ok (.iaload, 1) := by decide +kernel
theorem d_Mo_joinFact_34 : decode c_Mo_joinFact 34 = .ok (.if_icmp .ne 7, 3) := by decide +kernel
theorem d_Mo_joinFact_37 : decode c_Mo_joinFact 37 = .ok (.iconst 1, 1) := by decide +kernel
theorem d_Mo_joinFact_38 : decode c_Mo_joinFact 38 = .ok (.goto 4, 3) := by decide +kernel
theorem d_Mo_joinFact_41 : decode c_Mo_joinFact 41 = .ok (.iconst 0, 1) := by decide +kernel
theorem d_Mo_joinFact_42 : decode c_Mo_joinFact 42 = .ok (.istore 4, 2) := by decide +kernel
theorem d_Mo_joinFact_44 : decode c_Mo_joinFact 44 = .ok (.aload_n 0, 1) := by decide +kernel
theorem d_Mo_joinFact_45 : decode c_Mo_joinFact 45 = .ok (.getfield 29, 3) := by decide +kernel
theorem d_Mo_joinFact_48 : decode c_Mo_joinFact 48 = .ok (.iload_n 1, 1) := by decide +kernel
theorem d_Mo_joinFact_49 : decode c_Mo_joinFact 49 = .ok (.iaload, 1) := by decide +kernel
theorem d_Mo_joinFact_50 : decode c_Mo_joinFact 50 = .ok (.aload_n 0, 1) := by decide +kernel
theorem d_Mo_joinFact_51 : decode c_Mo_joinFact 51 = .ok (.getfield 38, 3) := by decide +kernel
theorem d_Mo_joinFact_54 : decode c_Mo_joinFact 54 = .ok (.iload_n 2, 1) := by decide +kernel
theorem d_Mo_joinFact_55 : decode c_Mo_joinFact 55 = .ok (.iaload, 1) := by decide +kernel
theorem d_Mo_joinFact_56 : decode c_Mo_joinFact 56 = .ok (.ixor, 1) := by decide +kernel
theorem d_Mo_joinFact_57 : decode c_Mo_joinFact 57 = .ok (.invokestatic 130, 3) := by decide +kernel
theorem d_Mo_joinFact_60 : decode c_Mo_joinFact 60 = .ok (.istore 5, 2) := by decide +kernel
theorem d_Mo_joinFact_62 : decode c_Mo_joinFact 62 = .ok (.iload 4, 2) := by decide +kernel
theorem d_Mo_joinFact_64 : decode c_Mo_joinFact 64 = .ok (.ifCond .eq 8, 3) := by decide +kernel
theorem d_Mo_joinFact_67 : decode c_Mo_joinFact 67 = .ok (.bipush 32, 2) := by decide +kernel
theorem d_Mo_joinFact_69 : decode c_Mo_joinFact 69 = .ok (.goto 14, 3) := by decide +kernel
theorem d_Mo_joinFact_72 : decode c_Mo_joinFact 72 = .ok (.iload_n 3, 1) := by decide +kernel
theorem d_Mo_joinFact_73 : decode c_Mo_joinFact 73 = .ok (.iload 5, 2) := by decide +kernel
theorem d_Mo_joinFact_75 : decode c_Mo_joinFact 75 = .ok (.invokestatic 120, 3) := by decide +kernel
theorem d_Mo_joinFact_78 : decode c_Mo_joinFact 78 = .ok (.bipush 16, 2) := by decide +kernel
theorem d_Mo_joinFact_80 : decode c_Mo_joinFact 80 = .ok (.invokestatic 120, 3) := by decide +kernel
theorem d_Mo_joinFact_83 : decode c_Mo_joinFact 83 = .ok (.istore 6, 2) := by decide +kernel
theorem d_Mo_joinFact_85 : decode c_Mo_joinFact 85 = .ok (.aload_n 0, 1) := by decide +kernel
theorem d_Mo_joinFact_86 : decode c_Mo_joinFact 86 = .ok (.getfield 32, 3) := by decide +kernel
theorem d_Mo_joinFact_89 : decode c_Mo_joinFact 89 = .ok (.iload_n 1, 1) := by decide +kernel
theorem d_Mo_joinFact_90 : decode c_Mo_joinFact 90 = .ok (.iaload, 1) := by decide +kernel
theorem d_Mo_joinFact_91 : decode c_Mo_joinFact 91 = .ok (.aload_n 0, 1) := by decide +kernel
theorem d_Mo_joinFact_92 : decode c_Mo_joinFact 92 = .ok (.getfield 41, 3) := by decide +kernel
theorem d_Mo_joinFact_95 : decode c_Mo_joinFact 95 = .ok (.iload_n 2, 1) := by decide +kernel
theorem d_Mo_joinFact_96 : decode c_Mo_joinFact 96 = .ok (.iaload, 1) := by decide +kernel
theorem d_Mo_joinFact_97 : decode c_Mo_joinFact 97 = .ok (.ior, 1) := by decide +kernel
theorem d_Mo_joinFact_98 : decode c_Mo_joinFact 98 = .ok (.istore 7, 2) := by decide +kernel
theorem d_Mo_joinFact_100 : decode c_Mo_joinFact 100 = .ok (.iload 6, 2) := by decide +kernel
theorem d_Mo_joinFact_102 : decode c_Mo_joinFact 102 = .ok (.aload_n 0, 1) := by decide +kernel
theorem d_Mo_joinFact_103 : decode c_Mo_joinFact 103 = .ok (.getfield 26, 3) := by decide +kernel
theorem d_Mo_joinFact_106 : decode c_Mo_joinFact 106 = .ok (.iload_n 1, 1) := by decide +kernel
theorem d_Mo_joinFact_107 : decode c_Mo_joinFact 107 = .ok (.iaload, 1) := by decide +kernel
theorem d_Mo_joinFact_108 : decode c_Mo_joinFact 108 = .ok (.if_icmp .ne 18, 3) := by decide +kernel
theorem d_Mo_joinFact_111 : decode c_Mo_joinFact 111 = .ok (.iload 7, 2) := by decide +kernel
theorem d_Mo_joinFact_113 : decode c_Mo_joinFact 113 = .ok (.aload_n 0, 1) := by decide +kernel
theorem d_Mo_joinFact_114 : decode c_Mo_joinFact 114 = .ok (.getfield 32, 3) := by decide +kernel
theorem d_Mo_joinFact_117 : decode c_Mo_joinFact 117 = .ok (.iload_n 1, 1) := by decide +kernel
theorem d_Mo_joinFact_118 : decode c_Mo_joinFact 118 = .ok (.iaload, 1) := by decide +kernel
theorem d_Mo_joinFact_119 : decode c_Mo_joinFact 119 = .ok (.if_icmp .ne 7, 3) := by decide +kernel
theorem d_Mo_joinFact_122 : decode c_Mo_joinFact 122 = .ok (.iconst 1, 1) := by decide +kernel
theorem d_Mo_joinFact_123 : decode c_Mo_joinFact 123 = .ok (.goto 4, 3) := by decide +kernel
theorem d_Mo_joinFact_126 : decode c_Mo_joinFact 126 = .ok (.iconst 0, 1) := by decide +kernel
theorem d_Mo_joinFact_127 : decode c_Mo_joinFact 127 = .ok (.istore 8, 2) := by decide +kernel
theorem d_Mo_joinFact_129 : decode c_Mo_joinFact 129 = .ok (.aload_n 0, 1) := by decide +kernel
theorem d_Mo_joinFact_130 : decode c_Mo_joinFact 130 = .ok (.aload_n 0, 1) := by decide +kernel
theorem d_Mo_joinFact_131 : decode c_Mo_joinFact 131 = .ok (.getfield 152, 3) := by decide +kernel
theorem d_Mo_joinFact_134 : decode c_Mo_joinFact 134 = .ok (.ifCond .ne 8, 3) := by decide +kernel
theorem d_Mo_joinFact_137 : decode c_Mo_joinFact 137 = .ok (.iload 8, 2) := by decide +kernel
theorem d_Mo_joinFact_139 : decode c_Mo_joinFact 139 = .ok (.ifCond .ne 7, 3) := by decide +kernel
theorem d_Mo_joinFact_142 : decode c_Mo_joinFact 142 = .ok (.iconst 1, 1) := by decide +kernel
theorem d_Mo_joinFact_143 : decode c_Mo_joinFact 143 = .ok (.goto 4, 3) := by decide +kernel
theorem d_Mo_joinFact_146 : decode c_Mo_joinFact 146 = .ok (.iconst 0, 1) := by decide +kernel
theorem d_Mo_joinFact_147 : decode c_Mo_joinFact 147 = .ok (.putfield 152, 3) := by decide +kernel
theorem d_Mo_joinFact_150 : decode c_Mo_joinFact 150 = .ok (.aload_n 0, 1) := by decide +kernel
theorem d_Mo_joinFact_151 : decode c_Mo_joinFact 151 = .ok (.getfield 26, 3) := by decide +kernel
theorem d_Mo_joinFact_154 : decode c_Mo_joinFact 154 = .ok (.iload_n 1, 1) := by decide +kernel
theorem d_Mo_joinFact_155 : decode c_Mo_joinFact 155 = .ok (.iload 6, 2) := by decide +kernel
theorem d_Mo_joinFact_157 : decode c_Mo_joinFact 157 = .ok (.iastore, 1) := by decide +kernel
theorem d_Mo_joinFact_158 : decode c_Mo_joinFact 158 = .ok (.aload_n 0, 1) := by decide +kernel
theorem d_Mo_joinFact_159 : decode c_Mo_joinFact 159 = .ok (.getfield 29, 3) := by decide +kernel
theorem d_Mo_joinFact_162 : decode c_Mo_joinFact 162 = .ok (.iload_n 1, 1) := by decide +kernel
theorem d_Mo_joinFact_163 : decode c_Mo_joinFact 163 = .ok (.aload_n 0, 1) := by decide +kernel
theorem d_Mo_joinFact_164 : decode c_Mo_joinFact 164 = .ok (.getfield 29, 3) := by decide +kernel
theorem d_Mo_joinFact_167 : decode c_Mo_joinFact 167 = .ok (.iload_n 1, 1) := by decide +kernel
theorem d_Mo_joinFact_168 : decode c_Mo_joinFact 168 = .ok (.iaload, 1) := by decide +kernel
theorem d_Mo_joinFact_169 : decode c_Mo_joinFact 169 = .ok (.iload 6, 2) := by decide +kernel
theorem d_Mo_joinFact_171 : decode c_Mo_joinFact 171 = .ok (.invokestatic 96, 3) := by decide +kernel
theorem d_Mo_joinFact_174 : decode c_Mo_joinFact 174 = .ok (.iastore, 1) := by decide +kernel
theorem d_Mo_joinFact_175 : decode c_Mo_joinFact 175 = .ok (.aload_n 0, 1) := by decide +kernel
theorem d_Mo_joinFact_176 : decode c_Mo_joinFact 176 = .ok (.getfield 32, 3) := by decide +kernel
theorem d_Mo_joinFact_179 : decode c_Mo_joinFact 179 = .ok (.iload_n 1, 1) := by decide +kernel
theorem d_Mo_joinFact_180 : decode c_Mo_joinFact 180 = .ok (.iload 7, 2) := by decide +kernel
theorem d_Mo_joinFact_182 : decode c_Mo_joinFact 182 = .ok (.iastore, 1) := by decide +kernel
theorem d_Mo_joinFact_183 : decode c_Mo_joinFact 183 = .ok (.return_, 1) := by decide +kernel
theorem d_Mo_least_0 : decode c_Mo_least 0 = .ok (.iload_n 0, 1) := by decide +kernel
theorem d_Mo_least_1 : decode c_Mo_least 1 = .ok (.iload_n 1, 1) := by decide +kernel
theorem d_Mo_least_2 : decode c_Mo_least 2 = .ok (.if_icmp .ge 7, 3) := by decide +kernel
theorem d_Mo_least_5 : decode c_Mo_least 5 = .ok (.iload_n 0, 1) := by decide +kernel
theorem d_Mo_least_6 : decode c_Mo_least 6 = .ok (.goto 4, 3) := by decide +kernel
theorem d_Mo_least_9 : decode c_Mo_least 9 = .ok (.iload_n 1, 1) := by decide +kernel
theorem d_Mo_least_10 : decode c_Mo_least 10 = .ok (.ireturn, 1) := by decide +kernel
theorem d_Mo_zeros_0 : decode c_Mo_zeros 0 = .ok (.iconst 0, 1) := by decide +kernel
theorem d_Mo_zeros_1 : decode c_Mo_zeros 1 = .ok (.istore_n 1, 1) := by decide +kernel
theorem d_Mo_zeros_2 : decode c_Mo_zeros 2 = .ok (.iload_n 1, 1) := by decide +kernel
theorem d_Mo_zeros_3 : decode c_Mo_zeros 3 = .ok (.bipush 32, 2) := by decide +kernel
theorem d_Mo_zeros_5 : decode c_Mo_zeros 5 = .ok (.if_icmp .ge 17, 3) := by decide +kernel
theorem d_Mo_zeros_8 : decode c_Mo_zeros 8 = .ok (.iload_n 0, 1) := by decide +kernel
theorem d_Mo_zeros_9 : decode c_Mo_zeros 9 = .ok (.iload_n 1, 1) := by decide +kernel
theorem d_Mo_zeros_10 : decode c_Mo_zeros 10 = .ok (.ishr, 1) := by decide +kernel
theorem d_Mo_zeros_11 : decode c_Mo_zeros 11 = .ok (.iconst 1, 1) := by decide +kernel
theorem d_Mo_zeros_12 : decode c_Mo_zeros 12 = .ok (.iand, 1) := by decide +kernel
theorem d_Mo_zeros_13 : decode c_Mo_zeros 13 = .ok (.ifCond .ne 9, 3) := by decide +kernel
theorem d_Mo_zeros_16 : decode c_Mo_zeros 16 = .ok (.iinc 1 1, 3) := by decide +kernel
theorem d_Mo_zeros_19 : decode c_Mo_zeros 19 = .ok (.goto (-17), 3) := by decide +kernel
theorem d_Mo_zeros_22 : decode c_Mo_zeros 22 = .ok (.iload_n 1, 1) := by decide +kernel
theorem d_Mo_zeros_23 : decode c_Mo_zeros 23 = .ok (.ireturn, 1) := by decide +kernel
theorem d_Mo_cut_0 : decode c_Mo_cut 0 = .ok (.iload_n 1, 1) := by decide +kernel
theorem d_Mo_cut_1 : decode c_Mo_cut 1 = .ok (.bipush 32, 2) := by decide +kernel
theorem d_Mo_cut_3 : decode c_Mo_cut 3 = .ok (.if_icmp .ne 7, 3) := by decide +kernel
theorem d_Mo_cut_6 : decode c_Mo_cut 6 = .ok (.iload_n 0, 1) := by decide +kernel
theorem d_Mo_cut_7 : decode c_Mo_cut 7 = .ok (.goto 10, 3) := by decide +kernel
theorem d_Mo_cut_10 : decode c_Mo_cut 10 = .ok (.iload_n 0, 1) := by decide +kernel
theorem d_Mo_cut_11 : decode c_Mo_cut 11 = .ok (.iconst 1, 1) := by decide +kernel
theorem d_Mo_cut_12 : decode c_Mo_cut 12 = .ok (.iload_n 1, 1) := by decide +kernel
theorem d_Mo_cut_13 : decode c_Mo_cut 13 = .ok (.ishl, 1) := by decide +kernel
theorem d_Mo_cut_14 : decode c_Mo_cut 14 = .ok (.iconst 1, 1) := by decide +kernel
theorem d_Mo_cut_15 : decode c_Mo_cut 15 = .ok (.isub, 1) := by decide +kernel
theorem d_Mo_cut_16 : decode c_Mo_cut 16 = .ok (.iand, 1) := by decide +kernel
theorem d_Mo_cut_17 : decode c_Mo_cut 17 = .ok (.ireturn, 1) := by decide +kernel
theorem d_Mo_pass_0 : decode c_Mo_pass 0 = .ok (.aload_n 0, 1) := by decide +kernel
theorem d_Mo_pass_1 : decode c_Mo_pass 1 = .ok (.getfield 7, 3) := by decide +kernel
theorem d_Mo_pass_4 : decode c_Mo_pass 4 = .ok (.iload_n 1, 1) := by decide +kernel
theorem d_Mo_pass_5 : decode c_Mo_pass 5 = .ok (.iaload, 1) := by decide +kernel
theorem d_Mo_pass_6 : decode c_Mo_pass 6 = .ok (.istore_n 2, 1) := by decide +kernel
theorem d_Mo_pass_7 : decode c_Mo_pass 7 = .ok (.iload_n 2, 1) := by decide +kernel
theorem d_Mo_pass_8 : decode c_Mo_pass 8 = .ok (.bipush 7, 2) := by decide +kernel
theorem d_Mo_pass_10 : decode c_Mo_pass 10 = .ok (.if_icmp .ne 7, 3) := by decide +kernel
theorem d_Mo_pass_13 : decode c_Mo_pass 13 = .ok (.iconst 2, 1) := by decide +kernel
theorem d_Mo_pass_14 : decode c_Mo_pass 14 = .ok (.goto 4, 3) := by decide +kernel
theorem d_Mo_pass_17 : decode c_Mo_pass 17 = .ok (.iconst 1, 1) := by decide +kernel
theorem d_Mo_pass_18 : decode c_Mo_pass 18 = .ok (.istore_n 3, 1) := by decide +kernel
theorem d_Mo_pass_19 : decode c_Mo_pass 19 = .ok (.aload_n 0, 1) := by decide +kernel
theorem d_Mo_pass_20 : decode c_Mo_pass 20 = .ok (.iload_n 1, 1) := by decide +kernel
theorem d_Mo_pass_21 : decode c_Mo_pass 21 = .ok (.invokevirtual 159, 3) := by decide +kernel
theorem d_Mo_pass_24 : decode c_Mo_pass 24 = .ok (.iload_n 2, 1) := by decide +kernel
theorem d_Mo_pass_25 : decode c_Mo_pass 25 = .ok (.bipush 9, 2) := by decide +kernel
theorem d_Mo_pass_27 : decode c_Mo_pass 27 = .ok (.if_icmp .ne 16, 3) := by decide +kernel
theorem d_Mo_pass_30 : decode c_Mo_pass 30 = .ok (.aload_n 0, 1) := by decide +kernel
theorem d_Mo_pass_31 : decode c_Mo_pass 31 = .ok (.aload_n 0, 1) := by decide +kernel
theorem d_Mo_pass_32 : decode c_Mo_pass 32 = .ok (.getfield 19, 3) := by decide +kernel
theorem d_Mo_pass_35 : decode c_Mo_pass 35 = .ok (.iload_n 1, 1) := by decide +kernel
theorem d_Mo_pass_36 : decode c_Mo_pass 36 = .ok (.iaload, 1) := by decide +kernel
theorem d_Mo_pass_37 : decode c_Mo_pass 37 = .ok (.invokevirtual 162, 3) := by decide +kernel
theorem d_Mo_pass_40 : decode c_Mo_pass 40 = .ok (.goto 92, 3) := by decide +kernel
theorem d_Mo_pass_43 : decode c_Mo_pass 43 = .ok (.iload_n 2, 1) := by decide +kernel
theorem d_Mo_pass_44 : decode c_Mo_pass 44 = .ok (.bipush 7, 2) := by decide +kernel
theorem d_Mo_pass_46 : decode c_Mo_pass 46 = .ok (.if_icmp .eq 9, 3) := by decide +kernel
theorem d_Mo_pass_49 : decode c_Mo_pass 49 = .ok (.iload_n 2, 1) := by decide +kernel
theorem d_Mo_pass_50 : decode c_Mo_pass 50 = .ok (.bipush 8, 2) := by decide +kernel
theorem d_Mo_pass_52 : decode c_Mo_pass 52 = .ok (.if_icmp .ne 59, 3) := by decide +kernel
theorem d_Mo_pass_55 : decode c_Mo_pass 55 = .ok (.aload_n 0, 1) := by decide +kernel
theorem d_Mo_pass_56 : decode c_Mo_pass 56 = .ok (.aload_n 0, 1) := by decide +kernel
theorem d_Mo_pass_57 : decode c_Mo_pass 57 = .ok (.getfield 13, 3) := by decide +kernel
theorem d_Mo_pass_60 : decode c_Mo_pass 60 = .ok (.iload_n 1, 1) := by decide +kernel
theorem d_Mo_pass_61 : decode c_Mo_pass 61 = .ok (.iaload, 1) := by decide +kernel
theorem d_Mo_pass_62 : decode c_Mo_pass 62 = .ok (.iload_n 3, 1) := by decide +kernel
theorem d_Mo_pass_63 : decode c_Mo_pass 63 = .ok (.invokevirtual 144, 3) := by decide +kernel
theorem d_Mo_pass_66 : decode c_Mo_pass 66 = .ok (.ifCond .eq 13, 3) := by decide +kernel
theorem d_Mo_pass_69 : decode c_Mo_pass 69 = .ok (.aload_n 0, 1) := by decide +kernel
theorem d_Mo_pass_70 : decode c_Mo_pass 70 = .ok (.aload_n 0, 1) := by decide +kernel
theorem d_Mo_pass_71 : decode c_Mo_pass 71 = .ok (.getfield 19, 3) := by decide +kernel
theorem d_Mo_pass_74 : decode c_Mo_pass 74 = .ok (.iload_n 1, 1) := by decide +kernel
theorem d_Mo_pass_75 : decode c_Mo_pass 75 = .ok (.iaload, 1) := by decide +kernel
theorem d_Mo_pass_76 : decode c_Mo_pass 76 = .ok (.invokevirtual 162, 3) := by decide +kernel
theorem d_Mo_pass_79 : decode c_Mo_pass 79 = .ok (.aload_n 0, 1) := by decide +kernel
theorem d_Mo_pass_80 : decode c_Mo_pass 80 = .ok (.iload_n 1, 1) := by decide +kernel
theorem d_Mo_pass_81 : decode c_Mo_pass 81 = .ok (.invokevirtual 159, 3) := by decide +kernel
theorem d_Mo_pass_84 : decode c_Mo_pass 84 = .ok (.aload_n 0, 1) := by decide +kernel
theorem d_Mo_pass_85 : decode c_Mo_pass 85 = .ok (.aload_n 0, 1) := by decide +kernel
theorem d_Mo_pass_86 : decode c_Mo_pass 86 = .ok (.getfield 13, 3) := by decide +kernel
theorem d_Mo_pass_89 : decode c_Mo_pass 89 = .ok (.iload_n 1, 1) := by decide +kernel
theorem d_Mo_pass_90 : decode c_Mo_pass 90 = .ok (.iaload, 1) := by decide +kernel
theorem d_Mo_pass_91 : decode c_Mo_pass 91 = .ok (.bipush 7, 2) := by decide +kernel
theorem d_Mo_pass_93 : decode c_Mo_pass 93 = .ok (.iload_n 3, 1) := by decide +kernel
theorem d_Mo_pass_94 : decode c_Mo_pass 94 = .ok (.isub, 1) := by decide +kernel
theorem d_Mo_pass_95 : decode c_Mo_pass 95 = .ok (.invokevirtual 144, 3) := by decide +kernel
theorem d_Mo_pass_98 : decode c_Mo_pass 98 = .ok (.ifCond .eq 34, 3) := by decide +kernel
theorem d_Mo_pass_101 : decode c_Mo_pass 101 = .ok (.aload_n 0, 1) := by decide +kernel
theorem d_Mo_pass_102 : decode c_Mo_pass 102 = .ok (.iload_n 1, 1) := by decide +kernel
theorem d_Mo_pass_103 : decode c_Mo_pass 103 = .ok (.iconst 1, 1) := by decide +kernel
theorem d_Mo_pass_104 : decode c_Mo_pass 104 = .ok (.iadd, 1) := by decide +kernel
theorem d_Mo_pass_105 : decode c_Mo_pass 105 = .ok (.invokevirtual 162, 3) := by decide +kernel
theorem d_Mo_pass_108 : decode c_Mo_pass 108 = .ok (.goto 24, 3) := by decide +kernel
theorem d_Mo_pass_111 : decode c_Mo_pass 111 = .ok (.iload_n 2, 1) := by decide +kernel
theorem d_Mo_pass_112 : decode c_Mo_pass 112 = .ok (.bipush 11, 2) := by decide +kernel
theorem d_Mo_pass_114 : decode c_Mo_pass 114 = .ok (.if_icmp .eq 18, 3) := by decide +kernel
theorem d_Mo_pass_117 : decode c_Mo_pass 117 = .ok (.aload_n 0, 1) := by decide +kernel
theorem d_Mo_pass_118 : decode c_Mo_pass 118 = .ok (.iload_n 1, 1) := by decide +kernel
theorem d_Mo_pass_119 : decode c_Mo_pass 119 = .ok (.invokevirtual 165, 3) := by decide +kernel
theorem d_Mo_pass_122 : decode c_Mo_pass 122 = .ok (.ifCond .eq 10, 3) := by decide +kernel
theorem d_Mo_pass_125 : decode c_Mo_pass 125 = .ok (.aload_n 0, 1) := by decide +kernel
theorem d_Mo_pass_126 : decode c_Mo_pass 126 = .ok (.iload_n 1, 1) := by decide +kernel
theorem d_Mo_pass_127 : decode c_Mo_pass 127 = .ok (.iconst 1, 1) := by decide +kernel
theorem d_Mo_pass_128 : decode c_Mo_pass 128 = .ok (.iadd, 1) := by decide +kernel
theorem d_Mo_pass_129 : decode c_Mo_pass 129 = .ok (.invokevirtual 162, 3) := by decide +kernel
theorem d_Mo_pass_132 : decode c_Mo_pass 132 = .ok (.return_, 1) := by decide +kernel
theorem d_Mo_load_0 : decode c_Mo_load 0 = .ok (.iconst 0, 1) := by decide +kernel
theorem d_Mo_load_1 : decode c_Mo_load 1 = .ok (.istore_n 2, 1) := by decide +kernel
theorem d_Mo_load_2 : decode c_Mo_load 2 = .ok (.iload_n 2, 1) := by decide +kernel
theorem d_Mo_load_3 : decode c_Mo_load 3 = .ok (.iconst 4, 1) := by decide +kernel
theorem d_Mo_load_4 : decode c_Mo_load 4 = .ok (.if_icmp .ge 57, 3) := by decide +kernel
theorem d_Mo_load_7 : decode c_Mo_load 7 = .ok (.aload_n 0, 1) := by decide +kernel
theorem d_Mo_load_8 : decode c_Mo_load 8 = .ok (.getfield 35, 3) := by decide +kernel
theorem d_Mo_load_11 : decode c_Mo_load 11 = .ok (.iload_n 2, 1) := by decide +kernel
theorem d_Mo_load_12 : decode c_Mo_load 12 = .ok (.aload_n 0, 1) := by decide +kernel
theorem d_Mo_load_13 : decode c_Mo_load 13 = .ok (.getfield 26, 3) := by decide +kernel
theorem d_Mo_load_16 : decode c_Mo_load 16 = .ok (.iconst 4, 1) := by decide +kernel
theorem d_Mo_load_17 : decode c_Mo_load 17 = .ok (.iload_n 1, 1) := by decide +kernel
theorem d_Mo_load_18 : decode c_Mo_load 18 = .ok (.imul, 1) := by decide +kernel
theorem d_Mo_load_19 : decode c_Mo_load 19 = .ok (.iload_n 2, 1) := by decide +kernel
theorem d_Mo_load_20 : decode c_Mo_load 20 = .ok (.iadd, 1) := by decide +kernel
theorem d_Mo_load_21 : decode c_Mo_load 21 = .ok (.iaload, 1) := by decide +kernel
theorem d_Mo_load_22 : decode c_Mo_load 22 = .ok (.iastore, 1) := by decide +kernel
theorem d_Mo_load_23 : decode c_Mo_load 23 = .ok (.aload_n 0, 1) := by decide +kernel
theorem d_Mo_load_24 : decode c_Mo_load 24 = .ok (.getfield 38, 3) := by decide +kernel
theorem d_Mo_load_27 : decode c_Mo_load 27 = .ok (.iload_n 2, 1) := by decide +kernel
theorem d_Mo_load_28 : decode c_Mo_load 28 = .ok (.aload_n 0, 1) := by decide +kernel
theorem d_Mo_load_29 : decode c_Mo_load 29 = .ok (.getfield 29, 3) := by decide +kernel
theorem d_Mo_load_32 : decode c_Mo_load 32 = .ok (.iconst 4, 1) := by decide +kernel
theorem d_Mo_load_33 : decode c_Mo_load 33 = .ok (.iload_n 1, 1) := by decide +kernel
theorem d_Mo_load_34 : decode c_Mo_load 34 = .ok (.imul, 1) := by decide +kernel
theorem d_Mo_load_35 : decode c_Mo_load 35 = .ok (.iload_n 2, 1) := by decide +kernel
theorem d_Mo_load_36 : decode c_Mo_load 36 = .ok (.iadd, 1) := by decide +kernel
theorem d_Mo_load_37 : decode c_Mo_load 37 = .ok (.iaload, 1) := by decide +kernel
theorem d_Mo_load_38 : decode c_Mo_load 38 = .ok (.iastore, 1) := by decide +kernel
theorem d_Mo_load_39 : decode c_Mo_load 39 = .ok (.aload_n 0, 1) := by decide +kernel
theorem d_Mo_load_40 : decode c_Mo_load 40 = .ok (.getfield 41, 3) := by decide +kernel
theorem d_Mo_load_43 : decode c_Mo_load 43 = .ok (.iload_n 2, 1) := by decide +kernel
theorem d_Mo_load_44 : decode c_Mo_load 44 = .ok (.aload_n 0, 1) := by decide +kernel
theorem d_Mo_load_45 : decode c_Mo_load 45 = .ok (.getfield 32, 3) := by decide +kernel
theorem d_Mo_load_48 : decode c_Mo_load 48 = .ok (.iconst 4, 1) := by decide +kernel
theorem d_Mo_load_49 : decode c_Mo_load 49 = .ok (.iload_n 1, 1) := by decide +kernel
theorem d_Mo_load_50 : decode c_Mo_load 50 = .ok (.imul, 1) := by decide +kernel
theorem d_Mo_load_51 : decode c_Mo_load 51 = .ok (.iload_n 2, 1) := by decide +kernel
theorem d_Mo_load_52 : decode c_Mo_load 52 = .ok (.iadd, 1) := by decide +kernel
theorem d_Mo_load_53 : decode c_Mo_load 53 = .ok (.iaload, 1) := by decide +kernel
theorem d_Mo_load_54 : decode c_Mo_load 54 = .ok (.iastore, 1) := by decide +kernel
theorem d_Mo_load_55 : decode c_Mo_load 55 = .ok (.iinc 2 1, 3) := by decide +kernel
theorem d_Mo_load_58 : decode c_Mo_load 58 = .ok (.goto (-56), 3) := by decide +kernel
theorem d_Mo_load_61 : decode c_Mo_load 61 = .ok (.return_, 1) := by decide +kernel
theorem d_Mo_only_0 : decode c_Mo_only 0 = .ok (.aload_n 0, 1) := by decide +kernel
theorem d_Mo_only_1 : decode c_Mo_only 1 = .ok (.aload_n 0, 1) := by decide +kernel
theorem d_Mo_only_2 : decode c_Mo_only 2 = .ok (.getfield 35, 3) := by decide +kernel
theorem d_Mo_only_5 : decode c_Mo_only 5 = .ok (.iload_n 1, 1) := by decide +kernel
theorem d_Mo_only_6 : decode c_Mo_only 6 = .ok (.iaload, 1) := by decide +kernel
theorem d_Mo_only_7 : decode c_Mo_only 7 = .ok (.aload_n 0, 1) := by decide +kernel
theorem d_Mo_only_8 : decode c_Mo_only 8 = .ok (.getfield 38, 3) := by decide +kernel
theorem d_Mo_only_11 : decode c_Mo_only 11 = .ok (.iload_n 1, 1) := by decide +kernel
theorem d_Mo_only_12 : decode c_Mo_only 12 = .ok (.iaload, 1) := by decide +kernel
theorem d_Mo_only_13 : decode c_Mo_only 13 = .ok (.aload_n 0, 1) := by decide +kernel
theorem d_Mo_only_14 : decode c_Mo_only 14 = .ok (.getfield 41, 3) := by decide +kernel
theorem d_Mo_only_17 : decode c_Mo_only 17 = .ok (.iload_n 1, 1) := by decide +kernel
theorem d_Mo_only_18 : decode c_Mo_only 18 = .ok (.iaload, 1) := by decide +kernel
theorem d_Mo_only_19 : decode c_Mo_only 19 = .ok (.iload_n 2, 1) := by decide +kernel
theorem d_Mo_only_20 : decode c_Mo_only 20 = .ok (.iand, 1) := by decide +kernel
theorem d_Mo_only_21 : decode c_Mo_only 21 = .ok (.invokevirtual 126, 3) := by decide +kernel
theorem d_Mo_only_24 : decode c_Mo_only 24 = .ok (.aload_n 0, 1) := by decide +kernel
theorem d_Mo_only_25 : decode c_Mo_only 25 = .ok (.invokevirtual 136, 3) := by decide +kernel
theorem d_Mo_only_28 : decode c_Mo_only 28 = .ok (.ifCond .ne 5, 3) := by decide +kernel
theorem d_Mo_only_31 : decode c_Mo_only 31 = .ok (.iconst 0, 1) := by decide +kernel
theorem d_Mo_only_32 : decode c_Mo_only 32 = .ok (.ireturn, 1) := by decide +kernel
theorem d_Mo_only_33 : decode c_Mo_only 33 = .ok (.aload_n 0, 1) := by decide +kernel
theorem d_Mo_only_34 : decode c_Mo_only 34 = .ok (.iload_n 1, 1) := by decide +kernel
theorem d_Mo_only_35 : decode c_Mo_only 35 = .ok (.invokevirtual 140, 3) := by decide +kernel
theorem d_Mo_only_38 : decode c_Mo_only 38 = .ok (.iconst 1, 1) := by decide +kernel
theorem d_Mo_only_39 : decode c_Mo_only 39 = .ok (.ireturn, 1) := by decide +kernel
theorem d_Mo_reduced_0 : decode c_Mo_reduced 0 = .ok (.aload_n 0, 1) := by decide +kernel
theorem d_Mo_reduced_1 : decode c_Mo_reduced 1 = .ok (.aload_n 0, 1) := by decide +kernel
theorem d_Mo_reduced_2 : decode c_Mo_reduced 2 = .ok (.getfield 90, 3) := by decide +kernel
theorem d_Mo_reduced_5 : decode c_Mo_reduced 5 = .ok (.aload_n 0, 1) := by decide +kernel
theorem d_Mo_reduced_6 : decode c_Mo_reduced 6 = .ok (.getfield 93, 3) := by decide +kernel
theorem d_Mo_reduced_9 : decode c_Mo_reduced 9 = .ok (.invokestatic 96, 3) := by decide +kernel
theorem d_Mo_reduced_12 : decode c_Mo_reduced 12 = .ok (.putfield 90, 3) := by decide +kernel
theorem d_Mo_reduced_15 : decode c_Mo_reduced 15 = .ok (.aload_n 0, 1) := by decide +kernel
theorem d_Mo_reduced_16 : decode c_Mo_reduced 16 = .ok (.getfield 93, 3) := by decide +kernel
theorem d_Mo_reduced_19 : decode c_Mo_reduced 19 = .ok (.bipush 32, 2) := by decide +kernel
theorem d_Mo_reduced_21 : decode c_Mo_reduced 21 = .ok (.if_icmp .ne 22, 3) := by decide +kernel
theorem d_Mo_reduced_24 : decode c_Mo_reduced 24 = .ok (.aload_n 0, 1) := by decide +kernel
theorem d_Mo_reduced_25 : decode c_Mo_reduced 25 = .ok (.aload_n 0, 1) := by decide +kernel
theorem d_Mo_reduced_26 : decode c_Mo_reduced 26 = .ok (.getfield 100, 3) := by decide +kernel
theorem d_Mo_reduced_29 : decode c_Mo_reduced 29 = .ok (.aload_n 0, 1) := by decide +kernel
theorem d_Mo_reduced_30 : decode c_Mo_reduced 30 = .ok (.getfield 90, 3) := by decide +kernel
theorem d_Mo_reduced_33 : decode c_Mo_reduced 33 = .ok (.invokestatic 103, 3) := by decide +kernel
theorem d_Mo_reduced_36 : decode c_Mo_reduced 36 = .ok (.iand, 1) := by decide +kernel
theorem d_Mo_reduced_37 : decode c_Mo_reduced 37 = .ok (.putfield 100, 3) := by decide +kernel
theorem d_Mo_reduced_40 : decode c_Mo_reduced 40 = .ok (.goto 21, 3) := by decide +kernel
theorem d_Mo_reduced_43 : decode c_Mo_reduced 43 = .ok (.aload_n 0, 1) := by decide +kernel
theorem d_Mo_reduced_44 : decode c_Mo_reduced 44 = .ok (.getfield 90, 3) := by decide +kernel
theorem d_Mo_reduced_47 : decode c_Mo_reduced 47 = .ok (.ifCond .eq 14, 3) := by decide +kernel
theorem d_Mo_reduced_50 : decode c_Mo_reduced 50 = .ok (.aload_n 0, 1) := by decide +kernel
theorem d_Mo_reduced_51 : decode c_Mo_reduced 51 = .ok (.aload_n 0, 1) := by decide +kernel
theorem d_Mo_reduced_52 : decode c_Mo_reduced 52 = .ok (.getfield 100, 3) := by decide +kernel
theorem d_Mo_reduced_55 : decode c_Mo_reduced 55 = .ok (.bipush (-3), 2) := by decide +kernel
theorem d_Mo_reduced_57 : decode c_Mo_reduced 57 = .ok (.iand, 1) := by decide +kernel
theorem d_Mo_reduced_58 : decode c_Mo_reduced 58 = .ok (.putfield 100, 3) := by decide +kernel
theorem d_Mo_reduced_61 : decode c_Mo_reduced 61 = .ok (.aload_n 0, 1) := by decide +kernel
theorem d_Mo_reduced_62 : decode c_Mo_reduced 62 = .ok (.getfield 100, 3) := by decide +kernel
theorem d_Mo_reduced_65 : decode c_Mo_reduced 65 = .ok (.iconst 2, 1) := by decide +kernel
theorem d_Mo_reduced_66 : decode c_Mo_reduced 66 = .ok (.if_icmp .ne 14, 3) := by decide +kernel
theorem d_Mo_reduced_69 : decode c_Mo_reduced 69 = .ok (.aload_n 0, 1) := by decide +kernel
theorem d_Mo_reduced_70 : decode c_Mo_reduced 70 = .ok (.bipush 32, 2) := by decide +kernel
theorem d_Mo_reduced_72 : decode c_Mo_reduced 72 = .ok (.putfield 93, 3) := by decide +kernel
theorem d_Mo_reduced_75 : decode c_Mo_reduced 75 = .ok (.aload_n 0, 1) := by decide +kernel
theorem d_Mo_reduced_76 : decode c_Mo_reduced 76 = .ok (.iconst 0, 1) := by decide +kernel
theorem d_Mo_reduced_77 : decode c_Mo_reduced 77 = .ok (.putfield 90, 3) := by decide +kernel
theorem d_Mo_reduced_80 : decode c_Mo_reduced 80 = .ok (.aload_n 0, 1) := by decide +kernel
theorem d_Mo_reduced_81 : decode c_Mo_reduced 81 = .ok (.getfield 100, 3) := by decide +kernel
theorem d_Mo_reduced_84 : decode c_Mo_reduced 84 = .ok (.ifCond .eq 7, 3) := by decide +kernel
theorem d_Mo_reduced_87 : decode c_Mo_reduced 87 = .ok (.iconst 1, 1) := by decide +kernel
theorem d_Mo_reduced_88 : decode c_Mo_reduced 88 = .ok (.goto 4, 3) := by decide +kernel
theorem d_Mo_reduced_91 : decode c_Mo_reduced 91 = .ok (.iconst 0, 1) := by decide +kernel
theorem d_Mo_reduced_92 : decode c_Mo_reduced 92 = .ok (.ireturn, 1) := by decide +kernel
theorem d_Mo_sign_0 : decode c_Mo_sign 0 = .ok (.iload_n 0, 1) := by decide +kernel
theorem d_Mo_sign_1 : decode c_Mo_sign 1 = .ok (.ifCond .ge 7, 3) := by decide +kernel
theorem d_Mo_sign_4 : decode c_Mo_sign 4 = .ok (.iconst 1, 1) := by decide +kernel
theorem d_Mo_sign_5 : decode c_Mo_sign 5 = .ok (.goto 12, 3) := by decide +kernel
theorem d_Mo_sign_8 : decode c_Mo_sign 8 = .ok (.iload_n 0, 1) := by decide +kernel
theorem d_Mo_sign_9 : decode c_Mo_sign 9 = .ok (.ifCond .le 7, 3) := by decide +kernel
theorem d_Mo_sign_12 : decode c_Mo_sign 12 = .ok (.iconst 4, 1) := by decide +kernel
theorem d_Mo_sign_13 : decode c_Mo_sign 13 = .ok (.goto 4, 3) := by decide +kernel
theorem d_Mo_sign_16 : decode c_Mo_sign 16 = .ok (.iconst 2, 1) := by decide +kernel
theorem d_Mo_sign_17 : decode c_Mo_sign 17 = .ok (.ireturn, 1) := by decide +kernel
theorem d_Mo_worked_0 : decode c_Mo_worked 0 = .ok (.aload_n 0, 1) := by decide +kernel
theorem d_Mo_worked_1 : decode c_Mo_worked 1 = .ok (.getfield 7, 3) := by decide +kernel
theorem d_Mo_worked_4 : decode c_Mo_worked 4 = .ok (.iload_n 1, 1) := by decide +kernel
theorem d_Mo_worked_5 : decode c_Mo_worked 5 = .ok (.iaload, 1) := by decide +kernel
theorem d_Mo_worked_6 : decode c_Mo_worked 6 = .ok (.istore_n 2, 1) := by decide +kernel
theorem d_Mo_worked_7 : decode c_Mo_worked 7 = .ok (.aload_n 0, 1) := by decide +kernel
theorem d_Mo_worked_8 : decode c_Mo_worked 8 = .ok (.getfield 13, 3) := by decide +kernel
theorem d_Mo_worked_11 : decode c_Mo_worked 11 = .ok (.iload_n 1, 1) := by decide +kernel
theorem d_Mo_worked_12 : decode c_Mo_worked 12 = .ok (.iaload, 1) := by decide +kernel
theorem d_Mo_worked_13 : decode c_Mo_worked 13 = .ok (.istore_n 3, 1) := by decide +kernel
theorem d_Mo_worked_14 : decode c_Mo_worked 14 = .ok (.iload_n 2, 1) := by decide +kernel
theorem d_Mo_worked_15 : decode c_Mo_worked 15 = .ok (.ifCond .ne 32, 3) := by decide +kernel
theorem d_Mo_worked_18 : decode c_Mo_worked 18 = .ok (.aload_n 0, 1) := by decide +kernel
theorem d_Mo_worked_19 : decode c_Mo_worked 19 = .ok (.bipush 32, 2) := by decide +kernel
theorem d_Mo_worked_21 : decode c_Mo_worked 21 = .ok (.aload_n 0, 1) := by decide +kernel
theorem d_Mo_worked_22 : decode c_Mo_worked 22 = .ok (.getfield 19, 3) := by decide +kernel
theorem d_Mo_worked_25 : decode c_Mo_worked 25 = .ok (.iload_n 1, 1) := by decide +kernel
theorem d_Mo_worked_26 : decode c_Mo_worked 26 = .ok (.iaload, 1) := by decide +kernel
theorem d_Mo_worked_27 : decode c_Mo_worked 27 = .ok (.aload_n 0, 1) := by decide +kernel
theorem d_Mo_worked_28 : decode c_Mo_worked 28 = .ok (.getfield 19, 3) := by decide +kernel
theorem d_Mo_worked_31 : decode c_Mo_worked 31 = .ok (.iload_n 1, 1) := by decide +kernel
theorem d_Mo_worked_32 : decode c_Mo_worked 32 = .ok (.iaload, 1) := by decide +kernel
theorem d_Mo_worked_33 : decode c_Mo_worked 33 = .ok (.invokestatic 103, 3) := by decide +kernel
theorem d_Mo_worked_36 : decode c_Mo_worked 36 = .ok (.invokevirtual 126, 3) := by decide +kernel
theorem d_Mo_worked_39 : decode c_Mo_worked 39 = .ok (.aload_n 0, 1) := by decide +kernel
theorem d_Mo_worked_40 : decode c_Mo_worked 40 = .ok (.iload_n 3, 1) := by decide +kernel
theorem d_Mo_worked_41 : decode c_Mo_worked 41 = .ok (.invokevirtual 140, 3) := by decide +kernel
theorem d_Mo_worked_44 : decode c_Mo_worked 44 = .ok (.goto 134, 3) := by decide +kernel
theorem d_Mo_worked_47 : decode c_Mo_worked 47 = .ok (.iload_n 2, 1) := by decide +kernel
theorem d_Mo_worked_48 : decode c_Mo_worked 48 = .ok (.iconst 1, 1) := by decide +kernel
theorem d_Mo_worked_49 : decode c_Mo_worked 49 = .ok (.if_icmp .ne 48, 3) := by decide +kernel
theorem d_Mo_worked_52 : decode c_Mo_worked 52 = .ok (.aload_n 0, 1) := by decide +kernel
theorem d_Mo_worked_53 : decode c_Mo_worked 53 = .ok (.aload_n 0, 1) := by decide +kernel
theorem d_Mo_worked_54 : decode c_Mo_worked 54 = .ok (.getfield 35, 3) := by decide +kernel
theorem d_Mo_worked_57 : decode c_Mo_worked 57 = .ok (.aload_n 0, 1) := by decide +kernel
theorem d_Mo_worked_58 : decode c_Mo_worked 58 = .ok (.getfield 16, 3) := by decide +kernel
theorem d_Mo_worked_61 : decode c_Mo_worked 61 = .ok (.iload_n 1, 1) := by decide +kernel
theorem d_Mo_worked_62 : decode c_Mo_worked 62 = .ok (.iaload, 1) := by decide +kernel
theorem d_Mo_worked_63 : decode c_Mo_worked 63 = .ok (.iaload, 1) := by decide +kernel
theorem d_Mo_worked_64 : decode c_Mo_worked 64 = .ok (.aload_n 0, 1) := by decide +kernel
theorem d_Mo_worked_65 : decode c_Mo_worked 65 = .ok (.getfield 38, 3) := by decide +kernel
theorem d_Mo_worked_68 : decode c_Mo_worked 68 = .ok (.aload_n 0, 1) := by decide +kernel
theorem d_Mo_worked_69 : decode c_Mo_worked 69 = .ok (.getfield 16, 3) := by decide +kernel
theorem d_Mo_worked_72 : decode c_Mo_worked 72 = .ok (.iload_n 1, 1) := by decide +kernel
theorem d_Mo_worked_73 : decode c_Mo_worked 73 = .ok (.iaload, 1) := by decide +kernel
theorem d_Mo_worked_74 : decode c_Mo_worked 74 = .ok (.iaload, 1) := by decide +kernel
theorem d_Mo_worked_75 : decode c_Mo_worked 75 = .ok (.aload_n 0, 1) := by decide +kernel
theorem d_Mo_worked_76 : decode c_Mo_worked 76 = .ok (.getfield 41, 3) := by decide +kernel
theorem d_Mo_worked_79 : decode c_Mo_worked 79 = .ok (.aload_n 0, 1) := by decide +kernel
theorem d_Mo_worked_80 : decode c_Mo_worked 80 = .ok (.getfield 16, 3) := by decide +kernel
theorem d_Mo_worked_83 : decode c_Mo_worked 83 = .ok (.iload_n 1, 1) := by decide +kernel
theorem d_Mo_worked_84 : decode c_Mo_worked 84 = .ok (.iaload, 1) := by decide +kernel
theorem d_Mo_worked_85 : decode c_Mo_worked 85 = .ok (.iaload, 1) := by decide +kernel
theorem d_Mo_worked_86 : decode c_Mo_worked 86 = .ok (.invokevirtual 126, 3) := by decide +kernel
theorem d_Mo_worked_89 : decode c_Mo_worked 89 = .ok (.aload_n 0, 1) := by decide +kernel
theorem d_Mo_worked_90 : decode c_Mo_worked 90 = .ok (.iload_n 3, 1) := by decide +kernel
theorem d_Mo_worked_91 : decode c_Mo_worked 91 = .ok (.invokevirtual 140, 3) := by decide +kernel
theorem d_Mo_worked_94 : decode c_Mo_worked 94 = .ok (.goto 84, 3) := by decide +kernel
theorem d_Mo_worked_97 : decode c_Mo_worked 97 = .ok (.iload_n 2, 1) := by decide +kernel
theorem d_Mo_worked_98 : decode c_Mo_worked 98 = .ok (.iconst 1, 1) := by decide +kernel
theorem d_Mo_worked_99 : decode c_Mo_worked 99 = .ok (.if_icmp .le 60, 3) := by decide +kernel
theorem d_Mo_worked_102 : decode c_Mo_worked 102 = .ok (.iload_n 2, 1) := by decide +kernel
theorem d_Mo_worked_103 : decode c_Mo_worked 103 = .ok (.bipush 6, 2) := by decide +kernel
theorem d_Mo_worked_105 : decode c_Mo_worked 105 = .ok (.if_icmp .ge 54, 3) := by decide +kernel
theorem d_Mo_worked_108 : decode c_Mo_worked 108 = .ok (.iload_n 2, 1) := by decide +kernel
theorem d_Mo_worked_109 : decode c_Mo_worked 109 = .ok (.iconst 5, 1) := by decide +kernel
theorem d_Mo_worked_110 : decode c_Mo_worked 110 = .ok (.if_icmp .ne 19, 3) := by decide +kernel
theorem d_Mo_worked_113 : decode c_Mo_worked 113 = .ok (.aload_n 0, 1) := by decide +kernel
theorem d_Mo_worked_114 : decode c_Mo_worked 114 = .ok (.aload_n 0, 1) := by decide +kernel
theorem d_Mo_worked_115 : decode c_Mo_worked 115 = .ok (.getfield 19, 3) := by decide +kernel
theorem d_Mo_worked_118 : decode c_Mo_worked 118 = .ok (.iload_n 1, 1) := by decide +kernel
theorem d_Mo_worked_119 : decode c_Mo_worked 119 = .ok (.iaload, 1) := by decide +kernel
theorem d_Mo_worked_120 : decode c_Mo_worked 120 = .ok (.iconst 5, 1) := by decide +kernel
theorem d_Mo_worked_121 : decode c_Mo_worked 121 = .ok (.invokevirtual 144, 3) := by decide +kernel
theorem d_Mo_worked_124 : decode c_Mo_worked 124 = .ok (.ifCond .ne 5, 3) := by decide +kernel
theorem d_Mo_worked_127 : decode c_Mo_worked 127 = .ok (.iconst 0, 1) := by decide +kernel
theorem d_Mo_worked_128 : decode c_Mo_worked 128 = .ok (.ireturn, 1) := by decide +kernel
theorem d_Mo_worked_129 : decode c_Mo_worked 129 = .ok (.aload_n 0, 1) := by decide +kernel
theorem d_Mo_worked_130 : decode c_Mo_worked 130 = .ok (.iload_n 2, 1) := by decide +kernel
theorem d_Mo_worked_131 : decode c_Mo_worked 131 = .ok (.aload_n 0, 1) := by decide +kernel
theorem d_Mo_worked_132 : decode c_Mo_worked 132 = .ok (.getfield 16, 3) := by decide +kernel
theorem d_Mo_worked_135 : decode c_Mo_worked 135 = .ok (.iload_n 1, 1) := by decide +kernel
theorem d_Mo_worked_136 : decode c_Mo_worked 136 = .ok (.iaload, 1) := by decide +kernel
theorem d_Mo_worked_137 : decode c_Mo_worked 137 = .ok (.aload_n 0, 1) := by decide +kernel
theorem d_Mo_worked_138 : decode c_Mo_worked 138 = .ok (.getfield 19, 3) := by decide +kernel
theorem d_Mo_worked_141 : decode c_Mo_worked 141 = .ok (.iload_n 1, 1) := by decide +kernel
theorem d_Mo_worked_142 : decode c_Mo_worked 142 = .ok (.iaload, 1) := by decide +kernel
theorem d_Mo_worked_143 : decode c_Mo_worked 143 = .ok (.invokevirtual 148, 3) := by decide +kernel
theorem d_Mo_worked_146 : decode c_Mo_worked 146 = .ok (.ifCond .ne 5, 3) := by decide +kernel
theorem d_Mo_worked_149 : decode c_Mo_worked 149 = .ok (.iconst 0, 1) := by decide +kernel
theorem d_Mo_worked_150 : decode c_Mo_worked 150 = .ok (.ireturn, 1) := by decide +kernel
theorem d_Mo_worked_151 : decode c_Mo_worked 151 = .ok (.aload_n 0, 1) := by decide +kernel
theorem d_Mo_worked_152 : decode c_Mo_worked 152 = .ok (.iload_n 3, 1) := by decide +kernel
theorem d_Mo_worked_153 : decode c_Mo_worked 153 = .ok (.invokevirtual 140, 3) := by decide +kernel
theorem d_Mo_worked_156 : decode c_Mo_worked 156 = .ok (.goto 22, 3) := by decide +kernel
theorem d_Mo_worked_159 : decode c_Mo_worked 159 = .ok (.iload_n 2, 1) := by decide +kernel
theorem d_Mo_worked_160 : decode c_Mo_worked 160 = .ok (.bipush 6, 2) := by decide +kernel
theorem d_Mo_worked_162 : decode c_Mo_worked 162 = .ok (.if_icmp .ne 16, 3) := by decide +kernel
theorem d_Mo_worked_165 : decode c_Mo_worked 165 = .ok (.aload_n 0, 1) := by decide +kernel
theorem d_Mo_worked_166 : decode c_Mo_worked 166 = .ok (.iconst 0, 1) := by decide +kernel
theorem d_Mo_worked_167 : decode c_Mo_worked 167 = .ok (.iconst 0, 1) := by decide +kernel
theorem d_Mo_worked_168 : decode c_Mo_worked 168 = .ok (.bipush 7, 2) := by decide +kernel
theorem d_Mo_worked_170 : decode c_Mo_worked 170 = .ok (.invokevirtual 126, 3) := by decide +kernel
theorem d_Mo_worked_173 : decode c_Mo_worked 173 = .ok (.aload_n 0, 1) := by decide +kernel
theorem d_Mo_worked_174 : decode c_Mo_worked 174 = .ok (.iload_n 3, 1) := by decide +kernel
theorem d_Mo_worked_175 : decode c_Mo_worked 175 = .ok (.invokevirtual 140, 3) := by decide +kernel
theorem d_Mo_worked_178 : decode c_Mo_worked 178 = .ok (.iconst 1, 1) := by decide +kernel
theorem d_Mo_worked_179 : decode c_Mo_worked 179 = .ok (.ireturn, 1) := by decide +kernel
theorem d_Mo_reckon_0 : decode c_Mo_reckon 0 = .ok (.aload_n 0, 1) := by decide +kernel
theorem d_Mo_reckon_1 : decode c_Mo_reckon 1 = .ok (.getfield 35, 3) := by decide +kernel
theorem d_Mo_reckon_4 : decode c_Mo_reckon 4 = .ok (.iload_n 2, 1) := by decide +kernel
theorem d_Mo_reckon_5 : decode c_Mo_reckon 5 = .ok (.iaload, 1) := by decide +kernel
theorem d_Mo_reckon_6 : decode c_Mo_reckon 6 = .ok (.aload_n 0, 1) := by decide +kernel
theorem d_Mo_reckon_7 : decode c_Mo_reckon 7 = .ok (.getfield 35, 3) := by decide +kernel
theorem d_Mo_reckon_10 : decode c_Mo_reckon 10 = .ok (.iload_n 3, 1) := by decide +kernel
theorem d_Mo_reckon_11 : decode c_Mo_reckon 11 = .ok (.iaload, 1) := by decide +kernel
theorem d_Mo_reckon_12 : decode c_Mo_reckon 12 = .ok (.invokestatic 120, 3) := by decide +kernel
theorem d_Mo_reckon_15 : decode c_Mo_reckon 15 = .ok (.istore 4, 2) := by decide +kernel
theorem d_Mo_reckon_17 : decode c_Mo_reckon 17 = .ok (.aload_n 0, 1) := by decide +kernel
theorem d_Mo_reckon_18 : decode c_Mo_reckon 18 = .ok (.iload_n 1, 1) := by decide +kernel
theorem d_Mo_reckon_19 : decode c_Mo_reckon 19 = .ok (.aload_n 0, 1) := by decide +kernel
theorem d_Mo_reckon_20 : decode c_Mo_reckon 20 = .ok (.getfield 41, 3) := by decide +kernel
theorem d_Mo_reckon_23 : decode c_Mo_reckon 23 = .ok (.iload_n 2, 1) := by decide +kernel
theorem d_Mo_reckon_24 : decode c_Mo_reckon 24 = .ok (.iaload, 1) := by decide +kernel
theorem d_Mo_reckon_25 : decode c_Mo_reckon 25 = .ok (.aload_n 0, 1) := by decide +kernel
theorem d_Mo_reckon_26 : decode c_Mo_reckon 26 = .ok (.getfield 41, 3) := by decide +kernel
theorem d_Mo_reckon_29 : decode c_Mo_reckon 29 = .ok (.iload_n 3, 1) := by decide +kernel
theorem d_Mo_reckon_30 : decode c_Mo_reckon 30 = .ok (.iaload, 1) := by decide +kernel
theorem d_Mo_reckon_31 : decode c_Mo_reckon 31 = .ok (.invokevirtual 123, 3) := by decide +kernel
theorem d_Mo_reckon_34 : decode c_Mo_reckon 34 = .ok (.istore 5, 2) := by decide +kernel
theorem d_Mo_reckon_36 : decode c_Mo_reckon 36 = .ok (.iload_n 1, 1) := by decide +kernel
theorem d_Mo_reckon_37 : decode c_Mo_reckon 37 = .ok (.iconst 2, 1) := by decide +kernel
theorem d_Mo_reckon_38 : decode c_Mo_reckon 38 = .ok (.if_icmp .ne 27, 3) := by decide +kernel
theorem d_Mo_reckon_41 : decode c_Mo_reckon 41 = .ok (.aload_n 0, 1) := by decide +kernel
theorem d_Mo_reckon_42 : decode c_Mo_reckon 42 = .ok (.iload 4, 2) := by decide +kernel
theorem d_Mo_reckon_44 : decode c_Mo_reckon 44 = .ok (.aload_n 0, 1) := by decide +kernel
theorem d_Mo_reckon_45 : decode c_Mo_reckon 45 = .ok (.getfield 38, 3) := by decide +kernel
theorem d_Mo_reckon_48 : decode c_Mo_reckon 48 = .ok (.iload_n 2, 1) := by decide +kernel
theorem d_Mo_reckon_49 : decode c_Mo_reckon 49 = .ok (.iaload, 1) := by decide +kernel
theorem d_Mo_reckon_50 : decode c_Mo_reckon 50 = .ok (.aload_n 0, 1) := by decide +kernel
theorem d_Mo_reckon_51 : decode c_Mo_reckon 51 = .ok (.getfield 38, 3) := by decide +kernel
theorem d_Mo_reckon_54 : decode c_Mo_reckon 54 = .ok (.iload_n 3, 1) := by decide +kernel
theorem d_Mo_reckon_55 : decode c_Mo_reckon 55 = .ok (.iaload, 1) := by decide +kernel
theorem d_Mo_reckon_56 : decode c_Mo_reckon 56 = .ok (.iadd, 1) := by decide +kernel
theorem d_Mo_reckon_57 : decode c_Mo_reckon 57 = .ok (.iload 5, 2) := by decide +kernel
theorem d_Mo_reckon_59 : decode c_Mo_reckon 59 = .ok (.invokevirtual 126, 3) := by decide +kernel
theorem d_Mo_reckon_62 : decode c_Mo_reckon 62 = .ok (.goto 210, 3) := by decide +kernel
theorem d_Mo_reckon_65 : decode c_Mo_reckon 65 = .ok (.iload_n 1, 1) := by decide +kernel
theorem d_Mo_reckon_66 : decode c_Mo_reckon 66 = .ok (.iconst 3, 1) := by decide +kernel
theorem d_Mo_reckon_67 : decode c_Mo_reckon 67 = .ok (.if_icmp .ne 27, 3) := by decide +kernel
theorem d_Mo_reckon_70 : decode c_Mo_reckon 70 = .ok (.aload_n 0, 1) := by decide +kernel
theorem d_Mo_reckon_71 : decode c_Mo_reckon 71 = .ok (.iload 4, 2) := by decide +kernel
theorem d_Mo_reckon_73 : decode c_Mo_reckon 73 = .ok (.aload_n 0, 1) := by decide +kernel
theorem d_Mo_reckon_74 : decode c_Mo_reckon 74 = .ok (.getfield 38, 3) := by decide +kernel
theorem d_Mo_reckon_77 : decode c_Mo_reckon 77 = .ok (.iload_n 2, 1) := by decide +kernel
theorem d_Mo_reckon_78 : decode c_Mo_reckon 78 = .ok (.iaload, 1) := by decide +kernel
theorem d_Mo_reckon_79 : decode c_Mo_reckon 79 = .ok (.aload_n 0, 1) := by decide +kernel
theorem d_Mo_reckon_80 : decode c_Mo_reckon 80 = .ok (.getfield 38, 3) := by decide +kernel
theorem d_Mo_reckon_83 : decode c_Mo_reckon 83 = .ok (.iload_n 3, 1) := by decide +kernel
theorem d_Mo_reckon_84 : decode c_Mo_reckon 84 = .ok (.iaload, 1) := by decide +kernel
theorem d_Mo_reckon_85 : decode c_Mo_reckon 85 = .ok (.isub, 1) := by decide +kernel
theorem d_Mo_reckon_86 : decode c_Mo_reckon 86 = .ok (.iload 5, 2) := by decide +kernel
theorem d_Mo_reckon_88 : decode c_Mo_reckon 88 = .ok (.invokevirtual 126, 3) := by decide +kernel
theorem d_Mo_reckon_91 : decode c_Mo_reckon 91 = .ok (.goto 181, 3) := by decide +kernel
theorem d_Mo_reckon_94 : decode c_Mo_reckon 94 = .ok (.iload_n 1, 1) := by decide +kernel
theorem d_Mo_reckon_95 : decode c_Mo_reckon 95 = .ok (.iconst 4, 1) := by decide +kernel
theorem d_Mo_reckon_96 : decode c_Mo_reckon 96 = .ok (.if_icmp .ne 112, 3) := by decide +kernel
theorem d_Mo_reckon_99 : decode c_Mo_reckon 99 = .ok (.aload_n 0, 1) := by decide +kernel
theorem d_Mo_reckon_100 : decode c_Mo_reckon 100 = .ok (.getfield 35, 3) := by decide +kernel
theorem d_Mo_reckon_103 : decode c_Mo_reckon 103 = .ok (.iload_n 2, 1) := by decide +kernel
theorem d_Mo_reckon_104 : decode c_Mo_reckon 104 = .ok (.iaload, 1) := by decide +kernel
theorem d_Mo_reckon_105 : decode c_Mo_reckon 105 = .ok (.aload_n 0, 1) := by decide +kernel
theorem d_Mo_reckon_106 : decode c_Mo_reckon 106 = .ok (.getfield 38, 3) := by decide +kernel
theorem d_Mo_reckon_109 : decode c_Mo_reckon 109 = .ok (.iload_n 3, 1) := by decide +kernel
theorem d_Mo_reckon_110 : decode c_Mo_reckon 110 = .ok (.iaload, 1) := by decide +kernel
theorem d_Mo_reckon_111 : decode c_Mo_reckon 111 = .ok (.invokestatic 130, 3) := by decide +kernel
theorem d_Mo_reckon_114 : decode c_Mo_reckon 114 = .ok (.iadd, 1) := by decide +kernel
theorem d_Mo_reckon_115 : decode c_Mo_reckon 115 = .ok (.istore 6, 2) := by decide +kernel
theorem d_Mo_reckon_117 : decode c_Mo_reckon 117 = .ok (.aload_n 0, 1) := by decide +kernel
theorem d_Mo_reckon_118 : decode c_Mo_reckon 118 = .ok (.getfield 35, 3) := by decide +kernel
theorem d_Mo_reckon_121 : decode c_Mo_reckon 121 = .ok (.iload_n 3, 1) := by decide +kernel
theorem d_Mo_reckon_122 : decode c_Mo_reckon 122 = .ok (.iaload, 1) := by decide +kernel
theorem d_Mo_reckon_123 : decode c_Mo_reckon 123 = .ok (.aload_n 0, 1) := by decide +kernel
