/-! decode rows 1400 .. (printed) -/
theorem d_Pr_goInstead_54 : decode c_Pr_goInstead 54 = .ok (.getfield 67, 3) := by decide +kernel
theorem d_Pr_goInstead_57 : decode c_Pr_goInstead 57 = .ok (.goto 4, 3) := by decide +kernel
theorem d_Pr_goInstead_60 : decode c_Pr_goInstead 60 = .ok (.iload_n 2, 1) := by decide +kernel
theorem d_Pr_goInstead_61 : decode c_Pr_goInstead 61 = .ok (.invokevirtual 74, 3) := by decide +kernel
theorem d_Pr_goInstead_64 : decode c_Pr_goInstead 64 = .ok (.iconst 1, 1) := by decide +kernel
theorem d_Pr_goInstead_65 : decode c_Pr_goInstead 65 = .ok (.ireturn, 1) := by decide +kernel
theorem d_Pr_setInstead_0 : decode c_Pr_setInstead 0 = .ok (.aload_n 1, 1) := by decide +kernel
theorem d_Pr_setInstead_1 : decode c_Pr_setInstead 1 = .ok (.getfield 82, 3) := by decide +kernel
theorem d_Pr_setInstead_4 : decode c_Pr_setInstead 4 = .ok (.bipush 32, 2) := by decide +kernel
theorem d_Pr_setInstead_6 : decode c_Pr_setInstead 6 = .ok (.if_icmp .eq 5, 3) := by decide +kernel
theorem d_Pr_setInstead_9 : decode c_Pr_setInstead 9 = .ok (.iconst 0, 1) := by decide +kernel
theorem d_Pr_setInstead_10 : decode c_Pr_setInstead 10 = .ok (.ireturn, 1) := by decide +kernel
theorem d_Pr_setInstead_11 : decode c_Pr_setInstead 11 = .ok (.aload_n 0, 1) := by decide +kernel
theorem d_Pr_setInstead_12 : decode c_Pr_setInstead 12 = .ok (.iconst 0, 1) := by decide +kernel
theorem d_Pr_setInstead_13 : decode c_Pr_setInstead 13 = .ok (.aload_n 0, 1) := by decide +kernel
theorem d_Pr_setInstead_14 : decode c_Pr_setInstead 14 = .ok (.getfield 46, 3) := by decide +kernel
theorem d_Pr_setInstead_17 : decode c_Pr_setInstead 17 = .ok (.iconst 0, 1) := by decide +kernel
theorem d_Pr_setInstead_18 : decode c_Pr_setInstead 18 = .ok (.aload_n 1, 1) := by decide +kernel
theorem d_Pr_setInstead_19 : decode c_Pr_setInstead 19 = .ok (.getfield 85, 3) := by decide +kernel
theorem d_Pr_setInstead_22 : decode c_Pr_setInstead 22 = .ok (.invokevirtual 74, 3) := by decide +kernel
theorem d_Pr_setInstead_25 : decode c_Pr_setInstead 25 = .ok (.iconst 1, 1) := by decide +kernel
theorem d_Pr_setInstead_26 : decode c_Pr_setInstead 26 = .ok (.ireturn, 1) := by decide +kernel
theorem d_Ff_input_0 : decode c_Ff_input 0 = .ok (.aload_n 0, 1) := by decide +kernel
theorem d_Ff_input_1 : decode c_Ff_input 1 = .ok (.getfield 26, 3) := by decide +kernel
theorem d_Ff_input_4 : decode c_Ff_input 4 = .ok (.iload_n 1, 1) := by decide +kernel
theorem d_Ff_input_5 : decode c_Ff_input 5 = .ok (.invokevirtual 102, 3) := by decide +kernel
theorem d_Ff_input_8 : decode c_Ff_input 8 = .ok (.ireturn, 1) := by decide +kernel
theorem d_Ip_take_0 : decode c_Ip_take 0 = .ok (.aload_n 0, 1) := by decide +kernel
theorem d_Ip_take_1 : decode c_Ip_take 1 = .ok (.getfield 15, 3) := by decide +kernel
theorem d_Ip_take_4 : decode c_Ip_take 4 = .ok (.bipush 16, 2) := by decide +kernel
theorem d_Ip_take_6 : decode c_Ip_take 6 = .ok (.if_icmp .ne 5, 3) := by decide +kernel
theorem d_Ip_take_9 : decode c_Ip_take 9 = .ok (.iconst 0, 1) := by decide +kernel
theorem d_Ip_take_10 : decode c_Ip_take 10 = .ok (.ireturn, 1) := by decide +kernel
theorem d_Ip_take_11 : decode c_Ip_take 11 = .ok (.aload_n 0, 1) := by decide +kernel
theorem d_Ip_take_12 : decode c_Ip_take 12 = .ok (.getfield 9, 3) := by decide +kernel
theorem d_Ip_take_15 : decode c_Ip_take 15 = .ok (.aload_n 0, 1) := by decide +kernel
theorem d_Ip_take_16 : decode c_Ip_take 16 = .ok (.getfield 15, 3) := by decide +kernel
theorem d_Ip_take_19 : decode c_Ip_take 19 = .ok (.iload_n 1, 1) := by decide +kernel
theorem d_Ip_take_20 : decode c_Ip_take 20 = .ok (.iastore, 1) := by decide +kernel
theorem d_Ip_take_21 : decode c_Ip_take 21 = .ok (.aload_n 0, 1) := by decide +kernel
theorem d_Ip_take_22 : decode c_Ip_take 22 = .ok (.dup, 1) := by decide +kernel
theorem d_Ip_take_23 : decode c_Ip_take 23 = .ok (.getfield 15, 3) := by decide +kernel
theorem d_Ip_take_26 : decode c_Ip_take 26 = .ok (.iconst 1, 1) := by decide +kernel
theorem d_Ip_take_27 : decode c_Ip_take 27 = .ok (.iadd, 1) := by decide +kernel
theorem d_Ip_take_28 : decode c_Ip_take 28 = .ok (.putfield 15, 3) := by decide +kernel
theorem d_Ip_take_31 : decode c_Ip_take 31 = .ok (.iconst 1, 1) := by decide +kernel
theorem d_Ip_take_32 : decode c_Ip_take 32 = .ok (.ireturn, 1) := by decide +kernel
theorem d_Ff_dry_0 : decode c_Ff_dry 0 = .ok (.aload_n 0, 1) := by decide +kernel
theorem d_Ff_dry_1 : decode c_Ff_dry 1 = .ok (.getfield 26, 3) := by decide +kernel
theorem d_Ff_dry_4 : decode c_Ff_dry 4 = .ok (.iconst 0, 1) := by decide +kernel
theorem d_Ff_dry_5 : decode c_Ff_dry 5 = .ok (.putfield 105, 3) := by decide +kernel
theorem d_Ff_dry_8 : decode c_Ff_dry 8 = .ok (.return_, 1) := by decide +kernel
theorem d_Ff_run_0 : decode c_Ff_run 0 = .ok (.iload_n 1, 1) := by decide +kernel
theorem d_Ff_run_1 : decode c_Ff_run 1 = .ok (.ifCond .lt 10, 3) := by decide +kernel
theorem d_Ff_run_4 : decode c_Ff_run 4 = .ok (.iload_n 1, 1) := by decide +kernel
theorem d_Ff_run_5 : decode c_Ff_run 5 = .ok (.sipush 2000, 3) := by decide +kernel
theorem d_Ff_run_8 : decode c_Ff_run 8 = .ok (.if_icmp .le 5, 3) := by decide +kernel
theorem d_Ff_run_11 : decode c_Ff_run 11 = .ok (.iconst (-1), 1) := by decide +kernel
theorem d_Ff_run_12 : decode c_Ff_run 12 = .ok (.ireturn, 1) := by decide +kernel
theorem d_Ff_run_13 : decode c_Ff_run 13 = .ok (.aload_n 0, 1) := by decide +kernel
theorem d_Ff_run_14 : decode c_Ff_run 14 = .ok (.getfield 33, 3) := by decide +kernel
theorem d_Ff_run_17 : decode c_Ff_run 17 = .ok (.aload_n 0, 1) := by decide +kernel
theorem d_Ff_run_18 : decode c_Ff_run 18 = .ok (.getfield 12, 3) := by decide +kernel
theorem d_Ff_run_21 : decode c_Ff_run 21 = .ok (.aload_n 0, 1) := by decide +kernel
theorem d_Ff_run_22 : decode c_Ff_run 22 = .ok (.getfield 26, 3) := by decide +kernel
theorem d_Ff_run_25 : decode c_Ff_run 25 = .ok (.iload_n 1, 1) := by decide +kernel
theorem d_Ff_run_26 : decode c_Ff_run 26 = .ok (.invokevirtual 106, 3) := by decide +kernel
theorem d_Ff_run_29 : decode c_Ff_run 29 = .ok (.ireturn, 1) := by decide +kernel
theorem d_Ma_execute_0 : decode c_Ma_execute 0 = .ok (.aload_n 0, 1) := by decide +kernel
theorem d_Ma_execute_1 : decode c_Ma_execute 1 = .ok (.invokevirtual 31, 3) := by decide +kernel
theorem d_Ma_execute_4 : decode c_Ma_execute 4 = .ok (.iconst 0, 1) := by decide +kernel
theorem d_Ma_execute_5 : decode c_Ma_execute 5 = .ok (.istore 4, 2) := by decide +kernel
theorem d_Ma_execute_7 : decode c_Ma_execute 7 = .ok (.aload_n 0, 1) := by decide +kernel
theorem d_Ma_execute_8 : decode c_Ma_execute 8 = .ok (.getfield 22, 3) := by decide +kernel
theorem d_Ma_execute_11 : decode c_Ma_execute 11 = .ok (.iload_n 3, 1) := by decide +kernel
theorem d_Ma_execute_12 : decode c_Ma_execute 12 = .ok (.if_icmp .ge 81, 3) := by decide +kernel
theorem d_Ma_execute_15 : decode c_Ma_execute 15 = .ok (.aload_n 1, 1) := by decide +kernel
theorem d_Ma_execute_16 : decode c_Ma_execute 16 = .ok (.iload 4, 2) := by decide +kernel
theorem d_Ma_execute_18 : decode c_Ma_execute 18 = .ok (.invokevirtual 34, 3) := by decide +kernel
theorem d_Ma_execute_21 : decode c_Ma_execute 21 = .ok (.ifCond .eq 72, 3) := by decide +kernel
theorem d_Ma_execute_24 : decode c_Ma_execute 24 = .ok (.aload_n 1, 1) := by decide +kernel
theorem d_Ma_execute_25 : decode c_Ma_execute 25 = .ok (.getfield 40, 3) := by decide +kernel
theorem d_Ma_execute_28 : decode c_Ma_execute 28 = .ok (.iload 4, 2) := by decide +kernel
theorem d_Ma_execute_30 : decode c_Ma_execute 30 = .ok (.aaload, 1) := by decide +kernel
theorem d_Ma_execute_31 : decode c_Ma_execute 31 = .ok (.astore 5, 2) := by decide +kernel
theorem d_Ma_execute_33 : decode c_Ma_execute 33 = .ok (.aload_n 0, 1) := by decide +kernel
theorem d_Ma_execute_34 : decode c_Ma_execute 34 = .ok (.dup, 1) := by decide +kernel
theorem d_Ma_execute_35 : decode c_Ma_execute 35 = .ok (.getfield 22, 3) := by decide +kernel
theorem d_Ma_execute_38 : decode c_Ma_execute 38 = .ok (.iconst 1, 1) := by decide +kernel
theorem d_Ma_execute_39 : decode c_Ma_execute 39 = .ok (.iadd, 1) := by decide +kernel
theorem d_Ma_execute_40 : decode c_Ma_execute 40 = .ok (.putfield 22, 3) := by decide +kernel
theorem d_Ma_execute_43 : decode c_Ma_execute 43 = .ok (.aload 5, 2) := by decide +kernel
theorem d_Ma_execute_45 : decode c_Ma_execute 45 = .ok (.getfield 44, 3) := by decide +kernel
theorem d_Ma_execute_48 : decode c_Ma_execute 48 = .ok (.iconst 5, 1) := by decide +kernel
theorem d_Ma_execute_49 : decode c_Ma_execute 49 = .ok (.if_icmp .ne 24, 3) := by decide +kernel
theorem d_Ma_execute_52 : decode c_Ma_execute 52 = .ok (.aload_n 0, 1) := by decide +kernel
theorem d_Ma_execute_53 : decode c_Ma_execute 53 = .ok (.getfield 9, 3) := by decide +kernel
theorem d_Ma_execute_56 : decode c_Ma_execute 56 = .ok (.aload 5, 2) := by decide +kernel
theorem d_Ma_execute_58 : decode c_Ma_execute 58 = .ok (.getfield 49, 3) := by decide +kernel
theorem d_Ma_execute_61 : decode c_Ma_execute 61 = .ok (.iaload, 1) := by decide +kernel
theorem d_Ma_execute_62 : decode c_Ma_execute 62 = .ok (.ifCond .ne 11, 3) := by decide +kernel
theorem d_Ma_execute_65 : decode c_Ma_execute 65 = .ok (.aload_n 0, 1) := by decide +kernel
theorem d_Ma_execute_66 : decode c_Ma_execute 66 = .ok (.iload 4, 2) := by decide +kernel
theorem d_Ma_execute_68 : decode c_Ma_execute 68 = .ok (.putfield 25, 3) := by decide +kernel
theorem d_Ma_execute_71 : decode c_Ma_execute 71 = .ok (.iconst 2, 1) := by decide +kernel
theorem d_Ma_execute_72 : decode c_Ma_execute 72 = .ok (.ireturn, 1) := by decide +kernel
theorem d_Ma_execute_73 : decode c_Ma_execute 73 = .ok (.aload_n 0, 1) := by decide +kernel
theorem d_Ma_execute_74 : decode c_Ma_execute 74 = .ok (.aload 5, 2) := by decide +kernel
theorem d_Ma_execute_76 : decode c_Ma_execute 76 = .ok (.aload_n 2, 1) := by decide +kernel
theorem d_Ma_execute_77 : decode c_Ma_execute 77 = .ok (.invokevirtual 52, 3) := by decide +kernel
theorem d_Ma_execute_80 : decode c_Ma_execute 80 = .ok (.aload_n 0, 1) := by decide +kernel
theorem d_Ma_execute_81 : decode c_Ma_execute 81 = .ok (.aload 5, 2) := by decide +kernel
theorem d_Ma_execute_83 : decode c_Ma_execute 83 = .ok (.iload 4, 2) := by decide +kernel
theorem d_Ma_execute_85 : decode c_Ma_execute 85 = .ok (.invokevirtual 56, 3) := by decide +kernel
theorem d_Ma_execute_88 : decode c_Ma_execute 88 = .ok (.istore 4, 2) := by decide +kernel
theorem d_Ma_execute_90 : decode c_Ma_execute 90 = .ok (.goto (-83), 3) := by decide +kernel
theorem d_Ma_execute_93 : decode c_Ma_execute 93 = .ok (.aload_n 0, 1) := by decide +kernel
theorem d_Ma_execute_94 : decode c_Ma_execute 94 = .ok (.aload_n 1, 1) := by decide +kernel
theorem d_Ma_execute_95 : decode c_Ma_execute 95 = .ok (.iload 4, 2) := by decide +kernel
theorem d_Ma_execute_97 : decode c_Ma_execute 97 = .ok (.invokevirtual 34, 3) := by decide +kernel
theorem d_Ma_execute_100 : decode c_Ma_execute 100 = .ok (.ifCond .eq 8, 3) := by decide +kernel
theorem d_Ma_execute_103 : decode c_Ma_execute 103 = .ok (.iload 4, 2) := by decide +kernel
theorem d_Ma_execute_105 : decode c_Ma_execute 105 = .ok (.goto 4, 3) := by decide +kernel
theorem d_Ma_execute_108 : decode c_Ma_execute 108 = .ok (.iconst (-1), 1) := by decide +kernel
theorem d_Ma_execute_109 : decode c_Ma_execute 109 = .ok (.putfield 25, 3) := by decide +kernel
theorem d_Ma_execute_112 : decode c_Ma_execute 112 = .ok (.aload_n 1, 1) := by decide +kernel
theorem d_Ma_execute_113 : decode c_Ma_execute 113 = .ok (.iload 4, 2) := by decide +kernel
theorem d_Ma_execute_115 : decode c_Ma_execute 115 = .ok (.invokevirtual 34, 3) := by decide +kernel
theorem d_Ma_execute_118 : decode c_Ma_execute 118 = .ok (.ifCond .eq 7, 3) := by decide +kernel
theorem d_Ma_execute_121 : decode c_Ma_execute 121 = .ok (.iconst 0, 1) := by decide +kernel
theorem d_Ma_execute_122 : decode c_Ma_execute 122 = .ok (.goto 4, 3) := by decide +kernel
theorem d_Ma_execute_125 : decode c_Ma_execute 125 = .ok (.iconst 1, 1) := by decide +kernel
theorem d_Ma_execute_126 : decode c_Ma_execute 126 = .ok (.ireturn, 1) := by decide +kernel
theorem d_Ma_begin_0 : decode c_Ma_begin 0 = .ok (.iconst 0, 1) := by decide +kernel
theorem d_Ma_begin_1 : decode c_Ma_begin 1 = .ok (.istore_n 1, 1) := by decide +kernel
theorem d_Ma_begin_2 : decode c_Ma_begin 2 = .ok (.iload_n 1, 1) := by decide +kernel
theorem d_Ma_begin_3 : decode c_Ma_begin 3 = .ok (.iconst 4, 1) := by decide +kernel
theorem d_Ma_begin_4 : decode c_Ma_begin 4 = .ok (.if_icmp .ge 16, 3) := by decide +kernel
theorem d_Ma_begin_7 : decode c_Ma_begin 7 = .ok (.aload_n 0, 1) := by decide +kernel
theorem d_Ma_begin_8 : decode c_Ma_begin 8 = .ok (.getfield 9, 3) := by decide +kernel
theorem d_Ma_begin_11 : decode c_Ma_begin 11 = .ok (.iload_n 1, 1) := by decide +kernel
theorem d_Ma_begin_12 : decode c_Ma_begin 12 = .ok (.iconst 0, 1) := by decide +kernel
theorem d_Ma_begin_13 : decode c_Ma_begin 13 = .ok (.iastore, 1) := by decide +kernel
theorem d_Ma_begin_14 : decode c_Ma_begin 14 = .ok (.iinc 1 1, 3) := by decide +kernel
theorem d_Ma_begin_17 : decode c_Ma_begin 17 = .ok (.goto (-15), 3) := by decide +kernel
theorem d_Ma_begin_20 : decode c_Ma_begin 20 = .ok (.aload_n 0, 1) := by decide +kernel
theorem d_Ma_begin_21 : decode c_Ma_begin 21 = .ok (.iconst 0, 1) := by decide +kernel
theorem d_Ma_begin_22 : decode c_Ma_begin 22 = .ok (.putfield 18, 3) := by decide +kernel
theorem d_Ma_begin_25 : decode c_Ma_begin 25 = .ok (.aload_n 0, 1) := by decide +kernel
theorem d_Ma_begin_26 : decode c_Ma_begin 26 = .ok (.iconst 0, 1) := by decide +kernel
theorem d_Ma_begin_27 : decode c_Ma_begin 27 = .ok (.putfield 22, 3) := by decide +kernel
theorem d_Ma_begin_30 : decode c_Ma_begin 30 = .ok (.aload_n 0, 1) := by decide +kernel
theorem d_Ma_begin_31 : decode c_Ma_begin 31 = .ok (.iconst 0, 1) := by decide +kernel
theorem d_Ma_begin_32 : decode c_Ma_begin 32 = .ok (.putfield 28, 3) := by decide +kernel
theorem d_Ma_begin_35 : decode c_Ma_begin 35 = .ok (.return_, 1) := by decide +kernel
theorem d_Ma_change_0 : decode c_Ma_change 0 = .ok (.aload_n 1, 1) := by decide +kernel
theorem d_Ma_change_1 : decode c_Ma_change 1 = .ok (.getfield 44, 3) := by decide +kernel
theorem d_Ma_change_4 : decode c_Ma_change 4 = .ok (.tableswitch 180 0 10 #[60, 76, 97, 97, 97, 97, 134, 180, 180, 180, 164], 60) := by decide +kernel
theorem d_Ma_change_64 : decode c_Ma_change 64 = .ok (.aload_n 0, 1) := by decide +kernel
theorem d_Ma_change_65 : decode c_Ma_change 65 = .ok (.getfield 9, 3) := by decide +kernel
theorem d_Ma_change_68 : decode c_Ma_change 68 = .ok (.aload_n 1, 1) := by decide +kernel
theorem d_Ma_change_69 : decode c_Ma_change 69 = .ok (.getfield 60, 3) := by decide +kernel
theorem d_Ma_change_72 : decode c_Ma_change 72 = .ok (.aload_n 1, 1) := by decide +kernel
theorem d_Ma_change_73 : decode c_Ma_change 73 = .ok (.getfield 49, 3) := by decide +kernel
theorem d_Ma_change_76 : decode c_Ma_change 76 = .ok (.iastore, 1) := by decide +kernel
theorem d_Ma_change_77 : decode c_Ma_change 77 = .ok (.goto 107, 3) := by decide +kernel
theorem d_Ma_change_80 : decode c_Ma_change 80 = .ok (.aload_n 0, 1) := by decide +kernel
theorem d_Ma_change_81 : decode c_Ma_change 81 = .ok (.getfield 9, 3) := by decide +kernel
theorem d_Ma_change_84 : decode c_Ma_change 84 = .ok (.aload_n 1, 1) := by decide +kernel
theorem d_Ma_change_85 : decode c_Ma_change 85 = .ok (.getfield 60, 3) := by decide +kernel
theorem d_Ma_change_88 : decode c_Ma_change 88 = .ok (.aload_n 0, 1) := by decide +kernel
theorem d_Ma_change_89 : decode c_Ma_change 89 = .ok (.getfield 9, 3) := by decide +kernel
theorem d_Ma_change_92 : decode c_Ma_change 92 = .ok (.aload_n 1, 1) := by decide +kernel
theorem d_Ma_change_93 : decode c_Ma_change 93 = .ok (.getfield 63, 3) := by decide +kernel
theorem d_Ma_change_96 : decode c_Ma_change 96 = .ok (.iaload, 1) := by decide +kernel
theorem d_Ma_change_97 : decode c_Ma_change 97 = .ok (.iastore, 1) := by decide +kernel
theorem d_Ma_change_98 : decode c_Ma_change 98 = .ok (.goto 86, 3) := by decide +kernel
theorem d_Ma_change_101 : decode c_Ma_change 101 = .ok (.aload_n 0, 1) := by decide +kernel
theorem d_Ma_change_102 : decode c_Ma_change 102 = .ok (.getfield 9, 3) := by decide +kernel
theorem d_Ma_change_105 : decode c_Ma_change 105 = .ok (.aload_n 1, 1) := by decide +kernel
theorem d_Ma_change_106 : decode c_Ma_change 106 = .ok (.getfield 60, 3) := by decide +kernel
theorem d_Ma_change_109 : decode c_Ma_change 109 = .ok (.aload_n 1, 1) := by decide +kernel
theorem d_Ma_change_110 : decode c_Ma_change 110 = .ok (.getfield 44, 3) := by decide +kernel
theorem d_Ma_change_113 : decode c_Ma_change 113 = .ok (.aload_n 0, 1) := by decide +kernel
theorem d_Ma_change_114 : decode c_Ma_change 114 = .ok (.getfield 9, 3) := by decide +kernel
theorem d_Ma_change_117 : decode c_Ma_change 117 = .ok (.aload_n 1, 1) := by decide +kernel
theorem d_Ma_change_118 : decode c_Ma_change 118 = .ok (.getfield 63, 3) := by decide +kernel
theorem d_Ma_change_121 : decode c_Ma_change 121 = .ok (.iaload, 1) := by decide +kernel
theorem d_Ma_change_122 : decode c_Ma_change 122 = .ok (.aload_n 0, 1) := by decide +kernel
theorem d_Ma_change_123 : decode c_Ma_change 123 = .ok (.getfield 9, 3) := by decide +kernel
theorem d_Ma_change_126 : decode c_Ma_change 126 = .ok (.aload_n 1, 1) := by decide +kernel
theorem d_Ma_change_127 : decode c_Ma_change 127 = .ok (.getfield 49, 3) := by decide +kernel
theorem d_Ma_change_130 : decode c_Ma_change 130 = .ok (.iaload, 1) := by decide +kernel
theorem d_Ma_change_131 : decode c_Ma_change 131 = .ok (.invokestatic 66, 3) := by decide +kernel
theorem d_Ma_change_134 : decode c_Ma_change 134 = .ok (.iastore, 1) := by decide +kernel
theorem d_Ma_change_135 : decode c_Ma_change 135 = .ok (.goto 49, 3) := by decide +kernel
theorem d_Ma_change_138 : decode c_Ma_change 138 = .ok (.aload_n 0, 1) := by decide +kernel
theorem d_Ma_change_139 : decode c_Ma_change 139 = .ok (.getfield 9, 3) := by decide +kernel
theorem d_Ma_change_142 : decode c_Ma_change 142 = .ok (.aload_n 1, 1) := by decide +kernel
theorem d_Ma_change_143 : decode c_Ma_change 143 = .ok (.getfield 60, 3) := by decide +kernel
theorem d_Ma_change_146 : decode c_Ma_change 146 = .ok (.aload_n 2, 1) := by decide +kernel
theorem d_Ma_change_147 : decode c_Ma_change 147 = .ok (.aload_n 0, 1) := by decide +kernel
theorem d_Ma_change_148 : decode c_Ma_change 148 = .ok (.getfield 28, 3) := by decide +kernel
theorem d_Ma_change_151 : decode c_Ma_change 151 = .ok (.invokevirtual 70, 3) := by decide +kernel
theorem d_Ma_change_154 : decode c_Ma_change 154 = .ok (.iastore, 1) := by decide +kernel
theorem d_Ma_change_155 : decode c_Ma_change 155 = .ok (.aload_n 0, 1) := by decide +kernel
theorem d_Ma_change_156 : decode c_Ma_change 156 = .ok (.dup, 1) := by decide +kernel
theorem d_Ma_change_157 : decode c_Ma_change 157 = .ok (.getfield 28, 3) := by decide +kernel
theorem d_Ma_change_160 : decode c_Ma_change 160 = .ok (.iconst 1, 1) := by decide +kernel
theorem d_Ma_change_161 : decode c_Ma_change 161 = .ok (.iadd, 1) := by decide +kernel
theorem d_Ma_change_162 : decode c_Ma_change 162 = .ok (.putfield 28, 3) := by decide +kernel
theorem d_Ma_change_165 : decode c_Ma_change 165 = .ok (.goto 19, 3) := by decide +kernel
theorem d_Ma_change_168 : decode c_Ma_change 168 = .ok (.aload_n 0, 1) := by decide +kernel
theorem d_Ma_change_169 : decode c_Ma_change 169 = .ok (.aload_n 0, 1) := by decide +kernel
theorem d_Ma_change_170 : decode c_Ma_change 170 = .ok (.getfield 9, 3) := by decide +kernel
theorem d_Ma_change_173 : decode c_Ma_change 173 = .ok (.aload_n 1, 1) := by decide +kernel
theorem d_Ma_change_174 : decode c_Ma_change 174 = .ok (.getfield 60, 3) := by decide +kernel
theorem d_Ma_change_177 : decode c_Ma_change 177 = .ok (.iaload, 1) := by decide +kernel
theorem d_Ma_change_178 : decode c_Ma_change 178 = .ok (.invokevirtual 76, 3) := by decide +kernel
theorem d_Ma_change_181 : decode c_Ma_change 181 = .ok (.goto 3, 3) := by decide +kernel
theorem d_Ma_change_184 : decode c_Ma_change 184 = .ok (.return_, 1) := by decide +kernel
theorem d_Ip_numberOrZero_0 : decode c_Ip_numberOrZero 0 = .ok (.iload_n 1, 1) := by decide +kernel
theorem d_Ip_numberOrZero_1 : decode c_Ip_numberOrZero 1 = .ok (.aload_n 0, 1) := by decide +kernel
theorem d_Ip_numberOrZero_2 : decode c_Ip_numberOrZero 2 = .ok (.getfield 15, 3) := by decide +kernel
theorem d_Ip_numberOrZero_5 : decode c_Ip_numberOrZero 5 = .ok (.if_icmp .ge 12, 3) := by decide +kernel
theorem d_Ip_numberOrZero_8 : decode c_Ip_numberOrZero 8 = .ok (.aload_n 0, 1) := by decide +kernel
theorem d_Ip_numberOrZero_9 : decode c_Ip_numberOrZero 9 = .ok (.getfield 9, 3) := by decide +kernel
theorem d_Ip_numberOrZero_12 : decode c_Ip_numberOrZero 12 = .ok (.iload_n 1, 1) := by decide +kernel
theorem d_Ip_numberOrZero_13 : decode c_Ip_numberOrZero 13 = .ok (.iaload, 1) := by decide +kernel
theorem d_Ip_numberOrZero_14 : decode c_Ip_numberOrZero 14 = .ok (.goto 4, 3) := by decide +kernel
theorem d_Ip_numberOrZero_17 : decode c_Ip_numberOrZero 17 = .ok (.iconst 0, 1) := by decide +kernel
theorem d_Ip_numberOrZero_18 : decode c_Ip_numberOrZero 18 = .ok (.ireturn, 1) := by decide +kernel
theorem d_Ma_print_0 : decode c_Ma_print 0 = .ok (.aload_n 0, 1) := by decide +kernel
theorem d_Ma_print_1 : decode c_Ma_print 1 = .ok (.getfield 18, 3) := by decide +kernel
theorem d_Ma_print_4 : decode c_Ma_print 4 = .ok (.bipush 40, 2) := by decide +kernel
theorem d_Ma_print_6 : decode c_Ma_print 6 = .ok (.if_icmp .ge 13, 3) := by decide +kernel
theorem d_Ma_print_9 : decode c_Ma_print 9 = .ok (.aload_n 0, 1) := by decide +kernel
theorem d_Ma_print_10 : decode c_Ma_print 10 = .ok (.getfield 15, 3) := by decide +kernel
theorem d_Ma_print_13 : decode c_Ma_print 13 = .ok (.aload_n 0, 1) := by decide +kernel
theorem d_Ma_print_14 : decode c_Ma_print 14 = .ok (.getfield 18, 3) := by decide +kernel
theorem d_Ma_print_17 : decode c_Ma_print 17 = .ok (.iload_n 1, 1) := by decide +kernel
theorem d_Ma_print_18 : decode c_Ma_print 18 = .ok (.iastore, 1) := by decide +kernel
theorem d_Ma_print_19 : decode c_Ma_print 19 = .ok (.aload_n 0, 1) := by decide +kernel
theorem d_Ma_print_20 : decode c_Ma_print 20 = .ok (.dup, 1) := by decide +kernel
theorem d_Ma_print_21 : decode c_Ma_print 21 = .ok (.getfield 18, 3) := by decide +kernel
theorem d_Ma_print_24 : decode c_Ma_print 24 = .ok (.iconst 1, 1) := by decide +kernel
theorem d_Ma_print_25 : decode c_Ma_print 25 = .ok (.iadd, 1) := by decide +kernel
theorem d_Ma_print_26 : decode c_Ma_print 26 = .ok (.putfield 18, 3) := by decide +kernel
theorem d_Ma_print_29 : decode c_Ma_print 29 = .ok (.return_, 1) := by decide +kernel
theorem d_Ma_placeBehind_0 : decode c_Ma_placeBehind 0 = .ok (.aload_n 1, 1) := by decide +kernel
theorem d_Ma_placeBehind_1 : decode c_Ma_placeBehind 1 = .ok (.getfield 44, 3) := by decide +kernel
theorem d_Ma_placeBehind_4 : decode c_Ma_placeBehind 4 = .ok (.tableswitch 90 7 11 #[36, 59, 82, 90, 87], 36) := by decide +kernel
theorem d_Ma_placeBehind_40 : decode c_Ma_placeBehind 40 = .ok (.aload_n 0, 1) := by decide +kernel
theorem d_Ma_placeBehind_41 : decode c_Ma_placeBehind 41 = .ok (.getfield 9, 3) := by decide +kernel
theorem d_Ma_placeBehind_44 : decode c_Ma_placeBehind 44 = .ok (.aload_n 1, 1) := by decide +kernel
theorem d_Ma_placeBehind_45 : decode c_Ma_placeBehind 45 = .ok (.getfield 60, 3) := by decide +kernel
theorem d_Ma_placeBehind_48 : decode c_Ma_placeBehind 48 = .ok (.iaload, 1) := by decide +kernel
theorem d_Ma_placeBehind_49 : decode c_Ma_placeBehind 49 = .ok (.ifCond .ne 10, 3) := by decide +kernel
theorem d_Ma_placeBehind_52 : decode c_Ma_placeBehind 52 = .ok (.aload_n 1, 1) := by decide +kernel
theorem d_Ma_placeBehind_53 : decode c_Ma_placeBehind 53 = .ok (.getfield 49, 3) := by decide +kernel
theorem d_Ma_placeBehind_56 : decode c_Ma_placeBehind 56 = .ok (.goto 6, 3) := by decide +kernel
theorem d_Ma_placeBehind_59 : decode c_Ma_placeBehind 59 = .ok (.iload_n 2, 1) := by decide +kernel
theorem d_Ma_placeBehind_60 : decode c_Ma_placeBehind 60 = .ok (.iconst 1, 1) := by decide +kernel
theorem d_Ma_placeBehind_61 : decode c_Ma_placeBehind 61 = .ok (.iadd, 1) := by decide +kernel
theorem d_Ma_placeBehind_62 : decode c_Ma_placeBehind 62 = .ok (.ireturn, 1) := by decide +kernel
theorem d_Ma_placeBehind_63 : decode c_Ma_placeBehind 63 = .ok (.aload_n 0, 1) := by decide +kernel
theorem d_Ma_placeBehind_64 : decode c_Ma_placeBehind 64 = .ok (.getfield 9, 3) := by decide +kernel
theorem d_Ma_placeBehind_67 : decode c_Ma_placeBehind 67 = .ok (.aload_n 1, 1) := by decide +kernel
theorem d_Ma_placeBehind_68 : decode c_Ma_placeBehind 68 = .ok (.getfield 60, 3) := by decide +kernel
theorem d_Ma_placeBehind_71 : decode c_Ma_placeBehind 71 = .ok (.iaload, 1) := by decide +kernel
theorem d_Ma_placeBehind_72 : decode c_Ma_placeBehind 72 = .ok (.ifCond .ge 10, 3) := by decide +kernel
theorem d_Ma_placeBehind_75 : decode c_Ma_placeBehind 75 = .ok (.aload_n 1, 1) := by decide +kernel
theorem d_Ma_placeBehind_76 : decode c_Ma_placeBehind 76 = .ok (.getfield 49, 3) := by decide +kernel
theorem d_Ma_placeBehind_79 : decode c_Ma_placeBehind 79 = .ok (.goto 6, 3) := by decide +kernel
theorem d_Ma_placeBehind_82 : decode c_Ma_placeBehind 82 = .ok (.iload_n 2, 1) := by decide +kernel
theorem d_Ma_placeBehind_83 : decode c_Ma_placeBehind 83 = .ok (.iconst 1, 1) := by decide +kernel
theorem d_Ma_placeBehind_84 : decode c_Ma_placeBehind 84 = .ok (.iadd, 1) := by decide +kernel
theorem d_Ma_placeBehind_85 : decode c_Ma_placeBehind 85 = .ok (.ireturn, 1) := by decide +kernel
theorem d_Ma_placeBehind_86 : decode c_Ma_placeBehind 86 = .ok (.aload_n 1, 1) := by decide +kernel
theorem d_Ma_placeBehind_87 : decode c_Ma_placeBehind 87 = .ok (.getfield 49, 3) := by decide +kernel
theorem d_Ma_placeBehind_90 : decode c_Ma_placeBehind 90 = .ok (.ireturn, 1) := by decide +kernel
theorem d_Ma_placeBehind_91 : decode c_Ma_placeBehind 91 = .ok (.bipush 24, 2) := by decide +kernel
theorem d_Ma_placeBehind_93 : decode c_Ma_placeBehind 93 = .ok (.ireturn, 1) := by decide +kernel
theorem d_Ma_placeBehind_94 : decode c_Ma_placeBehind 94 = .ok (.iload_n 2, 1) := by decide +kernel
theorem d_Ma_placeBehind_95 : decode c_Ma_placeBehind 95 = .ok (.iconst 1, 1) := by decide +kernel
theorem d_Ma_placeBehind_96 : decode c_Ma_placeBehind 96 = .ok (.iadd, 1) := by decide +kernel
theorem d_Ma_placeBehind_97 : decode c_Ma_placeBehind 97 = .ok (.ireturn, 1) := by decide +kernel
theorem d_Ff_steps_0 : decode c_Ff_steps 0 = .ok (.aload_n 0, 1) := by decide +kernel
theorem d_Ff_steps_1 : decode c_Ff_steps 1 = .ok (.getfield 33, 3) := by decide +kernel
theorem d_Ff_steps_4 : decode c_Ff_steps 4 = .ok (.getfield 110, 3) := by decide +kernel
theorem d_Ff_steps_7 : decode c_Ff_steps 7 = .ok (.ireturn, 1) := by decide +kernel
theorem d_Ff_next_0 : decode c_Ff_next 0 = .ok (.aload_n 0, 1) := by decide +kernel
theorem d_Ff_next_1 : decode c_Ff_next 1 = .ok (.getfield 33, 3) := by decide +kernel
theorem d_Ff_next_4 : decode c_Ff_next 4 = .ok (.getfield 113, 3) := by decide +kernel
theorem d_Ff_next_7 : decode c_Ff_next 7 = .ok (.ireturn, 1) := by decide +kernel
theorem d_Ff_variable_0 : decode c_Ff_variable 0 = .ok (.iload_n 1, 1) := by decide +kernel
theorem d_Ff_variable_1 : decode c_Ff_variable 1 = .ok (.invokestatic 74, 3) := by decide +kernel
theorem d_Ff_variable_4 : decode c_Ff_variable 4 = .ok (.ifCond .eq 15, 3) := by decide +kernel
theorem d_Ff_variable_7 : decode c_Ff_variable 7 = .ok (.aload_n 0, 1) := by decide +kernel
theorem d_Ff_variable_8 : decode c_Ff_variable 8 = .ok (.getfield 33, 3) := by decide +kernel
theorem d_Ff_variable_11 : decode c_Ff_variable 11 = .ok (.getfield 116, 3) := by decide +kernel
theorem d_Ff_variable_14 : decode c_Ff_variable 14 = .ok (.iload_n 1, 1) := by decide +kernel
theorem d_Ff_variable_15 : decode c_Ff_variable 15 = .ok (.iaload, 1) := by decide +kernel
theorem d_Ff_variable_16 : decode c_Ff_variable 16 = .ok (.goto 4, 3) := by decide +kernel
theorem d_Ff_variable_19 : decode c_Ff_variable 19 = .ok (.iconst 0, 1) := by decide +kernel
theorem d_Ff_variable_20 : decode c_Ff_variable 20 = .ok (.ireturn, 1) := by decide +kernel
theorem d_Ff_outputs_0 : decode c_Ff_outputs 0 = .ok (.aload_n 0, 1) := by decide +kernel
theorem d_Ff_outputs_1 : decode c_Ff_outputs 1 = .ok (.getfield 33, 3) := by decide +kernel
theorem d_Ff_outputs_4 : decode c_Ff_outputs 4 = .ok (.getfield 120, 3) := by decide +kernel
theorem d_Ff_outputs_7 : decode c_Ff_outputs 7 = .ok (.ireturn, 1) := by decide +kernel
theorem d_Ff_output_0 : decode c_Ff_output 0 = .ok (.iload_n 1, 1) := by decide +kernel
theorem d_Ff_output_1 : decode c_Ff_output 1 = .ok (.ifCond .lt 32, 3) := by decide +kernel
theorem d_Ff_output_4 : decode c_Ff_output 4 = .ok (.iload_n 1, 1) := by decide +kernel
theorem d_Ff_output_5 : decode c_Ff_output 5 = .ok (.bipush 40, 2) := by decide +kernel
theorem d_Ff_output_7 : decode c_Ff_output 7 = .ok (.if_icmp .ge 26, 3) := by decide +kernel
theorem d_Ff_output_10 : decode c_Ff_output 10 = .ok (.iload_n 1, 1) := by decide +kernel
theorem d_Ff_output_11 : decode c_Ff_output 11 = .ok (.aload_n 0, 1) := by decide +kernel
theorem d_Ff_output_12 : decode c_Ff_output 12 = .ok (.getfield 33, 3) := by decide +kernel
theorem d_Ff_output_15 : decode c_Ff_output 15 = .ok (.getfield 120, 3) := by decide +kernel
theorem d_Ff_output_18 : decode c_Ff_output 18 = .ok (.if_icmp .ge 15, 3) := by decide +kernel
theorem d_Ff_output_21 : decode c_Ff_output 21 = .ok (.aload_n 0, 1) := by decide +kernel
theorem d_Ff_output_22 : decode c_Ff_output 22 = .ok (.getfield 33, 3) := by decide +kernel
theorem d_Ff_output_25 : decode c_Ff_output 25 = .ok (.getfield 123, 3) := by decide +kernel
theorem d_Ff_output_28 : decode c_Ff_output 28 = .ok (.iload_n 1, 1) := by decide +kernel
theorem d_Ff_output_29 : decode c_Ff_output 29 = .ok (.iaload, 1) := by decide +kernel
theorem d_Ff_output_30 : decode c_Ff_output 30 = .ok (.goto 4, 3) := by decide +kernel
theorem d_Ff_output_33 : decode c_Ff_output 33 = .ok (.iconst 0, 1) := by decide +kernel
theorem d_Ff_output_34 : decode c_Ff_output 34 = .ok (.ireturn, 1) := by decide +kernel
theorem d_Mo_init_0 : decode c_Mo_init 0 = .ok (.aload_n 0, 1) := by decide +kernel
theorem d_Mo_init_1 : decode c_Mo_init 1 = .ok (.invokespecial 1, 3) := by decide +kernel
theorem d_Mo_init_4 : decode c_Mo_init 4 = .ok (.aload_n 0, 1) := by decide +kernel
theorem d_Mo_init_5 : decode c_Mo_init 5 = .ok (.bipush 24, 2) := by decide +kernel
theorem d_Mo_init_7 : decode c_Mo_init 7 = .ok (.newarray .int, 2) := by decide +kernel
theorem d_Mo_init_9 : decode c_Mo_init 9 = .ok (.putfield 7, 3) := by decide +kernel
theorem d_Mo_init_12 : decode c_Mo_init 12 = .ok (.aload_n 0, 1) := by decide +kernel
theorem d_Mo_init_13 : decode c_Mo_init 13 = .ok (.bipush 24, 2) := by decide +kernel
theorem d_Mo_init_15 : decode c_Mo_init 15 = .ok (.newarray .int, 2) := by decide +kernel
theorem d_Mo_init_17 : decode c_Mo_init 17 = .ok (.putfield 13, 3) := by decide +kernel
theorem d_Mo_init_20 : decode c_Mo_init 20 = .ok (.aload_n 0, 1) := by decide +kernel
theorem d_Mo_init_21 : decode c_Mo_init 21 = .ok (.bipush 24, 2) := by decide +kernel
theorem d_Mo_init_23 : decode c_Mo_init 23 = .ok (.newarray .int, 2) := by decide +kernel
theorem d_Mo_init_25 : decode c_Mo_init 25 = .ok (.putfield 16, 3) := by decide +kernel
theorem d_Mo_init_28 : decode c_Mo_init 28 = .ok (.aload_n 0, 1) := by decide +kernel
theorem d_Mo_init_29 : decode c_Mo_init 29 = .ok (.bipush 24, 2) := by decide +kernel
theorem d_Mo_init_31 : decode c_Mo_init 31 = .ok (.newarray .int, 2) := by decide +kernel
theorem d_Mo_init_33 : decode c_Mo_init 33 = .ok (.putfield 19, 3) := by decide +kernel
theorem d_Mo_init_36 : decode c_Mo_init 36 = .ok (.aload_n 0, 1) := by decide +kernel
theorem d_Mo_init_37 : decode c_Mo_init 37 = .ok (.bipush 24, 2) := by decide +kernel
theorem d_Mo_init_39 : decode c_Mo_init 39 = .ok (.newarray .boolean, 2) := by decide +kernel
theorem d_Mo_init_41 : decode c_Mo_init 41 = .ok (.putfield 22, 3) := by decide +kernel
theorem d_Mo_init_44 : decode c_Mo_init 44 = .ok (.aload_n 0, 1) := by decide +kernel
theorem d_Mo_init_45 : decode c_Mo_init 45 = .ok (.bipush 96, 2) := by decide +kernel
theorem d_Mo_init_47 : decode c_Mo_init 47 = .ok (.newarray .int, 2) := by decide +kernel
theorem d_Mo_init_49 : decode c_Mo_init 49 = .ok (.putfield 26, 3) := by decide +kernel
theorem d_Mo_init_52 : decode c_Mo_init 52 = .ok (.aload_n 0, 1) := by decide +kernel
theorem d_Mo_init_53 : decode c_Mo_init 53 = .ok (.bipush 96, 2) := by decide +kernel
theorem d_Mo_init_55 : decode c_Mo_init 55 = .ok (.newarray .int, 2) := by decide +kernel
theorem d_Mo_init_57 : decode c_Mo_init 57 = .ok (.putfield 29, 3) := by decide +kernel
theorem d_Mo_init_60 : decode c_Mo_init 60 = .ok (.aload_n 0, 1) := by decide +kernel
theorem d_Mo_init_61 : decode c_Mo_init 61 = .ok (.bipush 96, 2) := by decide +kernel
theorem d_Mo_init_63 : decode c_Mo_init 63 = .ok (.newarray .int, 2) := by decide +kernel
theorem d_Mo_init_65 : decode c_Mo_init 65 = .ok (.putfield 32, 3) := by decide +kernel
theorem d_Mo_init_68 : decode c_Mo_init 68 = .ok (.aload_n 0, 1) := by decide +kernel
theorem d_Mo_init_69 : decode c_Mo_init 69 = .ok (.iconst 4, 1) := by decide +kernel
theorem d_Mo_init_70 : decode c_Mo_init 70 = .ok (.newarray .int, 2) := by decide +kernel
theorem d_Mo_init_72 : decode c_Mo_init 72 = .ok (.putfield 35, 3) := by decide +kernel
theorem d_Mo_init_75 : decode c_Mo_init 75 = .ok (.aload_n 0, 1) := by decide +kernel
theorem d_Mo_init_76 : decode c_Mo_init 76 = .ok (.iconst 4, 1) := by decide +kernel
theorem d_Mo_init_77 : decode c_Mo_init 77 = .ok (.newarray .int, 2) := by decide +kernel
theorem d_Mo_init_79 : decode c_Mo_init 79 = .ok (.putfield 38, 3) := by decide +kernel
theorem d_Mo_init_82 : decode c_Mo_init 82 = .ok (.aload_n 0, 1) := by decide +kernel
theorem d_Mo_init_83 : decode c_Mo_init 83 = .ok (.iconst 4, 1) := by decide +kernel
theorem d_Mo_init_84 : decode c_Mo_init 84 = .ok (.newarray .int, 2) := by decide +kernel
theorem d_Mo_init_86 : decode c_Mo_init 86 = .ok (.putfield 41, 3) := by decide +kernel
theorem d_Mo_init_89 : decode c_Mo_init 89 = .ok (.aload_n 0, 1) := by decide +kernel
theorem d_Mo_init_90 : decode c_Mo_init 90 = .ok (.bipush 16, 2) := by decide +kernel
theorem d_Mo_init_92 : decode c_Mo_init 92 = .ok (.newarray .int, 2) := by decide +kernel
theorem d_Mo_init_94 : decode c_Mo_init 94 = .ok (.putfield 44, 3) := by decide +kernel
theorem d_Mo_init_97 : decode c_Mo_init 97 = .ok (.aload_n 0, 1) := by decide +kernel
theorem d_Mo_init_98 : decode c_Mo_init 98 = .ok (.iconst (-1), 1) := by decide +kernel
theorem d_Mo_init_99 : decode c_Mo_init 99 = .ok (.putfield 47, 3) := by decide +kernel
theorem d_Mo_init_102 : decode c_Mo_init 102 = .ok (.aload_n 0, 1) := by decide +kernel
theorem d_Mo_init_103 : decode c_Mo_init 103 = .ok (.iconst 4, 1) := by decide +kernel
theorem d_Mo_init_104 : decode c_Mo_init 104 = .ok (.newarray .int, 2) := by decide +kernel
theorem d_Mo_init_106 : decode c_Mo_init 106 = .ok (.putfield 51, 3) := by decide +kernel
theorem d_Mo_init_109 : decode c_Mo_init 109 = .ok (.aload_n 0, 1) := by decide +kernel
theorem d_Mo_init_110 : decode c_Mo_init 110 = .ok (.bipush 40, 2) := by decide +kernel
theorem d_Mo_init_112 : decode c_Mo_init 112 = .ok (.newarray .int, 2) := by decide +kernel
theorem d_Mo_init_114 : decode c_Mo_init 114 = .ok (.putfield 54, 3) := by decide +kernel
theorem d_Mo_init_117 : decode c_Mo_init 117 = .ok (.return_, 1) := by decide +kernel
theorem d_Mo_add_0 : decode c_Mo_add 0 = .ok (.iload_n 1, 1) := by decide +kernel
theorem d_Mo_add_1 : decode c_Mo_add 1 = .ok (.iload_n 2, 1) := by decide +kernel
theorem d_Mo_add_2 : decode c_Mo_add 2 = .ok (.iload_n 3, 1) := by decide +kernel
theorem d_Mo_add_3 : decode c_Mo_add 3 = .ok (.iload 4, 2) := by decide +kernel
theorem d_Mo_add_5 : decode c_Mo_add 5 = .ok (.invokestatic 73, 3) := by decide +kernel
theorem d_Mo_add_8 : decode c_Mo_add 8 = .ok (.ifCond .eq 5, 3) := by decide +kernel
theorem d_Mo_add_11 : decode c_Mo_add 11 = .ok (.iconst (-1), 1) := by decide +kernel
theorem d_Mo_add_12 : decode c_Mo_add 12 = .ok (.ireturn, 1) := by decide +kernel
theorem d_Mo_add_13 : decode c_Mo_add 13 = .ok (.aload_n 0, 1) := by decide +kernel
theorem d_Mo_add_14 : decode c_Mo_add 14 = .ok (.getfield 77, 3) := by decide +kernel
theorem d_Mo_add_17 : decode c_Mo_add 17 = .ok (.bipush 24, 2) := by decide +kernel
theorem d_Mo_add_19 : decode c_Mo_add 19 = .ok (.if_icmp .ne 6, 3) := by decide +kernel
theorem d_Mo_add_22 : decode c_Mo_add 22 = .ok (.bipush (-2), 2) := by decide +kernel
theorem d_Mo_add_24 : decode c_Mo_add 24 = .ok (.ireturn, 1) := by decide +kernel
theorem d_Mo_add_25 : decode c_Mo_add 25 = .ok (.aload_n 0, 1) := by decide +kernel
theorem d_Mo_add_26 : decode c_Mo_add 26 = .ok (.aload_n 0, 1) := by decide +kernel
theorem d_Mo_add_27 : decode c_Mo_add 27 = .ok (.getfield 77, 3) := by decide +kernel
theorem d_Mo_add_30 : decode c_Mo_add 30 = .ok (.iload_n 1, 1) := by decide +kernel
theorem d_Mo_add_31 : decode c_Mo_add 31 = .ok (.iload_n 2, 1) := by decide +kernel
theorem d_Mo_add_32 : decode c_Mo_add 32 = .ok (.iload_n 3, 1) := by decide +kernel
theorem d_Mo_add_33 : decode c_Mo_add 33 = .ok (.iload 4, 2) := by decide +kernel
theorem d_Mo_add_35 : decode c_Mo_add 35 = .ok (.invokevirtual 80, 3) := by decide +kernel
theorem d_Mo_add_38 : decode c_Mo_add 38 = .ok (.pop, 1) := by decide +kernel
theorem d_Mo_add_39 : decode c_Mo_add 39 = .ok (.aload_n 0, 1) := by decide +kernel
theorem d_Mo_add_40 : decode c_Mo_add 40 = .ok (.iconst 0, 1) := by decide +kernel
theorem d_Mo_add_41 : decode c_Mo_add 41 = .ok (.putfield 83, 3) := by decide +kernel
theorem d_Mo_add_44 : decode c_Mo_add 44 = .ok (.aload_n 0, 1) := by decide +kernel
theorem d_Mo_add_45 : decode c_Mo_add 45 = .ok (.dup, 1) := by decide +kernel
theorem d_Mo_add_46 : decode c_Mo_add 46 = .ok (.getfield 77, 3) := by decide +kernel
theorem d_Mo_add_49 : decode c_Mo_add 49 = .ok (.iconst 1, 1) := by decide +kernel
theorem d_Mo_add_50 : decode c_Mo_add 50 = .ok (.iadd, 1) := by decide +kernel
theorem d_Mo_add_51 : decode c_Mo_add 51 = .ok (.putfield 77, 3) := by decide +kernel
theorem d_Mo_add_54 : decode c_Mo_add 54 = .ok (.aload_n 0, 1) := by decide +kernel
theorem d_Mo_add_55 : decode c_Mo_add 55 = .ok (.getfield 77, 3) := by decide +kernel
theorem d_Mo_add_58 : decode c_Mo_add 58 = .ok (.iconst 1, 1) := by decide +kernel
theorem d_Mo_add_59 : decode c_Mo_add 59 = .ok (.isub, 1) := by decide +kernel
theorem d_Mo_add_60 : decode c_Mo_add 60 = .ok (.ireturn, 1) := by decide +kernel
theorem d_Mo_wrong_0 : decode c_Mo_wrong 0 = .ok (.iload_n 0, 1) := by decide +kernel
theorem d_Mo_wrong_1 : decode c_Mo_wrong 1 = .ok (.ifCond .lt 9, 3) := by decide +kernel
theorem d_Mo_wrong_4 : decode c_Mo_wrong 4 = .ok (.iload_n 0, 1) := by decide +kernel
theorem d_Mo_wrong_5 : decode c_Mo_wrong 5 = .ok (.bipush 12, 2) := by decide +kernel
theorem d_Mo_wrong_7 : decode c_Mo_wrong 7 = .ok (.if_icmp .le 5, 3) := by decide +kernel
theorem d_Mo_wrong_10 : decode c_Mo_wrong 10 = .ok (.iconst 1, 1) := by decide +kernel
theorem d_Mo_wrong_11 : decode c_Mo_wrong 11 = .ok (.ireturn, 1) := by decide +kernel
theorem d_Mo_wrong_12 : decode c_Mo_wrong 12 = .ok (.iload_n 0, 1) := by decide +kernel
theorem d_Mo_wrong_13 : decode c_Mo_wrong 13 = .ok (.invokestatic 57, 3) := by decide +kernel
theorem d_Mo_wrong_16 : decode c_Mo_wrong 16 = .ok (.ifCond .eq 10, 3) := by decide +kernel
theorem d_Mo_wrong_19 : decode c_Mo_wrong 19 = .ok (.iload_n 1, 1) := by decide +kernel
theorem d_Mo_wrong_20 : decode c_Mo_wrong 20 = .ok (.invokestatic 61, 3) := by decide +kernel
theorem d_Mo_wrong_23 : decode c_Mo_wrong 23 = .ok (.ifCond .eq 17, 3) := by decide +kernel
theorem d_Mo_wrong_26 : decode c_Mo_wrong 26 = .ok (.iload_n 0, 1) := by decide +kernel
theorem d_Mo_wrong_27 : decode c_Mo_wrong 27 = .ok (.invokestatic 64, 3) := by decide +kernel
theorem d_Mo_wrong_30 : decode c_Mo_wrong 30 = .ok (.ifCond .eq 14, 3) := by decide +kernel
theorem d_Mo_wrong_33 : decode c_Mo_wrong 33 = .ok (.iload_n 2, 1) := by decide +kernel
theorem d_Mo_wrong_34 : decode c_Mo_wrong 34 = .ok (.invokestatic 61, 3) := by decide +kernel
theorem d_Mo_wrong_37 : decode c_Mo_wrong 37 = .ok (.ifCond .ne 7, 3) := by decide +kernel
theorem d_Mo_wrong_40 : decode c_Mo_wrong 40 = .ok (.iconst 1, 1) := by decide +kernel
theorem d_Mo_wrong_41 : decode c_Mo_wrong 41 = .ok (.goto 4, 3) := by decide +kernel
theorem d_Mo_wrong_44 : decode c_Mo_wrong 44 = .ok (.iconst 0, 1) := by decide +kernel
theorem d_Mo_wrong_45 : decode c_Mo_wrong 45 = .ok (.istore 4, 2) := by decide +kernel
theorem d_Mo_wrong_47 : decode c_Mo_wrong 47 = .ok (.iload 4, 2) := by decide +kernel
theorem d_Mo_wrong_49 : decode c_Mo_wrong 49 = .ok (.ifCond .ne 38, 3) := by decide +kernel
theorem d_Mo_wrong_52 : decode c_Mo_wrong 52 = .ok (.iload_n 0, 1) := by decide +kernel
theorem d_Mo_wrong_53 : decode c_Mo_wrong 53 = .ok (.iconst 1, 1) := by decide +kernel
theorem d_Mo_wrong_54 : decode c_Mo_wrong 54 = .ok (.if_icmp .le 16, 3) := by decide +kernel
theorem d_Mo_wrong_57 : decode c_Mo_wrong 57 = .ok (.iload_n 0, 1) := by decide +kernel
theorem d_Mo_wrong_58 : decode c_Mo_wrong 58 = .ok (.bipush 6, 2) := by decide +kernel
theorem d_Mo_wrong_60 : decode c_Mo_wrong 60 = .ok (.if_icmp .ge 10, 3) := by decide +kernel
theorem d_Mo_wrong_63 : decode c_Mo_wrong 63 = .ok (.iload_n 3, 1) := by decide +kernel
theorem d_Mo_wrong_64 : decode c_Mo_wrong 64 = .ok (.invokestatic 61, 3) := by decide +kernel
theorem d_Mo_wrong_67 : decode c_Mo_wrong 67 = .ok (.ifCond .eq 20, 3) := by decide +kernel
theorem d_Mo_wrong_70 : decode c_Mo_wrong 70 = .ok (.iload_n 0, 1) := by decide +kernel
theorem d_Mo_wrong_71 : decode c_Mo_wrong 71 = .ok (.invokestatic 67, 3) := by decide +kernel
theorem d_Mo_wrong_74 : decode c_Mo_wrong 74 = .ok (.ifCond .eq 17, 3) := by decide +kernel
theorem d_Mo_wrong_77 : decode c_Mo_wrong 77 = .ok (.iload_n 3, 1) := by decide +kernel
theorem d_Mo_wrong_78 : decode c_Mo_wrong 78 = .ok (.ifCond .lt 9, 3) := by decide +kernel
theorem d_Mo_wrong_81 : decode c_Mo_wrong 81 = .ok (.iload_n 3, 1) := by decide +kernel
theorem d_Mo_wrong_82 : decode c_Mo_wrong 82 = .ok (.bipush 24, 2) := by decide +kernel
theorem d_Mo_wrong_84 : decode c_Mo_wrong 84 = .ok (.if_icmp .le 7, 3) := by decide +kernel
theorem d_Mo_wrong_87 : decode c_Mo_wrong 87 = .ok (.iconst 1, 1) := by decide +kernel
theorem d_Mo_wrong_88 : decode c_Mo_wrong 88 = .ok (.goto 4, 3) := by decide +kernel
theorem d_Mo_wrong_91 : decode c_Mo_wrong 91 = .ok (.iconst 0, 1) := by decide +kernel
theorem d_Mo_wrong_92 : decode c_Mo_wrong 92 = .ok (.ireturn, 1) := by decide +kernel
theorem d_Mo_usesFirst_0 : decode c_Mo_usesFirst 0 = .ok (.iload_n 0, 1) := by decide +kernel
theorem d_Mo_usesFirst_1 : decode c_Mo_usesFirst 1 = .ok (.bipush 9, 2) := by decide +kernel
theorem d_Mo_usesFirst_3 : decode c_Mo_usesFirst 3 = .ok (.if_icmp .eq 19, 3) := by decide +kernel
theorem d_Mo_usesFirst_6 : decode c_Mo_usesFirst 6 = .ok (.iload_n 0, 1) := by decide +kernel
theorem d_Mo_usesFirst_7 : decode c_Mo_usesFirst 7 = .ok (.bipush 11, 2) := by decide +kernel
theorem d_Mo_usesFirst_9 : decode c_Mo_usesFirst 9 = .ok (.if_icmp .eq 13, 3) := by decide +kernel
theorem d_Mo_usesFirst_12 : decode c_Mo_usesFirst 12 = .ok (.iload_n 0, 1) := by decide +kernel
theorem d_Mo_usesFirst_13 : decode c_Mo_usesFirst 13 = .ok (.bipush 12, 2) := by decide +kernel
theorem d_Mo_usesFirst_15 : decode c_Mo_usesFirst 15 = .ok (.if_icmp .eq 7, 3) := by decide +kernel
theorem d_Mo_usesFirst_18 : decode c_Mo_usesFirst 18 = .ok (.iconst 1, 1) := by decide +kernel
theorem d_Mo_usesFirst_19 : decode c_Mo_usesFirst 19 = .ok (.goto 4, 3) := by decide +kernel
theorem d_Mo_usesFirst_22 : decode c_Mo_usesFirst 22 = .ok (.iconst 0, 1) := by decide +kernel
theorem d_Mo_usesFirst_23 : decode c_Mo_usesFirst 23 = .ok (.ireturn, 1) := by decide +kernel
theorem d_Mo_isVariable_0 : decode c_Mo_isVariable 0 = .ok (.iload_n 0, 1) := by decide +kernel
theorem d_Mo_isVariable_1 : decode c_Mo_isVariable 1 = .ok (.ifCond .lt 12, 3) := by decide +kernel
theorem d_Mo_isVariable_4 : decode c_Mo_isVariable 4 = .ok (.iload_n 0, 1) := by decide +kernel
theorem d_Mo_isVariable_5 : decode c_Mo_isVariable 5 = .ok (.iconst 4, 1) := by decide +kernel
theorem d_Mo_isVariable_6 : decode c_Mo_isVariable 6 = .ok (.if_icmp .ge 7, 3) := by decide +kernel
theorem d_Mo_isVariable_9 : decode c_Mo_isVariable 9 = .ok (.iconst 1, 1) := by decide +kernel
theorem d_Mo_isVariable_10 : decode c_Mo_isVariable 10 = .ok (.goto 4, 3) := by decide +kernel
theorem d_Mo_isVariable_13 : decode c_Mo_isVariable 13 = .ok (.iconst 0, 1) := by decide +kernel
theorem d_Mo_isVariable_14 : decode c_Mo_isVariable 14 = .ok (.ireturn, 1) := by decide +kernel
theorem d_Mo_usesSecond_0 : decode c_Mo_usesSecond 0 = .ok (.iload_n 0, 1) := by decide +kernel
theorem d_Mo_usesSecond_1 : decode c_Mo_usesSecond 1 = .ok (.ifCond .le 13, 3) := by decide +kernel
theorem d_Mo_usesSecond_4 : decode c_Mo_usesSecond 4 = .ok (.iload_n 0, 1) := by decide +kernel
theorem d_Mo_usesSecond_5 : decode c_Mo_usesSecond 5 = .ok (.bipush 6, 2) := by decide +kernel
theorem d_Mo_usesSecond_7 : decode c_Mo_usesSecond 7 = .ok (.if_icmp .ge 7, 3) := by decide +kernel
theorem d_Mo_usesSecond_10 : decode c_Mo_usesSecond 10 = .ok (.iconst 1, 1) := by decide +kernel
theorem d_Mo_usesSecond_11 : decode c_Mo_usesSecond 11 = .ok (.goto 4, 3) := by decide +kernel
theorem d_Mo_usesSecond_14 : decode c_Mo_usesSecond 14 = .ok (.iconst 0, 1) := by decide +kernel
theorem d_Mo_usesSecond_15 : decode c_Mo_usesSecond 15 = .ok (.ireturn, 1) := by decide +kernel
theorem d_Mo_jumps_0 : decode c_Mo_jumps 0 = .ok (.iload_n 0, 1) := by decide +kernel
theorem d_Mo_jumps_1 : decode c_Mo_jumps 1 = .ok (.bipush 6, 2) := by decide +kernel
theorem d_Mo_jumps_3 : decode c_Mo_jumps 3 = .ok (.if_icmp .le 13, 3) := by decide +kernel
theorem d_Mo_jumps_6 : decode c_Mo_jumps 6 = .ok (.iload_n 0, 1) := by decide +kernel
theorem d_Mo_jumps_7 : decode c_Mo_jumps 7 = .ok (.bipush 10, 2) := by decide +kernel
theorem d_Mo_jumps_9 : decode c_Mo_jumps 9 = .ok (.if_icmp .ge 7, 3) := by decide +kernel
theorem d_Mo_jumps_12 : decode c_Mo_jumps 12 = .ok (.iconst 1, 1) := by decide +kernel
theorem d_Mo_jumps_13 : decode c_Mo_jumps 13 = .ok (.goto 4, 3) := by decide +kernel
theorem d_Mo_jumps_16 : decode c_Mo_jumps 16 = .ok (.iconst 0, 1) := by decide +kernel
theorem d_Mo_jumps_17 : decode c_Mo_jumps 17 = .ok (.ireturn, 1) := by decide +kernel
theorem d_Mo_place_0 : decode c_Mo_place 0 = .ok (.iload_n 2, 1) := by decide +kernel
theorem d_Mo_place_1 : decode c_Mo_place 1 = .ok (.invokestatic 57, 3) := by decide +kernel
theorem d_Mo_place_4 : decode c_Mo_place 4 = .ok (.ifCond .eq 7, 3) := by decide +kernel
theorem d_Mo_place_7 : decode c_Mo_place 7 = .ok (.iload_n 3, 1) := by decide +kernel
theorem d_Mo_place_8 : decode c_Mo_place 8 = .ok (.goto 4, 3) := by decide +kernel
theorem d_Mo_place_11 : decode c_Mo_place 11 = .ok (.iconst 0, 1) := by decide +kernel
theorem d_Mo_place_12 : decode c_Mo_place 12 = .ok (.istore 6, 2) := by decide +kernel
theorem d_Mo_place_14 : decode c_Mo_place 14 = .ok (.iload_n 2, 1) := by decide +kernel
theorem d_Mo_place_15 : decode c_Mo_place 15 = .ok (.invokestatic 64, 3) := by decide +kernel
theorem d_Mo_place_18 : decode c_Mo_place 18 = .ok (.ifCond .eq 8, 3) := by decide +kernel
theorem d_Mo_place_21 : decode c_Mo_place 21 = .ok (.iload 4, 2) := by decide +kernel
theorem d_Mo_place_23 : decode c_Mo_place 23 = .ok (.goto 4, 3) := by decide +kernel
theorem d_Mo_place_26 : decode c_Mo_place 26 = .ok (.iconst 0, 1) := by decide +kernel
theorem d_Mo_place_27 : decode c_Mo_place 27 = .ok (.istore 7, 2) := by decide +kernel
theorem d_Mo_place_29 : decode c_Mo_place 29 = .ok (.iload_n 2, 1) := by decide +kernel
theorem d_Mo_place_30 : decode c_Mo_place 30 = .ok (.invokestatic 70, 3) := by decide +kernel
theorem d_Mo_place_33 : decode c_Mo_place 33 = .ok (.ifCond .eq 8, 3) := by decide +kernel
theorem d_Mo_place_36 : decode c_Mo_place 36 = .ok (.iload 5, 2) := by decide +kernel
theorem d_Mo_place_38 : decode c_Mo_place 38 = .ok (.goto 4, 3) := by decide +kernel
theorem d_Mo_place_41 : decode c_Mo_place 41 = .ok (.iconst 0, 1) := by decide +kernel
theorem d_Mo_place_42 : decode c_Mo_place 42 = .ok (.istore 8, 2) := by decide +kernel
theorem d_Mo_place_44 : decode c_Mo_place 44 = .ok (.aload_n 0, 1) := by decide +kernel
theorem d_Mo_place_45 : decode c_Mo_place 45 = .ok (.getfield 7, 3) := by decide +kernel
theorem d_Mo_place_48 : decode c_Mo_place 48 = .ok (.iload_n 1, 1) := by decide +kernel
theorem d_Mo_place_49 : decode c_Mo_place 49 = .ok (.iaload, 1) := by decide +kernel
theorem d_Mo_place_50 : decode c_Mo_place 50 = .ok (.iload_n 2, 1) := by decide +kernel
theorem d_Mo_place_51 : decode c_Mo_place 51 = .ok (.if_icmp .ne 36, 3) := by decide +kernel
theorem d_Mo_place_54 : decode c_Mo_place 54 = .ok (.aload_n 0, 1) := by decide +kernel
theorem d_Mo_place_55 : decode c_Mo_place 55 = .ok (.getfield 13, 3) := by decide +kernel
theorem d_Mo_place_58 : decode c_Mo_place 58 = .ok (.iload_n 1, 1) := by decide +kernel
theorem d_Mo_place_59 : decode c_Mo_place 59 = .ok (.iaload, 1) := by decide +kernel
theorem d_Mo_place_60 : decode c_Mo_place 60 = .ok (.iload 6, 2) := by decide +kernel
theorem d_Mo_place_62 : decode c_Mo_place 62 = .ok (.if_icmp .ne 25, 3) := by decide +kernel
theorem d_Mo_place_65 : decode c_Mo_place 65 = .ok (.aload_n 0, 1) := by decide +kernel
theorem d_Mo_place_66 : decode c_Mo_place 66 = .ok (.getfield 16, 3) := by decide +kernel
theorem d_Mo_place_69 : decode c_Mo_place 69 = .ok (.iload_n 1, 1) := by decide +kernel
theorem d_Mo_place_70 : decode c_Mo_place 70 = .ok (.iaload, 1) := by decide +kernel
theorem d_Mo_place_71 : decode c_Mo_place 71 = .ok (.iload 7, 2) := by decide +kernel
theorem d_Mo_place_73 : decode c_Mo_place 73 = .ok (.if_icmp .ne 14, 3) := by decide +kernel
theorem d_Mo_place_76 : decode c_Mo_place 76 = .ok (.aload_n 0, 1) := by decide +kernel
theorem d_Mo_place_77 : decode c_Mo_place 77 = .ok (.getfield 19, 3) := by decide +kernel
theorem d_Mo_place_80 : decode c_Mo_place 80 = .ok (.iload_n 1, 1) := by decide +kernel
theorem d_Mo_place_81 : decode c_Mo_place 81 = .ok (.iaload, 1) := by decide +kernel
theorem d_Mo_place_82 : decode c_Mo_place 82 = .ok (.iload 8, 2) := by decide +kernel
theorem d_Mo_place_84 : decode c_Mo_place 84 = .ok (.if_icmp .eq 7, 3) := by decide +kernel
theorem d_Mo_place_87 : decode c_Mo_place 87 = .ok (.iconst 1, 1) := by decide +kernel
theorem d_Mo_place_88 : decode c_Mo_place 88 = .ok (.goto 4, 3) := by decide +kernel
theorem d_Mo_place_91 : decode c_Mo_place 91 = .ok (.iconst 0, 1) := by decide +kernel
theorem d_Mo_place_92 : decode c_Mo_place 92 = .ok (.istore 9, 2) := by decide +kernel
theorem d_Mo_place_94 : decode c_Mo_place 94 = .ok (.aload_n 0, 1) := by decide +kernel
theorem d_Mo_place_95 : decode c_Mo_place 95 = .ok (.getfield 7, 3) := by decide +kernel
theorem d_Mo_place_98 : decode c_Mo_place 98 = .ok (.iload_n 1, 1) := by decide +kernel
theorem d_Mo_place_99 : decode c_Mo_place 99 = .ok (.iload_n 2, 1) := by decide +kernel
theorem d_Mo_place_100 : decode c_Mo_place 100 = .ok (.iastore, 1) := by decide +kernel
theorem d_Mo_place_101 : decode c_Mo_place 101 = .ok (.aload_n 0, 1) := by decide +kernel
theorem d_Mo_place_102 : decode c_Mo_place 102 = .ok (.getfield 13, 3) := by decide +kernel
theorem d_Mo_place_105 : decode c_Mo_place 105 = .ok (.iload_n 1, 1) := by decide +kernel
theorem d_Mo_place_106 : decode c_Mo_place 106 = .ok (.iload 6, 2) := by decide +kernel
theorem d_Mo_place_108 : decode c_Mo_place 108 = .ok (.iastore, 1) := by decide +kernel
theorem d_Mo_place_109 : decode c_Mo_place 109 = .ok (.aload_n 0, 1) := by decide +kernel
theorem d_Mo_place_110 : decode c_Mo_place 110 = .ok (.getfield 16, 3) := by decide +kernel
theorem d_Mo_place_113 : decode c_Mo_place 113 = .ok (.iload_n 1, 1) := by decide +kernel
theorem d_Mo_place_114 : decode c_Mo_place 114 = .ok (.iload 7, 2) := by decide +kernel
theorem d_Mo_place_116 : decode c_Mo_place 116 = .ok (.iastore, 1) := by decide +kernel
theorem d_Mo_place_117 : decode c_Mo_place 117 = .ok (.aload_n 0, 1) := by decide +kernel
theorem d_Mo_place_118 : decode c_Mo_place 118 = .ok (.getfield 19, 3) := by decide +kernel
theorem d_Mo_place_121 : decode c_Mo_place 121 = .ok (.iload_n 1, 1) := by decide +kernel
theorem d_Mo_place_122 : decode c_Mo_place 122 = .ok (.iload 8, 2) := by decide +kernel
theorem d_Mo_place_124 : decode c_Mo_place 124 = .ok (.iastore, 1) := by decide +kernel
theorem d_Mo_place_125 : decode c_Mo_place 125 = .ok (.iload 9, 2) := by decide +kernel
theorem d_Mo_place_127 : decode c_Mo_place 127 = .ok (.ireturn, 1) := by decide +kernel
theorem d_Mo_usesThird_0 : decode c_Mo_usesThird 0 = .ok (.iload_n 0, 1) := by decide +kernel
theorem d_Mo_usesThird_1 : decode c_Mo_usesThird 1 = .ok (.ifCond .eq 21, 3) := by decide +kernel
theorem d_Mo_usesThird_4 : decode c_Mo_usesThird 4 = .ok (.iload_n 0, 1) := by decide +kernel
theorem d_Mo_usesThird_5 : decode c_Mo_usesThird 5 = .ok (.iconst 1, 1) := by decide +kernel
theorem d_Mo_usesThird_6 : decode c_Mo_usesThird 6 = .ok (.if_icmp .le 9, 3) := by decide +kernel
theorem d_Mo_usesThird_9 : decode c_Mo_usesThird 9 = .ok (.iload_n 0, 1) := by decide +kernel
theorem d_Mo_usesThird_10 : decode c_Mo_usesThird 10 = .ok (.bipush 6, 2) := by decide +kernel
theorem d_Mo_usesThird_12 : decode c_Mo_usesThird 12 = .ok (.if_icmp .lt 10, 3) := by decide +kernel
theorem d_Mo_usesThird_15 : decode c_Mo_usesThird 15 = .ok (.iload_n 0, 1) := by decide +kernel
theorem d_Mo_usesThird_16 : decode c_Mo_usesThird 16 = .ok (.invokestatic 67, 3) := by decide +kernel
theorem d_Mo_usesThird_19 : decode c_Mo_usesThird 19 = .ok (.ifCond .eq 7, 3) := by decide +kernel
theorem d_Mo_usesThird_22 : decode c_Mo_usesThird 22 = .ok (.iconst 1, 1) := by decide +kernel
theorem d_Mo_usesThird_23 : decode c_Mo_usesThird 23 = .ok (.goto 4, 3) := by decide +kernel
theorem d_Mo_usesThird_26 : decode c_Mo_usesThird 26 = .ok (.iconst 0, 1) := by decide +kernel
theorem d_Mo_usesThird_27 : decode c_Mo_usesThird 27 = .ok (.ireturn, 1) := by decide +kernel
theorem d_Mo_put_0 : decode c_Mo_put 0 = .ok (.aload_n 0, 1) := by decide +kernel
theorem d_Mo_put_1 : decode c_Mo_put 1 = .ok (.iload_n 1, 1) := by decide +kernel
theorem d_Mo_put_2 : decode c_Mo_put 2 = .ok (.invokevirtual 87, 3) := by decide +kernel
theorem d_Mo_put_5 : decode c_Mo_put 5 = .ok (.ifCond .ne 15, 3) := by decide +kernel
theorem d_Mo_put_8 : decode c_Mo_put 8 = .ok (.iload_n 2, 1) := by decide +kernel
theorem d_Mo_put_9 : decode c_Mo_put 9 = .ok (.iload_n 3, 1) := by decide +kernel
theorem d_Mo_put_10 : decode c_Mo_put 10 = .ok (.iload 4, 2) := by decide +kernel
theorem d_Mo_put_12 : decode c_Mo_put 12 = .ok (.iload 5, 2) := by decide +kernel
theorem d_Mo_put_14 : decode c_Mo_put 14 = .ok (.invokestatic 73, 3) := by decide +kernel
theorem d_Mo_put_17 : decode c_Mo_put 17 = .ok (.ifCond .eq 5, 3) := by decide +kernel
theorem d_Mo_put_20 : decode c_Mo_put 20 = .ok (.iconst 0, 1) := by decide +kernel
theorem d_Mo_put_21 : decode c_Mo_put 21 = .ok (.ireturn, 1) := by decide +kernel
theorem d_Mo_put_22 : decode c_Mo_put 22 = .ok (.aload_n 0, 1) := by decide +kernel
theorem d_Mo_put_23 : decode c_Mo_put 23 = .ok (.iload_n 1, 1) := by decide +kernel
theorem d_Mo_put_24 : decode c_Mo_put 24 = .ok (.iload_n 2, 1) := by decide +kernel
theorem d_Mo_put_25 : decode c_Mo_put 25 = .ok (.iload_n 3, 1) := by decide +kernel
theorem d_Mo_put_26 : decode c_Mo_put 26 = .ok (.iload 4, 2) := by decide +kernel
theorem d_Mo_put_28 : decode c_Mo_put 28 = .ok (.iload 5, 2) := by decide +kernel
theorem d_Mo_put_30 : decode c_Mo_put 30 = .ok (.invokevirtual 80, 3) := by decide +kernel
theorem d_Mo_put_33 : decode c_Mo_put 33 = .ok (.pop, 1) := by decide +kernel
theorem d_Mo_put_34 : decode c_Mo_put 34 = .ok (.aload_n 0, 1) := by decide +kernel
theorem d_Mo_put_35 : decode c_Mo_put 35 = .ok (.iconst 0, 1) := by decide +kernel
theorem d_Mo_put_36 : decode c_Mo_put 36 = .ok (.putfield 83, 3) := by decide +kernel
theorem d_Mo_put_39 : decode c_Mo_put 39 = .ok (.iconst 1, 1) := by decide +kernel
theorem d_Mo_put_40 : decode c_Mo_put 40 = .ok (.ireturn, 1) := by decide +kernel
theorem d_Mo_none_0 : decode c_Mo_none 0 = .ok (.iload_n 1, 1) := by decide +kernel
theorem d_Mo_none_1 : decode c_Mo_none 1 = .ok (.ifCond .lt 11, 3) := by decide +kernel
theorem d_Mo_none_4 : decode c_Mo_none 4 = .ok (.iload_n 1, 1) := by decide +kernel
theorem d_Mo_none_5 : decode c_Mo_none 5 = .ok (.aload_n 0, 1) := by decide +kernel
theorem d_Mo_none_6 : decode c_Mo_none 6 = .ok (.getfield 77, 3) := by decide +kernel
theorem d_Mo_none_9 : decode c_Mo_none 9 = .ok (.if_icmp .lt 7, 3) := by decide +kernel
theorem d_Mo_none_12 : decode c_Mo_none 12 = .ok (.iconst 1, 1) := by decide +kernel
theorem d_Mo_none_13 : decode c_Mo_none 13 = .ok (.goto 4, 3) := by decide +kernel
theorem d_Mo_none_16 : decode c_Mo_none 16 = .ok (.iconst 0, 1) := by decide +kernel
theorem d_Mo_none_17 : decode c_Mo_none 17 = .ok (.ireturn, 1) := by decide +kernel
theorem d_Mo_clear_0 : decode c_Mo_clear 0 = .ok (.aload_n 0, 1) := by decide +kernel
theorem d_Mo_clear_1 : decode c_Mo_clear 1 = .ok (.iconst 0, 1) := by decide +kernel
theorem d_Mo_clear_2 : decode c_Mo_clear 2 = .ok (.putfield 77, 3) := by decide +kernel
theorem d_Mo_clear_5 : decode c_Mo_clear 5 = .ok (.aload_n 0, 1) := by decide +kernel
theorem d_Mo_clear_6 : decode c_Mo_clear 6 = .ok (.iconst 0, 1) := by decide +kernel
theorem d_Mo_clear_7 : decode c_Mo_clear 7 = .ok (.putfield 83, 3) := by decide +kernel
theorem d_Mo_clear_10 : decode c_Mo_clear 10 = .ok (.return_, 1) := by decide +kernel
theorem d_Mo_length_0 : decode c_Mo_length 0 = .ok (.aload_n 0, 1) := by decide +kernel
theorem d_Mo_length_1 : decode c_Mo_length 1 = .ok (.getfield 77, 3) := by decide +kernel
theorem d_Mo_length_4 : decode c_Mo_length 4 = .ok (.ireturn, 1) := by decide +kernel
theorem d_Mo_code_0 : decode c_Mo_code 0 = .ok (.aload_n 0, 1) := by decide +kernel
theorem d_Mo_code_1 : decode c_Mo_code 1 = .ok (.iload_n 1, 1) := by decide +kernel
theorem d_Mo_code_2 : decode c_Mo_code 2 = .ok (.invokevirtual 87, 3) := by decide +kernel
theorem d_Mo_code_5 : decode c_Mo_code 5 = .ok (.ifCond .ne 12, 3) := by decide +kernel
theorem d_Mo_code_8 : decode c_Mo_code 8 = .ok (.iload_n 2, 1) := by decide +kernel
theorem d_Mo_code_9 : decode c_Mo_code 9 = .ok (.ifCond .lt 8, 3) := by decide +kernel
theorem d_Mo_code_12 : decode c_Mo_code 12 = .ok (.iload_n 2, 1) := by decide +kernel
theorem d_Mo_code_13 : decode c_Mo_code 13 = .ok (.iconst 3, 1) := by decide +kernel
theorem d_Mo_code_14 : decode c_Mo_code 14 = .ok (.if_icmp .le 5, 3) := by decide +kernel
theorem d_Mo_code_17 : decode c_Mo_code 17 = .ok (.iconst (-1), 1) := by decide +kernel
theorem d_Mo_code_18 : decode c_Mo_code 18 = .ok (.ireturn, 1) := by decide +kernel
theorem d_Mo_code_19 : decode c_Mo_code 19 = .ok (.iload_n 2, 1) := by decide +kernel
theorem d_Mo_code_20 : decode c_Mo_code 20 = .ok (.ifCond .ne 12, 3) := by decide +kernel
theorem d_Mo_code_23 : decode c_Mo_code 23 = .ok (.aload_n 0, 1) := by decide +kernel
theorem d_Mo_code_24 : decode c_Mo_code 24 = .ok (.getfield 7, 3) := by decide +kernel
theorem d_Mo_code_27 : decode c_Mo_code 27 = .ok (.iload_n 1, 1) := by decide +kernel
theorem d_Mo_code_28 : decode c_Mo_code 28 = .ok (.iaload, 1) := by decide +kernel
theorem d_Mo_code_29 : decode c_Mo_code 29 = .ok (.goto 37, 3) := by decide +kernel
theorem d_Mo_code_32 : decode c_Mo_code 32 = .ok (.iload_n 2, 1) := by decide +kernel
theorem d_Mo_code_33 : decode c_Mo_code 33 = .ok (.iconst 1, 1) := by decide +kernel
theorem d_Mo_code_34 : decode c_Mo_code 34 = .ok (.if_icmp .ne 12, 3) := by decide +kernel
theorem d_Mo_code_37 : decode c_Mo_code 37 = .ok (.aload_n 0, 1) := by decide +kernel
theorem d_Mo_code_38 : decode c_Mo_code 38 = .ok (.getfield 13, 3) := by decide +kernel
theorem d_Mo_code_41 : decode c_Mo_code 41 = .ok (.iload_n 1, 1) := by decide +kernel
theorem d_Mo_code_42 : decode c_Mo_code 42 = .ok (.iaload, 1) := by decide +kernel
theorem d_Mo_code_43 : decode c_Mo_code 43 = .ok (.goto 23, 3) := by decide +kernel
theorem d_Mo_code_46 : decode c_Mo_code 46 = .ok (.iload_n 2, 1) := by decide +kernel
theorem d_Mo_code_47 : decode c_Mo_code 47 = .ok (.iconst 2, 1) := by decide +kernel
theorem d_Mo_code_48 : decode c_Mo_code 48 = .ok (.if_icmp .ne 12, 3) := by decide +kernel
theorem d_Mo_code_51 : decode c_Mo_code 51 = .ok (.aload_n 0, 1) := by decide +kernel
theorem d_Mo_code_52 : decode c_Mo_code 52 = .ok (.getfield 16, 3) := by decide +kernel
theorem d_Mo_code_55 : decode c_Mo_code 55 = .ok (.iload_n 1, 1) := by decide +kernel
theorem d_Mo_code_56 : decode c_Mo_code 56 = .ok (.iaload, 1) := by decide +kernel
theorem d_Mo_code_57 : decode c_Mo_code 57 = .ok (.goto 9, 3) := by decide +kernel
theorem d_Mo_code_60 : decode c_Mo_code 60 = .ok (.aload_n 0, 1) := by decide +kernel
theorem d_Mo_code_61 : decode c_Mo_code 61 = .ok (.getfield 19, 3) := by decide +kernel
theorem d_Mo_code_64 : decode c_Mo_code 64 = .ok (.iload_n 1, 1) := by decide +kernel
theorem d_Mo_code_65 : decode c_Mo_code 65 = .ok (.iaload, 1) := by decide +kernel
theorem d_Mo_code_66 : decode c_Mo_code 66 = .ok (.ireturn, 1) := by decide +kernel
theorem d_Mo_reached_0 : decode c_Mo_reached 0 = .ok (.aload_n 0, 1) := by decide +kernel
theorem d_Mo_reached_1 : decode c_Mo_reached 1 = .ok (.invokevirtual 171, 3) := by decide +kernel
theorem d_Mo_reached_4 : decode c_Mo_reached 4 = .ok (.aload_n 0, 1) := by decide +kernel
theorem d_Mo_reached_5 : decode c_Mo_reached 5 = .ok (.iload_n 1, 1) := by decide +kernel
theorem d_Mo_reached_6 : decode c_Mo_reached 6 = .ok (.invokevirtual 87, 3) := by decide +kernel
theorem d_Mo_reached_9 : decode c_Mo_reached 9 = .ok (.ifCond .ne 16, 3) := by decide +kernel
theorem d_Mo_reached_12 : decode c_Mo_reached 12 = .ok (.aload_n 0, 1) := by decide +kernel
theorem d_Mo_reached_13 : decode c_Mo_reached 13 = .ok (.getfield 22, 3) := by decide +kernel
theorem d_Mo_reached_16 : decode c_Mo_reached 16 = .ok (.iload_n 1, 1) := by decide +kernel
theorem d_Mo_reached_17 : decode c_Mo_reached 17 = .ok (.baload, 1) := by decide +kernel
theorem d_Mo_reached_18 : decode c_Mo_reached 18 = .ok (.ifCond .eq 7, 3) := by decide +kernel
theorem d_Mo_reached_21 : decode c_Mo_reached 21 = .ok (.iconst 1, 1) := by decide +kernel
theorem d_Mo_reached_22 : decode c_Mo_reached 22 = .ok (.goto 4, 3) := by decide +kernel
theorem d_Mo_reached_25 : decode c_Mo_reached 25 = .ok (.iconst 0, 1) := by decide +kernel
theorem d_Mo_reached_26 : decode c_Mo_reached 26 = .ok (.ireturn, 1) := by decide +kernel
theorem d_Mo_solve_0 : decode c_Mo_solve 0 = .ok (.aload_n 0, 1) := by decide +kernel
