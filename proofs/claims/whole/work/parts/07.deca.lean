/-! decode rows 0 .. (printed) -/
theorem d_Ff_init_0 : decode c_Ff_init 0 = .ok (.aload_n 0, 1) := by decide +kernel
theorem d_Ff_init_1 : decode c_Ff_init 1 = .ok (.invokespecial 3, 3) := by decide +kernel
theorem d_Ff_init_4 : decode c_Ff_init 4 = .ok (.aload_n 0, 1) := by decide +kernel
theorem d_Ff_init_5 : decode c_Ff_init 5 = .ok (.new 9, 3) := by decide +kernel
theorem d_Ff_init_8 : decode c_Ff_init 8 = .ok (.dup, 1) := by decide +kernel
theorem d_Ff_init_9 : decode c_Ff_init 9 = .ok (.invokespecial 11, 3) := by decide +kernel
theorem d_Ff_init_12 : decode c_Ff_init 12 = .ok (.putfield 12, 3) := by decide +kernel
theorem d_Ff_init_15 : decode c_Ff_init 15 = .ok (.aload_n 0, 1) := by decide +kernel
theorem d_Ff_init_16 : decode c_Ff_init 16 = .ok (.new 16, 3) := by decide +kernel
theorem d_Ff_init_19 : decode c_Ff_init 19 = .ok (.dup, 1) := by decide +kernel
theorem d_Ff_init_20 : decode c_Ff_init 20 = .ok (.invokespecial 18, 3) := by decide +kernel
theorem d_Ff_init_23 : decode c_Ff_init 23 = .ok (.putfield 19, 3) := by decide +kernel
theorem d_Ff_init_26 : decode c_Ff_init 26 = .ok (.aload_n 0, 1) := by decide +kernel
theorem d_Ff_init_27 : decode c_Ff_init 27 = .ok (.new 23, 3) := by decide +kernel
theorem d_Ff_init_30 : decode c_Ff_init 30 = .ok (.dup, 1) := by decide +kernel
theorem d_Ff_init_31 : decode c_Ff_init 31 = .ok (.invokespecial 25, 3) := by decide +kernel
theorem d_Ff_init_34 : decode c_Ff_init 34 = .ok (.putfield 26, 3) := by decide +kernel
theorem d_Ff_init_37 : decode c_Ff_init 37 = .ok (.aload_n 0, 1) := by decide +kernel
theorem d_Ff_init_38 : decode c_Ff_init 38 = .ok (.new 30, 3) := by decide +kernel
theorem d_Ff_init_41 : decode c_Ff_init 41 = .ok (.dup, 1) := by decide +kernel
theorem d_Ff_init_42 : decode c_Ff_init 42 = .ok (.invokespecial 32, 3) := by decide +kernel
theorem d_Ff_init_45 : decode c_Ff_init 45 = .ok (.putfield 33, 3) := by decide +kernel
theorem d_Ff_init_48 : decode c_Ff_init 48 = .ok (.return_, 1) := by decide +kernel
theorem d_Pr_init_0 : decode c_Pr_init 0 = .ok (.aload_n 0, 1) := by decide +kernel
theorem d_Pr_init_1 : decode c_Pr_init 1 = .ok (.invokespecial 3, 3) := by decide +kernel
theorem d_Pr_init_4 : decode c_Pr_init 4 = .ok (.aload_n 0, 1) := by decide +kernel
theorem d_Pr_init_5 : decode c_Pr_init 5 = .ok (.bipush 24, 2) := by decide +kernel
theorem d_Pr_init_7 : decode c_Pr_init 7 = .ok (.anewarray 9, 3) := by decide +kernel
theorem d_Pr_init_10 : decode c_Pr_init 10 = .ok (.putfield 11, 3) := by decide +kernel
theorem d_Pr_init_13 : decode c_Pr_init 13 = .ok (.aload_n 0, 1) := by decide +kernel
theorem d_Pr_init_14 : decode c_Pr_init 14 = .ok (.iconst 0, 1) := by decide +kernel
theorem d_Pr_init_15 : decode c_Pr_init 15 = .ok (.putfield 17, 3) := by decide +kernel
theorem d_Pr_init_18 : decode c_Pr_init 18 = .ok (.aload_n 0, 1) := by decide +kernel
theorem d_Pr_init_19 : decode c_Pr_init 19 = .ok (.new 21, 3) := by decide +kernel
theorem d_Pr_init_22 : decode c_Pr_init 22 = .ok (.dup, 1) := by decide +kernel
theorem d_Pr_init_23 : decode c_Pr_init 23 = .ok (.invokespecial 23, 3) := by decide +kernel
theorem d_Pr_init_26 : decode c_Pr_init 26 = .ok (.putfield 24, 3) := by decide +kernel
theorem d_Pr_init_29 : decode c_Pr_init 29 = .ok (.iconst 0, 1) := by decide +kernel
theorem d_Pr_init_30 : decode c_Pr_init 30 = .ok (.istore_n 1, 1) := by decide +kernel
theorem d_Pr_init_31 : decode c_Pr_init 31 = .ok (.iload_n 1, 1) := by decide +kernel
theorem d_Pr_init_32 : decode c_Pr_init 32 = .ok (.bipush 24, 2) := by decide +kernel
theorem d_Pr_init_34 : decode c_Pr_init 34 = .ok (.if_icmp .ge 22, 3) := by decide +kernel
theorem d_Pr_init_37 : decode c_Pr_init 37 = .ok (.aload_n 0, 1) := by decide +kernel
theorem d_Pr_init_38 : decode c_Pr_init 38 = .ok (.getfield 11, 3) := by decide +kernel
theorem d_Pr_init_41 : decode c_Pr_init 41 = .ok (.iload_n 1, 1) := by decide +kernel
theorem d_Pr_init_42 : decode c_Pr_init 42 = .ok (.new 9, 3) := by decide +kernel
theorem d_Pr_init_45 : decode c_Pr_init 45 = .ok (.dup, 1) := by decide +kernel
theorem d_Pr_init_46 : decode c_Pr_init 46 = .ok (.invokespecial 28, 3) := by decide +kernel
theorem d_Pr_init_49 : decode c_Pr_init 49 = .ok (.aastore, 1) := by decide +kernel
theorem d_Pr_init_50 : decode c_Pr_init 50 = .ok (.iinc 1 1, 3) := by decide +kernel
theorem d_Pr_init_53 : decode c_Pr_init 53 = .ok (.goto (-22), 3) := by decide +kernel
theorem d_Pr_init_56 : decode c_Pr_init 56 = .ok (.return_, 1) := by decide +kernel
theorem d_Fa_init_0 : decode c_Fa_init 0 = .ok (.aload_n 0, 1) := by decide +kernel
theorem d_Fa_init_1 : decode c_Fa_init 1 = .ok (.invokespecial 3, 3) := by decide +kernel
theorem d_Fa_init_4 : decode c_Fa_init 4 = .ok (.aload_n 0, 1) := by decide +kernel
theorem d_Fa_init_5 : decode c_Fa_init 5 = .ok (.bipush 32, 2) := by decide +kernel
theorem d_Fa_init_7 : decode c_Fa_init 7 = .ok (.putfield 9, 3) := by decide +kernel
theorem d_Fa_init_10 : decode c_Fa_init 10 = .ok (.aload_n 0, 1) := by decide +kernel
theorem d_Fa_init_11 : decode c_Fa_init 11 = .ok (.iconst 0, 1) := by decide +kernel
theorem d_Fa_init_12 : decode c_Fa_init 12 = .ok (.putfield 15, 3) := by decide +kernel
theorem d_Fa_init_15 : decode c_Fa_init 15 = .ok (.aload_n 0, 1) := by decide +kernel
theorem d_Fa_init_16 : decode c_Fa_init 16 = .ok (.iconst 2, 1) := by decide +kernel
theorem d_Fa_init_17 : decode c_Fa_init 17 = .ok (.putfield 18, 3) := by decide +kernel
theorem d_Fa_init_20 : decode c_Fa_init 20 = .ok (.return_, 1) := by decide +kernel
theorem d_In_init_0 : decode c_In_init 0 = .ok (.aload_n 0, 1) := by decide +kernel
theorem d_In_init_1 : decode c_In_init 1 = .ok (.invokespecial 3, 3) := by decide +kernel
theorem d_In_init_4 : decode c_In_init 4 = .ok (.aload_n 0, 1) := by decide +kernel
theorem d_In_init_5 : decode c_In_init 5 = .ok (.bipush 12, 2) := by decide +kernel
theorem d_In_init_7 : decode c_In_init 7 = .ok (.putfield 9, 3) := by decide +kernel
theorem d_In_init_10 : decode c_In_init 10 = .ok (.aload_n 0, 1) := by decide +kernel
theorem d_In_init_11 : decode c_In_init 11 = .ok (.iconst 0, 1) := by decide +kernel
theorem d_In_init_12 : decode c_In_init 12 = .ok (.putfield 15, 3) := by decide +kernel
theorem d_In_init_15 : decode c_In_init 15 = .ok (.aload_n 0, 1) := by decide +kernel
theorem d_In_init_16 : decode c_In_init 16 = .ok (.iconst 0, 1) := by decide +kernel
theorem d_In_init_17 : decode c_In_init 17 = .ok (.putfield 18, 3) := by decide +kernel
theorem d_In_init_20 : decode c_In_init 20 = .ok (.aload_n 0, 1) := by decide +kernel
theorem d_In_init_21 : decode c_In_init 21 = .ok (.iconst 0, 1) := by decide +kernel
theorem d_In_init_22 : decode c_In_init 22 = .ok (.putfield 21, 3) := by decide +kernel
theorem d_In_init_25 : decode c_In_init 25 = .ok (.return_, 1) := by decide +kernel
theorem d_So_init_0 : decode c_So_init 0 = .ok (.aload_n 0, 1) := by decide +kernel
theorem d_So_init_1 : decode c_So_init 1 = .ok (.invokespecial 3, 3) := by decide +kernel
theorem d_So_init_4 : decode c_So_init 4 = .ok (.aload_n 0, 1) := by decide +kernel
theorem d_So_init_5 : decode c_So_init 5 = .ok (.bipush 24, 2) := by decide +kernel
theorem d_So_init_7 : decode c_So_init 7 = .ok (.anewarray 9, 3) := by decide +kernel
theorem d_So_init_10 : decode c_So_init 10 = .ok (.putfield 11, 3) := by decide +kernel
theorem d_So_init_13 : decode c_So_init 13 = .ok (.aload_n 0, 1) := by decide +kernel
theorem d_So_init_14 : decode c_So_init 14 = .ok (.iconst 0, 1) := by decide +kernel
theorem d_So_init_15 : decode c_So_init 15 = .ok (.putfield 17, 3) := by decide +kernel
theorem d_So_init_18 : decode c_So_init 18 = .ok (.aload_n 0, 1) := by decide +kernel
theorem d_So_init_19 : decode c_So_init 19 = .ok (.bipush 24, 2) := by decide +kernel
theorem d_So_init_21 : decode c_So_init 21 = .ok (.newarray .boolean, 2) := by decide +kernel
theorem d_So_init_23 : decode c_So_init 23 = .ok (.putfield 21, 3) := by decide +kernel
theorem d_So_init_26 : decode c_So_init 26 = .ok (.aload_n 0, 1) := by decide +kernel
theorem d_So_init_27 : decode c_So_init 27 = .ok (.new 9, 3) := by decide +kernel
theorem d_So_init_30 : decode c_So_init 30 = .ok (.dup, 1) := by decide +kernel
theorem d_So_init_31 : decode c_So_init 31 = .ok (.invokespecial 25, 3) := by decide +kernel
theorem d_So_init_34 : decode c_So_init 34 = .ok (.putfield 26, 3) := by decide +kernel
theorem d_So_init_37 : decode c_So_init 37 = .ok (.iconst 0, 1) := by decide +kernel
theorem d_So_init_38 : decode c_So_init 38 = .ok (.istore_n 1, 1) := by decide +kernel
theorem d_So_init_39 : decode c_So_init 39 = .ok (.iload_n 1, 1) := by decide +kernel
theorem d_So_init_40 : decode c_So_init 40 = .ok (.bipush 24, 2) := by decide +kernel
theorem d_So_init_42 : decode c_So_init 42 = .ok (.if_icmp .ge 22, 3) := by decide +kernel
theorem d_So_init_45 : decode c_So_init 45 = .ok (.aload_n 0, 1) := by decide +kernel
theorem d_So_init_46 : decode c_So_init 46 = .ok (.getfield 11, 3) := by decide +kernel
theorem d_So_init_49 : decode c_So_init 49 = .ok (.iload_n 1, 1) := by decide +kernel
theorem d_So_init_50 : decode c_So_init 50 = .ok (.new 9, 3) := by decide +kernel
theorem d_So_init_53 : decode c_So_init 53 = .ok (.dup, 1) := by decide +kernel
theorem d_So_init_54 : decode c_So_init 54 = .ok (.invokespecial 25, 3) := by decide +kernel
theorem d_So_init_57 : decode c_So_init 57 = .ok (.aastore, 1) := by decide +kernel
theorem d_So_init_58 : decode c_So_init 58 = .ok (.iinc 1 1, 3) := by decide +kernel
theorem d_So_init_61 : decode c_So_init 61 = .ok (.goto (-22), 3) := by decide +kernel
theorem d_So_init_64 : decode c_So_init 64 = .ok (.return_, 1) := by decide +kernel
theorem d_St_init_0 : decode c_St_init 0 = .ok (.aload_n 0, 1) := by decide +kernel
theorem d_St_init_1 : decode c_St_init 1 = .ok (.invokespecial 3, 3) := by decide +kernel
theorem d_St_init_4 : decode c_St_init 4 = .ok (.aload_n 0, 1) := by decide +kernel
theorem d_St_init_5 : decode c_St_init 5 = .ok (.iconst 4, 1) := by decide +kernel
theorem d_St_init_6 : decode c_St_init 6 = .ok (.anewarray 9, 3) := by decide +kernel
theorem d_St_init_9 : decode c_St_init 9 = .ok (.putfield 11, 3) := by decide +kernel
theorem d_St_init_12 : decode c_St_init 12 = .ok (.aload_n 0, 1) := by decide +kernel
theorem d_St_init_13 : decode c_St_init 13 = .ok (.iconst 1, 1) := by decide +kernel
theorem d_St_init_14 : decode c_St_init 14 = .ok (.putfield 17, 3) := by decide +kernel
theorem d_St_init_17 : decode c_St_init 17 = .ok (.iconst 0, 1) := by decide +kernel
theorem d_St_init_18 : decode c_St_init 18 = .ok (.istore_n 1, 1) := by decide +kernel
theorem d_St_init_19 : decode c_St_init 19 = .ok (.iload_n 1, 1) := by decide +kernel
theorem d_St_init_20 : decode c_St_init 20 = .ok (.iconst 4, 1) := by decide +kernel
theorem d_St_init_21 : decode c_St_init 21 = .ok (.if_icmp .ge 22, 3) := by decide +kernel
theorem d_St_init_24 : decode c_St_init 24 = .ok (.aload_n 0, 1) := by decide +kernel
theorem d_St_init_25 : decode c_St_init 25 = .ok (.getfield 11, 3) := by decide +kernel
theorem d_St_init_28 : decode c_St_init 28 = .ok (.iload_n 1, 1) := by decide +kernel
theorem d_St_init_29 : decode c_St_init 29 = .ok (.new 9, 3) := by decide +kernel
theorem d_St_init_32 : decode c_St_init 32 = .ok (.dup, 1) := by decide +kernel
theorem d_St_init_33 : decode c_St_init 33 = .ok (.invokespecial 21, 3) := by decide +kernel
theorem d_St_init_36 : decode c_St_init 36 = .ok (.aastore, 1) := by decide +kernel
theorem d_St_init_37 : decode c_St_init 37 = .ok (.iinc 1 1, 3) := by decide +kernel
theorem d_St_init_40 : decode c_St_init 40 = .ok (.goto (-21), 3) := by decide +kernel
theorem d_St_init_43 : decode c_St_init 43 = .ok (.return_, 1) := by decide +kernel
theorem d_Ip_init_0 : decode c_Ip_init 0 = .ok (.aload_n 0, 1) := by decide +kernel
theorem d_Ip_init_1 : decode c_Ip_init 1 = .ok (.invokespecial 3, 3) := by decide +kernel
theorem d_Ip_init_4 : decode c_Ip_init 4 = .ok (.aload_n 0, 1) := by decide +kernel
theorem d_Ip_init_5 : decode c_Ip_init 5 = .ok (.bipush 16, 2) := by decide +kernel
theorem d_Ip_init_7 : decode c_Ip_init 7 = .ok (.newarray .int, 2) := by decide +kernel
theorem d_Ip_init_9 : decode c_Ip_init 9 = .ok (.putfield 9, 3) := by decide +kernel
theorem d_Ip_init_12 : decode c_Ip_init 12 = .ok (.aload_n 0, 1) := by decide +kernel
theorem d_Ip_init_13 : decode c_Ip_init 13 = .ok (.iconst 0, 1) := by decide +kernel
theorem d_Ip_init_14 : decode c_Ip_init 14 = .ok (.putfield 15, 3) := by decide +kernel
theorem d_Ip_init_17 : decode c_Ip_init 17 = .ok (.return_, 1) := by decide +kernel
theorem d_Ma_init_0 : decode c_Ma_init 0 = .ok (.aload_n 0, 1) := by decide +kernel
theorem d_Ma_init_1 : decode c_Ma_init 1 = .ok (.invokespecial 3, 3) := by decide +kernel
theorem d_Ma_init_4 : decode c_Ma_init 4 = .ok (.aload_n 0, 1) := by decide +kernel
theorem d_Ma_init_5 : decode c_Ma_init 5 = .ok (.iconst 4, 1) := by decide +kernel
theorem d_Ma_init_6 : decode c_Ma_init 6 = .ok (.newarray .int, 2) := by decide +kernel
theorem d_Ma_init_8 : decode c_Ma_init 8 = .ok (.putfield 9, 3) := by decide +kernel
theorem d_Ma_init_11 : decode c_Ma_init 11 = .ok (.aload_n 0, 1) := by decide +kernel
theorem d_Ma_init_12 : decode c_Ma_init 12 = .ok (.bipush 40, 2) := by decide +kernel
theorem d_Ma_init_14 : decode c_Ma_init 14 = .ok (.newarray .int, 2) := by decide +kernel
theorem d_Ma_init_16 : decode c_Ma_init 16 = .ok (.putfield 15, 3) := by decide +kernel
theorem d_Ma_init_19 : decode c_Ma_init 19 = .ok (.aload_n 0, 1) := by decide +kernel
theorem d_Ma_init_20 : decode c_Ma_init 20 = .ok (.iconst 0, 1) := by decide +kernel
theorem d_Ma_init_21 : decode c_Ma_init 21 = .ok (.putfield 18, 3) := by decide +kernel
theorem d_Ma_init_24 : decode c_Ma_init 24 = .ok (.aload_n 0, 1) := by decide +kernel
theorem d_Ma_init_25 : decode c_Ma_init 25 = .ok (.iconst 0, 1) := by decide +kernel
theorem d_Ma_init_26 : decode c_Ma_init 26 = .ok (.putfield 22, 3) := by decide +kernel
theorem d_Ma_init_29 : decode c_Ma_init 29 = .ok (.aload_n 0, 1) := by decide +kernel
theorem d_Ma_init_30 : decode c_Ma_init 30 = .ok (.iconst (-1), 1) := by decide +kernel
theorem d_Ma_init_31 : decode c_Ma_init 31 = .ok (.putfield 25, 3) := by decide +kernel
theorem d_Ma_init_34 : decode c_Ma_init 34 = .ok (.aload_n 0, 1) := by decide +kernel
theorem d_Ma_init_35 : decode c_Ma_init 35 = .ok (.iconst 0, 1) := by decide +kernel
theorem d_Ma_init_36 : decode c_Ma_init 36 = .ok (.putfield 28, 3) := by decide +kernel
theorem d_Ma_init_39 : decode c_Ma_init 39 = .ok (.return_, 1) := by decide +kernel
theorem d_Ff_add_0 : decode c_Ff_add 0 = .ok (.iload_n 1, 1) := by decide +kernel
theorem d_Ff_add_1 : decode c_Ff_add 1 = .ok (.iload_n 2, 1) := by decide +kernel
theorem d_Ff_add_2 : decode c_Ff_add 2 = .ok (.iload_n 3, 1) := by decide +kernel
theorem d_Ff_add_3 : decode c_Ff_add 3 = .ok (.iload 4, 2) := by decide +kernel
theorem d_Ff_add_5 : decode c_Ff_add 5 = .ok (.invokestatic 37, 3) := by decide +kernel
theorem d_Ff_add_8 : decode c_Ff_add 8 = .ok (.ifCond .ne 5, 3) := by decide +kernel
theorem d_Ff_add_11 : decode c_Ff_add 11 = .ok (.iconst (-1), 1) := by decide +kernel
theorem d_Ff_add_12 : decode c_Ff_add 12 = .ok (.ireturn, 1) := by decide +kernel
theorem d_Ff_add_13 : decode c_Ff_add 13 = .ok (.aload_n 0, 1) := by decide +kernel
theorem d_Ff_add_14 : decode c_Ff_add 14 = .ok (.getfield 12, 3) := by decide +kernel
theorem d_Ff_add_17 : decode c_Ff_add 17 = .ok (.getfield 43, 3) := by decide +kernel
theorem d_Ff_add_20 : decode c_Ff_add 20 = .ok (.bipush 24, 2) := by decide +kernel
theorem d_Ff_add_22 : decode c_Ff_add 22 = .ok (.if_icmp .ne 6, 3) := by decide +kernel
theorem d_Ff_add_25 : decode c_Ff_add 25 = .ok (.bipush (-2), 2) := by decide +kernel
theorem d_Ff_add_27 : decode c_Ff_add 27 = .ok (.ireturn, 1) := by decide +kernel
theorem d_Ff_add_28 : decode c_Ff_add 28 = .ok (.aload_n 0, 1) := by decide +kernel
theorem d_Ff_add_29 : decode c_Ff_add 29 = .ok (.getfield 12, 3) := by decide +kernel
theorem d_Ff_add_32 : decode c_Ff_add 32 = .ok (.getfield 43, 3) := by decide +kernel
theorem d_Ff_add_35 : decode c_Ff_add 35 = .ok (.istore 5, 2) := by decide +kernel
theorem d_Ff_add_37 : decode c_Ff_add 37 = .ok (.aload_n 0, 1) := by decide +kernel
theorem d_Ff_add_38 : decode c_Ff_add 38 = .ok (.getfield 12, 3) := by decide +kernel
theorem d_Ff_add_41 : decode c_Ff_add 41 = .ok (.getfield 47, 3) := by decide +kernel
theorem d_Ff_add_44 : decode c_Ff_add 44 = .ok (.iload 5, 2) := by decide +kernel
theorem d_Ff_add_46 : decode c_Ff_add 46 = .ok (.aaload, 1) := by decide +kernel
theorem d_Ff_add_47 : decode c_Ff_add 47 = .ok (.iload_n 1, 1) := by decide +kernel
theorem d_Ff_add_48 : decode c_Ff_add 48 = .ok (.iload_n 2, 1) := by decide +kernel
theorem d_Ff_add_49 : decode c_Ff_add 49 = .ok (.iload_n 3, 1) := by decide +kernel
theorem d_Ff_add_50 : decode c_Ff_add 50 = .ok (.iload 4, 2) := by decide +kernel
theorem d_Ff_add_52 : decode c_Ff_add 52 = .ok (.invokevirtual 51, 3) := by decide +kernel
theorem d_Ff_add_55 : decode c_Ff_add 55 = .ok (.aload_n 0, 1) := by decide +kernel
theorem d_Ff_add_56 : decode c_Ff_add 56 = .ok (.getfield 12, 3) := by decide +kernel
theorem d_Ff_add_59 : decode c_Ff_add 59 = .ok (.iload 5, 2) := by decide +kernel
theorem d_Ff_add_61 : decode c_Ff_add 61 = .ok (.iconst 1, 1) := by decide +kernel
theorem d_Ff_add_62 : decode c_Ff_add 62 = .ok (.iadd, 1) := by decide +kernel
theorem d_Ff_add_63 : decode c_Ff_add 63 = .ok (.putfield 43, 3) := by decide +kernel
theorem d_Ff_add_66 : decode c_Ff_add 66 = .ok (.aload_n 0, 1) := by decide +kernel
theorem d_Ff_add_67 : decode c_Ff_add 67 = .ok (.getfield 19, 3) := by decide +kernel
theorem d_Ff_add_70 : decode c_Ff_add 70 = .ok (.iconst 0, 1) := by decide +kernel
theorem d_Ff_add_71 : decode c_Ff_add 71 = .ok (.putfield 55, 3) := by decide +kernel
theorem d_Ff_add_74 : decode c_Ff_add 74 = .ok (.iload 5, 2) := by decide +kernel
theorem d_Ff_add_76 : decode c_Ff_add 76 = .ok (.ireturn, 1) := by decide +kernel
theorem d_In_isTold_0 : decode c_In_isTold 0 = .ok (.iload_n 0, 1) := by decide +kernel
theorem d_In_isTold_1 : decode c_In_isTold 1 = .ok (.ifCond .lt 9, 3) := by decide +kernel
theorem d_In_isTold_4 : decode c_In_isTold 4 = .ok (.iload_n 0, 1) := by decide +kernel
theorem d_In_isTold_5 : decode c_In_isTold 5 = .ok (.bipush 12, 2) := by decide +kernel
theorem d_In_isTold_7 : decode c_In_isTold 7 = .ok (.if_icmp .le 5, 3) := by decide +kernel
theorem d_In_isTold_10 : decode c_In_isTold 10 = .ok (.iconst 0, 1) := by decide +kernel
theorem d_In_isTold_11 : decode c_In_isTold 11 = .ok (.ireturn, 1) := by decide +kernel
theorem d_In_isTold_12 : decode c_In_isTold 12 = .ok (.iload_n 0, 1) := by decide +kernel
theorem d_In_isTold_13 : decode c_In_isTold 13 = .ok (.invokestatic 24, 3) := by decide +kernel
theorem d_In_isTold_16 : decode c_In_isTold 16 = .ok (.ifCond .eq 10, 3) := by decide +kernel
theorem d_In_isTold_19 : decode c_In_isTold 19 = .ok (.iload_n 1, 1) := by decide +kernel
theorem d_In_isTold_20 : decode c_In_isTold 20 = .ok (.invokestatic 28, 3) := by decide +kernel
theorem d_In_isTold_23 : decode c_In_isTold 23 = .ok (.ifCond .eq 17, 3) := by decide +kernel
theorem d_In_isTold_26 : decode c_In_isTold 26 = .ok (.iload_n 0, 1) := by decide +kernel
theorem d_In_isTold_27 : decode c_In_isTold 27 = .ok (.invokestatic 31, 3) := by decide +kernel
theorem d_In_isTold_30 : decode c_In_isTold 30 = .ok (.ifCond .eq 12, 3) := by decide +kernel
theorem d_In_isTold_33 : decode c_In_isTold 33 = .ok (.iload_n 2, 1) := by decide +kernel
theorem d_In_isTold_34 : decode c_In_isTold 34 = .ok (.invokestatic 28, 3) := by decide +kernel
theorem d_In_isTold_37 : decode c_In_isTold 37 = .ok (.ifCond .ne 5, 3) := by decide +kernel
theorem d_In_isTold_40 : decode c_In_isTold 40 = .ok (.iconst 0, 1) := by decide +kernel
theorem d_In_isTold_41 : decode c_In_isTold 41 = .ok (.ireturn, 1) := by decide +kernel
theorem d_In_isTold_42 : decode c_In_isTold 42 = .ok (.iload_n 0, 1) := by decide +kernel
theorem d_In_isTold_43 : decode c_In_isTold 43 = .ok (.invokestatic 34, 3) := by decide +kernel
theorem d_In_isTold_46 : decode c_In_isTold 46 = .ok (.ifCond .eq 8, 3) := by decide +kernel
theorem d_In_isTold_49 : decode c_In_isTold 49 = .ok (.iload_n 3, 1) := by decide +kernel
theorem d_In_isTold_50 : decode c_In_isTold 50 = .ok (.invokestatic 28, 3) := by decide +kernel
theorem d_In_isTold_53 : decode c_In_isTold 53 = .ok (.ireturn, 1) := by decide +kernel
theorem d_In_isTold_54 : decode c_In_isTold 54 = .ok (.iload_n 0, 1) := by decide +kernel
theorem d_In_isTold_55 : decode c_In_isTold 55 = .ok (.invokestatic 37, 3) := by decide +kernel
theorem d_In_isTold_58 : decode c_In_isTold 58 = .ok (.ifCond .eq 13, 3) := by decide +kernel
theorem d_In_isTold_61 : decode c_In_isTold 61 = .ok (.iload_n 3, 1) := by decide +kernel
theorem d_In_isTold_62 : decode c_In_isTold 62 = .ok (.ifCond .lt 13, 3) := by decide +kernel
theorem d_In_isTold_65 : decode c_In_isTold 65 = .ok (.iload_n 3, 1) := by decide +kernel
theorem d_In_isTold_66 : decode c_In_isTold 66 = .ok (.bipush 24, 2) := by decide +kernel
theorem d_In_isTold_68 : decode c_In_isTold 68 = .ok (.if_icmp .gt 7, 3) := by decide +kernel
theorem d_In_isTold_71 : decode c_In_isTold 71 = .ok (.iconst 1, 1) := by decide +kernel
theorem d_In_isTold_72 : decode c_In_isTold 72 = .ok (.goto 4, 3) := by decide +kernel
theorem d_In_isTold_75 : decode c_In_isTold 75 = .ok (.iconst 0, 1) := by decide +kernel
theorem d_In_isTold_76 : decode c_In_isTold 76 = .ok (.ireturn, 1) := by decide +kernel
theorem d_In_usesA_0 : decode c_In_usesA 0 = .ok (.iload_n 0, 1) := by decide +kernel
theorem d_In_usesA_1 : decode c_In_usesA 1 = .ok (.bipush 9, 2) := by decide +kernel
theorem d_In_usesA_3 : decode c_In_usesA 3 = .ok (.if_icmp .eq 19, 3) := by decide +kernel
theorem d_In_usesA_6 : decode c_In_usesA 6 = .ok (.iload_n 0, 1) := by decide +kernel
theorem d_In_usesA_7 : decode c_In_usesA 7 = .ok (.bipush 11, 2) := by decide +kernel
theorem d_In_usesA_9 : decode c_In_usesA 9 = .ok (.if_icmp .eq 13, 3) := by decide +kernel
theorem d_In_usesA_12 : decode c_In_usesA 12 = .ok (.iload_n 0, 1) := by decide +kernel
theorem d_In_usesA_13 : decode c_In_usesA 13 = .ok (.bipush 12, 2) := by decide +kernel
theorem d_In_usesA_15 : decode c_In_usesA 15 = .ok (.if_icmp .eq 7, 3) := by decide +kernel
theorem d_In_usesA_18 : decode c_In_usesA 18 = .ok (.iconst 1, 1) := by decide +kernel
theorem d_In_usesA_19 : decode c_In_usesA 19 = .ok (.goto 4, 3) := by decide +kernel
theorem d_In_usesA_22 : decode c_In_usesA 22 = .ok (.iconst 0, 1) := by decide +kernel
theorem d_In_usesA_23 : decode c_In_usesA 23 = .ok (.ireturn, 1) := by decide +kernel
theorem d_Ff_isVariable_0 : decode c_Ff_isVariable 0 = .ok (.iload_n 0, 1) := by decide +kernel
theorem d_Ff_isVariable_1 : decode c_Ff_isVariable 1 = .ok (.ifCond .lt 12, 3) := by decide +kernel
theorem d_Ff_isVariable_4 : decode c_Ff_isVariable 4 = .ok (.iload_n 0, 1) := by decide +kernel
theorem d_Ff_isVariable_5 : decode c_Ff_isVariable 5 = .ok (.iconst 4, 1) := by decide +kernel
theorem d_Ff_isVariable_6 : decode c_Ff_isVariable 6 = .ok (.if_icmp .ge 7, 3) := by decide +kernel
theorem d_Ff_isVariable_9 : decode c_Ff_isVariable 9 = .ok (.iconst 1, 1) := by decide +kernel
theorem d_Ff_isVariable_10 : decode c_Ff_isVariable 10 = .ok (.goto 4, 3) := by decide +kernel
theorem d_Ff_isVariable_13 : decode c_Ff_isVariable 13 = .ok (.iconst 0, 1) := by decide +kernel
theorem d_Ff_isVariable_14 : decode c_Ff_isVariable 14 = .ok (.ireturn, 1) := by decide +kernel
theorem d_In_usesB_0 : decode c_In_usesB 0 = .ok (.iload_n 0, 1) := by decide +kernel
theorem d_In_usesB_1 : decode c_In_usesB 1 = .ok (.iconst 1, 1) := by decide +kernel
theorem d_In_usesB_2 : decode c_In_usesB 2 = .ok (.if_icmp .eq 10, 3) := by decide +kernel
theorem d_In_usesB_5 : decode c_In_usesB 5 = .ok (.iload_n 0, 1) := by decide +kernel
theorem d_In_usesB_6 : decode c_In_usesB 6 = .ok (.invokestatic 34, 3) := by decide +kernel
theorem d_In_usesB_9 : decode c_In_usesB 9 = .ok (.ifCond .eq 7, 3) := by decide +kernel
theorem d_In_usesB_12 : decode c_In_usesB 12 = .ok (.iconst 1, 1) := by decide +kernel
theorem d_In_usesB_13 : decode c_In_usesB 13 = .ok (.goto 4, 3) := by decide +kernel
theorem d_In_usesB_16 : decode c_In_usesB 16 = .ok (.iconst 0, 1) := by decide +kernel
theorem d_In_usesB_17 : decode c_In_usesB 17 = .ok (.ireturn, 1) := by decide +kernel
theorem d_In_calculates_0 : decode c_In_calculates 0 = .ok (.iload_n 0, 1) := by decide +kernel
theorem d_In_calculates_1 : decode c_In_calculates 1 = .ok (.iconst 2, 1) := by decide +kernel
theorem d_In_calculates_2 : decode c_In_calculates 2 = .ok (.if_icmp .lt 12, 3) := by decide +kernel
theorem d_In_calculates_5 : decode c_In_calculates 5 = .ok (.iload_n 0, 1) := by decide +kernel
theorem d_In_calculates_6 : decode c_In_calculates 6 = .ok (.iconst 5, 1) := by decide +kernel
theorem d_In_calculates_7 : decode c_In_calculates 7 = .ok (.if_icmp .gt 7, 3) := by decide +kernel
theorem d_In_calculates_10 : decode c_In_calculates 10 = .ok (.iconst 1, 1) := by decide +kernel
theorem d_In_calculates_11 : decode c_In_calculates 11 = .ok (.goto 4, 3) := by decide +kernel
theorem d_In_calculates_14 : decode c_In_calculates 14 = .ok (.iconst 0, 1) := by decide +kernel
theorem d_In_calculates_15 : decode c_In_calculates 15 = .ok (.ireturn, 1) := by decide +kernel
theorem d_In_jumps_0 : decode c_In_jumps 0 = .ok (.iload_n 0, 1) := by decide +kernel
theorem d_In_jumps_1 : decode c_In_jumps 1 = .ok (.bipush 7, 2) := by decide +kernel
theorem d_In_jumps_3 : decode c_In_jumps 3 = .ok (.if_icmp .lt 13, 3) := by decide +kernel
theorem d_In_jumps_6 : decode c_In_jumps 6 = .ok (.iload_n 0, 1) := by decide +kernel
theorem d_In_jumps_7 : decode c_In_jumps 7 = .ok (.bipush 9, 2) := by decide +kernel
theorem d_In_jumps_9 : decode c_In_jumps 9 = .ok (.if_icmp .gt 7, 3) := by decide +kernel
theorem d_In_jumps_12 : decode c_In_jumps 12 = .ok (.iconst 1, 1) := by decide +kernel
theorem d_In_jumps_13 : decode c_In_jumps 13 = .ok (.goto 4, 3) := by decide +kernel
theorem d_In_jumps_16 : decode c_In_jumps 16 = .ok (.iconst 0, 1) := by decide +kernel
theorem d_In_jumps_17 : decode c_In_jumps 17 = .ok (.ireturn, 1) := by decide +kernel
theorem d_In_become_0 : decode c_In_become 0 = .ok (.aload_n 0, 1) := by decide +kernel
theorem d_In_become_1 : decode c_In_become 1 = .ok (.iload_n 1, 1) := by decide +kernel
theorem d_In_become_2 : decode c_In_become 2 = .ok (.putfield 9, 3) := by decide +kernel
theorem d_In_become_5 : decode c_In_become 5 = .ok (.aload_n 0, 1) := by decide +kernel
theorem d_In_become_6 : decode c_In_become 6 = .ok (.iload_n 1, 1) := by decide +kernel
theorem d_In_become_7 : decode c_In_become 7 = .ok (.invokestatic 24, 3) := by decide +kernel
theorem d_In_become_10 : decode c_In_become 10 = .ok (.ifCond .eq 7, 3) := by decide +kernel
theorem d_In_become_13 : decode c_In_become 13 = .ok (.iload_n 2, 1) := by decide +kernel
theorem d_In_become_14 : decode c_In_become 14 = .ok (.goto 4, 3) := by decide +kernel
theorem d_In_become_17 : decode c_In_become 17 = .ok (.iconst 0, 1) := by decide +kernel
theorem d_In_become_18 : decode c_In_become 18 = .ok (.putfield 15, 3) := by decide +kernel
theorem d_In_become_21 : decode c_In_become 21 = .ok (.aload_n 0, 1) := by decide +kernel
theorem d_In_become_22 : decode c_In_become 22 = .ok (.iload_n 1, 1) := by decide +kernel
theorem d_In_become_23 : decode c_In_become 23 = .ok (.invokestatic 31, 3) := by decide +kernel
theorem d_In_become_26 : decode c_In_become 26 = .ok (.ifCond .eq 7, 3) := by decide +kernel
theorem d_In_become_29 : decode c_In_become 29 = .ok (.iload_n 3, 1) := by decide +kernel
theorem d_In_become_30 : decode c_In_become 30 = .ok (.goto 4, 3) := by decide +kernel
theorem d_In_become_33 : decode c_In_become 33 = .ok (.iconst 0, 1) := by decide +kernel
theorem d_In_become_34 : decode c_In_become 34 = .ok (.putfield 18, 3) := by decide +kernel
theorem d_In_become_37 : decode c_In_become 37 = .ok (.aload_n 0, 1) := by decide +kernel
theorem d_In_become_38 : decode c_In_become 38 = .ok (.iload_n 1, 1) := by decide +kernel
theorem d_In_become_39 : decode c_In_become 39 = .ok (.invokestatic 40, 3) := by decide +kernel
theorem d_In_become_42 : decode c_In_become 42 = .ok (.ifCond .eq 8, 3) := by decide +kernel
theorem d_In_become_45 : decode c_In_become 45 = .ok (.iload 4, 2) := by decide +kernel
theorem d_In_become_47 : decode c_In_become 47 = .ok (.goto 4, 3) := by decide +kernel
theorem d_In_become_50 : decode c_In_become 50 = .ok (.iconst 0, 1) := by decide +kernel
theorem d_In_become_51 : decode c_In_become 51 = .ok (.putfield 21, 3) := by decide +kernel
theorem d_In_become_54 : decode c_In_become 54 = .ok (.return_, 1) := by decide +kernel
theorem d_In_usesC_0 : decode c_In_usesC 0 = .ok (.iload_n 0, 1) := by decide +kernel
theorem d_In_usesC_1 : decode c_In_usesC 1 = .ok (.ifCond .eq 17, 3) := by decide +kernel
theorem d_In_usesC_4 : decode c_In_usesC 4 = .ok (.iload_n 0, 1) := by decide +kernel
theorem d_In_usesC_5 : decode c_In_usesC 5 = .ok (.invokestatic 34, 3) := by decide +kernel
theorem d_In_usesC_8 : decode c_In_usesC 8 = .ok (.ifCond .ne 10, 3) := by decide +kernel
theorem d_In_usesC_11 : decode c_In_usesC 11 = .ok (.iload_n 0, 1) := by decide +kernel
theorem d_In_usesC_12 : decode c_In_usesC 12 = .ok (.invokestatic 37, 3) := by decide +kernel
theorem d_In_usesC_15 : decode c_In_usesC 15 = .ok (.ifCond .eq 7, 3) := by decide +kernel
theorem d_In_usesC_18 : decode c_In_usesC 18 = .ok (.iconst 1, 1) := by decide +kernel
theorem d_In_usesC_19 : decode c_In_usesC 19 = .ok (.goto 4, 3) := by decide +kernel
theorem d_In_usesC_22 : decode c_In_usesC 22 = .ok (.iconst 0, 1) := by decide +kernel
theorem d_In_usesC_23 : decode c_In_usesC 23 = .ok (.ireturn, 1) := by decide +kernel
theorem d_Ff_put_0 : decode c_Ff_put 0 = .ok (.aload_n 0, 1) := by decide +kernel
theorem d_Ff_put_1 : decode c_Ff_put 1 = .ok (.getfield 12, 3) := by decide +kernel
theorem d_Ff_put_4 : decode c_Ff_put 4 = .ok (.iload_n 1, 1) := by decide +kernel
theorem d_Ff_put_5 : decode c_Ff_put 5 = .ok (.invokevirtual 59, 3) := by decide +kernel
theorem d_Ff_put_8 : decode c_Ff_put 8 = .ok (.ifCond .eq 15, 3) := by decide +kernel
theorem d_Ff_put_11 : decode c_Ff_put 11 = .ok (.iload_n 2, 1) := by decide +kernel
theorem d_Ff_put_12 : decode c_Ff_put 12 = .ok (.iload_n 3, 1) := by decide +kernel
theorem d_Ff_put_13 : decode c_Ff_put 13 = .ok (.iload 4, 2) := by decide +kernel
theorem d_Ff_put_15 : decode c_Ff_put 15 = .ok (.iload 5, 2) := by decide +kernel
theorem d_Ff_put_17 : decode c_Ff_put 17 = .ok (.invokestatic 37, 3) := by decide +kernel
theorem d_Ff_put_20 : decode c_Ff_put 20 = .ok (.ifCond .ne 5, 3) := by decide +kernel
theorem d_Ff_put_23 : decode c_Ff_put 23 = .ok (.iconst 0, 1) := by decide +kernel
theorem d_Ff_put_24 : decode c_Ff_put 24 = .ok (.ireturn, 1) := by decide +kernel
theorem d_Ff_put_25 : decode c_Ff_put 25 = .ok (.aload_n 0, 1) := by decide +kernel
theorem d_Ff_put_26 : decode c_Ff_put 26 = .ok (.getfield 12, 3) := by decide +kernel
theorem d_Ff_put_29 : decode c_Ff_put 29 = .ok (.getfield 47, 3) := by decide +kernel
theorem d_Ff_put_32 : decode c_Ff_put 32 = .ok (.iload_n 1, 1) := by decide +kernel
theorem d_Ff_put_33 : decode c_Ff_put 33 = .ok (.aaload, 1) := by decide +kernel
theorem d_Ff_put_34 : decode c_Ff_put 34 = .ok (.iload_n 2, 1) := by decide +kernel
theorem d_Ff_put_35 : decode c_Ff_put 35 = .ok (.iload_n 3, 1) := by decide +kernel
theorem d_Ff_put_36 : decode c_Ff_put 36 = .ok (.iload 4, 2) := by decide +kernel
theorem d_Ff_put_38 : decode c_Ff_put 38 = .ok (.iload 5, 2) := by decide +kernel
theorem d_Ff_put_40 : decode c_Ff_put 40 = .ok (.invokevirtual 51, 3) := by decide +kernel
theorem d_Ff_put_43 : decode c_Ff_put 43 = .ok (.aload_n 0, 1) := by decide +kernel
theorem d_Ff_put_44 : decode c_Ff_put 44 = .ok (.getfield 19, 3) := by decide +kernel
theorem d_Ff_put_47 : decode c_Ff_put 47 = .ok (.iconst 0, 1) := by decide +kernel
theorem d_Ff_put_48 : decode c_Ff_put 48 = .ok (.putfield 55, 3) := by decide +kernel
theorem d_Ff_put_51 : decode c_Ff_put 51 = .ok (.iconst 1, 1) := by decide +kernel
theorem d_Ff_put_52 : decode c_Ff_put 52 = .ok (.ireturn, 1) := by decide +kernel
theorem d_Pr_has_0 : decode c_Pr_has 0 = .ok (.iload_n 1, 1) := by decide +kernel
theorem d_Pr_has_1 : decode c_Pr_has 1 = .ok (.ifCond .lt 15, 3) := by decide +kernel
theorem d_Pr_has_4 : decode c_Pr_has 4 = .ok (.iload_n 1, 1) := by decide +kernel
theorem d_Pr_has_5 : decode c_Pr_has 5 = .ok (.aload_n 0, 1) := by decide +kernel
theorem d_Pr_has_6 : decode c_Pr_has 6 = .ok (.getfield 17, 3) := by decide +kernel
theorem d_Pr_has_9 : decode c_Pr_has 9 = .ok (.if_icmp .ge 7, 3) := by decide +kernel
theorem d_Pr_has_12 : decode c_Pr_has 12 = .ok (.iconst 1, 1) := by decide +kernel
theorem d_Pr_has_13 : decode c_Pr_has 13 = .ok (.goto 4, 3) := by decide +kernel
theorem d_Pr_has_16 : decode c_Pr_has 16 = .ok (.iconst 0, 1) := by decide +kernel
theorem d_Pr_has_17 : decode c_Pr_has 17 = .ok (.ireturn, 1) := by decide +kernel
theorem d_Ff_clear_0 : decode c_Ff_clear 0 = .ok (.aload_n 0, 1) := by decide +kernel
theorem d_Ff_clear_1 : decode c_Ff_clear 1 = .ok (.getfield 12, 3) := by decide +kernel
theorem d_Ff_clear_4 : decode c_Ff_clear 4 = .ok (.iconst 0, 1) := by decide +kernel
theorem d_Ff_clear_5 : decode c_Ff_clear 5 = .ok (.putfield 43, 3) := by decide +kernel
theorem d_Ff_clear_8 : decode c_Ff_clear 8 = .ok (.aload_n 0, 1) := by decide +kernel
theorem d_Ff_clear_9 : decode c_Ff_clear 9 = .ok (.getfield 19, 3) := by decide +kernel
theorem d_Ff_clear_12 : decode c_Ff_clear 12 = .ok (.iconst 0, 1) := by decide +kernel
theorem d_Ff_clear_13 : decode c_Ff_clear 13 = .ok (.putfield 55, 3) := by decide +kernel
theorem d_Ff_clear_16 : decode c_Ff_clear 16 = .ok (.return_, 1) := by decide +kernel
theorem d_Ff_length_0 : decode c_Ff_length 0 = .ok (.aload_n 0, 1) := by decide +kernel
theorem d_Ff_length_1 : decode c_Ff_length 1 = .ok (.getfield 12, 3) := by decide +kernel
theorem d_Ff_length_4 : decode c_Ff_length 4 = .ok (.getfield 43, 3) := by decide +kernel
theorem d_Ff_length_7 : decode c_Ff_length 7 = .ok (.ireturn, 1) := by decide +kernel
theorem d_Ff_code_0 : decode c_Ff_code 0 = .ok (.aload_n 0, 1) := by decide +kernel
theorem d_Ff_code_1 : decode c_Ff_code 1 = .ok (.getfield 12, 3) := by decide +kernel
theorem d_Ff_code_4 : decode c_Ff_code 4 = .ok (.iload_n 1, 1) := by decide +kernel
theorem d_Ff_code_5 : decode c_Ff_code 5 = .ok (.invokevirtual 59, 3) := by decide +kernel
theorem d_Ff_code_8 : decode c_Ff_code 8 = .ok (.ifCond .eq 19, 3) := by decide +kernel
theorem d_Ff_code_11 : decode c_Ff_code 11 = .ok (.aload_n 0, 1) := by decide +kernel
theorem d_Ff_code_12 : decode c_Ff_code 12 = .ok (.getfield 12, 3) := by decide +kernel
theorem d_Ff_code_15 : decode c_Ff_code 15 = .ok (.getfield 47, 3) := by decide +kernel
theorem d_Ff_code_18 : decode c_Ff_code 18 = .ok (.iload_n 1, 1) := by decide +kernel
theorem d_Ff_code_19 : decode c_Ff_code 19 = .ok (.aaload, 1) := by decide +kernel
theorem d_Ff_code_20 : decode c_Ff_code 20 = .ok (.iload_n 2, 1) := by decide +kernel
theorem d_Ff_code_21 : decode c_Ff_code 21 = .ok (.invokevirtual 63, 3) := by decide +kernel
theorem d_Ff_code_24 : decode c_Ff_code 24 = .ok (.goto 4, 3) := by decide +kernel
theorem d_Ff_code_27 : decode c_Ff_code 27 = .ok (.iconst (-1), 1) := by decide +kernel
theorem d_Ff_code_28 : decode c_Ff_code 28 = .ok (.ireturn, 1) := by decide +kernel
theorem d_In_partOf_0 : decode c_In_partOf 0 = .ok (.iload_n 1, 1) := by decide +kernel
theorem d_In_partOf_1 : decode c_In_partOf 1 = .ok (.tableswitch 51 0 3 #[31, 36, 41, 46], 31) := by decide +kernel
theorem d_In_partOf_32 : decode c_In_partOf 32 = .ok (.aload_n 0, 1) := by decide +kernel
theorem d_In_partOf_33 : decode c_In_partOf 33 = .ok (.getfield 9, 3) := by decide +kernel
theorem d_In_partOf_36 : decode c_In_partOf 36 = .ok (.ireturn, 1) := by decide +kernel
theorem d_In_partOf_37 : decode c_In_partOf 37 = .ok (.aload_n 0, 1) := by decide +kernel
theorem d_In_partOf_38 : decode c_In_partOf 38 = .ok (.getfield 15, 3) := by decide +kernel
theorem d_In_partOf_41 : decode c_In_partOf 41 = .ok (.ireturn, 1) := by decide +kernel
theorem d_In_partOf_42 : decode c_In_partOf 42 = .ok (.aload_n 0, 1) := by decide +kernel
theorem d_In_partOf_43 : decode c_In_partOf 43 = .ok (.getfield 18, 3) := by decide +kernel
theorem d_In_partOf_46 : decode c_In_partOf 46 = .ok (.ireturn, 1) := by decide +kernel
theorem d_In_partOf_47 : decode c_In_partOf 47 = .ok (.aload_n 0, 1) := by decide +kernel
theorem d_In_partOf_48 : decode c_In_partOf 48 = .ok (.getfield 21, 3) := by decide +kernel
theorem d_In_partOf_51 : decode c_In_partOf 51 = .ok (.ireturn, 1) := by decide +kernel
theorem d_In_partOf_52 : decode c_In_partOf 52 = .ok (.iconst (-1), 1) := by decide +kernel
theorem d_In_partOf_53 : decode c_In_partOf 53 = .ok (.ireturn, 1) := by decide +kernel
theorem d_Ff_reached_0 : decode c_Ff_reached 0 = .ok (.aload_n 0, 1) := by decide +kernel
theorem d_Ff_reached_1 : decode c_Ff_reached 1 = .ok (.getfield 19, 3) := by decide +kernel
theorem d_Ff_reached_4 : decode c_Ff_reached 4 = .ok (.aload_n 0, 1) := by decide +kernel
theorem d_Ff_reached_5 : decode c_Ff_reached 5 = .ok (.getfield 12, 3) := by decide +kernel
theorem d_Ff_reached_8 : decode c_Ff_reached 8 = .ok (.invokevirtual 67, 3) := by decide +kernel
theorem d_Ff_reached_11 : decode c_Ff_reached 11 = .ok (.aload_n 0, 1) := by decide +kernel
theorem d_Ff_reached_12 : decode c_Ff_reached 12 = .ok (.iload_n 1, 1) := by decide +kernel
theorem d_Ff_reached_13 : decode c_Ff_reached 13 = .ok (.invokevirtual 71, 3) := by decide +kernel
theorem d_Ff_reached_16 : decode c_Ff_reached 16 = .ok (.ireturn, 1) := by decide +kernel
theorem d_So_find_0 : decode c_So_find 0 = .ok (.aload_n 0, 1) := by decide +kernel
theorem d_So_find_1 : decode c_So_find 1 = .ok (.getfield 17, 3) := by decide +kernel
theorem d_So_find_4 : decode c_So_find 4 = .ok (.ifCond .eq 4, 3) := by decide +kernel
theorem d_So_find_7 : decode c_So_find 7 = .ok (.return_, 1) := by decide +kernel
theorem d_So_find_8 : decode c_So_find 8 = .ok (.aload_n 0, 1) := by decide +kernel
theorem d_So_find_9 : decode c_So_find 9 = .ok (.invokevirtual 30, 3) := by decide +kernel
theorem d_So_find_12 : decode c_So_find 12 = .ok (.iconst 1, 1) := by decide +kernel
theorem d_So_find_13 : decode c_So_find 13 = .ok (.istore_n 2, 1) := by decide +kernel
theorem d_So_find_14 : decode c_So_find 14 = .ok (.iconst 0, 1) := by decide +kernel
theorem d_So_find_15 : decode c_So_find 15 = .ok (.istore_n 3, 1) := by decide +kernel
theorem d_So_find_16 : decode c_So_find 16 = .ok (.iload_n 2, 1) := by decide +kernel
theorem d_So_find_17 : decode c_So_find 17 = .ok (.ifCond .eq 63, 3) := by decide +kernel
theorem d_So_find_20 : decode c_So_find 20 = .ok (.iload_n 3, 1) := by decide +kernel
theorem d_So_find_21 : decode c_So_find 21 = .ok (.sipush 2000, 3) := by decide +kernel
theorem d_So_find_24 : decode c_So_find 24 = .ok (.if_icmp .ge 56, 3) := by decide +kernel
theorem d_So_find_27 : decode c_So_find 27 = .ok (.iconst 0, 1) := by decide +kernel
theorem d_So_find_28 : decode c_So_find 28 = .ok (.istore_n 2, 1) := by decide +kernel
theorem d_So_find_29 : decode c_So_find 29 = .ok (.iconst 0, 1) := by decide +kernel
theorem d_So_find_30 : decode c_So_find 30 = .ok (.istore 4, 2) := by decide +kernel
theorem d_So_find_32 : decode c_So_find 32 = .ok (.iload 4, 2) := by decide +kernel
theorem d_So_find_34 : decode c_So_find 34 = .ok (.aload_n 1, 1) := by decide +kernel
theorem d_So_find_35 : decode c_So_find 35 = .ok (.getfield 33, 3) := by decide +kernel
theorem d_So_find_38 : decode c_So_find 38 = .ok (.if_icmp .ge 36, 3) := by decide +kernel
theorem d_So_find_41 : decode c_So_find 41 = .ok (.aload_n 0, 1) := by decide +kernel
theorem d_So_find_42 : decode c_So_find 42 = .ok (.getfield 21, 3) := by decide +kernel
theorem d_So_find_45 : decode c_So_find 45 = .ok (.iload 4, 2) := by decide +kernel
theorem d_So_find_47 : decode c_So_find 47 = .ok (.baload, 1) := by decide +kernel
theorem d_So_find_48 : decode c_So_find 48 = .ok (.ifCond .eq 20, 3) := by decide +kernel
theorem d_So_find_51 : decode c_So_find 51 = .ok (.aload_n 0, 1) := by decide +kernel
theorem d_So_find_52 : decode c_So_find 52 = .ok (.getfield 21, 3) := by decide +kernel
theorem d_So_find_55 : decode c_So_find 55 = .ok (.iload 4, 2) := by decide +kernel
theorem d_So_find_57 : decode c_So_find 57 = .ok (.iconst 0, 1) := by decide +kernel
theorem d_So_find_58 : decode c_So_find 58 = .ok (.bastore, 1) := by decide +kernel
theorem d_So_find_59 : decode c_So_find 59 = .ok (.iconst 1, 1) := by decide +kernel
theorem d_So_find_60 : decode c_So_find 60 = .ok (.istore_n 2, 1) := by decide +kernel
theorem d_So_find_61 : decode c_So_find 61 = .ok (.aload_n 0, 1) := by decide +kernel
theorem d_So_find_62 : decode c_So_find 62 = .ok (.aload_n 1, 1) := by decide +kernel
theorem d_So_find_63 : decode c_So_find 63 = .ok (.iload 4, 2) := by decide +kernel
theorem d_So_find_65 : decode c_So_find 65 = .ok (.invokevirtual 39, 3) := by decide +kernel
theorem d_So_find_68 : decode c_So_find 68 = .ok (.iinc 4 1, 3) := by decide +kernel
theorem d_So_find_71 : decode c_So_find 71 = .ok (.goto (-39), 3) := by decide +kernel
theorem d_So_find_74 : decode c_So_find 74 = .ok (.iinc 3 1, 3) := by decide +kernel
theorem d_So_find_77 : decode c_So_find 77 = .ok (.goto (-61), 3) := by decide +kernel
theorem d_So_find_80 : decode c_So_find 80 = .ok (.aload_n 0, 1) := by decide +kernel
theorem d_So_find_81 : decode c_So_find 81 = .ok (.iconst 1, 1) := by decide +kernel
theorem d_So_find_82 : decode c_So_find 82 = .ok (.putfield 17, 3) := by decide +kernel
theorem d_So_find_85 : decode c_So_find 85 = .ok (.return_, 1) := by decide +kernel
theorem d_So_begin_0 : decode c_So_begin 0 = .ok (.iconst 0, 1) := by decide +kernel
theorem d_So_begin_1 : decode c_So_begin 1 = .ok (.istore_n 1, 1) := by decide +kernel
theorem d_So_begin_2 : decode c_So_begin 2 = .ok (.iload_n 1, 1) := by decide +kernel
theorem d_So_begin_3 : decode c_So_begin 3 = .ok (.bipush 24, 2) := by decide +kernel
theorem d_So_begin_5 : decode c_So_begin 5 = .ok (.if_icmp .ge 26, 3) := by decide +kernel
theorem d_So_begin_8 : decode c_So_begin 8 = .ok (.aload_n 0, 1) := by decide +kernel
theorem d_So_begin_9 : decode c_So_begin 9 = .ok (.getfield 11, 3) := by decide +kernel
theorem d_So_begin_12 : decode c_So_begin 12 = .ok (.iload_n 1, 1) := by decide +kernel
theorem d_So_begin_13 : decode c_So_begin 13 = .ok (.aaload, 1) := by decide +kernel
theorem d_So_begin_14 : decode c_So_begin 14 = .ok (.iconst 1, 1) := by decide +kernel
theorem d_So_begin_15 : decode c_So_begin 15 = .ok (.putfield 43, 3) := by decide +kernel
theorem d_So_begin_18 : decode c_So_begin 18 = .ok (.aload_n 0, 1) := by decide +kernel
theorem d_So_begin_19 : decode c_So_begin 19 = .ok (.getfield 21, 3) := by decide +kernel
theorem d_So_begin_22 : decode c_So_begin 22 = .ok (.iload_n 1, 1) := by decide +kernel
theorem d_So_begin_23 : decode c_So_begin 23 = .ok (.iconst 0, 1) := by decide +kernel
theorem d_So_begin_24 : decode c_So_begin 24 = .ok (.bastore, 1) := by decide +kernel
theorem d_So_begin_25 : decode c_So_begin 25 = .ok (.iinc 1 1, 3) := by decide +kernel
theorem d_So_begin_28 : decode c_So_begin 28 = .ok (.goto (-26), 3) := by decide +kernel
theorem d_So_begin_31 : decode c_So_begin 31 = .ok (.aload_n 0, 1) := by decide +kernel
theorem d_So_begin_32 : decode c_So_begin 32 = .ok (.getfield 11, 3) := by decide +kernel
theorem d_So_begin_35 : decode c_So_begin 35 = .ok (.iconst 0, 1) := by decide +kernel
theorem d_So_begin_36 : decode c_So_begin 36 = .ok (.aaload, 1) := by decide +kernel
theorem d_So_begin_37 : decode c_So_begin 37 = .ok (.invokevirtual 46, 3) := by decide +kernel
theorem d_So_begin_40 : decode c_So_begin 40 = .ok (.aload_n 0, 1) := by decide +kernel
theorem d_So_begin_41 : decode c_So_begin 41 = .ok (.getfield 21, 3) := by decide +kernel
theorem d_So_begin_44 : decode c_So_begin 44 = .ok (.iconst 0, 1) := by decide +kernel
theorem d_So_begin_45 : decode c_So_begin 45 = .ok (.iconst 1, 1) := by decide +kernel
theorem d_So_begin_46 : decode c_So_begin 46 = .ok (.bastore, 1) := by decide +kernel
theorem d_So_begin_47 : decode c_So_begin 47 = .ok (.return_, 1) := by decide +kernel
theorem d_St_becomeZeros_0 : decode c_St_becomeZeros 0 = .ok (.aload_n 0, 1) := by decide +kernel
theorem d_St_becomeZeros_1 : decode c_St_becomeZeros 1 = .ok (.iconst 0, 1) := by decide +kernel
theorem d_St_becomeZeros_2 : decode c_St_becomeZeros 2 = .ok (.putfield 17, 3) := by decide +kernel
theorem d_St_becomeZeros_5 : decode c_St_becomeZeros 5 = .ok (.iconst 0, 1) := by decide +kernel
theorem d_St_becomeZeros_6 : decode c_St_becomeZeros 6 = .ok (.istore_n 1, 1) := by decide +kernel
theorem d_St_becomeZeros_7 : decode c_St_becomeZeros 7 = .ok (.iload_n 1, 1) := by decide +kernel
theorem d_St_becomeZeros_8 : decode c_St_becomeZeros 8 = .ok (.iconst 4, 1) := by decide +kernel
theorem d_St_becomeZeros_9 : decode c_St_becomeZeros 9 = .ok (.if_icmp .ge 19, 3) := by decide +kernel
theorem d_St_becomeZeros_12 : decode c_St_becomeZeros 12 = .ok (.aload_n 0, 1) := by decide +kernel
theorem d_St_becomeZeros_13 : decode c_St_becomeZeros 13 = .ok (.getfield 11, 3) := by decide +kernel
theorem d_St_becomeZeros_16 : decode c_St_becomeZeros 16 = .ok (.iload_n 1, 1) := by decide +kernel
theorem d_St_becomeZeros_17 : decode c_St_becomeZeros 17 = .ok (.aaload, 1) := by decide +kernel
theorem d_St_becomeZeros_18 : decode c_St_becomeZeros 18 = .ok (.iconst 0, 1) := by decide +kernel
theorem d_St_becomeZeros_19 : decode c_St_becomeZeros 19 = .ok (.invokevirtual 22, 3) := by decide +kernel
theorem d_St_becomeZeros_22 : decode c_St_becomeZeros 22 = .ok (.iinc 1 1, 3) := by decide +kernel
theorem d_St_becomeZeros_25 : decode c_St_becomeZeros 25 = .ok (.goto (-18), 3) := by decide +kernel
theorem d_St_becomeZeros_28 : decode c_St_becomeZeros 28 = .ok (.return_, 1) := by decide +kernel
theorem d_Fa_becomeNumber_0 : decode c_Fa_becomeNumber 0 = .ok (.aload_n 0, 1) := by decide +kernel
theorem d_Fa_becomeNumber_1 : decode c_Fa_becomeNumber 1 = .ok (.bipush 32, 2) := by decide +kernel
theorem d_Fa_becomeNumber_3 : decode c_Fa_becomeNumber 3 = .ok (.putfield 9, 3) := by decide +kernel
theorem d_Fa_becomeNumber_6 : decode c_Fa_becomeNumber 6 = .ok (.aload_n 0, 1) := by decide +kernel
theorem d_Fa_becomeNumber_7 : decode c_Fa_becomeNumber 7 = .ok (.iload_n 1, 1) := by decide +kernel
theorem d_Fa_becomeNumber_8 : decode c_Fa_becomeNumber 8 = .ok (.putfield 15, 3) := by decide +kernel
theorem d_Fa_becomeNumber_11 : decode c_Fa_becomeNumber 11 = .ok (.aload_n 0, 1) := by decide +kernel
theorem d_Fa_becomeNumber_12 : decode c_Fa_becomeNumber 12 = .ok (.bipush 7, 2) := by decide +kernel
theorem d_Fa_becomeNumber_14 : decode c_Fa_becomeNumber 14 = .ok (.putfield 18, 3) := by decide +kernel
theorem d_Fa_becomeNumber_17 : decode c_Fa_becomeNumber 17 = .ok (.aload_n 0, 1) := by decide +kernel
theorem d_Fa_becomeNumber_18 : decode c_Fa_becomeNumber 18 = .ok (.invokevirtual 21, 3) := by decide +kernel
theorem d_Fa_becomeNumber_21 : decode c_Fa_becomeNumber 21 = .ok (.return_, 1) := by decide +kernel
theorem d_Fa_reduce_0 : decode c_Fa_reduce 0 = .ok (.aload_n 0, 1) := by decide +kernel
theorem d_Fa_reduce_1 : decode c_Fa_reduce 1 = .ok (.getfield 9, 3) := by decide +kernel
theorem d_Fa_reduce_4 : decode c_Fa_reduce 4 = .ok (.bipush 32, 2) := by decide +kernel
theorem d_Fa_reduce_6 : decode c_Fa_reduce 6 = .ok (.if_icmp .ne 38, 3) := by decide +kernel
theorem d_Fa_reduce_9 : decode c_Fa_reduce 9 = .ok (.aload_n 0, 1) := by decide +kernel
theorem d_Fa_reduce_10 : decode c_Fa_reduce 10 = .ok (.dup, 1) := by decide +kernel
theorem d_Fa_reduce_11 : decode c_Fa_reduce 11 = .ok (.getfield 18, 3) := by decide +kernel
theorem d_Fa_reduce_14 : decode c_Fa_reduce 14 = .ok (.aload_n 0, 1) := by decide +kernel
theorem d_Fa_reduce_15 : decode c_Fa_reduce 15 = .ok (.getfield 15, 3) := by decide +kernel
theorem d_Fa_reduce_18 : decode c_Fa_reduce 18 = .ok (.ifCond .ge 7, 3) := by decide +kernel
theorem d_Fa_reduce_21 : decode c_Fa_reduce 21 = .ok (.iconst 1, 1) := by decide +kernel
theorem d_Fa_reduce_22 : decode c_Fa_reduce 22 = .ok (.goto 15, 3) := by decide +kernel
theorem d_Fa_reduce_25 : decode c_Fa_reduce 25 = .ok (.aload_n 0, 1) := by decide +kernel
theorem d_Fa_reduce_26 : decode c_Fa_reduce 26 = .ok (.getfield 15, 3) := by decide +kernel
theorem d_Fa_reduce_29 : decode c_Fa_reduce 29 = .ok (.ifCond .ne 7, 3) := by decide +kernel
theorem d_Fa_reduce_32 : decode c_Fa_reduce 32 = .ok (.iconst 2, 1) := by decide +kernel
theorem d_Fa_reduce_33 : decode c_Fa_reduce 33 = .ok (.goto 4, 3) := by decide +kernel
theorem d_Fa_reduce_36 : decode c_Fa_reduce 36 = .ok (.iconst 4, 1) := by decide +kernel
theorem d_Fa_reduce_37 : decode c_Fa_reduce 37 = .ok (.iand, 1) := by decide +kernel
theorem d_Fa_reduce_38 : decode c_Fa_reduce 38 = .ok (.putfield 18, 3) := by decide +kernel
theorem d_Fa_reduce_41 : decode c_Fa_reduce 41 = .ok (.goto 21, 3) := by decide +kernel
theorem d_Fa_reduce_44 : decode c_Fa_reduce 44 = .ok (.aload_n 0, 1) := by decide +kernel
theorem d_Fa_reduce_45 : decode c_Fa_reduce 45 = .ok (.getfield 15, 3) := by decide +kernel
theorem d_Fa_reduce_48 : decode c_Fa_reduce 48 = .ok (.ifCond .eq 14, 3) := by decide +kernel
theorem d_Fa_reduce_51 : decode c_Fa_reduce 51 = .ok (.aload_n 0, 1) := by decide +kernel
theorem d_Fa_reduce_52 : decode c_Fa_reduce 52 = .ok (.dup, 1) := by decide +kernel
theorem d_Fa_reduce_53 : decode c_Fa_reduce 53 = .ok (.getfield 18, 3) := by decide +kernel
theorem d_Fa_reduce_56 : decode c_Fa_reduce 56 = .ok (.bipush (-3), 2) := by decide +kernel
theorem d_Fa_reduce_58 : decode c_Fa_reduce 58 = .ok (.iand, 1) := by decide +kernel
theorem d_Fa_reduce_59 : decode c_Fa_reduce 59 = .ok (.putfield 18, 3) := by decide +kernel
theorem d_Fa_reduce_62 : decode c_Fa_reduce 62 = .ok (.aload_n 0, 1) := by decide +kernel
theorem d_Fa_reduce_63 : decode c_Fa_reduce 63 = .ok (.getfield 18, 3) := by decide +kernel
theorem d_Fa_reduce_66 : decode c_Fa_reduce 66 = .ok (.iconst 2, 1) := by decide +kernel
theorem d_Fa_reduce_67 : decode c_Fa_reduce 67 = .ok (.if_icmp .ne 14, 3) := by decide +kernel
theorem d_Fa_reduce_70 : decode c_Fa_reduce 70 = .ok (.aload_n 0, 1) := by decide +kernel
theorem d_Fa_reduce_71 : decode c_Fa_reduce 71 = .ok (.bipush 32, 2) := by decide +kernel
theorem d_Fa_reduce_73 : decode c_Fa_reduce 73 = .ok (.putfield 9, 3) := by decide +kernel
theorem d_Fa_reduce_76 : decode c_Fa_reduce 76 = .ok (.aload_n 0, 1) := by decide +kernel
theorem d_Fa_reduce_77 : decode c_Fa_reduce 77 = .ok (.iconst 0, 1) := by decide +kernel
theorem d_Fa_reduce_78 : decode c_Fa_reduce 78 = .ok (.putfield 15, 3) := by decide +kernel
theorem d_Fa_reduce_81 : decode c_Fa_reduce 81 = .ok (.return_, 1) := by decide +kernel
theorem d_So_carry_0 : decode c_So_carry 0 = .ok (.aload_n 1, 1) := by decide +kernel
theorem d_So_carry_1 : decode c_So_carry 1 = .ok (.getfield 49, 3) := by decide +kernel
theorem d_So_carry_4 : decode c_So_carry 4 = .ok (.iload_n 2, 1) := by decide +kernel
theorem d_So_carry_5 : decode c_So_carry 5 = .ok (.aaload, 1) := by decide +kernel
theorem d_So_carry_6 : decode c_So_carry 6 = .ok (.astore_n 3, 1) := by decide +kernel
theorem d_So_carry_7 : decode c_So_carry 7 = .ok (.aload_n 0, 1) := by decide +kernel
theorem d_So_carry_8 : decode c_So_carry 8 = .ok (.getfield 26, 3) := by decide +kernel
theorem d_So_carry_11 : decode c_So_carry 11 = .ok (.aload_n 0, 1) := by decide +kernel
theorem d_So_carry_12 : decode c_So_carry 12 = .ok (.getfield 11, 3) := by decide +kernel
theorem d_So_carry_15 : decode c_So_carry 15 = .ok (.iload_n 2, 1) := by decide +kernel
theorem d_So_carry_16 : decode c_So_carry 16 = .ok (.aaload, 1) := by decide +kernel
theorem d_So_carry_17 : decode c_So_carry 17 = .ok (.invokevirtual 53, 3) := by decide +kernel
theorem d_So_carry_20 : decode c_So_carry 20 = .ok (.aload_n 3, 1) := by decide +kernel
theorem d_So_carry_21 : decode c_So_carry 21 = .ok (.getfield 57, 3) := by decide +kernel
theorem d_So_carry_24 : decode c_So_carry 24 = .ok (.tableswitch 116 7 11 #[51, 51, 39, 116, 36], 36) := by decide +kernel
theorem d_So_carry_60 : decode c_So_carry 60 = .ok (.goto 96, 3) := by decide +kernel
theorem d_So_carry_63 : decode c_So_carry 63 = .ok (.aload_n 0, 1) := by decide +kernel
theorem d_So_carry_64 : decode c_So_carry 64 = .ok (.aload_n 1, 1) := by decide +kernel
theorem d_So_carry_65 : decode c_So_carry 65 = .ok (.aload_n 3, 1) := by decide +kernel
theorem d_So_carry_66 : decode c_So_carry 66 = .ok (.getfield 62, 3) := by decide +kernel
theorem d_So_carry_69 : decode c_So_carry 69 = .ok (.invokevirtual 65, 3) := by decide +kernel
theorem d_So_carry_72 : decode c_So_carry 72 = .ok (.goto 84, 3) := by decide +kernel
theorem d_So_carry_75 : decode c_So_carry 75 = .ok (.aload_n 0, 1) := by decide +kernel
theorem d_So_carry_76 : decode c_So_carry 76 = .ok (.getfield 26, 3) := by decide +kernel
theorem d_So_carry_79 : decode c_So_carry 79 = .ok (.aload_n 3, 1) := by decide +kernel
theorem d_So_carry_80 : decode c_So_carry 80 = .ok (.getfield 68, 3) := by decide +kernel
theorem d_So_carry_83 : decode c_So_carry 83 = .ok (.aload_n 3, 1) := by decide +kernel
theorem d_So_carry_84 : decode c_So_carry 84 = .ok (.invokevirtual 71, 3) := by decide +kernel
theorem d_So_carry_87 : decode c_So_carry 87 = .ok (.invokevirtual 75, 3) := by decide +kernel
theorem d_So_carry_90 : decode c_So_carry 90 = .ok (.aload_n 0, 1) := by decide +kernel
theorem d_So_carry_91 : decode c_So_carry 91 = .ok (.aload_n 1, 1) := by decide +kernel
theorem d_So_carry_92 : decode c_So_carry 92 = .ok (.aload_n 3, 1) := by decide +kernel
theorem d_So_carry_93 : decode c_So_carry 93 = .ok (.getfield 62, 3) := by decide +kernel
theorem d_So_carry_96 : decode c_So_carry 96 = .ok (.invokevirtual 65, 3) := by decide +kernel
theorem d_So_carry_99 : decode c_So_carry 99 = .ok (.aload_n 0, 1) := by decide +kernel
theorem d_So_carry_100 : decode c_So_carry 100 = .ok (.getfield 26, 3) := by decide +kernel
theorem d_So_carry_103 : decode c_So_carry 103 = .ok (.aload_n 0, 1) := by decide +kernel
theorem d_So_carry_104 : decode c_So_carry 104 = .ok (.getfield 11, 3) := by decide +kernel
theorem d_So_carry_107 : decode c_So_carry 107 = .ok (.iload_n 2, 1) := by decide +kernel
theorem d_So_carry_108 : decode c_So_carry 108 = .ok (.aaload, 1) := by decide +kernel
theorem d_So_carry_109 : decode c_So_carry 109 = .ok (.invokevirtual 53, 3) := by decide +kernel
theorem d_So_carry_112 : decode c_So_carry 112 = .ok (.aload_n 0, 1) := by decide +kernel
theorem d_So_carry_113 : decode c_So_carry 113 = .ok (.getfield 26, 3) := by decide +kernel
theorem d_So_carry_116 : decode c_So_carry 116 = .ok (.aload_n 3, 1) := by decide +kernel
theorem d_So_carry_117 : decode c_So_carry 117 = .ok (.getfield 68, 3) := by decide +kernel
theorem d_So_carry_120 : decode c_So_carry 120 = .ok (.aload_n 3, 1) := by decide +kernel
theorem d_So_carry_121 : decode c_So_carry 121 = .ok (.invokevirtual 71, 3) := by decide +kernel
theorem d_So_carry_124 : decode c_So_carry 124 = .ok (.iconst (-1), 1) := by decide +kernel
theorem d_So_carry_125 : decode c_So_carry 125 = .ok (.ixor, 1) := by decide +kernel
theorem d_So_carry_126 : decode c_So_carry 126 = .ok (.invokevirtual 75, 3) := by decide +kernel
theorem d_So_carry_129 : decode c_So_carry 129 = .ok (.aload_n 0, 1) := by decide +kernel
theorem d_So_carry_130 : decode c_So_carry 130 = .ok (.aload_n 1, 1) := by decide +kernel
theorem d_So_carry_131 : decode c_So_carry 131 = .ok (.iload_n 2, 1) := by decide +kernel
theorem d_So_carry_132 : decode c_So_carry 132 = .ok (.iconst 1, 1) := by decide +kernel
theorem d_So_carry_133 : decode c_So_carry 133 = .ok (.iadd, 1) := by decide +kernel
theorem d_So_carry_134 : decode c_So_carry 134 = .ok (.invokevirtual 65, 3) := by decide +kernel
theorem d_So_carry_137 : decode c_So_carry 137 = .ok (.goto 19, 3) := by decide +kernel
theorem d_So_carry_140 : decode c_So_carry 140 = .ok (.aload_n 0, 1) := by decide +kernel
theorem d_So_carry_141 : decode c_So_carry 141 = .ok (.getfield 26, 3) := by decide +kernel
theorem d_So_carry_144 : decode c_So_carry 144 = .ok (.aload_n 3, 1) := by decide +kernel
theorem d_So_carry_145 : decode c_So_carry 145 = .ok (.invokevirtual 79, 3) := by decide +kernel
theorem d_So_carry_148 : decode c_So_carry 148 = .ok (.aload_n 0, 1) := by decide +kernel
theorem d_So_carry_149 : decode c_So_carry 149 = .ok (.aload_n 1, 1) := by decide +kernel
theorem d_So_carry_150 : decode c_So_carry 150 = .ok (.iload_n 2, 1) := by decide +kernel
theorem d_So_carry_151 : decode c_So_carry 151 = .ok (.iconst 1, 1) := by decide +kernel
theorem d_So_carry_152 : decode c_So_carry 152 = .ok (.iadd, 1) := by decide +kernel
theorem d_So_carry_153 : decode c_So_carry 153 = .ok (.invokevirtual 65, 3) := by decide +kernel
theorem d_So_carry_156 : decode c_So_carry 156 = .ok (.return_, 1) := by decide +kernel
theorem d_St_becomeSame_0 : decode c_St_becomeSame 0 = .ok (.aload_n 0, 1) := by decide +kernel
theorem d_St_becomeSame_1 : decode c_St_becomeSame 1 = .ok (.aload_n 1, 1) := by decide +kernel
theorem d_St_becomeSame_2 : decode c_St_becomeSame 2 = .ok (.getfield 17, 3) := by decide +kernel
theorem d_St_becomeSame_5 : decode c_St_becomeSame 5 = .ok (.putfield 17, 3) := by decide +kernel
theorem d_St_becomeSame_8 : decode c_St_becomeSame 8 = .ok (.iconst 0, 1) := by decide +kernel
theorem d_St_becomeSame_9 : decode c_St_becomeSame 9 = .ok (.istore_n 2, 1) := by decide +kernel
theorem d_St_becomeSame_10 : decode c_St_becomeSame 10 = .ok (.iload_n 2, 1) := by decide +kernel
theorem d_St_becomeSame_11 : decode c_St_becomeSame 11 = .ok (.iconst 4, 1) := by decide +kernel
theorem d_St_becomeSame_12 : decode c_St_becomeSame 12 = .ok (.if_icmp .ge 24, 3) := by decide +kernel
theorem d_St_becomeSame_15 : decode c_St_becomeSame 15 = .ok (.aload_n 0, 1) := by decide +kernel
theorem d_St_becomeSame_16 : decode c_St_becomeSame 16 = .ok (.getfield 11, 3) := by decide +kernel
theorem d_St_becomeSame_19 : decode c_St_becomeSame 19 = .ok (.iload_n 2, 1) := by decide +kernel
theorem d_St_becomeSame_20 : decode c_St_becomeSame 20 = .ok (.aaload, 1) := by decide +kernel
theorem d_St_becomeSame_21 : decode c_St_becomeSame 21 = .ok (.aload_n 1, 1) := by decide +kernel
theorem d_St_becomeSame_22 : decode c_St_becomeSame 22 = .ok (.getfield 11, 3) := by decide +kernel
theorem d_St_becomeSame_25 : decode c_St_becomeSame 25 = .ok (.iload_n 2, 1) := by decide +kernel
theorem d_St_becomeSame_26 : decode c_St_becomeSame 26 = .ok (.aaload, 1) := by decide +kernel
theorem d_St_becomeSame_27 : decode c_St_becomeSame 27 = .ok (.invokevirtual 26, 3) := by decide +kernel
theorem d_St_becomeSame_30 : decode c_St_becomeSame 30 = .ok (.iinc 2 1, 3) := by decide +kernel
theorem d_St_becomeSame_33 : decode c_St_becomeSame 33 = .ok (.goto (-23), 3) := by decide +kernel
theorem d_St_becomeSame_36 : decode c_St_becomeSame 36 = .ok (.return_, 1) := by decide +kernel
theorem d_Fa_becomeSame_0 : decode c_Fa_becomeSame 0 = .ok (.aload_n 0, 1) := by decide +kernel
theorem d_Fa_becomeSame_1 : decode c_Fa_becomeSame 1 = .ok (.aload_n 1, 1) := by decide +kernel
theorem d_Fa_becomeSame_2 : decode c_Fa_becomeSame 2 = .ok (.getfield 9, 3) := by decide +kernel
theorem d_Fa_becomeSame_5 : decode c_Fa_becomeSame 5 = .ok (.putfield 9, 3) := by decide +kernel
theorem d_Fa_becomeSame_8 : decode c_Fa_becomeSame 8 = .ok (.aload_n 0, 1) := by decide +kernel
theorem d_Fa_becomeSame_9 : decode c_Fa_becomeSame 9 = .ok (.aload_n 1, 1) := by decide +kernel
theorem d_Fa_becomeSame_10 : decode c_Fa_becomeSame 10 = .ok (.getfield 15, 3) := by decide +kernel
theorem d_Fa_becomeSame_13 : decode c_Fa_becomeSame 13 = .ok (.putfield 15, 3) := by decide +kernel
theorem d_Fa_becomeSame_16 : decode c_Fa_becomeSame 16 = .ok (.aload_n 0, 1) := by decide +kernel
theorem d_Fa_becomeSame_17 : decode c_Fa_becomeSame 17 = .ok (.aload_n 1, 1) := by decide +kernel
theorem d_Fa_becomeSame_18 : decode c_Fa_becomeSame 18 = .ok (.getfield 18, 3) := by decide +kernel
theorem d_Fa_becomeSame_21 : decode c_Fa_becomeSame 21 = .ok (.putfield 18, 3) := by decide +kernel
theorem d_Fa_becomeSame_24 : decode c_Fa_becomeSame 24 = .ok (.return_, 1) := by decide +kernel
theorem d_So_arrive_0 : decode c_So_arrive 0 = .ok (.aload_n 1, 1) := by decide +kernel
theorem d_So_arrive_1 : decode c_So_arrive 1 = .ok (.iload_n 2, 1) := by decide +kernel
theorem d_So_arrive_2 : decode c_So_arrive 2 = .ok (.invokevirtual 83, 3) := by decide +kernel
theorem d_So_arrive_5 : decode c_So_arrive 5 = .ok (.ifCond .eq 26, 3) := by decide +kernel
theorem d_So_arrive_8 : decode c_So_arrive 8 = .ok (.aload_n 0, 1) := by decide +kernel
theorem d_So_arrive_9 : decode c_So_arrive 9 = .ok (.getfield 11, 3) := by decide +kernel
theorem d_So_arrive_12 : decode c_So_arrive 12 = .ok (.iload_n 2, 1) := by decide +kernel
theorem d_So_arrive_13 : decode c_So_arrive 13 = .ok (.aaload, 1) := by decide +kernel
theorem d_So_arrive_14 : decode c_So_arrive 14 = .ok (.aload_n 0, 1) := by decide +kernel
theorem d_So_arrive_15 : decode c_So_arrive 15 = .ok (.getfield 26, 3) := by decide +kernel
theorem d_So_arrive_18 : decode c_So_arrive 18 = .ok (.invokevirtual 87, 3) := by decide +kernel
theorem d_So_arrive_21 : decode c_So_arrive 21 = .ok (.ifCond .eq 10, 3) := by decide +kernel
theorem d_So_arrive_24 : decode c_So_arrive 24 = .ok (.aload_n 0, 1) := by decide +kernel
theorem d_So_arrive_25 : decode c_So_arrive 25 = .ok (.getfield 21, 3) := by decide +kernel
theorem d_So_arrive_28 : decode c_So_arrive 28 = .ok (.iload_n 2, 1) := by decide +kernel
theorem d_So_arrive_29 : decode c_So_arrive 29 = .ok (.iconst 1, 1) := by decide +kernel
theorem d_So_arrive_30 : decode c_So_arrive 30 = .ok (.bastore, 1) := by decide +kernel
theorem d_So_arrive_31 : decode c_So_arrive 31 = .ok (.return_, 1) := by decide +kernel
theorem d_St_joinWith_0 : decode c_St_joinWith 0 = .ok (.aload_n 1, 1) := by decide +kernel
