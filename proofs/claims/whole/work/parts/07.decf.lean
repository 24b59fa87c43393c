/-! decode rows 3500 .. (printed) -/
theorem d_Mo_worth_28 : decode c_Mo_worth 28 = .ok (.iload_n 2, 1) := by decide +kernel
theorem d_Mo_worth_29 : decode c_Mo_worth 29 = .ok (.iload_n 3, 1) := by decide +kernel
theorem d_Mo_worth_30 : decode c_Mo_worth 30 = .ok (.iadd, 1) := by decide +kernel
theorem d_Mo_worth_31 : decode c_Mo_worth 31 = .ok (.ireturn, 1) := by decide +kernel
theorem d_Mo_worth_32 : decode c_Mo_worth 32 = .ok (.iload_n 2, 1) := by decide +kernel
theorem d_Mo_worth_33 : decode c_Mo_worth 33 = .ok (.iload_n 3, 1) := by decide +kernel
theorem d_Mo_worth_34 : decode c_Mo_worth 34 = .ok (.isub, 1) := by decide +kernel
theorem d_Mo_worth_35 : decode c_Mo_worth 35 = .ok (.ireturn, 1) := by decide +kernel
theorem d_Mo_worth_36 : decode c_Mo_worth 36 = .ok (.iload_n 2, 1) := by decide +kernel
theorem d_Mo_worth_37 : decode c_Mo_worth 37 = .ok (.iload_n 3, 1) := by decide +kernel
theorem d_Mo_worth_38 : decode c_Mo_worth 38 = .ok (.imul, 1) := by decide +kernel
theorem d_Mo_worth_39 : decode c_Mo_worth 39 = .ok (.ireturn, 1) := by decide +kernel
theorem d_Mo_worth_40 : decode c_Mo_worth 40 = .ok (.iload_n 2, 1) := by decide +kernel
theorem d_Mo_worth_41 : decode c_Mo_worth 41 = .ok (.iload_n 3, 1) := by decide +kernel
theorem d_Mo_worth_42 : decode c_Mo_worth 42 = .ok (.invokestatic 133, 3) := by decide +kernel
theorem d_Mo_worth_45 : decode c_Mo_worth 45 = .ok (.ireturn, 1) := by decide +kernel
theorem d_Mo_read_0 : decode c_Mo_read 0 = .ok (.aload_n 0, 1) := by decide +kernel
theorem d_Mo_read_1 : decode c_Mo_read 1 = .ok (.getfield 51, 3) := by decide +kernel
theorem d_Mo_read_4 : decode c_Mo_read 4 = .ok (.iload_n 1, 1) := by decide +kernel
theorem d_Mo_read_5 : decode c_Mo_read 5 = .ok (.aload_n 0, 1) := by decide +kernel
theorem d_Mo_read_6 : decode c_Mo_read 6 = .ok (.getfield 186, 3) := by decide +kernel
theorem d_Mo_read_9 : decode c_Mo_read 9 = .ok (.aload_n 0, 1) := by decide +kernel
theorem d_Mo_read_10 : decode c_Mo_read 10 = .ok (.getfield 180, 3) := by decide +kernel
theorem d_Mo_read_13 : decode c_Mo_read 13 = .ok (.if_icmp .ge 15, 3) := by decide +kernel
theorem d_Mo_read_16 : decode c_Mo_read 16 = .ok (.aload_n 0, 1) := by decide +kernel
theorem d_Mo_read_17 : decode c_Mo_read 17 = .ok (.getfield 44, 3) := by decide +kernel
theorem d_Mo_read_20 : decode c_Mo_read 20 = .ok (.aload_n 0, 1) := by decide +kernel
theorem d_Mo_read_21 : decode c_Mo_read 21 = .ok (.getfield 186, 3) := by decide +kernel
theorem d_Mo_read_24 : decode c_Mo_read 24 = .ok (.iaload, 1) := by decide +kernel
theorem d_Mo_read_25 : decode c_Mo_read 25 = .ok (.goto 4, 3) := by decide +kernel
theorem d_Mo_read_28 : decode c_Mo_read 28 = .ok (.iconst 0, 1) := by decide +kernel
theorem d_Mo_read_29 : decode c_Mo_read 29 = .ok (.iastore, 1) := by decide +kernel
theorem d_Mo_read_30 : decode c_Mo_read 30 = .ok (.aload_n 0, 1) := by decide +kernel
theorem d_Mo_read_31 : decode c_Mo_read 31 = .ok (.dup, 1) := by decide +kernel
theorem d_Mo_read_32 : decode c_Mo_read 32 = .ok (.getfield 186, 3) := by decide +kernel
theorem d_Mo_read_35 : decode c_Mo_read 35 = .ok (.iconst 1, 1) := by decide +kernel
theorem d_Mo_read_36 : decode c_Mo_read 36 = .ok (.iadd, 1) := by decide +kernel
theorem d_Mo_read_37 : decode c_Mo_read 37 = .ok (.putfield 186, 3) := by decide +kernel
theorem d_Mo_read_40 : decode c_Mo_read 40 = .ok (.return_, 1) := by decide +kernel
theorem d_Mo_print_0 : decode c_Mo_print 0 = .ok (.aload_n 0, 1) := by decide +kernel
theorem d_Mo_print_1 : decode c_Mo_print 1 = .ok (.getfield 183, 3) := by decide +kernel
theorem d_Mo_print_4 : decode c_Mo_print 4 = .ok (.bipush 40, 2) := by decide +kernel
theorem d_Mo_print_6 : decode c_Mo_print 6 = .ok (.if_icmp .ge 13, 3) := by decide +kernel
theorem d_Mo_print_9 : decode c_Mo_print 9 = .ok (.aload_n 0, 1) := by decide +kernel
theorem d_Mo_print_10 : decode c_Mo_print 10 = .ok (.getfield 54, 3) := by decide +kernel
theorem d_Mo_print_13 : decode c_Mo_print 13 = .ok (.aload_n 0, 1) := by decide +kernel
theorem d_Mo_print_14 : decode c_Mo_print 14 = .ok (.getfield 183, 3) := by decide +kernel
theorem d_Mo_print_17 : decode c_Mo_print 17 = .ok (.iload_n 1, 1) := by decide +kernel
theorem d_Mo_print_18 : decode c_Mo_print 18 = .ok (.iastore, 1) := by decide +kernel
theorem d_Mo_print_19 : decode c_Mo_print 19 = .ok (.aload_n 0, 1) := by decide +kernel
theorem d_Mo_print_20 : decode c_Mo_print 20 = .ok (.dup, 1) := by decide +kernel
theorem d_Mo_print_21 : decode c_Mo_print 21 = .ok (.getfield 183, 3) := by decide +kernel
theorem d_Mo_print_24 : decode c_Mo_print 24 = .ok (.iconst 1, 1) := by decide +kernel
theorem d_Mo_print_25 : decode c_Mo_print 25 = .ok (.iadd, 1) := by decide +kernel
theorem d_Mo_print_26 : decode c_Mo_print 26 = .ok (.putfield 183, 3) := by decide +kernel
theorem d_Mo_print_29 : decode c_Mo_print 29 = .ok (.return_, 1) := by decide +kernel
theorem d_Mo_steps_0 : decode c_Mo_steps 0 = .ok (.aload_n 0, 1) := by decide +kernel
theorem d_Mo_steps_1 : decode c_Mo_steps 1 = .ok (.getfield 198, 3) := by decide +kernel
theorem d_Mo_steps_4 : decode c_Mo_steps 4 = .ok (.ireturn, 1) := by decide +kernel
theorem d_Mo_next_0 : decode c_Mo_next 0 = .ok (.aload_n 0, 1) := by decide +kernel
theorem d_Mo_next_1 : decode c_Mo_next 1 = .ok (.getfield 47, 3) := by decide +kernel
theorem d_Mo_next_4 : decode c_Mo_next 4 = .ok (.ireturn, 1) := by decide +kernel
theorem d_Mo_variable_0 : decode c_Mo_variable 0 = .ok (.iload_n 1, 1) := by decide +kernel
theorem d_Mo_variable_1 : decode c_Mo_variable 1 = .ok (.invokestatic 61, 3) := by decide +kernel
theorem d_Mo_variable_4 : decode c_Mo_variable 4 = .ok (.ifCond .eq 12, 3) := by decide +kernel
theorem d_Mo_variable_7 : decode c_Mo_variable 7 = .ok (.aload_n 0, 1) := by decide +kernel
theorem d_Mo_variable_8 : decode c_Mo_variable 8 = .ok (.getfield 51, 3) := by decide +kernel
theorem d_Mo_variable_11 : decode c_Mo_variable 11 = .ok (.iload_n 1, 1) := by decide +kernel
theorem d_Mo_variable_12 : decode c_Mo_variable 12 = .ok (.iaload, 1) := by decide +kernel
theorem d_Mo_variable_13 : decode c_Mo_variable 13 = .ok (.goto 4, 3) := by decide +kernel
theorem d_Mo_variable_16 : decode c_Mo_variable 16 = .ok (.iconst 0, 1) := by decide +kernel
theorem d_Mo_variable_17 : decode c_Mo_variable 17 = .ok (.ireturn, 1) := by decide +kernel
theorem d_Mo_outputs_0 : decode c_Mo_outputs 0 = .ok (.aload_n 0, 1) := by decide +kernel
theorem d_Mo_outputs_1 : decode c_Mo_outputs 1 = .ok (.getfield 183, 3) := by decide +kernel
theorem d_Mo_outputs_4 : decode c_Mo_outputs 4 = .ok (.ireturn, 1) := by decide +kernel
theorem d_Mo_output_0 : decode c_Mo_output 0 = .ok (.iload_n 1, 1) := by decide +kernel
theorem d_Mo_output_1 : decode c_Mo_output 1 = .ok (.ifCond .lt 9, 3) := by decide +kernel
theorem d_Mo_output_4 : decode c_Mo_output 4 = .ok (.iload_n 1, 1) := by decide +kernel
theorem d_Mo_output_5 : decode c_Mo_output 5 = .ok (.bipush 39, 2) := by decide +kernel
theorem d_Mo_output_7 : decode c_Mo_output 7 = .ok (.if_icmp .le 7, 3) := by decide +kernel
theorem d_Mo_output_10 : decode c_Mo_output 10 = .ok (.iconst 0, 1) := by decide +kernel
theorem d_Mo_output_11 : decode c_Mo_output 11 = .ok (.goto 9, 3) := by decide +kernel
theorem d_Mo_output_14 : decode c_Mo_output 14 = .ok (.aload_n 0, 1) := by decide +kernel
theorem d_Mo_output_15 : decode c_Mo_output 15 = .ok (.getfield 54, 3) := by decide +kernel
theorem d_Mo_output_18 : decode c_Mo_output 18 = .ok (.iload_n 1, 1) := by decide +kernel
theorem d_Mo_output_19 : decode c_Mo_output 19 = .ok (.iaload, 1) := by decide +kernel
theorem d_Mo_output_20 : decode c_Mo_output 20 = .ok (.ireturn, 1) := by decide +kernel
