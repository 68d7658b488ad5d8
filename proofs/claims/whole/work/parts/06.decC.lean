theorem d_La_set_0 : decode b_La_set 0 = .ok (.aload_n 3, 1) := by decide +kernel
theorem d_La_set_1 : decode b_La_set 1 = .ok (.iconst 0, 1) := by decide +kernel
theorem d_La_set_2 : decode b_La_set 2 = .ok (.aload_n 0, 1) := by decide +kernel
theorem d_La_set_3 : decode b_La_set 3 = .ok (.iload_n 1, 1) := by decide +kernel
theorem d_La_set_4 : decode b_La_set 4 = .ok (.iload_n 2, 1) := by decide +kernel
theorem d_La_set_5 : decode b_La_set 5 = .ok (.invokevirtual 7, 3) := by decide +kernel
theorem d_La_set_8 : decode b_La_set 8 = .ok (.i2l, 1) := by decide +kernel
theorem d_La_set_9 : decode b_La_set 9 = .ok (.lastore, 1) := by decide +kernel
theorem d_La_set_10 : decode b_La_set 10 = .ok (.goto 15, 3) := by decide +kernel
theorem d_La_set_13 : decode b_La_set 13 = .ok (.astore 4, 2) := by decide +kernel
theorem d_La_set_15 : decode b_La_set 15 = .ok (.iconst 1, 1) := by decide +kernel
theorem d_La_set_16 : decode b_La_set 16 = .ok (.ireturn, 1) := by decide +kernel
theorem d_La_set_17 : decode b_La_set 17 = .ok (.astore 4, 2) := by decide +kernel
theorem d_La_set_19 : decode b_La_set 19 = .ok (.iconst 2, 1) := by decide +kernel
theorem d_La_set_20 : decode b_La_set 20 = .ok (.ireturn, 1) := by decide +kernel
theorem d_La_set_21 : decode b_La_set 21 = .ok (.astore 4, 2) := by decide +kernel
theorem d_La_set_23 : decode b_La_set 23 = .ok (.iconst 3, 1) := by decide +kernel
theorem d_La_set_24 : decode b_La_set 24 = .ok (.ireturn, 1) := by decide +kernel
theorem d_La_set_25 : decode b_La_set 25 = .ok (.iconst 0, 1) := by decide +kernel
theorem d_La_set_26 : decode b_La_set 26 = .ok (.ireturn, 1) := by decide +kernel
theorem d_La_curve_0 : decode b_La_curve 0 = .ok (.aload_n 0, 1) := by decide +kernel
theorem d_La_curve_1 : decode b_La_curve 1 = .ok (.iload_n 1, 1) := by decide +kernel
theorem d_La_curve_2 : decode b_La_curve 2 = .ok (.iload_n 2, 1) := by decide +kernel
theorem d_La_curve_3 : decode b_La_curve 3 = .ok (.iload_n 3, 1) := by decide +kernel
theorem d_La_curve_4 : decode b_La_curve 4 = .ok (.iload 4, 2) := by decide +kernel
theorem d_La_curve_6 : decode b_La_curve 6 = .ok (.invokevirtual 19, 3) := by decide +kernel
theorem d_La_curve_9 : decode b_La_curve 9 = .ok (.goto 15, 3) := by decide +kernel
theorem d_La_curve_12 : decode b_La_curve 12 = .ok (.astore 5, 2) := by decide +kernel
theorem d_La_curve_14 : decode b_La_curve 14 = .ok (.iconst 1, 1) := by decide +kernel
theorem d_La_curve_15 : decode b_La_curve 15 = .ok (.ireturn, 1) := by decide +kernel
theorem d_La_curve_16 : decode b_La_curve 16 = .ok (.astore 5, 2) := by decide +kernel
theorem d_La_curve_18 : decode b_La_curve 18 = .ok (.iconst 2, 1) := by decide +kernel
theorem d_La_curve_19 : decode b_La_curve 19 = .ok (.ireturn, 1) := by decide +kernel
theorem d_La_curve_20 : decode b_La_curve 20 = .ok (.astore 5, 2) := by decide +kernel
theorem d_La_curve_22 : decode b_La_curve 22 = .ok (.iconst 3, 1) := by decide +kernel
theorem d_La_curve_23 : decode b_La_curve 23 = .ok (.ireturn, 1) := by decide +kernel
theorem d_La_curve_24 : decode b_La_curve 24 = .ok (.iconst 0, 1) := by decide +kernel
theorem d_La_curve_25 : decode b_La_curve 25 = .ok (.ireturn, 1) := by decide +kernel
theorem d_La_stay_0 : decode b_La_stay 0 = .ok (.aload_n 0, 1) := by decide +kernel
theorem d_La_stay_1 : decode b_La_stay 1 = .ok (.iload_n 1, 1) := by decide +kernel
theorem d_La_stay_2 : decode b_La_stay 2 = .ok (.iload_n 2, 1) := by decide +kernel
theorem d_La_stay_3 : decode b_La_stay 3 = .ok (.iload_n 3, 1) := by decide +kernel
theorem d_La_stay_4 : decode b_La_stay 4 = .ok (.iload 4, 2) := by decide +kernel
theorem d_La_stay_6 : decode b_La_stay 6 = .ok (.invokevirtual 23, 3) := by decide +kernel
theorem d_La_stay_9 : decode b_La_stay 9 = .ok (.goto 15, 3) := by decide +kernel
theorem d_La_stay_12 : decode b_La_stay 12 = .ok (.astore 5, 2) := by decide +kernel
theorem d_La_stay_14 : decode b_La_stay 14 = .ok (.iconst 1, 1) := by decide +kernel
theorem d_La_stay_15 : decode b_La_stay 15 = .ok (.ireturn, 1) := by decide +kernel
theorem d_La_stay_16 : decode b_La_stay 16 = .ok (.astore 5, 2) := by decide +kernel
theorem d_La_stay_18 : decode b_La_stay 18 = .ok (.iconst 2, 1) := by decide +kernel
theorem d_La_stay_19 : decode b_La_stay 19 = .ok (.ireturn, 1) := by decide +kernel
theorem d_La_stay_20 : decode b_La_stay 20 = .ok (.astore 5, 2) := by decide +kernel
theorem d_La_stay_22 : decode b_La_stay 22 = .ok (.iconst 3, 1) := by decide +kernel
theorem d_La_stay_23 : decode b_La_stay 23 = .ok (.ireturn, 1) := by decide +kernel
theorem d_La_stay_24 : decode b_La_stay 24 = .ok (.iconst 0, 1) := by decide +kernel
theorem d_La_stay_25 : decode b_La_stay 25 = .ok (.ireturn, 1) := by decide +kernel
theorem d_La_on_0 : decode b_La_on 0 = .ok (.aload_n 1, 1) := by decide +kernel
theorem d_La_on_1 : decode b_La_on 1 = .ok (.iconst 0, 1) := by decide +kernel
theorem d_La_on_2 : decode b_La_on 2 = .ok (.aload_n 0, 1) := by decide +kernel
theorem d_La_on_3 : decode b_La_on 3 = .ok (.invokevirtual 26, 3) := by decide +kernel
theorem d_La_on_6 : decode b_La_on 6 = .ok (.ifCond .eq 7, 3) := by decide +kernel
theorem d_La_on_9 : decode b_La_on 9 = .ok (.lconst 1, 1) := by decide +kernel
theorem d_La_on_10 : decode b_La_on 10 = .ok (.goto 4, 3) := by decide +kernel
theorem d_La_on_13 : decode b_La_on 13 = .ok (.lconst 0, 1) := by decide +kernel
theorem d_La_on_14 : decode b_La_on 14 = .ok (.lastore, 1) := by decide +kernel
theorem d_La_on_15 : decode b_La_on 15 = .ok (.goto 6, 3) := by decide +kernel
theorem d_La_on_18 : decode b_La_on 18 = .ok (.astore_n 2, 1) := by decide +kernel
theorem d_La_on_19 : decode b_La_on 19 = .ok (.iconst 1, 1) := by decide +kernel
theorem d_La_on_20 : decode b_La_on 20 = .ok (.ireturn, 1) := by decide +kernel
theorem d_La_on_21 : decode b_La_on 21 = .ok (.iconst 0, 1) := by decide +kernel
theorem d_La_on_22 : decode b_La_on 22 = .ok (.ireturn, 1) := by decide +kernel
theorem d_La_power_0 : decode b_La_power 0 = .ok (.aload_n 0, 1) := by decide +kernel
theorem d_La_power_1 : decode b_La_power 1 = .ok (.iload_n 1, 1) := by decide +kernel
theorem d_La_power_2 : decode b_La_power 2 = .ok (.iload_n 2, 1) := by decide +kernel
theorem d_La_power_3 : decode b_La_power 3 = .ok (.invokevirtual 30, 3) := by decide +kernel
theorem d_La_power_6 : decode b_La_power 6 = .ok (.goto 6, 3) := by decide +kernel
theorem d_La_power_9 : decode b_La_power 9 = .ok (.astore_n 3, 1) := by decide +kernel
theorem d_La_power_10 : decode b_La_power 10 = .ok (.iconst 1, 1) := by decide +kernel
theorem d_La_power_11 : decode b_La_power 11 = .ok (.ireturn, 1) := by decide +kernel
theorem d_La_power_12 : decode b_La_power 12 = .ok (.iconst 0, 1) := by decide +kernel
theorem d_La_power_13 : decode b_La_power 13 = .ok (.ireturn, 1) := by decide +kernel
theorem d_La_sample_0 : decode b_La_sample 0 = .ok (.aload 4, 2) := by decide +kernel
theorem d_La_sample_2 : decode b_La_sample 2 = .ok (.iconst 0, 1) := by decide +kernel
theorem d_La_sample_3 : decode b_La_sample 3 = .ok (.aload_n 0, 1) := by decide +kernel
theorem d_La_sample_4 : decode b_La_sample 4 = .ok (.iload_n 1, 1) := by decide +kernel
theorem d_La_sample_5 : decode b_La_sample 5 = .ok (.iload_n 2, 1) := by decide +kernel
theorem d_La_sample_6 : decode b_La_sample 6 = .ok (.iload_n 3, 1) := by decide +kernel
theorem d_La_sample_7 : decode b_La_sample 7 = .ok (.invokevirtual 34, 3) := by decide +kernel
theorem d_La_sample_10 : decode b_La_sample 10 = .ok (.i2l, 1) := by decide +kernel
theorem d_La_sample_11 : decode b_La_sample 11 = .ok (.lastore, 1) := by decide +kernel
theorem d_La_sample_12 : decode b_La_sample 12 = .ok (.goto 7, 3) := by decide +kernel
theorem d_La_sample_15 : decode b_La_sample 15 = .ok (.astore 5, 2) := by decide +kernel
theorem d_La_sample_17 : decode b_La_sample 17 = .ok (.iconst 1, 1) := by decide +kernel
theorem d_La_sample_18 : decode b_La_sample 18 = .ok (.ireturn, 1) := by decide +kernel
theorem d_La_sample_19 : decode b_La_sample 19 = .ok (.iconst 0, 1) := by decide +kernel
theorem d_La_sample_20 : decode b_La_sample 20 = .ok (.ireturn, 1) := by decide +kernel
theorem d_La_grid_0 : decode b_La_grid 0 = .ok (.aload_n 0, 1) := by decide +kernel
theorem d_La_grid_1 : decode b_La_grid 1 = .ok (.iload_n 1, 1) := by decide +kernel
theorem d_La_grid_2 : decode b_La_grid 2 = .ok (.iload_n 2, 1) := by decide +kernel
theorem d_La_grid_3 : decode b_La_grid 3 = .ok (.iload_n 3, 1) := by decide +kernel
theorem d_La_grid_4 : decode b_La_grid 4 = .ok (.invokevirtual 38, 3) := by decide +kernel
theorem d_La_grid_7 : decode b_La_grid 7 = .ok (.goto 7, 3) := by decide +kernel
theorem d_La_grid_10 : decode b_La_grid 10 = .ok (.astore 4, 2) := by decide +kernel
theorem d_La_grid_12 : decode b_La_grid 12 = .ok (.iconst 1, 1) := by decide +kernel
theorem d_La_grid_13 : decode b_La_grid 13 = .ok (.ireturn, 1) := by decide +kernel
theorem d_La_grid_14 : decode b_La_grid 14 = .ok (.iconst 0, 1) := by decide +kernel
theorem d_La_grid_15 : decode b_La_grid 15 = .ok (.ireturn, 1) := by decide +kernel
theorem d_La_run_0 : decode b_La_run 0 = .ok (.aload_n 2, 1) := by decide +kernel
theorem d_La_run_1 : decode b_La_run 1 = .ok (.iconst 0, 1) := by decide +kernel
theorem d_La_run_2 : decode b_La_run 2 = .ok (.aload_n 0, 1) := by decide +kernel
theorem d_La_run_3 : decode b_La_run 3 = .ok (.iload_n 1, 1) := by decide +kernel
theorem d_La_run_4 : decode b_La_run 4 = .ok (.invokevirtual 42, 3) := by decide +kernel
theorem d_La_run_7 : decode b_La_run 7 = .ok (.i2l, 1) := by decide +kernel
theorem d_La_run_8 : decode b_La_run 8 = .ok (.lastore, 1) := by decide +kernel
theorem d_La_run_9 : decode b_La_run 9 = .ok (.goto 9, 3) := by decide +kernel
theorem d_La_run_12 : decode b_La_run 12 = .ok (.astore_n 3, 1) := by decide +kernel
theorem d_La_run_13 : decode b_La_run 13 = .ok (.iconst 1, 1) := by decide +kernel
theorem d_La_run_14 : decode b_La_run 14 = .ok (.ireturn, 1) := by decide +kernel
theorem d_La_run_15 : decode b_La_run 15 = .ok (.astore_n 3, 1) := by decide +kernel
theorem d_La_run_16 : decode b_La_run 16 = .ok (.iconst 2, 1) := by decide +kernel
theorem d_La_run_17 : decode b_La_run 17 = .ok (.ireturn, 1) := by decide +kernel
theorem d_La_run_18 : decode b_La_run 18 = .ok (.iconst 0, 1) := by decide +kernel
theorem d_La_run_19 : decode b_La_run 19 = .ok (.ireturn, 1) := by decide +kernel
theorem d_La_signal_0 : decode b_La_signal 0 = .ok (.aload_n 2, 1) := by decide +kernel
theorem d_La_signal_1 : decode b_La_signal 1 = .ok (.iconst 0, 1) := by decide +kernel
theorem d_La_signal_2 : decode b_La_signal 2 = .ok (.aload_n 0, 1) := by decide +kernel
theorem d_La_signal_3 : decode b_La_signal 3 = .ok (.iload_n 1, 1) := by decide +kernel
theorem d_La_signal_4 : decode b_La_signal 4 = .ok (.invokevirtual 46, 3) := by decide +kernel
theorem d_La_signal_7 : decode b_La_signal 7 = .ok (.i2l, 1) := by decide +kernel
theorem d_La_signal_8 : decode b_La_signal 8 = .ok (.lastore, 1) := by decide +kernel
theorem d_La_signal_9 : decode b_La_signal 9 = .ok (.goto 6, 3) := by decide +kernel
theorem d_La_signal_12 : decode b_La_signal 12 = .ok (.astore_n 3, 1) := by decide +kernel
theorem d_La_signal_13 : decode b_La_signal 13 = .ok (.iconst 1, 1) := by decide +kernel
theorem d_La_signal_14 : decode b_La_signal 14 = .ok (.ireturn, 1) := by decide +kernel
theorem d_La_signal_15 : decode b_La_signal 15 = .ok (.iconst 0, 1) := by decide +kernel
theorem d_La_signal_16 : decode b_La_signal 16 = .ok (.ireturn, 1) := by decide +kernel
theorem d_La_state_0 : decode b_La_state 0 = .ok (.aload_n 2, 1) := by decide +kernel
theorem d_La_state_1 : decode b_La_state 1 = .ok (.iconst 0, 1) := by decide +kernel
theorem d_La_state_2 : decode b_La_state 2 = .ok (.aload_n 0, 1) := by decide +kernel
theorem d_La_state_3 : decode b_La_state 3 = .ok (.iload_n 1, 1) := by decide +kernel
theorem d_La_state_4 : decode b_La_state 4 = .ok (.invokevirtual 49, 3) := by decide +kernel
theorem d_La_state_7 : decode b_La_state 7 = .ok (.i2l, 1) := by decide +kernel
theorem d_La_state_8 : decode b_La_state 8 = .ok (.lastore, 1) := by decide +kernel
theorem d_La_state_9 : decode b_La_state 9 = .ok (.goto 6, 3) := by decide +kernel
theorem d_La_state_12 : decode b_La_state 12 = .ok (.astore_n 3, 1) := by decide +kernel
theorem d_La_state_13 : decode b_La_state 13 = .ok (.iconst 1, 1) := by decide +kernel
theorem d_La_state_14 : decode b_La_state 14 = .ok (.ireturn, 1) := by decide +kernel
theorem d_La_state_15 : decode b_La_state 15 = .ok (.iconst 0, 1) := by decide +kernel
theorem d_La_state_16 : decode b_La_state 16 = .ok (.ireturn, 1) := by decide +kernel
theorem d_La_count_0 : decode b_La_count 0 = .ok (.aload_n 2, 1) := by decide +kernel
theorem d_La_count_1 : decode b_La_count 1 = .ok (.iconst 0, 1) := by decide +kernel
theorem d_La_count_2 : decode b_La_count 2 = .ok (.aload_n 0, 1) := by decide +kernel
theorem d_La_count_3 : decode b_La_count 3 = .ok (.iload_n 1, 1) := by decide +kernel
theorem d_La_count_4 : decode b_La_count 4 = .ok (.invokevirtual 52, 3) := by decide +kernel
theorem d_La_count_7 : decode b_La_count 7 = .ok (.i2l, 1) := by decide +kernel
theorem d_La_count_8 : decode b_La_count 8 = .ok (.lastore, 1) := by decide +kernel
theorem d_La_count_9 : decode b_La_count 9 = .ok (.goto 6, 3) := by decide +kernel
theorem d_La_count_12 : decode b_La_count 12 = .ok (.astore_n 3, 1) := by decide +kernel
theorem d_La_count_13 : decode b_La_count 13 = .ok (.iconst 1, 1) := by decide +kernel
theorem d_La_count_14 : decode b_La_count 14 = .ok (.ireturn, 1) := by decide +kernel
theorem d_La_count_15 : decode b_La_count 15 = .ok (.iconst 0, 1) := by decide +kernel
theorem d_La_count_16 : decode b_La_count 16 = .ok (.ireturn, 1) := by decide +kernel
theorem d_La_event_0 : decode b_La_event 0 = .ok (.aload_n 3, 1) := by decide +kernel
theorem d_La_event_1 : decode b_La_event 1 = .ok (.iconst 0, 1) := by decide +kernel
theorem d_La_event_2 : decode b_La_event 2 = .ok (.aload_n 0, 1) := by decide +kernel
theorem d_La_event_3 : decode b_La_event 3 = .ok (.iload_n 1, 1) := by decide +kernel
theorem d_La_event_4 : decode b_La_event 4 = .ok (.iload_n 2, 1) := by decide +kernel
theorem d_La_event_5 : decode b_La_event 5 = .ok (.invokevirtual 55, 3) := by decide +kernel
theorem d_La_event_8 : decode b_La_event 8 = .ok (.i2l, 1) := by decide +kernel
theorem d_La_event_9 : decode b_La_event 9 = .ok (.lastore, 1) := by decide +kernel
theorem d_La_event_10 : decode b_La_event 10 = .ok (.goto 7, 3) := by decide +kernel
theorem d_La_event_13 : decode b_La_event 13 = .ok (.astore 4, 2) := by decide +kernel
theorem d_La_event_15 : decode b_La_event 15 = .ok (.iconst 1, 1) := by decide +kernel
theorem d_La_event_16 : decode b_La_event 16 = .ok (.ireturn, 1) := by decide +kernel
theorem d_La_event_17 : decode b_La_event 17 = .ok (.iconst 0, 1) := by decide +kernel
theorem d_La_event_18 : decode b_La_event 18 = .ok (.ireturn, 1) := by decide +kernel
theorem d_La_law_0 : decode code 0 = .ok (.new 8, 3) := by decide +kernel
theorem d_La_law_3 : decode code 3 = .ok (.dup, 1) := by decide +kernel
theorem d_La_law_4 : decode code 4 = .ok (.invokespecial 58, 3) := by decide +kernel
theorem d_La_law_7 : decode code 7 = .ok (.astore_n 1, 1) := by decide +kernel
theorem d_La_law_8 : decode code 8 = .ok (.new 59, 3) := by decide +kernel
theorem d_La_law_11 : decode code 11 = .ok (.dup, 1) := by decide +kernel
theorem d_La_law_12 : decode code 12 = .ok (.invokespecial 61, 3) := by decide +kernel
theorem d_La_law_15 : decode code 15 = .ok (.astore_n 2, 1) := by decide +kernel
theorem d_La_law_16 : decode code 16 = .ok (.iconst 1, 1) := by decide +kernel
theorem d_La_law_17 : decode code 17 = .ok (.newarray .long, 2) := by decide +kernel
theorem d_La_law_19 : decode code 19 = .ok (.astore_n 3, 1) := by decide +kernel
theorem d_La_law_20 : decode code 20 = .ok (.iconst 0, 1) := by decide +kernel
theorem d_La_law_21 : decode code 21 = .ok (.istore 4, 2) := by decide +kernel
theorem d_La_law_23 : decode code 23 = .ok (.iload 4, 2) := by decide +kernel
theorem d_La_law_25 : decode code 25 = .ok (.aload_n 0, 1) := by decide +kernel
theorem d_La_law_26 : decode code 26 = .ok (.arraylength, 1) := by decide +kernel
theorem d_La_law_27 : decode code 27 = .ok (.iconst 5, 1) := by decide +kernel
theorem d_La_law_28 : decode code 28 = .ok (.isub, 1) := by decide +kernel
theorem d_La_law_29 : decode code 29 = .ok (.if_icmp .gt 932, 3) := by decide +kernel
theorem d_La_law_32 : decode code 32 = .ok (.aload_n 0, 1) := by decide +kernel
theorem d_La_law_33 : decode code 33 = .ok (.iload 4, 2) := by decide +kernel
theorem d_La_law_35 : decode code 35 = .ok (.iaload, 1) := by decide +kernel
theorem d_La_law_36 : decode code 36 = .ok (.bipush 31, 2) := by decide +kernel
theorem d_La_law_38 : decode code 38 = .ok (.iand, 1) := by decide +kernel
theorem d_La_law_39 : decode code 39 = .ok (.tableswitch 916 0 16 #[81, 149, 221, 293, 306, 357, 370, 409, 422, 470, 550, 610, 666, 722, 778, 834, 848], 81) := by decide +kernel
theorem d_La_law_120 : decode code 120 = .ok (.aload_n 1, 1) := by decide +kernel
theorem d_La_law_121 : decode code 121 = .ok (.aload_n 0, 1) := by decide +kernel
theorem d_La_law_122 : decode code 122 = .ok (.iload 4, 2) := by decide +kernel
theorem d_La_law_124 : decode code 124 = .ok (.iconst 1, 1) := by decide +kernel
theorem d_La_law_125 : decode code 125 = .ok (.iadd, 1) := by decide +kernel
theorem d_La_law_126 : decode code 126 = .ok (.iaload, 1) := by decide +kernel
theorem d_La_law_127 : decode code 127 = .ok (.aload_n 0, 1) := by decide +kernel
theorem d_La_law_128 : decode code 128 = .ok (.iload 4, 2) := by decide +kernel
theorem d_La_law_130 : decode code 130 = .ok (.iconst 2, 1) := by decide +kernel
theorem d_La_law_131 : decode code 131 = .ok (.iadd, 1) := by decide +kernel
theorem d_La_law_132 : decode code 132 = .ok (.iaload, 1) := by decide +kernel
theorem d_La_law_133 : decode code 133 = .ok (.aload_n 3, 1) := by decide +kernel
theorem d_La_law_134 : decode code 134 = .ok (.invokestatic 62, 3) := by decide +kernel
theorem d_La_law_137 : decode code 137 = .ok (.istore 5, 2) := by decide +kernel
theorem d_La_law_139 : decode code 139 = .ok (.aload_n 2, 1) := by decide +kernel
theorem d_La_law_140 : decode code 140 = .ok (.aload_n 0, 1) := by decide +kernel
theorem d_La_law_141 : decode code 141 = .ok (.iload 4, 2) := by decide +kernel
theorem d_La_law_143 : decode code 143 = .ok (.iconst 1, 1) := by decide +kernel
theorem d_La_law_144 : decode code 144 = .ok (.iadd, 1) := by decide +kernel
theorem d_La_law_145 : decode code 145 = .ok (.iaload, 1) := by decide +kernel
theorem d_La_law_146 : decode code 146 = .ok (.aload_n 0, 1) := by decide +kernel
theorem d_La_law_147 : decode code 147 = .ok (.iload 4, 2) := by decide +kernel
theorem d_La_law_149 : decode code 149 = .ok (.iconst 2, 1) := by decide +kernel
theorem d_La_law_150 : decode code 150 = .ok (.iadd, 1) := by decide +kernel
theorem d_La_law_151 : decode code 151 = .ok (.iaload, 1) := by decide +kernel
theorem d_La_law_152 : decode code 152 = .ok (.invokevirtual 67, 3) := by decide +kernel
theorem d_La_law_155 : decode code 155 = .ok (.istore 6, 2) := by decide +kernel
theorem d_La_law_157 : decode code 157 = .ok (.aload_n 2, 1) := by decide +kernel
theorem d_La_law_158 : decode code 158 = .ok (.invokevirtual 68, 3) := by decide +kernel
theorem d_La_law_161 : decode code 161 = .ok (.iload 5, 2) := by decide +kernel
theorem d_La_law_163 : decode code 163 = .ok (.if_icmp .eq 5, 3) := by decide +kernel
theorem d_La_law_166 : decode code 166 = .ok (.iconst 0, 1) := by decide +kernel
theorem d_La_law_167 : decode code 167 = .ok (.ireturn, 1) := by decide +kernel
theorem d_La_law_168 : decode code 168 = .ok (.iload 5, 2) := by decide +kernel
theorem d_La_law_170 : decode code 170 = .ok (.ifCond .ne 15, 3) := by decide +kernel
theorem d_La_law_173 : decode code 173 = .ok (.aload_n 3, 1) := by decide +kernel
theorem d_La_law_174 : decode code 174 = .ok (.iconst 0, 1) := by decide +kernel
theorem d_La_law_175 : decode code 175 = .ok (.laload, 1) := by decide +kernel
theorem d_La_law_176 : decode code 176 = .ok (.iload 6, 2) := by decide +kernel
theorem d_La_law_178 : decode code 178 = .ok (.i2l, 1) := by decide +kernel
theorem d_La_law_179 : decode code 179 = .ok (.lcmp, 1) := by decide +kernel
theorem d_La_law_180 : decode code 180 = .ok (.ifCond .eq 5, 3) := by decide +kernel
theorem d_La_law_183 : decode code 183 = .ok (.iconst 0, 1) := by decide +kernel
theorem d_La_law_184 : decode code 184 = .ok (.ireturn, 1) := by decide +kernel
theorem d_La_law_185 : decode code 185 = .ok (.goto 770, 3) := by decide +kernel
theorem d_La_law_188 : decode code 188 = .ok (.aload_n 1, 1) := by decide +kernel
theorem d_La_law_189 : decode code 189 = .ok (.aload_n 0, 1) := by decide +kernel
theorem d_La_law_190 : decode code 190 = .ok (.iload 4, 2) := by decide +kernel
theorem d_La_law_192 : decode code 192 = .ok (.iconst 1, 1) := by decide +kernel
theorem d_La_law_193 : decode code 193 = .ok (.iadd, 1) := by decide +kernel
theorem d_La_law_194 : decode code 194 = .ok (.iaload, 1) := by decide +kernel
theorem d_La_law_195 : decode code 195 = .ok (.aload_n 0, 1) := by decide +kernel
theorem d_La_law_196 : decode code 196 = .ok (.iload 4, 2) := by decide +kernel
theorem d_La_law_198 : decode code 198 = .ok (.iconst 2, 1) := by decide +kernel
theorem d_La_law_199 : decode code 199 = .ok (.iadd, 1) := by decide +kernel
theorem d_La_law_200 : decode code 200 = .ok (.iaload, 1) := by decide +kernel
theorem d_La_law_201 : decode code 201 = .ok (.aload_n 0, 1) := by decide +kernel
theorem d_La_law_202 : decode code 202 = .ok (.iload 4, 2) := by decide +kernel
theorem d_La_law_204 : decode code 204 = .ok (.iconst 3, 1) := by decide +kernel
theorem d_La_law_205 : decode code 205 = .ok (.iadd, 1) := by decide +kernel
theorem d_La_law_206 : decode code 206 = .ok (.iaload, 1) := by decide +kernel
theorem d_La_law_207 : decode code 207 = .ok (.aload_n 0, 1) := by decide +kernel
theorem d_La_law_208 : decode code 208 = .ok (.iload 4, 2) := by decide +kernel
theorem d_La_law_210 : decode code 210 = .ok (.iconst 4, 1) := by decide +kernel
theorem d_La_law_211 : decode code 211 = .ok (.iadd, 1) := by decide +kernel
theorem d_La_law_212 : decode code 212 = .ok (.iaload, 1) := by decide +kernel
theorem d_La_law_213 : decode code 213 = .ok (.invokestatic 72, 3) := by decide +kernel
theorem d_La_law_216 : decode code 216 = .ok (.istore 5, 2) := by decide +kernel
theorem d_La_law_218 : decode code 218 = .ok (.aload_n 2, 1) := by decide +kernel
theorem d_La_law_219 : decode code 219 = .ok (.aload_n 0, 1) := by decide +kernel
theorem d_La_law_220 : decode code 220 = .ok (.iload 4, 2) := by decide +kernel
theorem d_La_law_222 : decode code 222 = .ok (.iconst 1, 1) := by decide +kernel
theorem d_La_law_223 : decode code 223 = .ok (.iadd, 1) := by decide +kernel
theorem d_La_law_224 : decode code 224 = .ok (.iaload, 1) := by decide +kernel
theorem d_La_law_225 : decode code 225 = .ok (.aload_n 0, 1) := by decide +kernel
theorem d_La_law_226 : decode code 226 = .ok (.iload 4, 2) := by decide +kernel
theorem d_La_law_228 : decode code 228 = .ok (.iconst 2, 1) := by decide +kernel
theorem d_La_law_229 : decode code 229 = .ok (.iadd, 1) := by decide +kernel
theorem d_La_law_230 : decode code 230 = .ok (.iaload, 1) := by decide +kernel
theorem d_La_law_231 : decode code 231 = .ok (.aload_n 0, 1) := by decide +kernel
theorem d_La_law_232 : decode code 232 = .ok (.iload 4, 2) := by decide +kernel
theorem d_La_law_234 : decode code 234 = .ok (.iconst 3, 1) := by decide +kernel
theorem d_La_law_235 : decode code 235 = .ok (.iadd, 1) := by decide +kernel
theorem d_La_law_236 : decode code 236 = .ok (.iaload, 1) := by decide +kernel
theorem d_La_law_237 : decode code 237 = .ok (.aload_n 0, 1) := by decide +kernel
theorem d_La_law_238 : decode code 238 = .ok (.iload 4, 2) := by decide +kernel
theorem d_La_law_240 : decode code 240 = .ok (.iconst 4, 1) := by decide +kernel
theorem d_La_law_241 : decode code 241 = .ok (.iadd, 1) := by decide +kernel
theorem d_La_law_242 : decode code 242 = .ok (.iaload, 1) := by decide +kernel
theorem d_La_law_243 : decode code 243 = .ok (.invokevirtual 75, 3) := by decide +kernel
theorem d_La_law_246 : decode code 246 = .ok (.aload_n 2, 1) := by decide +kernel
theorem d_La_law_247 : decode code 247 = .ok (.invokevirtual 68, 3) := by decide +kernel
theorem d_La_law_250 : decode code 250 = .ok (.iload 5, 2) := by decide +kernel
theorem d_La_law_252 : decode code 252 = .ok (.if_icmp .eq 5, 3) := by decide +kernel
theorem d_La_law_255 : decode code 255 = .ok (.iconst 0, 1) := by decide +kernel
theorem d_La_law_256 : decode code 256 = .ok (.ireturn, 1) := by decide +kernel
theorem d_La_law_257 : decode code 257 = .ok (.goto 698, 3) := by decide +kernel
theorem d_La_law_260 : decode code 260 = .ok (.aload_n 1, 1) := by decide +kernel
theorem d_La_law_261 : decode code 261 = .ok (.aload_n 0, 1) := by decide +kernel
theorem d_La_law_262 : decode code 262 = .ok (.iload 4, 2) := by decide +kernel
theorem d_La_law_264 : decode code 264 = .ok (.iconst 1, 1) := by decide +kernel
theorem d_La_law_265 : decode code 265 = .ok (.iadd, 1) := by decide +kernel
theorem d_La_law_266 : decode code 266 = .ok (.iaload, 1) := by decide +kernel
theorem d_La_law_267 : decode code 267 = .ok (.aload_n 0, 1) := by decide +kernel
theorem d_La_law_268 : decode code 268 = .ok (.iload 4, 2) := by decide +kernel
theorem d_La_law_270 : decode code 270 = .ok (.iconst 2, 1) := by decide +kernel
theorem d_La_law_271 : decode code 271 = .ok (.iadd, 1) := by decide +kernel
theorem d_La_law_272 : decode code 272 = .ok (.iaload, 1) := by decide +kernel
theorem d_La_law_273 : decode code 273 = .ok (.aload_n 0, 1) := by decide +kernel
theorem d_La_law_274 : decode code 274 = .ok (.iload 4, 2) := by decide +kernel
theorem d_La_law_276 : decode code 276 = .ok (.iconst 3, 1) := by decide +kernel
theorem d_La_law_277 : decode code 277 = .ok (.iadd, 1) := by decide +kernel
theorem d_La_law_278 : decode code 278 = .ok (.iaload, 1) := by decide +kernel
theorem d_La_law_279 : decode code 279 = .ok (.aload_n 0, 1) := by decide +kernel
theorem d_La_law_280 : decode code 280 = .ok (.iload 4, 2) := by decide +kernel
theorem d_La_law_282 : decode code 282 = .ok (.iconst 4, 1) := by decide +kernel
theorem d_La_law_283 : decode code 283 = .ok (.iadd, 1) := by decide +kernel
theorem d_La_law_284 : decode code 284 = .ok (.iaload, 1) := by decide +kernel
theorem d_La_law_285 : decode code 285 = .ok (.invokestatic 76, 3) := by decide +kernel
theorem d_La_law_288 : decode code 288 = .ok (.istore 5, 2) := by decide +kernel
theorem d_La_law_290 : decode code 290 = .ok (.aload_n 2, 1) := by decide +kernel
theorem d_La_law_291 : decode code 291 = .ok (.aload_n 0, 1) := by decide +kernel
theorem d_La_law_292 : decode code 292 = .ok (.iload 4, 2) := by decide +kernel
theorem d_La_law_294 : decode code 294 = .ok (.iconst 1, 1) := by decide +kernel
theorem d_La_law_295 : decode code 295 = .ok (.iadd, 1) := by decide +kernel
theorem d_La_law_296 : decode code 296 = .ok (.iaload, 1) := by decide +kernel
theorem d_La_law_297 : decode code 297 = .ok (.aload_n 0, 1) := by decide +kernel
theorem d_La_law_298 : decode code 298 = .ok (.iload 4, 2) := by decide +kernel
theorem d_La_law_300 : decode code 300 = .ok (.iconst 2, 1) := by decide +kernel
theorem d_La_law_301 : decode code 301 = .ok (.iadd, 1) := by decide +kernel
theorem d_La_law_302 : decode code 302 = .ok (.iaload, 1) := by decide +kernel
theorem d_La_law_303 : decode code 303 = .ok (.aload_n 0, 1) := by decide +kernel
theorem d_La_law_304 : decode code 304 = .ok (.iload 4, 2) := by decide +kernel
theorem d_La_law_306 : decode code 306 = .ok (.iconst 3, 1) := by decide +kernel
theorem d_La_law_307 : decode code 307 = .ok (.iadd, 1) := by decide +kernel
theorem d_La_law_308 : decode code 308 = .ok (.iaload, 1) := by decide +kernel
theorem d_La_law_309 : decode code 309 = .ok (.aload_n 0, 1) := by decide +kernel
theorem d_La_law_310 : decode code 310 = .ok (.iload 4, 2) := by decide +kernel
theorem d_La_law_312 : decode code 312 = .ok (.iconst 4, 1) := by decide +kernel
theorem d_La_law_313 : decode code 313 = .ok (.iadd, 1) := by decide +kernel
theorem d_La_law_314 : decode code 314 = .ok (.iaload, 1) := by decide +kernel
theorem d_La_law_315 : decode code 315 = .ok (.invokevirtual 78, 3) := by decide +kernel
theorem d_La_law_318 : decode code 318 = .ok (.aload_n 2, 1) := by decide +kernel
theorem d_La_law_319 : decode code 319 = .ok (.invokevirtual 68, 3) := by decide +kernel
theorem d_La_law_322 : decode code 322 = .ok (.iload 5, 2) := by decide +kernel
theorem d_La_law_324 : decode code 324 = .ok (.if_icmp .eq 5, 3) := by decide +kernel
theorem d_La_law_327 : decode code 327 = .ok (.iconst 0, 1) := by decide +kernel
theorem d_La_law_328 : decode code 328 = .ok (.ireturn, 1) := by decide +kernel
theorem d_La_law_329 : decode code 329 = .ok (.goto 626, 3) := by decide +kernel
theorem d_La_law_332 : decode code 332 = .ok (.aload_n 1, 1) := by decide +kernel
theorem d_La_law_333 : decode code 333 = .ok (.invokevirtual 79, 3) := by decide +kernel
theorem d_La_law_336 : decode code 336 = .ok (.aload_n 2, 1) := by decide +kernel
theorem d_La_law_337 : decode code 337 = .ok (.invokevirtual 82, 3) := by decide +kernel
theorem d_La_law_340 : decode code 340 = .ok (.if_icmp .eq 615, 3) := by decide +kernel
theorem d_La_law_343 : decode code 343 = .ok (.iconst 0, 1) := by decide +kernel
theorem d_La_law_344 : decode code 344 = .ok (.ireturn, 1) := by decide +kernel
theorem d_La_law_345 : decode code 345 = .ok (.aload_n 1, 1) := by decide +kernel
theorem d_La_law_346 : decode code 346 = .ok (.aload_n 3, 1) := by decide +kernel
theorem d_La_law_347 : decode code 347 = .ok (.invokestatic 83, 3) := by decide +kernel
theorem d_La_law_350 : decode code 350 = .ok (.istore 5, 2) := by decide +kernel
theorem d_La_law_352 : decode code 352 = .ok (.aload_n 2, 1) := by decide +kernel
theorem d_La_law_353 : decode code 353 = .ok (.invokevirtual 86, 3) := by decide +kernel
theorem d_La_law_356 : decode code 356 = .ok (.istore 6, 2) := by decide +kernel
theorem d_La_law_358 : decode code 358 = .ok (.aload_n 2, 1) := by decide +kernel
theorem d_La_law_359 : decode code 359 = .ok (.invokevirtual 68, 3) := by decide +kernel
theorem d_La_law_362 : decode code 362 = .ok (.iload 5, 2) := by decide +kernel
theorem d_La_law_364 : decode code 364 = .ok (.if_icmp .eq 5, 3) := by decide +kernel
theorem d_La_law_367 : decode code 367 = .ok (.iconst 0, 1) := by decide +kernel
theorem d_La_law_368 : decode code 368 = .ok (.ireturn, 1) := by decide +kernel
theorem d_La_law_369 : decode code 369 = .ok (.iload 5, 2) := by decide +kernel
theorem d_La_law_371 : decode code 371 = .ok (.ifCond .ne 22, 3) := by decide +kernel
theorem d_La_law_374 : decode code 374 = .ok (.aload_n 3, 1) := by decide +kernel
theorem d_La_law_375 : decode code 375 = .ok (.iconst 0, 1) := by decide +kernel
theorem d_La_law_376 : decode code 376 = .ok (.laload, 1) := by decide +kernel
theorem d_La_law_377 : decode code 377 = .ok (.iload 6, 2) := by decide +kernel
theorem d_La_law_379 : decode code 379 = .ok (.ifCond .eq 7, 3) := by decide +kernel
theorem d_La_law_382 : decode code 382 = .ok (.lconst 1, 1) := by decide +kernel
theorem d_La_law_383 : decode code 383 = .ok (.goto 4, 3) := by decide +kernel
theorem d_La_law_386 : decode code 386 = .ok (.lconst 0, 1) := by decide +kernel
theorem d_La_law_387 : decode code 387 = .ok (.lcmp, 1) := by decide +kernel
theorem d_La_law_388 : decode code 388 = .ok (.ifCond .eq 5, 3) := by decide +kernel
theorem d_La_law_391 : decode code 391 = .ok (.iconst 0, 1) := by decide +kernel
theorem d_La_law_392 : decode code 392 = .ok (.ireturn, 1) := by decide +kernel
theorem d_La_law_393 : decode code 393 = .ok (.goto 562, 3) := by decide +kernel
theorem d_La_law_396 : decode code 396 = .ok (.aload_n 1, 1) := by decide +kernel
theorem d_La_law_397 : decode code 397 = .ok (.invokevirtual 87, 3) := by decide +kernel
theorem d_La_law_400 : decode code 400 = .ok (.aload_n 2, 1) := by decide +kernel
theorem d_La_law_401 : decode code 401 = .ok (.invokevirtual 90, 3) := by decide +kernel
theorem d_La_law_404 : decode code 404 = .ok (.if_icmp .eq 551, 3) := by decide +kernel
theorem d_La_law_407 : decode code 407 = .ok (.iconst 0, 1) := by decide +kernel
theorem d_La_law_408 : decode code 408 = .ok (.ireturn, 1) := by decide +kernel
theorem d_La_law_409 : decode code 409 = .ok (.aload_n 1, 1) := by decide +kernel
theorem d_La_law_410 : decode code 410 = .ok (.aload_n 0, 1) := by decide +kernel
theorem d_La_law_411 : decode code 411 = .ok (.iload 4, 2) := by decide +kernel
theorem d_La_law_413 : decode code 413 = .ok (.iconst 1, 1) := by decide +kernel
theorem d_La_law_414 : decode code 414 = .ok (.iadd, 1) := by decide +kernel
theorem d_La_law_415 : decode code 415 = .ok (.iaload, 1) := by decide +kernel
theorem d_La_law_416 : decode code 416 = .ok (.ifCond .eq 7, 3) := by decide +kernel
theorem d_La_law_419 : decode code 419 = .ok (.iconst 1, 1) := by decide +kernel
theorem d_La_law_420 : decode code 420 = .ok (.goto 4, 3) := by decide +kernel
theorem d_La_law_423 : decode code 423 = .ok (.iconst 0, 1) := by decide +kernel
theorem d_La_law_424 : decode code 424 = .ok (.invokevirtual 91, 3) := by decide +kernel
theorem d_La_law_427 : decode code 427 = .ok (.aload_n 2, 1) := by decide +kernel
theorem d_La_law_428 : decode code 428 = .ok (.aload_n 0, 1) := by decide +kernel
theorem d_La_law_429 : decode code 429 = .ok (.iload 4, 2) := by decide +kernel
theorem d_La_law_431 : decode code 431 = .ok (.iconst 1, 1) := by decide +kernel
theorem d_La_law_432 : decode code 432 = .ok (.iadd, 1) := by decide +kernel
theorem d_La_law_433 : decode code 433 = .ok (.iaload, 1) := by decide +kernel
theorem d_La_law_434 : decode code 434 = .ok (.ifCond .eq 7, 3) := by decide +kernel
theorem d_La_law_437 : decode code 437 = .ok (.iconst 1, 1) := by decide +kernel
theorem d_La_law_438 : decode code 438 = .ok (.goto 4, 3) := by decide +kernel
theorem d_La_law_441 : decode code 441 = .ok (.iconst 0, 1) := by decide +kernel
theorem d_La_law_442 : decode code 442 = .ok (.invokevirtual 95, 3) := by decide +kernel
theorem d_La_law_445 : decode code 445 = .ok (.goto 510, 3) := by decide +kernel
theorem d_La_law_448 : decode code 448 = .ok (.aload_n 1, 1) := by decide +kernel
theorem d_La_law_449 : decode code 449 = .ok (.invokevirtual 96, 3) := by decide +kernel
theorem d_La_law_452 : decode code 452 = .ok (.aload_n 2, 1) := by decide +kernel
theorem d_La_law_453 : decode code 453 = .ok (.invokevirtual 99, 3) := by decide +kernel
theorem d_La_law_456 : decode code 456 = .ok (.if_icmp .eq 499, 3) := by decide +kernel
theorem d_La_law_459 : decode code 459 = .ok (.iconst 0, 1) := by decide +kernel
theorem d_La_law_460 : decode code 460 = .ok (.ireturn, 1) := by decide +kernel
theorem d_La_law_461 : decode code 461 = .ok (.aload_n 1, 1) := by decide +kernel
theorem d_La_law_462 : decode code 462 = .ok (.aload_n 0, 1) := by decide +kernel
theorem d_La_law_463 : decode code 463 = .ok (.iload 4, 2) := by decide +kernel
theorem d_La_law_465 : decode code 465 = .ok (.iconst 1, 1) := by decide +kernel
theorem d_La_law_466 : decode code 466 = .ok (.iadd, 1) := by decide +kernel
theorem d_La_law_467 : decode code 467 = .ok (.iaload, 1) := by decide +kernel
theorem d_La_law_468 : decode code 468 = .ok (.aload_n 0, 1) := by decide +kernel
theorem d_La_law_469 : decode code 469 = .ok (.iload 4, 2) := by decide +kernel
theorem d_La_law_471 : decode code 471 = .ok (.iconst 2, 1) := by decide +kernel
theorem d_La_law_472 : decode code 472 = .ok (.iadd, 1) := by decide +kernel
theorem d_La_law_473 : decode code 473 = .ok (.iaload, 1) := by decide +kernel
theorem d_La_law_474 : decode code 474 = .ok (.invokestatic 100, 3) := by decide +kernel
theorem d_La_law_477 : decode code 477 = .ok (.istore 5, 2) := by decide +kernel
theorem d_La_law_479 : decode code 479 = .ok (.aload_n 2, 1) := by decide +kernel
theorem d_La_law_480 : decode code 480 = .ok (.aload_n 0, 1) := by decide +kernel
theorem d_La_law_481 : decode code 481 = .ok (.iload 4, 2) := by decide +kernel
theorem d_La_law_483 : decode code 483 = .ok (.iconst 1, 1) := by decide +kernel
theorem d_La_law_484 : decode code 484 = .ok (.iadd, 1) := by decide +kernel
theorem d_La_law_485 : decode code 485 = .ok (.iaload, 1) := by decide +kernel
theorem d_La_law_486 : decode code 486 = .ok (.aload_n 0, 1) := by decide +kernel
theorem d_La_law_487 : decode code 487 = .ok (.iload 4, 2) := by decide +kernel
theorem d_La_law_489 : decode code 489 = .ok (.iconst 2, 1) := by decide +kernel
theorem d_La_law_490 : decode code 490 = .ok (.iadd, 1) := by decide +kernel
theorem d_La_law_491 : decode code 491 = .ok (.iaload, 1) := by decide +kernel
theorem d_La_law_492 : decode code 492 = .ok (.invokevirtual 103, 3) := by decide +kernel
theorem d_La_law_495 : decode code 495 = .ok (.aload_n 2, 1) := by decide +kernel
theorem d_La_law_496 : decode code 496 = .ok (.invokevirtual 68, 3) := by decide +kernel
theorem d_La_law_499 : decode code 499 = .ok (.iload 5, 2) := by decide +kernel
theorem d_La_law_501 : decode code 501 = .ok (.if_icmp .eq 5, 3) := by decide +kernel
theorem d_La_law_504 : decode code 504 = .ok (.iconst 0, 1) := by decide +kernel
theorem d_La_law_505 : decode code 505 = .ok (.ireturn, 1) := by decide +kernel
theorem d_La_law_506 : decode code 506 = .ok (.goto 449, 3) := by decide +kernel
theorem d_La_law_509 : decode code 509 = .ok (.aload_n 1, 1) := by decide +kernel
theorem d_La_law_510 : decode code 510 = .ok (.aload_n 0, 1) := by decide +kernel
theorem d_La_law_511 : decode code 511 = .ok (.iload 4, 2) := by decide +kernel
theorem d_La_law_513 : decode code 513 = .ok (.iconst 1, 1) := by decide +kernel
theorem d_La_law_514 : decode code 514 = .ok (.iadd, 1) := by decide +kernel
theorem d_La_law_515 : decode code 515 = .ok (.iaload, 1) := by decide +kernel
theorem d_La_law_516 : decode code 516 = .ok (.aload_n 0, 1) := by decide +kernel
theorem d_La_law_517 : decode code 517 = .ok (.iload 4, 2) := by decide +kernel
theorem d_La_law_519 : decode code 519 = .ok (.iconst 2, 1) := by decide +kernel
theorem d_La_law_520 : decode code 520 = .ok (.iadd, 1) := by decide +kernel
theorem d_La_law_521 : decode code 521 = .ok (.iaload, 1) := by decide +kernel
theorem d_La_law_522 : decode code 522 = .ok (.aload_n 0, 1) := by decide +kernel
theorem d_La_law_523 : decode code 523 = .ok (.iload 4, 2) := by decide +kernel
theorem d_La_law_525 : decode code 525 = .ok (.iconst 3, 1) := by decide +kernel
theorem d_La_law_526 : decode code 526 = .ok (.iadd, 1) := by decide +kernel
theorem d_La_law_527 : decode code 527 = .ok (.iaload, 1) := by decide +kernel
theorem d_La_law_528 : decode code 528 = .ok (.aload_n 3, 1) := by decide +kernel
theorem d_La_law_529 : decode code 529 = .ok (.invokestatic 104, 3) := by decide +kernel
theorem d_La_law_532 : decode code 532 = .ok (.istore 5, 2) := by decide +kernel
theorem d_La_law_534 : decode code 534 = .ok (.aload_n 2, 1) := by decide +kernel
theorem d_La_law_535 : decode code 535 = .ok (.aload_n 0, 1) := by decide +kernel
theorem d_La_law_536 : decode code 536 = .ok (.iload 4, 2) := by decide +kernel
theorem d_La_law_538 : decode code 538 = .ok (.iconst 1, 1) := by decide +kernel
theorem d_La_law_539 : decode code 539 = .ok (.iadd, 1) := by decide +kernel
theorem d_La_law_540 : decode code 540 = .ok (.iaload, 1) := by decide +kernel
theorem d_La_law_541 : decode code 541 = .ok (.aload_n 0, 1) := by decide +kernel
theorem d_La_law_542 : decode code 542 = .ok (.iload 4, 2) := by decide +kernel
theorem d_La_law_544 : decode code 544 = .ok (.iconst 2, 1) := by decide +kernel
theorem d_La_law_545 : decode code 545 = .ok (.iadd, 1) := by decide +kernel
theorem d_La_law_546 : decode code 546 = .ok (.iaload, 1) := by decide +kernel
theorem d_La_law_547 : decode code 547 = .ok (.aload_n 0, 1) := by decide +kernel
theorem d_La_law_548 : decode code 548 = .ok (.iload 4, 2) := by decide +kernel
theorem d_La_law_550 : decode code 550 = .ok (.iconst 3, 1) := by decide +kernel
theorem d_La_law_551 : decode code 551 = .ok (.iadd, 1) := by decide +kernel
theorem d_La_law_552 : decode code 552 = .ok (.iaload, 1) := by decide +kernel
theorem d_La_law_553 : decode code 553 = .ok (.invokevirtual 107, 3) := by decide +kernel
theorem d_La_law_556 : decode code 556 = .ok (.istore 6, 2) := by decide +kernel
theorem d_La_law_558 : decode code 558 = .ok (.aload_n 2, 1) := by decide +kernel
theorem d_La_law_559 : decode code 559 = .ok (.invokevirtual 68, 3) := by decide +kernel
theorem d_La_law_562 : decode code 562 = .ok (.iload 5, 2) := by decide +kernel
theorem d_La_law_564 : decode code 564 = .ok (.if_icmp .eq 5, 3) := by decide +kernel
theorem d_La_law_567 : decode code 567 = .ok (.iconst 0, 1) := by decide +kernel
theorem d_La_law_568 : decode code 568 = .ok (.ireturn, 1) := by decide +kernel
theorem d_La_law_569 : decode code 569 = .ok (.iload 5, 2) := by decide +kernel
theorem d_La_law_571 : decode code 571 = .ok (.ifCond .ne 15, 3) := by decide +kernel
theorem d_La_law_574 : decode code 574 = .ok (.aload_n 3, 1) := by decide +kernel
theorem d_La_law_575 : decode code 575 = .ok (.iconst 0, 1) := by decide +kernel
theorem d_La_law_576 : decode code 576 = .ok (.laload, 1) := by decide +kernel
theorem d_La_law_577 : decode code 577 = .ok (.iload 6, 2) := by decide +kernel
theorem d_La_law_579 : decode code 579 = .ok (.i2l, 1) := by decide +kernel
theorem d_La_law_580 : decode code 580 = .ok (.lcmp, 1) := by decide +kernel
theorem d_La_law_581 : decode code 581 = .ok (.ifCond .eq 5, 3) := by decide +kernel
theorem d_La_law_584 : decode code 584 = .ok (.iconst 0, 1) := by decide +kernel
theorem d_La_law_585 : decode code 585 = .ok (.ireturn, 1) := by decide +kernel
theorem d_La_law_586 : decode code 586 = .ok (.goto 369, 3) := by decide +kernel
theorem d_La_law_589 : decode code 589 = .ok (.aload_n 1, 1) := by decide +kernel
theorem d_La_law_590 : decode code 590 = .ok (.aload_n 0, 1) := by decide +kernel
theorem d_La_law_591 : decode code 591 = .ok (.iload 4, 2) := by decide +kernel
theorem d_La_law_593 : decode code 593 = .ok (.iconst 1, 1) := by decide +kernel
theorem d_La_law_594 : decode code 594 = .ok (.iadd, 1) := by decide +kernel
theorem d_La_law_595 : decode code 595 = .ok (.iaload, 1) := by decide +kernel
theorem d_La_law_596 : decode code 596 = .ok (.aload_n 0, 1) := by decide +kernel
theorem d_La_law_597 : decode code 597 = .ok (.iload 4, 2) := by decide +kernel
theorem d_La_law_599 : decode code 599 = .ok (.iconst 2, 1) := by decide +kernel
theorem d_La_law_600 : decode code 600 = .ok (.iadd, 1) := by decide +kernel
theorem d_La_law_601 : decode code 601 = .ok (.iaload, 1) := by decide +kernel
theorem d_La_law_602 : decode code 602 = .ok (.aload_n 0, 1) := by decide +kernel
theorem d_La_law_603 : decode code 603 = .ok (.iload 4, 2) := by decide +kernel
theorem d_La_law_605 : decode code 605 = .ok (.iconst 3, 1) := by decide +kernel
theorem d_La_law_606 : decode code 606 = .ok (.iadd, 1) := by decide +kernel
theorem d_La_law_607 : decode code 607 = .ok (.iaload, 1) := by decide +kernel
theorem d_La_law_608 : decode code 608 = .ok (.invokestatic 108, 3) := by decide +kernel
theorem d_La_law_611 : decode code 611 = .ok (.istore 5, 2) := by decide +kernel
theorem d_La_law_613 : decode code 613 = .ok (.aload_n 2, 1) := by decide +kernel
theorem d_La_law_614 : decode code 614 = .ok (.aload_n 0, 1) := by decide +kernel
theorem d_La_law_615 : decode code 615 = .ok (.iload 4, 2) := by decide +kernel
theorem d_La_law_617 : decode code 617 = .ok (.iconst 1, 1) := by decide +kernel
theorem d_La_law_618 : decode code 618 = .ok (.iadd, 1) := by decide +kernel
theorem d_La_law_619 : decode code 619 = .ok (.iaload, 1) := by decide +kernel
theorem d_La_law_620 : decode code 620 = .ok (.aload_n 0, 1) := by decide +kernel
theorem d_La_law_621 : decode code 621 = .ok (.iload 4, 2) := by decide +kernel
theorem d_La_law_623 : decode code 623 = .ok (.iconst 2, 1) := by decide +kernel
theorem d_La_law_624 : decode code 624 = .ok (.iadd, 1) := by decide +kernel
theorem d_La_law_625 : decode code 625 = .ok (.iaload, 1) := by decide +kernel
theorem d_La_law_626 : decode code 626 = .ok (.aload_n 0, 1) := by decide +kernel
theorem d_La_law_627 : decode code 627 = .ok (.iload 4, 2) := by decide +kernel
theorem d_La_law_629 : decode code 629 = .ok (.iconst 3, 1) := by decide +kernel
theorem d_La_law_630 : decode code 630 = .ok (.iadd, 1) := by decide +kernel
theorem d_La_law_631 : decode code 631 = .ok (.iaload, 1) := by decide +kernel
theorem d_La_law_632 : decode code 632 = .ok (.invokevirtual 111, 3) := by decide +kernel
theorem d_La_law_635 : decode code 635 = .ok (.aload_n 2, 1) := by decide +kernel
theorem d_La_law_636 : decode code 636 = .ok (.invokevirtual 68, 3) := by decide +kernel
theorem d_La_law_639 : decode code 639 = .ok (.iload 5, 2) := by decide +kernel
theorem d_La_law_641 : decode code 641 = .ok (.if_icmp .eq 5, 3) := by decide +kernel
theorem d_La_law_644 : decode code 644 = .ok (.iconst 0, 1) := by decide +kernel
theorem d_La_law_645 : decode code 645 = .ok (.ireturn, 1) := by decide +kernel
theorem d_La_law_646 : decode code 646 = .ok (.goto 309, 3) := by decide +kernel
theorem d_La_law_649 : decode code 649 = .ok (.aload_n 1, 1) := by decide +kernel
theorem d_La_law_650 : decode code 650 = .ok (.aload_n 0, 1) := by decide +kernel
theorem d_La_law_651 : decode code 651 = .ok (.iload 4, 2) := by decide +kernel
theorem d_La_law_653 : decode code 653 = .ok (.iconst 1, 1) := by decide +kernel
theorem d_La_law_654 : decode code 654 = .ok (.iadd, 1) := by decide +kernel
theorem d_La_law_655 : decode code 655 = .ok (.iaload, 1) := by decide +kernel
theorem d_La_law_656 : decode code 656 = .ok (.aload_n 3, 1) := by decide +kernel
theorem d_La_law_657 : decode code 657 = .ok (.invokestatic 112, 3) := by decide +kernel
theorem d_La_law_660 : decode code 660 = .ok (.istore 5, 2) := by decide +kernel
theorem d_La_law_662 : decode code 662 = .ok (.aload_n 2, 1) := by decide +kernel
theorem d_La_law_663 : decode code 663 = .ok (.aload_n 0, 1) := by decide +kernel
theorem d_La_law_664 : decode code 664 = .ok (.iload 4, 2) := by decide +kernel
theorem d_La_law_666 : decode code 666 = .ok (.iconst 1, 1) := by decide +kernel
theorem d_La_law_667 : decode code 667 = .ok (.iadd, 1) := by decide +kernel
theorem d_La_law_668 : decode code 668 = .ok (.iaload, 1) := by decide +kernel
theorem d_La_law_669 : decode code 669 = .ok (.invokevirtual 115, 3) := by decide +kernel
theorem d_La_law_672 : decode code 672 = .ok (.istore 6, 2) := by decide +kernel
theorem d_La_law_674 : decode code 674 = .ok (.aload_n 2, 1) := by decide +kernel
theorem d_La_law_675 : decode code 675 = .ok (.invokevirtual 68, 3) := by decide +kernel
theorem d_La_law_678 : decode code 678 = .ok (.iload 5, 2) := by decide +kernel
theorem d_La_law_680 : decode code 680 = .ok (.if_icmp .eq 5, 3) := by decide +kernel
theorem d_La_law_683 : decode code 683 = .ok (.iconst 0, 1) := by decide +kernel
theorem d_La_law_684 : decode code 684 = .ok (.ireturn, 1) := by decide +kernel
theorem d_La_law_685 : decode code 685 = .ok (.iload 5, 2) := by decide +kernel
theorem d_La_law_687 : decode code 687 = .ok (.ifCond .ne 15, 3) := by decide +kernel
theorem d_La_law_690 : decode code 690 = .ok (.aload_n 3, 1) := by decide +kernel
theorem d_La_law_691 : decode code 691 = .ok (.iconst 0, 1) := by decide +kernel
theorem d_La_law_692 : decode code 692 = .ok (.laload, 1) := by decide +kernel
theorem d_La_law_693 : decode code 693 = .ok (.iload 6, 2) := by decide +kernel
theorem d_La_law_695 : decode code 695 = .ok (.i2l, 1) := by decide +kernel
theorem d_La_law_696 : decode code 696 = .ok (.lcmp, 1) := by decide +kernel
theorem d_La_law_697 : decode code 697 = .ok (.ifCond .eq 5, 3) := by decide +kernel
theorem d_La_law_700 : decode code 700 = .ok (.iconst 0, 1) := by decide +kernel
theorem d_La_law_701 : decode code 701 = .ok (.ireturn, 1) := by decide +kernel
theorem d_La_law_702 : decode code 702 = .ok (.goto 253, 3) := by decide +kernel
theorem d_La_law_705 : decode code 705 = .ok (.aload_n 1, 1) := by decide +kernel
theorem d_La_law_706 : decode code 706 = .ok (.aload_n 0, 1) := by decide +kernel
theorem d_La_law_707 : decode code 707 = .ok (.iload 4, 2) := by decide +kernel
theorem d_La_law_709 : decode code 709 = .ok (.iconst 1, 1) := by decide +kernel
theorem d_La_law_710 : decode code 710 = .ok (.iadd, 1) := by decide +kernel
theorem d_La_law_711 : decode code 711 = .ok (.iaload, 1) := by decide +kernel
theorem d_La_law_712 : decode code 712 = .ok (.aload_n 3, 1) := by decide +kernel
theorem d_La_law_713 : decode code 713 = .ok (.invokestatic 116, 3) := by decide +kernel
theorem d_La_law_716 : decode code 716 = .ok (.istore 5, 2) := by decide +kernel
theorem d_La_law_718 : decode code 718 = .ok (.aload_n 2, 1) := by decide +kernel
theorem d_La_law_719 : decode code 719 = .ok (.aload_n 0, 1) := by decide +kernel
theorem d_La_law_720 : decode code 720 = .ok (.iload 4, 2) := by decide +kernel
theorem d_La_law_722 : decode code 722 = .ok (.iconst 1, 1) := by decide +kernel
theorem d_La_law_723 : decode code 723 = .ok (.iadd, 1) := by decide +kernel
theorem d_La_law_724 : decode code 724 = .ok (.iaload, 1) := by decide +kernel
theorem d_La_law_725 : decode code 725 = .ok (.invokevirtual 118, 3) := by decide +kernel
theorem d_La_law_728 : decode code 728 = .ok (.istore 6, 2) := by decide +kernel
theorem d_La_law_730 : decode code 730 = .ok (.aload_n 2, 1) := by decide +kernel
theorem d_La_law_731 : decode code 731 = .ok (.invokevirtual 68, 3) := by decide +kernel
theorem d_La_law_734 : decode code 734 = .ok (.iload 5, 2) := by decide +kernel
theorem d_La_law_736 : decode code 736 = .ok (.if_icmp .eq 5, 3) := by decide +kernel
theorem d_La_law_739 : decode code 739 = .ok (.iconst 0, 1) := by decide +kernel
theorem d_La_law_740 : decode code 740 = .ok (.ireturn, 1) := by decide +kernel
theorem d_La_law_741 : decode code 741 = .ok (.iload 5, 2) := by decide +kernel
theorem d_La_law_743 : decode code 743 = .ok (.ifCond .ne 15, 3) := by decide +kernel
theorem d_La_law_746 : decode code 746 = .ok (.aload_n 3, 1) := by decide +kernel
theorem d_La_law_747 : decode code 747 = .ok (.iconst 0, 1) := by decide +kernel
theorem d_La_law_748 : decode code 748 = .ok (.laload, 1) := by decide +kernel
theorem d_La_law_749 : decode code 749 = .ok (.iload 6, 2) := by decide +kernel
theorem d_La_law_751 : decode code 751 = .ok (.i2l, 1) := by decide +kernel
theorem d_La_law_752 : decode code 752 = .ok (.lcmp, 1) := by decide +kernel
theorem d_La_law_753 : decode code 753 = .ok (.ifCond .eq 5, 3) := by decide +kernel
theorem d_La_law_756 : decode code 756 = .ok (.iconst 0, 1) := by decide +kernel
theorem d_La_law_757 : decode code 757 = .ok (.ireturn, 1) := by decide +kernel
theorem d_La_law_758 : decode code 758 = .ok (.goto 197, 3) := by decide +kernel
theorem d_La_law_761 : decode code 761 = .ok (.aload_n 1, 1) := by decide +kernel
theorem d_La_law_762 : decode code 762 = .ok (.aload_n 0, 1) := by decide +kernel
theorem d_La_law_763 : decode code 763 = .ok (.iload 4, 2) := by decide +kernel
theorem d_La_law_765 : decode code 765 = .ok (.iconst 1, 1) := by decide +kernel
theorem d_La_law_766 : decode code 766 = .ok (.iadd, 1) := by decide +kernel
theorem d_La_law_767 : decode code 767 = .ok (.iaload, 1) := by decide +kernel
theorem d_La_law_768 : decode code 768 = .ok (.aload_n 3, 1) := by decide +kernel
theorem d_La_law_769 : decode code 769 = .ok (.invokestatic 119, 3) := by decide +kernel
theorem d_La_law_772 : decode code 772 = .ok (.istore 5, 2) := by decide +kernel
theorem d_La_law_774 : decode code 774 = .ok (.aload_n 2, 1) := by decide +kernel
theorem d_La_law_775 : decode code 775 = .ok (.aload_n 0, 1) := by decide +kernel
theorem d_La_law_776 : decode code 776 = .ok (.iload 4, 2) := by decide +kernel
theorem d_La_law_778 : decode code 778 = .ok (.iconst 1, 1) := by decide +kernel
theorem d_La_law_779 : decode code 779 = .ok (.iadd, 1) := by decide +kernel
theorem d_La_law_780 : decode code 780 = .ok (.iaload, 1) := by decide +kernel
theorem d_La_law_781 : decode code 781 = .ok (.invokevirtual 121, 3) := by decide +kernel
theorem d_La_law_784 : decode code 784 = .ok (.istore 6, 2) := by decide +kernel
theorem d_La_law_786 : decode code 786 = .ok (.aload_n 2, 1) := by decide +kernel
theorem d_La_law_787 : decode code 787 = .ok (.invokevirtual 68, 3) := by decide +kernel
theorem d_La_law_790 : decode code 790 = .ok (.iload 5, 2) := by decide +kernel
theorem d_La_law_792 : decode code 792 = .ok (.if_icmp .eq 5, 3) := by decide +kernel
theorem d_La_law_795 : decode code 795 = .ok (.iconst 0, 1) := by decide +kernel
theorem d_La_law_796 : decode code 796 = .ok (.ireturn, 1) := by decide +kernel
theorem d_La_law_797 : decode code 797 = .ok (.iload 5, 2) := by decide +kernel
theorem d_La_law_799 : decode code 799 = .ok (.ifCond .ne 15, 3) := by decide +kernel
theorem d_La_law_802 : decode code 802 = .ok (.aload_n 3, 1) := by decide +kernel
theorem d_La_law_803 : decode code 803 = .ok (.iconst 0, 1) := by decide +kernel
theorem d_La_law_804 : decode code 804 = .ok (.laload, 1) := by decide +kernel
theorem d_La_law_805 : decode code 805 = .ok (.iload 6, 2) := by decide +kernel
theorem d_La_law_807 : decode code 807 = .ok (.i2l, 1) := by decide +kernel
theorem d_La_law_808 : decode code 808 = .ok (.lcmp, 1) := by decide +kernel
theorem d_La_law_809 : decode code 809 = .ok (.ifCond .eq 5, 3) := by decide +kernel
theorem d_La_law_812 : decode code 812 = .ok (.iconst 0, 1) := by decide +kernel
theorem d_La_law_813 : decode code 813 = .ok (.ireturn, 1) := by decide +kernel
theorem d_La_law_814 : decode code 814 = .ok (.goto 141, 3) := by decide +kernel
theorem d_La_law_817 : decode code 817 = .ok (.aload_n 1, 1) := by decide +kernel
theorem d_La_law_818 : decode code 818 = .ok (.aload_n 0, 1) := by decide +kernel
theorem d_La_law_819 : decode code 819 = .ok (.iload 4, 2) := by decide +kernel
theorem d_La_law_821 : decode code 821 = .ok (.iconst 1, 1) := by decide +kernel
theorem d_La_law_822 : decode code 822 = .ok (.iadd, 1) := by decide +kernel
theorem d_La_law_823 : decode code 823 = .ok (.iaload, 1) := by decide +kernel
theorem d_La_law_824 : decode code 824 = .ok (.aload_n 3, 1) := by decide +kernel
theorem d_La_law_825 : decode code 825 = .ok (.invokestatic 122, 3) := by decide +kernel
theorem d_La_law_828 : decode code 828 = .ok (.istore 5, 2) := by decide +kernel
theorem d_La_law_830 : decode code 830 = .ok (.aload_n 2, 1) := by decide +kernel
theorem d_La_law_831 : decode code 831 = .ok (.aload_n 0, 1) := by decide +kernel
theorem d_La_law_832 : decode code 832 = .ok (.iload 4, 2) := by decide +kernel
theorem d_La_law_834 : decode code 834 = .ok (.iconst 1, 1) := by decide +kernel
theorem d_La_law_835 : decode code 835 = .ok (.iadd, 1) := by decide +kernel
theorem d_La_law_836 : decode code 836 = .ok (.iaload, 1) := by decide +kernel
theorem d_La_law_837 : decode code 837 = .ok (.invokevirtual 124, 3) := by decide +kernel
theorem d_La_law_840 : decode code 840 = .ok (.istore 6, 2) := by decide +kernel
theorem d_La_law_842 : decode code 842 = .ok (.aload_n 2, 1) := by decide +kernel
theorem d_La_law_843 : decode code 843 = .ok (.invokevirtual 68, 3) := by decide +kernel
theorem d_La_law_846 : decode code 846 = .ok (.iload 5, 2) := by decide +kernel
theorem d_La_law_848 : decode code 848 = .ok (.if_icmp .eq 5, 3) := by decide +kernel
theorem d_La_law_851 : decode code 851 = .ok (.iconst 0, 1) := by decide +kernel
theorem d_La_law_852 : decode code 852 = .ok (.ireturn, 1) := by decide +kernel
theorem d_La_law_853 : decode code 853 = .ok (.iload 5, 2) := by decide +kernel
theorem d_La_law_855 : decode code 855 = .ok (.ifCond .ne 15, 3) := by decide +kernel
theorem d_La_law_858 : decode code 858 = .ok (.aload_n 3, 1) := by decide +kernel
theorem d_La_law_859 : decode code 859 = .ok (.iconst 0, 1) := by decide +kernel
theorem d_La_law_860 : decode code 860 = .ok (.laload, 1) := by decide +kernel
theorem d_La_law_861 : decode code 861 = .ok (.iload 6, 2) := by decide +kernel
theorem d_La_law_863 : decode code 863 = .ok (.i2l, 1) := by decide +kernel
theorem d_La_law_864 : decode code 864 = .ok (.lcmp, 1) := by decide +kernel
theorem d_La_law_865 : decode code 865 = .ok (.ifCond .eq 5, 3) := by decide +kernel
theorem d_La_law_868 : decode code 868 = .ok (.iconst 0, 1) := by decide +kernel
theorem d_La_law_869 : decode code 869 = .ok (.ireturn, 1) := by decide +kernel
theorem d_La_law_870 : decode code 870 = .ok (.goto 85, 3) := by decide +kernel
theorem d_La_law_873 : decode code 873 = .ok (.aload_n 1, 1) := by decide +kernel
theorem d_La_law_874 : decode code 874 = .ok (.invokevirtual 125, 3) := by decide +kernel
theorem d_La_law_877 : decode code 877 = .ok (.aload_n 2, 1) := by decide +kernel
theorem d_La_law_878 : decode code 878 = .ok (.invokevirtual 129, 3) := by decide +kernel
theorem d_La_law_881 : decode code 881 = .ok (.lcmp, 1) := by decide +kernel
theorem d_La_law_882 : decode code 882 = .ok (.ifCond .eq 73, 3) := by decide +kernel
theorem d_La_law_885 : decode code 885 = .ok (.iconst 0, 1) := by decide +kernel
theorem d_La_law_886 : decode code 886 = .ok (.ireturn, 1) := by decide +kernel
theorem d_La_law_887 : decode code 887 = .ok (.aload_n 1, 1) := by decide +kernel
theorem d_La_law_888 : decode code 888 = .ok (.aload_n 0, 1) := by decide +kernel
theorem d_La_law_889 : decode code 889 = .ok (.iload 4, 2) := by decide +kernel
theorem d_La_law_891 : decode code 891 = .ok (.iconst 1, 1) := by decide +kernel
theorem d_La_law_892 : decode code 892 = .ok (.iadd, 1) := by decide +kernel
theorem d_La_law_893 : decode code 893 = .ok (.iaload, 1) := by decide +kernel
theorem d_La_law_894 : decode code 894 = .ok (.aload_n 0, 1) := by decide +kernel
theorem d_La_law_895 : decode code 895 = .ok (.iload 4, 2) := by decide +kernel
theorem d_La_law_897 : decode code 897 = .ok (.iconst 2, 1) := by decide +kernel
theorem d_La_law_898 : decode code 898 = .ok (.iadd, 1) := by decide +kernel
theorem d_La_law_899 : decode code 899 = .ok (.iaload, 1) := by decide +kernel
theorem d_La_law_900 : decode code 900 = .ok (.aload_n 3, 1) := by decide +kernel
theorem d_La_law_901 : decode code 901 = .ok (.invokestatic 130, 3) := by decide +kernel
theorem d_La_law_904 : decode code 904 = .ok (.istore 5, 2) := by decide +kernel
theorem d_La_law_906 : decode code 906 = .ok (.aload_n 2, 1) := by decide +kernel
theorem d_La_law_907 : decode code 907 = .ok (.aload_n 0, 1) := by decide +kernel
theorem d_La_law_908 : decode code 908 = .ok (.iload 4, 2) := by decide +kernel
theorem d_La_law_910 : decode code 910 = .ok (.iconst 1, 1) := by decide +kernel
theorem d_La_law_911 : decode code 911 = .ok (.iadd, 1) := by decide +kernel
theorem d_La_law_912 : decode code 912 = .ok (.iaload, 1) := by decide +kernel
theorem d_La_law_913 : decode code 913 = .ok (.aload_n 0, 1) := by decide +kernel
theorem d_La_law_914 : decode code 914 = .ok (.iload 4, 2) := by decide +kernel
theorem d_La_law_916 : decode code 916 = .ok (.iconst 2, 1) := by decide +kernel
theorem d_La_law_917 : decode code 917 = .ok (.iadd, 1) := by decide +kernel
theorem d_La_law_918 : decode code 918 = .ok (.iaload, 1) := by decide +kernel
theorem d_La_law_919 : decode code 919 = .ok (.invokevirtual 132, 3) := by decide +kernel
theorem d_La_law_922 : decode code 922 = .ok (.istore 6, 2) := by decide +kernel
theorem d_La_law_924 : decode code 924 = .ok (.aload_n 2, 1) := by decide +kernel
theorem d_La_law_925 : decode code 925 = .ok (.invokevirtual 68, 3) := by decide +kernel
theorem d_La_law_928 : decode code 928 = .ok (.iload 5, 2) := by decide +kernel
theorem d_La_law_930 : decode code 930 = .ok (.if_icmp .eq 5, 3) := by decide +kernel
theorem d_La_law_933 : decode code 933 = .ok (.iconst 0, 1) := by decide +kernel
theorem d_La_law_934 : decode code 934 = .ok (.ireturn, 1) := by decide +kernel
theorem d_La_law_935 : decode code 935 = .ok (.iload 5, 2) := by decide +kernel
theorem d_La_law_937 : decode code 937 = .ok (.ifCond .ne 15, 3) := by decide +kernel
theorem d_La_law_940 : decode code 940 = .ok (.aload_n 3, 1) := by decide +kernel
theorem d_La_law_941 : decode code 941 = .ok (.iconst 0, 1) := by decide +kernel
theorem d_La_law_942 : decode code 942 = .ok (.laload, 1) := by decide +kernel
theorem d_La_law_943 : decode code 943 = .ok (.iload 6, 2) := by decide +kernel
theorem d_La_law_945 : decode code 945 = .ok (.i2l, 1) := by decide +kernel
theorem d_La_law_946 : decode code 946 = .ok (.lcmp, 1) := by decide +kernel
theorem d_La_law_947 : decode code 947 = .ok (.ifCond .eq 5, 3) := by decide +kernel
theorem d_La_law_950 : decode code 950 = .ok (.iconst 0, 1) := by decide +kernel
theorem d_La_law_951 : decode code 951 = .ok (.ireturn, 1) := by decide +kernel
theorem d_La_law_952 : decode code 952 = .ok (.goto 3, 3) := by decide +kernel
theorem d_La_law_955 : decode code 955 = .ok (.iinc 4 5, 3) := by decide +kernel
theorem d_La_law_958 : decode code 958 = .ok (.goto (-935), 3) := by decide +kernel
theorem d_La_law_961 : decode code 961 = .ok (.iconst 1, 1) := by decide +kernel
theorem d_La_law_962 : decode code 962 = .ok (.ireturn, 1) := by decide +kernel
