set_option maxRecDepth 20000 in
theorem ggX5_init_X5_fresh : GoodIn wsX5_init wsX5_fresh := goodIn_r _ [13, 5, 14, 15, 12, 16, 17, 18, 19, 20, 21, 22, 23, 24, 25, 26, 27, 28, 29, 30, 31] rfl (by decide +kernel)
set_option maxRecDepth 20000 in
theorem gX5_init_X5_fresh : GoodIn wsX5_init (wsV RX5 22 RX5 yX5_fresh wsX5_fresh) := goodIn_app (goodIn_r _ [9, 10, 11, 12] rfl (by decide +kernel)) ggX5_init_X5_fresh
theorem dX5_init_0 : decode cX5_init 0 = .ok (.aload_n 0, 1) := by decide +kernel
theorem dX5_init_1 : decode cX5_init 1 = .ok (.invokespecial 1, 3) := by decide +kernel
theorem dX5_init_4 : decode cX5_init 4 = .ok (.aload_n 0, 1) := by decide +kernel
theorem dX5_init_5 : decode cX5_init 5 = .ok (.sipush 159, 3) := by decide +kernel
theorem dX5_init_8 : decode cX5_init 8 = .ok (.newarray .int, 2) := by decide +kernel
theorem dX5_init_10 : decode cX5_init 10 = .ok (.putfield 7, 3) := by decide +kernel
theorem dX5_init_13 : decode cX5_init 13 = .ok (.aload_n 0, 1) := by decide +kernel
theorem dX5_init_14 : decode cX5_init 14 = .ok (.sipush 159, 3) := by decide +kernel
theorem dX5_init_17 : decode cX5_init 17 = .ok (.newarray .int, 2) := by decide +kernel
theorem dX5_init_19 : decode cX5_init 19 = .ok (.putfield 13, 3) := by decide +kernel
theorem dX5_init_22 : decode cX5_init 22 = .ok (.aload_n 0, 1) := by decide +kernel
theorem dX5_init_23 : decode cX5_init 23 = .ok (.bipush 50, 2) := by decide +kernel
theorem dX5_init_25 : decode cX5_init 25 = .ok (.newarray .int, 2) := by decide +kernel
theorem dX5_init_27 : decode cX5_init 27 = .ok (.putfield 16, 3) := by decide +kernel
theorem dX5_init_30 : decode cX5_init 30 = .ok (.aload_n 0, 1) := by decide +kernel
theorem dX5_init_31 : decode cX5_init 31 = .ok (.bipush 100, 2) := by decide +kernel
theorem dX5_init_33 : decode cX5_init 33 = .ok (.newarray .int, 2) := by decide +kernel
theorem dX5_init_35 : decode cX5_init 35 = .ok (.putfield 19, 3) := by decide +kernel
theorem dX5_init_38 : decode cX5_init 38 = .ok (.aload_n 0, 1) := by decide +kernel
theorem dX5_init_39 : decode cX5_init 39 = .ok (.iconst 2, 1) := by decide +kernel
theorem dX5_init_40 : decode cX5_init 40 = .ok (.invokevirtual 22, 3) := by decide +kernel
theorem dX5_init_43 : decode cX5_init 43 = .ok (.return_, 1) := by decide +kernel
theorem dX5_thrown_0 : decode cX5_thrown 0 = .ok (.aload_n 0, 1) := by decide +kernel
theorem dX5_thrown_1 : decode cX5_thrown 1 = .ok (.getfield 26, 3) := by decide +kernel
theorem dX5_thrown_4 : decode cX5_thrown 4 = .ok (.ireturn, 1) := by decide +kernel
theorem dX5_within_0 : decode cX5_within 0 = .ok (.iload_n 0, 1) := by decide +kernel
theorem dX5_within_1 : decode cX5_within 1 = .ok (.iload_n 1, 1) := by decide +kernel
theorem dX5_within_2 : decode cX5_within 2 = .ok (.if_icmp .lt 12, 3) := by decide +kernel
theorem dX5_within_5 : decode cX5_within 5 = .ok (.iload_n 0, 1) := by decide +kernel
theorem dX5_within_6 : decode cX5_within 6 = .ok (.iload_n 2, 1) := by decide +kernel
theorem dX5_within_7 : decode cX5_within 7 = .ok (.if_icmp .gt 7, 3) := by decide +kernel
theorem dX5_within_10 : decode cX5_within 10 = .ok (.iconst 1, 1) := by decide +kernel
theorem dX5_within_11 : decode cX5_within 11 = .ok (.goto 4, 3) := by decide +kernel
theorem dX5_within_14 : decode cX5_within 14 = .ok (.iconst 0, 1) := by decide +kernel
theorem dX5_within_15 : decode cX5_within 15 = .ok (.ireturn, 1) := by decide +kernel
theorem dX5_clamped_0 : decode cX5_clamped 0 = .ok (.iload_n 0, 1) := by decide +kernel
theorem dX5_clamped_1 : decode cX5_clamped 1 = .ok (.iload_n 1, 1) := by decide +kernel
theorem dX5_clamped_2 : decode cX5_clamped 2 = .ok (.if_icmp .ge 7, 3) := by decide +kernel
theorem dX5_clamped_5 : decode cX5_clamped 5 = .ok (.iload_n 1, 1) := by decide +kernel
theorem dX5_clamped_6 : decode cX5_clamped 6 = .ok (.goto 13, 3) := by decide +kernel
theorem dX5_clamped_9 : decode cX5_clamped 9 = .ok (.iload_n 0, 1) := by decide +kernel
theorem dX5_clamped_10 : decode cX5_clamped 10 = .ok (.iload_n 2, 1) := by decide +kernel
theorem dX5_clamped_11 : decode cX5_clamped 11 = .ok (.if_icmp .le 7, 3) := by decide +kernel
theorem dX5_clamped_14 : decode cX5_clamped 14 = .ok (.iload_n 2, 1) := by decide +kernel
theorem dX5_clamped_15 : decode cX5_clamped 15 = .ok (.goto 4, 3) := by decide +kernel
theorem dX5_clamped_18 : decode cX5_clamped 18 = .ok (.iload_n 0, 1) := by decide +kernel
theorem dX5_clamped_19 : decode cX5_clamped 19 = .ok (.ireturn, 1) := by decide +kernel
theorem dX5_first_0 : decode cX5_first 0 = .ok (.iload_n 0, 1) := by decide +kernel
theorem dX5_first_1 : decode cX5_first 1 = .ok (.tableswitch 112 0 14 #[75, 79, 83, 87, 90, 93, 90, 87, 97, 100, 104, 83, 108, 112, 97], 75) := by decide +kernel
theorem dX5_first_76 : decode cX5_first 76 = .ok (.sipush 12000, 3) := by decide +kernel
theorem dX5_first_79 : decode cX5_first 79 = .ok (.ireturn, 1) := by decide +kernel
theorem dX5_first_80 : decode cX5_first 80 = .ok (.sipush 3300, 3) := by decide +kernel
theorem dX5_first_83 : decode cX5_first 83 = .ok (.ireturn, 1) := by decide +kernel
theorem dX5_first_84 : decode cX5_first 84 = .ok (.sipush 1000, 3) := by decide +kernel
theorem dX5_first_87 : decode cX5_first 87 = .ok (.ireturn, 1) := by decide +kernel
theorem dX5_first_88 : decode cX5_first 88 = .ok (.bipush 20, 2) := by decide +kernel
theorem dX5_first_90 : decode cX5_first 90 = .ok (.ireturn, 1) := by decide +kernel
theorem dX5_first_91 : decode cX5_first 91 = .ok (.bipush 50, 2) := by decide +kernel
theorem dX5_first_93 : decode cX5_first 93 = .ok (.ireturn, 1) := by decide +kernel
theorem dX5_first_94 : decode cX5_first 94 = .ok (.sipush 8000, 3) := by decide +kernel
theorem dX5_first_97 : decode cX5_first 97 = .ok (.ireturn, 1) := by decide +kernel
theorem dX5_first_98 : decode cX5_first 98 = .ok (.bipush 100, 2) := by decide +kernel
theorem dX5_first_100 : decode cX5_first 100 = .ok (.ireturn, 1) := by decide +kernel
theorem dX5_first_101 : decode cX5_first 101 = .ok (.sipush 300, 3) := by decide +kernel
theorem dX5_first_104 : decode cX5_first 104 = .ok (.ireturn, 1) := by decide +kernel
theorem dX5_first_105 : decode cX5_first 105 = .ok (.sipush 3000, 3) := by decide +kernel
theorem dX5_first_108 : decode cX5_first 108 = .ok (.ireturn, 1) := by decide +kernel
theorem dX5_first_109 : decode cX5_first 109 = .ok (.sipush 5000, 3) := by decide +kernel
theorem dX5_first_112 : decode cX5_first 112 = .ok (.ireturn, 1) := by decide +kernel
theorem dX5_first_113 : decode cX5_first 113 = .ok (.sipush 4000, 3) := by decide +kernel
theorem dX5_first_116 : decode cX5_first 116 = .ok (.ireturn, 1) := by decide +kernel
theorem dX5_lowest_0 : decode cX5_lowest 0 = .ok (.iload_n 0, 1) := by decide +kernel
theorem dX5_lowest_1 : decode cX5_lowest 1 = .ok (.tableswitch 80 0 12 #[67, 71, 80, 75, 75, 77, 80, 80, 75, 80, 75, 80, 71], 67) := by decide +kernel
theorem dX5_lowest_68 : decode cX5_lowest 68 = .ok (.sipush 1000, 3) := by decide +kernel
theorem dX5_lowest_71 : decode cX5_lowest 71 = .ok (.ireturn, 1) := by decide +kernel
theorem dX5_lowest_72 : decode cX5_lowest 72 = .ok (.sipush 500, 3) := by decide +kernel
theorem dX5_lowest_75 : decode cX5_lowest 75 = .ok (.ireturn, 1) := by decide +kernel
theorem dX5_lowest_76 : decode cX5_lowest 76 = .ok (.iconst 1, 1) := by decide +kernel
theorem dX5_lowest_77 : decode cX5_lowest 77 = .ok (.ireturn, 1) := by decide +kernel
theorem dX5_lowest_78 : decode cX5_lowest 78 = .ok (.bipush 100, 2) := by decide +kernel
theorem dX5_lowest_80 : decode cX5_lowest 80 = .ok (.ireturn, 1) := by decide +kernel
theorem dX5_lowest_81 : decode cX5_lowest 81 = .ok (.iconst 0, 1) := by decide +kernel
theorem dX5_lowest_82 : decode cX5_lowest 82 = .ok (.ireturn, 1) := by decide +kernel
theorem dX5_highest_0 : decode cX5_highest 0 = .ok (.iload_n 0, 1) := by decide +kernel
theorem dX5_highest_1 : decode cX5_highest 1 = .ok (.tableswitch 105 0 14 #[75, 79, 83, 86, 89, 105, 89, 89, 93, 97, 105, 105, 105, 75, 101], 75) := by decide +kernel
theorem dX5_highest_76 : decode cX5_highest 76 = .ok (.sipush 24000, 3) := by decide +kernel
theorem dX5_highest_79 : decode cX5_highest 79 = .ok (.ireturn, 1) := by decide +kernel
theorem dX5_highest_80 : decode cX5_highest 80 = .ok (.sipush 12000, 3) := by decide +kernel
theorem dX5_highest_83 : decode cX5_highest 83 = .ok (.ireturn, 1) := by decide +kernel
theorem dX5_highest_84 : decode cX5_highest 84 = .ok (.ldc 30, 2) := by decide +kernel
theorem dX5_highest_86 : decode cX5_highest 86 = .ok (.ireturn, 1) := by decide +kernel
theorem dX5_highest_87 : decode cX5_highest 87 = .ok (.bipush 100, 2) := by decide +kernel
theorem dX5_highest_89 : decode cX5_highest 89 = .ok (.ireturn, 1) := by decide +kernel
theorem dX5_highest_90 : decode cX5_highest 90 = .ok (.sipush 500, 3) := by decide +kernel
theorem dX5_highest_93 : decode cX5_highest 93 = .ok (.ireturn, 1) := by decide +kernel
theorem dX5_highest_94 : decode cX5_highest 94 = .ok (.sipush 2000, 3) := by decide +kernel
theorem dX5_highest_97 : decode cX5_highest 97 = .ok (.ireturn, 1) := by decide +kernel
theorem dX5_highest_98 : decode cX5_highest 98 = .ok (.sipush 10000, 3) := by decide +kernel
theorem dX5_highest_101 : decode cX5_highest 101 = .ok (.ireturn, 1) := by decide +kernel
theorem dX5_highest_102 : decode cX5_highest 102 = .ok (.sipush 1000, 3) := by decide +kernel
theorem dX5_highest_105 : decode cX5_highest 105 = .ok (.ireturn, 1) := by decide +kernel
theorem dX5_highest_106 : decode cX5_highest 106 = .ok (.sipush 30000, 3) := by decide +kernel
theorem dX5_highest_109 : decode cX5_highest 109 = .ok (.ireturn, 1) := by decide +kernel
set_option maxRecDepth 20000 in
theorem ggX5_fresh_X5_first : GoodIn wsX5_fresh wsX5_first := goodIn_r _ [5] rfl (by decide +kernel)
set_option maxRecDepth 20000 in
theorem gX5_fresh_X5_first : GoodIn wsX5_fresh (va_wsS RX5 31 yX5_first wsX5_first) := goodIn_app (goodIn_r _ [2, 3, 4] rfl (by decide +kernel)) ggX5_fresh_X5_first
theorem dX5_fresh_0 : decode cX5_fresh 0 = .ok (.iconst 0, 1) := by decide +kernel
theorem dX5_fresh_1 : decode cX5_fresh 1 = .ok (.istore_n 2, 1) := by decide +kernel
theorem dX5_fresh_2 : decode cX5_fresh 2 = .ok (.iload_n 2, 1) := by decide +kernel
theorem dX5_fresh_3 : decode cX5_fresh 3 = .ok (.sipush 159, 3) := by decide +kernel
theorem dX5_fresh_6 : decode cX5_fresh 6 = .ok (.if_icmp .ge 29, 3) := by decide +kernel
theorem dX5_fresh_9 : decode cX5_fresh 9 = .ok (.aload_n 0, 1) := by decide +kernel
theorem dX5_fresh_10 : decode cX5_fresh 10 = .ok (.getfield 7, 3) := by decide +kernel
theorem dX5_fresh_13 : decode cX5_fresh 13 = .ok (.iload_n 2, 1) := by decide +kernel
theorem dX5_fresh_14 : decode cX5_fresh 14 = .ok (.iload_n 2, 1) := by decide +kernel
theorem dX5_fresh_15 : decode cX5_fresh 15 = .ok (.bipush 15, 2) := by decide +kernel
theorem dX5_fresh_17 : decode cX5_fresh 17 = .ok (.if_icmp .ge 10, 3) := by decide +kernel
theorem dX5_fresh_20 : decode cX5_fresh 20 = .ok (.iload_n 2, 1) := by decide +kernel
theorem dX5_fresh_21 : decode cX5_fresh 21 = .ok (.invokestatic 31, 3) := by decide +kernel
theorem dX5_fresh_24 : decode cX5_fresh 24 = .ok (.goto 4, 3) := by decide +kernel
theorem dX5_fresh_27 : decode cX5_fresh 27 = .ok (.iconst 0, 1) := by decide +kernel
theorem dX5_fresh_28 : decode cX5_fresh 28 = .ok (.iastore, 1) := by decide +kernel
theorem dX5_fresh_29 : decode cX5_fresh 29 = .ok (.iinc 2 1, 3) := by decide +kernel
theorem dX5_fresh_32 : decode cX5_fresh 32 = .ok (.goto (-30), 3) := by decide +kernel
theorem dX5_fresh_35 : decode cX5_fresh 35 = .ok (.aload_n 0, 1) := by decide +kernel
theorem dX5_fresh_36 : decode cX5_fresh 36 = .ok (.getfield 7, 3) := by decide +kernel
theorem dX5_fresh_39 : decode cX5_fresh 39 = .ok (.bipush 15, 2) := by decide +kernel
theorem dX5_fresh_41 : decode cX5_fresh 41 = .ok (.iload_n 1, 1) := by decide +kernel
theorem dX5_fresh_42 : decode cX5_fresh 42 = .ok (.iastore, 1) := by decide +kernel
theorem dX5_fresh_43 : decode cX5_fresh 43 = .ok (.aload_n 0, 1) := by decide +kernel
theorem dX5_fresh_44 : decode cX5_fresh 44 = .ok (.getfield 7, 3) := by decide +kernel
theorem dX5_fresh_47 : decode cX5_fresh 47 = .ok (.bipush 16, 2) := by decide +kernel
theorem dX5_fresh_49 : decode cX5_fresh 49 = .ok (.iload_n 1, 1) := by decide +kernel
theorem dX5_fresh_50 : decode cX5_fresh 50 = .ok (.iastore, 1) := by decide +kernel
theorem dX5_fresh_51 : decode cX5_fresh 51 = .ok (.return_, 1) := by decide +kernel
theorem dX5_at_0 : decode cX5_at 0 = .ok (.bipush 35, 2) := by decide +kernel
theorem dX5_at_2 : decode cX5_at 2 = .ok (.bipush 7, 2) := by decide +kernel
theorem dX5_at_4 : decode cX5_at 4 = .ok (.iload_n 0, 1) := by decide +kernel
theorem dX5_at_5 : decode cX5_at 5 = .ok (.imul, 1) := by decide +kernel
theorem dX5_at_6 : decode cX5_at 6 = .ok (.iadd, 1) := by decide +kernel
theorem dX5_at_7 : decode cX5_at 7 = .ok (.iload_n 1, 1) := by decide +kernel
theorem dX5_at_8 : decode cX5_at 8 = .ok (.iadd, 1) := by decide +kernel
theorem dX5_at_9 : decode cX5_at 9 = .ok (.ireturn, 1) := by decide +kernel
theorem dX5_runs_0 : decode cX5_runs 0 = .ok (.aload_n 0, 1) := by decide +kernel
theorem dX5_runs_1 : decode cX5_runs 1 = .ok (.getfield 7, 3) := by decide +kernel
theorem dX5_runs_4 : decode cX5_runs 4 = .ok (.bipush 20, 2) := by decide +kernel
theorem dX5_runs_6 : decode cX5_runs 6 = .ok (.iaload, 1) := by decide +kernel
theorem dX5_runs_7 : decode cX5_runs 7 = .ok (.iconst 1, 1) := by decide +kernel
theorem dX5_runs_8 : decode cX5_runs 8 = .ok (.if_icmp .eq 14, 3) := by decide +kernel
theorem dX5_runs_11 : decode cX5_runs 11 = .ok (.aload_n 0, 1) := by decide +kernel
theorem dX5_runs_12 : decode cX5_runs 12 = .ok (.getfield 7, 3) := by decide +kernel
theorem dX5_runs_15 : decode cX5_runs 15 = .ok (.bipush 20, 2) := by decide +kernel
theorem dX5_runs_17 : decode cX5_runs 17 = .ok (.iaload, 1) := by decide +kernel
theorem dX5_runs_18 : decode cX5_runs 18 = .ok (.iconst 2, 1) := by decide +kernel
theorem dX5_runs_19 : decode cX5_runs 19 = .ok (.if_icmp .ne 7, 3) := by decide +kernel
theorem dX5_runs_22 : decode cX5_runs 22 = .ok (.iconst 1, 1) := by decide +kernel
theorem dX5_runs_23 : decode cX5_runs 23 = .ok (.goto 4, 3) := by decide +kernel
theorem dX5_runs_26 : decode cX5_runs 26 = .ok (.iconst 0, 1) := by decide +kernel
theorem dX5_runs_27 : decode cX5_runs 27 = .ok (.ireturn, 1) := by decide +kernel
set_option maxRecDepth 20000 in
theorem ggX5_stopTo_X5_at : GoodIn wsX5_stopTo wsX5_at := goodIn_r _ [5] rfl (by decide +kernel)
set_option maxRecDepth 20000 in
theorem gX5_stopTo_X5_at : GoodIn wsX5_stopTo (va_wsS RX5 35 yX5_at wsX5_at) := goodIn_app (goodIn_r _ [2, 3, 4] rfl (by decide +kernel)) ggX5_stopTo_X5_at
theorem dX5_stopTo_0 : decode cX5_stopTo 0 = .ok (.aload_n 0, 1) := by decide +kernel
theorem dX5_stopTo_1 : decode cX5_stopTo 1 = .ok (.getfield 7, 3) := by decide +kernel
theorem dX5_stopTo_4 : decode cX5_stopTo 4 = .ok (.bipush 20, 2) := by decide +kernel
theorem dX5_stopTo_6 : decode cX5_stopTo 6 = .ok (.iload_n 1, 1) := by decide +kernel
theorem dX5_stopTo_7 : decode cX5_stopTo 7 = .ok (.iastore, 1) := by decide +kernel
theorem dX5_stopTo_8 : decode cX5_stopTo 8 = .ok (.iconst 0, 1) := by decide +kernel
theorem dX5_stopTo_9 : decode cX5_stopTo 9 = .ok (.istore_n 2, 1) := by decide +kernel
theorem dX5_stopTo_10 : decode cX5_stopTo 10 = .ok (.iload_n 2, 1) := by decide +kernel
theorem dX5_stopTo_11 : decode cX5_stopTo 11 = .ok (.aload_n 0, 1) := by decide +kernel
theorem dX5_stopTo_12 : decode cX5_stopTo 12 = .ok (.getfield 7, 3) := by decide +kernel
theorem dX5_stopTo_15 : decode cX5_stopTo 15 = .ok (.bipush 15, 2) := by decide +kernel
theorem dX5_stopTo_17 : decode cX5_stopTo 17 = .ok (.iaload, 1) := by decide +kernel
theorem dX5_stopTo_18 : decode cX5_stopTo 18 = .ok (.if_icmp .ge 20, 3) := by decide +kernel
theorem dX5_stopTo_21 : decode cX5_stopTo 21 = .ok (.aload_n 0, 1) := by decide +kernel
theorem dX5_stopTo_22 : decode cX5_stopTo 22 = .ok (.getfield 7, 3) := by decide +kernel
theorem dX5_stopTo_25 : decode cX5_stopTo 25 = .ok (.iload_n 2, 1) := by decide +kernel
theorem dX5_stopTo_26 : decode cX5_stopTo 26 = .ok (.iconst 1, 1) := by decide +kernel
theorem dX5_stopTo_27 : decode cX5_stopTo 27 = .ok (.invokestatic 35, 3) := by decide +kernel
theorem dX5_stopTo_30 : decode cX5_stopTo 30 = .ok (.iconst 0, 1) := by decide +kernel
theorem dX5_stopTo_31 : decode cX5_stopTo 31 = .ok (.iastore, 1) := by decide +kernel
theorem dX5_stopTo_32 : decode cX5_stopTo 32 = .ok (.iinc 2 1, 3) := by decide +kernel
theorem dX5_stopTo_35 : decode cX5_stopTo 35 = .ok (.goto (-25), 3) := by decide +kernel
theorem dX5_stopTo_38 : decode cX5_stopTo 38 = .ok (.return_, 1) := by decide +kernel
set_option maxRecDepth 20000 in
theorem ggX5_sum_X5_at : GoodIn wsX5_sum wsX5_at := goodIn_r _ [5] rfl (by decide +kernel)
set_option maxRecDepth 20000 in
theorem gX5_sum_X5_at : GoodIn wsX5_sum (va_wsS RX5 35 yX5_at wsX5_at) := goodIn_app (goodIn_r _ [2, 3, 4] rfl (by decide +kernel)) ggX5_sum_X5_at
theorem dX5_sum_0 : decode cX5_sum 0 = .ok (.iconst 0, 1) := by decide +kernel
theorem dX5_sum_1 : decode cX5_sum 1 = .ok (.istore_n 2, 1) := by decide +kernel
theorem dX5_sum_2 : decode cX5_sum 2 = .ok (.iconst 0, 1) := by decide +kernel
theorem dX5_sum_3 : decode cX5_sum 3 = .ok (.istore_n 3, 1) := by decide +kernel
theorem dX5_sum_4 : decode cX5_sum 4 = .ok (.iload_n 3, 1) := by decide +kernel
theorem dX5_sum_5 : decode cX5_sum 5 = .ok (.iload_n 1, 1) := by decide +kernel
theorem dX5_sum_6 : decode cX5_sum 6 = .ok (.if_icmp .ge 22, 3) := by decide +kernel
theorem dX5_sum_9 : decode cX5_sum 9 = .ok (.iload_n 2, 1) := by decide +kernel
theorem dX5_sum_10 : decode cX5_sum 10 = .ok (.aload_n 0, 1) := by decide +kernel
theorem dX5_sum_11 : decode cX5_sum 11 = .ok (.getfield 7, 3) := by decide +kernel
theorem dX5_sum_14 : decode cX5_sum 14 = .ok (.iload_n 3, 1) := by decide +kernel
theorem dX5_sum_15 : decode cX5_sum 15 = .ok (.iconst 0, 1) := by decide +kernel
theorem dX5_sum_16 : decode cX5_sum 16 = .ok (.invokestatic 35, 3) := by decide +kernel
theorem dX5_sum_19 : decode cX5_sum 19 = .ok (.iaload, 1) := by decide +kernel
theorem dX5_sum_20 : decode cX5_sum 20 = .ok (.iadd, 1) := by decide +kernel
theorem dX5_sum_21 : decode cX5_sum 21 = .ok (.istore_n 2, 1) := by decide +kernel
theorem dX5_sum_22 : decode cX5_sum 22 = .ok (.iinc 3 1, 3) := by decide +kernel
theorem dX5_sum_25 : decode cX5_sum 25 = .ok (.goto (-21), 3) := by decide +kernel
theorem dX5_sum_28 : decode cX5_sum 28 = .ok (.iload_n 2, 1) := by decide +kernel
theorem dX5_sum_29 : decode cX5_sum 29 = .ok (.ireturn, 1) := by decide +kernel
theorem dX5_aim_0 : decode cX5_aim 0 = .ok (.aload_n 0, 1) := by decide +kernel
theorem dX5_aim_1 : decode cX5_aim 1 = .ok (.getfield 7, 3) := by decide +kernel
theorem dX5_aim_4 : decode cX5_aim 4 = .ok (.bipush 20, 2) := by decide +kernel
theorem dX5_aim_6 : decode cX5_aim 6 = .ok (.iaload, 1) := by decide +kernel
theorem dX5_aim_7 : decode cX5_aim 7 = .ok (.iconst 1, 1) := by decide +kernel
theorem dX5_aim_8 : decode cX5_aim 8 = .ok (.if_icmp .ne 60, 3) := by decide +kernel
theorem dX5_aim_11 : decode cX5_aim 11 = .ok (.aload_n 0, 1) := by decide +kernel
theorem dX5_aim_12 : decode cX5_aim 12 = .ok (.getfield 7, 3) := by decide +kernel
theorem dX5_aim_15 : decode cX5_aim 15 = .ok (.bipush 18, 2) := by decide +kernel
theorem dX5_aim_17 : decode cX5_aim 17 = .ok (.dup2, 1) := by decide +kernel
theorem dX5_aim_18 : decode cX5_aim 18 = .ok (.iaload, 1) := by decide +kernel
theorem dX5_aim_19 : decode cX5_aim 19 = .ok (.aload_n 0, 1) := by decide +kernel
theorem dX5_aim_20 : decode cX5_aim 20 = .ok (.getfield 7, 3) := by decide +kernel
theorem dX5_aim_23 : decode cX5_aim 23 = .ok (.bipush 8, 2) := by decide +kernel
theorem dX5_aim_25 : decode cX5_aim 25 = .ok (.iaload, 1) := by decide +kernel
theorem dX5_aim_26 : decode cX5_aim 26 = .ok (.iadd, 1) := by decide +kernel
theorem dX5_aim_27 : decode cX5_aim 27 = .ok (.iastore, 1) := by decide +kernel
theorem dX5_aim_28 : decode cX5_aim 28 = .ok (.aload_n 0, 1) := by decide +kernel
theorem dX5_aim_29 : decode cX5_aim 29 = .ok (.getfield 7, 3) := by decide +kernel
theorem dX5_aim_32 : decode cX5_aim 32 = .ok (.bipush 18, 2) := by decide +kernel
theorem dX5_aim_34 : decode cX5_aim 34 = .ok (.iaload, 1) := by decide +kernel
theorem dX5_aim_35 : decode cX5_aim 35 = .ok (.aload_n 0, 1) := by decide +kernel
theorem dX5_aim_36 : decode cX5_aim 36 = .ok (.getfield 7, 3) := by decide +kernel
theorem dX5_aim_39 : decode cX5_aim 39 = .ok (.iconst 1, 1) := by decide +kernel
theorem dX5_aim_40 : decode cX5_aim 40 = .ok (.iaload, 1) := by decide +kernel
theorem dX5_aim_41 : decode cX5_aim 41 = .ok (.if_icmp .lt 51, 3) := by decide +kernel
theorem dX5_aim_44 : decode cX5_aim 44 = .ok (.aload_n 0, 1) := by decide +kernel
theorem dX5_aim_45 : decode cX5_aim 45 = .ok (.getfield 7, 3) := by decide +kernel
theorem dX5_aim_48 : decode cX5_aim 48 = .ok (.bipush 18, 2) := by decide +kernel
theorem dX5_aim_50 : decode cX5_aim 50 = .ok (.aload_n 0, 1) := by decide +kernel
theorem dX5_aim_51 : decode cX5_aim 51 = .ok (.getfield 7, 3) := by decide +kernel
theorem dX5_aim_54 : decode cX5_aim 54 = .ok (.iconst 1, 1) := by decide +kernel
theorem dX5_aim_55 : decode cX5_aim 55 = .ok (.iaload, 1) := by decide +kernel
theorem dX5_aim_56 : decode cX5_aim 56 = .ok (.iastore, 1) := by decide +kernel
theorem dX5_aim_57 : decode cX5_aim 57 = .ok (.aload_n 0, 1) := by decide +kernel
theorem dX5_aim_58 : decode cX5_aim 58 = .ok (.getfield 7, 3) := by decide +kernel
theorem dX5_aim_61 : decode cX5_aim 61 = .ok (.bipush 20, 2) := by decide +kernel
theorem dX5_aim_63 : decode cX5_aim 63 = .ok (.iconst 2, 1) := by decide +kernel
theorem dX5_aim_64 : decode cX5_aim 64 = .ok (.iastore, 1) := by decide +kernel
theorem dX5_aim_65 : decode cX5_aim 65 = .ok (.goto 27, 3) := by decide +kernel
theorem dX5_aim_68 : decode cX5_aim 68 = .ok (.aload_n 0, 1) := by decide +kernel
theorem dX5_aim_69 : decode cX5_aim 69 = .ok (.getfield 7, 3) := by decide +kernel
theorem dX5_aim_72 : decode cX5_aim 72 = .ok (.bipush 20, 2) := by decide +kernel
theorem dX5_aim_74 : decode cX5_aim 74 = .ok (.iaload, 1) := by decide +kernel
theorem dX5_aim_75 : decode cX5_aim 75 = .ok (.iconst 2, 1) := by decide +kernel
theorem dX5_aim_76 : decode cX5_aim 76 = .ok (.if_icmp .ne 16, 3) := by decide +kernel
theorem dX5_aim_79 : decode cX5_aim 79 = .ok (.aload_n 0, 1) := by decide +kernel
theorem dX5_aim_80 : decode cX5_aim 80 = .ok (.getfield 7, 3) := by decide +kernel
theorem dX5_aim_83 : decode cX5_aim 83 = .ok (.bipush 18, 2) := by decide +kernel
theorem dX5_aim_85 : decode cX5_aim 85 = .ok (.aload_n 0, 1) := by decide +kernel
theorem dX5_aim_86 : decode cX5_aim 86 = .ok (.getfield 7, 3) := by decide +kernel
theorem dX5_aim_89 : decode cX5_aim 89 = .ok (.iconst 1, 1) := by decide +kernel
theorem dX5_aim_90 : decode cX5_aim 90 = .ok (.iaload, 1) := by decide +kernel
theorem dX5_aim_91 : decode cX5_aim 91 = .ok (.iastore, 1) := by decide +kernel
theorem dX5_aim_92 : decode cX5_aim 92 = .ok (.return_, 1) := by decide +kernel
set_option maxRecDepth 20000 in
theorem ggX5_regulate_X5_clamped : GoodIn wsX5_regulate wsX5_clamped := goodIn_r _ [7] rfl (by decide +kernel)
set_option maxRecDepth 20000 in
theorem gX5_regulate_X5_clamped : GoodIn wsX5_regulate (va_wsS RX5 41 yX5_clamped wsX5_clamped) := goodIn_app (goodIn_r _ [4, 5, 6] rfl (by decide +kernel)) ggX5_regulate_X5_clamped
theorem dX5_regulate_0 : decode cX5_regulate 0 = .ok (.aload_n 0, 1) := by decide +kernel
theorem dX5_regulate_1 : decode cX5_regulate 1 = .ok (.getfield 7, 3) := by decide +kernel
theorem dX5_regulate_4 : decode cX5_regulate 4 = .ok (.bipush 18, 2) := by decide +kernel
theorem dX5_regulate_6 : decode cX5_regulate 6 = .ok (.iaload, 1) := by decide +kernel
theorem dX5_regulate_7 : decode cX5_regulate 7 = .ok (.aload_n 0, 1) := by decide +kernel
theorem dX5_regulate_8 : decode cX5_regulate 8 = .ok (.getfield 7, 3) := by decide +kernel
theorem dX5_regulate_11 : decode cX5_regulate 11 = .ok (.bipush 17, 2) := by decide +kernel
theorem dX5_regulate_13 : decode cX5_regulate 13 = .ok (.iaload, 1) := by decide +kernel
theorem dX5_regulate_14 : decode cX5_regulate 14 = .ok (.isub, 1) := by decide +kernel
theorem dX5_regulate_15 : decode cX5_regulate 15 = .ok (.istore_n 1, 1) := by decide +kernel
theorem dX5_regulate_16 : decode cX5_regulate 16 = .ok (.aload_n 0, 1) := by decide +kernel
theorem dX5_regulate_17 : decode cX5_regulate 17 = .ok (.getfield 7, 3) := by decide +kernel
theorem dX5_regulate_20 : decode cX5_regulate 20 = .ok (.bipush 19, 2) := by decide +kernel
theorem dX5_regulate_22 : decode cX5_regulate 22 = .ok (.aload_n 0, 1) := by decide +kernel
theorem dX5_regulate_23 : decode cX5_regulate 23 = .ok (.getfield 7, 3) := by decide +kernel
theorem dX5_regulate_26 : decode cX5_regulate 26 = .ok (.bipush 19, 2) := by decide +kernel
theorem dX5_regulate_28 : decode cX5_regulate 28 = .ok (.iaload, 1) := by decide +kernel
theorem dX5_regulate_29 : decode cX5_regulate 29 = .ok (.iload_n 1, 1) := by decide +kernel
theorem dX5_regulate_30 : decode cX5_regulate 30 = .ok (.iadd, 1) := by decide +kernel
theorem dX5_regulate_31 : decode cX5_regulate 31 = .ok (.ldc 39, 2) := by decide +kernel
theorem dX5_regulate_33 : decode cX5_regulate 33 = .ok (.ldc 40, 2) := by decide +kernel
theorem dX5_regulate_35 : decode cX5_regulate 35 = .ok (.invokestatic 41, 3) := by decide +kernel
theorem dX5_regulate_38 : decode cX5_regulate 38 = .ok (.iastore, 1) := by decide +kernel
theorem dX5_regulate_39 : decode cX5_regulate 39 = .ok (.aload_n 0, 1) := by decide +kernel
theorem dX5_regulate_40 : decode cX5_regulate 40 = .ok (.getfield 7, 3) := by decide +kernel
theorem dX5_regulate_43 : decode cX5_regulate 43 = .ok (.bipush 21, 2) := by decide +kernel
theorem dX5_regulate_45 : decode cX5_regulate 45 = .ok (.sipush 1000, 3) := by decide +kernel
theorem dX5_regulate_48 : decode cX5_regulate 48 = .ok (.aload_n 0, 1) := by decide +kernel
theorem dX5_regulate_49 : decode cX5_regulate 49 = .ok (.getfield 7, 3) := by decide +kernel
theorem dX5_regulate_52 : decode cX5_regulate 52 = .ok (.bipush 18, 2) := by decide +kernel
theorem dX5_regulate_54 : decode cX5_regulate 54 = .ok (.iaload, 1) := by decide +kernel
theorem dX5_regulate_55 : decode cX5_regulate 55 = .ok (.imul, 1) := by decide +kernel
theorem dX5_regulate_56 : decode cX5_regulate 56 = .ok (.aload_n 0, 1) := by decide +kernel
theorem dX5_regulate_57 : decode cX5_regulate 57 = .ok (.getfield 7, 3) := by decide +kernel
theorem dX5_regulate_60 : decode cX5_regulate 60 = .ok (.iconst 0, 1) := by decide +kernel
theorem dX5_regulate_61 : decode cX5_regulate 61 = .ok (.iaload, 1) := by decide +kernel
theorem dX5_regulate_62 : decode cX5_regulate 62 = .ok (.idiv, 1) := by decide +kernel
theorem dX5_regulate_63 : decode cX5_regulate 63 = .ok (.iload_n 1, 1) := by decide +kernel
theorem dX5_regulate_64 : decode cX5_regulate 64 = .ok (.aload_n 0, 1) := by decide +kernel
theorem dX5_regulate_65 : decode cX5_regulate 65 = .ok (.getfield 7, 3) := by decide +kernel
theorem dX5_regulate_68 : decode cX5_regulate 68 = .ok (.bipush 6, 2) := by decide +kernel
theorem dX5_regulate_70 : decode cX5_regulate 70 = .ok (.iaload, 1) := by decide +kernel
theorem dX5_regulate_71 : decode cX5_regulate 71 = .ok (.imul, 1) := by decide +kernel
theorem dX5_regulate_72 : decode cX5_regulate 72 = .ok (.bipush 100, 2) := by decide +kernel
theorem dX5_regulate_74 : decode cX5_regulate 74 = .ok (.idiv, 1) := by decide +kernel
theorem dX5_regulate_75 : decode cX5_regulate 75 = .ok (.iadd, 1) := by decide +kernel
theorem dX5_regulate_76 : decode cX5_regulate 76 = .ok (.aload_n 0, 1) := by decide +kernel
theorem dX5_regulate_77 : decode cX5_regulate 77 = .ok (.getfield 7, 3) := by decide +kernel
theorem dX5_regulate_80 : decode cX5_regulate 80 = .ok (.bipush 19, 2) := by decide +kernel
theorem dX5_regulate_82 : decode cX5_regulate 82 = .ok (.iaload, 1) := by decide +kernel
theorem dX5_regulate_83 : decode cX5_regulate 83 = .ok (.aload_n 0, 1) := by decide +kernel
theorem dX5_regulate_84 : decode cX5_regulate 84 = .ok (.getfield 7, 3) := by decide +kernel
theorem dX5_regulate_87 : decode cX5_regulate 87 = .ok (.bipush 7, 2) := by decide +kernel
theorem dX5_regulate_89 : decode cX5_regulate 89 = .ok (.iaload, 1) := by decide +kernel
theorem dX5_regulate_90 : decode cX5_regulate 90 = .ok (.imul, 1) := by decide +kernel
theorem dX5_regulate_91 : decode cX5_regulate 91 = .ok (.sipush 10000, 3) := by decide +kernel
theorem dX5_regulate_94 : decode cX5_regulate 94 = .ok (.idiv, 1) := by decide +kernel
theorem dX5_regulate_95 : decode cX5_regulate 95 = .ok (.iadd, 1) := by decide +kernel
theorem dX5_regulate_96 : decode cX5_regulate 96 = .ok (.iconst 0, 1) := by decide +kernel
theorem dX5_regulate_97 : decode cX5_regulate 97 = .ok (.sipush 900, 3) := by decide +kernel
theorem dX5_regulate_100 : decode cX5_regulate 100 = .ok (.invokestatic 41, 3) := by decide +kernel
theorem dX5_regulate_103 : decode cX5_regulate 103 = .ok (.iastore, 1) := by decide +kernel
theorem dX5_regulate_104 : decode cX5_regulate 104 = .ok (.return_, 1) := by decide +kernel
theorem dX5_changePhases_0 : decode cX5_changePhases 0 = .ok (.aload_n 0, 1) := by decide +kernel
theorem dX5_changePhases_1 : decode cX5_changePhases 1 = .ok (.getfield 7, 3) := by decide +kernel
theorem dX5_changePhases_4 : decode cX5_changePhases 4 = .ok (.bipush 16, 2) := by decide +kernel
theorem dX5_changePhases_6 : decode cX5_changePhases 6 = .ok (.iload_n 1, 1) := by decide +kernel
theorem dX5_changePhases_7 : decode cX5_changePhases 7 = .ok (.iastore, 1) := by decide +kernel
theorem dX5_changePhases_8 : decode cX5_changePhases 8 = .ok (.aload_n 0, 1) := by decide +kernel
theorem dX5_changePhases_9 : decode cX5_changePhases 9 = .ok (.getfield 7, 3) := by decide +kernel
theorem dX5_changePhases_12 : decode cX5_changePhases 12 = .ok (.bipush 29, 2) := by decide +kernel
theorem dX5_changePhases_14 : decode cX5_changePhases 14 = .ok (.iconst 0, 1) := by decide +kernel
theorem dX5_changePhases_15 : decode cX5_changePhases 15 = .ok (.iastore, 1) := by decide +kernel
theorem dX5_changePhases_16 : decode cX5_changePhases 16 = .ok (.aload_n 0, 1) := by decide +kernel
theorem dX5_changePhases_17 : decode cX5_changePhases 17 = .ok (.getfield 7, 3) := by decide +kernel
theorem dX5_changePhases_20 : decode cX5_changePhases 20 = .ok (.bipush 30, 2) := by decide +kernel
theorem dX5_changePhases_22 : decode cX5_changePhases 22 = .ok (.iconst 0, 1) := by decide +kernel
theorem dX5_changePhases_23 : decode cX5_changePhases 23 = .ok (.iastore, 1) := by decide +kernel
theorem dX5_changePhases_24 : decode cX5_changePhases 24 = .ok (.aload_n 0, 1) := by decide +kernel
theorem dX5_changePhases_25 : decode cX5_changePhases 25 = .ok (.getfield 7, 3) := by decide +kernel
theorem dX5_changePhases_28 : decode cX5_changePhases 28 = .ok (.bipush 28, 2) := by decide +kernel
theorem dX5_changePhases_30 : decode cX5_changePhases 30 = .ok (.dup2, 1) := by decide +kernel
theorem dX5_changePhases_31 : decode cX5_changePhases 31 = .ok (.iaload, 1) := by decide +kernel
theorem dX5_changePhases_32 : decode cX5_changePhases 32 = .ok (.iconst 1, 1) := by decide +kernel
theorem dX5_changePhases_33 : decode cX5_changePhases 33 = .ok (.iadd, 1) := by decide +kernel
theorem dX5_changePhases_34 : decode cX5_changePhases 34 = .ok (.iastore, 1) := by decide +kernel
theorem dX5_changePhases_35 : decode cX5_changePhases 35 = .ok (.return_, 1) := by decide +kernel
set_option maxRecDepth 20000 in
theorem ggX5_choosePhases_X5_changePhases : GoodIn wsX5_choosePhases wsX5_changePhases := goodIn_r _ [6, 1, 10, 11, 12, 13, 14, 15, 16, 17, 18, 19, 20, 21, 22, 23, 24] rfl (by decide +kernel)
set_option maxRecDepth 20000 in
theorem gX5_choosePhases_X5_changePhases : GoodIn wsX5_choosePhases (wsV RX5 45 RX5 yX5_changePhases wsX5_changePhases) := goodIn_app (goodIn_r _ [2, 3, 4, 5] rfl (by decide +kernel)) ggX5_choosePhases_X5_changePhases
set_option maxRecDepth 20000 in
theorem ggX5_choosePhases_X5_at : GoodIn wsX5_choosePhases wsX5_at := goodIn_r _ [9] rfl (by decide +kernel)
set_option maxRecDepth 20000 in
theorem gX5_choosePhases_X5_at : GoodIn wsX5_choosePhases (va_wsS RX5 35 yX5_at wsX5_at) := goodIn_app (goodIn_r _ [7, 8, 5] rfl (by decide +kernel)) ggX5_choosePhases_X5_at
theorem dX5_choosePhases_0 : decode cX5_choosePhases 0 = .ok (.aload_n 0, 1) := by decide +kernel
theorem dX5_choosePhases_1 : decode cX5_choosePhases 1 = .ok (.getfield 7, 3) := by decide +kernel
theorem dX5_choosePhases_4 : decode cX5_choosePhases 4 = .ok (.bipush 16, 2) := by decide +kernel
theorem dX5_choosePhases_6 : decode cX5_choosePhases 6 = .ok (.iaload, 1) := by decide +kernel
theorem dX5_choosePhases_7 : decode cX5_choosePhases 7 = .ok (.istore_n 1, 1) := by decide +kernel
theorem dX5_choosePhases_8 : decode cX5_choosePhases 8 = .ok (.aload_n 0, 1) := by decide +kernel
theorem dX5_choosePhases_9 : decode cX5_choosePhases 9 = .ok (.getfield 7, 3) := by decide +kernel
theorem dX5_choosePhases_12 : decode cX5_choosePhases 12 = .ok (.bipush 22, 2) := by decide +kernel
theorem dX5_choosePhases_14 : decode cX5_choosePhases 14 = .ok (.iaload, 1) := by decide +kernel
theorem dX5_choosePhases_15 : decode cX5_choosePhases 15 = .ok (.istore_n 2, 1) := by decide +kernel
theorem dX5_choosePhases_16 : decode cX5_choosePhases 16 = .ok (.aload_n 0, 1) := by decide +kernel
theorem dX5_choosePhases_17 : decode cX5_choosePhases 17 = .ok (.getfield 7, 3) := by decide +kernel
theorem dX5_choosePhases_20 : decode cX5_choosePhases 20 = .ok (.bipush 29, 2) := by decide +kernel
theorem dX5_choosePhases_22 : decode cX5_choosePhases 22 = .ok (.iload_n 2, 1) := by decide +kernel
theorem dX5_choosePhases_23 : decode cX5_choosePhases 23 = .ok (.aload_n 0, 1) := by decide +kernel
theorem dX5_choosePhases_24 : decode cX5_choosePhases 24 = .ok (.getfield 7, 3) := by decide +kernel
theorem dX5_choosePhases_27 : decode cX5_choosePhases 27 = .ok (.bipush 10, 2) := by decide +kernel
theorem dX5_choosePhases_29 : decode cX5_choosePhases 29 = .ok (.iaload, 1) := by decide +kernel
theorem dX5_choosePhases_30 : decode cX5_choosePhases 30 = .ok (.iload_n 1, 1) := by decide +kernel
theorem dX5_choosePhases_31 : decode cX5_choosePhases 31 = .ok (.imul, 1) := by decide +kernel
theorem dX5_choosePhases_32 : decode cX5_choosePhases 32 = .ok (.if_icmp .le 26, 3) := by decide +kernel
theorem dX5_choosePhases_35 : decode cX5_choosePhases 35 = .ok (.iload_n 1, 1) := by decide +kernel
theorem dX5_choosePhases_36 : decode cX5_choosePhases 36 = .ok (.aload_n 0, 1) := by decide +kernel
theorem dX5_choosePhases_37 : decode cX5_choosePhases 37 = .ok (.getfield 7, 3) := by decide +kernel
theorem dX5_choosePhases_40 : decode cX5_choosePhases 40 = .ok (.bipush 15, 2) := by decide +kernel
theorem dX5_choosePhases_42 : decode cX5_choosePhases 42 = .ok (.iaload, 1) := by decide +kernel
theorem dX5_choosePhases_43 : decode cX5_choosePhases 43 = .ok (.if_icmp .ge 15, 3) := by decide +kernel
theorem dX5_choosePhases_46 : decode cX5_choosePhases 46 = .ok (.aload_n 0, 1) := by decide +kernel
theorem dX5_choosePhases_47 : decode cX5_choosePhases 47 = .ok (.getfield 7, 3) := by decide +kernel
theorem dX5_choosePhases_50 : decode cX5_choosePhases 50 = .ok (.bipush 29, 2) := by decide +kernel
theorem dX5_choosePhases_52 : decode cX5_choosePhases 52 = .ok (.iaload, 1) := by decide +kernel
theorem dX5_choosePhases_53 : decode cX5_choosePhases 53 = .ok (.iconst 1, 1) := by decide +kernel
theorem dX5_choosePhases_54 : decode cX5_choosePhases 54 = .ok (.iadd, 1) := by decide +kernel
theorem dX5_choosePhases_55 : decode cX5_choosePhases 55 = .ok (.goto 4, 3) := by decide +kernel
theorem dX5_choosePhases_58 : decode cX5_choosePhases 58 = .ok (.iconst 0, 1) := by decide +kernel
theorem dX5_choosePhases_59 : decode cX5_choosePhases 59 = .ok (.iastore, 1) := by decide +kernel
theorem dX5_choosePhases_60 : decode cX5_choosePhases 60 = .ok (.aload_n 0, 1) := by decide +kernel
theorem dX5_choosePhases_61 : decode cX5_choosePhases 61 = .ok (.getfield 7, 3) := by decide +kernel
theorem dX5_choosePhases_64 : decode cX5_choosePhases 64 = .ok (.bipush 29, 2) := by decide +kernel
theorem dX5_choosePhases_66 : decode cX5_choosePhases 66 = .ok (.iaload, 1) := by decide +kernel
theorem dX5_choosePhases_67 : decode cX5_choosePhases 67 = .ok (.iconst 3, 1) := by decide +kernel
theorem dX5_choosePhases_68 : decode cX5_choosePhases 68 = .ok (.if_icmp .ne 11, 3) := by decide +kernel
theorem dX5_choosePhases_71 : decode cX5_choosePhases 71 = .ok (.aload_n 0, 1) := by decide +kernel
theorem dX5_choosePhases_72 : decode cX5_choosePhases 72 = .ok (.iload_n 1, 1) := by decide +kernel
theorem dX5_choosePhases_73 : decode cX5_choosePhases 73 = .ok (.iconst 1, 1) := by decide +kernel
theorem dX5_choosePhases_74 : decode cX5_choosePhases 74 = .ok (.iadd, 1) := by decide +kernel
theorem dX5_choosePhases_75 : decode cX5_choosePhases 75 = .ok (.invokevirtual 45, 3) := by decide +kernel
theorem dX5_choosePhases_78 : decode cX5_choosePhases 78 = .ok (.return_, 1) := by decide +kernel
theorem dX5_choosePhases_79 : decode cX5_choosePhases 79 = .ok (.aload_n 0, 1) := by decide +kernel
theorem dX5_choosePhases_80 : decode cX5_choosePhases 80 = .ok (.getfield 7, 3) := by decide +kernel
theorem dX5_choosePhases_83 : decode cX5_choosePhases 83 = .ok (.bipush 30, 2) := by decide +kernel
theorem dX5_choosePhases_85 : decode cX5_choosePhases 85 = .ok (.iload_n 1, 1) := by decide +kernel
theorem dX5_choosePhases_86 : decode cX5_choosePhases 86 = .ok (.iconst 1, 1) := by decide +kernel
theorem dX5_choosePhases_87 : decode cX5_choosePhases 87 = .ok (.if_icmp .le 30, 3) := by decide +kernel
theorem dX5_choosePhases_90 : decode cX5_choosePhases 90 = .ok (.iload_n 2, 1) := by decide +kernel
theorem dX5_choosePhases_91 : decode cX5_choosePhases 91 = .ok (.aload_n 0, 1) := by decide +kernel
theorem dX5_choosePhases_92 : decode cX5_choosePhases 92 = .ok (.getfield 7, 3) := by decide +kernel
theorem dX5_choosePhases_95 : decode cX5_choosePhases 95 = .ok (.bipush 11, 2) := by decide +kernel
theorem dX5_choosePhases_97 : decode cX5_choosePhases 97 = .ok (.iaload, 1) := by decide +kernel
theorem dX5_choosePhases_98 : decode cX5_choosePhases 98 = .ok (.iload_n 1, 1) := by decide +kernel
theorem dX5_choosePhases_99 : decode cX5_choosePhases 99 = .ok (.iconst 1, 1) := by decide +kernel
theorem dX5_choosePhases_100 : decode cX5_choosePhases 100 = .ok (.isub, 1) := by decide +kernel
theorem dX5_choosePhases_101 : decode cX5_choosePhases 101 = .ok (.imul, 1) := by decide +kernel
theorem dX5_choosePhases_102 : decode cX5_choosePhases 102 = .ok (.if_icmp .ge 15, 3) := by decide +kernel
theorem dX5_choosePhases_105 : decode cX5_choosePhases 105 = .ok (.aload_n 0, 1) := by decide +kernel
theorem dX5_choosePhases_106 : decode cX5_choosePhases 106 = .ok (.getfield 7, 3) := by decide +kernel
theorem dX5_choosePhases_109 : decode cX5_choosePhases 109 = .ok (.bipush 30, 2) := by decide +kernel
theorem dX5_choosePhases_111 : decode cX5_choosePhases 111 = .ok (.iaload, 1) := by decide +kernel
theorem dX5_choosePhases_112 : decode cX5_choosePhases 112 = .ok (.iconst 1, 1) := by decide +kernel
theorem dX5_choosePhases_113 : decode cX5_choosePhases 113 = .ok (.iadd, 1) := by decide +kernel
theorem dX5_choosePhases_114 : decode cX5_choosePhases 114 = .ok (.goto 4, 3) := by decide +kernel
theorem dX5_choosePhases_117 : decode cX5_choosePhases 117 = .ok (.iconst 0, 1) := by decide +kernel
theorem dX5_choosePhases_118 : decode cX5_choosePhases 118 = .ok (.iastore, 1) := by decide +kernel
theorem dX5_choosePhases_119 : decode cX5_choosePhases 119 = .ok (.aload_n 0, 1) := by decide +kernel
theorem dX5_choosePhases_120 : decode cX5_choosePhases 120 = .ok (.getfield 7, 3) := by decide +kernel
theorem dX5_choosePhases_123 : decode cX5_choosePhases 123 = .ok (.bipush 30, 2) := by decide +kernel
theorem dX5_choosePhases_125 : decode cX5_choosePhases 125 = .ok (.iaload, 1) := by decide +kernel
theorem dX5_choosePhases_126 : decode cX5_choosePhases 126 = .ok (.iconst 5, 1) := by decide +kernel
theorem dX5_choosePhases_127 : decode cX5_choosePhases 127 = .ok (.if_icmp .ne 23, 3) := by decide +kernel
theorem dX5_choosePhases_130 : decode cX5_choosePhases 130 = .ok (.aload_n 0, 1) := by decide +kernel
theorem dX5_choosePhases_131 : decode cX5_choosePhases 131 = .ok (.iload_n 1, 1) := by decide +kernel
theorem dX5_choosePhases_132 : decode cX5_choosePhases 132 = .ok (.iconst 1, 1) := by decide +kernel
theorem dX5_choosePhases_133 : decode cX5_choosePhases 133 = .ok (.isub, 1) := by decide +kernel
theorem dX5_choosePhases_134 : decode cX5_choosePhases 134 = .ok (.invokevirtual 45, 3) := by decide +kernel
theorem dX5_choosePhases_137 : decode cX5_choosePhases 137 = .ok (.aload_n 0, 1) := by decide +kernel
theorem dX5_choosePhases_138 : decode cX5_choosePhases 138 = .ok (.getfield 7, 3) := by decide +kernel
theorem dX5_choosePhases_141 : decode cX5_choosePhases 141 = .ok (.iload_n 1, 1) := by decide +kernel
theorem dX5_choosePhases_142 : decode cX5_choosePhases 142 = .ok (.iconst 1, 1) := by decide +kernel
theorem dX5_choosePhases_143 : decode cX5_choosePhases 143 = .ok (.isub, 1) := by decide +kernel
theorem dX5_choosePhases_144 : decode cX5_choosePhases 144 = .ok (.iconst 1, 1) := by decide +kernel
theorem dX5_choosePhases_145 : decode cX5_choosePhases 145 = .ok (.invokestatic 35, 3) := by decide +kernel
theorem dX5_choosePhases_148 : decode cX5_choosePhases 148 = .ok (.iconst 0, 1) := by decide +kernel
theorem dX5_choosePhases_149 : decode cX5_choosePhases 149 = .ok (.iastore, 1) := by decide +kernel
theorem dX5_choosePhases_150 : decode cX5_choosePhases 150 = .ok (.return_, 1) := by decide +kernel
set_option maxRecDepth 20000 in
theorem ggX5_beginPulse_X5_at : GoodIn wsX5_beginPulse wsX5_at := goodIn_r _ [5] rfl (by decide +kernel)
set_option maxRecDepth 20000 in
theorem gX5_beginPulse_X5_at : GoodIn wsX5_beginPulse (va_wsS RX5 35 yX5_at wsX5_at) := goodIn_app (goodIn_r _ [2, 3, 4] rfl (by decide +kernel)) ggX5_beginPulse_X5_at
set_option maxRecDepth 20000 in
theorem ggX5_beginPulse_X5_sum : GoodIn wsX5_beginPulse wsX5_sum := goodIn_r _ [9, 1, 2, 3, 4, 5, 13, 14, 15, 16, 17, 18, 19, 20, 21, 22, 23, 24, 25, 26, 27] rfl (by decide +kernel)
set_option maxRecDepth 20000 in
theorem gX5_beginPulse_X5_sum : GoodIn wsX5_beginPulse (wsV RX5 48 RX5 yX5_sum wsX5_sum) := goodIn_app (goodIn_r _ [6, 7, 8, 4] rfl (by decide +kernel)) ggX5_beginPulse_X5_sum
set_option maxRecDepth 20000 in
theorem ggX5_beginPulse_X5_clamped : GoodIn wsX5_beginPulse wsX5_clamped := goodIn_r _ [12] rfl (by decide +kernel)
set_option maxRecDepth 20000 in
theorem gX5_beginPulse_X5_clamped : GoodIn wsX5_beginPulse (va_wsS RX5 41 yX5_clamped wsX5_clamped) := goodIn_app (goodIn_r _ [10, 11, 4] rfl (by decide +kernel)) ggX5_beginPulse_X5_clamped
theorem dX5_beginPulse_0 : decode cX5_beginPulse 0 = .ok (.aload_n 0, 1) := by decide +kernel
theorem dX5_beginPulse_1 : decode cX5_beginPulse 1 = .ok (.getfield 7, 3) := by decide +kernel
theorem dX5_beginPulse_4 : decode cX5_beginPulse 4 = .ok (.bipush 17, 2) := by decide +kernel
theorem dX5_beginPulse_6 : decode cX5_beginPulse 6 = .ok (.iaload, 1) := by decide +kernel
theorem dX5_beginPulse_7 : decode cX5_beginPulse 7 = .ok (.aload_n 0, 1) := by decide +kernel
theorem dX5_beginPulse_8 : decode cX5_beginPulse 8 = .ok (.getfield 7, 3) := by decide +kernel
theorem dX5_beginPulse_11 : decode cX5_beginPulse 11 = .ok (.bipush 18, 2) := by decide +kernel
theorem dX5_beginPulse_13 : decode cX5_beginPulse 13 = .ok (.iaload, 1) := by decide +kernel
theorem dX5_beginPulse_14 : decode cX5_beginPulse 14 = .ok (.if_icmp .lt 62, 3) := by decide +kernel
theorem dX5_beginPulse_17 : decode cX5_beginPulse 17 = .ok (.aload_n 0, 1) := by decide +kernel
theorem dX5_beginPulse_18 : decode cX5_beginPulse 18 = .ok (.getfield 7, 3) := by decide +kernel
theorem dX5_beginPulse_21 : decode cX5_beginPulse 21 = .ok (.bipush 20, 2) := by decide +kernel
theorem dX5_beginPulse_23 : decode cX5_beginPulse 23 = .ok (.iaload, 1) := by decide +kernel
theorem dX5_beginPulse_24 : decode cX5_beginPulse 24 = .ok (.iconst 1, 1) := by decide +kernel
theorem dX5_beginPulse_25 : decode cX5_beginPulse 25 = .ok (.if_icmp .eq 14, 3) := by decide +kernel
theorem dX5_beginPulse_28 : decode cX5_beginPulse 28 = .ok (.iload_n 2, 1) := by decide +kernel
theorem dX5_beginPulse_29 : decode cX5_beginPulse 29 = .ok (.aload_n 0, 1) := by decide +kernel
theorem dX5_beginPulse_30 : decode cX5_beginPulse 30 = .ok (.getfield 7, 3) := by decide +kernel
theorem dX5_beginPulse_33 : decode cX5_beginPulse 33 = .ok (.bipush 9, 2) := by decide +kernel
theorem dX5_beginPulse_35 : decode cX5_beginPulse 35 = .ok (.iaload, 1) := by decide +kernel
theorem dX5_beginPulse_36 : decode cX5_beginPulse 36 = .ok (.if_icmp .ge 40, 3) := by decide +kernel
theorem dX5_beginPulse_39 : decode cX5_beginPulse 39 = .ok (.aload_n 0, 1) := by decide +kernel
theorem dX5_beginPulse_40 : decode cX5_beginPulse 40 = .ok (.getfield 7, 3) := by decide +kernel
theorem dX5_beginPulse_43 : decode cX5_beginPulse 43 = .ok (.iload_n 1, 1) := by decide +kernel
theorem dX5_beginPulse_44 : decode cX5_beginPulse 44 = .ok (.iconst 1, 1) := by decide +kernel
theorem dX5_beginPulse_45 : decode cX5_beginPulse 45 = .ok (.invokestatic 35, 3) := by decide +kernel
theorem dX5_beginPulse_48 : decode cX5_beginPulse 48 = .ok (.iconst 0, 1) := by decide +kernel
theorem dX5_beginPulse_49 : decode cX5_beginPulse 49 = .ok (.iastore, 1) := by decide +kernel
theorem dX5_beginPulse_50 : decode cX5_beginPulse 50 = .ok (.aload_n 0, 1) := by decide +kernel
theorem dX5_beginPulse_51 : decode cX5_beginPulse 51 = .ok (.getfield 7, 3) := by decide +kernel
theorem dX5_beginPulse_54 : decode cX5_beginPulse 54 = .ok (.iload_n 1, 1) := by decide +kernel
theorem dX5_beginPulse_55 : decode cX5_beginPulse 55 = .ok (.iconst 5, 1) := by decide +kernel
theorem dX5_beginPulse_56 : decode cX5_beginPulse 56 = .ok (.invokestatic 35, 3) := by decide +kernel
theorem dX5_beginPulse_59 : decode cX5_beginPulse 59 = .ok (.dup2, 1) := by decide +kernel
theorem dX5_beginPulse_60 : decode cX5_beginPulse 60 = .ok (.iaload, 1) := by decide +kernel
theorem dX5_beginPulse_61 : decode cX5_beginPulse 61 = .ok (.iconst 1, 1) := by decide +kernel
theorem dX5_beginPulse_62 : decode cX5_beginPulse 62 = .ok (.iadd, 1) := by decide +kernel
theorem dX5_beginPulse_63 : decode cX5_beginPulse 63 = .ok (.iastore, 1) := by decide +kernel
theorem dX5_beginPulse_64 : decode cX5_beginPulse 64 = .ok (.aload_n 0, 1) := by decide +kernel
theorem dX5_beginPulse_65 : decode cX5_beginPulse 65 = .ok (.getfield 7, 3) := by decide +kernel
theorem dX5_beginPulse_68 : decode cX5_beginPulse 68 = .ok (.bipush 26, 2) := by decide +kernel
theorem dX5_beginPulse_70 : decode cX5_beginPulse 70 = .ok (.dup2, 1) := by decide +kernel
theorem dX5_beginPulse_71 : decode cX5_beginPulse 71 = .ok (.iaload, 1) := by decide +kernel
theorem dX5_beginPulse_72 : decode cX5_beginPulse 72 = .ok (.iconst 1, 1) := by decide +kernel
theorem dX5_beginPulse_73 : decode cX5_beginPulse 73 = .ok (.iadd, 1) := by decide +kernel
theorem dX5_beginPulse_74 : decode cX5_beginPulse 74 = .ok (.iastore, 1) := by decide +kernel
theorem dX5_beginPulse_75 : decode cX5_beginPulse 75 = .ok (.return_, 1) := by decide +kernel
theorem dX5_beginPulse_76 : decode cX5_beginPulse 76 = .ok (.aload_n 0, 1) := by decide +kernel
theorem dX5_beginPulse_77 : decode cX5_beginPulse 77 = .ok (.getfield 7, 3) := by decide +kernel
theorem dX5_beginPulse_80 : decode cX5_beginPulse 80 = .ok (.iload_n 1, 1) := by decide +kernel
theorem dX5_beginPulse_81 : decode cX5_beginPulse 81 = .ok (.iconst 0, 1) := by decide +kernel
theorem dX5_beginPulse_82 : decode cX5_beginPulse 82 = .ok (.invokestatic 35, 3) := by decide +kernel
theorem dX5_beginPulse_85 : decode cX5_beginPulse 85 = .ok (.iaload, 1) := by decide +kernel
theorem dX5_beginPulse_86 : decode cX5_beginPulse 86 = .ok (.aload_n 0, 1) := by decide +kernel
theorem dX5_beginPulse_87 : decode cX5_beginPulse 87 = .ok (.aload_n 0, 1) := by decide +kernel
theorem dX5_beginPulse_88 : decode cX5_beginPulse 88 = .ok (.getfield 7, 3) := by decide +kernel
theorem dX5_beginPulse_91 : decode cX5_beginPulse 91 = .ok (.bipush 16, 2) := by decide +kernel
theorem dX5_beginPulse_93 : decode cX5_beginPulse 93 = .ok (.iaload, 1) := by decide +kernel
theorem dX5_beginPulse_94 : decode cX5_beginPulse 94 = .ok (.invokevirtual 48, 3) := by decide +kernel
theorem dX5_beginPulse_97 : decode cX5_beginPulse 97 = .ok (.aload_n 0, 1) := by decide +kernel
theorem dX5_beginPulse_98 : decode cX5_beginPulse 98 = .ok (.getfield 7, 3) := by decide +kernel
theorem dX5_beginPulse_101 : decode cX5_beginPulse 101 = .ok (.bipush 16, 2) := by decide +kernel
theorem dX5_beginPulse_103 : decode cX5_beginPulse 103 = .ok (.iaload, 1) := by decide +kernel
theorem dX5_beginPulse_104 : decode cX5_beginPulse 104 = .ok (.idiv, 1) := by decide +kernel
theorem dX5_beginPulse_105 : decode cX5_beginPulse 105 = .ok (.isub, 1) := by decide +kernel
theorem dX5_beginPulse_106 : decode cX5_beginPulse 106 = .ok (.istore_n 3, 1) := by decide +kernel
theorem dX5_beginPulse_107 : decode cX5_beginPulse 107 = .ok (.aload_n 0, 1) := by decide +kernel
theorem dX5_beginPulse_108 : decode cX5_beginPulse 108 = .ok (.getfield 7, 3) := by decide +kernel
theorem dX5_beginPulse_111 : decode cX5_beginPulse 111 = .ok (.bipush 21, 2) := by decide +kernel
theorem dX5_beginPulse_113 : decode cX5_beginPulse 113 = .ok (.iaload, 1) := by decide +kernel
theorem dX5_beginPulse_114 : decode cX5_beginPulse 114 = .ok (.iload_n 3, 1) := by decide +kernel
theorem dX5_beginPulse_115 : decode cX5_beginPulse 115 = .ok (.aload_n 0, 1) := by decide +kernel
theorem dX5_beginPulse_116 : decode cX5_beginPulse 116 = .ok (.getfield 7, 3) := by decide +kernel
theorem dX5_beginPulse_119 : decode cX5_beginPulse 119 = .ok (.bipush 14, 2) := by decide +kernel
theorem dX5_beginPulse_121 : decode cX5_beginPulse 121 = .ok (.iaload, 1) := by decide +kernel
theorem dX5_beginPulse_122 : decode cX5_beginPulse 122 = .ok (.imul, 1) := by decide +kernel
theorem dX5_beginPulse_123 : decode cX5_beginPulse 123 = .ok (.sipush 1000, 3) := by decide +kernel
theorem dX5_beginPulse_126 : decode cX5_beginPulse 126 = .ok (.idiv, 1) := by decide +kernel
theorem dX5_beginPulse_127 : decode cX5_beginPulse 127 = .ok (.isub, 1) := by decide +kernel
theorem dX5_beginPulse_128 : decode cX5_beginPulse 128 = .ok (.iconst 0, 1) := by decide +kernel
theorem dX5_beginPulse_129 : decode cX5_beginPulse 129 = .ok (.sipush 900, 3) := by decide +kernel
theorem dX5_beginPulse_132 : decode cX5_beginPulse 132 = .ok (.invokestatic 41, 3) := by decide +kernel
theorem dX5_beginPulse_135 : decode cX5_beginPulse 135 = .ok (.istore 4, 2) := by decide +kernel
theorem dX5_beginPulse_137 : decode cX5_beginPulse 137 = .ok (.aload_n 0, 1) := by decide +kernel
theorem dX5_beginPulse_138 : decode cX5_beginPulse 138 = .ok (.getfield 7, 3) := by decide +kernel
theorem dX5_beginPulse_141 : decode cX5_beginPulse 141 = .ok (.iload_n 1, 1) := by decide +kernel
theorem dX5_beginPulse_142 : decode cX5_beginPulse 142 = .ok (.iconst 2, 1) := by decide +kernel
theorem dX5_beginPulse_143 : decode cX5_beginPulse 143 = .ok (.invokestatic 35, 3) := by decide +kernel
theorem dX5_beginPulse_146 : decode cX5_beginPulse 146 = .ok (.iaload, 1) := by decide +kernel
theorem dX5_beginPulse_147 : decode cX5_beginPulse 147 = .ok (.bipush 20, 2) := by decide +kernel
theorem dX5_beginPulse_149 : decode cX5_beginPulse 149 = .ok (.iload 4, 2) := by decide +kernel
theorem dX5_beginPulse_151 : decode cX5_beginPulse 151 = .ok (.imul, 1) := by decide +kernel
theorem dX5_beginPulse_152 : decode cX5_beginPulse 152 = .ok (.iadd, 1) := by decide +kernel
theorem dX5_beginPulse_153 : decode cX5_beginPulse 153 = .ok (.istore 5, 2) := by decide +kernel
theorem dX5_beginPulse_155 : decode cX5_beginPulse 155 = .ok (.aload_n 0, 1) := by decide +kernel
theorem dX5_beginPulse_156 : decode cX5_beginPulse 156 = .ok (.getfield 7, 3) := by decide +kernel
theorem dX5_beginPulse_159 : decode cX5_beginPulse 159 = .ok (.iload_n 1, 1) := by decide +kernel
theorem dX5_beginPulse_160 : decode cX5_beginPulse 160 = .ok (.iconst 1, 1) := by decide +kernel
theorem dX5_beginPulse_161 : decode cX5_beginPulse 161 = .ok (.invokestatic 35, 3) := by decide +kernel
theorem dX5_beginPulse_164 : decode cX5_beginPulse 164 = .ok (.iload 5, 2) := by decide +kernel
theorem dX5_beginPulse_166 : decode cX5_beginPulse 166 = .ok (.sipush 1000, 3) := by decide +kernel
theorem dX5_beginPulse_169 : decode cX5_beginPulse 169 = .ok (.idiv, 1) := by decide +kernel
theorem dX5_beginPulse_170 : decode cX5_beginPulse 170 = .ok (.iastore, 1) := by decide +kernel
theorem dX5_beginPulse_171 : decode cX5_beginPulse 171 = .ok (.aload_n 0, 1) := by decide +kernel
theorem dX5_beginPulse_172 : decode cX5_beginPulse 172 = .ok (.getfield 7, 3) := by decide +kernel
theorem dX5_beginPulse_175 : decode cX5_beginPulse 175 = .ok (.iload_n 1, 1) := by decide +kernel
theorem dX5_beginPulse_176 : decode cX5_beginPulse 176 = .ok (.iconst 2, 1) := by decide +kernel
theorem dX5_beginPulse_177 : decode cX5_beginPulse 177 = .ok (.invokestatic 35, 3) := by decide +kernel
theorem dX5_beginPulse_180 : decode cX5_beginPulse 180 = .ok (.iload 5, 2) := by decide +kernel
theorem dX5_beginPulse_182 : decode cX5_beginPulse 182 = .ok (.sipush 1000, 3) := by decide +kernel
theorem dX5_beginPulse_185 : decode cX5_beginPulse 185 = .ok (.irem, 1) := by decide +kernel
theorem dX5_beginPulse_186 : decode cX5_beginPulse 186 = .ok (.iastore, 1) := by decide +kernel
theorem dX5_beginPulse_187 : decode cX5_beginPulse 187 = .ok (.aload_n 0, 1) := by decide +kernel
theorem dX5_beginPulse_188 : decode cX5_beginPulse 188 = .ok (.getfield 7, 3) := by decide +kernel
theorem dX5_beginPulse_191 : decode cX5_beginPulse 191 = .ok (.iload_n 1, 1) := by decide +kernel
theorem dX5_beginPulse_192 : decode cX5_beginPulse 192 = .ok (.bipush 6, 2) := by decide +kernel
theorem dX5_beginPulse_194 : decode cX5_beginPulse 194 = .ok (.invokestatic 35, 3) := by decide +kernel
theorem dX5_beginPulse_197 : decode cX5_beginPulse 197 = .ok (.dup2, 1) := by decide +kernel
theorem dX5_beginPulse_198 : decode cX5_beginPulse 198 = .ok (.iaload, 1) := by decide +kernel
theorem dX5_beginPulse_199 : decode cX5_beginPulse 199 = .ok (.iconst 1, 1) := by decide +kernel
theorem dX5_beginPulse_200 : decode cX5_beginPulse 200 = .ok (.iadd, 1) := by decide +kernel
theorem dX5_beginPulse_201 : decode cX5_beginPulse 201 = .ok (.iastore, 1) := by decide +kernel
theorem dX5_beginPulse_202 : decode cX5_beginPulse 202 = .ok (.return_, 1) := by decide +kernel
set_option maxRecDepth 20000 in
theorem ggX5_step_X5_at : GoodIn wsX5_step wsX5_at := goodIn_r _ [5] rfl (by decide +kernel)
set_option maxRecDepth 20000 in
theorem gX5_step_X5_at : GoodIn wsX5_step (va_wsS RX5 35 yX5_at wsX5_at) := goodIn_app (goodIn_r _ [2, 3, 4] rfl (by decide +kernel)) ggX5_step_X5_at
theorem dX5_step_0 : decode cX5_step 0 = .ok (.aload_n 0, 1) := by decide +kernel
theorem dX5_step_1 : decode cX5_step 1 = .ok (.getfield 7, 3) := by decide +kernel
theorem dX5_step_4 : decode cX5_step 4 = .ok (.iload_n 1, 1) := by decide +kernel
theorem dX5_step_5 : decode cX5_step 5 = .ok (.iconst 1, 1) := by decide +kernel
theorem dX5_step_6 : decode cX5_step 6 = .ok (.invokestatic 35, 3) := by decide +kernel
theorem dX5_step_9 : decode cX5_step 9 = .ok (.iaload, 1) := by decide +kernel
theorem dX5_step_10 : decode cX5_step 10 = .ok (.ifCond .le 58, 3) := by decide +kernel
theorem dX5_step_13 : decode cX5_step 13 = .ok (.aload_n 0, 1) := by decide +kernel
theorem dX5_step_14 : decode cX5_step 14 = .ok (.getfield 7, 3) := by decide +kernel
theorem dX5_step_17 : decode cX5_step 17 = .ok (.iload_n 1, 1) := by decide +kernel
theorem dX5_step_18 : decode cX5_step 18 = .ok (.iconst 0, 1) := by decide +kernel
theorem dX5_step_19 : decode cX5_step 19 = .ok (.invokestatic 35, 3) := by decide +kernel
theorem dX5_step_22 : decode cX5_step 22 = .ok (.iaload, 1) := by decide +kernel
theorem dX5_step_23 : decode cX5_step 23 = .ok (.aload_n 0, 1) := by decide +kernel
theorem dX5_step_24 : decode cX5_step 24 = .ok (.getfield 7, 3) := by decide +kernel
theorem dX5_step_27 : decode cX5_step 27 = .ok (.iconst 5, 1) := by decide +kernel
theorem dX5_step_28 : decode cX5_step 28 = .ok (.iaload, 1) := by decide +kernel
theorem dX5_step_29 : decode cX5_step 29 = .ok (.if_icmp .lt 39, 3) := by decide +kernel
theorem dX5_step_32 : decode cX5_step 32 = .ok (.aload_n 0, 1) := by decide +kernel
theorem dX5_step_33 : decode cX5_step 33 = .ok (.getfield 7, 3) := by decide +kernel
theorem dX5_step_36 : decode cX5_step 36 = .ok (.iload_n 1, 1) := by decide +kernel
theorem dX5_step_37 : decode cX5_step 37 = .ok (.iconst 1, 1) := by decide +kernel
theorem dX5_step_38 : decode cX5_step 38 = .ok (.invokestatic 35, 3) := by decide +kernel
theorem dX5_step_41 : decode cX5_step 41 = .ok (.iconst 0, 1) := by decide +kernel
theorem dX5_step_42 : decode cX5_step 42 = .ok (.iastore, 1) := by decide +kernel
theorem dX5_step_43 : decode cX5_step 43 = .ok (.aload_n 0, 1) := by decide +kernel
theorem dX5_step_44 : decode cX5_step 44 = .ok (.getfield 7, 3) := by decide +kernel
theorem dX5_step_47 : decode cX5_step 47 = .ok (.iload_n 1, 1) := by decide +kernel
theorem dX5_step_48 : decode cX5_step 48 = .ok (.iconst 4, 1) := by decide +kernel
theorem dX5_step_49 : decode cX5_step 49 = .ok (.invokestatic 35, 3) := by decide +kernel
theorem dX5_step_52 : decode cX5_step 52 = .ok (.dup2, 1) := by decide +kernel
theorem dX5_step_53 : decode cX5_step 53 = .ok (.iaload, 1) := by decide +kernel
theorem dX5_step_54 : decode cX5_step 54 = .ok (.iconst 1, 1) := by decide +kernel
theorem dX5_step_55 : decode cX5_step 55 = .ok (.iadd, 1) := by decide +kernel
theorem dX5_step_56 : decode cX5_step 56 = .ok (.iastore, 1) := by decide +kernel
theorem dX5_step_57 : decode cX5_step 57 = .ok (.aload_n 0, 1) := by decide +kernel
theorem dX5_step_58 : decode cX5_step 58 = .ok (.getfield 7, 3) := by decide +kernel
theorem dX5_step_61 : decode cX5_step 61 = .ok (.bipush 25, 2) := by decide +kernel
theorem dX5_step_63 : decode cX5_step 63 = .ok (.dup2, 1) := by decide +kernel
theorem dX5_step_64 : decode cX5_step 64 = .ok (.iaload, 1) := by decide +kernel
theorem dX5_step_65 : decode cX5_step 65 = .ok (.iconst 1, 1) := by decide +kernel
theorem dX5_step_66 : decode cX5_step 66 = .ok (.iadd, 1) := by decide +kernel
theorem dX5_step_67 : decode cX5_step 67 = .ok (.iastore, 1) := by decide +kernel
theorem dX5_step_68 : decode cX5_step 68 = .ok (.aload_n 0, 1) := by decide +kernel
theorem dX5_step_69 : decode cX5_step 69 = .ok (.getfield 7, 3) := by decide +kernel
theorem dX5_step_72 : decode cX5_step 72 = .ok (.iload_n 1, 1) := by decide +kernel
theorem dX5_step_73 : decode cX5_step 73 = .ok (.iconst 1, 1) := by decide +kernel
theorem dX5_step_74 : decode cX5_step 74 = .ok (.invokestatic 35, 3) := by decide +kernel
theorem dX5_step_77 : decode cX5_step 77 = .ok (.iaload, 1) := by decide +kernel
theorem dX5_step_78 : decode cX5_step 78 = .ok (.ifCond .le 68, 3) := by decide +kernel
theorem dX5_step_81 : decode cX5_step 81 = .ok (.aload_n 0, 1) := by decide +kernel
theorem dX5_step_82 : decode cX5_step 82 = .ok (.getfield 7, 3) := by decide +kernel
theorem dX5_step_85 : decode cX5_step 85 = .ok (.iload_n 1, 1) := by decide +kernel
theorem dX5_step_86 : decode cX5_step 86 = .ok (.iconst 1, 1) := by decide +kernel
theorem dX5_step_87 : decode cX5_step 87 = .ok (.invokestatic 35, 3) := by decide +kernel
theorem dX5_step_90 : decode cX5_step 90 = .ok (.dup2, 1) := by decide +kernel
theorem dX5_step_91 : decode cX5_step 91 = .ok (.iaload, 1) := by decide +kernel
theorem dX5_step_92 : decode cX5_step 92 = .ok (.iconst 1, 1) := by decide +kernel
theorem dX5_step_93 : decode cX5_step 93 = .ok (.isub, 1) := by decide +kernel
theorem dX5_step_94 : decode cX5_step 94 = .ok (.iastore, 1) := by decide +kernel
theorem dX5_step_95 : decode cX5_step 95 = .ok (.aload_n 0, 1) := by decide +kernel
theorem dX5_step_96 : decode cX5_step 96 = .ok (.getfield 7, 3) := by decide +kernel
theorem dX5_step_99 : decode cX5_step 99 = .ok (.iload_n 1, 1) := by decide +kernel
theorem dX5_step_100 : decode cX5_step 100 = .ok (.iconst 3, 1) := by decide +kernel
theorem dX5_step_101 : decode cX5_step 101 = .ok (.invokestatic 35, 3) := by decide +kernel
theorem dX5_step_104 : decode cX5_step 104 = .ok (.dup2, 1) := by decide +kernel
theorem dX5_step_105 : decode cX5_step 105 = .ok (.iaload, 1) := by decide +kernel
theorem dX5_step_106 : decode cX5_step 106 = .ok (.iconst 1, 1) := by decide +kernel
theorem dX5_step_107 : decode cX5_step 107 = .ok (.iadd, 1) := by decide +kernel
theorem dX5_step_108 : decode cX5_step 108 = .ok (.iastore, 1) := by decide +kernel
theorem dX5_step_109 : decode cX5_step 109 = .ok (.aload_n 0, 1) := by decide +kernel
theorem dX5_step_110 : decode cX5_step 110 = .ok (.getfield 7, 3) := by decide +kernel
theorem dX5_step_113 : decode cX5_step 113 = .ok (.iload_n 1, 1) := by decide +kernel
theorem dX5_step_114 : decode cX5_step 114 = .ok (.iconst 0, 1) := by decide +kernel
theorem dX5_step_115 : decode cX5_step 115 = .ok (.invokestatic 35, 3) := by decide +kernel
theorem dX5_step_118 : decode cX5_step 118 = .ok (.dup2, 1) := by decide +kernel
theorem dX5_step_119 : decode cX5_step 119 = .ok (.iaload, 1) := by decide +kernel
theorem dX5_step_120 : decode cX5_step 120 = .ok (.aload_n 0, 1) := by decide +kernel
theorem dX5_step_121 : decode cX5_step 121 = .ok (.getfield 7, 3) := by decide +kernel
theorem dX5_step_124 : decode cX5_step 124 = .ok (.iconst 0, 1) := by decide +kernel
theorem dX5_step_125 : decode cX5_step 125 = .ok (.iaload, 1) := by decide +kernel
theorem dX5_step_126 : decode cX5_step 126 = .ok (.aload_n 0, 1) := by decide +kernel
theorem dX5_step_127 : decode cX5_step 127 = .ok (.getfield 7, 3) := by decide +kernel
theorem dX5_step_130 : decode cX5_step 130 = .ok (.bipush 17, 2) := by decide +kernel
theorem dX5_step_132 : decode cX5_step 132 = .ok (.iaload, 1) := by decide +kernel
theorem dX5_step_133 : decode cX5_step 133 = .ok (.isub, 1) := by decide +kernel
theorem dX5_step_134 : decode cX5_step 134 = .ok (.aload_n 0, 1) := by decide +kernel
theorem dX5_step_135 : decode cX5_step 135 = .ok (.getfield 7, 3) := by decide +kernel
theorem dX5_step_138 : decode cX5_step 138 = .ok (.iconst 3, 1) := by decide +kernel
theorem dX5_step_139 : decode cX5_step 139 = .ok (.iaload, 1) := by decide +kernel
theorem dX5_step_140 : decode cX5_step 140 = .ok (.idiv, 1) := by decide +kernel
theorem dX5_step_141 : decode cX5_step 141 = .ok (.iadd, 1) := by decide +kernel
theorem dX5_step_142 : decode cX5_step 142 = .ok (.iastore, 1) := by decide +kernel
theorem dX5_step_143 : decode cX5_step 143 = .ok (.goto 30, 3) := by decide +kernel
theorem dX5_step_146 : decode cX5_step 146 = .ok (.aload_n 0, 1) := by decide +kernel
theorem dX5_step_147 : decode cX5_step 147 = .ok (.getfield 7, 3) := by decide +kernel
theorem dX5_step_150 : decode cX5_step 150 = .ok (.iload_n 1, 1) := by decide +kernel
theorem dX5_step_151 : decode cX5_step 151 = .ok (.iconst 0, 1) := by decide +kernel
theorem dX5_step_152 : decode cX5_step 152 = .ok (.invokestatic 35, 3) := by decide +kernel
theorem dX5_step_155 : decode cX5_step 155 = .ok (.dup2, 1) := by decide +kernel
theorem dX5_step_156 : decode cX5_step 156 = .ok (.iaload, 1) := by decide +kernel
theorem dX5_step_157 : decode cX5_step 157 = .ok (.aload_n 0, 1) := by decide +kernel
theorem dX5_step_158 : decode cX5_step 158 = .ok (.getfield 7, 3) := by decide +kernel
theorem dX5_step_161 : decode cX5_step 161 = .ok (.bipush 17, 2) := by decide +kernel
theorem dX5_step_163 : decode cX5_step 163 = .ok (.iaload, 1) := by decide +kernel
theorem dX5_step_164 : decode cX5_step 164 = .ok (.aload_n 0, 1) := by decide +kernel
theorem dX5_step_165 : decode cX5_step 165 = .ok (.getfield 7, 3) := by decide +kernel
theorem dX5_step_168 : decode cX5_step 168 = .ok (.iconst 3, 1) := by decide +kernel
theorem dX5_step_169 : decode cX5_step 169 = .ok (.iaload, 1) := by decide +kernel
theorem dX5_step_170 : decode cX5_step 170 = .ok (.idiv, 1) := by decide +kernel
theorem dX5_step_171 : decode cX5_step 171 = .ok (.isub, 1) := by decide +kernel
theorem dX5_step_172 : decode cX5_step 172 = .ok (.iastore, 1) := by decide +kernel
theorem dX5_step_173 : decode cX5_step 173 = .ok (.aload_n 0, 1) := by decide +kernel
theorem dX5_step_174 : decode cX5_step 174 = .ok (.getfield 7, 3) := by decide +kernel
theorem dX5_step_177 : decode cX5_step 177 = .ok (.iload_n 1, 1) := by decide +kernel
theorem dX5_step_178 : decode cX5_step 178 = .ok (.iconst 0, 1) := by decide +kernel
theorem dX5_step_179 : decode cX5_step 179 = .ok (.invokestatic 35, 3) := by decide +kernel
theorem dX5_step_182 : decode cX5_step 182 = .ok (.aload_n 0, 1) := by decide +kernel
theorem dX5_step_183 : decode cX5_step 183 = .ok (.getfield 7, 3) := by decide +kernel
theorem dX5_step_186 : decode cX5_step 186 = .ok (.iload_n 1, 1) := by decide +kernel
theorem dX5_step_187 : decode cX5_step 187 = .ok (.iconst 0, 1) := by decide +kernel
theorem dX5_step_188 : decode cX5_step 188 = .ok (.invokestatic 35, 3) := by decide +kernel
theorem dX5_step_191 : decode cX5_step 191 = .ok (.iaload, 1) := by decide +kernel
theorem dX5_step_192 : decode cX5_step 192 = .ok (.ifCond .ge 7, 3) := by decide +kernel
theorem dX5_step_195 : decode cX5_step 195 = .ok (.iconst 0, 1) := by decide +kernel
theorem dX5_step_196 : decode cX5_step 196 = .ok (.goto 13, 3) := by decide +kernel
theorem dX5_step_199 : decode cX5_step 199 = .ok (.aload_n 0, 1) := by decide +kernel
theorem dX5_step_200 : decode cX5_step 200 = .ok (.getfield 7, 3) := by decide +kernel
theorem dX5_step_203 : decode cX5_step 203 = .ok (.iload_n 1, 1) := by decide +kernel
theorem dX5_step_204 : decode cX5_step 204 = .ok (.iconst 0, 1) := by decide +kernel
theorem dX5_step_205 : decode cX5_step 205 = .ok (.invokestatic 35, 3) := by decide +kernel
theorem dX5_step_208 : decode cX5_step 208 = .ok (.iaload, 1) := by decide +kernel
theorem dX5_step_209 : decode cX5_step 209 = .ok (.iastore, 1) := by decide +kernel
theorem dX5_step_210 : decode cX5_step 210 = .ok (.return_, 1) := by decide +kernel
set_option maxRecDepth 20000 in
theorem ggX5_slot_X5_runs : GoodIn wsX5_slot wsX5_runs := goodIn_r _ [10, 1, 33, 34, 35, 36, 37, 38, 39, 40, 41, 42, 43, 44, 45, 46, 47] rfl (by decide +kernel)
set_option maxRecDepth 20000 in
theorem gX5_slot_X5_runs : GoodIn wsX5_slot (wsV RX5 51 RX5 yX5_runs wsX5_runs) := goodIn_app (goodIn_r _ [6, 7, 8, 9] rfl (by decide +kernel)) ggX5_slot_X5_runs
set_option maxRecDepth 20000 in
theorem ggX5_slot_X5_beginPulse : GoodIn wsX5_slot wsX5_beginPulse := goodIn_r _ [14, 1, 15, 16, 9, 17, 18, 19, 20, 21, 22, 23, 24, 33, 34, 35, 36, 37, 38, 39, 40, 41, 42, 43, 44, 45, 46, 47] rfl (by decide +kernel)
set_option maxRecDepth 20000 in
theorem gX5_slot_X5_beginPulse : GoodIn wsX5_slot (wsV RX5 55 RX5 yX5_beginPulse wsX5_beginPulse) := goodIn_app (goodIn_r _ [11, 12, 13, 9] rfl (by decide +kernel)) ggX5_slot_X5_beginPulse
set_option maxRecDepth 20000 in
theorem ggX5_slot_X5_step : GoodIn wsX5_slot wsX5_step := goodIn_r _ [28, 1, 15, 16, 9, 17, 33, 34, 35, 36, 37, 38, 39, 40, 41, 42, 43, 44, 45, 46, 47] rfl (by decide +kernel)
set_option maxRecDepth 20000 in
theorem gX5_slot_X5_step : GoodIn wsX5_slot (wsV RX5 59 RX5 yX5_step wsX5_step) := goodIn_app (goodIn_r _ [25, 26, 27, 9] rfl (by decide +kernel)) ggX5_slot_X5_step
set_option maxRecDepth 20000 in
theorem ggX5_slot_X5_at : GoodIn wsX5_slot wsX5_at := goodIn_r _ [17] rfl (by decide +kernel)
set_option maxRecDepth 20000 in
theorem gX5_slot_X5_at : GoodIn wsX5_slot (va_wsS RX5 35 yX5_at wsX5_at) := goodIn_app (goodIn_r _ [15, 16, 9] rfl (by decide +kernel)) ggX5_slot_X5_at
set_option maxRecDepth 20000 in
theorem ggX5_slot_X5_sum : GoodIn wsX5_slot wsX5_sum := goodIn_r _ [21, 1, 15, 16, 9, 17, 33, 34, 35, 36, 37, 38, 39, 40, 41, 42, 43, 44, 45, 46, 47] rfl (by decide +kernel)
set_option maxRecDepth 20000 in
theorem gX5_slot_X5_sum : GoodIn wsX5_slot (wsV RX5 48 RX5 yX5_sum wsX5_sum) := goodIn_app (goodIn_r _ [18, 19, 20, 9] rfl (by decide +kernel)) ggX5_slot_X5_sum
set_option maxRecDepth 20000 in
theorem ggX5_slot_X5_clamped : GoodIn wsX5_slot wsX5_clamped := goodIn_r _ [24] rfl (by decide +kernel)
set_option maxRecDepth 20000 in
theorem gX5_slot_X5_clamped : GoodIn wsX5_slot (va_wsS RX5 41 yX5_clamped wsX5_clamped) := goodIn_app (goodIn_r _ [22, 23, 9] rfl (by decide +kernel)) ggX5_slot_X5_clamped
set_option maxRecDepth 20000 in
theorem ggX5_slot_X5_stopTo : GoodIn wsX5_slot wsX5_stopTo := goodIn_r _ [32, 1, 15, 16, 9, 17, 33, 34, 35, 36, 37, 38, 39, 40, 41, 42, 43, 44, 45, 46, 47] rfl (by decide +kernel)
set_option maxRecDepth 20000 in
theorem gX5_slot_X5_stopTo : GoodIn wsX5_slot (wsV RX5 66 RX5 yX5_stopTo wsX5_stopTo) := goodIn_app (goodIn_r _ [29, 30, 31, 9] rfl (by decide +kernel)) ggX5_slot_X5_stopTo
theorem dX5_slot_0 : decode cX5_slot 0 = .ok (.iconst 0, 1) := by decide +kernel
theorem dX5_slot_1 : decode cX5_slot 1 = .ok (.istore_n 3, 1) := by decide +kernel
theorem dX5_slot_2 : decode cX5_slot 2 = .ok (.iload_n 3, 1) := by decide +kernel
theorem dX5_slot_3 : decode cX5_slot 3 = .ok (.aload_n 0, 1) := by decide +kernel
theorem dX5_slot_4 : decode cX5_slot 4 = .ok (.getfield 7, 3) := by decide +kernel
theorem dX5_slot_7 : decode cX5_slot 7 = .ok (.bipush 16, 2) := by decide +kernel
theorem dX5_slot_9 : decode cX5_slot 9 = .ok (.iaload, 1) := by decide +kernel
theorem dX5_slot_10 : decode cX5_slot 10 = .ok (.if_icmp .ge 38, 3) := by decide +kernel
theorem dX5_slot_13 : decode cX5_slot 13 = .ok (.aload_n 0, 1) := by decide +kernel
theorem dX5_slot_14 : decode cX5_slot 14 = .ok (.invokevirtual 51, 3) := by decide +kernel
theorem dX5_slot_17 : decode cX5_slot 17 = .ok (.ifCond .eq 25, 3) := by decide +kernel
theorem dX5_slot_20 : decode cX5_slot 20 = .ok (.iload_n 1, 1) := by decide +kernel
theorem dX5_slot_21 : decode cX5_slot 21 = .ok (.bipush 20, 2) := by decide +kernel
theorem dX5_slot_23 : decode cX5_slot 23 = .ok (.iload_n 3, 1) := by decide +kernel
theorem dX5_slot_24 : decode cX5_slot 24 = .ok (.imul, 1) := by decide +kernel
theorem dX5_slot_25 : decode cX5_slot 25 = .ok (.aload_n 0, 1) := by decide +kernel
theorem dX5_slot_26 : decode cX5_slot 26 = .ok (.getfield 7, 3) := by decide +kernel
theorem dX5_slot_29 : decode cX5_slot 29 = .ok (.bipush 16, 2) := by decide +kernel
theorem dX5_slot_31 : decode cX5_slot 31 = .ok (.iaload, 1) := by decide +kernel
theorem dX5_slot_32 : decode cX5_slot 32 = .ok (.idiv, 1) := by decide +kernel
theorem dX5_slot_33 : decode cX5_slot 33 = .ok (.if_icmp .ne 9, 3) := by decide +kernel
theorem dX5_slot_36 : decode cX5_slot 36 = .ok (.aload_n 0, 1) := by decide +kernel
theorem dX5_slot_37 : decode cX5_slot 37 = .ok (.iload_n 3, 1) := by decide +kernel
theorem dX5_slot_38 : decode cX5_slot 38 = .ok (.iload_n 2, 1) := by decide +kernel
theorem dX5_slot_39 : decode cX5_slot 39 = .ok (.invokevirtual 55, 3) := by decide +kernel
theorem dX5_slot_42 : decode cX5_slot 42 = .ok (.iinc 3 1, 3) := by decide +kernel
theorem dX5_slot_45 : decode cX5_slot 45 = .ok (.goto (-43), 3) := by decide +kernel
theorem dX5_slot_48 : decode cX5_slot 48 = .ok (.iconst 0, 1) := by decide +kernel
theorem dX5_slot_49 : decode cX5_slot 49 = .ok (.istore_n 3, 1) := by decide +kernel
theorem dX5_slot_50 : decode cX5_slot 50 = .ok (.iload_n 3, 1) := by decide +kernel
theorem dX5_slot_51 : decode cX5_slot 51 = .ok (.aload_n 0, 1) := by decide +kernel
theorem dX5_slot_52 : decode cX5_slot 52 = .ok (.getfield 7, 3) := by decide +kernel
theorem dX5_slot_55 : decode cX5_slot 55 = .ok (.bipush 15, 2) := by decide +kernel
theorem dX5_slot_57 : decode cX5_slot 57 = .ok (.iaload, 1) := by decide +kernel
theorem dX5_slot_58 : decode cX5_slot 58 = .ok (.if_icmp .ge 52, 3) := by decide +kernel
theorem dX5_slot_61 : decode cX5_slot 61 = .ok (.aload_n 0, 1) := by decide +kernel
theorem dX5_slot_62 : decode cX5_slot 62 = .ok (.iload_n 3, 1) := by decide +kernel
theorem dX5_slot_63 : decode cX5_slot 63 = .ok (.invokevirtual 59, 3) := by decide +kernel
theorem dX5_slot_66 : decode cX5_slot 66 = .ok (.aload_n 0, 1) := by decide +kernel
theorem dX5_slot_67 : decode cX5_slot 67 = .ok (.aload_n 0, 1) := by decide +kernel
theorem dX5_slot_68 : decode cX5_slot 68 = .ok (.getfield 7, 3) := by decide +kernel
theorem dX5_slot_71 : decode cX5_slot 71 = .ok (.iload_n 3, 1) := by decide +kernel
theorem dX5_slot_72 : decode cX5_slot 72 = .ok (.iconst 0, 1) := by decide +kernel
theorem dX5_slot_73 : decode cX5_slot 73 = .ok (.invokestatic 35, 3) := by decide +kernel
theorem dX5_slot_76 : decode cX5_slot 76 = .ok (.iaload, 1) := by decide +kernel
theorem dX5_slot_77 : decode cX5_slot 77 = .ok (.aload_n 0, 1) := by decide +kernel
theorem dX5_slot_78 : decode cX5_slot 78 = .ok (.getfield 62, 3) := by decide +kernel
theorem dX5_slot_81 : decode cX5_slot 81 = .ok (.if_icmp .le 16, 3) := by decide +kernel
theorem dX5_slot_84 : decode cX5_slot 84 = .ok (.aload_n 0, 1) := by decide +kernel
theorem dX5_slot_85 : decode cX5_slot 85 = .ok (.getfield 7, 3) := by decide +kernel
theorem dX5_slot_88 : decode cX5_slot 88 = .ok (.iload_n 3, 1) := by decide +kernel
theorem dX5_slot_89 : decode cX5_slot 89 = .ok (.iconst 0, 1) := by decide +kernel
theorem dX5_slot_90 : decode cX5_slot 90 = .ok (.invokestatic 35, 3) := by decide +kernel
theorem dX5_slot_93 : decode cX5_slot 93 = .ok (.iaload, 1) := by decide +kernel
theorem dX5_slot_94 : decode cX5_slot 94 = .ok (.goto 7, 3) := by decide +kernel
theorem dX5_slot_97 : decode cX5_slot 97 = .ok (.aload_n 0, 1) := by decide +kernel
theorem dX5_slot_98 : decode cX5_slot 98 = .ok (.getfield 62, 3) := by decide +kernel
theorem dX5_slot_101 : decode cX5_slot 101 = .ok (.putfield 62, 3) := by decide +kernel
theorem dX5_slot_104 : decode cX5_slot 104 = .ok (.iinc 3 1, 3) := by decide +kernel
theorem dX5_slot_107 : decode cX5_slot 107 = .ok (.goto (-57), 3) := by decide +kernel
theorem dX5_slot_110 : decode cX5_slot 110 = .ok (.aload_n 0, 1) := by decide +kernel
theorem dX5_slot_111 : decode cX5_slot 111 = .ok (.getfield 7, 3) := by decide +kernel
theorem dX5_slot_114 : decode cX5_slot 114 = .ok (.bipush 17, 2) := by decide +kernel
theorem dX5_slot_116 : decode cX5_slot 116 = .ok (.aload_n 0, 1) := by decide +kernel
theorem dX5_slot_117 : decode cX5_slot 117 = .ok (.getfield 7, 3) := by decide +kernel
theorem dX5_slot_120 : decode cX5_slot 120 = .ok (.bipush 17, 2) := by decide +kernel
theorem dX5_slot_122 : decode cX5_slot 122 = .ok (.iaload, 1) := by decide +kernel
theorem dX5_slot_123 : decode cX5_slot 123 = .ok (.aload_n 0, 1) := by decide +kernel
theorem dX5_slot_124 : decode cX5_slot 124 = .ok (.aload_n 0, 1) := by decide +kernel
theorem dX5_slot_125 : decode cX5_slot 125 = .ok (.getfield 7, 3) := by decide +kernel
theorem dX5_slot_128 : decode cX5_slot 128 = .ok (.bipush 15, 2) := by decide +kernel
theorem dX5_slot_130 : decode cX5_slot 130 = .ok (.iaload, 1) := by decide +kernel
theorem dX5_slot_131 : decode cX5_slot 131 = .ok (.invokevirtual 48, 3) := by decide +kernel
theorem dX5_slot_134 : decode cX5_slot 134 = .ok (.aload_n 0, 1) := by decide +kernel
theorem dX5_slot_135 : decode cX5_slot 135 = .ok (.getfield 7, 3) := by decide +kernel
theorem dX5_slot_138 : decode cX5_slot 138 = .ok (.iconst 2, 1) := by decide +kernel
theorem dX5_slot_139 : decode cX5_slot 139 = .ok (.iaload, 1) := by decide +kernel
theorem dX5_slot_140 : decode cX5_slot 140 = .ok (.isub, 1) := by decide +kernel
theorem dX5_slot_141 : decode cX5_slot 141 = .ok (.aload_n 0, 1) := by decide +kernel
theorem dX5_slot_142 : decode cX5_slot 142 = .ok (.getfield 7, 3) := by decide +kernel
theorem dX5_slot_145 : decode cX5_slot 145 = .ok (.iconst 4, 1) := by decide +kernel
theorem dX5_slot_146 : decode cX5_slot 146 = .ok (.iaload, 1) := by decide +kernel
theorem dX5_slot_147 : decode cX5_slot 147 = .ok (.idiv, 1) := by decide +kernel
theorem dX5_slot_148 : decode cX5_slot 148 = .ok (.iadd, 1) := by decide +kernel
theorem dX5_slot_149 : decode cX5_slot 149 = .ok (.iconst 0, 1) := by decide +kernel
theorem dX5_slot_150 : decode cX5_slot 150 = .ok (.ldc 65, 2) := by decide +kernel
theorem dX5_slot_152 : decode cX5_slot 152 = .ok (.invokestatic 41, 3) := by decide +kernel
theorem dX5_slot_155 : decode cX5_slot 155 = .ok (.iastore, 1) := by decide +kernel
theorem dX5_slot_156 : decode cX5_slot 156 = .ok (.aload_n 0, 1) := by decide +kernel
theorem dX5_slot_157 : decode cX5_slot 157 = .ok (.invokevirtual 51, 3) := by decide +kernel
theorem dX5_slot_160 : decode cX5_slot 160 = .ok (.ifCond .eq 25, 3) := by decide +kernel
theorem dX5_slot_163 : decode cX5_slot 163 = .ok (.aload_n 0, 1) := by decide +kernel
theorem dX5_slot_164 : decode cX5_slot 164 = .ok (.getfield 7, 3) := by decide +kernel
theorem dX5_slot_167 : decode cX5_slot 167 = .ok (.bipush 17, 2) := by decide +kernel
theorem dX5_slot_169 : decode cX5_slot 169 = .ok (.iaload, 1) := by decide +kernel
theorem dX5_slot_170 : decode cX5_slot 170 = .ok (.aload_n 0, 1) := by decide +kernel
theorem dX5_slot_171 : decode cX5_slot 171 = .ok (.getfield 7, 3) := by decide +kernel
theorem dX5_slot_174 : decode cX5_slot 174 = .ok (.bipush 12, 2) := by decide +kernel
theorem dX5_slot_176 : decode cX5_slot 176 = .ok (.iaload, 1) := by decide +kernel
theorem dX5_slot_177 : decode cX5_slot 177 = .ok (.if_icmp .le 8, 3) := by decide +kernel
theorem dX5_slot_180 : decode cX5_slot 180 = .ok (.aload_n 0, 1) := by decide +kernel
theorem dX5_slot_181 : decode cX5_slot 181 = .ok (.iconst 3, 1) := by decide +kernel
theorem dX5_slot_182 : decode cX5_slot 182 = .ok (.invokevirtual 66, 3) := by decide +kernel
theorem dX5_slot_185 : decode cX5_slot 185 = .ok (.aload_n 0, 1) := by decide +kernel
theorem dX5_slot_186 : decode cX5_slot 186 = .ok (.aload_n 0, 1) := by decide +kernel
theorem dX5_slot_187 : decode cX5_slot 187 = .ok (.getfield 7, 3) := by decide +kernel
theorem dX5_slot_190 : decode cX5_slot 190 = .ok (.bipush 17, 2) := by decide +kernel
theorem dX5_slot_192 : decode cX5_slot 192 = .ok (.iaload, 1) := by decide +kernel
theorem dX5_slot_193 : decode cX5_slot 193 = .ok (.aload_n 0, 1) := by decide +kernel
theorem dX5_slot_194 : decode cX5_slot 194 = .ok (.getfield 69, 3) := by decide +kernel
theorem dX5_slot_197 : decode cX5_slot 197 = .ok (.if_icmp .ge 13, 3) := by decide +kernel
theorem dX5_slot_200 : decode cX5_slot 200 = .ok (.aload_n 0, 1) := by decide +kernel
theorem dX5_slot_201 : decode cX5_slot 201 = .ok (.getfield 7, 3) := by decide +kernel
theorem dX5_slot_204 : decode cX5_slot 204 = .ok (.bipush 17, 2) := by decide +kernel
theorem dX5_slot_206 : decode cX5_slot 206 = .ok (.iaload, 1) := by decide +kernel
theorem dX5_slot_207 : decode cX5_slot 207 = .ok (.goto 7, 3) := by decide +kernel
theorem dX5_slot_210 : decode cX5_slot 210 = .ok (.aload_n 0, 1) := by decide +kernel
theorem dX5_slot_211 : decode cX5_slot 211 = .ok (.getfield 69, 3) := by decide +kernel
theorem dX5_slot_214 : decode cX5_slot 214 = .ok (.putfield 69, 3) := by decide +kernel
theorem dX5_slot_217 : decode cX5_slot 217 = .ok (.aload_n 0, 1) := by decide +kernel
theorem dX5_slot_218 : decode cX5_slot 218 = .ok (.aload_n 0, 1) := by decide +kernel
theorem dX5_slot_219 : decode cX5_slot 219 = .ok (.getfield 7, 3) := by decide +kernel
theorem dX5_slot_222 : decode cX5_slot 222 = .ok (.bipush 17, 2) := by decide +kernel
theorem dX5_slot_224 : decode cX5_slot 224 = .ok (.iaload, 1) := by decide +kernel
theorem dX5_slot_225 : decode cX5_slot 225 = .ok (.aload_n 0, 1) := by decide +kernel
theorem dX5_slot_226 : decode cX5_slot 226 = .ok (.getfield 72, 3) := by decide +kernel
theorem dX5_slot_229 : decode cX5_slot 229 = .ok (.if_icmp .le 13, 3) := by decide +kernel
theorem dX5_slot_232 : decode cX5_slot 232 = .ok (.aload_n 0, 1) := by decide +kernel
theorem dX5_slot_233 : decode cX5_slot 233 = .ok (.getfield 7, 3) := by decide +kernel
theorem dX5_slot_236 : decode cX5_slot 236 = .ok (.bipush 17, 2) := by decide +kernel
theorem dX5_slot_238 : decode cX5_slot 238 = .ok (.iaload, 1) := by decide +kernel
theorem dX5_slot_239 : decode cX5_slot 239 = .ok (.goto 7, 3) := by decide +kernel
theorem dX5_slot_242 : decode cX5_slot 242 = .ok (.aload_n 0, 1) := by decide +kernel
theorem dX5_slot_243 : decode cX5_slot 243 = .ok (.getfield 72, 3) := by decide +kernel
theorem dX5_slot_246 : decode cX5_slot 246 = .ok (.putfield 72, 3) := by decide +kernel
theorem dX5_slot_249 : decode cX5_slot 249 = .ok (.return_, 1) := by decide +kernel
theorem dX5_record_0 : decode cX5_record 0 = .ok (.sipush 158, 3) := by decide +kernel
theorem dX5_record_3 : decode cX5_record 3 = .ok (.istore_n 2, 1) := by decide +kernel
theorem dX5_record_4 : decode cX5_record 4 = .ok (.iload_n 2, 1) := by decide +kernel
theorem dX5_record_5 : decode cX5_record 5 = .ok (.bipush 69, 2) := by decide +kernel
theorem dX5_record_7 : decode cX5_record 7 = .ok (.if_icmp .lt 24, 3) := by decide +kernel
theorem dX5_record_10 : decode cX5_record 10 = .ok (.aload_n 0, 1) := by decide +kernel
theorem dX5_record_11 : decode cX5_record 11 = .ok (.getfield 7, 3) := by decide +kernel
theorem dX5_record_14 : decode cX5_record 14 = .ok (.iload_n 2, 1) := by decide +kernel
theorem dX5_record_15 : decode cX5_record 15 = .ok (.aload_n 0, 1) := by decide +kernel
theorem dX5_record_16 : decode cX5_record 16 = .ok (.getfield 7, 3) := by decide +kernel
theorem dX5_record_19 : decode cX5_record 19 = .ok (.iload_n 2, 1) := by decide +kernel
theorem dX5_record_20 : decode cX5_record 20 = .ok (.bipush 6, 2) := by decide +kernel
theorem dX5_record_22 : decode cX5_record 22 = .ok (.isub, 1) := by decide +kernel
theorem dX5_record_23 : decode cX5_record 23 = .ok (.iaload, 1) := by decide +kernel
theorem dX5_record_24 : decode cX5_record 24 = .ok (.iastore, 1) := by decide +kernel
theorem dX5_record_25 : decode cX5_record 25 = .ok (.iinc 2 (-1), 3) := by decide +kernel
theorem dX5_record_28 : decode cX5_record 28 = .ok (.goto (-24), 3) := by decide +kernel
theorem dX5_record_31 : decode cX5_record 31 = .ok (.aload_n 0, 1) := by decide +kernel
theorem dX5_record_32 : decode cX5_record 32 = .ok (.getfield 7, 3) := by decide +kernel
theorem dX5_record_35 : decode cX5_record 35 = .ok (.bipush 63, 2) := by decide +kernel
theorem dX5_record_37 : decode cX5_record 37 = .ok (.aload_n 0, 1) := by decide +kernel
theorem dX5_record_38 : decode cX5_record 38 = .ok (.getfield 7, 3) := by decide +kernel
theorem dX5_record_41 : decode cX5_record 41 = .ok (.bipush 17, 2) := by decide +kernel
theorem dX5_record_43 : decode cX5_record 43 = .ok (.iaload, 1) := by decide +kernel
theorem dX5_record_44 : decode cX5_record 44 = .ok (.iastore, 1) := by decide +kernel
theorem dX5_record_45 : decode cX5_record 45 = .ok (.aload_n 0, 1) := by decide +kernel
theorem dX5_record_46 : decode cX5_record 46 = .ok (.getfield 7, 3) := by decide +kernel
theorem dX5_record_49 : decode cX5_record 49 = .ok (.bipush 64, 2) := by decide +kernel
theorem dX5_record_51 : decode cX5_record 51 = .ok (.aload_n 0, 1) := by decide +kernel
theorem dX5_record_52 : decode cX5_record 52 = .ok (.getfield 7, 3) := by decide +kernel
theorem dX5_record_55 : decode cX5_record 55 = .ok (.bipush 22, 2) := by decide +kernel
theorem dX5_record_57 : decode cX5_record 57 = .ok (.iaload, 1) := by decide +kernel
theorem dX5_record_58 : decode cX5_record 58 = .ok (.iastore, 1) := by decide +kernel
theorem dX5_record_59 : decode cX5_record 59 = .ok (.aload_n 0, 1) := by decide +kernel
theorem dX5_record_60 : decode cX5_record 60 = .ok (.getfield 7, 3) := by decide +kernel
theorem dX5_record_63 : decode cX5_record 63 = .ok (.bipush 65, 2) := by decide +kernel
theorem dX5_record_65 : decode cX5_record 65 = .ok (.aload_n 0, 1) := by decide +kernel
theorem dX5_record_66 : decode cX5_record 66 = .ok (.getfield 7, 3) := by decide +kernel
theorem dX5_record_69 : decode cX5_record 69 = .ok (.bipush 23, 2) := by decide +kernel
theorem dX5_record_71 : decode cX5_record 71 = .ok (.iaload, 1) := by decide +kernel
theorem dX5_record_72 : decode cX5_record 72 = .ok (.iastore, 1) := by decide +kernel
theorem dX5_record_73 : decode cX5_record 73 = .ok (.aload_n 0, 1) := by decide +kernel
theorem dX5_record_74 : decode cX5_record 74 = .ok (.getfield 7, 3) := by decide +kernel
theorem dX5_record_77 : decode cX5_record 77 = .ok (.bipush 66, 2) := by decide +kernel
theorem dX5_record_79 : decode cX5_record 79 = .ok (.aload_n 0, 1) := by decide +kernel
theorem dX5_record_80 : decode cX5_record 80 = .ok (.getfield 7, 3) := by decide +kernel
theorem dX5_record_83 : decode cX5_record 83 = .ok (.bipush 16, 2) := by decide +kernel
theorem dX5_record_85 : decode cX5_record 85 = .ok (.iaload, 1) := by decide +kernel
theorem dX5_record_86 : decode cX5_record 86 = .ok (.iastore, 1) := by decide +kernel
theorem dX5_record_87 : decode cX5_record 87 = .ok (.aload_n 0, 1) := by decide +kernel
theorem dX5_record_88 : decode cX5_record 88 = .ok (.getfield 7, 3) := by decide +kernel
theorem dX5_record_91 : decode cX5_record 91 = .ok (.bipush 67, 2) := by decide +kernel
theorem dX5_record_93 : decode cX5_record 93 = .ok (.aload_n 0, 1) := by decide +kernel
theorem dX5_record_94 : decode cX5_record 94 = .ok (.getfield 7, 3) := by decide +kernel
theorem dX5_record_97 : decode cX5_record 97 = .ok (.bipush 20, 2) := by decide +kernel
theorem dX5_record_99 : decode cX5_record 99 = .ok (.iaload, 1) := by decide +kernel
theorem dX5_record_100 : decode cX5_record 100 = .ok (.iastore, 1) := by decide +kernel
theorem dX5_record_101 : decode cX5_record 101 = .ok (.aload_n 0, 1) := by decide +kernel
theorem dX5_record_102 : decode cX5_record 102 = .ok (.getfield 7, 3) := by decide +kernel
theorem dX5_record_105 : decode cX5_record 105 = .ok (.bipush 68, 2) := by decide +kernel
theorem dX5_record_107 : decode cX5_record 107 = .ok (.iload_n 1, 1) := by decide +kernel
theorem dX5_record_108 : decode cX5_record 108 = .ok (.iastore, 1) := by decide +kernel
theorem dX5_record_109 : decode cX5_record 109 = .ok (.aload_n 0, 1) := by decide +kernel
theorem dX5_record_110 : decode cX5_record 110 = .ok (.getfield 7, 3) := by decide +kernel
theorem dX5_record_113 : decode cX5_record 113 = .ok (.bipush 31, 2) := by decide +kernel
theorem dX5_record_115 : decode cX5_record 115 = .ok (.dup2, 1) := by decide +kernel
theorem dX5_record_116 : decode cX5_record 116 = .ok (.iaload, 1) := by decide +kernel
theorem dX5_record_117 : decode cX5_record 117 = .ok (.aload_n 0, 1) := by decide +kernel
theorem dX5_record_118 : decode cX5_record 118 = .ok (.getfield 7, 3) := by decide +kernel
theorem dX5_record_121 : decode cX5_record 121 = .ok (.bipush 31, 2) := by decide +kernel
theorem dX5_record_123 : decode cX5_record 123 = .ok (.iaload, 1) := by decide +kernel
theorem dX5_record_124 : decode cX5_record 124 = .ok (.bipush 16, 2) := by decide +kernel
theorem dX5_record_126 : decode cX5_record 126 = .ok (.if_icmp .ge 7, 3) := by decide +kernel
theorem dX5_record_129 : decode cX5_record 129 = .ok (.iconst 1, 1) := by decide +kernel
theorem dX5_record_130 : decode cX5_record 130 = .ok (.goto 4, 3) := by decide +kernel
theorem dX5_record_133 : decode cX5_record 133 = .ok (.iconst 0, 1) := by decide +kernel
theorem dX5_record_134 : decode cX5_record 134 = .ok (.iadd, 1) := by decide +kernel
theorem dX5_record_135 : decode cX5_record 135 = .ok (.iastore, 1) := by decide +kernel
theorem dX5_record_136 : decode cX5_record 136 = .ok (.return_, 1) := by decide +kernel
theorem dX5_layExtremes_0 : decode cX5_layExtremes 0 = .ok (.aload_n 0, 1) := by decide +kernel
theorem dX5_layExtremes_1 : decode cX5_layExtremes 1 = .ok (.ldc 75, 2) := by decide +kernel
theorem dX5_layExtremes_3 : decode cX5_layExtremes 3 = .ok (.putfield 69, 3) := by decide +kernel
theorem dX5_layExtremes_6 : decode cX5_layExtremes 6 = .ok (.aload_n 0, 1) := by decide +kernel
theorem dX5_layExtremes_7 : decode cX5_layExtremes 7 = .ok (.iconst (-1), 1) := by decide +kernel
theorem dX5_layExtremes_8 : decode cX5_layExtremes 8 = .ok (.putfield 72, 3) := by decide +kernel
theorem dX5_layExtremes_11 : decode cX5_layExtremes 11 = .ok (.aload_n 0, 1) := by decide +kernel
theorem dX5_layExtremes_12 : decode cX5_layExtremes 12 = .ok (.iconst 0, 1) := by decide +kernel
theorem dX5_layExtremes_13 : decode cX5_layExtremes 13 = .ok (.putfield 62, 3) := by decide +kernel
theorem dX5_layExtremes_16 : decode cX5_layExtremes 16 = .ok (.return_, 1) := by decide +kernel
set_option maxRecDepth 20000 in
theorem ggX5_cycle_X5_runs : GoodIn wsX5_cycle wsX5_runs := goodIn_r _ [8, 1, 60, 61, 62, 63, 64, 65, 66, 67, 68, 69, 70, 71, 72, 73, 74] rfl (by decide +kernel)
set_option maxRecDepth 20000 in
theorem gX5_cycle_X5_runs : GoodIn wsX5_cycle (wsV RX5 51 RX5 yX5_runs wsX5_runs) := goodIn_app (goodIn_r _ [4, 5, 6, 7] rfl (by decide +kernel)) ggX5_cycle_X5_runs
set_option maxRecDepth 20000 in
theorem ggX5_cycle_X5_stopTo : GoodIn wsX5_cycle wsX5_stopTo := goodIn_r _ [12, 1, 13, 14, 7, 15, 60, 61, 62, 63, 64, 65, 66, 67, 68, 69, 70, 71, 72, 73, 74] rfl (by decide +kernel)
set_option maxRecDepth 20000 in
theorem gX5_cycle_X5_stopTo : GoodIn wsX5_cycle (wsV RX5 66 RX5 yX5_stopTo wsX5_stopTo) := goodIn_app (goodIn_r _ [9, 10, 11, 7] rfl (by decide +kernel)) ggX5_cycle_X5_stopTo
set_option maxRecDepth 20000 in
theorem ggX5_cycle_X5_aim : GoodIn wsX5_cycle wsX5_aim := goodIn_r _ [19, 1, 60, 61, 62, 63, 64, 65, 66, 67, 68, 69, 70, 71, 72, 73, 74] rfl (by decide +kernel)
set_option maxRecDepth 20000 in
theorem gX5_cycle_X5_aim : GoodIn wsX5_cycle (wsV RX5 76 RX5 yX5_aim wsX5_aim) := goodIn_app (goodIn_r _ [16, 17, 18, 7] rfl (by decide +kernel)) ggX5_cycle_X5_aim
set_option maxRecDepth 20000 in
theorem ggX5_cycle_X5_regulate : GoodIn wsX5_cycle wsX5_regulate := goodIn_r _ [23, 1, 24, 25, 26, 27, 7, 28, 60, 61, 62, 63, 64, 65, 66, 67, 68, 69, 70, 71, 72, 73, 74] rfl (by decide +kernel)
set_option maxRecDepth 20000 in
theorem gX5_cycle_X5_regulate : GoodIn wsX5_cycle (wsV RX5 79 RX5 yX5_regulate wsX5_regulate) := goodIn_app (goodIn_r _ [20, 21, 22, 7] rfl (by decide +kernel)) ggX5_cycle_X5_regulate
set_option maxRecDepth 20000 in
theorem ggX5_cycle_X5_choosePhases : GoodIn wsX5_cycle wsX5_choosePhases := goodIn_r _ [32, 1, 33, 34, 35, 7, 36, 13, 14, 15, 60, 61, 62, 63, 64, 65, 66, 67, 68, 69, 70, 71, 72, 73, 74] rfl (by decide +kernel)
set_option maxRecDepth 20000 in
theorem gX5_cycle_X5_choosePhases : GoodIn wsX5_cycle (wsV RX5 82 RX5 yX5_choosePhases wsX5_choosePhases) := goodIn_app (goodIn_r _ [29, 30, 31, 7] rfl (by decide +kernel)) ggX5_cycle_X5_choosePhases
set_option maxRecDepth 20000 in
theorem ggX5_cycle_X5_slot : GoodIn wsX5_cycle wsX5_slot := goodIn_r _ [40, 1, 3, 41, 42, 43, 4, 5, 6, 7, 8, 44, 45, 46, 47, 13, 14, 15, 48, 49, 50, 51, 26, 27, 28, 52, 53, 54, 55, 9, 10, 11, 12, 60, 61, 62, 63, 64, 65, 66, 67, 68, 69, 70, 71, 72, 73, 74] rfl (by decide +kernel)
set_option maxRecDepth 20000 in
theorem gX5_cycle_X5_slot : GoodIn wsX5_cycle (wsV RX5 85 RX5 yX5_slot wsX5_slot) := goodIn_app (goodIn_r _ [37, 38, 39, 7] rfl (by decide +kernel)) ggX5_cycle_X5_slot
set_option maxRecDepth 20000 in
theorem ggX5_cycle_X5_sum : GoodIn wsX5_cycle wsX5_sum := goodIn_r _ [51, 1, 13, 14, 7, 15, 60, 61, 62, 63, 64, 65, 66, 67, 68, 69, 70, 71, 72, 73, 74] rfl (by decide +kernel)
set_option maxRecDepth 20000 in
theorem gX5_cycle_X5_sum : GoodIn wsX5_cycle (wsV RX5 48 RX5 yX5_sum wsX5_sum) := goodIn_app (goodIn_r _ [48, 49, 50, 7] rfl (by decide +kernel)) ggX5_cycle_X5_sum
set_option maxRecDepth 20000 in
theorem ggX5_cycle_X5_record : GoodIn wsX5_cycle wsX5_record := goodIn_r _ [59, 1, 60, 61, 62, 63, 64, 65, 66, 67, 68, 69, 70, 71, 72, 73, 74] rfl (by decide +kernel)
set_option maxRecDepth 20000 in
theorem gX5_cycle_X5_record : GoodIn wsX5_cycle (wsV RX5 88 RX5 yX5_record wsX5_record) := goodIn_app (goodIn_r _ [56, 57, 58, 7] rfl (by decide +kernel)) ggX5_cycle_X5_record
theorem dX5_cycle_0 : decode cX5_cycle 0 = .ok (.aload_n 0, 1) := by decide +kernel
theorem dX5_cycle_1 : decode cX5_cycle 1 = .ok (.invokevirtual 51, 3) := by decide +kernel
theorem dX5_cycle_4 : decode cX5_cycle 4 = .ok (.ifCond .eq 24, 3) := by decide +kernel
theorem dX5_cycle_7 : decode cX5_cycle 7 = .ok (.aload_n 0, 1) := by decide +kernel
theorem dX5_cycle_8 : decode cX5_cycle 8 = .ok (.getfield 7, 3) := by decide +kernel
theorem dX5_cycle_11 : decode cX5_cycle 11 = .ok (.iconst 0, 1) := by decide +kernel
theorem dX5_cycle_12 : decode cX5_cycle 12 = .ok (.iaload, 1) := by decide +kernel
theorem dX5_cycle_13 : decode cX5_cycle 13 = .ok (.aload_n 0, 1) := by decide +kernel
theorem dX5_cycle_14 : decode cX5_cycle 14 = .ok (.getfield 7, 3) := by decide +kernel
theorem dX5_cycle_17 : decode cX5_cycle 17 = .ok (.bipush 13, 2) := by decide +kernel
theorem dX5_cycle_19 : decode cX5_cycle 19 = .ok (.iaload, 1) := by decide +kernel
theorem dX5_cycle_20 : decode cX5_cycle 20 = .ok (.if_icmp .ge 8, 3) := by decide +kernel
theorem dX5_cycle_23 : decode cX5_cycle 23 = .ok (.aload_n 0, 1) := by decide +kernel
theorem dX5_cycle_24 : decode cX5_cycle 24 = .ok (.iconst 4, 1) := by decide +kernel
theorem dX5_cycle_25 : decode cX5_cycle 25 = .ok (.invokevirtual 66, 3) := by decide +kernel
theorem dX5_cycle_28 : decode cX5_cycle 28 = .ok (.aload_n 0, 1) := by decide +kernel
theorem dX5_cycle_29 : decode cX5_cycle 29 = .ok (.invokevirtual 76, 3) := by decide +kernel
theorem dX5_cycle_32 : decode cX5_cycle 32 = .ok (.aload_n 0, 1) := by decide +kernel
theorem dX5_cycle_33 : decode cX5_cycle 33 = .ok (.getfield 7, 3) := by decide +kernel
theorem dX5_cycle_36 : decode cX5_cycle 36 = .ok (.bipush 22, 2) := by decide +kernel
theorem dX5_cycle_38 : decode cX5_cycle 38 = .ok (.iaload, 1) := by decide +kernel
theorem dX5_cycle_39 : decode cX5_cycle 39 = .ok (.istore_n 1, 1) := by decide +kernel
theorem dX5_cycle_40 : decode cX5_cycle 40 = .ok (.aload_n 0, 1) := by decide +kernel
theorem dX5_cycle_41 : decode cX5_cycle 41 = .ok (.invokevirtual 51, 3) := by decide +kernel
theorem dX5_cycle_44 : decode cX5_cycle 44 = .ok (.ifCond .eq 11, 3) := by decide +kernel
theorem dX5_cycle_47 : decode cX5_cycle 47 = .ok (.aload_n 0, 1) := by decide +kernel
theorem dX5_cycle_48 : decode cX5_cycle 48 = .ok (.invokevirtual 79, 3) := by decide +kernel
theorem dX5_cycle_51 : decode cX5_cycle 51 = .ok (.aload_n 0, 1) := by decide +kernel
theorem dX5_cycle_52 : decode cX5_cycle 52 = .ok (.invokevirtual 82, 3) := by decide +kernel
theorem dX5_cycle_55 : decode cX5_cycle 55 = .ok (.aload_n 0, 1) := by decide +kernel
theorem dX5_cycle_56 : decode cX5_cycle 56 = .ok (.getfield 7, 3) := by decide +kernel
theorem dX5_cycle_59 : decode cX5_cycle 59 = .ok (.bipush 25, 2) := by decide +kernel
theorem dX5_cycle_61 : decode cX5_cycle 61 = .ok (.iaload, 1) := by decide +kernel
theorem dX5_cycle_62 : decode cX5_cycle 62 = .ok (.istore_n 2, 1) := by decide +kernel
theorem dX5_cycle_63 : decode cX5_cycle 63 = .ok (.iconst 0, 1) := by decide +kernel
theorem dX5_cycle_64 : decode cX5_cycle 64 = .ok (.istore_n 3, 1) := by decide +kernel
theorem dX5_cycle_65 : decode cX5_cycle 65 = .ok (.ldc 75, 2) := by decide +kernel
theorem dX5_cycle_67 : decode cX5_cycle 67 = .ok (.istore 4, 2) := by decide +kernel
theorem dX5_cycle_69 : decode cX5_cycle 69 = .ok (.iconst (-1), 1) := by decide +kernel
theorem dX5_cycle_70 : decode cX5_cycle 70 = .ok (.istore 5, 2) := by decide +kernel
theorem dX5_cycle_72 : decode cX5_cycle 72 = .ok (.iconst 0, 1) := by decide +kernel
theorem dX5_cycle_73 : decode cX5_cycle 73 = .ok (.istore 6, 2) := by decide +kernel
theorem dX5_cycle_75 : decode cX5_cycle 75 = .ok (.iload 6, 2) := by decide +kernel
theorem dX5_cycle_77 : decode cX5_cycle 77 = .ok (.bipush 20, 2) := by decide +kernel
theorem dX5_cycle_79 : decode cX5_cycle 79 = .ok (.if_icmp .ge 82, 3) := by decide +kernel
theorem dX5_cycle_82 : decode cX5_cycle 82 = .ok (.aload_n 0, 1) := by decide +kernel
theorem dX5_cycle_83 : decode cX5_cycle 83 = .ok (.iload 6, 2) := by decide +kernel
theorem dX5_cycle_85 : decode cX5_cycle 85 = .ok (.iload_n 1, 1) := by decide +kernel
theorem dX5_cycle_86 : decode cX5_cycle 86 = .ok (.invokevirtual 85, 3) := by decide +kernel
theorem dX5_cycle_89 : decode cX5_cycle 89 = .ok (.iload_n 3, 1) := by decide +kernel
theorem dX5_cycle_90 : decode cX5_cycle 90 = .ok (.aload_n 0, 1) := by decide +kernel
theorem dX5_cycle_91 : decode cX5_cycle 91 = .ok (.aload_n 0, 1) := by decide +kernel
theorem dX5_cycle_92 : decode cX5_cycle 92 = .ok (.getfield 7, 3) := by decide +kernel
theorem dX5_cycle_95 : decode cX5_cycle 95 = .ok (.bipush 15, 2) := by decide +kernel
theorem dX5_cycle_97 : decode cX5_cycle 97 = .ok (.iaload, 1) := by decide +kernel
theorem dX5_cycle_98 : decode cX5_cycle 98 = .ok (.invokevirtual 48, 3) := by decide +kernel
theorem dX5_cycle_101 : decode cX5_cycle 101 = .ok (.iadd, 1) := by decide +kernel
theorem dX5_cycle_102 : decode cX5_cycle 102 = .ok (.istore_n 3, 1) := by decide +kernel
theorem dX5_cycle_103 : decode cX5_cycle 103 = .ok (.aload_n 0, 1) := by decide +kernel
theorem dX5_cycle_104 : decode cX5_cycle 104 = .ok (.getfield 7, 3) := by decide +kernel
theorem dX5_cycle_107 : decode cX5_cycle 107 = .ok (.bipush 17, 2) := by decide +kernel
theorem dX5_cycle_109 : decode cX5_cycle 109 = .ok (.iaload, 1) := by decide +kernel
theorem dX5_cycle_110 : decode cX5_cycle 110 = .ok (.iload 4, 2) := by decide +kernel
theorem dX5_cycle_112 : decode cX5_cycle 112 = .ok (.if_icmp .ge 13, 3) := by decide +kernel
theorem dX5_cycle_115 : decode cX5_cycle 115 = .ok (.aload_n 0, 1) := by decide +kernel
theorem dX5_cycle_116 : decode cX5_cycle 116 = .ok (.getfield 7, 3) := by decide +kernel
theorem dX5_cycle_119 : decode cX5_cycle 119 = .ok (.bipush 17, 2) := by decide +kernel
theorem dX5_cycle_121 : decode cX5_cycle 121 = .ok (.iaload, 1) := by decide +kernel
theorem dX5_cycle_122 : decode cX5_cycle 122 = .ok (.goto 5, 3) := by decide +kernel
theorem dX5_cycle_125 : decode cX5_cycle 125 = .ok (.iload 4, 2) := by decide +kernel
theorem dX5_cycle_127 : decode cX5_cycle 127 = .ok (.istore 4, 2) := by decide +kernel
theorem dX5_cycle_129 : decode cX5_cycle 129 = .ok (.aload_n 0, 1) := by decide +kernel
theorem dX5_cycle_130 : decode cX5_cycle 130 = .ok (.getfield 7, 3) := by decide +kernel
theorem dX5_cycle_133 : decode cX5_cycle 133 = .ok (.bipush 17, 2) := by decide +kernel
theorem dX5_cycle_135 : decode cX5_cycle 135 = .ok (.iaload, 1) := by decide +kernel
theorem dX5_cycle_136 : decode cX5_cycle 136 = .ok (.iload 5, 2) := by decide +kernel
theorem dX5_cycle_138 : decode cX5_cycle 138 = .ok (.if_icmp .le 13, 3) := by decide +kernel
theorem dX5_cycle_141 : decode cX5_cycle 141 = .ok (.aload_n 0, 1) := by decide +kernel
theorem dX5_cycle_142 : decode cX5_cycle 142 = .ok (.getfield 7, 3) := by decide +kernel
theorem dX5_cycle_145 : decode cX5_cycle 145 = .ok (.bipush 17, 2) := by decide +kernel
theorem dX5_cycle_147 : decode cX5_cycle 147 = .ok (.iaload, 1) := by decide +kernel
theorem dX5_cycle_148 : decode cX5_cycle 148 = .ok (.goto 5, 3) := by decide +kernel
theorem dX5_cycle_151 : decode cX5_cycle 151 = .ok (.iload 5, 2) := by decide +kernel
theorem dX5_cycle_153 : decode cX5_cycle 153 = .ok (.istore 5, 2) := by decide +kernel
theorem dX5_cycle_155 : decode cX5_cycle 155 = .ok (.iinc 6 1, 3) := by decide +kernel
theorem dX5_cycle_158 : decode cX5_cycle 158 = .ok (.goto (-83), 3) := by decide +kernel
theorem dX5_cycle_161 : decode cX5_cycle 161 = .ok (.aload_n 0, 1) := by decide +kernel
theorem dX5_cycle_162 : decode cX5_cycle 162 = .ok (.getfield 7, 3) := by decide +kernel
theorem dX5_cycle_165 : decode cX5_cycle 165 = .ok (.bipush 22, 2) := by decide +kernel
theorem dX5_cycle_167 : decode cX5_cycle 167 = .ok (.iload_n 3, 1) := by decide +kernel
theorem dX5_cycle_168 : decode cX5_cycle 168 = .ok (.bipush 20, 2) := by decide +kernel
theorem dX5_cycle_170 : decode cX5_cycle 170 = .ok (.idiv, 1) := by decide +kernel
theorem dX5_cycle_171 : decode cX5_cycle 171 = .ok (.iastore, 1) := by decide +kernel
theorem dX5_cycle_172 : decode cX5_cycle 172 = .ok (.aload_n 0, 1) := by decide +kernel
theorem dX5_cycle_173 : decode cX5_cycle 173 = .ok (.getfield 7, 3) := by decide +kernel
theorem dX5_cycle_176 : decode cX5_cycle 176 = .ok (.bipush 23, 2) := by decide +kernel
theorem dX5_cycle_178 : decode cX5_cycle 178 = .ok (.iload 5, 2) := by decide +kernel
theorem dX5_cycle_180 : decode cX5_cycle 180 = .ok (.iload 4, 2) := by decide +kernel
theorem dX5_cycle_182 : decode cX5_cycle 182 = .ok (.isub, 1) := by decide +kernel
theorem dX5_cycle_183 : decode cX5_cycle 183 = .ok (.iastore, 1) := by decide +kernel
theorem dX5_cycle_184 : decode cX5_cycle 184 = .ok (.aload_n 0, 1) := by decide +kernel
theorem dX5_cycle_185 : decode cX5_cycle 185 = .ok (.getfield 7, 3) := by decide +kernel
theorem dX5_cycle_188 : decode cX5_cycle 188 = .ok (.bipush 27, 2) := by decide +kernel
theorem dX5_cycle_190 : decode cX5_cycle 190 = .ok (.aload_n 0, 1) := by decide +kernel
theorem dX5_cycle_191 : decode cX5_cycle 191 = .ok (.getfield 62, 3) := by decide +kernel
theorem dX5_cycle_194 : decode cX5_cycle 194 = .ok (.aload_n 0, 1) := by decide +kernel
theorem dX5_cycle_195 : decode cX5_cycle 195 = .ok (.getfield 7, 3) := by decide +kernel
theorem dX5_cycle_198 : decode cX5_cycle 198 = .ok (.bipush 27, 2) := by decide +kernel
theorem dX5_cycle_200 : decode cX5_cycle 200 = .ok (.iaload, 1) := by decide +kernel
theorem dX5_cycle_201 : decode cX5_cycle 201 = .ok (.if_icmp .le 10, 3) := by decide +kernel
theorem dX5_cycle_204 : decode cX5_cycle 204 = .ok (.aload_n 0, 1) := by decide +kernel
theorem dX5_cycle_205 : decode cX5_cycle 205 = .ok (.getfield 62, 3) := by decide +kernel
theorem dX5_cycle_208 : decode cX5_cycle 208 = .ok (.goto 10, 3) := by decide +kernel
theorem dX5_cycle_211 : decode cX5_cycle 211 = .ok (.aload_n 0, 1) := by decide +kernel
theorem dX5_cycle_212 : decode cX5_cycle 212 = .ok (.getfield 7, 3) := by decide +kernel
theorem dX5_cycle_215 : decode cX5_cycle 215 = .ok (.bipush 27, 2) := by decide +kernel
theorem dX5_cycle_217 : decode cX5_cycle 217 = .ok (.iaload, 1) := by decide +kernel
theorem dX5_cycle_218 : decode cX5_cycle 218 = .ok (.iastore, 1) := by decide +kernel
theorem dX5_cycle_219 : decode cX5_cycle 219 = .ok (.aload_n 0, 1) := by decide +kernel
theorem dX5_cycle_220 : decode cX5_cycle 220 = .ok (.getfield 7, 3) := by decide +kernel
theorem dX5_cycle_223 : decode cX5_cycle 223 = .ok (.bipush 24, 2) := by decide +kernel
theorem dX5_cycle_225 : decode cX5_cycle 225 = .ok (.dup2, 1) := by decide +kernel
theorem dX5_cycle_226 : decode cX5_cycle 226 = .ok (.iaload, 1) := by decide +kernel
theorem dX5_cycle_227 : decode cX5_cycle 227 = .ok (.iconst 1, 1) := by decide +kernel
theorem dX5_cycle_228 : decode cX5_cycle 228 = .ok (.iadd, 1) := by decide +kernel
theorem dX5_cycle_229 : decode cX5_cycle 229 = .ok (.iastore, 1) := by decide +kernel
theorem dX5_cycle_230 : decode cX5_cycle 230 = .ok (.aload_n 0, 1) := by decide +kernel
theorem dX5_cycle_231 : decode cX5_cycle 231 = .ok (.aload_n 0, 1) := by decide +kernel
theorem dX5_cycle_232 : decode cX5_cycle 232 = .ok (.getfield 7, 3) := by decide +kernel
theorem dX5_cycle_235 : decode cX5_cycle 235 = .ok (.bipush 25, 2) := by decide +kernel
theorem dX5_cycle_237 : decode cX5_cycle 237 = .ok (.iaload, 1) := by decide +kernel
theorem dX5_cycle_238 : decode cX5_cycle 238 = .ok (.iload_n 2, 1) := by decide +kernel
theorem dX5_cycle_239 : decode cX5_cycle 239 = .ok (.isub, 1) := by decide +kernel
theorem dX5_cycle_240 : decode cX5_cycle 240 = .ok (.invokevirtual 88, 3) := by decide +kernel
theorem dX5_cycle_243 : decode cX5_cycle 243 = .ok (.return_, 1) := by decide +kernel
set_option maxRecDepth 20000 in
theorem ggX5_begin_X5_within : GoodIn wsX5_begin wsX5_within := goodIn_r _ [6] rfl (by decide +kernel)
set_option maxRecDepth 20000 in
theorem gX5_begin_X5_within : GoodIn wsX5_begin (va_wsS RX5 91 yX5_within wsX5_within) := goodIn_app (goodIn_r _ [3, 4, 5] rfl (by decide +kernel)) ggX5_begin_X5_within
set_option maxRecDepth 20000 in
theorem ggX5_begin_X5_fresh : GoodIn wsX5_begin wsX5_fresh := goodIn_r _ [10, 2, 11, 12, 5, 13, 14, 15, 16, 17, 18, 19, 20, 21, 22, 23, 24, 25, 26, 27, 28] rfl (by decide +kernel)
set_option maxRecDepth 20000 in
theorem gX5_begin_X5_fresh : GoodIn wsX5_begin (wsV RX5 22 RX5 yX5_fresh wsX5_fresh) := goodIn_app (goodIn_r _ [7, 8, 9, 5] rfl (by decide +kernel)) ggX5_begin_X5_fresh
theorem dX5_begin_0 : decode cX5_begin 0 = .ok (.aload_n 0, 1) := by decide +kernel
theorem dX5_begin_1 : decode cX5_begin 1 = .ok (.iload_n 1, 1) := by decide +kernel
theorem dX5_begin_2 : decode cX5_begin 2 = .ok (.iconst 1, 1) := by decide +kernel
theorem dX5_begin_3 : decode cX5_begin 3 = .ok (.iconst 4, 1) := by decide +kernel
theorem dX5_begin_4 : decode cX5_begin 4 = .ok (.invokestatic 91, 3) := by decide +kernel
theorem dX5_begin_7 : decode cX5_begin 7 = .ok (.ifCond .eq 7, 3) := by decide +kernel
theorem dX5_begin_10 : decode cX5_begin 10 = .ok (.iconst 0, 1) := by decide +kernel
theorem dX5_begin_11 : decode cX5_begin 11 = .ok (.goto 4, 3) := by decide +kernel
theorem dX5_begin_14 : decode cX5_begin 14 = .ok (.iconst 1, 1) := by decide +kernel
theorem dX5_begin_15 : decode cX5_begin 15 = .ok (.putfield 26, 3) := by decide +kernel
theorem dX5_begin_18 : decode cX5_begin 18 = .ok (.aload_n 0, 1) := by decide +kernel
theorem dX5_begin_19 : decode cX5_begin 19 = .ok (.getfield 26, 3) := by decide +kernel
theorem dX5_begin_22 : decode cX5_begin 22 = .ok (.ifCond .le 5, 3) := by decide +kernel
theorem dX5_begin_25 : decode cX5_begin 25 = .ok (.iconst 0, 1) := by decide +kernel
theorem dX5_begin_26 : decode cX5_begin 26 = .ok (.ireturn, 1) := by decide +kernel
theorem dX5_begin_27 : decode cX5_begin 27 = .ok (.aload_n 0, 1) := by decide +kernel
theorem dX5_begin_28 : decode cX5_begin 28 = .ok (.getfield 7, 3) := by decide +kernel
theorem dX5_begin_31 : decode cX5_begin 31 = .ok (.bipush 15, 2) := by decide +kernel
theorem dX5_begin_33 : decode cX5_begin 33 = .ok (.iaload, 1) := by decide +kernel
theorem dX5_begin_34 : decode cX5_begin 34 = .ok (.istore_n 2, 1) := by decide +kernel
theorem dX5_begin_35 : decode cX5_begin 35 = .ok (.aload_n 0, 1) := by decide +kernel
theorem dX5_begin_36 : decode cX5_begin 36 = .ok (.iload_n 1, 1) := by decide +kernel
theorem dX5_begin_37 : decode cX5_begin 37 = .ok (.invokevirtual 22, 3) := by decide +kernel
theorem dX5_begin_40 : decode cX5_begin 40 = .ok (.iload_n 2, 1) := by decide +kernel
theorem dX5_begin_41 : decode cX5_begin 41 = .ok (.ireturn, 1) := by decide +kernel
set_option maxRecDepth 20000 in
theorem ggX5_isSetting_X5_within : GoodIn wsX5_isSetting wsX5_within := goodIn_r _ [4] rfl (by decide +kernel)
set_option maxRecDepth 20000 in
theorem gX5_isSetting_X5_within : GoodIn wsX5_isSetting (va_wsS RX5 91 yX5_within wsX5_within) := goodIn_app (goodIn_r _ [1, 2, 3] rfl (by decide +kernel)) ggX5_isSetting_X5_within
theorem dX5_isSetting_0 : decode cX5_isSetting 0 = .ok (.iload_n 0, 1) := by decide +kernel
theorem dX5_isSetting_1 : decode cX5_isSetting 1 = .ok (.iconst 0, 1) := by decide +kernel
theorem dX5_isSetting_2 : decode cX5_isSetting 2 = .ok (.bipush 14, 2) := by decide +kernel
theorem dX5_isSetting_4 : decode cX5_isSetting 4 = .ok (.invokestatic 91, 3) := by decide +kernel
theorem dX5_isSetting_7 : decode cX5_isSetting 7 = .ok (.ireturn, 1) := by decide +kernel
set_option maxRecDepth 20000 in
theorem ggX5_set_X5_isSetting : GoodIn wsX5_set wsX5_isSetting := goodIn_r _ [6, 7, 8, 5, 9] rfl (by decide +kernel)
set_option maxRecDepth 20000 in
theorem gX5_set_X5_isSetting : GoodIn wsX5_set (va_wsS RX5 95 yX5_isSetting wsX5_isSetting) := goodIn_app (goodIn_r _ [3, 4, 5] rfl (by decide +kernel)) ggX5_set_X5_isSetting
set_option maxRecDepth 20000 in
theorem ggX5_set_X5_lowest : GoodIn wsX5_set wsX5_lowest := goodIn_r _ [12] rfl (by decide +kernel)
set_option maxRecDepth 20000 in
theorem gX5_set_X5_lowest : GoodIn wsX5_set (va_wsS RX5 99 yX5_lowest wsX5_lowest) := goodIn_app (goodIn_r _ [10, 11, 5] rfl (by decide +kernel)) ggX5_set_X5_lowest
set_option maxRecDepth 20000 in
theorem ggX5_set_X5_highest : GoodIn wsX5_set wsX5_highest := goodIn_r _ [15, 16] rfl (by decide +kernel)
set_option maxRecDepth 20000 in
theorem gX5_set_X5_highest : GoodIn wsX5_set (va_wsS RX5 102 yX5_highest wsX5_highest) := goodIn_app (goodIn_r _ [13, 14, 5] rfl (by decide +kernel)) ggX5_set_X5_highest
set_option maxRecDepth 20000 in
theorem ggX5_set_X5_within : GoodIn wsX5_set wsX5_within := goodIn_r _ [9] rfl (by decide +kernel)
set_option maxRecDepth 20000 in
theorem gX5_set_X5_within : GoodIn wsX5_set (va_wsS RX5 91 yX5_within wsX5_within) := goodIn_app (goodIn_r _ [7, 8, 5] rfl (by decide +kernel)) ggX5_set_X5_within
theorem dX5_set_0 : decode cX5_set 0 = .ok (.aload_n 0, 1) := by decide +kernel
theorem dX5_set_1 : decode cX5_set 1 = .ok (.iload_n 1, 1) := by decide +kernel
theorem dX5_set_2 : decode cX5_set 2 = .ok (.invokestatic 95, 3) := by decide +kernel
theorem dX5_set_5 : decode cX5_set 5 = .ok (.ifCond .ne 7, 3) := by decide +kernel
theorem dX5_set_8 : decode cX5_set 8 = .ok (.iconst 1, 1) := by decide +kernel
theorem dX5_set_9 : decode cX5_set 9 = .ok (.goto 23, 3) := by decide +kernel
theorem dX5_set_12 : decode cX5_set 12 = .ok (.iload_n 2, 1) := by decide +kernel
theorem dX5_set_13 : decode cX5_set 13 = .ok (.iload_n 1, 1) := by decide +kernel
theorem dX5_set_14 : decode cX5_set 14 = .ok (.invokestatic 99, 3) := by decide +kernel
theorem dX5_set_17 : decode cX5_set 17 = .ok (.iload_n 1, 1) := by decide +kernel
theorem dX5_set_18 : decode cX5_set 18 = .ok (.invokestatic 102, 3) := by decide +kernel
theorem dX5_set_21 : decode cX5_set 21 = .ok (.invokestatic 91, 3) := by decide +kernel
theorem dX5_set_24 : decode cX5_set 24 = .ok (.ifCond .eq 7, 3) := by decide +kernel
theorem dX5_set_27 : decode cX5_set 27 = .ok (.iconst 0, 1) := by decide +kernel
theorem dX5_set_28 : decode cX5_set 28 = .ok (.goto 4, 3) := by decide +kernel
theorem dX5_set_31 : decode cX5_set 31 = .ok (.iconst 2, 1) := by decide +kernel
theorem dX5_set_32 : decode cX5_set 32 = .ok (.putfield 26, 3) := by decide +kernel
theorem dX5_set_35 : decode cX5_set 35 = .ok (.aload_n 0, 1) := by decide +kernel
theorem dX5_set_36 : decode cX5_set 36 = .ok (.getfield 26, 3) := by decide +kernel
theorem dX5_set_39 : decode cX5_set 39 = .ok (.ifCond .le 5, 3) := by decide +kernel
theorem dX5_set_42 : decode cX5_set 42 = .ok (.iconst 0, 1) := by decide +kernel
theorem dX5_set_43 : decode cX5_set 43 = .ok (.ireturn, 1) := by decide +kernel
theorem dX5_set_44 : decode cX5_set 44 = .ok (.aload_n 0, 1) := by decide +kernel
theorem dX5_set_45 : decode cX5_set 45 = .ok (.getfield 7, 3) := by decide +kernel
theorem dX5_set_48 : decode cX5_set 48 = .ok (.iload_n 1, 1) := by decide +kernel
theorem dX5_set_49 : decode cX5_set 49 = .ok (.iaload, 1) := by decide +kernel
theorem dX5_set_50 : decode cX5_set 50 = .ok (.istore_n 3, 1) := by decide +kernel
theorem dX5_set_51 : decode cX5_set 51 = .ok (.aload_n 0, 1) := by decide +kernel
theorem dX5_set_52 : decode cX5_set 52 = .ok (.getfield 7, 3) := by decide +kernel
theorem dX5_set_55 : decode cX5_set 55 = .ok (.iload_n 1, 1) := by decide +kernel
theorem dX5_set_56 : decode cX5_set 56 = .ok (.iload_n 2, 1) := by decide +kernel
theorem dX5_set_57 : decode cX5_set 57 = .ok (.iastore, 1) := by decide +kernel
theorem dX5_set_58 : decode cX5_set 58 = .ok (.iload_n 3, 1) := by decide +kernel
theorem dX5_set_59 : decode cX5_set 59 = .ok (.ireturn, 1) := by decide +kernel
set_option maxRecDepth 20000 in
theorem ggX5_setting_X5_isSetting : GoodIn wsX5_setting wsX5_isSetting := goodIn_r _ [6, 7, 8, 5, 9] rfl (by decide +kernel)
set_option maxRecDepth 20000 in
theorem gX5_setting_X5_isSetting : GoodIn wsX5_setting (va_wsS RX5 95 yX5_isSetting wsX5_isSetting) := goodIn_app (goodIn_r _ [3, 4, 5] rfl (by decide +kernel)) ggX5_setting_X5_isSetting
theorem dX5_setting_0 : decode cX5_setting 0 = .ok (.aload_n 0, 1) := by decide +kernel
theorem dX5_setting_1 : decode cX5_setting 1 = .ok (.iload_n 1, 1) := by decide +kernel
theorem dX5_setting_2 : decode cX5_setting 2 = .ok (.invokestatic 95, 3) := by decide +kernel
theorem dX5_setting_5 : decode cX5_setting 5 = .ok (.ifCond .eq 7, 3) := by decide +kernel
theorem dX5_setting_8 : decode cX5_setting 8 = .ok (.iconst 0, 1) := by decide +kernel
theorem dX5_setting_9 : decode cX5_setting 9 = .ok (.goto 4, 3) := by decide +kernel
theorem dX5_setting_12 : decode cX5_setting 12 = .ok (.iconst 1, 1) := by decide +kernel
theorem dX5_setting_13 : decode cX5_setting 13 = .ok (.putfield 26, 3) := by decide +kernel
theorem dX5_setting_16 : decode cX5_setting 16 = .ok (.aload_n 0, 1) := by decide +kernel
theorem dX5_setting_17 : decode cX5_setting 17 = .ok (.getfield 26, 3) := by decide +kernel
theorem dX5_setting_20 : decode cX5_setting 20 = .ok (.ifCond .le 7, 3) := by decide +kernel
theorem dX5_setting_23 : decode cX5_setting 23 = .ok (.iconst 0, 1) := by decide +kernel
theorem dX5_setting_24 : decode cX5_setting 24 = .ok (.goto 9, 3) := by decide +kernel
theorem dX5_setting_27 : decode cX5_setting 27 = .ok (.aload_n 0, 1) := by decide +kernel
theorem dX5_setting_28 : decode cX5_setting 28 = .ok (.getfield 7, 3) := by decide +kernel
theorem dX5_setting_31 : decode cX5_setting 31 = .ok (.iload_n 1, 1) := by decide +kernel
theorem dX5_setting_32 : decode cX5_setting 32 = .ok (.iaload, 1) := by decide +kernel
theorem dX5_setting_33 : decode cX5_setting 33 = .ok (.ireturn, 1) := by decide +kernel
set_option maxRecDepth 20000 in
theorem ggX5_start_X5_runs : GoodIn wsX5_start wsX5_runs := goodIn_r _ [7, 2, 11, 12, 13, 14, 15, 16, 17, 18, 19, 20, 21, 22, 23, 24, 25] rfl (by decide +kernel)
set_option maxRecDepth 20000 in
theorem gX5_start_X5_runs : GoodIn wsX5_start (wsV RX5 51 RX5 yX5_runs wsX5_runs) := goodIn_app (goodIn_r _ [3, 4, 5, 6] rfl (by decide +kernel)) ggX5_start_X5_runs
set_option maxRecDepth 20000 in
theorem ggX5_start_X5_at : GoodIn wsX5_start wsX5_at := goodIn_r _ [10] rfl (by decide +kernel)
set_option maxRecDepth 20000 in
theorem gX5_start_X5_at : GoodIn wsX5_start (va_wsS RX5 35 yX5_at wsX5_at) := goodIn_app (goodIn_r _ [8, 9, 6] rfl (by decide +kernel)) ggX5_start_X5_at
theorem dX5_start_0 : decode cX5_start 0 = .ok (.aload_n 0, 1) := by decide +kernel
theorem dX5_start_1 : decode cX5_start 1 = .ok (.aload_n 0, 1) := by decide +kernel
theorem dX5_start_2 : decode cX5_start 2 = .ok (.invokevirtual 51, 3) := by decide +kernel
theorem dX5_start_5 : decode cX5_start 5 = .ok (.ifCond .eq 7, 3) := by decide +kernel
theorem dX5_start_8 : decode cX5_start 8 = .ok (.iconst 1, 1) := by decide +kernel
theorem dX5_start_9 : decode cX5_start 9 = .ok (.goto 4, 3) := by decide +kernel
theorem dX5_start_12 : decode cX5_start 12 = .ok (.iconst 0, 1) := by decide +kernel
theorem dX5_start_13 : decode cX5_start 13 = .ok (.putfield 26, 3) := by decide +kernel
theorem dX5_start_16 : decode cX5_start 16 = .ok (.aload_n 0, 1) := by decide +kernel
theorem dX5_start_17 : decode cX5_start 17 = .ok (.getfield 26, 3) := by decide +kernel
theorem dX5_start_20 : decode cX5_start 20 = .ok (.ifCond .le 5, 3) := by decide +kernel
theorem dX5_start_23 : decode cX5_start 23 = .ok (.iconst 0, 1) := by decide +kernel
theorem dX5_start_24 : decode cX5_start 24 = .ok (.ireturn, 1) := by decide +kernel
theorem dX5_start_25 : decode cX5_start 25 = .ok (.aload_n 0, 1) := by decide +kernel
theorem dX5_start_26 : decode cX5_start 26 = .ok (.getfield 7, 3) := by decide +kernel
theorem dX5_start_29 : decode cX5_start 29 = .ok (.bipush 20, 2) := by decide +kernel
theorem dX5_start_31 : decode cX5_start 31 = .ok (.iconst 1, 1) := by decide +kernel
theorem dX5_start_32 : decode cX5_start 32 = .ok (.iastore, 1) := by decide +kernel
theorem dX5_start_33 : decode cX5_start 33 = .ok (.aload_n 0, 1) := by decide +kernel
theorem dX5_start_34 : decode cX5_start 34 = .ok (.getfield 7, 3) := by decide +kernel
theorem dX5_start_37 : decode cX5_start 37 = .ok (.bipush 18, 2) := by decide +kernel
theorem dX5_start_39 : decode cX5_start 39 = .ok (.aload_n 0, 1) := by decide +kernel
theorem dX5_start_40 : decode cX5_start 40 = .ok (.getfield 7, 3) := by decide +kernel
theorem dX5_start_43 : decode cX5_start 43 = .ok (.bipush 17, 2) := by decide +kernel
theorem dX5_start_45 : decode cX5_start 45 = .ok (.iaload, 1) := by decide +kernel
theorem dX5_start_46 : decode cX5_start 46 = .ok (.iastore, 1) := by decide +kernel
theorem dX5_start_47 : decode cX5_start 47 = .ok (.aload_n 0, 1) := by decide +kernel
theorem dX5_start_48 : decode cX5_start 48 = .ok (.getfield 7, 3) := by decide +kernel
theorem dX5_start_51 : decode cX5_start 51 = .ok (.bipush 19, 2) := by decide +kernel
theorem dX5_start_53 : decode cX5_start 53 = .ok (.iconst 0, 1) := by decide +kernel
theorem dX5_start_54 : decode cX5_start 54 = .ok (.iastore, 1) := by decide +kernel
theorem dX5_start_55 : decode cX5_start 55 = .ok (.aload_n 0, 1) := by decide +kernel
theorem dX5_start_56 : decode cX5_start 56 = .ok (.getfield 7, 3) := by decide +kernel
theorem dX5_start_59 : decode cX5_start 59 = .ok (.bipush 29, 2) := by decide +kernel
theorem dX5_start_61 : decode cX5_start 61 = .ok (.iconst 0, 1) := by decide +kernel
theorem dX5_start_62 : decode cX5_start 62 = .ok (.iastore, 1) := by decide +kernel
theorem dX5_start_63 : decode cX5_start 63 = .ok (.aload_n 0, 1) := by decide +kernel
theorem dX5_start_64 : decode cX5_start 64 = .ok (.getfield 7, 3) := by decide +kernel
theorem dX5_start_67 : decode cX5_start 67 = .ok (.bipush 30, 2) := by decide +kernel
theorem dX5_start_69 : decode cX5_start 69 = .ok (.iconst 0, 1) := by decide +kernel
theorem dX5_start_70 : decode cX5_start 70 = .ok (.iastore, 1) := by decide +kernel
theorem dX5_start_71 : decode cX5_start 71 = .ok (.aload_n 0, 1) := by decide +kernel
theorem dX5_start_72 : decode cX5_start 72 = .ok (.getfield 7, 3) := by decide +kernel
theorem dX5_start_75 : decode cX5_start 75 = .ok (.bipush 16, 2) := by decide +kernel
theorem dX5_start_77 : decode cX5_start 77 = .ok (.aload_n 0, 1) := by decide +kernel
theorem dX5_start_78 : decode cX5_start 78 = .ok (.getfield 7, 3) := by decide +kernel
theorem dX5_start_81 : decode cX5_start 81 = .ok (.bipush 15, 2) := by decide +kernel
theorem dX5_start_83 : decode cX5_start 83 = .ok (.iaload, 1) := by decide +kernel
theorem dX5_start_84 : decode cX5_start 84 = .ok (.iastore, 1) := by decide +kernel
theorem dX5_start_85 : decode cX5_start 85 = .ok (.iconst 0, 1) := by decide +kernel
theorem dX5_start_86 : decode cX5_start 86 = .ok (.istore_n 1, 1) := by decide +kernel
theorem dX5_start_87 : decode cX5_start 87 = .ok (.iload_n 1, 1) := by decide +kernel
theorem dX5_start_88 : decode cX5_start 88 = .ok (.aload_n 0, 1) := by decide +kernel
theorem dX5_start_89 : decode cX5_start 89 = .ok (.getfield 7, 3) := by decide +kernel
theorem dX5_start_92 : decode cX5_start 92 = .ok (.bipush 15, 2) := by decide +kernel
theorem dX5_start_94 : decode cX5_start 94 = .ok (.iaload, 1) := by decide +kernel
theorem dX5_start_95 : decode cX5_start 95 = .ok (.if_icmp .ge 20, 3) := by decide +kernel
theorem dX5_start_98 : decode cX5_start 98 = .ok (.aload_n 0, 1) := by decide +kernel
theorem dX5_start_99 : decode cX5_start 99 = .ok (.getfield 7, 3) := by decide +kernel
theorem dX5_start_102 : decode cX5_start 102 = .ok (.iload_n 1, 1) := by decide +kernel
theorem dX5_start_103 : decode cX5_start 103 = .ok (.iconst 2, 1) := by decide +kernel
theorem dX5_start_104 : decode cX5_start 104 = .ok (.invokestatic 35, 3) := by decide +kernel
theorem dX5_start_107 : decode cX5_start 107 = .ok (.iconst 0, 1) := by decide +kernel
theorem dX5_start_108 : decode cX5_start 108 = .ok (.iastore, 1) := by decide +kernel
theorem dX5_start_109 : decode cX5_start 109 = .ok (.iinc 1 1, 3) := by decide +kernel
theorem dX5_start_112 : decode cX5_start 112 = .ok (.goto (-25), 3) := by decide +kernel
theorem dX5_start_115 : decode cX5_start 115 = .ok (.aload_n 0, 1) := by decide +kernel
theorem dX5_start_116 : decode cX5_start 116 = .ok (.getfield 7, 3) := by decide +kernel
theorem dX5_start_119 : decode cX5_start 119 = .ok (.bipush 17, 2) := by decide +kernel
theorem dX5_start_121 : decode cX5_start 121 = .ok (.iaload, 1) := by decide +kernel
theorem dX5_start_122 : decode cX5_start 122 = .ok (.ireturn, 1) := by decide +kernel
set_option maxRecDepth 20000 in
theorem ggX5_stop_X5_stopTo : GoodIn wsX5_stop wsX5_stopTo := goodIn_r _ [7, 2, 8, 9, 6, 10, 11, 12, 13, 14, 15, 16, 17, 18, 19, 20, 21, 22, 23, 24, 25] rfl (by decide +kernel)
set_option maxRecDepth 20000 in
theorem gX5_stop_X5_stopTo : GoodIn wsX5_stop (wsV RX5 66 RX5 yX5_stopTo wsX5_stopTo) := goodIn_app (goodIn_r _ [3, 4, 5, 6] rfl (by decide +kernel)) ggX5_stop_X5_stopTo
theorem dX5_stop_0 : decode cX5_stop 0 = .ok (.aload_n 0, 1) := by decide +kernel
theorem dX5_stop_1 : decode cX5_stop 1 = .ok (.iconst 0, 1) := by decide +kernel
theorem dX5_stop_2 : decode cX5_stop 2 = .ok (.putfield 26, 3) := by decide +kernel
theorem dX5_stop_5 : decode cX5_stop 5 = .ok (.aload_n 0, 1) := by decide +kernel
theorem dX5_stop_6 : decode cX5_stop 6 = .ok (.getfield 7, 3) := by decide +kernel
theorem dX5_stop_9 : decode cX5_stop 9 = .ok (.bipush 20, 2) := by decide +kernel
theorem dX5_stop_11 : decode cX5_stop 11 = .ok (.iaload, 1) := by decide +kernel
theorem dX5_stop_12 : decode cX5_stop 12 = .ok (.istore_n 1, 1) := by decide +kernel
theorem dX5_stop_13 : decode cX5_stop 13 = .ok (.aload_n 0, 1) := by decide +kernel
theorem dX5_stop_14 : decode cX5_stop 14 = .ok (.iconst 0, 1) := by decide +kernel
theorem dX5_stop_15 : decode cX5_stop 15 = .ok (.invokevirtual 66, 3) := by decide +kernel
theorem dX5_stop_18 : decode cX5_stop 18 = .ok (.iload_n 1, 1) := by decide +kernel
theorem dX5_stop_19 : decode cX5_stop 19 = .ok (.ireturn, 1) := by decide +kernel
set_option maxRecDepth 20000 in
theorem ggX5_run_X5_within : GoodIn wsX5_run wsX5_within := goodIn_r _ [7] rfl (by decide +kernel)
set_option maxRecDepth 20000 in
theorem gX5_run_X5_within : GoodIn wsX5_run (va_wsS RX5 91 yX5_within wsX5_within) := goodIn_app (goodIn_r _ [4, 5, 6] rfl (by decide +kernel)) ggX5_run_X5_within
set_option maxRecDepth 20000 in
theorem ggX5_run_X5_layExtremes : GoodIn wsX5_run wsX5_layExtremes := goodIn_r _ [11, 12, 13, 14, 15, 72, 73, 74, 75, 76, 77, 78, 79, 80, 81, 82, 83, 84, 85, 86] rfl (by decide +kernel)
set_option maxRecDepth 20000 in
theorem gX5_run_X5_layExtremes : GoodIn wsX5_run (wsV RX5 105 RX5 yX5_layExtremes wsX5_layExtremes) := goodIn_app (goodIn_r _ [8, 9, 10, 6] rfl (by decide +kernel)) ggX5_run_X5_layExtremes
set_option maxRecDepth 20000 in
theorem ggX5_run_X5_cycle : GoodIn wsX5_run wsX5_cycle := goodIn_r _ [19, 1, 12, 15, 20, 21, 22, 6, 23, 24, 25, 26, 27, 28, 29, 30, 31, 32, 33, 34, 35, 36, 37, 38, 39, 2, 40, 41, 42, 43, 44, 45, 46, 47, 48, 49, 50, 51, 52, 53, 54, 55, 13, 14, 56, 57, 58, 59, 60, 61, 62, 63, 64, 65, 66, 67, 68, 69, 70, 71, 72, 73, 74, 75, 76, 77, 78, 79, 80, 81, 82, 83, 84, 85, 86] rfl (by decide +kernel)
set_option maxRecDepth 20000 in
theorem gX5_run_X5_cycle : GoodIn wsX5_run (wsV RX5 108 RX5 yX5_cycle wsX5_cycle) := goodIn_app (goodIn_r _ [16, 17, 18, 6] rfl (by decide +kernel)) ggX5_run_X5_cycle
theorem dX5_run_0 : decode cX5_run 0 = .ok (.aload_n 0, 1) := by decide +kernel
theorem dX5_run_1 : decode cX5_run 1 = .ok (.iload_n 1, 1) := by decide +kernel
theorem dX5_run_2 : decode cX5_run 2 = .ok (.iconst 1, 1) := by decide +kernel
theorem dX5_run_3 : decode cX5_run 3 = .ok (.sipush 200, 3) := by decide +kernel
theorem dX5_run_6 : decode cX5_run 6 = .ok (.invokestatic 91, 3) := by decide +kernel
theorem dX5_run_9 : decode cX5_run 9 = .ok (.ifCond .ne 7, 3) := by decide +kernel
theorem dX5_run_12 : decode cX5_run 12 = .ok (.iconst 1, 1) := by decide +kernel
theorem dX5_run_13 : decode cX5_run 13 = .ok (.goto 22, 3) := by decide +kernel
theorem dX5_run_16 : decode cX5_run 16 = .ok (.aload_n 0, 1) := by decide +kernel
theorem dX5_run_17 : decode cX5_run 17 = .ok (.getfield 7, 3) := by decide +kernel
theorem dX5_run_20 : decode cX5_run 20 = .ok (.bipush 24, 2) := by decide +kernel
theorem dX5_run_22 : decode cX5_run 22 = .ok (.iaload, 1) := by decide +kernel
theorem dX5_run_23 : decode cX5_run 23 = .ok (.iload_n 1, 1) := by decide +kernel
theorem dX5_run_24 : decode cX5_run 24 = .ok (.iadd, 1) := by decide +kernel
theorem dX5_run_25 : decode cX5_run 25 = .ok (.ldc 40, 2) := by decide +kernel
theorem dX5_run_27 : decode cX5_run 27 = .ok (.if_icmp .le 7, 3) := by decide +kernel
theorem dX5_run_30 : decode cX5_run 30 = .ok (.iconst 2, 1) := by decide +kernel
theorem dX5_run_31 : decode cX5_run 31 = .ok (.goto 4, 3) := by decide +kernel
theorem dX5_run_34 : decode cX5_run 34 = .ok (.iconst 0, 1) := by decide +kernel
theorem dX5_run_35 : decode cX5_run 35 = .ok (.putfield 26, 3) := by decide +kernel
theorem dX5_run_38 : decode cX5_run 38 = .ok (.aload_n 0, 1) := by decide +kernel
theorem dX5_run_39 : decode cX5_run 39 = .ok (.getfield 26, 3) := by decide +kernel
theorem dX5_run_42 : decode cX5_run 42 = .ok (.ifCond .le 5, 3) := by decide +kernel
theorem dX5_run_45 : decode cX5_run 45 = .ok (.iconst 0, 1) := by decide +kernel
theorem dX5_run_46 : decode cX5_run 46 = .ok (.ireturn, 1) := by decide +kernel
theorem dX5_run_47 : decode cX5_run 47 = .ok (.aload_n 0, 1) := by decide +kernel
theorem dX5_run_48 : decode cX5_run 48 = .ok (.invokevirtual 105, 3) := by decide +kernel
theorem dX5_run_51 : decode cX5_run 51 = .ok (.iconst 0, 1) := by decide +kernel
theorem dX5_run_52 : decode cX5_run 52 = .ok (.istore_n 2, 1) := by decide +kernel
theorem dX5_run_53 : decode cX5_run 53 = .ok (.iload_n 2, 1) := by decide +kernel
theorem dX5_run_54 : decode cX5_run 54 = .ok (.iload_n 1, 1) := by decide +kernel
theorem dX5_run_55 : decode cX5_run 55 = .ok (.if_icmp .ge 13, 3) := by decide +kernel
theorem dX5_run_58 : decode cX5_run 58 = .ok (.aload_n 0, 1) := by decide +kernel
theorem dX5_run_59 : decode cX5_run 59 = .ok (.invokevirtual 108, 3) := by decide +kernel
theorem dX5_run_62 : decode cX5_run 62 = .ok (.iinc 2 1, 3) := by decide +kernel
theorem dX5_run_65 : decode cX5_run 65 = .ok (.goto (-12), 3) := by decide +kernel
theorem dX5_run_68 : decode cX5_run 68 = .ok (.aload_n 0, 1) := by decide +kernel
theorem dX5_run_69 : decode cX5_run 69 = .ok (.getfield 7, 3) := by decide +kernel
theorem dX5_run_72 : decode cX5_run 72 = .ok (.bipush 17, 2) := by decide +kernel
theorem dX5_run_74 : decode cX5_run 74 = .ok (.iaload, 1) := by decide +kernel
theorem dX5_run_75 : decode cX5_run 75 = .ok (.ireturn, 1) := by decide +kernel
set_option maxRecDepth 20000 in
theorem ggX5_append_X5_within : GoodIn wsX5_append wsX5_within := goodIn_r _ [7] rfl (by decide +kernel)
set_option maxRecDepth 20000 in
theorem gX5_append_X5_within : GoodIn wsX5_append (va_wsS RX5 91 yX5_within wsX5_within) := goodIn_app (goodIn_r _ [4, 5, 6] rfl (by decide +kernel)) ggX5_append_X5_within
theorem dX5_append_0 : decode cX5_append 0 = .ok (.aload_n 0, 1) := by decide +kernel
theorem dX5_append_1 : decode cX5_append 1 = .ok (.iload_n 1, 1) := by decide +kernel
theorem dX5_append_2 : decode cX5_append 2 = .ok (.bipush 33, 2) := by decide +kernel
theorem dX5_append_4 : decode cX5_append 4 = .ok (.bipush 126, 2) := by decide +kernel
theorem dX5_append_6 : decode cX5_append 6 = .ok (.invokestatic 91, 3) := by decide +kernel
theorem dX5_append_9 : decode cX5_append 9 = .ok (.ifCond .ne 7, 3) := by decide +kernel
theorem dX5_append_12 : decode cX5_append 12 = .ok (.iconst 1, 1) := by decide +kernel
theorem dX5_append_13 : decode cX5_append 13 = .ok (.goto 17, 3) := by decide +kernel
theorem dX5_append_16 : decode cX5_append 16 = .ok (.aload_n 0, 1) := by decide +kernel
theorem dX5_append_17 : decode cX5_append 17 = .ok (.getfield 111, 3) := by decide +kernel
theorem dX5_append_20 : decode cX5_append 20 = .ok (.bipush 50, 2) := by decide +kernel
theorem dX5_append_22 : decode cX5_append 22 = .ok (.if_icmp .ne 7, 3) := by decide +kernel
theorem dX5_append_25 : decode cX5_append 25 = .ok (.iconst 2, 1) := by decide +kernel
theorem dX5_append_26 : decode cX5_append 26 = .ok (.goto 4, 3) := by decide +kernel
theorem dX5_append_29 : decode cX5_append 29 = .ok (.iconst 0, 1) := by decide +kernel
theorem dX5_append_30 : decode cX5_append 30 = .ok (.putfield 26, 3) := by decide +kernel
theorem dX5_append_33 : decode cX5_append 33 = .ok (.aload_n 0, 1) := by decide +kernel
theorem dX5_append_34 : decode cX5_append 34 = .ok (.getfield 26, 3) := by decide +kernel
theorem dX5_append_37 : decode cX5_append 37 = .ok (.ifCond .le 5, 3) := by decide +kernel
theorem dX5_append_40 : decode cX5_append 40 = .ok (.iconst 0, 1) := by decide +kernel
theorem dX5_append_41 : decode cX5_append 41 = .ok (.ireturn, 1) := by decide +kernel
theorem dX5_append_42 : decode cX5_append 42 = .ok (.aload_n 0, 1) := by decide +kernel
theorem dX5_append_43 : decode cX5_append 43 = .ok (.getfield 16, 3) := by decide +kernel
theorem dX5_append_46 : decode cX5_append 46 = .ok (.aload_n 0, 1) := by decide +kernel
theorem dX5_append_47 : decode cX5_append 47 = .ok (.getfield 111, 3) := by decide +kernel
theorem dX5_append_50 : decode cX5_append 50 = .ok (.iload_n 1, 1) := by decide +kernel
theorem dX5_append_51 : decode cX5_append 51 = .ok (.iastore, 1) := by decide +kernel
theorem dX5_append_52 : decode cX5_append 52 = .ok (.aload_n 0, 1) := by decide +kernel
theorem dX5_append_53 : decode cX5_append 53 = .ok (.dup, 1) := by decide +kernel
theorem dX5_append_54 : decode cX5_append 54 = .ok (.getfield 111, 3) := by decide +kernel
theorem dX5_append_57 : decode cX5_append 57 = .ok (.iconst 1, 1) := by decide +kernel
theorem dX5_append_58 : decode cX5_append 58 = .ok (.iadd, 1) := by decide +kernel
theorem dX5_append_59 : decode cX5_append 59 = .ok (.putfield 111, 3) := by decide +kernel
theorem dX5_append_62 : decode cX5_append 62 = .ok (.aload_n 0, 1) := by decide +kernel
theorem dX5_append_63 : decode cX5_append 63 = .ok (.getfield 111, 3) := by decide +kernel
theorem dX5_append_66 : decode cX5_append 66 = .ok (.ireturn, 1) := by decide +kernel
theorem dX5_clearBuffer_0 : decode cX5_clearBuffer 0 = .ok (.aload_n 0, 1) := by decide +kernel
theorem dX5_clearBuffer_1 : decode cX5_clearBuffer 1 = .ok (.iconst 0, 1) := by decide +kernel
theorem dX5_clearBuffer_2 : decode cX5_clearBuffer 2 = .ok (.putfield 26, 3) := by decide +kernel
theorem dX5_clearBuffer_5 : decode cX5_clearBuffer 5 = .ok (.aload_n 0, 1) := by decide +kernel
theorem dX5_clearBuffer_6 : decode cX5_clearBuffer 6 = .ok (.getfield 111, 3) := by decide +kernel
theorem dX5_clearBuffer_9 : decode cX5_clearBuffer 9 = .ok (.istore_n 1, 1) := by decide +kernel
theorem dX5_clearBuffer_10 : decode cX5_clearBuffer 10 = .ok (.aload_n 0, 1) := by decide +kernel
theorem dX5_clearBuffer_11 : decode cX5_clearBuffer 11 = .ok (.iconst 0, 1) := by decide +kernel
theorem dX5_clearBuffer_12 : decode cX5_clearBuffer 12 = .ok (.putfield 111, 3) := by decide +kernel
theorem dX5_clearBuffer_15 : decode cX5_clearBuffer 15 = .ok (.iload_n 1, 1) := by decide +kernel
theorem dX5_clearBuffer_16 : decode cX5_clearBuffer 16 = .ok (.ireturn, 1) := by decide +kernel
theorem dX5_takesSign_0 : decode cX5_takesSign 0 = .ok (.iload_n 1, 1) := by decide +kernel
theorem dX5_takesSign_1 : decode cX5_takesSign 1 = .ok (.bipush 115, 2) := by decide +kernel
theorem dX5_takesSign_3 : decode cX5_takesSign 3 = .ok (.if_icmp .eq 9, 3) := by decide +kernel
theorem dX5_takesSign_6 : decode cX5_takesSign 6 = .ok (.iload_n 1, 1) := by decide +kernel
theorem dX5_takesSign_7 : decode cX5_takesSign 7 = .ok (.bipush 120, 2) := by decide +kernel
theorem dX5_takesSign_9 : decode cX5_takesSign 9 = .ok (.if_icmp .ne 7, 3) := by decide +kernel
theorem dX5_takesSign_12 : decode cX5_takesSign 12 = .ok (.iconst 1, 1) := by decide +kernel
theorem dX5_takesSign_13 : decode cX5_takesSign 13 = .ok (.goto 4, 3) := by decide +kernel
theorem dX5_takesSign_16 : decode cX5_takesSign 16 = .ok (.iconst 0, 1) := by decide +kernel
theorem dX5_takesSign_17 : decode cX5_takesSign 17 = .ok (.istore_n 2, 1) := by decide +kernel
theorem dX5_takesSign_18 : decode cX5_takesSign 18 = .ok (.iload_n 2, 1) := by decide +kernel
theorem dX5_takesSign_19 : decode cX5_takesSign 19 = .ok (.ifCond .ne 33, 3) := by decide +kernel
theorem dX5_takesSign_22 : decode cX5_takesSign 22 = .ok (.iload_n 1, 1) := by decide +kernel
theorem dX5_takesSign_23 : decode cX5_takesSign 23 = .ok (.bipush 105, 2) := by decide +kernel
theorem dX5_takesSign_25 : decode cX5_takesSign 25 = .ok (.if_icmp .eq 27, 3) := by decide +kernel
theorem dX5_takesSign_28 : decode cX5_takesSign 28 = .ok (.iload_n 1, 1) := by decide +kernel
theorem dX5_takesSign_29 : decode cX5_takesSign 29 = .ok (.bipush 116, 2) := by decide +kernel
theorem dX5_takesSign_31 : decode cX5_takesSign 31 = .ok (.if_icmp .eq 21, 3) := by decide +kernel
theorem dX5_takesSign_34 : decode cX5_takesSign 34 = .ok (.iload_n 1, 1) := by decide +kernel
theorem dX5_takesSign_35 : decode cX5_takesSign 35 = .ok (.bipush 108, 2) := by decide +kernel
theorem dX5_takesSign_37 : decode cX5_takesSign 37 = .ok (.if_icmp .eq 15, 3) := by decide +kernel
theorem dX5_takesSign_40 : decode cX5_takesSign 40 = .ok (.iload_n 1, 1) := by decide +kernel
theorem dX5_takesSign_41 : decode cX5_takesSign 41 = .ok (.bipush 99, 2) := by decide +kernel
theorem dX5_takesSign_43 : decode cX5_takesSign 43 = .ok (.if_icmp .eq 9, 3) := by decide +kernel
theorem dX5_takesSign_46 : decode cX5_takesSign 46 = .ok (.iload_n 1, 1) := by decide +kernel
theorem dX5_takesSign_47 : decode cX5_takesSign 47 = .ok (.bipush 114, 2) := by decide +kernel
theorem dX5_takesSign_49 : decode cX5_takesSign 49 = .ok (.if_icmp .ne 7, 3) := by decide +kernel
theorem dX5_takesSign_52 : decode cX5_takesSign 52 = .ok (.iconst 1, 1) := by decide +kernel
theorem dX5_takesSign_53 : decode cX5_takesSign 53 = .ok (.goto 4, 3) := by decide +kernel
theorem dX5_takesSign_56 : decode cX5_takesSign 56 = .ok (.iconst 0, 1) := by decide +kernel
theorem dX5_takesSign_57 : decode cX5_takesSign 57 = .ok (.istore_n 3, 1) := by decide +kernel
theorem dX5_takesSign_58 : decode cX5_takesSign 58 = .ok (.iload_n 3, 1) := by decide +kernel
theorem dX5_takesSign_59 : decode cX5_takesSign 59 = .ok (.ifCond .eq 31, 3) := by decide +kernel
theorem dX5_takesSign_62 : decode cX5_takesSign 62 = .ok (.aload_n 0, 1) := by decide +kernel
theorem dX5_takesSign_63 : decode cX5_takesSign 63 = .ok (.iload_n 1, 1) := by decide +kernel
theorem dX5_takesSign_64 : decode cX5_takesSign 64 = .ok (.putfield 114, 3) := by decide +kernel
theorem dX5_takesSign_67 : decode cX5_takesSign 67 = .ok (.aload_n 0, 1) := by decide +kernel
theorem dX5_takesSign_68 : decode cX5_takesSign 68 = .ok (.iconst 0, 1) := by decide +kernel
theorem dX5_takesSign_69 : decode cX5_takesSign 69 = .ok (.putfield 117, 3) := by decide +kernel
theorem dX5_takesSign_72 : decode cX5_takesSign 72 = .ok (.aload_n 0, 1) := by decide +kernel
theorem dX5_takesSign_73 : decode cX5_takesSign 73 = .ok (.iconst 0, 1) := by decide +kernel
theorem dX5_takesSign_74 : decode cX5_takesSign 74 = .ok (.putfield 120, 3) := by decide +kernel
theorem dX5_takesSign_77 : decode cX5_takesSign 77 = .ok (.aload_n 0, 1) := by decide +kernel
theorem dX5_takesSign_78 : decode cX5_takesSign 78 = .ok (.iload_n 2, 1) := by decide +kernel
theorem dX5_takesSign_79 : decode cX5_takesSign 79 = .ok (.ifCond .eq 7, 3) := by decide +kernel
theorem dX5_takesSign_82 : decode cX5_takesSign 82 = .ok (.iconst 1, 1) := by decide +kernel
theorem dX5_takesSign_83 : decode cX5_takesSign 83 = .ok (.goto 4, 3) := by decide +kernel
theorem dX5_takesSign_86 : decode cX5_takesSign 86 = .ok (.iconst 2, 1) := by decide +kernel
theorem dX5_takesSign_87 : decode cX5_takesSign 87 = .ok (.putfield 123, 3) := by decide +kernel
theorem dX5_takesSign_90 : decode cX5_takesSign 90 = .ok (.iload_n 3, 1) := by decide +kernel
theorem dX5_takesSign_91 : decode cX5_takesSign 91 = .ok (.ireturn, 1) := by decide +kernel
set_option maxRecDepth 20000 in
theorem ggX5_takes_X5_within : GoodIn wsX5_takes wsX5_within := goodIn_r _ [7] rfl (by decide +kernel)
set_option maxRecDepth 20000 in
theorem gX5_takes_X5_within : GoodIn wsX5_takes (va_wsS RX5 91 yX5_within wsX5_within) := goodIn_app (goodIn_r _ [4, 5, 6] rfl (by decide +kernel)) ggX5_takes_X5_within
set_option maxRecDepth 20000 in
theorem ggX5_takes_X5_takesSign : GoodIn wsX5_takes wsX5_takesSign := goodIn_r _ [11, 12, 2, 3, 1, 19, 20, 21, 22, 23, 24, 25, 26, 27, 28, 29, 30, 31, 32, 33] rfl (by decide +kernel)
set_option maxRecDepth 20000 in
theorem gX5_takes_X5_takesSign : GoodIn wsX5_takes (wsV RX5 125 RX5 yX5_takesSign wsX5_takesSign) := goodIn_app (goodIn_r _ [8, 9, 10, 6] rfl (by decide +kernel)) ggX5_takes_X5_takesSign
set_option maxRecDepth 20000 in
theorem ggX5_takes_X5_endItem : GoodIn wsX5_takes wsX5_endItem := goodIn_r _ [16, 17, 18, 12, 2, 1, 19, 20, 21, 22, 23, 24, 25, 26, 27, 28, 29, 30, 31, 32, 33] rfl (by decide +kernel)
set_option maxRecDepth 20000 in
theorem gX5_takes_X5_endItem : GoodIn wsX5_takes (wsV RX5 128 RX5 yX5_endItem wsX5_endItem) := goodIn_app (goodIn_r _ [13, 14, 15, 6] rfl (by decide +kernel)) ggX5_takes_X5_endItem
theorem dX5_takes_0 : decode cX5_takes 0 = .ok (.iload_n 1, 1) := by decide +kernel
theorem dX5_takes_1 : decode cX5_takes 1 = .ok (.bipush 48, 2) := by decide +kernel
theorem dX5_takes_3 : decode cX5_takes 3 = .ok (.bipush 57, 2) := by decide +kernel
theorem dX5_takes_5 : decode cX5_takes 5 = .ok (.invokestatic 91, 3) := by decide +kernel
theorem dX5_takes_8 : decode cX5_takes 8 = .ok (.istore_n 2, 1) := by decide +kernel
theorem dX5_takes_9 : decode cX5_takes 9 = .ok (.aload_n 0, 1) := by decide +kernel
theorem dX5_takes_10 : decode cX5_takes 10 = .ok (.getfield 123, 3) := by decide +kernel
theorem dX5_takes_13 : decode cX5_takes 13 = .ok (.ifCond .ne 9, 3) := by decide +kernel
theorem dX5_takes_16 : decode cX5_takes 16 = .ok (.aload_n 0, 1) := by decide +kernel
theorem dX5_takes_17 : decode cX5_takes 17 = .ok (.iload_n 1, 1) := by decide +kernel
theorem dX5_takes_18 : decode cX5_takes 18 = .ok (.invokevirtual 125, 3) := by decide +kernel
theorem dX5_takes_21 : decode cX5_takes 21 = .ok (.ireturn, 1) := by decide +kernel
theorem dX5_takes_22 : decode cX5_takes 22 = .ok (.iload_n 1, 1) := by decide +kernel
theorem dX5_takes_23 : decode cX5_takes 23 = .ok (.bipush 44, 2) := by decide +kernel
theorem dX5_takes_25 : decode cX5_takes 25 = .ok (.if_icmp .ne 17, 3) := by decide +kernel
theorem dX5_takes_28 : decode cX5_takes 28 = .ok (.aload_n 0, 1) := by decide +kernel
theorem dX5_takes_29 : decode cX5_takes 29 = .ok (.getfield 123, 3) := by decide +kernel
theorem dX5_takes_32 : decode cX5_takes 32 = .ok (.iconst 2, 1) := by decide +kernel
theorem dX5_takes_33 : decode cX5_takes 33 = .ok (.if_icmp .eq 9, 3) := by decide +kernel
theorem dX5_takes_36 : decode cX5_takes 36 = .ok (.aload_n 0, 1) := by decide +kernel
theorem dX5_takes_37 : decode cX5_takes 37 = .ok (.invokevirtual 128, 3) := by decide +kernel
theorem dX5_takes_40 : decode cX5_takes 40 = .ok (.iconst 1, 1) := by decide +kernel
theorem dX5_takes_41 : decode cX5_takes 41 = .ok (.ireturn, 1) := by decide +kernel
theorem dX5_takes_42 : decode cX5_takes 42 = .ok (.iload_n 2, 1) := by decide +kernel
theorem dX5_takes_43 : decode cX5_takes 43 = .ok (.ifCond .eq 34, 3) := by decide +kernel
theorem dX5_takes_46 : decode cX5_takes 46 = .ok (.aload_n 0, 1) := by decide +kernel
theorem dX5_takes_47 : decode cX5_takes 47 = .ok (.getfield 123, 3) := by decide +kernel
theorem dX5_takes_50 : decode cX5_takes 50 = .ok (.iconst 1, 1) := by decide +kernel
theorem dX5_takes_51 : decode cX5_takes 51 = .ok (.if_icmp .eq 26, 3) := by decide +kernel
theorem dX5_takes_54 : decode cX5_takes 54 = .ok (.aload_n 0, 1) := by decide +kernel
theorem dX5_takes_55 : decode cX5_takes 55 = .ok (.getfield 123, 3) := by decide +kernel
theorem dX5_takes_58 : decode cX5_takes 58 = .ok (.iconst 3, 1) := by decide +kernel
theorem dX5_takes_59 : decode cX5_takes 59 = .ok (.if_icmp .ne 20, 3) := by decide +kernel
theorem dX5_takes_62 : decode cX5_takes 62 = .ok (.aload_n 0, 1) := by decide +kernel
theorem dX5_takes_63 : decode cX5_takes 63 = .ok (.getfield 117, 3) := by decide +kernel
theorem dX5_takes_66 : decode cX5_takes 66 = .ok (.ifCond .eq 11, 3) := by decide +kernel
theorem dX5_takes_69 : decode cX5_takes 69 = .ok (.aload_n 0, 1) := by decide +kernel
theorem dX5_takes_70 : decode cX5_takes 70 = .ok (.getfield 120, 3) := by decide +kernel
theorem dX5_takes_73 : decode cX5_takes 73 = .ok (.iconst 5, 1) := by decide +kernel
theorem dX5_takes_74 : decode cX5_takes 74 = .ok (.if_icmp .ne 5, 3) := by decide +kernel
theorem dX5_takes_77 : decode cX5_takes 77 = .ok (.iconst 0, 1) := by decide +kernel
theorem dX5_takes_78 : decode cX5_takes 78 = .ok (.ireturn, 1) := by decide +kernel
theorem dX5_takes_79 : decode cX5_takes 79 = .ok (.aload_n 0, 1) := by decide +kernel
theorem dX5_takes_80 : decode cX5_takes 80 = .ok (.bipush 10, 2) := by decide +kernel
theorem dX5_takes_82 : decode cX5_takes 82 = .ok (.aload_n 0, 1) := by decide +kernel
theorem dX5_takes_83 : decode cX5_takes 83 = .ok (.getfield 117, 3) := by decide +kernel
theorem dX5_takes_86 : decode cX5_takes 86 = .ok (.imul, 1) := by decide +kernel
theorem dX5_takes_87 : decode cX5_takes 87 = .ok (.iload_n 1, 1) := by decide +kernel
theorem dX5_takes_88 : decode cX5_takes 88 = .ok (.iadd, 1) := by decide +kernel
theorem dX5_takes_89 : decode cX5_takes 89 = .ok (.bipush 48, 2) := by decide +kernel
theorem dX5_takes_91 : decode cX5_takes 91 = .ok (.isub, 1) := by decide +kernel
theorem dX5_takes_92 : decode cX5_takes 92 = .ok (.putfield 117, 3) := by decide +kernel
theorem dX5_takes_95 : decode cX5_takes 95 = .ok (.aload_n 0, 1) := by decide +kernel
theorem dX5_takes_96 : decode cX5_takes 96 = .ok (.dup, 1) := by decide +kernel
theorem dX5_takes_97 : decode cX5_takes 97 = .ok (.getfield 120, 3) := by decide +kernel
theorem dX5_takes_100 : decode cX5_takes 100 = .ok (.iconst 1, 1) := by decide +kernel
theorem dX5_takes_101 : decode cX5_takes 101 = .ok (.iadd, 1) := by decide +kernel
theorem dX5_takes_102 : decode cX5_takes 102 = .ok (.putfield 120, 3) := by decide +kernel
theorem dX5_takes_105 : decode cX5_takes 105 = .ok (.aload_n 0, 1) := by decide +kernel
theorem dX5_takes_106 : decode cX5_takes 106 = .ok (.iconst 3, 1) := by decide +kernel
theorem dX5_takes_107 : decode cX5_takes 107 = .ok (.putfield 123, 3) := by decide +kernel
theorem dX5_takes_110 : decode cX5_takes 110 = .ok (.iconst 1, 1) := by decide +kernel
theorem dX5_takes_111 : decode cX5_takes 111 = .ok (.ireturn, 1) := by decide +kernel
theorem dX5_endItem_0 : decode cX5_endItem 0 = .ok (.aload_n 0, 1) := by decide +kernel
theorem dX5_endItem_1 : decode cX5_endItem 1 = .ok (.getfield 19, 3) := by decide +kernel
theorem dX5_endItem_4 : decode cX5_endItem 4 = .ok (.iconst 2, 1) := by decide +kernel
theorem dX5_endItem_5 : decode cX5_endItem 5 = .ok (.aload_n 0, 1) := by decide +kernel
theorem dX5_endItem_6 : decode cX5_endItem 6 = .ok (.getfield 131, 3) := by decide +kernel
theorem dX5_endItem_9 : decode cX5_endItem 9 = .ok (.imul, 1) := by decide +kernel
theorem dX5_endItem_10 : decode cX5_endItem 10 = .ok (.aload_n 0, 1) := by decide +kernel
theorem dX5_endItem_11 : decode cX5_endItem 11 = .ok (.getfield 114, 3) := by decide +kernel
theorem dX5_endItem_14 : decode cX5_endItem 14 = .ok (.iastore, 1) := by decide +kernel
theorem dX5_endItem_15 : decode cX5_endItem 15 = .ok (.aload_n 0, 1) := by decide +kernel
theorem dX5_endItem_16 : decode cX5_endItem 16 = .ok (.getfield 19, 3) := by decide +kernel
theorem dX5_endItem_19 : decode cX5_endItem 19 = .ok (.iconst 2, 1) := by decide +kernel
theorem dX5_endItem_20 : decode cX5_endItem 20 = .ok (.aload_n 0, 1) := by decide +kernel
theorem dX5_endItem_21 : decode cX5_endItem 21 = .ok (.getfield 131, 3) := by decide +kernel
theorem dX5_endItem_24 : decode cX5_endItem 24 = .ok (.imul, 1) := by decide +kernel
theorem dX5_endItem_25 : decode cX5_endItem 25 = .ok (.iconst 1, 1) := by decide +kernel
theorem dX5_endItem_26 : decode cX5_endItem 26 = .ok (.iadd, 1) := by decide +kernel
theorem dX5_endItem_27 : decode cX5_endItem 27 = .ok (.aload_n 0, 1) := by decide +kernel
theorem dX5_endItem_28 : decode cX5_endItem 28 = .ok (.getfield 117, 3) := by decide +kernel
theorem dX5_endItem_31 : decode cX5_endItem 31 = .ok (.iastore, 1) := by decide +kernel
theorem dX5_endItem_32 : decode cX5_endItem 32 = .ok (.aload_n 0, 1) := by decide +kernel
theorem dX5_endItem_33 : decode cX5_endItem 33 = .ok (.dup, 1) := by decide +kernel
theorem dX5_endItem_34 : decode cX5_endItem 34 = .ok (.getfield 131, 3) := by decide +kernel
theorem dX5_endItem_37 : decode cX5_endItem 37 = .ok (.iconst 1, 1) := by decide +kernel
theorem dX5_endItem_38 : decode cX5_endItem 38 = .ok (.iadd, 1) := by decide +kernel
theorem dX5_endItem_39 : decode cX5_endItem 39 = .ok (.putfield 131, 3) := by decide +kernel
theorem dX5_endItem_42 : decode cX5_endItem 42 = .ok (.aload_n 0, 1) := by decide +kernel
theorem dX5_endItem_43 : decode cX5_endItem 43 = .ok (.iconst 0, 1) := by decide +kernel
theorem dX5_endItem_44 : decode cX5_endItem 44 = .ok (.putfield 123, 3) := by decide +kernel
theorem dX5_endItem_47 : decode cX5_endItem 47 = .ok (.return_, 1) := by decide +kernel
set_option maxRecDepth 20000 in
theorem ggX5_readText_X5_takes : GoodIn wsX5_readText wsX5_takes := goodIn_r _ [9, 1, 10, 11, 12, 13, 8, 14, 15, 16, 17, 18, 19, 20, 21, 22, 23, 24, 2, 25, 26, 27, 28, 29, 30, 31, 32, 33, 34, 35, 36, 37, 38, 39] rfl (by decide +kernel)
set_option maxRecDepth 20000 in
theorem gX5_readText_X5_takes : GoodIn wsX5_readText (wsV RX5 134 RX5 yX5_takes wsX5_takes) := goodIn_app (goodIn_r _ [5, 6, 7, 8] rfl (by decide +kernel)) ggX5_readText_X5_takes
theorem dX5_readText_0 : decode cX5_readText 0 = .ok (.aload_n 0, 1) := by decide +kernel
theorem dX5_readText_1 : decode cX5_readText 1 = .ok (.iconst 0, 1) := by decide +kernel
theorem dX5_readText_2 : decode cX5_readText 2 = .ok (.putfield 123, 3) := by decide +kernel
theorem dX5_readText_5 : decode cX5_readText 5 = .ok (.aload_n 0, 1) := by decide +kernel
theorem dX5_readText_6 : decode cX5_readText 6 = .ok (.iconst 0, 1) := by decide +kernel
theorem dX5_readText_7 : decode cX5_readText 7 = .ok (.putfield 131, 3) := by decide +kernel
theorem dX5_readText_10 : decode cX5_readText 10 = .ok (.iconst 0, 1) := by decide +kernel
theorem dX5_readText_11 : decode cX5_readText 11 = .ok (.istore_n 1, 1) := by decide +kernel
theorem dX5_readText_12 : decode cX5_readText 12 = .ok (.iload_n 1, 1) := by decide +kernel
theorem dX5_readText_13 : decode cX5_readText 13 = .ok (.aload_n 0, 1) := by decide +kernel
theorem dX5_readText_14 : decode cX5_readText 14 = .ok (.getfield 111, 3) := by decide +kernel
theorem dX5_readText_17 : decode cX5_readText 17 = .ok (.if_icmp .ge 22, 3) := by decide +kernel
theorem dX5_readText_20 : decode cX5_readText 20 = .ok (.aload_n 0, 1) := by decide +kernel
theorem dX5_readText_21 : decode cX5_readText 21 = .ok (.aload_n 0, 1) := by decide +kernel
theorem dX5_readText_22 : decode cX5_readText 22 = .ok (.getfield 16, 3) := by decide +kernel
theorem dX5_readText_25 : decode cX5_readText 25 = .ok (.iload_n 1, 1) := by decide +kernel
theorem dX5_readText_26 : decode cX5_readText 26 = .ok (.iaload, 1) := by decide +kernel
theorem dX5_readText_27 : decode cX5_readText 27 = .ok (.invokevirtual 134, 3) := by decide +kernel
theorem dX5_readText_30 : decode cX5_readText 30 = .ok (.ifCond .eq 9, 3) := by decide +kernel
theorem dX5_readText_33 : decode cX5_readText 33 = .ok (.iinc 1 1, 3) := by decide +kernel
theorem dX5_readText_36 : decode cX5_readText 36 = .ok (.goto (-24), 3) := by decide +kernel
theorem dX5_readText_39 : decode cX5_readText 39 = .ok (.iload_n 1, 1) := by decide +kernel
theorem dX5_readText_40 : decode cX5_readText 40 = .ok (.ireturn, 1) := by decide +kernel
set_option maxRecDepth 20000 in
theorem ggX5_firstError_X5_readText : GoodIn wsX5_firstError wsX5_readText := goodIn_r _ [6, 7, 8, 9, 10, 11, 12, 13, 5, 14, 15, 16, 17, 18, 19, 20, 21, 22, 23, 24, 25, 26, 27, 28, 29, 30, 31, 32, 33, 34, 35, 36, 37, 38, 39, 40, 41, 42, 43, 44] rfl (by decide +kernel)
set_option maxRecDepth 20000 in
theorem gX5_firstError_X5_readText : GoodIn wsX5_firstError (wsV RX5 137 RX5 yX5_readText wsX5_readText) := goodIn_app (goodIn_r _ [2, 3, 4, 5] rfl (by decide +kernel)) ggX5_firstError_X5_readText
theorem dX5_firstError_0 : decode cX5_firstError 0 = .ok (.aload_n 0, 1) := by decide +kernel
theorem dX5_firstError_1 : decode cX5_firstError 1 = .ok (.iconst 0, 1) := by decide +kernel
theorem dX5_firstError_2 : decode cX5_firstError 2 = .ok (.putfield 26, 3) := by decide +kernel
theorem dX5_firstError_5 : decode cX5_firstError 5 = .ok (.aload_n 0, 1) := by decide +kernel
theorem dX5_firstError_6 : decode cX5_firstError 6 = .ok (.invokevirtual 137, 3) := by decide +kernel
theorem dX5_firstError_9 : decode cX5_firstError 9 = .ok (.ireturn, 1) := by decide +kernel
set_option maxRecDepth 20000 in
theorem ggX5_does_X5_start : GoodIn wsX5_does wsX5_start := goodIn_r _ [6, 1, 7, 8, 9, 10, 5, 11, 12, 13, 14, 98, 99, 100, 101, 102, 103, 104, 105, 106, 107, 108, 109, 110, 111, 112] rfl (by decide +kernel)
set_option maxRecDepth 20000 in
theorem gX5_does_X5_start : GoodIn wsX5_does (wsV RX5 141 RX5 yX5_start wsX5_start) := goodIn_app (goodIn_r _ [2, 3, 4, 5] rfl (by decide +kernel)) ggX5_does_X5_start
set_option maxRecDepth 20000 in
theorem ggX5_does_X5_stop : GoodIn wsX5_does wsX5_stop := goodIn_r _ [18, 1, 7, 19, 20, 21, 5, 22, 12, 13, 14, 98, 99, 100, 101, 102, 103, 104, 105, 106, 107, 108, 109, 110, 111, 112] rfl (by decide +kernel)
set_option maxRecDepth 20000 in
theorem gX5_does_X5_stop : GoodIn wsX5_does (wsV RX5 144 RX5 yX5_stop wsX5_stop) := goodIn_app (goodIn_r _ [15, 16, 17, 5] rfl (by decide +kernel)) ggX5_does_X5_stop
set_option maxRecDepth 20000 in
theorem ggX5_does_X5_run : GoodIn wsX5_does wsX5_run := goodIn_r _ [26, 7, 27, 1, 28, 29, 5, 30, 31, 32, 33, 34, 35, 36, 37, 38, 39, 40, 41, 42, 8, 9, 10, 11, 19, 20, 21, 22, 12, 13, 14, 43, 44, 45, 46, 47, 48, 49, 50, 51, 52, 53, 54, 55, 56, 57, 58, 59, 60, 61, 62, 63, 64, 65, 66, 67, 68, 69, 70, 71, 72, 73, 74, 75, 76, 77, 78, 79, 80, 81, 82, 83, 98, 99, 100, 101, 102, 103, 104, 105, 106, 107, 108, 109, 110, 111, 112] rfl (by decide +kernel)
set_option maxRecDepth 20000 in
theorem gX5_does_X5_run : GoodIn wsX5_does (wsV RX5 147 RX5 yX5_run wsX5_run) := goodIn_app (goodIn_r _ [23, 24, 25, 5] rfl (by decide +kernel)) ggX5_does_X5_run
set_option maxRecDepth 20000 in
theorem ggX5_does_X5_set : GoodIn wsX5_does wsX5_set := goodIn_r _ [87, 1, 7, 88, 89, 5, 90, 28, 29, 30, 91, 92, 93, 94, 95, 96, 97, 98, 99, 100, 101, 102, 103, 104, 105, 106, 107, 108, 109, 110, 111, 112] rfl (by decide +kernel)
set_option maxRecDepth 20000 in
theorem gX5_does_X5_set : GoodIn wsX5_does (wsV RX5 150 RX5 yX5_set wsX5_set) := goodIn_app (goodIn_r _ [84, 85, 86, 5] rfl (by decide +kernel)) ggX5_does_X5_set
theorem dX5_does_0 : decode cX5_does 0 = .ok (.iload_n 1, 1) := by decide +kernel
theorem dX5_does_1 : decode cX5_does 1 = .ok (.lookupswitch 60 #[(114, 51), (115, 35), (120, 43)], 35) := by decide +kernel
theorem dX5_does_36 : decode cX5_does 36 = .ok (.aload_n 0, 1) := by decide +kernel
theorem dX5_does_37 : decode cX5_does 37 = .ok (.invokevirtual 141, 3) := by decide +kernel
theorem dX5_does_40 : decode cX5_does 40 = .ok (.pop, 1) := by decide +kernel
theorem dX5_does_41 : decode cX5_does 41 = .ok (.goto 57, 3) := by decide +kernel
theorem dX5_does_44 : decode cX5_does 44 = .ok (.aload_n 0, 1) := by decide +kernel
theorem dX5_does_45 : decode cX5_does 45 = .ok (.invokevirtual 144, 3) := by decide +kernel
theorem dX5_does_48 : decode cX5_does 48 = .ok (.pop, 1) := by decide +kernel
theorem dX5_does_49 : decode cX5_does 49 = .ok (.goto 49, 3) := by decide +kernel
theorem dX5_does_52 : decode cX5_does 52 = .ok (.aload_n 0, 1) := by decide +kernel
theorem dX5_does_53 : decode cX5_does 53 = .ok (.iload_n 2, 1) := by decide +kernel
theorem dX5_does_54 : decode cX5_does 54 = .ok (.invokevirtual 147, 3) := by decide +kernel
theorem dX5_does_57 : decode cX5_does 57 = .ok (.pop, 1) := by decide +kernel
theorem dX5_does_58 : decode cX5_does 58 = .ok (.goto 40, 3) := by decide +kernel
theorem dX5_does_61 : decode cX5_does 61 = .ok (.aload_n 0, 1) := by decide +kernel
theorem dX5_does_62 : decode cX5_does 62 = .ok (.iload_n 1, 1) := by decide +kernel
theorem dX5_does_63 : decode cX5_does 63 = .ok (.bipush 105, 2) := by decide +kernel
theorem dX5_does_65 : decode cX5_does 65 = .ok (.if_icmp .ne 7, 3) := by decide +kernel
theorem dX5_does_68 : decode cX5_does 68 = .ok (.iconst 0, 1) := by decide +kernel
theorem dX5_does_69 : decode cX5_does 69 = .ok (.goto 24, 3) := by decide +kernel
theorem dX5_does_72 : decode cX5_does 72 = .ok (.iload_n 1, 1) := by decide +kernel
theorem dX5_does_73 : decode cX5_does 73 = .ok (.bipush 116, 2) := by decide +kernel
theorem dX5_does_75 : decode cX5_does 75 = .ok (.if_icmp .ne 7, 3) := by decide +kernel
theorem dX5_does_78 : decode cX5_does 78 = .ok (.iconst 1, 1) := by decide +kernel
theorem dX5_does_79 : decode cX5_does 79 = .ok (.goto 14, 3) := by decide +kernel
theorem dX5_does_82 : decode cX5_does 82 = .ok (.iload_n 1, 1) := by decide +kernel
theorem dX5_does_83 : decode cX5_does 83 = .ok (.bipush 108, 2) := by decide +kernel
theorem dX5_does_85 : decode cX5_does 85 = .ok (.if_icmp .ne 7, 3) := by decide +kernel
theorem dX5_does_88 : decode cX5_does 88 = .ok (.iconst 2, 1) := by decide +kernel
theorem dX5_does_89 : decode cX5_does 89 = .ok (.goto 4, 3) := by decide +kernel
theorem dX5_does_92 : decode cX5_does 92 = .ok (.iconst 5, 1) := by decide +kernel
theorem dX5_does_93 : decode cX5_does 93 = .ok (.iload_n 2, 1) := by decide +kernel
theorem dX5_does_94 : decode cX5_does 94 = .ok (.invokevirtual 150, 3) := by decide +kernel
theorem dX5_does_97 : decode cX5_does 97 = .ok (.pop, 1) := by decide +kernel
theorem dX5_does_98 : decode cX5_does 98 = .ok (.aload_n 0, 1) := by decide +kernel
theorem dX5_does_99 : decode cX5_does 99 = .ok (.getfield 26, 3) := by decide +kernel
theorem dX5_does_102 : decode cX5_does 102 = .ok (.ifCond .ne 7, 3) := by decide +kernel
theorem dX5_does_105 : decode cX5_does 105 = .ok (.iconst 1, 1) := by decide +kernel
theorem dX5_does_106 : decode cX5_does 106 = .ok (.goto 4, 3) := by decide +kernel
theorem dX5_does_109 : decode cX5_does 109 = .ok (.iconst 0, 1) := by decide +kernel
theorem dX5_does_110 : decode cX5_does 110 = .ok (.ireturn, 1) := by decide +kernel
set_option maxRecDepth 20000 in
theorem ggX5_play_X5_readText : GoodIn wsX5_play wsX5_readText := goodIn_r _ [10, 2, 4, 1, 11, 12, 13, 14, 9, 15, 16, 17, 18, 19, 20, 21, 22, 23, 24, 25, 26, 27, 28, 29, 5, 126, 127, 128, 129, 130, 131, 132, 133, 134, 135, 136, 137, 138, 139, 140] rfl (by decide +kernel)
set_option maxRecDepth 20000 in
theorem gX5_play_X5_readText : GoodIn wsX5_play (wsV RX5 137 RX5 yX5_readText wsX5_readText) := goodIn_app (goodIn_r _ [6, 7, 8, 9] rfl (by decide +kernel)) ggX5_play_X5_readText
set_option maxRecDepth 20000 in
theorem ggX5_play_X5_endItem : GoodIn wsX5_play wsX5_endItem := goodIn_r _ [29, 5, 4, 25, 16, 2, 126, 127, 128, 129, 130, 131, 132, 133, 134, 135, 136, 137, 138, 139, 140] rfl (by decide +kernel)
set_option maxRecDepth 20000 in
theorem gX5_play_X5_endItem : GoodIn wsX5_play (wsV RX5 128 RX5 yX5_endItem wsX5_endItem) := goodIn_app (goodIn_r _ [26, 27, 28, 9] rfl (by decide +kernel)) ggX5_play_X5_endItem
set_option maxRecDepth 20000 in
theorem ggX5_play_X5_does : GoodIn wsX5_play wsX5_does := goodIn_r _ [33, 3, 34, 35, 36, 9, 37, 38, 39, 40, 41, 42, 43, 44, 45, 46, 47, 48, 49, 50, 51, 52, 53, 54, 55, 56, 57, 58, 18, 19, 20, 59, 60, 61, 62, 63, 64, 65, 66, 67, 68, 69, 70, 71, 72, 73, 74, 75, 76, 77, 78, 79, 80, 81, 82, 83, 84, 85, 86, 87, 88, 89, 90, 91, 92, 93, 94, 95, 96, 97, 98, 99, 100, 101, 102, 103, 104, 105, 106, 107, 108, 109, 110, 111, 112, 113, 114, 115, 116, 117, 118, 119, 120, 121, 122, 123, 124, 125, 126, 127, 128, 129, 130, 131, 132, 133, 134, 135, 136, 137, 138, 139, 140] rfl (by decide +kernel)
set_option maxRecDepth 20000 in
theorem gX5_play_X5_does : GoodIn wsX5_play (wsV RX5 153 RX5 yX5_does wsX5_does) := goodIn_app (goodIn_r _ [30, 31, 32, 9] rfl (by decide +kernel)) ggX5_play_X5_does
theorem dX5_play_0 : decode cX5_play 0 = .ok (.aload_n 0, 1) := by decide +kernel
theorem dX5_play_1 : decode cX5_play 1 = .ok (.invokevirtual 137, 3) := by decide +kernel
theorem dX5_play_4 : decode cX5_play 4 = .ok (.aload_n 0, 1) := by decide +kernel
theorem dX5_play_5 : decode cX5_play 5 = .ok (.getfield 111, 3) := by decide +kernel
theorem dX5_play_8 : decode cX5_play 8 = .ok (.if_icmp .ne 23, 3) := by decide +kernel
theorem dX5_play_11 : decode cX5_play 11 = .ok (.aload_n 0, 1) := by decide +kernel
theorem dX5_play_12 : decode cX5_play 12 = .ok (.getfield 123, 3) := by decide +kernel
theorem dX5_play_15 : decode cX5_play 15 = .ok (.iconst 1, 1) := by decide +kernel
theorem dX5_play_16 : decode cX5_play 16 = .ok (.if_icmp .eq 11, 3) := by decide +kernel
theorem dX5_play_19 : decode cX5_play 19 = .ok (.aload_n 0, 1) := by decide +kernel
theorem dX5_play_20 : decode cX5_play 20 = .ok (.getfield 123, 3) := by decide +kernel
theorem dX5_play_23 : decode cX5_play 23 = .ok (.iconst 3, 1) := by decide +kernel
theorem dX5_play_24 : decode cX5_play 24 = .ok (.if_icmp .ne 7, 3) := by decide +kernel
theorem dX5_play_27 : decode cX5_play 27 = .ok (.iconst 1, 1) := by decide +kernel
theorem dX5_play_28 : decode cX5_play 28 = .ok (.goto 4, 3) := by decide +kernel
theorem dX5_play_31 : decode cX5_play 31 = .ok (.iconst 0, 1) := by decide +kernel
theorem dX5_play_32 : decode cX5_play 32 = .ok (.istore_n 1, 1) := by decide +kernel
theorem dX5_play_33 : decode cX5_play 33 = .ok (.aload_n 0, 1) := by decide +kernel
theorem dX5_play_34 : decode cX5_play 34 = .ok (.iload_n 1, 1) := by decide +kernel
theorem dX5_play_35 : decode cX5_play 35 = .ok (.ifCond .eq 7, 3) := by decide +kernel
theorem dX5_play_38 : decode cX5_play 38 = .ok (.iconst 0, 1) := by decide +kernel
theorem dX5_play_39 : decode cX5_play 39 = .ok (.goto 4, 3) := by decide +kernel
theorem dX5_play_42 : decode cX5_play 42 = .ok (.iconst 1, 1) := by decide +kernel
theorem dX5_play_43 : decode cX5_play 43 = .ok (.putfield 26, 3) := by decide +kernel
theorem dX5_play_46 : decode cX5_play 46 = .ok (.aload_n 0, 1) := by decide +kernel
theorem dX5_play_47 : decode cX5_play 47 = .ok (.getfield 26, 3) := by decide +kernel
theorem dX5_play_50 : decode cX5_play 50 = .ok (.ifCond .le 5, 3) := by decide +kernel
theorem dX5_play_53 : decode cX5_play 53 = .ok (.iconst 0, 1) := by decide +kernel
theorem dX5_play_54 : decode cX5_play 54 = .ok (.ireturn, 1) := by decide +kernel
theorem dX5_play_55 : decode cX5_play 55 = .ok (.aload_n 0, 1) := by decide +kernel
theorem dX5_play_56 : decode cX5_play 56 = .ok (.invokevirtual 128, 3) := by decide +kernel
theorem dX5_play_59 : decode cX5_play 59 = .ok (.iconst 0, 1) := by decide +kernel
theorem dX5_play_60 : decode cX5_play 60 = .ok (.istore_n 2, 1) := by decide +kernel
theorem dX5_play_61 : decode cX5_play 61 = .ok (.iload_n 2, 1) := by decide +kernel
theorem dX5_play_62 : decode cX5_play 62 = .ok (.aload_n 0, 1) := by decide +kernel
theorem dX5_play_63 : decode cX5_play 63 = .ok (.getfield 131, 3) := by decide +kernel
theorem dX5_play_66 : decode cX5_play 66 = .ok (.if_icmp .ge 34, 3) := by decide +kernel
theorem dX5_play_69 : decode cX5_play 69 = .ok (.aload_n 0, 1) := by decide +kernel
theorem dX5_play_70 : decode cX5_play 70 = .ok (.aload_n 0, 1) := by decide +kernel
theorem dX5_play_71 : decode cX5_play 71 = .ok (.getfield 19, 3) := by decide +kernel
theorem dX5_play_74 : decode cX5_play 74 = .ok (.iconst 2, 1) := by decide +kernel
theorem dX5_play_75 : decode cX5_play 75 = .ok (.iload_n 2, 1) := by decide +kernel
theorem dX5_play_76 : decode cX5_play 76 = .ok (.imul, 1) := by decide +kernel
theorem dX5_play_77 : decode cX5_play 77 = .ok (.iaload, 1) := by decide +kernel
theorem dX5_play_78 : decode cX5_play 78 = .ok (.aload_n 0, 1) := by decide +kernel
theorem dX5_play_79 : decode cX5_play 79 = .ok (.getfield 19, 3) := by decide +kernel
theorem dX5_play_82 : decode cX5_play 82 = .ok (.iconst 2, 1) := by decide +kernel
theorem dX5_play_83 : decode cX5_play 83 = .ok (.iload_n 2, 1) := by decide +kernel
theorem dX5_play_84 : decode cX5_play 84 = .ok (.imul, 1) := by decide +kernel
theorem dX5_play_85 : decode cX5_play 85 = .ok (.iconst 1, 1) := by decide +kernel
theorem dX5_play_86 : decode cX5_play 86 = .ok (.iadd, 1) := by decide +kernel
theorem dX5_play_87 : decode cX5_play 87 = .ok (.iaload, 1) := by decide +kernel
theorem dX5_play_88 : decode cX5_play 88 = .ok (.invokevirtual 153, 3) := by decide +kernel
theorem dX5_play_91 : decode cX5_play 91 = .ok (.ifCond .eq 9, 3) := by decide +kernel
theorem dX5_play_94 : decode cX5_play 94 = .ok (.iinc 2 1, 3) := by decide +kernel
theorem dX5_play_97 : decode cX5_play 97 = .ok (.goto (-36), 3) := by decide +kernel
theorem dX5_play_100 : decode cX5_play 100 = .ok (.aload_n 0, 1) := by decide +kernel
theorem dX5_play_101 : decode cX5_play 101 = .ok (.iconst 0, 1) := by decide +kernel
theorem dX5_play_102 : decode cX5_play 102 = .ok (.putfield 26, 3) := by decide +kernel
theorem dX5_play_105 : decode cX5_play 105 = .ok (.aload_n 0, 1) := by decide +kernel
theorem dX5_play_106 : decode cX5_play 106 = .ok (.iconst 0, 1) := by decide +kernel
theorem dX5_play_107 : decode cX5_play 107 = .ok (.putfield 111, 3) := by decide +kernel
theorem dX5_play_110 : decode cX5_play 110 = .ok (.iload_n 2, 1) := by decide +kernel
theorem dX5_play_111 : decode cX5_play 111 = .ok (.ireturn, 1) := by decide +kernel
theorem dX5_place_0 : decode cX5_place 0 = .ok (.iload_n 0, 1) := by decide +kernel
theorem dX5_place_1 : decode cX5_place 1 = .ok (.tableswitch 113 0 13 #[71, 74, 77, 80, 83, 86, 89, 92, 95, 98, 101, 104, 107, 110], 71) := by decide +kernel
theorem dX5_place_72 : decode cX5_place 72 = .ok (.bipush 20, 2) := by decide +kernel
theorem dX5_place_74 : decode cX5_place 74 = .ok (.ireturn, 1) := by decide +kernel
theorem dX5_place_75 : decode cX5_place 75 = .ok (.bipush 17, 2) := by decide +kernel
theorem dX5_place_77 : decode cX5_place 77 = .ok (.ireturn, 1) := by decide +kernel
theorem dX5_place_78 : decode cX5_place 78 = .ok (.bipush 18, 2) := by decide +kernel
theorem dX5_place_80 : decode cX5_place 80 = .ok (.ireturn, 1) := by decide +kernel
theorem dX5_place_81 : decode cX5_place 81 = .ok (.bipush 16, 2) := by decide +kernel
theorem dX5_place_83 : decode cX5_place 83 = .ok (.ireturn, 1) := by decide +kernel
theorem dX5_place_84 : decode cX5_place 84 = .ok (.bipush 24, 2) := by decide +kernel
theorem dX5_place_86 : decode cX5_place 86 = .ok (.ireturn, 1) := by decide +kernel
theorem dX5_place_87 : decode cX5_place 87 = .ok (.bipush 22, 2) := by decide +kernel
theorem dX5_place_89 : decode cX5_place 89 = .ok (.ireturn, 1) := by decide +kernel
theorem dX5_place_90 : decode cX5_place 90 = .ok (.bipush 19, 2) := by decide +kernel
theorem dX5_place_92 : decode cX5_place 92 = .ok (.ireturn, 1) := by decide +kernel
theorem dX5_place_93 : decode cX5_place 93 = .ok (.bipush 21, 2) := by decide +kernel
theorem dX5_place_95 : decode cX5_place 95 = .ok (.ireturn, 1) := by decide +kernel
theorem dX5_place_96 : decode cX5_place 96 = .ok (.bipush 23, 2) := by decide +kernel
theorem dX5_place_98 : decode cX5_place 98 = .ok (.ireturn, 1) := by decide +kernel
theorem dX5_place_99 : decode cX5_place 99 = .ok (.bipush 25, 2) := by decide +kernel
theorem dX5_place_101 : decode cX5_place 101 = .ok (.ireturn, 1) := by decide +kernel
theorem dX5_place_102 : decode cX5_place 102 = .ok (.bipush 26, 2) := by decide +kernel
theorem dX5_place_104 : decode cX5_place 104 = .ok (.ireturn, 1) := by decide +kernel
theorem dX5_place_105 : decode cX5_place 105 = .ok (.bipush 27, 2) := by decide +kernel
theorem dX5_place_107 : decode cX5_place 107 = .ok (.ireturn, 1) := by decide +kernel
theorem dX5_place_108 : decode cX5_place 108 = .ok (.bipush 28, 2) := by decide +kernel
theorem dX5_place_110 : decode cX5_place 110 = .ok (.ireturn, 1) := by decide +kernel
theorem dX5_place_111 : decode cX5_place 111 = .ok (.bipush 15, 2) := by decide +kernel
theorem dX5_place_113 : decode cX5_place 113 = .ok (.ireturn, 1) := by decide +kernel
theorem dX5_place_114 : decode cX5_place 114 = .ok (.bipush 31, 2) := by decide +kernel
theorem dX5_place_116 : decode cX5_place 116 = .ok (.ireturn, 1) := by decide +kernel
set_option maxRecDepth 20000 in
theorem ggX5_count_X5_within : GoodIn wsX5_count wsX5_within := goodIn_r _ [6] rfl (by decide +kernel)
set_option maxRecDepth 20000 in
theorem gX5_count_X5_within : GoodIn wsX5_count (va_wsS RX5 91 yX5_within wsX5_within) := goodIn_app (goodIn_r _ [3, 4, 5] rfl (by decide +kernel)) ggX5_count_X5_within
set_option maxRecDepth 20000 in
theorem ggX5_count_X5_place : GoodIn wsX5_count wsX5_place := goodIn_r _ [9] rfl (by decide +kernel)
set_option maxRecDepth 20000 in
theorem gX5_count_X5_place : GoodIn wsX5_count (va_wsS RX5 157 yX5_place wsX5_place) := goodIn_app (goodIn_r _ [7, 8, 5] rfl (by decide +kernel)) ggX5_count_X5_place
theorem dX5_count_0 : decode cX5_count 0 = .ok (.aload_n 0, 1) := by decide +kernel
theorem dX5_count_1 : decode cX5_count 1 = .ok (.iload_n 1, 1) := by decide +kernel
theorem dX5_count_2 : decode cX5_count 2 = .ok (.iconst 0, 1) := by decide +kernel
theorem dX5_count_3 : decode cX5_count 3 = .ok (.bipush 14, 2) := by decide +kernel
theorem dX5_count_5 : decode cX5_count 5 = .ok (.invokestatic 91, 3) := by decide +kernel
theorem dX5_count_8 : decode cX5_count 8 = .ok (.ifCond .eq 7, 3) := by decide +kernel
theorem dX5_count_11 : decode cX5_count 11 = .ok (.iconst 0, 1) := by decide +kernel
theorem dX5_count_12 : decode cX5_count 12 = .ok (.goto 4, 3) := by decide +kernel
theorem dX5_count_15 : decode cX5_count 15 = .ok (.iconst 1, 1) := by decide +kernel
theorem dX5_count_16 : decode cX5_count 16 = .ok (.putfield 26, 3) := by decide +kernel
theorem dX5_count_19 : decode cX5_count 19 = .ok (.aload_n 0, 1) := by decide +kernel
theorem dX5_count_20 : decode cX5_count 20 = .ok (.getfield 26, 3) := by decide +kernel
theorem dX5_count_23 : decode cX5_count 23 = .ok (.ifCond .le 7, 3) := by decide +kernel
theorem dX5_count_26 : decode cX5_count 26 = .ok (.iconst 0, 1) := by decide +kernel
theorem dX5_count_27 : decode cX5_count 27 = .ok (.goto 12, 3) := by decide +kernel
theorem dX5_count_30 : decode cX5_count 30 = .ok (.aload_n 0, 1) := by decide +kernel
theorem dX5_count_31 : decode cX5_count 31 = .ok (.getfield 7, 3) := by decide +kernel
theorem dX5_count_34 : decode cX5_count 34 = .ok (.iload_n 1, 1) := by decide +kernel
theorem dX5_count_35 : decode cX5_count 35 = .ok (.invokestatic 157, 3) := by decide +kernel
theorem dX5_count_38 : decode cX5_count 38 = .ok (.iaload, 1) := by decide +kernel
theorem dX5_count_39 : decode cX5_count 39 = .ok (.ireturn, 1) := by decide +kernel
set_option maxRecDepth 20000 in
theorem ggX5_phase_X5_within : GoodIn wsX5_phase wsX5_within := goodIn_r _ [6] rfl (by decide +kernel)
set_option maxRecDepth 20000 in
theorem gX5_phase_X5_within : GoodIn wsX5_phase (va_wsS RX5 91 yX5_within wsX5_within) := goodIn_app (goodIn_r _ [3, 4, 5] rfl (by decide +kernel)) ggX5_phase_X5_within
set_option maxRecDepth 20000 in
theorem ggX5_phase_X5_at : GoodIn wsX5_phase wsX5_at := goodIn_r _ [9] rfl (by decide +kernel)
set_option maxRecDepth 20000 in
theorem gX5_phase_X5_at : GoodIn wsX5_phase (va_wsS RX5 35 yX5_at wsX5_at) := goodIn_app (goodIn_r _ [7, 8, 5] rfl (by decide +kernel)) ggX5_phase_X5_at
theorem dX5_phase_0 : decode cX5_phase 0 = .ok (.aload_n 0, 1) := by decide +kernel
theorem dX5_phase_1 : decode cX5_phase 1 = .ok (.iload_n 1, 1) := by decide +kernel
theorem dX5_phase_2 : decode cX5_phase 2 = .ok (.iconst 0, 1) := by decide +kernel
theorem dX5_phase_3 : decode cX5_phase 3 = .ok (.aload_n 0, 1) := by decide +kernel
theorem dX5_phase_4 : decode cX5_phase 4 = .ok (.getfield 7, 3) := by decide +kernel
theorem dX5_phase_7 : decode cX5_phase 7 = .ok (.bipush 15, 2) := by decide +kernel
theorem dX5_phase_9 : decode cX5_phase 9 = .ok (.iaload, 1) := by decide +kernel
theorem dX5_phase_10 : decode cX5_phase 10 = .ok (.iconst 1, 1) := by decide +kernel
theorem dX5_phase_11 : decode cX5_phase 11 = .ok (.isub, 1) := by decide +kernel
theorem dX5_phase_12 : decode cX5_phase 12 = .ok (.invokestatic 91, 3) := by decide +kernel
theorem dX5_phase_15 : decode cX5_phase 15 = .ok (.ifCond .ne 7, 3) := by decide +kernel
theorem dX5_phase_18 : decode cX5_phase 18 = .ok (.iconst 1, 1) := by decide +kernel
theorem dX5_phase_19 : decode cX5_phase 19 = .ok (.goto 18, 3) := by decide +kernel
theorem dX5_phase_22 : decode cX5_phase 22 = .ok (.iload_n 2, 1) := by decide +kernel
theorem dX5_phase_23 : decode cX5_phase 23 = .ok (.iconst 0, 1) := by decide +kernel
theorem dX5_phase_24 : decode cX5_phase 24 = .ok (.bipush 6, 2) := by decide +kernel
theorem dX5_phase_26 : decode cX5_phase 26 = .ok (.invokestatic 91, 3) := by decide +kernel
theorem dX5_phase_29 : decode cX5_phase 29 = .ok (.ifCond .eq 7, 3) := by decide +kernel
theorem dX5_phase_32 : decode cX5_phase 32 = .ok (.iconst 0, 1) := by decide +kernel
theorem dX5_phase_33 : decode cX5_phase 33 = .ok (.goto 4, 3) := by decide +kernel
theorem dX5_phase_36 : decode cX5_phase 36 = .ok (.iconst 2, 1) := by decide +kernel
theorem dX5_phase_37 : decode cX5_phase 37 = .ok (.putfield 26, 3) := by decide +kernel
theorem dX5_phase_40 : decode cX5_phase 40 = .ok (.aload_n 0, 1) := by decide +kernel
theorem dX5_phase_41 : decode cX5_phase 41 = .ok (.getfield 26, 3) := by decide +kernel
theorem dX5_phase_44 : decode cX5_phase 44 = .ok (.ifCond .le 7, 3) := by decide +kernel
theorem dX5_phase_47 : decode cX5_phase 47 = .ok (.iconst 0, 1) := by decide +kernel
theorem dX5_phase_48 : decode cX5_phase 48 = .ok (.goto 13, 3) := by decide +kernel
theorem dX5_phase_51 : decode cX5_phase 51 = .ok (.aload_n 0, 1) := by decide +kernel
theorem dX5_phase_52 : decode cX5_phase 52 = .ok (.getfield 7, 3) := by decide +kernel
theorem dX5_phase_55 : decode cX5_phase 55 = .ok (.iload_n 1, 1) := by decide +kernel
theorem dX5_phase_56 : decode cX5_phase 56 = .ok (.iload_n 2, 1) := by decide +kernel
theorem dX5_phase_57 : decode cX5_phase 57 = .ok (.invokestatic 35, 3) := by decide +kernel
theorem dX5_phase_60 : decode cX5_phase 60 = .ok (.iaload, 1) := by decide +kernel
theorem dX5_phase_61 : decode cX5_phase 61 = .ok (.ireturn, 1) := by decide +kernel
set_option maxRecDepth 20000 in
theorem ggX5_record__X5_within : GoodIn wsX5_record_ wsX5_within := goodIn_r _ [6] rfl (by decide +kernel)
set_option maxRecDepth 20000 in
theorem gX5_record__X5_within : GoodIn wsX5_record_ (va_wsS RX5 91 yX5_within wsX5_within) := goodIn_app (goodIn_r _ [3, 4, 5] rfl (by decide +kernel)) ggX5_record__X5_within
theorem dX5_record__0 : decode cX5_record_ 0 = .ok (.aload_n 0, 1) := by decide +kernel
theorem dX5_record__1 : decode cX5_record_ 1 = .ok (.iload_n 1, 1) := by decide +kernel
theorem dX5_record__2 : decode cX5_record_ 2 = .ok (.iconst 0, 1) := by decide +kernel
theorem dX5_record__3 : decode cX5_record_ 3 = .ok (.aload_n 0, 1) := by decide +kernel
theorem dX5_record__4 : decode cX5_record_ 4 = .ok (.getfield 7, 3) := by decide +kernel
theorem dX5_record__7 : decode cX5_record_ 7 = .ok (.bipush 31, 2) := by decide +kernel
theorem dX5_record__9 : decode cX5_record_ 9 = .ok (.iaload, 1) := by decide +kernel
theorem dX5_record__10 : decode cX5_record_ 10 = .ok (.iconst 1, 1) := by decide +kernel
theorem dX5_record__11 : decode cX5_record_ 11 = .ok (.isub, 1) := by decide +kernel
theorem dX5_record__12 : decode cX5_record_ 12 = .ok (.invokestatic 91, 3) := by decide +kernel
theorem dX5_record__15 : decode cX5_record_ 15 = .ok (.ifCond .ne 7, 3) := by decide +kernel
theorem dX5_record__18 : decode cX5_record_ 18 = .ok (.iconst 1, 1) := by decide +kernel
theorem dX5_record__19 : decode cX5_record_ 19 = .ok (.goto 17, 3) := by decide +kernel
theorem dX5_record__22 : decode cX5_record_ 22 = .ok (.iload_n 2, 1) := by decide +kernel
theorem dX5_record__23 : decode cX5_record_ 23 = .ok (.iconst 0, 1) := by decide +kernel
theorem dX5_record__24 : decode cX5_record_ 24 = .ok (.iconst 5, 1) := by decide +kernel
theorem dX5_record__25 : decode cX5_record_ 25 = .ok (.invokestatic 91, 3) := by decide +kernel
theorem dX5_record__28 : decode cX5_record_ 28 = .ok (.ifCond .eq 7, 3) := by decide +kernel
theorem dX5_record__31 : decode cX5_record_ 31 = .ok (.iconst 0, 1) := by decide +kernel
theorem dX5_record__32 : decode cX5_record_ 32 = .ok (.goto 4, 3) := by decide +kernel
theorem dX5_record__35 : decode cX5_record_ 35 = .ok (.iconst 2, 1) := by decide +kernel
theorem dX5_record__36 : decode cX5_record_ 36 = .ok (.putfield 26, 3) := by decide +kernel
theorem dX5_record__39 : decode cX5_record_ 39 = .ok (.aload_n 0, 1) := by decide +kernel
theorem dX5_record__40 : decode cX5_record_ 40 = .ok (.getfield 26, 3) := by decide +kernel
theorem dX5_record__43 : decode cX5_record_ 43 = .ok (.ifCond .le 7, 3) := by decide +kernel
theorem dX5_record__46 : decode cX5_record_ 46 = .ok (.iconst 0, 1) := by decide +kernel
theorem dX5_record__47 : decode cX5_record_ 47 = .ok (.goto 17, 3) := by decide +kernel
theorem dX5_record__50 : decode cX5_record_ 50 = .ok (.aload_n 0, 1) := by decide +kernel
theorem dX5_record__51 : decode cX5_record_ 51 = .ok (.getfield 7, 3) := by decide +kernel
theorem dX5_record__54 : decode cX5_record_ 54 = .ok (.bipush 63, 2) := by decide +kernel
theorem dX5_record__56 : decode cX5_record_ 56 = .ok (.bipush 6, 2) := by decide +kernel
theorem dX5_record__58 : decode cX5_record_ 58 = .ok (.iload_n 1, 1) := by decide +kernel
theorem dX5_record__59 : decode cX5_record_ 59 = .ok (.imul, 1) := by decide +kernel
theorem dX5_record__60 : decode cX5_record_ 60 = .ok (.iadd, 1) := by decide +kernel
theorem dX5_record__61 : decode cX5_record_ 61 = .ok (.iload_n 2, 1) := by decide +kernel
theorem dX5_record__62 : decode cX5_record_ 62 = .ok (.iadd, 1) := by decide +kernel
theorem dX5_record__63 : decode cX5_record_ 63 = .ok (.iaload, 1) := by decide +kernel
theorem dX5_record__64 : decode cX5_record_ 64 = .ok (.ireturn, 1) := by decide +kernel
set_option maxRecDepth 20000 in
theorem ggX5_keep_X5_layExtremes : GoodIn wsX5_keep wsX5_layExtremes := goodIn_r _ [7, 8, 9, 10, 11, 12, 13, 14, 15, 16, 17, 18, 19, 20, 21, 22, 23, 24, 25, 26] rfl (by decide +kernel)
set_option maxRecDepth 20000 in
theorem gX5_keep_X5_layExtremes : GoodIn wsX5_keep (wsV RX5 105 RX5 yX5_layExtremes wsX5_layExtremes) := goodIn_app (goodIn_r _ [3, 4, 5, 6] rfl (by decide +kernel)) ggX5_keep_X5_layExtremes
theorem dX5_keep_0 : decode cX5_keep 0 = .ok (.iconst 0, 1) := by decide +kernel
theorem dX5_keep_1 : decode cX5_keep 1 = .ok (.istore_n 1, 1) := by decide +kernel
theorem dX5_keep_2 : decode cX5_keep 2 = .ok (.iload_n 1, 1) := by decide +kernel
theorem dX5_keep_3 : decode cX5_keep 3 = .ok (.sipush 159, 3) := by decide +kernel
theorem dX5_keep_6 : decode cX5_keep 6 = .ok (.if_icmp .ge 21, 3) := by decide +kernel
theorem dX5_keep_9 : decode cX5_keep 9 = .ok (.aload_n 0, 1) := by decide +kernel
theorem dX5_keep_10 : decode cX5_keep 10 = .ok (.getfield 13, 3) := by decide +kernel
theorem dX5_keep_13 : decode cX5_keep 13 = .ok (.iload_n 1, 1) := by decide +kernel
theorem dX5_keep_14 : decode cX5_keep 14 = .ok (.aload_n 0, 1) := by decide +kernel
theorem dX5_keep_15 : decode cX5_keep 15 = .ok (.getfield 7, 3) := by decide +kernel
theorem dX5_keep_18 : decode cX5_keep 18 = .ok (.iload_n 1, 1) := by decide +kernel
theorem dX5_keep_19 : decode cX5_keep 19 = .ok (.iaload, 1) := by decide +kernel
theorem dX5_keep_20 : decode cX5_keep 20 = .ok (.iastore, 1) := by decide +kernel
theorem dX5_keep_21 : decode cX5_keep 21 = .ok (.iinc 1 1, 3) := by decide +kernel
theorem dX5_keep_24 : decode cX5_keep 24 = .ok (.goto (-22), 3) := by decide +kernel
theorem dX5_keep_27 : decode cX5_keep 27 = .ok (.aload_n 0, 1) := by decide +kernel
theorem dX5_keep_28 : decode cX5_keep 28 = .ok (.invokevirtual 105, 3) := by decide +kernel
theorem dX5_keep_31 : decode cX5_keep 31 = .ok (.return_, 1) := by decide +kernel
theorem dX5_takeBack_0 : decode cX5_takeBack 0 = .ok (.iconst 0, 1) := by decide +kernel
theorem dX5_takeBack_1 : decode cX5_takeBack 1 = .ok (.istore_n 1, 1) := by decide +kernel
theorem dX5_takeBack_2 : decode cX5_takeBack 2 = .ok (.iload_n 1, 1) := by decide +kernel
theorem dX5_takeBack_3 : decode cX5_takeBack 3 = .ok (.sipush 159, 3) := by decide +kernel
theorem dX5_takeBack_6 : decode cX5_takeBack 6 = .ok (.if_icmp .ge 21, 3) := by decide +kernel
theorem dX5_takeBack_9 : decode cX5_takeBack 9 = .ok (.aload_n 0, 1) := by decide +kernel
theorem dX5_takeBack_10 : decode cX5_takeBack 10 = .ok (.getfield 7, 3) := by decide +kernel
theorem dX5_takeBack_13 : decode cX5_takeBack 13 = .ok (.iload_n 1, 1) := by decide +kernel
theorem dX5_takeBack_14 : decode cX5_takeBack 14 = .ok (.aload_n 0, 1) := by decide +kernel
theorem dX5_takeBack_15 : decode cX5_takeBack 15 = .ok (.getfield 13, 3) := by decide +kernel
theorem dX5_takeBack_18 : decode cX5_takeBack 18 = .ok (.iload_n 1, 1) := by decide +kernel
theorem dX5_takeBack_19 : decode cX5_takeBack 19 = .ok (.iaload, 1) := by decide +kernel
theorem dX5_takeBack_20 : decode cX5_takeBack 20 = .ok (.iastore, 1) := by decide +kernel
theorem dX5_takeBack_21 : decode cX5_takeBack 21 = .ok (.iinc 1 1, 3) := by decide +kernel
theorem dX5_takeBack_24 : decode cX5_takeBack 24 = .ok (.goto (-22), 3) := by decide +kernel
theorem dX5_takeBack_27 : decode cX5_takeBack 27 = .ok (.return_, 1) := by decide +kernel
set_option maxRecDepth 20000 in
theorem ggX5_ifLoaded_X5_within : GoodIn wsX5_ifLoaded wsX5_within := goodIn_r _ [10] rfl (by decide +kernel)
set_option maxRecDepth 20000 in
theorem gX5_ifLoaded_X5_within : GoodIn wsX5_ifLoaded (va_wsS RX5 91 yX5_within wsX5_within) := goodIn_app (goodIn_r _ [7, 8, 9] rfl (by decide +kernel)) ggX5_ifLoaded_X5_within
set_option maxRecDepth 20000 in
theorem ggX5_ifLoaded_X5_keep : GoodIn wsX5_ifLoaded wsX5_keep := goodIn_r _ [14, 15, 3, 16, 17, 18, 9, 19, 20, 4, 5, 6, 82, 83, 84, 85, 86, 87, 88, 89, 90, 91, 92, 93, 94, 95, 96] rfl (by decide +kernel)
set_option maxRecDepth 20000 in
theorem gX5_ifLoaded_X5_keep : GoodIn wsX5_ifLoaded (wsV RX5 160 RX5 yX5_keep wsX5_keep) := goodIn_app (goodIn_r _ [11, 12, 13, 9] rfl (by decide +kernel)) ggX5_ifLoaded_X5_keep
set_option maxRecDepth 20000 in
theorem ggX5_ifLoaded_X5_cycle : GoodIn wsX5_ifLoaded wsX5_cycle := goodIn_r _ [24, 3, 20, 6, 25, 26, 27, 9, 28, 29, 30, 31, 32, 33, 34, 35, 36, 37, 38, 39, 40, 41, 42, 43, 44, 45, 46, 47, 48, 49, 50, 51, 52, 53, 54, 55, 56, 57, 58, 59, 60, 61, 4, 5, 62, 63, 64, 65, 66, 67, 68, 69, 70, 71, 72, 73, 74, 75, 76, 77, 82, 83, 84, 85, 86, 87, 88, 89, 90, 91, 92, 93, 94, 95, 96] rfl (by decide +kernel)
set_option maxRecDepth 20000 in
theorem gX5_ifLoaded_X5_cycle : GoodIn wsX5_ifLoaded (wsV RX5 108 RX5 yX5_cycle wsX5_cycle) := goodIn_app (goodIn_r _ [21, 22, 23, 9] rfl (by decide +kernel)) ggX5_ifLoaded_X5_cycle
set_option maxRecDepth 20000 in
theorem ggX5_ifLoaded_X5_takeBack : GoodIn wsX5_ifLoaded wsX5_takeBack := goodIn_r _ [81, 3, 15, 82, 83, 84, 85, 86, 87, 88, 89, 90, 91, 92, 93, 94, 95, 96] rfl (by decide +kernel)
set_option maxRecDepth 20000 in
theorem gX5_ifLoaded_X5_takeBack : GoodIn wsX5_ifLoaded (wsV RX5 163 RX5 yX5_takeBack wsX5_takeBack) := goodIn_app (goodIn_r _ [78, 79, 80, 9] rfl (by decide +kernel)) ggX5_ifLoaded_X5_takeBack
theorem dX5_ifLoaded_0 : decode cX5_ifLoaded 0 = .ok (.aload_n 0, 1) := by decide +kernel
theorem dX5_ifLoaded_1 : decode cX5_ifLoaded 1 = .ok (.iload_n 1, 1) := by decide +kernel
theorem dX5_ifLoaded_2 : decode cX5_ifLoaded 2 = .ok (.iconst 0, 1) := by decide +kernel
theorem dX5_ifLoaded_3 : decode cX5_ifLoaded 3 = .ok (.ldc 30, 2) := by decide +kernel
theorem dX5_ifLoaded_5 : decode cX5_ifLoaded 5 = .ok (.invokestatic 91, 3) := by decide +kernel
theorem dX5_ifLoaded_8 : decode cX5_ifLoaded 8 = .ok (.ifCond .eq 26, 3) := by decide +kernel
theorem dX5_ifLoaded_11 : decode cX5_ifLoaded 11 = .ok (.iload_n 2, 1) := by decide +kernel
theorem dX5_ifLoaded_12 : decode cX5_ifLoaded 12 = .ok (.iconst 1, 1) := by decide +kernel
theorem dX5_ifLoaded_13 : decode cX5_ifLoaded 13 = .ok (.bipush 100, 2) := by decide +kernel
theorem dX5_ifLoaded_15 : decode cX5_ifLoaded 15 = .ok (.invokestatic 91, 3) := by decide +kernel
theorem dX5_ifLoaded_18 : decode cX5_ifLoaded 18 = .ok (.ifCond .eq 16, 3) := by decide +kernel
theorem dX5_ifLoaded_21 : decode cX5_ifLoaded 21 = .ok (.iload_n 3, 1) := by decide +kernel
theorem dX5_ifLoaded_22 : decode cX5_ifLoaded 22 = .ok (.iconst 0, 1) := by decide +kernel
theorem dX5_ifLoaded_23 : decode cX5_ifLoaded 23 = .ok (.iconst 5, 1) := by decide +kernel
theorem dX5_ifLoaded_24 : decode cX5_ifLoaded 24 = .ok (.invokestatic 91, 3) := by decide +kernel
theorem dX5_ifLoaded_27 : decode cX5_ifLoaded 27 = .ok (.ifCond .eq 7, 3) := by decide +kernel
theorem dX5_ifLoaded_30 : decode cX5_ifLoaded 30 = .ok (.iconst 0, 1) := by decide +kernel
theorem dX5_ifLoaded_31 : decode cX5_ifLoaded 31 = .ok (.goto 4, 3) := by decide +kernel
theorem dX5_ifLoaded_34 : decode cX5_ifLoaded 34 = .ok (.iconst 1, 1) := by decide +kernel
theorem dX5_ifLoaded_35 : decode cX5_ifLoaded 35 = .ok (.putfield 26, 3) := by decide +kernel
theorem dX5_ifLoaded_38 : decode cX5_ifLoaded 38 = .ok (.aload_n 0, 1) := by decide +kernel
theorem dX5_ifLoaded_39 : decode cX5_ifLoaded 39 = .ok (.getfield 26, 3) := by decide +kernel
theorem dX5_ifLoaded_42 : decode cX5_ifLoaded 42 = .ok (.ifCond .le 5, 3) := by decide +kernel
theorem dX5_ifLoaded_45 : decode cX5_ifLoaded 45 = .ok (.iconst 0, 1) := by decide +kernel
theorem dX5_ifLoaded_46 : decode cX5_ifLoaded 46 = .ok (.ireturn, 1) := by decide +kernel
theorem dX5_ifLoaded_47 : decode cX5_ifLoaded 47 = .ok (.aload_n 0, 1) := by decide +kernel
theorem dX5_ifLoaded_48 : decode cX5_ifLoaded 48 = .ok (.invokevirtual 160, 3) := by decide +kernel
theorem dX5_ifLoaded_51 : decode cX5_ifLoaded 51 = .ok (.aload_n 0, 1) := by decide +kernel
theorem dX5_ifLoaded_52 : decode cX5_ifLoaded 52 = .ok (.getfield 7, 3) := by decide +kernel
theorem dX5_ifLoaded_55 : decode cX5_ifLoaded 55 = .ok (.iconst 2, 1) := by decide +kernel
theorem dX5_ifLoaded_56 : decode cX5_ifLoaded 56 = .ok (.iload_n 1, 1) := by decide +kernel
theorem dX5_ifLoaded_57 : decode cX5_ifLoaded 57 = .ok (.iastore, 1) := by decide +kernel
theorem dX5_ifLoaded_58 : decode cX5_ifLoaded 58 = .ok (.iconst 0, 1) := by decide +kernel
theorem dX5_ifLoaded_59 : decode cX5_ifLoaded 59 = .ok (.istore 4, 2) := by decide +kernel
theorem dX5_ifLoaded_61 : decode cX5_ifLoaded 61 = .ok (.iload 4, 2) := by decide +kernel
theorem dX5_ifLoaded_63 : decode cX5_ifLoaded 63 = .ok (.iload_n 2, 1) := by decide +kernel
theorem dX5_ifLoaded_64 : decode cX5_ifLoaded 64 = .ok (.if_icmp .ge 13, 3) := by decide +kernel
theorem dX5_ifLoaded_67 : decode cX5_ifLoaded 67 = .ok (.aload_n 0, 1) := by decide +kernel
theorem dX5_ifLoaded_68 : decode cX5_ifLoaded 68 = .ok (.invokevirtual 108, 3) := by decide +kernel
theorem dX5_ifLoaded_71 : decode cX5_ifLoaded 71 = .ok (.iinc 4 1, 3) := by decide +kernel
theorem dX5_ifLoaded_74 : decode cX5_ifLoaded 74 = .ok (.goto (-13), 3) := by decide +kernel
theorem dX5_ifLoaded_77 : decode cX5_ifLoaded 77 = .ok (.iload_n 3, 1) := by decide +kernel
theorem dX5_ifLoaded_78 : decode cX5_ifLoaded 78 = .ok (.ifCond .ne 13, 3) := by decide +kernel
theorem dX5_ifLoaded_81 : decode cX5_ifLoaded 81 = .ok (.aload_n 0, 1) := by decide +kernel
theorem dX5_ifLoaded_82 : decode cX5_ifLoaded 82 = .ok (.getfield 7, 3) := by decide +kernel
theorem dX5_ifLoaded_85 : decode cX5_ifLoaded 85 = .ok (.bipush 17, 2) := by decide +kernel
theorem dX5_ifLoaded_87 : decode cX5_ifLoaded 87 = .ok (.iaload, 1) := by decide +kernel
theorem dX5_ifLoaded_88 : decode cX5_ifLoaded 88 = .ok (.goto 61, 3) := by decide +kernel
theorem dX5_ifLoaded_91 : decode cX5_ifLoaded 91 = .ok (.iload_n 3, 1) := by decide +kernel
theorem dX5_ifLoaded_92 : decode cX5_ifLoaded 92 = .ok (.iconst 1, 1) := by decide +kernel
theorem dX5_ifLoaded_93 : decode cX5_ifLoaded 93 = .ok (.if_icmp .ne 10, 3) := by decide +kernel
theorem dX5_ifLoaded_96 : decode cX5_ifLoaded 96 = .ok (.aload_n 0, 1) := by decide +kernel
theorem dX5_ifLoaded_97 : decode cX5_ifLoaded 97 = .ok (.getfield 69, 3) := by decide +kernel
theorem dX5_ifLoaded_100 : decode cX5_ifLoaded 100 = .ok (.goto 49, 3) := by decide +kernel
theorem dX5_ifLoaded_103 : decode cX5_ifLoaded 103 = .ok (.iload_n 3, 1) := by decide +kernel
theorem dX5_ifLoaded_104 : decode cX5_ifLoaded 104 = .ok (.iconst 2, 1) := by decide +kernel
theorem dX5_ifLoaded_105 : decode cX5_ifLoaded 105 = .ok (.if_icmp .ne 10, 3) := by decide +kernel
theorem dX5_ifLoaded_108 : decode cX5_ifLoaded 108 = .ok (.aload_n 0, 1) := by decide +kernel
theorem dX5_ifLoaded_109 : decode cX5_ifLoaded 109 = .ok (.getfield 72, 3) := by decide +kernel
theorem dX5_ifLoaded_112 : decode cX5_ifLoaded 112 = .ok (.goto 37, 3) := by decide +kernel
theorem dX5_ifLoaded_115 : decode cX5_ifLoaded 115 = .ok (.iload_n 3, 1) := by decide +kernel
theorem dX5_ifLoaded_116 : decode cX5_ifLoaded 116 = .ok (.iconst 3, 1) := by decide +kernel
theorem dX5_ifLoaded_117 : decode cX5_ifLoaded 117 = .ok (.if_icmp .ne 13, 3) := by decide +kernel
theorem dX5_ifLoaded_120 : decode cX5_ifLoaded 120 = .ok (.aload_n 0, 1) := by decide +kernel
theorem dX5_ifLoaded_121 : decode cX5_ifLoaded 121 = .ok (.getfield 7, 3) := by decide +kernel
theorem dX5_ifLoaded_124 : decode cX5_ifLoaded 124 = .ok (.bipush 20, 2) := by decide +kernel
theorem dX5_ifLoaded_126 : decode cX5_ifLoaded 126 = .ok (.iaload, 1) := by decide +kernel
theorem dX5_ifLoaded_127 : decode cX5_ifLoaded 127 = .ok (.goto 22, 3) := by decide +kernel
theorem dX5_ifLoaded_130 : decode cX5_ifLoaded 130 = .ok (.iload_n 3, 1) := by decide +kernel
theorem dX5_ifLoaded_131 : decode cX5_ifLoaded 131 = .ok (.iconst 4, 1) := by decide +kernel
theorem dX5_ifLoaded_132 : decode cX5_ifLoaded 132 = .ok (.if_icmp .ne 13, 3) := by decide +kernel
theorem dX5_ifLoaded_135 : decode cX5_ifLoaded 135 = .ok (.aload_n 0, 1) := by decide +kernel
theorem dX5_ifLoaded_136 : decode cX5_ifLoaded 136 = .ok (.getfield 7, 3) := by decide +kernel
theorem dX5_ifLoaded_139 : decode cX5_ifLoaded 139 = .ok (.bipush 16, 2) := by decide +kernel
theorem dX5_ifLoaded_141 : decode cX5_ifLoaded 141 = .ok (.iaload, 1) := by decide +kernel
theorem dX5_ifLoaded_142 : decode cX5_ifLoaded 142 = .ok (.goto 7, 3) := by decide +kernel
theorem dX5_ifLoaded_145 : decode cX5_ifLoaded 145 = .ok (.aload_n 0, 1) := by decide +kernel
theorem dX5_ifLoaded_146 : decode cX5_ifLoaded 146 = .ok (.getfield 62, 3) := by decide +kernel
theorem dX5_ifLoaded_149 : decode cX5_ifLoaded 149 = .ok (.istore 4, 2) := by decide +kernel
theorem dX5_ifLoaded_151 : decode cX5_ifLoaded 151 = .ok (.aload_n 0, 1) := by decide +kernel
theorem dX5_ifLoaded_152 : decode cX5_ifLoaded 152 = .ok (.invokevirtual 163, 3) := by decide +kernel
theorem dX5_ifLoaded_155 : decode cX5_ifLoaded 155 = .ok (.iload 4, 2) := by decide +kernel
theorem dX5_ifLoaded_157 : decode cX5_ifLoaded 157 = .ok (.ireturn, 1) := by decide +kernel
set_option maxRecDepth 20000 in
theorem ggX5_settledAt_X5_keep : GoodIn wsX5_settledAt wsX5_keep := goodIn_r _ [6, 7, 1, 8, 9, 10, 5, 11, 12, 13, 14, 15, 80, 81, 82, 83, 84, 85, 86, 87, 88, 89, 90, 91, 92, 93, 94] rfl (by decide +kernel)
set_option maxRecDepth 20000 in
theorem gX5_settledAt_X5_keep : GoodIn wsX5_settledAt (wsV RX5 160 RX5 yX5_keep wsX5_keep) := goodIn_app (goodIn_r _ [2, 3, 4, 5] rfl (by decide +kernel)) ggX5_settledAt_X5_keep
set_option maxRecDepth 20000 in
theorem ggX5_settledAt_X5_cycle : GoodIn wsX5_settledAt wsX5_cycle := goodIn_r _ [19, 1, 12, 15, 20, 21, 22, 5, 23, 24, 25, 26, 27, 28, 29, 30, 31, 32, 33, 34, 35, 36, 37, 38, 39, 40, 41, 42, 43, 44, 45, 46, 47, 48, 49, 50, 51, 52, 53, 54, 55, 56, 13, 14, 57, 58, 59, 60, 61, 62, 63, 64, 65, 66, 67, 68, 69, 70, 71, 72, 80, 81, 82, 83, 84, 85, 86, 87, 88, 89, 90, 91, 92, 93, 94] rfl (by decide +kernel)
set_option maxRecDepth 20000 in
theorem gX5_settledAt_X5_cycle : GoodIn wsX5_settledAt (wsV RX5 108 RX5 yX5_cycle wsX5_cycle) := goodIn_app (goodIn_r _ [16, 17, 18, 5] rfl (by decide +kernel)) ggX5_settledAt_X5_cycle
set_option maxRecDepth 20000 in
theorem ggX5_settledAt_X5_within : GoodIn wsX5_settledAt wsX5_within := goodIn_r _ [75] rfl (by decide +kernel)
set_option maxRecDepth 20000 in
theorem gX5_settledAt_X5_within : GoodIn wsX5_settledAt (va_wsS RX5 91 yX5_within wsX5_within) := goodIn_app (goodIn_r _ [73, 74, 5] rfl (by decide +kernel)) ggX5_settledAt_X5_within
set_option maxRecDepth 20000 in
theorem ggX5_settledAt_X5_takeBack : GoodIn wsX5_settledAt wsX5_takeBack := goodIn_r _ [79, 1, 7, 80, 81, 82, 83, 84, 85, 86, 87, 88, 89, 90, 91, 92, 93, 94] rfl (by decide +kernel)
set_option maxRecDepth 20000 in
theorem gX5_settledAt_X5_takeBack : GoodIn wsX5_settledAt (wsV RX5 163 RX5 yX5_takeBack wsX5_takeBack) := goodIn_app (goodIn_r _ [76, 77, 78, 5] rfl (by decide +kernel)) ggX5_settledAt_X5_takeBack
theorem dX5_settledAt_0 : decode cX5_settledAt 0 = .ok (.aload_n 0, 1) := by decide +kernel
theorem dX5_settledAt_1 : decode cX5_settledAt 1 = .ok (.invokevirtual 160, 3) := by decide +kernel
theorem dX5_settledAt_4 : decode cX5_settledAt 4 = .ok (.iconst 0, 1) := by decide +kernel
theorem dX5_settledAt_5 : decode cX5_settledAt 5 = .ok (.istore_n 2, 1) := by decide +kernel
theorem dX5_settledAt_6 : decode cX5_settledAt 6 = .ok (.iconst 0, 1) := by decide +kernel
theorem dX5_settledAt_7 : decode cX5_settledAt 7 = .ok (.istore_n 3, 1) := by decide +kernel
theorem dX5_settledAt_8 : decode cX5_settledAt 8 = .ok (.iload_n 3, 1) := by decide +kernel
theorem dX5_settledAt_9 : decode cX5_settledAt 9 = .ok (.sipush 202, 3) := by decide +kernel
theorem dX5_settledAt_12 : decode cX5_settledAt 12 = .ok (.if_icmp .ge 49, 3) := by decide +kernel
theorem dX5_settledAt_15 : decode cX5_settledAt 15 = .ok (.iload_n 2, 1) := by decide +kernel
theorem dX5_settledAt_16 : decode cX5_settledAt 16 = .ok (.iconst 3, 1) := by decide +kernel
theorem dX5_settledAt_17 : decode cX5_settledAt 17 = .ok (.if_icmp .ge 44, 3) := by decide +kernel
theorem dX5_settledAt_20 : decode cX5_settledAt 20 = .ok (.aload_n 0, 1) := by decide +kernel
theorem dX5_settledAt_21 : decode cX5_settledAt 21 = .ok (.invokevirtual 108, 3) := by decide +kernel
theorem dX5_settledAt_24 : decode cX5_settledAt 24 = .ok (.iinc 3 1, 3) := by decide +kernel
theorem dX5_settledAt_27 : decode cX5_settledAt 27 = .ok (.aload_n 0, 1) := by decide +kernel
theorem dX5_settledAt_28 : decode cX5_settledAt 28 = .ok (.getfield 7, 3) := by decide +kernel
theorem dX5_settledAt_31 : decode cX5_settledAt 31 = .ok (.bipush 17, 2) := by decide +kernel
theorem dX5_settledAt_33 : decode cX5_settledAt 33 = .ok (.iaload, 1) := by decide +kernel
theorem dX5_settledAt_34 : decode cX5_settledAt 34 = .ok (.aload_n 0, 1) := by decide +kernel
theorem dX5_settledAt_35 : decode cX5_settledAt 35 = .ok (.getfield 7, 3) := by decide +kernel
theorem dX5_settledAt_38 : decode cX5_settledAt 38 = .ok (.iconst 1, 1) := by decide +kernel
theorem dX5_settledAt_39 : decode cX5_settledAt 39 = .ok (.iaload, 1) := by decide +kernel
theorem dX5_settledAt_40 : decode cX5_settledAt 40 = .ok (.isub, 1) := by decide +kernel
theorem dX5_settledAt_41 : decode cX5_settledAt 41 = .ok (.iload_n 1, 1) := by decide +kernel
theorem dX5_settledAt_42 : decode cX5_settledAt 42 = .ok (.ineg, 1) := by decide +kernel
theorem dX5_settledAt_43 : decode cX5_settledAt 43 = .ok (.iload_n 1, 1) := by decide +kernel
theorem dX5_settledAt_44 : decode cX5_settledAt 44 = .ok (.invokestatic 91, 3) := by decide +kernel
theorem dX5_settledAt_47 : decode cX5_settledAt 47 = .ok (.ifCond .eq 9, 3) := by decide +kernel
theorem dX5_settledAt_50 : decode cX5_settledAt 50 = .ok (.iload_n 2, 1) := by decide +kernel
theorem dX5_settledAt_51 : decode cX5_settledAt 51 = .ok (.iconst 1, 1) := by decide +kernel
theorem dX5_settledAt_52 : decode cX5_settledAt 52 = .ok (.iadd, 1) := by decide +kernel
theorem dX5_settledAt_53 : decode cX5_settledAt 53 = .ok (.goto 4, 3) := by decide +kernel
theorem dX5_settledAt_56 : decode cX5_settledAt 56 = .ok (.iconst 0, 1) := by decide +kernel
theorem dX5_settledAt_57 : decode cX5_settledAt 57 = .ok (.istore_n 2, 1) := by decide +kernel
theorem dX5_settledAt_58 : decode cX5_settledAt 58 = .ok (.goto (-50), 3) := by decide +kernel
theorem dX5_settledAt_61 : decode cX5_settledAt 61 = .ok (.aload_n 0, 1) := by decide +kernel
theorem dX5_settledAt_62 : decode cX5_settledAt 62 = .ok (.invokevirtual 163, 3) := by decide +kernel
theorem dX5_settledAt_65 : decode cX5_settledAt 65 = .ok (.iload_n 2, 1) := by decide +kernel
theorem dX5_settledAt_66 : decode cX5_settledAt 66 = .ok (.iconst 3, 1) := by decide +kernel
theorem dX5_settledAt_67 : decode cX5_settledAt 67 = .ok (.if_icmp .ne 9, 3) := by decide +kernel
theorem dX5_settledAt_70 : decode cX5_settledAt 70 = .ok (.iload_n 3, 1) := by decide +kernel
theorem dX5_settledAt_71 : decode cX5_settledAt 71 = .ok (.iconst 2, 1) := by decide +kernel
theorem dX5_settledAt_72 : decode cX5_settledAt 72 = .ok (.isub, 1) := by decide +kernel
theorem dX5_settledAt_73 : decode cX5_settledAt 73 = .ok (.goto 4, 3) := by decide +kernel
theorem dX5_settledAt_76 : decode cX5_settledAt 76 = .ok (.iconst (-1), 1) := by decide +kernel
theorem dX5_settledAt_77 : decode cX5_settledAt 77 = .ok (.ireturn, 1) := by decide +kernel
set_option maxRecDepth 20000 in
theorem ggX5_settles_X5_within : GoodIn wsX5_settles wsX5_within := goodIn_r _ [5] rfl (by decide +kernel)
set_option maxRecDepth 20000 in
theorem gX5_settles_X5_within : GoodIn wsX5_settles (va_wsS RX5 91 yX5_within wsX5_within) := goodIn_app (goodIn_r _ [2, 3, 4] rfl (by decide +kernel)) ggX5_settles_X5_within
set_option maxRecDepth 20000 in
theorem ggX5_settles_X5_settledAt : GoodIn wsX5_settles wsX5_settledAt := goodIn_r _ [9, 10, 11, 12, 13, 4, 14, 15, 16, 17, 18, 19, 20, 21, 22, 23, 24, 25, 26, 27, 28, 29, 30, 31, 32, 33, 34, 35, 36, 37, 38, 39, 40, 41, 42, 43, 44, 45, 46, 47, 48, 49, 50, 51, 52, 53, 54, 55, 56, 57, 58, 59, 60, 61, 62, 63, 64, 65, 66, 67, 68, 69, 70, 71, 72, 73, 74, 75, 76, 77, 78, 79, 80, 2, 3, 5, 81, 82, 83, 84, 85, 86, 87, 88, 89, 90, 91, 92, 93, 94, 95, 96, 97, 98, 99] rfl (by decide +kernel)
set_option maxRecDepth 20000 in
theorem gX5_settles_X5_settledAt : GoodIn wsX5_settles (wsV RX5 166 RX5 yX5_settledAt wsX5_settledAt) := goodIn_app (goodIn_r _ [6, 7, 8, 4] rfl (by decide +kernel)) ggX5_settles_X5_settledAt
theorem dX5_settles_0 : decode cX5_settles 0 = .ok (.aload_n 0, 1) := by decide +kernel
theorem dX5_settles_1 : decode cX5_settles 1 = .ok (.iload_n 1, 1) := by decide +kernel
theorem dX5_settles_2 : decode cX5_settles 2 = .ok (.iconst 0, 1) := by decide +kernel
theorem dX5_settles_3 : decode cX5_settles 3 = .ok (.sipush 5000, 3) := by decide +kernel
theorem dX5_settles_6 : decode cX5_settles 6 = .ok (.invokestatic 91, 3) := by decide +kernel
theorem dX5_settles_9 : decode cX5_settles 9 = .ok (.ifCond .eq 7, 3) := by decide +kernel
theorem dX5_settles_12 : decode cX5_settles 12 = .ok (.iconst 0, 1) := by decide +kernel
theorem dX5_settles_13 : decode cX5_settles 13 = .ok (.goto 4, 3) := by decide +kernel
theorem dX5_settles_16 : decode cX5_settles 16 = .ok (.iconst 1, 1) := by decide +kernel
theorem dX5_settles_17 : decode cX5_settles 17 = .ok (.putfield 26, 3) := by decide +kernel
theorem dX5_settles_20 : decode cX5_settles 20 = .ok (.aload_n 0, 1) := by decide +kernel
theorem dX5_settles_21 : decode cX5_settles 21 = .ok (.getfield 26, 3) := by decide +kernel
theorem dX5_settles_24 : decode cX5_settles 24 = .ok (.ifCond .le 7, 3) := by decide +kernel
theorem dX5_settles_27 : decode cX5_settles 27 = .ok (.iconst 0, 1) := by decide +kernel
theorem dX5_settles_28 : decode cX5_settles 28 = .ok (.goto 8, 3) := by decide +kernel
theorem dX5_settles_31 : decode cX5_settles 31 = .ok (.aload_n 0, 1) := by decide +kernel
theorem dX5_settles_32 : decode cX5_settles 32 = .ok (.iload_n 1, 1) := by decide +kernel
theorem dX5_settles_33 : decode cX5_settles 33 = .ok (.invokevirtual 166, 3) := by decide +kernel
theorem dX5_settles_36 : decode cX5_settles 36 = .ok (.ireturn, 1) := by decide +kernel
set_option maxRecDepth 20000 in
theorem ggX5_holds_X5_keep : GoodIn wsX5_holds wsX5_keep := goodIn_r _ [7, 8, 1, 9, 10, 11, 6, 12, 13, 2, 14, 15, 77, 78, 79, 80, 81, 82, 83, 84, 85, 86, 87, 88, 89, 90, 91] rfl (by decide +kernel)
set_option maxRecDepth 20000 in
theorem gX5_holds_X5_keep : GoodIn wsX5_holds (wsV RX5 160 RX5 yX5_keep wsX5_keep) := goodIn_app (goodIn_r _ [3, 4, 5, 6] rfl (by decide +kernel)) ggX5_holds_X5_keep
set_option maxRecDepth 20000 in
theorem ggX5_holds_X5_cycle : GoodIn wsX5_holds wsX5_cycle := goodIn_r _ [19, 1, 13, 15, 20, 21, 22, 6, 23, 24, 25, 26, 27, 28, 29, 30, 31, 32, 33, 34, 35, 36, 37, 38, 39, 40, 41, 42, 43, 44, 45, 46, 47, 48, 49, 50, 51, 52, 53, 54, 55, 56, 2, 14, 57, 58, 59, 60, 61, 62, 63, 64, 65, 66, 67, 68, 69, 70, 71, 72, 77, 78, 79, 80, 81, 82, 83, 84, 85, 86, 87, 88, 89, 90, 91] rfl (by decide +kernel)
set_option maxRecDepth 20000 in
theorem gX5_holds_X5_cycle : GoodIn wsX5_holds (wsV RX5 108 RX5 yX5_cycle wsX5_cycle) := goodIn_app (goodIn_r _ [16, 17, 18, 6] rfl (by decide +kernel)) ggX5_holds_X5_cycle
set_option maxRecDepth 20000 in
theorem ggX5_holds_X5_takeBack : GoodIn wsX5_holds wsX5_takeBack := goodIn_r _ [76, 1, 8, 77, 78, 79, 80, 81, 82, 83, 84, 85, 86, 87, 88, 89, 90, 91] rfl (by decide +kernel)
set_option maxRecDepth 20000 in
theorem gX5_holds_X5_takeBack : GoodIn wsX5_holds (wsV RX5 163 RX5 yX5_takeBack wsX5_takeBack) := goodIn_app (goodIn_r _ [73, 74, 75, 6] rfl (by decide +kernel)) ggX5_holds_X5_takeBack
theorem dX5_holds_0 : decode cX5_holds 0 = .ok (.aload_n 0, 1) := by decide +kernel
theorem dX5_holds_1 : decode cX5_holds 1 = .ok (.invokevirtual 160, 3) := by decide +kernel
theorem dX5_holds_4 : decode cX5_holds 4 = .ok (.aload_n 0, 1) := by decide +kernel
theorem dX5_holds_5 : decode cX5_holds 5 = .ok (.getfield 7, 3) := by decide +kernel
theorem dX5_holds_8 : decode cX5_holds 8 = .ok (.iconst 2, 1) := by decide +kernel
theorem dX5_holds_9 : decode cX5_holds 9 = .ok (.iload_n 1, 1) := by decide +kernel
theorem dX5_holds_10 : decode cX5_holds 10 = .ok (.iastore, 1) := by decide +kernel
theorem dX5_holds_11 : decode cX5_holds 11 = .ok (.iconst 0, 1) := by decide +kernel
theorem dX5_holds_12 : decode cX5_holds 12 = .ok (.istore_n 3, 1) := by decide +kernel
theorem dX5_holds_13 : decode cX5_holds 13 = .ok (.iload_n 3, 1) := by decide +kernel
theorem dX5_holds_14 : decode cX5_holds 14 = .ok (.bipush 30, 2) := by decide +kernel
theorem dX5_holds_16 : decode cX5_holds 16 = .ok (.if_icmp .ge 13, 3) := by decide +kernel
theorem dX5_holds_19 : decode cX5_holds 19 = .ok (.aload_n 0, 1) := by decide +kernel
theorem dX5_holds_20 : decode cX5_holds 20 = .ok (.invokevirtual 108, 3) := by decide +kernel
theorem dX5_holds_23 : decode cX5_holds 23 = .ok (.iinc 3 1, 3) := by decide +kernel
theorem dX5_holds_26 : decode cX5_holds 26 = .ok (.goto (-13), 3) := by decide +kernel
theorem dX5_holds_29 : decode cX5_holds 29 = .ok (.aload_n 0, 1) := by decide +kernel
theorem dX5_holds_30 : decode cX5_holds 30 = .ok (.invokevirtual 163, 3) := by decide +kernel
theorem dX5_holds_33 : decode cX5_holds 33 = .ok (.aload_n 0, 1) := by decide +kernel
theorem dX5_holds_34 : decode cX5_holds 34 = .ok (.getfield 69, 3) := by decide +kernel
theorem dX5_holds_37 : decode cX5_holds 37 = .ok (.iload_n 2, 1) := by decide +kernel
theorem dX5_holds_38 : decode cX5_holds 38 = .ok (.if_icmp .lt 7, 3) := by decide +kernel
theorem dX5_holds_41 : decode cX5_holds 41 = .ok (.iconst 1, 1) := by decide +kernel
theorem dX5_holds_42 : decode cX5_holds 42 = .ok (.goto 4, 3) := by decide +kernel
theorem dX5_holds_45 : decode cX5_holds 45 = .ok (.iconst 0, 1) := by decide +kernel
theorem dX5_holds_46 : decode cX5_holds 46 = .ok (.ireturn, 1) := by decide +kernel
set_option maxRecDepth 20000 in
theorem ggX5_greatestLoad_X5_within : GoodIn wsX5_greatestLoad wsX5_within := goodIn_r _ [6] rfl (by decide +kernel)
set_option maxRecDepth 20000 in
theorem gX5_greatestLoad_X5_within : GoodIn wsX5_greatestLoad (va_wsS RX5 91 yX5_within wsX5_within) := goodIn_app (goodIn_r _ [3, 4, 5] rfl (by decide +kernel)) ggX5_greatestLoad_X5_within
set_option maxRecDepth 20000 in
theorem ggX5_greatestLoad_X5_holds : GoodIn wsX5_greatestLoad wsX5_holds := goodIn_r _ [10, 11, 12, 13, 14, 15, 5, 16, 17, 18, 19, 20, 21, 22, 23, 24, 25, 26, 27, 28, 29, 30, 31, 32, 33, 34, 35, 36, 37, 38, 39, 40, 41, 42, 43, 44, 45, 46, 47, 48, 49, 50, 51, 52, 53, 54, 55, 56, 57, 58, 59, 60, 61, 62, 63, 64, 1, 65, 66, 67, 68, 69, 70, 71, 72, 73, 74, 75, 76, 77, 78, 79, 80, 81, 82, 83, 84, 85, 86, 87, 88, 89, 90, 91, 92, 93, 94, 95, 96, 97, 98, 99] rfl (by decide +kernel)
set_option maxRecDepth 20000 in
theorem gX5_greatestLoad_X5_holds : GoodIn wsX5_greatestLoad (wsV RX5 169 RX5 yX5_holds wsX5_holds) := goodIn_app (goodIn_r _ [7, 8, 9, 5] rfl (by decide +kernel)) ggX5_greatestLoad_X5_holds
theorem dX5_greatestLoad_0 : decode cX5_greatestLoad 0 = .ok (.aload_n 0, 1) := by decide +kernel
theorem dX5_greatestLoad_1 : decode cX5_greatestLoad 1 = .ok (.iload_n 1, 1) := by decide +kernel
theorem dX5_greatestLoad_2 : decode cX5_greatestLoad 2 = .ok (.iconst 0, 1) := by decide +kernel
theorem dX5_greatestLoad_3 : decode cX5_greatestLoad 3 = .ok (.ldc 65, 2) := by decide +kernel
theorem dX5_greatestLoad_5 : decode cX5_greatestLoad 5 = .ok (.invokestatic 91, 3) := by decide +kernel
theorem dX5_greatestLoad_8 : decode cX5_greatestLoad 8 = .ok (.ifCond .eq 7, 3) := by decide +kernel
theorem dX5_greatestLoad_11 : decode cX5_greatestLoad 11 = .ok (.iconst 0, 1) := by decide +kernel
theorem dX5_greatestLoad_12 : decode cX5_greatestLoad 12 = .ok (.goto 4, 3) := by decide +kernel
theorem dX5_greatestLoad_15 : decode cX5_greatestLoad 15 = .ok (.iconst 1, 1) := by decide +kernel
theorem dX5_greatestLoad_16 : decode cX5_greatestLoad 16 = .ok (.putfield 26, 3) := by decide +kernel
theorem dX5_greatestLoad_19 : decode cX5_greatestLoad 19 = .ok (.aload_n 0, 1) := by decide +kernel
theorem dX5_greatestLoad_20 : decode cX5_greatestLoad 20 = .ok (.getfield 26, 3) := by decide +kernel
theorem dX5_greatestLoad_23 : decode cX5_greatestLoad 23 = .ok (.ifCond .le 5, 3) := by decide +kernel
theorem dX5_greatestLoad_26 : decode cX5_greatestLoad 26 = .ok (.iconst 0, 1) := by decide +kernel
theorem dX5_greatestLoad_27 : decode cX5_greatestLoad 27 = .ok (.ireturn, 1) := by decide +kernel
theorem dX5_greatestLoad_28 : decode cX5_greatestLoad 28 = .ok (.sipush 20000, 3) := by decide +kernel
theorem dX5_greatestLoad_31 : decode cX5_greatestLoad 31 = .ok (.istore_n 2, 1) := by decide +kernel
theorem dX5_greatestLoad_32 : decode cX5_greatestLoad 32 = .ok (.iload_n 2, 1) := by decide +kernel
theorem dX5_greatestLoad_33 : decode cX5_greatestLoad 33 = .ok (.ifCond .lt 21, 3) := by decide +kernel
theorem dX5_greatestLoad_36 : decode cX5_greatestLoad 36 = .ok (.aload_n 0, 1) := by decide +kernel
theorem dX5_greatestLoad_37 : decode cX5_greatestLoad 37 = .ok (.iload_n 2, 1) := by decide +kernel
theorem dX5_greatestLoad_38 : decode cX5_greatestLoad 38 = .ok (.iload_n 1, 1) := by decide +kernel
theorem dX5_greatestLoad_39 : decode cX5_greatestLoad 39 = .ok (.invokevirtual 169, 3) := by decide +kernel
theorem dX5_greatestLoad_42 : decode cX5_greatestLoad 42 = .ok (.ifCond .ne 12, 3) := by decide +kernel
theorem dX5_greatestLoad_45 : decode cX5_greatestLoad 45 = .ok (.iinc 2 (-500), 6) := by decide +kernel
theorem dX5_greatestLoad_51 : decode cX5_greatestLoad 51 = .ok (.goto (-19), 3) := by decide +kernel
theorem dX5_greatestLoad_54 : decode cX5_greatestLoad 54 = .ok (.iload_n 2, 1) := by decide +kernel
theorem dX5_greatestLoad_55 : decode cX5_greatestLoad 55 = .ok (.ifCond .lt 7, 3) := by decide +kernel
theorem dX5_greatestLoad_58 : decode cX5_greatestLoad 58 = .ok (.iload_n 2, 1) := by decide +kernel
theorem dX5_greatestLoad_59 : decode cX5_greatestLoad 59 = .ok (.goto 4, 3) := by decide +kernel
theorem dX5_greatestLoad_62 : decode cX5_greatestLoad 62 = .ok (.iconst (-1), 1) := by decide +kernel
theorem dX5_greatestLoad_63 : decode cX5_greatestLoad 63 = .ok (.ireturn, 1) := by decide +kernel
set_option maxRecDepth 20000 in
theorem ggX5_unlike_X5_at : GoodIn wsX5_unlike wsX5_at := goodIn_r _ [5] rfl (by decide +kernel)
set_option maxRecDepth 20000 in
theorem gX5_unlike_X5_at : GoodIn wsX5_unlike (va_wsS RX5 35 yX5_at wsX5_at) := goodIn_app (goodIn_r _ [2, 3, 4] rfl (by decide +kernel)) ggX5_unlike_X5_at
theorem dX5_unlike_0 : decode cX5_unlike 0 = .ok (.aload_n 0, 1) := by decide +kernel
theorem dX5_unlike_1 : decode cX5_unlike 1 = .ok (.getfield 7, 3) := by decide +kernel
theorem dX5_unlike_4 : decode cX5_unlike 4 = .ok (.iconst 0, 1) := by decide +kernel
theorem dX5_unlike_5 : decode cX5_unlike 5 = .ok (.iconst 0, 1) := by decide +kernel
theorem dX5_unlike_6 : decode cX5_unlike 6 = .ok (.invokestatic 35, 3) := by decide +kernel
theorem dX5_unlike_9 : decode cX5_unlike 9 = .ok (.iaload, 1) := by decide +kernel
theorem dX5_unlike_10 : decode cX5_unlike 10 = .ok (.istore_n 1, 1) := by decide +kernel
theorem dX5_unlike_11 : decode cX5_unlike 11 = .ok (.iload_n 1, 1) := by decide +kernel
theorem dX5_unlike_12 : decode cX5_unlike 12 = .ok (.istore_n 2, 1) := by decide +kernel
theorem dX5_unlike_13 : decode cX5_unlike 13 = .ok (.iconst 1, 1) := by decide +kernel
theorem dX5_unlike_14 : decode cX5_unlike 14 = .ok (.istore_n 3, 1) := by decide +kernel
theorem dX5_unlike_15 : decode cX5_unlike 15 = .ok (.iload_n 3, 1) := by decide +kernel
theorem dX5_unlike_16 : decode cX5_unlike 16 = .ok (.aload_n 0, 1) := by decide +kernel
theorem dX5_unlike_17 : decode cX5_unlike 17 = .ok (.getfield 7, 3) := by decide +kernel
theorem dX5_unlike_20 : decode cX5_unlike 20 = .ok (.bipush 16, 2) := by decide +kernel
theorem dX5_unlike_22 : decode cX5_unlike 22 = .ok (.iaload, 1) := by decide +kernel
theorem dX5_unlike_23 : decode cX5_unlike 23 = .ok (.if_icmp .ge 47, 3) := by decide +kernel
theorem dX5_unlike_26 : decode cX5_unlike 26 = .ok (.aload_n 0, 1) := by decide +kernel
theorem dX5_unlike_27 : decode cX5_unlike 27 = .ok (.getfield 7, 3) := by decide +kernel
theorem dX5_unlike_30 : decode cX5_unlike 30 = .ok (.iload_n 3, 1) := by decide +kernel
theorem dX5_unlike_31 : decode cX5_unlike 31 = .ok (.iconst 0, 1) := by decide +kernel
theorem dX5_unlike_32 : decode cX5_unlike 32 = .ok (.invokestatic 35, 3) := by decide +kernel
theorem dX5_unlike_35 : decode cX5_unlike 35 = .ok (.iaload, 1) := by decide +kernel
theorem dX5_unlike_36 : decode cX5_unlike 36 = .ok (.istore 4, 2) := by decide +kernel
theorem dX5_unlike_38 : decode cX5_unlike 38 = .ok (.iload 4, 2) := by decide +kernel
theorem dX5_unlike_40 : decode cX5_unlike 40 = .ok (.iload_n 1, 1) := by decide +kernel
theorem dX5_unlike_41 : decode cX5_unlike 41 = .ok (.if_icmp .ge 8, 3) := by decide +kernel
theorem dX5_unlike_44 : decode cX5_unlike 44 = .ok (.iload 4, 2) := by decide +kernel
theorem dX5_unlike_46 : decode cX5_unlike 46 = .ok (.goto 4, 3) := by decide +kernel
theorem dX5_unlike_49 : decode cX5_unlike 49 = .ok (.iload_n 1, 1) := by decide +kernel
theorem dX5_unlike_50 : decode cX5_unlike 50 = .ok (.istore_n 1, 1) := by decide +kernel
theorem dX5_unlike_51 : decode cX5_unlike 51 = .ok (.iload 4, 2) := by decide +kernel
theorem dX5_unlike_53 : decode cX5_unlike 53 = .ok (.iload_n 2, 1) := by decide +kernel
theorem dX5_unlike_54 : decode cX5_unlike 54 = .ok (.if_icmp .le 8, 3) := by decide +kernel
theorem dX5_unlike_57 : decode cX5_unlike 57 = .ok (.iload 4, 2) := by decide +kernel
theorem dX5_unlike_59 : decode cX5_unlike 59 = .ok (.goto 4, 3) := by decide +kernel
theorem dX5_unlike_62 : decode cX5_unlike 62 = .ok (.iload_n 2, 1) := by decide +kernel
theorem dX5_unlike_63 : decode cX5_unlike 63 = .ok (.istore_n 2, 1) := by decide +kernel
theorem dX5_unlike_64 : decode cX5_unlike 64 = .ok (.iinc 3 1, 3) := by decide +kernel
theorem dX5_unlike_67 : decode cX5_unlike 67 = .ok (.goto (-52), 3) := by decide +kernel
theorem dX5_unlike_70 : decode cX5_unlike 70 = .ok (.iload_n 2, 1) := by decide +kernel
theorem dX5_unlike_71 : decode cX5_unlike 71 = .ok (.iload_n 1, 1) := by decide +kernel
theorem dX5_unlike_72 : decode cX5_unlike 72 = .ok (.isub, 1) := by decide +kernel
theorem dX5_unlike_73 : decode cX5_unlike 73 = .ok (.ireturn, 1) := by decide +kernel
set_option maxRecDepth 20000 in
theorem ggX5_unbalance_X5_unlike : GoodIn wsX5_unbalance wsX5_unlike := goodIn_r _ [6, 7, 8, 9, 5, 10, 11, 12, 13, 14, 15, 16, 17, 18, 19, 20, 21, 22, 23, 24, 25] rfl (by decide +kernel)
set_option maxRecDepth 20000 in
theorem gX5_unbalance_X5_unlike : GoodIn wsX5_unbalance (wsV RX5 172 RX5 yX5_unlike wsX5_unlike) := goodIn_app (goodIn_r _ [2, 3, 4, 5] rfl (by decide +kernel)) ggX5_unbalance_X5_unlike
theorem dX5_unbalance_0 : decode cX5_unbalance 0 = .ok (.aload_n 0, 1) := by decide +kernel
theorem dX5_unbalance_1 : decode cX5_unbalance 1 = .ok (.iconst 0, 1) := by decide +kernel
theorem dX5_unbalance_2 : decode cX5_unbalance 2 = .ok (.putfield 26, 3) := by decide +kernel
theorem dX5_unbalance_5 : decode cX5_unbalance 5 = .ok (.aload_n 0, 1) := by decide +kernel
theorem dX5_unbalance_6 : decode cX5_unbalance 6 = .ok (.invokevirtual 172, 3) := by decide +kernel
theorem dX5_unbalance_9 : decode cX5_unbalance 9 = .ok (.ireturn, 1) := by decide +kernel
theorem dX5_meanVoltage_0 : decode cX5_meanVoltage 0 = .ok (.aload_n 0, 1) := by decide +kernel
theorem dX5_meanVoltage_1 : decode cX5_meanVoltage 1 = .ok (.iconst 0, 1) := by decide +kernel
theorem dX5_meanVoltage_2 : decode cX5_meanVoltage 2 = .ok (.putfield 26, 3) := by decide +kernel
theorem dX5_meanVoltage_5 : decode cX5_meanVoltage 5 = .ok (.iconst 0, 1) := by decide +kernel
theorem dX5_meanVoltage_6 : decode cX5_meanVoltage 6 = .ok (.istore_n 1, 1) := by decide +kernel
theorem dX5_meanVoltage_7 : decode cX5_meanVoltage 7 = .ok (.iconst 0, 1) := by decide +kernel
theorem dX5_meanVoltage_8 : decode cX5_meanVoltage 8 = .ok (.istore_n 2, 1) := by decide +kernel
theorem dX5_meanVoltage_9 : decode cX5_meanVoltage 9 = .ok (.iload_n 2, 1) := by decide +kernel
theorem dX5_meanVoltage_10 : decode cX5_meanVoltage 10 = .ok (.aload_n 0, 1) := by decide +kernel
theorem dX5_meanVoltage_11 : decode cX5_meanVoltage 11 = .ok (.getfield 7, 3) := by decide +kernel
theorem dX5_meanVoltage_14 : decode cX5_meanVoltage 14 = .ok (.bipush 31, 2) := by decide +kernel
theorem dX5_meanVoltage_16 : decode cX5_meanVoltage 16 = .ok (.iaload, 1) := by decide +kernel
theorem dX5_meanVoltage_17 : decode cX5_meanVoltage 17 = .ok (.if_icmp .ge 24, 3) := by decide +kernel
theorem dX5_meanVoltage_20 : decode cX5_meanVoltage 20 = .ok (.iload_n 1, 1) := by decide +kernel
theorem dX5_meanVoltage_21 : decode cX5_meanVoltage 21 = .ok (.aload_n 0, 1) := by decide +kernel
theorem dX5_meanVoltage_22 : decode cX5_meanVoltage 22 = .ok (.getfield 7, 3) := by decide +kernel
theorem dX5_meanVoltage_25 : decode cX5_meanVoltage 25 = .ok (.bipush 63, 2) := by decide +kernel
theorem dX5_meanVoltage_27 : decode cX5_meanVoltage 27 = .ok (.bipush 6, 2) := by decide +kernel
theorem dX5_meanVoltage_29 : decode cX5_meanVoltage 29 = .ok (.iload_n 2, 1) := by decide +kernel
theorem dX5_meanVoltage_30 : decode cX5_meanVoltage 30 = .ok (.imul, 1) := by decide +kernel
theorem dX5_meanVoltage_31 : decode cX5_meanVoltage 31 = .ok (.iadd, 1) := by decide +kernel
theorem dX5_meanVoltage_32 : decode cX5_meanVoltage 32 = .ok (.iaload, 1) := by decide +kernel
theorem dX5_meanVoltage_33 : decode cX5_meanVoltage 33 = .ok (.iadd, 1) := by decide +kernel
theorem dX5_meanVoltage_34 : decode cX5_meanVoltage 34 = .ok (.istore_n 1, 1) := by decide +kernel
theorem dX5_meanVoltage_35 : decode cX5_meanVoltage 35 = .ok (.iinc 2 1, 3) := by decide +kernel
theorem dX5_meanVoltage_38 : decode cX5_meanVoltage 38 = .ok (.goto (-29), 3) := by decide +kernel
theorem dX5_meanVoltage_41 : decode cX5_meanVoltage 41 = .ok (.aload_n 0, 1) := by decide +kernel
theorem dX5_meanVoltage_42 : decode cX5_meanVoltage 42 = .ok (.getfield 7, 3) := by decide +kernel
theorem dX5_meanVoltage_45 : decode cX5_meanVoltage 45 = .ok (.bipush 31, 2) := by decide +kernel
theorem dX5_meanVoltage_47 : decode cX5_meanVoltage 47 = .ok (.iaload, 1) := by decide +kernel
theorem dX5_meanVoltage_48 : decode cX5_meanVoltage 48 = .ok (.ifCond .ne 7, 3) := by decide +kernel
theorem dX5_meanVoltage_51 : decode cX5_meanVoltage 51 = .ok (.dconst 0, 1) := by decide +kernel
theorem dX5_meanVoltage_52 : decode cX5_meanVoltage 52 = .ok (.goto 16, 3) := by decide +kernel
theorem dX5_meanVoltage_55 : decode cX5_meanVoltage 55 = .ok (.dconst 1, 1) := by decide +kernel
theorem dX5_meanVoltage_56 : decode cX5_meanVoltage 56 = .ok (.iload_n 1, 1) := by decide +kernel
theorem dX5_meanVoltage_57 : decode cX5_meanVoltage 57 = .ok (.i2d, 1) := by decide +kernel
theorem dX5_meanVoltage_58 : decode cX5_meanVoltage 58 = .ok (.dmul, 1) := by decide +kernel
theorem dX5_meanVoltage_59 : decode cX5_meanVoltage 59 = .ok (.aload_n 0, 1) := by decide +kernel
theorem dX5_meanVoltage_60 : decode cX5_meanVoltage 60 = .ok (.getfield 7, 3) := by decide +kernel
theorem dX5_meanVoltage_63 : decode cX5_meanVoltage 63 = .ok (.bipush 31, 2) := by decide +kernel
theorem dX5_meanVoltage_65 : decode cX5_meanVoltage 65 = .ok (.iaload, 1) := by decide +kernel
theorem dX5_meanVoltage_66 : decode cX5_meanVoltage 66 = .ok (.i2d, 1) := by decide +kernel
theorem dX5_meanVoltage_67 : decode cX5_meanVoltage 67 = .ok (.ddiv, 1) := by decide +kernel
theorem dX5_meanVoltage_68 : decode cX5_meanVoltage 68 = .ok (.dreturn, 1) := by decide +kernel
theorem dX5_mix_0 : decode cX5_mix 0 = .ok (.aload_n 0, 1) := by decide +kernel
theorem dX5_mix_1 : decode cX5_mix 1 = .ok (.ldc2_w 175, 3) := by decide +kernel
theorem dX5_mix_4 : decode cX5_mix 4 = .ok (.aload_n 0, 1) := by decide +kernel
theorem dX5_mix_5 : decode cX5_mix 5 = .ok (.getfield 177, 3) := by decide +kernel
theorem dX5_mix_8 : decode cX5_mix 8 = .ok (.lmul, 1) := by decide +kernel
theorem dX5_mix_9 : decode cX5_mix 9 = .ok (.lload_n 1, 1) := by decide +kernel
theorem dX5_mix_10 : decode cX5_mix 10 = .ok (.ladd, 1) := by decide +kernel
theorem dX5_mix_11 : decode cX5_mix 11 = .ok (.putfield 177, 3) := by decide +kernel
theorem dX5_mix_14 : decode cX5_mix 14 = .ok (.return_, 1) := by decide +kernel
set_option maxRecDepth 20000 in
theorem ggX5_digest_X5_place : GoodIn wsX5_digest wsX5_place := goodIn_r _ [10] rfl (by decide +kernel)
set_option maxRecDepth 20000 in
theorem gX5_digest_X5_place : GoodIn wsX5_digest (va_wsS RX5 157 yX5_place wsX5_place) := goodIn_app (goodIn_r _ [7, 8, 9] rfl (by decide +kernel)) ggX5_digest_X5_place
set_option maxRecDepth 20000 in
theorem ggX5_digest_X5_mix : GoodIn wsX5_digest wsX5_mix := goodIn_r _ [14, 15, 3, 101, 102, 103, 104, 105, 106, 107, 108, 109, 110, 111, 112, 113, 114, 115] rfl (by decide +kernel)
set_option maxRecDepth 20000 in
theorem gX5_digest_X5_mix : GoodIn wsX5_digest (wsV RX5 183 RX5 yX5_mix wsX5_mix) := goodIn_app (goodIn_r _ [11, 12, 13, 9] rfl (by decide +kernel)) ggX5_digest_X5_mix
set_option maxRecDepth 20000 in
theorem ggX5_digest_X5_settledAt : GoodIn wsX5_digest wsX5_settledAt := goodIn_r _ [19, 4, 20, 21, 22, 9, 23, 24, 25, 26, 27, 28, 29, 30, 31, 32, 33, 34, 35, 36, 37, 38, 39, 40, 41, 42, 43, 44, 45, 46, 47, 48, 49, 50, 51, 52, 53, 54, 55, 56, 57, 58, 59, 60, 61, 62, 63, 64, 65, 66, 67, 68, 69, 70, 71, 72, 73, 74, 75, 76, 77, 78, 79, 80, 81, 82, 83, 84, 85, 86, 87, 88, 89, 90, 91, 92, 93, 94, 95, 96, 101, 102, 103, 104, 105, 106, 107, 108, 109, 110, 111, 112, 113, 114, 115] rfl (by decide +kernel)
set_option maxRecDepth 20000 in
theorem gX5_digest_X5_settledAt : GoodIn wsX5_digest (wsV RX5 166 RX5 yX5_settledAt wsX5_settledAt) := goodIn_app (goodIn_r _ [16, 17, 18, 9] rfl (by decide +kernel)) ggX5_digest_X5_settledAt
set_option maxRecDepth 20000 in
theorem ggX5_digest_X5_unlike : GoodIn wsX5_digest wsX5_unlike := goodIn_r _ [100, 4, 45, 46, 9, 47, 101, 102, 103, 104, 105, 106, 107, 108, 109, 110, 111, 112, 113, 114, 115] rfl (by decide +kernel)
set_option maxRecDepth 20000 in
theorem gX5_digest_X5_unlike : GoodIn wsX5_digest (wsV RX5 172 RX5 yX5_unlike wsX5_unlike) := goodIn_app (goodIn_r _ [97, 98, 99, 9] rfl (by decide +kernel)) ggX5_digest_X5_unlike
theorem dX5_digest_0 : decode cX5_digest 0 = .ok (.aload_n 0, 1) := by decide +kernel
theorem dX5_digest_1 : decode cX5_digest 1 = .ok (.iconst 0, 1) := by decide +kernel
theorem dX5_digest_2 : decode cX5_digest 2 = .ok (.putfield 26, 3) := by decide +kernel
theorem dX5_digest_5 : decode cX5_digest 5 = .ok (.aload_n 0, 1) := by decide +kernel
theorem dX5_digest_6 : decode cX5_digest 6 = .ok (.ldc2_w 181, 3) := by decide +kernel
theorem dX5_digest_9 : decode cX5_digest 9 = .ok (.putfield 177, 3) := by decide +kernel
theorem dX5_digest_12 : decode cX5_digest 12 = .ok (.iconst 0, 1) := by decide +kernel
theorem dX5_digest_13 : decode cX5_digest 13 = .ok (.istore_n 1, 1) := by decide +kernel
theorem dX5_digest_14 : decode cX5_digest 14 = .ok (.iload_n 1, 1) := by decide +kernel
theorem dX5_digest_15 : decode cX5_digest 15 = .ok (.bipush 15, 2) := by decide +kernel
theorem dX5_digest_17 : decode cX5_digest 17 = .ok (.if_icmp .ge 23, 3) := by decide +kernel
theorem dX5_digest_20 : decode cX5_digest 20 = .ok (.aload_n 0, 1) := by decide +kernel
theorem dX5_digest_21 : decode cX5_digest 21 = .ok (.aload_n 0, 1) := by decide +kernel
theorem dX5_digest_22 : decode cX5_digest 22 = .ok (.getfield 7, 3) := by decide +kernel
theorem dX5_digest_25 : decode cX5_digest 25 = .ok (.iload_n 1, 1) := by decide +kernel
theorem dX5_digest_26 : decode cX5_digest 26 = .ok (.invokestatic 157, 3) := by decide +kernel
theorem dX5_digest_29 : decode cX5_digest 29 = .ok (.iaload, 1) := by decide +kernel
theorem dX5_digest_30 : decode cX5_digest 30 = .ok (.i2l, 1) := by decide +kernel
theorem dX5_digest_31 : decode cX5_digest 31 = .ok (.invokevirtual 183, 3) := by decide +kernel
theorem dX5_digest_34 : decode cX5_digest 34 = .ok (.iinc 1 1, 3) := by decide +kernel
theorem dX5_digest_37 : decode cX5_digest 37 = .ok (.goto (-23), 3) := by decide +kernel
theorem dX5_digest_40 : decode cX5_digest 40 = .ok (.iconst 0, 1) := by decide +kernel
theorem dX5_digest_41 : decode cX5_digest 41 = .ok (.istore_n 1, 1) := by decide +kernel
theorem dX5_digest_42 : decode cX5_digest 42 = .ok (.iload_n 1, 1) := by decide +kernel
theorem dX5_digest_43 : decode cX5_digest 43 = .ok (.bipush 15, 2) := by decide +kernel
theorem dX5_digest_45 : decode cX5_digest 45 = .ok (.if_icmp .ge 20, 3) := by decide +kernel
theorem dX5_digest_48 : decode cX5_digest 48 = .ok (.aload_n 0, 1) := by decide +kernel
theorem dX5_digest_49 : decode cX5_digest 49 = .ok (.aload_n 0, 1) := by decide +kernel
theorem dX5_digest_50 : decode cX5_digest 50 = .ok (.getfield 7, 3) := by decide +kernel
theorem dX5_digest_53 : decode cX5_digest 53 = .ok (.iload_n 1, 1) := by decide +kernel
theorem dX5_digest_54 : decode cX5_digest 54 = .ok (.iaload, 1) := by decide +kernel
theorem dX5_digest_55 : decode cX5_digest 55 = .ok (.i2l, 1) := by decide +kernel
theorem dX5_digest_56 : decode cX5_digest 56 = .ok (.invokevirtual 183, 3) := by decide +kernel
theorem dX5_digest_59 : decode cX5_digest 59 = .ok (.iinc 1 1, 3) := by decide +kernel
theorem dX5_digest_62 : decode cX5_digest 62 = .ok (.goto (-20), 3) := by decide +kernel
theorem dX5_digest_65 : decode cX5_digest 65 = .ok (.iconst 0, 1) := by decide +kernel
theorem dX5_digest_66 : decode cX5_digest 66 = .ok (.istore_n 1, 1) := by decide +kernel
theorem dX5_digest_67 : decode cX5_digest 67 = .ok (.iload_n 1, 1) := by decide +kernel
theorem dX5_digest_68 : decode cX5_digest 68 = .ok (.bipush 7, 2) := by decide +kernel
theorem dX5_digest_70 : decode cX5_digest 70 = .ok (.aload_n 0, 1) := by decide +kernel
theorem dX5_digest_71 : decode cX5_digest 71 = .ok (.getfield 7, 3) := by decide +kernel
theorem dX5_digest_74 : decode cX5_digest 74 = .ok (.bipush 15, 2) := by decide +kernel
theorem dX5_digest_76 : decode cX5_digest 76 = .ok (.iaload, 1) := by decide +kernel
theorem dX5_digest_77 : decode cX5_digest 77 = .ok (.imul, 1) := by decide +kernel
theorem dX5_digest_78 : decode cX5_digest 78 = .ok (.if_icmp .ge 23, 3) := by decide +kernel
theorem dX5_digest_81 : decode cX5_digest 81 = .ok (.aload_n 0, 1) := by decide +kernel
theorem dX5_digest_82 : decode cX5_digest 82 = .ok (.aload_n 0, 1) := by decide +kernel
theorem dX5_digest_83 : decode cX5_digest 83 = .ok (.getfield 7, 3) := by decide +kernel
theorem dX5_digest_86 : decode cX5_digest 86 = .ok (.bipush 35, 2) := by decide +kernel
theorem dX5_digest_88 : decode cX5_digest 88 = .ok (.iload_n 1, 1) := by decide +kernel
theorem dX5_digest_89 : decode cX5_digest 89 = .ok (.iadd, 1) := by decide +kernel
theorem dX5_digest_90 : decode cX5_digest 90 = .ok (.iaload, 1) := by decide +kernel
theorem dX5_digest_91 : decode cX5_digest 91 = .ok (.i2l, 1) := by decide +kernel
theorem dX5_digest_92 : decode cX5_digest 92 = .ok (.invokevirtual 183, 3) := by decide +kernel
theorem dX5_digest_95 : decode cX5_digest 95 = .ok (.iinc 1 1, 3) := by decide +kernel
theorem dX5_digest_98 : decode cX5_digest 98 = .ok (.goto (-31), 3) := by decide +kernel
theorem dX5_digest_101 : decode cX5_digest 101 = .ok (.iconst 0, 1) := by decide +kernel
theorem dX5_digest_102 : decode cX5_digest 102 = .ok (.istore_n 1, 1) := by decide +kernel
theorem dX5_digest_103 : decode cX5_digest 103 = .ok (.iload_n 1, 1) := by decide +kernel
theorem dX5_digest_104 : decode cX5_digest 104 = .ok (.bipush 6, 2) := by decide +kernel
theorem dX5_digest_106 : decode cX5_digest 106 = .ok (.aload_n 0, 1) := by decide +kernel
theorem dX5_digest_107 : decode cX5_digest 107 = .ok (.getfield 7, 3) := by decide +kernel
theorem dX5_digest_110 : decode cX5_digest 110 = .ok (.bipush 31, 2) := by decide +kernel
theorem dX5_digest_112 : decode cX5_digest 112 = .ok (.iaload, 1) := by decide +kernel
theorem dX5_digest_113 : decode cX5_digest 113 = .ok (.imul, 1) := by decide +kernel
theorem dX5_digest_114 : decode cX5_digest 114 = .ok (.if_icmp .ge 23, 3) := by decide +kernel
theorem dX5_digest_117 : decode cX5_digest 117 = .ok (.aload_n 0, 1) := by decide +kernel
theorem dX5_digest_118 : decode cX5_digest 118 = .ok (.aload_n 0, 1) := by decide +kernel
theorem dX5_digest_119 : decode cX5_digest 119 = .ok (.getfield 7, 3) := by decide +kernel
theorem dX5_digest_122 : decode cX5_digest 122 = .ok (.bipush 63, 2) := by decide +kernel
theorem dX5_digest_124 : decode cX5_digest 124 = .ok (.iload_n 1, 1) := by decide +kernel
theorem dX5_digest_125 : decode cX5_digest 125 = .ok (.iadd, 1) := by decide +kernel
theorem dX5_digest_126 : decode cX5_digest 126 = .ok (.iaload, 1) := by decide +kernel
theorem dX5_digest_127 : decode cX5_digest 127 = .ok (.i2l, 1) := by decide +kernel
theorem dX5_digest_128 : decode cX5_digest 128 = .ok (.invokevirtual 183, 3) := by decide +kernel
theorem dX5_digest_131 : decode cX5_digest 131 = .ok (.iinc 1 1, 3) := by decide +kernel
theorem dX5_digest_134 : decode cX5_digest 134 = .ok (.goto (-31), 3) := by decide +kernel
theorem dX5_digest_137 : decode cX5_digest 137 = .ok (.aload_n 0, 1) := by decide +kernel
theorem dX5_digest_138 : decode cX5_digest 138 = .ok (.aload_n 0, 1) := by decide +kernel
theorem dX5_digest_139 : decode cX5_digest 139 = .ok (.bipush 50, 2) := by decide +kernel
theorem dX5_digest_141 : decode cX5_digest 141 = .ok (.invokevirtual 166, 3) := by decide +kernel
theorem dX5_digest_144 : decode cX5_digest 144 = .ok (.i2l, 1) := by decide +kernel
theorem dX5_digest_145 : decode cX5_digest 145 = .ok (.invokevirtual 183, 3) := by decide +kernel
theorem dX5_digest_148 : decode cX5_digest 148 = .ok (.aload_n 0, 1) := by decide +kernel
theorem dX5_digest_149 : decode cX5_digest 149 = .ok (.aload_n 0, 1) := by decide +kernel
theorem dX5_digest_150 : decode cX5_digest 150 = .ok (.invokevirtual 172, 3) := by decide +kernel
theorem dX5_digest_153 : decode cX5_digest 153 = .ok (.i2l, 1) := by decide +kernel
theorem dX5_digest_154 : decode cX5_digest 154 = .ok (.invokevirtual 183, 3) := by decide +kernel
theorem dX5_digest_157 : decode cX5_digest 157 = .ok (.aload_n 0, 1) := by decide +kernel
theorem dX5_digest_158 : decode cX5_digest 158 = .ok (.aload_n 0, 1) := by decide +kernel
theorem dX5_digest_159 : decode cX5_digest 159 = .ok (.getfield 111, 3) := by decide +kernel
theorem dX5_digest_162 : decode cX5_digest 162 = .ok (.i2l, 1) := by decide +kernel
theorem dX5_digest_163 : decode cX5_digest 163 = .ok (.invokevirtual 183, 3) := by decide +kernel
theorem dX5_digest_166 : decode cX5_digest 166 = .ok (.iconst 0, 1) := by decide +kernel
theorem dX5_digest_167 : decode cX5_digest 167 = .ok (.istore_n 1, 1) := by decide +kernel
theorem dX5_digest_168 : decode cX5_digest 168 = .ok (.iload_n 1, 1) := by decide +kernel
theorem dX5_digest_169 : decode cX5_digest 169 = .ok (.aload_n 0, 1) := by decide +kernel
theorem dX5_digest_170 : decode cX5_digest 170 = .ok (.getfield 111, 3) := by decide +kernel
theorem dX5_digest_173 : decode cX5_digest 173 = .ok (.if_icmp .ge 20, 3) := by decide +kernel
theorem dX5_digest_176 : decode cX5_digest 176 = .ok (.aload_n 0, 1) := by decide +kernel
theorem dX5_digest_177 : decode cX5_digest 177 = .ok (.aload_n 0, 1) := by decide +kernel
theorem dX5_digest_178 : decode cX5_digest 178 = .ok (.getfield 16, 3) := by decide +kernel
theorem dX5_digest_181 : decode cX5_digest 181 = .ok (.iload_n 1, 1) := by decide +kernel
theorem dX5_digest_182 : decode cX5_digest 182 = .ok (.iaload, 1) := by decide +kernel
theorem dX5_digest_183 : decode cX5_digest 183 = .ok (.i2l, 1) := by decide +kernel
theorem dX5_digest_184 : decode cX5_digest 184 = .ok (.invokevirtual 183, 3) := by decide +kernel
theorem dX5_digest_187 : decode cX5_digest 187 = .ok (.iinc 1 1, 3) := by decide +kernel
theorem dX5_digest_190 : decode cX5_digest 190 = .ok (.goto (-22), 3) := by decide +kernel
theorem dX5_digest_193 : decode cX5_digest 193 = .ok (.aload_n 0, 1) := by decide +kernel
theorem dX5_digest_194 : decode cX5_digest 194 = .ok (.getfield 177, 3) := by decide +kernel
theorem dX5_digest_197 : decode cX5_digest 197 = .ok (.lreturn, 1) := by decide +kernel
