theorem dX0_init_0 : decode cX0_init 0 = .ok (.aload_n 0, 1) := by decide +kernel
theorem dX0_init_1 : decode cX0_init 1 = .ok (.invokespecial 3, 3) := by decide +kernel
theorem dX0_init_4 : decode cX0_init 4 = .ok (.aload_n 0, 1) := by decide +kernel
theorem dX0_init_5 : decode cX0_init 5 = .ok (.bipush 96, 2) := by decide +kernel
theorem dX0_init_7 : decode cX0_init 7 = .ok (.newarray .int, 2) := by decide +kernel
theorem dX0_init_9 : decode cX0_init 9 = .ok (.putfield 9, 3) := by decide +kernel
theorem dX0_init_12 : decode cX0_init 12 = .ok (.return_, 1) := by decide +kernel
theorem dX0_forget_0 : decode cX0_forget 0 = .ok (.aload_n 0, 1) := by decide +kernel
theorem dX0_forget_1 : decode cX0_forget 1 = .ok (.iconst 0, 1) := by decide +kernel
theorem dX0_forget_2 : decode cX0_forget 2 = .ok (.putfield 15, 3) := by decide +kernel
theorem dX0_forget_5 : decode cX0_forget 5 = .ok (.aload_n 0, 1) := by decide +kernel
theorem dX0_forget_6 : decode cX0_forget 6 = .ok (.iconst 0, 1) := by decide +kernel
theorem dX0_forget_7 : decode cX0_forget 7 = .ok (.putfield 19, 3) := by decide +kernel
theorem dX0_forget_10 : decode cX0_forget 10 = .ok (.return_, 1) := by decide +kernel
set_option maxRecDepth 20000 in
theorem ggX0_keep_X2_ripple : GoodIn wsX0_keep wsX2_ripple := goodIn_r _ [16, 17, 18, 22, 23, 24, 25, 26, 27, 28, 29, 30, 31, 32, 33, 34, 35, 36, 37, 38] rfl (by decide +kernel)
set_option maxRecDepth 20000 in
theorem gX0_keep_X2_ripple : GoodIn wsX0_keep (wsV RX0 36 RX2 yX2_ripple wsX2_ripple) := goodIn_app (goodIn_r _ [12, 13, 14, 15] rfl (by decide +kernel)) ggX0_keep_X2_ripple
theorem dX0_keep_0 : decode cX0_keep 0 = .ok (.aload_n 0, 1) := by decide +kernel
theorem dX0_keep_1 : decode cX0_keep 1 = .ok (.aload_n 0, 1) := by decide +kernel
theorem dX0_keep_2 : decode cX0_keep 2 = .ok (.getfield 19, 3) := by decide +kernel
theorem dX0_keep_5 : decode cX0_keep 5 = .ok (.iconst 1, 1) := by decide +kernel
theorem dX0_keep_6 : decode cX0_keep 6 = .ok (.iadd, 1) := by decide +kernel
theorem dX0_keep_7 : decode cX0_keep 7 = .ok (.bipush 16, 2) := by decide +kernel
theorem dX0_keep_9 : decode cX0_keep 9 = .ok (.irem, 1) := by decide +kernel
theorem dX0_keep_10 : decode cX0_keep 10 = .ok (.putfield 19, 3) := by decide +kernel
theorem dX0_keep_13 : decode cX0_keep 13 = .ok (.aload_n 0, 1) := by decide +kernel
theorem dX0_keep_14 : decode cX0_keep 14 = .ok (.aload_n 0, 1) := by decide +kernel
theorem dX0_keep_15 : decode cX0_keep 15 = .ok (.getfield 15, 3) := by decide +kernel
theorem dX0_keep_18 : decode cX0_keep 18 = .ok (.iconst 1, 1) := by decide +kernel
theorem dX0_keep_19 : decode cX0_keep 19 = .ok (.iadd, 1) := by decide +kernel
theorem dX0_keep_20 : decode cX0_keep 20 = .ok (.bipush 16, 2) := by decide +kernel
theorem dX0_keep_22 : decode cX0_keep 22 = .ok (.invokestatic 22, 3) := by decide +kernel
theorem dX0_keep_25 : decode cX0_keep 25 = .ok (.putfield 15, 3) := by decide +kernel
theorem dX0_keep_28 : decode cX0_keep 28 = .ok (.aload_n 0, 1) := by decide +kernel
theorem dX0_keep_29 : decode cX0_keep 29 = .ok (.getfield 19, 3) := by decide +kernel
theorem dX0_keep_32 : decode cX0_keep 32 = .ok (.bipush 6, 2) := by decide +kernel
theorem dX0_keep_34 : decode cX0_keep 34 = .ok (.imul, 1) := by decide +kernel
theorem dX0_keep_35 : decode cX0_keep 35 = .ok (.istore_n 3, 1) := by decide +kernel
theorem dX0_keep_36 : decode cX0_keep 36 = .ok (.iload_n 3, 1) := by decide +kernel
theorem dX0_keep_37 : decode cX0_keep 37 = .ok (.ifCond .lt 15, 3) := by decide +kernel
theorem dX0_keep_40 : decode cX0_keep 40 = .ok (.iload_n 3, 1) := by decide +kernel
theorem dX0_keep_41 : decode cX0_keep 41 = .ok (.bipush 6, 2) := by decide +kernel
theorem dX0_keep_43 : decode cX0_keep 43 = .ok (.iadd, 1) := by decide +kernel
theorem dX0_keep_44 : decode cX0_keep 44 = .ok (.aload_n 0, 1) := by decide +kernel
theorem dX0_keep_45 : decode cX0_keep 45 = .ok (.getfield 9, 3) := by decide +kernel
theorem dX0_keep_48 : decode cX0_keep 48 = .ok (.arraylength, 1) := by decide +kernel
theorem dX0_keep_49 : decode cX0_keep 49 = .ok (.if_icmp .le 4, 3) := by decide +kernel
theorem dX0_keep_52 : decode cX0_keep 52 = .ok (.return_, 1) := by decide +kernel
theorem dX0_keep_53 : decode cX0_keep 53 = .ok (.aload_n 0, 1) := by decide +kernel
theorem dX0_keep_54 : decode cX0_keep 54 = .ok (.getfield 9, 3) := by decide +kernel
theorem dX0_keep_57 : decode cX0_keep 57 = .ok (.iload_n 3, 1) := by decide +kernel
theorem dX0_keep_58 : decode cX0_keep 58 = .ok (.aload_n 1, 1) := by decide +kernel
theorem dX0_keep_59 : decode cX0_keep 59 = .ok (.getfield 28, 3) := by decide +kernel
theorem dX0_keep_62 : decode cX0_keep 62 = .ok (.iastore, 1) := by decide +kernel
theorem dX0_keep_63 : decode cX0_keep 63 = .ok (.aload_n 0, 1) := by decide +kernel
theorem dX0_keep_64 : decode cX0_keep 64 = .ok (.getfield 9, 3) := by decide +kernel
theorem dX0_keep_67 : decode cX0_keep 67 = .ok (.iload_n 3, 1) := by decide +kernel
theorem dX0_keep_68 : decode cX0_keep 68 = .ok (.iconst 1, 1) := by decide +kernel
theorem dX0_keep_69 : decode cX0_keep 69 = .ok (.iadd, 1) := by decide +kernel
theorem dX0_keep_70 : decode cX0_keep 70 = .ok (.aload_n 1, 1) := by decide +kernel
theorem dX0_keep_71 : decode cX0_keep 71 = .ok (.getfield 33, 3) := by decide +kernel
theorem dX0_keep_74 : decode cX0_keep 74 = .ok (.iastore, 1) := by decide +kernel
theorem dX0_keep_75 : decode cX0_keep 75 = .ok (.aload_n 0, 1) := by decide +kernel
theorem dX0_keep_76 : decode cX0_keep 76 = .ok (.getfield 9, 3) := by decide +kernel
theorem dX0_keep_79 : decode cX0_keep 79 = .ok (.iload_n 3, 1) := by decide +kernel
theorem dX0_keep_80 : decode cX0_keep 80 = .ok (.iconst 2, 1) := by decide +kernel
theorem dX0_keep_81 : decode cX0_keep 81 = .ok (.iadd, 1) := by decide +kernel
theorem dX0_keep_82 : decode cX0_keep 82 = .ok (.aload_n 1, 1) := by decide +kernel
theorem dX0_keep_83 : decode cX0_keep 83 = .ok (.invokevirtual 36, 3) := by decide +kernel
theorem dX0_keep_86 : decode cX0_keep 86 = .ok (.iastore, 1) := by decide +kernel
theorem dX0_keep_87 : decode cX0_keep 87 = .ok (.aload_n 0, 1) := by decide +kernel
theorem dX0_keep_88 : decode cX0_keep 88 = .ok (.getfield 9, 3) := by decide +kernel
theorem dX0_keep_91 : decode cX0_keep 91 = .ok (.iload_n 3, 1) := by decide +kernel
theorem dX0_keep_92 : decode cX0_keep 92 = .ok (.iconst 3, 1) := by decide +kernel
theorem dX0_keep_93 : decode cX0_keep 93 = .ok (.iadd, 1) := by decide +kernel
theorem dX0_keep_94 : decode cX0_keep 94 = .ok (.aload_n 1, 1) := by decide +kernel
theorem dX0_keep_95 : decode cX0_keep 95 = .ok (.getfield 40, 3) := by decide +kernel
theorem dX0_keep_98 : decode cX0_keep 98 = .ok (.iastore, 1) := by decide +kernel
theorem dX0_keep_99 : decode cX0_keep 99 = .ok (.aload_n 0, 1) := by decide +kernel
theorem dX0_keep_100 : decode cX0_keep 100 = .ok (.getfield 9, 3) := by decide +kernel
theorem dX0_keep_103 : decode cX0_keep 103 = .ok (.iload_n 3, 1) := by decide +kernel
theorem dX0_keep_104 : decode cX0_keep 104 = .ok (.iconst 4, 1) := by decide +kernel
theorem dX0_keep_105 : decode cX0_keep 105 = .ok (.iadd, 1) := by decide +kernel
theorem dX0_keep_106 : decode cX0_keep 106 = .ok (.aload_n 1, 1) := by decide +kernel
theorem dX0_keep_107 : decode cX0_keep 107 = .ok (.getfield 43, 3) := by decide +kernel
theorem dX0_keep_110 : decode cX0_keep 110 = .ok (.iastore, 1) := by decide +kernel
theorem dX0_keep_111 : decode cX0_keep 111 = .ok (.aload_n 0, 1) := by decide +kernel
theorem dX0_keep_112 : decode cX0_keep 112 = .ok (.getfield 9, 3) := by decide +kernel
theorem dX0_keep_115 : decode cX0_keep 115 = .ok (.iload_n 3, 1) := by decide +kernel
theorem dX0_keep_116 : decode cX0_keep 116 = .ok (.iconst 5, 1) := by decide +kernel
theorem dX0_keep_117 : decode cX0_keep 117 = .ok (.iadd, 1) := by decide +kernel
theorem dX0_keep_118 : decode cX0_keep 118 = .ok (.iload_n 2, 1) := by decide +kernel
theorem dX0_keep_119 : decode cX0_keep 119 = .ok (.iastore, 1) := by decide +kernel
theorem dX0_keep_120 : decode cX0_keep 120 = .ok (.return_, 1) := by decide +kernel
theorem dX0_part_0 : decode cX0_part 0 = .ok (.aload_n 0, 1) := by decide +kernel
theorem dX0_part_1 : decode cX0_part 1 = .ok (.getfield 19, 3) := by decide +kernel
theorem dX0_part_4 : decode cX0_part 4 = .ok (.iload_n 1, 1) := by decide +kernel
theorem dX0_part_5 : decode cX0_part 5 = .ok (.isub, 1) := by decide +kernel
theorem dX0_part_6 : decode cX0_part 6 = .ok (.bipush 16, 2) := by decide +kernel
theorem dX0_part_8 : decode cX0_part 8 = .ok (.iadd, 1) := by decide +kernel
theorem dX0_part_9 : decode cX0_part 9 = .ok (.bipush 16, 2) := by decide +kernel
theorem dX0_part_11 : decode cX0_part 11 = .ok (.irem, 1) := by decide +kernel
theorem dX0_part_12 : decode cX0_part 12 = .ok (.istore_n 3, 1) := by decide +kernel
theorem dX0_part_13 : decode cX0_part 13 = .ok (.iload_n 3, 1) := by decide +kernel
theorem dX0_part_14 : decode cX0_part 14 = .ok (.bipush 6, 2) := by decide +kernel
theorem dX0_part_16 : decode cX0_part 16 = .ok (.imul, 1) := by decide +kernel
theorem dX0_part_17 : decode cX0_part 17 = .ok (.iload_n 2, 1) := by decide +kernel
theorem dX0_part_18 : decode cX0_part 18 = .ok (.iadd, 1) := by decide +kernel
theorem dX0_part_19 : decode cX0_part 19 = .ok (.istore 4, 2) := by decide +kernel
theorem dX0_part_21 : decode cX0_part 21 = .ok (.iload 4, 2) := by decide +kernel
theorem dX0_part_23 : decode cX0_part 23 = .ok (.ifCond .lt 23, 3) := by decide +kernel
theorem dX0_part_26 : decode cX0_part 26 = .ok (.iload 4, 2) := by decide +kernel
theorem dX0_part_28 : decode cX0_part 28 = .ok (.aload_n 0, 1) := by decide +kernel
theorem dX0_part_29 : decode cX0_part 29 = .ok (.getfield 9, 3) := by decide +kernel
theorem dX0_part_32 : decode cX0_part 32 = .ok (.arraylength, 1) := by decide +kernel
theorem dX0_part_33 : decode cX0_part 33 = .ok (.if_icmp .ge 13, 3) := by decide +kernel
theorem dX0_part_36 : decode cX0_part 36 = .ok (.aload_n 0, 1) := by decide +kernel
theorem dX0_part_37 : decode cX0_part 37 = .ok (.getfield 9, 3) := by decide +kernel
theorem dX0_part_40 : decode cX0_part 40 = .ok (.iload 4, 2) := by decide +kernel
theorem dX0_part_42 : decode cX0_part 42 = .ok (.iaload, 1) := by decide +kernel
theorem dX0_part_43 : decode cX0_part 43 = .ok (.goto 4, 3) := by decide +kernel
theorem dX0_part_46 : decode cX0_part 46 = .ok (.iconst 0, 1) := by decide +kernel
theorem dX0_part_47 : decode cX0_part 47 = .ok (.ireturn, 1) := by decide +kernel
theorem dX1_init_0 : decode cX1_init 0 = .ok (.aload_n 0, 1) := by decide +kernel
theorem dX1_init_1 : decode cX1_init 1 = .ok (.invokespecial 3, 3) := by decide +kernel
theorem dX1_init_4 : decode cX1_init 4 = .ok (.return_, 1) := by decide +kernel
theorem dX1_reset_0 : decode cX1_reset 0 = .ok (.aload_n 0, 1) := by decide +kernel
theorem dX1_reset_1 : decode cX1_reset 1 = .ok (.iconst 0, 1) := by decide +kernel
theorem dX1_reset_2 : decode cX1_reset 2 = .ok (.putfield 9, 3) := by decide +kernel
theorem dX1_reset_5 : decode cX1_reset 5 = .ok (.aload_n 0, 1) := by decide +kernel
theorem dX1_reset_6 : decode cX1_reset 6 = .ok (.iconst 0, 1) := by decide +kernel
theorem dX1_reset_7 : decode cX1_reset 7 = .ok (.putfield 15, 3) := by decide +kernel
theorem dX1_reset_10 : decode cX1_reset 10 = .ok (.aload_n 0, 1) := by decide +kernel
theorem dX1_reset_11 : decode cX1_reset 11 = .ok (.iconst 0, 1) := by decide +kernel
theorem dX1_reset_12 : decode cX1_reset 12 = .ok (.putfield 18, 3) := by decide +kernel
theorem dX1_reset_15 : decode cX1_reset 15 = .ok (.aload_n 0, 1) := by decide +kernel
theorem dX1_reset_16 : decode cX1_reset 16 = .ok (.iconst 0, 1) := by decide +kernel
theorem dX1_reset_17 : decode cX1_reset 17 = .ok (.putfield 21, 3) := by decide +kernel
theorem dX1_reset_20 : decode cX1_reset 20 = .ok (.aload_n 0, 1) := by decide +kernel
theorem dX1_reset_21 : decode cX1_reset 21 = .ok (.iconst 0, 1) := by decide +kernel
theorem dX1_reset_22 : decode cX1_reset 22 = .ok (.putfield 24, 3) := by decide +kernel
theorem dX1_reset_25 : decode cX1_reset 25 = .ok (.aload_n 0, 1) := by decide +kernel
theorem dX1_reset_26 : decode cX1_reset 26 = .ok (.iconst 0, 1) := by decide +kernel
theorem dX1_reset_27 : decode cX1_reset 27 = .ok (.putfield 27, 3) := by decide +kernel
theorem dX1_reset_30 : decode cX1_reset 30 = .ok (.aload_n 0, 1) := by decide +kernel
theorem dX1_reset_31 : decode cX1_reset 31 = .ok (.iconst 0, 1) := by decide +kernel
theorem dX1_reset_32 : decode cX1_reset 32 = .ok (.putfield 30, 3) := by decide +kernel
theorem dX1_reset_35 : decode cX1_reset 35 = .ok (.return_, 1) := by decide +kernel
theorem dX1_copyFrom_0 : decode cX1_copyFrom 0 = .ok (.aload_n 0, 1) := by decide +kernel
theorem dX1_copyFrom_1 : decode cX1_copyFrom 1 = .ok (.aload_n 1, 1) := by decide +kernel
theorem dX1_copyFrom_2 : decode cX1_copyFrom 2 = .ok (.getfield 9, 3) := by decide +kernel
theorem dX1_copyFrom_5 : decode cX1_copyFrom 5 = .ok (.putfield 9, 3) := by decide +kernel
theorem dX1_copyFrom_8 : decode cX1_copyFrom 8 = .ok (.aload_n 0, 1) := by decide +kernel
theorem dX1_copyFrom_9 : decode cX1_copyFrom 9 = .ok (.aload_n 1, 1) := by decide +kernel
theorem dX1_copyFrom_10 : decode cX1_copyFrom 10 = .ok (.getfield 15, 3) := by decide +kernel
theorem dX1_copyFrom_13 : decode cX1_copyFrom 13 = .ok (.putfield 15, 3) := by decide +kernel
theorem dX1_copyFrom_16 : decode cX1_copyFrom 16 = .ok (.aload_n 0, 1) := by decide +kernel
theorem dX1_copyFrom_17 : decode cX1_copyFrom 17 = .ok (.aload_n 1, 1) := by decide +kernel
theorem dX1_copyFrom_18 : decode cX1_copyFrom 18 = .ok (.getfield 18, 3) := by decide +kernel
theorem dX1_copyFrom_21 : decode cX1_copyFrom 21 = .ok (.putfield 18, 3) := by decide +kernel
theorem dX1_copyFrom_24 : decode cX1_copyFrom 24 = .ok (.aload_n 0, 1) := by decide +kernel
theorem dX1_copyFrom_25 : decode cX1_copyFrom 25 = .ok (.aload_n 1, 1) := by decide +kernel
theorem dX1_copyFrom_26 : decode cX1_copyFrom 26 = .ok (.getfield 21, 3) := by decide +kernel
theorem dX1_copyFrom_29 : decode cX1_copyFrom 29 = .ok (.putfield 21, 3) := by decide +kernel
theorem dX1_copyFrom_32 : decode cX1_copyFrom 32 = .ok (.aload_n 0, 1) := by decide +kernel
theorem dX1_copyFrom_33 : decode cX1_copyFrom 33 = .ok (.aload_n 1, 1) := by decide +kernel
theorem dX1_copyFrom_34 : decode cX1_copyFrom 34 = .ok (.getfield 24, 3) := by decide +kernel
theorem dX1_copyFrom_37 : decode cX1_copyFrom 37 = .ok (.putfield 24, 3) := by decide +kernel
theorem dX1_copyFrom_40 : decode cX1_copyFrom 40 = .ok (.aload_n 0, 1) := by decide +kernel
theorem dX1_copyFrom_41 : decode cX1_copyFrom 41 = .ok (.aload_n 1, 1) := by decide +kernel
theorem dX1_copyFrom_42 : decode cX1_copyFrom 42 = .ok (.getfield 27, 3) := by decide +kernel
theorem dX1_copyFrom_45 : decode cX1_copyFrom 45 = .ok (.putfield 27, 3) := by decide +kernel
theorem dX1_copyFrom_48 : decode cX1_copyFrom 48 = .ok (.aload_n 0, 1) := by decide +kernel
theorem dX1_copyFrom_49 : decode cX1_copyFrom 49 = .ok (.aload_n 1, 1) := by decide +kernel
theorem dX1_copyFrom_50 : decode cX1_copyFrom 50 = .ok (.getfield 30, 3) := by decide +kernel
theorem dX1_copyFrom_53 : decode cX1_copyFrom 53 = .ok (.putfield 30, 3) := by decide +kernel
theorem dX1_copyFrom_56 : decode cX1_copyFrom 56 = .ok (.return_, 1) := by decide +kernel
theorem dX1_skipPulse_0 : decode cX1_skipPulse 0 = .ok (.aload_n 0, 1) := by decide +kernel
theorem dX1_skipPulse_1 : decode cX1_skipPulse 1 = .ok (.iconst 0, 1) := by decide +kernel
theorem dX1_skipPulse_2 : decode cX1_skipPulse 2 = .ok (.putfield 15, 3) := by decide +kernel
theorem dX1_skipPulse_5 : decode cX1_skipPulse 5 = .ok (.aload_n 0, 1) := by decide +kernel
theorem dX1_skipPulse_6 : decode cX1_skipPulse 6 = .ok (.dup, 1) := by decide +kernel
theorem dX1_skipPulse_7 : decode cX1_skipPulse 7 = .ok (.getfield 27, 3) := by decide +kernel
theorem dX1_skipPulse_10 : decode cX1_skipPulse 10 = .ok (.iconst 1, 1) := by decide +kernel
theorem dX1_skipPulse_11 : decode cX1_skipPulse 11 = .ok (.iadd, 1) := by decide +kernel
theorem dX1_skipPulse_12 : decode cX1_skipPulse 12 = .ok (.putfield 27, 3) := by decide +kernel
theorem dX1_skipPulse_15 : decode cX1_skipPulse 15 = .ok (.return_, 1) := by decide +kernel
theorem dX1_beginPulse_0 : decode cX1_beginPulse 0 = .ok (.aload_n 0, 1) := by decide +kernel
theorem dX1_beginPulse_1 : decode cX1_beginPulse 1 = .ok (.dup, 1) := by decide +kernel
theorem dX1_beginPulse_2 : decode cX1_beginPulse 2 = .ok (.getfield 18, 3) := by decide +kernel
theorem dX1_beginPulse_5 : decode cX1_beginPulse 5 = .ok (.bipush 20, 2) := by decide +kernel
theorem dX1_beginPulse_7 : decode cX1_beginPulse 7 = .ok (.iload_n 1, 1) := by decide +kernel
theorem dX1_beginPulse_8 : decode cX1_beginPulse 8 = .ok (.imul, 1) := by decide +kernel
theorem dX1_beginPulse_9 : decode cX1_beginPulse 9 = .ok (.iadd, 1) := by decide +kernel
theorem dX1_beginPulse_10 : decode cX1_beginPulse 10 = .ok (.putfield 18, 3) := by decide +kernel
theorem dX1_beginPulse_13 : decode cX1_beginPulse 13 = .ok (.aload_n 0, 1) := by decide +kernel
theorem dX1_beginPulse_14 : decode cX1_beginPulse 14 = .ok (.aload_n 0, 1) := by decide +kernel
theorem dX1_beginPulse_15 : decode cX1_beginPulse 15 = .ok (.getfield 18, 3) := by decide +kernel
theorem dX1_beginPulse_18 : decode cX1_beginPulse 18 = .ok (.sipush 1000, 3) := by decide +kernel
theorem dX1_beginPulse_21 : decode cX1_beginPulse 21 = .ok (.idiv, 1) := by decide +kernel
theorem dX1_beginPulse_22 : decode cX1_beginPulse 22 = .ok (.putfield 15, 3) := by decide +kernel
theorem dX1_beginPulse_25 : decode cX1_beginPulse 25 = .ok (.aload_n 0, 1) := by decide +kernel
theorem dX1_beginPulse_26 : decode cX1_beginPulse 26 = .ok (.aload_n 0, 1) := by decide +kernel
theorem dX1_beginPulse_27 : decode cX1_beginPulse 27 = .ok (.getfield 18, 3) := by decide +kernel
theorem dX1_beginPulse_30 : decode cX1_beginPulse 30 = .ok (.sipush 1000, 3) := by decide +kernel
theorem dX1_beginPulse_33 : decode cX1_beginPulse 33 = .ok (.irem, 1) := by decide +kernel
theorem dX1_beginPulse_34 : decode cX1_beginPulse 34 = .ok (.putfield 18, 3) := by decide +kernel
theorem dX1_beginPulse_37 : decode cX1_beginPulse 37 = .ok (.aload_n 0, 1) := by decide +kernel
theorem dX1_beginPulse_38 : decode cX1_beginPulse 38 = .ok (.dup, 1) := by decide +kernel
theorem dX1_beginPulse_39 : decode cX1_beginPulse 39 = .ok (.getfield 30, 3) := by decide +kernel
theorem dX1_beginPulse_42 : decode cX1_beginPulse 42 = .ok (.iconst 1, 1) := by decide +kernel
theorem dX1_beginPulse_43 : decode cX1_beginPulse 43 = .ok (.iadd, 1) := by decide +kernel
theorem dX1_beginPulse_44 : decode cX1_beginPulse 44 = .ok (.putfield 30, 3) := by decide +kernel
theorem dX1_beginPulse_47 : decode cX1_beginPulse 47 = .ok (.return_, 1) := by decide +kernel
theorem dX1_passSlot_0 : decode cX1_passSlot 0 = .ok (.aload_n 0, 1) := by decide +kernel
theorem dX1_passSlot_1 : decode cX1_passSlot 1 = .ok (.getfield 15, 3) := by decide +kernel
theorem dX1_passSlot_4 : decode cX1_passSlot 4 = .ok (.ifCond .le 26, 3) := by decide +kernel
theorem dX1_passSlot_7 : decode cX1_passSlot 7 = .ok (.aload_n 0, 1) := by decide +kernel
theorem dX1_passSlot_8 : decode cX1_passSlot 8 = .ok (.getfield 9, 3) := by decide +kernel
theorem dX1_passSlot_11 : decode cX1_passSlot 11 = .ok (.iload_n 1, 1) := by decide +kernel
theorem dX1_passSlot_12 : decode cX1_passSlot 12 = .ok (.if_icmp .lt 18, 3) := by decide +kernel
theorem dX1_passSlot_15 : decode cX1_passSlot 15 = .ok (.aload_n 0, 1) := by decide +kernel
theorem dX1_passSlot_16 : decode cX1_passSlot 16 = .ok (.iconst 0, 1) := by decide +kernel
theorem dX1_passSlot_17 : decode cX1_passSlot 17 = .ok (.putfield 15, 3) := by decide +kernel
theorem dX1_passSlot_20 : decode cX1_passSlot 20 = .ok (.aload_n 0, 1) := by decide +kernel
theorem dX1_passSlot_21 : decode cX1_passSlot 21 = .ok (.dup, 1) := by decide +kernel
theorem dX1_passSlot_22 : decode cX1_passSlot 22 = .ok (.getfield 24, 3) := by decide +kernel
theorem dX1_passSlot_25 : decode cX1_passSlot 25 = .ok (.iconst 1, 1) := by decide +kernel
theorem dX1_passSlot_26 : decode cX1_passSlot 26 = .ok (.iadd, 1) := by decide +kernel
theorem dX1_passSlot_27 : decode cX1_passSlot 27 = .ok (.putfield 24, 3) := by decide +kernel
theorem dX1_passSlot_30 : decode cX1_passSlot 30 = .ok (.aload_n 0, 1) := by decide +kernel
theorem dX1_passSlot_31 : decode cX1_passSlot 31 = .ok (.getfield 15, 3) := by decide +kernel
theorem dX1_passSlot_34 : decode cX1_passSlot 34 = .ok (.ifCond .le 36, 3) := by decide +kernel
theorem dX1_passSlot_37 : decode cX1_passSlot 37 = .ok (.aload_n 0, 1) := by decide +kernel
theorem dX1_passSlot_38 : decode cX1_passSlot 38 = .ok (.dup, 1) := by decide +kernel
theorem dX1_passSlot_39 : decode cX1_passSlot 39 = .ok (.getfield 15, 3) := by decide +kernel
theorem dX1_passSlot_42 : decode cX1_passSlot 42 = .ok (.iconst 1, 1) := by decide +kernel
theorem dX1_passSlot_43 : decode cX1_passSlot 43 = .ok (.isub, 1) := by decide +kernel
theorem dX1_passSlot_44 : decode cX1_passSlot 44 = .ok (.putfield 15, 3) := by decide +kernel
theorem dX1_passSlot_47 : decode cX1_passSlot 47 = .ok (.aload_n 0, 1) := by decide +kernel
theorem dX1_passSlot_48 : decode cX1_passSlot 48 = .ok (.dup, 1) := by decide +kernel
theorem dX1_passSlot_49 : decode cX1_passSlot 49 = .ok (.getfield 21, 3) := by decide +kernel
theorem dX1_passSlot_52 : decode cX1_passSlot 52 = .ok (.iconst 1, 1) := by decide +kernel
theorem dX1_passSlot_53 : decode cX1_passSlot 53 = .ok (.iadd, 1) := by decide +kernel
theorem dX1_passSlot_54 : decode cX1_passSlot 54 = .ok (.putfield 21, 3) := by decide +kernel
theorem dX1_passSlot_57 : decode cX1_passSlot 57 = .ok (.aload_n 0, 1) := by decide +kernel
theorem dX1_passSlot_58 : decode cX1_passSlot 58 = .ok (.dup, 1) := by decide +kernel
theorem dX1_passSlot_59 : decode cX1_passSlot 59 = .ok (.getfield 9, 3) := by decide +kernel
theorem dX1_passSlot_62 : decode cX1_passSlot 62 = .ok (.iload_n 2, 1) := by decide +kernel
theorem dX1_passSlot_63 : decode cX1_passSlot 63 = .ok (.iadd, 1) := by decide +kernel
theorem dX1_passSlot_64 : decode cX1_passSlot 64 = .ok (.putfield 9, 3) := by decide +kernel
theorem dX1_passSlot_67 : decode cX1_passSlot 67 = .ok (.goto 13, 3) := by decide +kernel
theorem dX1_passSlot_70 : decode cX1_passSlot 70 = .ok (.aload_n 0, 1) := by decide +kernel
theorem dX1_passSlot_71 : decode cX1_passSlot 71 = .ok (.dup, 1) := by decide +kernel
theorem dX1_passSlot_72 : decode cX1_passSlot 72 = .ok (.getfield 9, 3) := by decide +kernel
theorem dX1_passSlot_75 : decode cX1_passSlot 75 = .ok (.iload_n 3, 1) := by decide +kernel
theorem dX1_passSlot_76 : decode cX1_passSlot 76 = .ok (.isub, 1) := by decide +kernel
theorem dX1_passSlot_77 : decode cX1_passSlot 77 = .ok (.putfield 9, 3) := by decide +kernel
theorem dX1_passSlot_80 : decode cX1_passSlot 80 = .ok (.aload_n 0, 1) := by decide +kernel
theorem dX1_passSlot_81 : decode cX1_passSlot 81 = .ok (.getfield 9, 3) := by decide +kernel
theorem dX1_passSlot_84 : decode cX1_passSlot 84 = .ok (.ifCond .ge 8, 3) := by decide +kernel
theorem dX1_passSlot_87 : decode cX1_passSlot 87 = .ok (.aload_n 0, 1) := by decide +kernel
theorem dX1_passSlot_88 : decode cX1_passSlot 88 = .ok (.iconst 0, 1) := by decide +kernel
theorem dX1_passSlot_89 : decode cX1_passSlot 89 = .ok (.putfield 9, 3) := by decide +kernel
theorem dX1_passSlot_92 : decode cX1_passSlot 92 = .ok (.return_, 1) := by decide +kernel
theorem dX1_property_0 : decode cX1_property 0 = .ok (.iload_n 1, 1) := by decide +kernel
theorem dX1_property_1 : decode cX1_property 1 = .ok (.tableswitch 69 0 5 #[39, 44, 49, 54, 59, 64], 39) := by decide +kernel
theorem dX1_property_40 : decode cX1_property 40 = .ok (.aload_n 0, 1) := by decide +kernel
theorem dX1_property_41 : decode cX1_property 41 = .ok (.getfield 9, 3) := by decide +kernel
theorem dX1_property_44 : decode cX1_property 44 = .ok (.ireturn, 1) := by decide +kernel
theorem dX1_property_45 : decode cX1_property 45 = .ok (.aload_n 0, 1) := by decide +kernel
theorem dX1_property_46 : decode cX1_property 46 = .ok (.getfield 15, 3) := by decide +kernel
theorem dX1_property_49 : decode cX1_property 49 = .ok (.ireturn, 1) := by decide +kernel
theorem dX1_property_50 : decode cX1_property 50 = .ok (.aload_n 0, 1) := by decide +kernel
theorem dX1_property_51 : decode cX1_property 51 = .ok (.getfield 18, 3) := by decide +kernel
theorem dX1_property_54 : decode cX1_property 54 = .ok (.ireturn, 1) := by decide +kernel
theorem dX1_property_55 : decode cX1_property 55 = .ok (.aload_n 0, 1) := by decide +kernel
theorem dX1_property_56 : decode cX1_property 56 = .ok (.getfield 21, 3) := by decide +kernel
theorem dX1_property_59 : decode cX1_property 59 = .ok (.ireturn, 1) := by decide +kernel
theorem dX1_property_60 : decode cX1_property 60 = .ok (.aload_n 0, 1) := by decide +kernel
theorem dX1_property_61 : decode cX1_property 61 = .ok (.getfield 24, 3) := by decide +kernel
theorem dX1_property_64 : decode cX1_property 64 = .ok (.ireturn, 1) := by decide +kernel
theorem dX1_property_65 : decode cX1_property 65 = .ok (.aload_n 0, 1) := by decide +kernel
theorem dX1_property_66 : decode cX1_property 66 = .ok (.getfield 27, 3) := by decide +kernel
theorem dX1_property_69 : decode cX1_property 69 = .ok (.ireturn, 1) := by decide +kernel
theorem dX1_property_70 : decode cX1_property 70 = .ok (.aload_n 0, 1) := by decide +kernel
theorem dX1_property_71 : decode cX1_property 71 = .ok (.getfield 30, 3) := by decide +kernel
theorem dX1_property_74 : decode cX1_property 74 = .ok (.ireturn, 1) := by decide +kernel
set_option maxRecDepth 20000 in
theorem ggX2_init_X1_init : GoodIn wsX2_init wsX1_init := goodIn_r _ [18, 19, 2, 3] rfl (by decide +kernel)
set_option maxRecDepth 20000 in
theorem gX2_init_X1_init_n29 : GoodIn wsX2_init (wsX1_init) := ggX2_init_X1_init
theorem dX2_init_0 : decode cX2_init 0 = .ok (.aload_n 0, 1) := by decide +kernel
theorem dX2_init_1 : decode cX2_init 1 = .ok (.invokespecial 3, 3) := by decide +kernel
theorem dX2_init_4 : decode cX2_init 4 = .ok (.aload_n 0, 1) := by decide +kernel
theorem dX2_init_5 : decode cX2_init 5 = .ok (.getstatic 9, 3) := by decide +kernel
theorem dX2_init_8 : decode cX2_init 8 = .ok (.invokevirtual 13, 3) := by decide +kernel
theorem dX2_init_11 : decode cX2_init 11 = .ok (.checkcast 14, 3) := by decide +kernel
theorem dX2_init_14 : decode cX2_init 14 = .ok (.putfield 18, 3) := by decide +kernel
theorem dX2_init_17 : decode cX2_init 17 = .ok (.aload_n 0, 1) := by decide +kernel
theorem dX2_init_18 : decode cX2_init 18 = .ok (.iconst 4, 1) := by decide +kernel
theorem dX2_init_19 : decode cX2_init 19 = .ok (.anewarray 23, 3) := by decide +kernel
theorem dX2_init_22 : decode cX2_init 22 = .ok (.putfield 25, 3) := by decide +kernel
theorem dX2_init_25 : decode cX2_init 25 = .ok (.iconst 0, 1) := by decide +kernel
theorem dX2_init_26 : decode cX2_init 26 = .ok (.istore_n 2, 1) := by decide +kernel
theorem dX2_init_27 : decode cX2_init 27 = .ok (.iload_n 2, 1) := by decide +kernel
theorem dX2_init_28 : decode cX2_init 28 = .ok (.aload_n 0, 1) := by decide +kernel
theorem dX2_init_29 : decode cX2_init 29 = .ok (.getfield 25, 3) := by decide +kernel
theorem dX2_init_32 : decode cX2_init 32 = .ok (.arraylength, 1) := by decide +kernel
theorem dX2_init_33 : decode cX2_init 33 = .ok (.if_icmp .ge 22, 3) := by decide +kernel
theorem dX2_init_36 : decode cX2_init 36 = .ok (.aload_n 0, 1) := by decide +kernel
theorem dX2_init_37 : decode cX2_init 37 = .ok (.getfield 25, 3) := by decide +kernel
theorem dX2_init_40 : decode cX2_init 40 = .ok (.iload_n 2, 1) := by decide +kernel
theorem dX2_init_41 : decode cX2_init 41 = .ok (.new 23, 3) := by decide +kernel
theorem dX2_init_44 : decode cX2_init 44 = .ok (.dup, 1) := by decide +kernel
theorem dX2_init_45 : decode cX2_init 45 = .ok (.invokespecial 29, 3) := by decide +kernel
theorem dX2_init_48 : decode cX2_init 48 = .ok (.aastore, 1) := by decide +kernel
theorem dX2_init_49 : decode cX2_init 49 = .ok (.iinc 2 1, 3) := by decide +kernel
theorem dX2_init_52 : decode cX2_init 52 = .ok (.goto (-25), 3) := by decide +kernel
theorem dX2_init_55 : decode cX2_init 55 = .ok (.aload_n 0, 1) := by decide +kernel
theorem dX2_init_56 : decode cX2_init 56 = .ok (.iload_n 1, 1) := by decide +kernel
theorem dX2_init_57 : decode cX2_init 57 = .ok (.putfield 30, 3) := by decide +kernel
theorem dX2_init_60 : decode cX2_init 60 = .ok (.aload_n 0, 1) := by decide +kernel
theorem dX2_init_61 : decode cX2_init 61 = .ok (.iload_n 1, 1) := by decide +kernel
theorem dX2_init_62 : decode cX2_init 62 = .ok (.putfield 34, 3) := by decide +kernel
theorem dX2_init_65 : decode cX2_init 65 = .ok (.return_, 1) := by decide +kernel
set_option maxRecDepth 20000 in
theorem ggX2_reset_X1_reset : GoodIn wsX2_reset wsX1_reset := goodIn_r _ [26, 27, 28, 29, 30, 31, 32, 33, 51, 52, 53, 54, 55, 56, 57] rfl (by decide +kernel)
set_option maxRecDepth 20000 in
theorem gX2_reset_X1_reset : GoodIn wsX2_reset (wsV RX2 43 RX1 yX1_reset wsX1_reset) := goodIn_app (goodIn_r _ [22, 23, 24, 25] rfl (by decide +kernel)) ggX2_reset_X1_reset
theorem dX2_reset_0 : decode cX2_reset 0 = .ok (.getstatic 9, 3) := by decide +kernel
theorem dX2_reset_3 : decode cX2_reset 3 = .ok (.iconst 0, 1) := by decide +kernel
theorem dX2_reset_4 : decode cX2_reset 4 = .ok (.aload_n 0, 1) := by decide +kernel
theorem dX2_reset_5 : decode cX2_reset 5 = .ok (.getfield 18, 3) := by decide +kernel
theorem dX2_reset_8 : decode cX2_reset 8 = .ok (.iconst 0, 1) := by decide +kernel
theorem dX2_reset_9 : decode cX2_reset 9 = .ok (.bipush 15, 2) := by decide +kernel
theorem dX2_reset_11 : decode cX2_reset 11 = .ok (.invokestatic 37, 3) := by decide +kernel
theorem dX2_reset_14 : decode cX2_reset 14 = .ok (.iconst 0, 1) := by decide +kernel
theorem dX2_reset_15 : decode cX2_reset 15 = .ok (.istore_n 2, 1) := by decide +kernel
theorem dX2_reset_16 : decode cX2_reset 16 = .ok (.iload_n 2, 1) := by decide +kernel
theorem dX2_reset_17 : decode cX2_reset 17 = .ok (.aload_n 0, 1) := by decide +kernel
theorem dX2_reset_18 : decode cX2_reset 18 = .ok (.getfield 25, 3) := by decide +kernel
theorem dX2_reset_21 : decode cX2_reset 21 = .ok (.arraylength, 1) := by decide +kernel
theorem dX2_reset_22 : decode cX2_reset 22 = .ok (.if_icmp .ge 18, 3) := by decide +kernel
theorem dX2_reset_25 : decode cX2_reset 25 = .ok (.aload_n 0, 1) := by decide +kernel
theorem dX2_reset_26 : decode cX2_reset 26 = .ok (.getfield 25, 3) := by decide +kernel
theorem dX2_reset_29 : decode cX2_reset 29 = .ok (.iload_n 2, 1) := by decide +kernel
theorem dX2_reset_30 : decode cX2_reset 30 = .ok (.aaload, 1) := by decide +kernel
theorem dX2_reset_31 : decode cX2_reset 31 = .ok (.invokevirtual 43, 3) := by decide +kernel
theorem dX2_reset_34 : decode cX2_reset 34 = .ok (.iinc 2 1, 3) := by decide +kernel
theorem dX2_reset_37 : decode cX2_reset 37 = .ok (.goto (-21), 3) := by decide +kernel
theorem dX2_reset_40 : decode cX2_reset 40 = .ok (.aload_n 0, 1) := by decide +kernel
theorem dX2_reset_41 : decode cX2_reset 41 = .ok (.iload_n 1, 1) := by decide +kernel
theorem dX2_reset_42 : decode cX2_reset 42 = .ok (.putfield 30, 3) := by decide +kernel
theorem dX2_reset_45 : decode cX2_reset 45 = .ok (.aload_n 0, 1) := by decide +kernel
theorem dX2_reset_46 : decode cX2_reset 46 = .ok (.iload_n 1, 1) := by decide +kernel
theorem dX2_reset_47 : decode cX2_reset 47 = .ok (.putfield 34, 3) := by decide +kernel
theorem dX2_reset_50 : decode cX2_reset 50 = .ok (.aload_n 0, 1) := by decide +kernel
theorem dX2_reset_51 : decode cX2_reset 51 = .ok (.iconst 0, 1) := by decide +kernel
theorem dX2_reset_52 : decode cX2_reset 52 = .ok (.putfield 46, 3) := by decide +kernel
theorem dX2_reset_55 : decode cX2_reset 55 = .ok (.aload_n 0, 1) := by decide +kernel
theorem dX2_reset_56 : decode cX2_reset 56 = .ok (.iconst 0, 1) := by decide +kernel
theorem dX2_reset_57 : decode cX2_reset 57 = .ok (.putfield 49, 3) := by decide +kernel
theorem dX2_reset_60 : decode cX2_reset 60 = .ok (.aload_n 0, 1) := by decide +kernel
theorem dX2_reset_61 : decode cX2_reset 61 = .ok (.iconst 0, 1) := by decide +kernel
theorem dX2_reset_62 : decode cX2_reset 62 = .ok (.putfield 52, 3) := by decide +kernel
theorem dX2_reset_65 : decode cX2_reset 65 = .ok (.aload_n 0, 1) := by decide +kernel
theorem dX2_reset_66 : decode cX2_reset 66 = .ok (.iconst 0, 1) := by decide +kernel
theorem dX2_reset_67 : decode cX2_reset 67 = .ok (.putfield 55, 3) := by decide +kernel
theorem dX2_reset_70 : decode cX2_reset 70 = .ok (.aload_n 0, 1) := by decide +kernel
theorem dX2_reset_71 : decode cX2_reset 71 = .ok (.iconst 0, 1) := by decide +kernel
theorem dX2_reset_72 : decode cX2_reset 72 = .ok (.putfield 58, 3) := by decide +kernel
theorem dX2_reset_75 : decode cX2_reset 75 = .ok (.aload_n 0, 1) := by decide +kernel
theorem dX2_reset_76 : decode cX2_reset 76 = .ok (.iconst 0, 1) := by decide +kernel
theorem dX2_reset_77 : decode cX2_reset 77 = .ok (.putfield 61, 3) := by decide +kernel
theorem dX2_reset_80 : decode cX2_reset 80 = .ok (.aload_n 0, 1) := by decide +kernel
theorem dX2_reset_81 : decode cX2_reset 81 = .ok (.iconst 0, 1) := by decide +kernel
theorem dX2_reset_82 : decode cX2_reset 82 = .ok (.putfield 64, 3) := by decide +kernel
theorem dX2_reset_85 : decode cX2_reset 85 = .ok (.aload_n 0, 1) := by decide +kernel
theorem dX2_reset_86 : decode cX2_reset 86 = .ok (.iconst 0, 1) := by decide +kernel
theorem dX2_reset_87 : decode cX2_reset 87 = .ok (.putfield 67, 3) := by decide +kernel
theorem dX2_reset_90 : decode cX2_reset 90 = .ok (.aload_n 0, 1) := by decide +kernel
theorem dX2_reset_91 : decode cX2_reset 91 = .ok (.iconst 0, 1) := by decide +kernel
theorem dX2_reset_92 : decode cX2_reset 92 = .ok (.putfield 70, 3) := by decide +kernel
theorem dX2_reset_95 : decode cX2_reset 95 = .ok (.aload_n 0, 1) := by decide +kernel
theorem dX2_reset_96 : decode cX2_reset 96 = .ok (.iconst 0, 1) := by decide +kernel
theorem dX2_reset_97 : decode cX2_reset 97 = .ok (.putfield 73, 3) := by decide +kernel
theorem dX2_reset_100 : decode cX2_reset 100 = .ok (.aload_n 0, 1) := by decide +kernel
theorem dX2_reset_101 : decode cX2_reset 101 = .ok (.iconst 0, 1) := by decide +kernel
theorem dX2_reset_102 : decode cX2_reset 102 = .ok (.putfield 76, 3) := by decide +kernel
theorem dX2_reset_105 : decode cX2_reset 105 = .ok (.aload_n 0, 1) := by decide +kernel
theorem dX2_reset_106 : decode cX2_reset 106 = .ok (.iconst 0, 1) := by decide +kernel
theorem dX2_reset_107 : decode cX2_reset 107 = .ok (.putfield 79, 3) := by decide +kernel
theorem dX2_reset_110 : decode cX2_reset 110 = .ok (.aload_n 0, 1) := by decide +kernel
theorem dX2_reset_111 : decode cX2_reset 111 = .ok (.iconst 0, 1) := by decide +kernel
theorem dX2_reset_112 : decode cX2_reset 112 = .ok (.putfield 82, 3) := by decide +kernel
theorem dX2_reset_115 : decode cX2_reset 115 = .ok (.return_, 1) := by decide +kernel
set_option maxRecDepth 20000 in
theorem ggX2_copyFrom_X1_copyFrom : GoodIn wsX2_copyFrom wsX1_copyFrom := goodIn_r _ [26, 27, 28, 29, 30, 31, 32, 33, 51, 52, 53, 54, 55, 56, 57] rfl (by decide +kernel)
set_option maxRecDepth 20000 in
theorem gX2_copyFrom_X1_copyFrom : GoodIn wsX2_copyFrom (wsV RX2 85 RX1 yX1_copyFrom wsX1_copyFrom) := goodIn_app (goodIn_r _ [22, 23, 24, 25] rfl (by decide +kernel)) ggX2_copyFrom_X1_copyFrom
theorem dX2_copyFrom_0 : decode cX2_copyFrom 0 = .ok (.aload_n 1, 1) := by decide +kernel
theorem dX2_copyFrom_1 : decode cX2_copyFrom 1 = .ok (.getfield 18, 3) := by decide +kernel
theorem dX2_copyFrom_4 : decode cX2_copyFrom 4 = .ok (.iconst 0, 1) := by decide +kernel
theorem dX2_copyFrom_5 : decode cX2_copyFrom 5 = .ok (.aload_n 0, 1) := by decide +kernel
theorem dX2_copyFrom_6 : decode cX2_copyFrom 6 = .ok (.getfield 18, 3) := by decide +kernel
theorem dX2_copyFrom_9 : decode cX2_copyFrom 9 = .ok (.iconst 0, 1) := by decide +kernel
theorem dX2_copyFrom_10 : decode cX2_copyFrom 10 = .ok (.bipush 15, 2) := by decide +kernel
theorem dX2_copyFrom_12 : decode cX2_copyFrom 12 = .ok (.invokestatic 37, 3) := by decide +kernel
theorem dX2_copyFrom_15 : decode cX2_copyFrom 15 = .ok (.iconst 0, 1) := by decide +kernel
theorem dX2_copyFrom_16 : decode cX2_copyFrom 16 = .ok (.istore_n 2, 1) := by decide +kernel
theorem dX2_copyFrom_17 : decode cX2_copyFrom 17 = .ok (.iload_n 2, 1) := by decide +kernel
theorem dX2_copyFrom_18 : decode cX2_copyFrom 18 = .ok (.aload_n 0, 1) := by decide +kernel
theorem dX2_copyFrom_19 : decode cX2_copyFrom 19 = .ok (.getfield 25, 3) := by decide +kernel
theorem dX2_copyFrom_22 : decode cX2_copyFrom 22 = .ok (.arraylength, 1) := by decide +kernel
theorem dX2_copyFrom_23 : decode cX2_copyFrom 23 = .ok (.if_icmp .ge 33, 3) := by decide +kernel
theorem dX2_copyFrom_26 : decode cX2_copyFrom 26 = .ok (.iload_n 2, 1) := by decide +kernel
theorem dX2_copyFrom_27 : decode cX2_copyFrom 27 = .ok (.aload_n 1, 1) := by decide +kernel
theorem dX2_copyFrom_28 : decode cX2_copyFrom 28 = .ok (.getfield 25, 3) := by decide +kernel
theorem dX2_copyFrom_31 : decode cX2_copyFrom 31 = .ok (.arraylength, 1) := by decide +kernel
theorem dX2_copyFrom_32 : decode cX2_copyFrom 32 = .ok (.if_icmp .ge 24, 3) := by decide +kernel
theorem dX2_copyFrom_35 : decode cX2_copyFrom 35 = .ok (.aload_n 0, 1) := by decide +kernel
theorem dX2_copyFrom_36 : decode cX2_copyFrom 36 = .ok (.getfield 25, 3) := by decide +kernel
theorem dX2_copyFrom_39 : decode cX2_copyFrom 39 = .ok (.iload_n 2, 1) := by decide +kernel
theorem dX2_copyFrom_40 : decode cX2_copyFrom 40 = .ok (.aaload, 1) := by decide +kernel
theorem dX2_copyFrom_41 : decode cX2_copyFrom 41 = .ok (.aload_n 1, 1) := by decide +kernel
theorem dX2_copyFrom_42 : decode cX2_copyFrom 42 = .ok (.getfield 25, 3) := by decide +kernel
theorem dX2_copyFrom_45 : decode cX2_copyFrom 45 = .ok (.iload_n 2, 1) := by decide +kernel
theorem dX2_copyFrom_46 : decode cX2_copyFrom 46 = .ok (.aaload, 1) := by decide +kernel
theorem dX2_copyFrom_47 : decode cX2_copyFrom 47 = .ok (.invokevirtual 85, 3) := by decide +kernel
theorem dX2_copyFrom_50 : decode cX2_copyFrom 50 = .ok (.iinc 2 1, 3) := by decide +kernel
theorem dX2_copyFrom_53 : decode cX2_copyFrom 53 = .ok (.goto (-36), 3) := by decide +kernel
theorem dX2_copyFrom_56 : decode cX2_copyFrom 56 = .ok (.aload_n 0, 1) := by decide +kernel
theorem dX2_copyFrom_57 : decode cX2_copyFrom 57 = .ok (.aload_n 1, 1) := by decide +kernel
theorem dX2_copyFrom_58 : decode cX2_copyFrom 58 = .ok (.getfield 30, 3) := by decide +kernel
theorem dX2_copyFrom_61 : decode cX2_copyFrom 61 = .ok (.putfield 30, 3) := by decide +kernel
theorem dX2_copyFrom_64 : decode cX2_copyFrom 64 = .ok (.aload_n 0, 1) := by decide +kernel
theorem dX2_copyFrom_65 : decode cX2_copyFrom 65 = .ok (.aload_n 1, 1) := by decide +kernel
theorem dX2_copyFrom_66 : decode cX2_copyFrom 66 = .ok (.getfield 34, 3) := by decide +kernel
theorem dX2_copyFrom_69 : decode cX2_copyFrom 69 = .ok (.putfield 34, 3) := by decide +kernel
theorem dX2_copyFrom_72 : decode cX2_copyFrom 72 = .ok (.aload_n 0, 1) := by decide +kernel
theorem dX2_copyFrom_73 : decode cX2_copyFrom 73 = .ok (.aload_n 1, 1) := by decide +kernel
theorem dX2_copyFrom_74 : decode cX2_copyFrom 74 = .ok (.getfield 46, 3) := by decide +kernel
theorem dX2_copyFrom_77 : decode cX2_copyFrom 77 = .ok (.putfield 46, 3) := by decide +kernel
theorem dX2_copyFrom_80 : decode cX2_copyFrom 80 = .ok (.aload_n 0, 1) := by decide +kernel
theorem dX2_copyFrom_81 : decode cX2_copyFrom 81 = .ok (.aload_n 1, 1) := by decide +kernel
theorem dX2_copyFrom_82 : decode cX2_copyFrom 82 = .ok (.getfield 49, 3) := by decide +kernel
theorem dX2_copyFrom_85 : decode cX2_copyFrom 85 = .ok (.putfield 49, 3) := by decide +kernel
theorem dX2_copyFrom_88 : decode cX2_copyFrom 88 = .ok (.aload_n 0, 1) := by decide +kernel
theorem dX2_copyFrom_89 : decode cX2_copyFrom 89 = .ok (.aload_n 1, 1) := by decide +kernel
theorem dX2_copyFrom_90 : decode cX2_copyFrom 90 = .ok (.getfield 52, 3) := by decide +kernel
theorem dX2_copyFrom_93 : decode cX2_copyFrom 93 = .ok (.putfield 52, 3) := by decide +kernel
theorem dX2_copyFrom_96 : decode cX2_copyFrom 96 = .ok (.aload_n 0, 1) := by decide +kernel
theorem dX2_copyFrom_97 : decode cX2_copyFrom 97 = .ok (.aload_n 1, 1) := by decide +kernel
theorem dX2_copyFrom_98 : decode cX2_copyFrom 98 = .ok (.getfield 55, 3) := by decide +kernel
theorem dX2_copyFrom_101 : decode cX2_copyFrom 101 = .ok (.putfield 55, 3) := by decide +kernel
theorem dX2_copyFrom_104 : decode cX2_copyFrom 104 = .ok (.aload_n 0, 1) := by decide +kernel
theorem dX2_copyFrom_105 : decode cX2_copyFrom 105 = .ok (.aload_n 1, 1) := by decide +kernel
theorem dX2_copyFrom_106 : decode cX2_copyFrom 106 = .ok (.getfield 58, 3) := by decide +kernel
theorem dX2_copyFrom_109 : decode cX2_copyFrom 109 = .ok (.putfield 58, 3) := by decide +kernel
theorem dX2_copyFrom_112 : decode cX2_copyFrom 112 = .ok (.aload_n 0, 1) := by decide +kernel
theorem dX2_copyFrom_113 : decode cX2_copyFrom 113 = .ok (.aload_n 1, 1) := by decide +kernel
theorem dX2_copyFrom_114 : decode cX2_copyFrom 114 = .ok (.getfield 61, 3) := by decide +kernel
theorem dX2_copyFrom_117 : decode cX2_copyFrom 117 = .ok (.putfield 61, 3) := by decide +kernel
theorem dX2_copyFrom_120 : decode cX2_copyFrom 120 = .ok (.aload_n 0, 1) := by decide +kernel
theorem dX2_copyFrom_121 : decode cX2_copyFrom 121 = .ok (.aload_n 1, 1) := by decide +kernel
theorem dX2_copyFrom_122 : decode cX2_copyFrom 122 = .ok (.getfield 64, 3) := by decide +kernel
theorem dX2_copyFrom_125 : decode cX2_copyFrom 125 = .ok (.putfield 64, 3) := by decide +kernel
theorem dX2_copyFrom_128 : decode cX2_copyFrom 128 = .ok (.aload_n 0, 1) := by decide +kernel
theorem dX2_copyFrom_129 : decode cX2_copyFrom 129 = .ok (.aload_n 1, 1) := by decide +kernel
theorem dX2_copyFrom_130 : decode cX2_copyFrom 130 = .ok (.getfield 67, 3) := by decide +kernel
theorem dX2_copyFrom_133 : decode cX2_copyFrom 133 = .ok (.putfield 67, 3) := by decide +kernel
theorem dX2_copyFrom_136 : decode cX2_copyFrom 136 = .ok (.aload_n 0, 1) := by decide +kernel
theorem dX2_copyFrom_137 : decode cX2_copyFrom 137 = .ok (.aload_n 1, 1) := by decide +kernel
theorem dX2_copyFrom_138 : decode cX2_copyFrom 138 = .ok (.getfield 70, 3) := by decide +kernel
theorem dX2_copyFrom_141 : decode cX2_copyFrom 141 = .ok (.putfield 70, 3) := by decide +kernel
theorem dX2_copyFrom_144 : decode cX2_copyFrom 144 = .ok (.aload_n 0, 1) := by decide +kernel
theorem dX2_copyFrom_145 : decode cX2_copyFrom 145 = .ok (.aload_n 1, 1) := by decide +kernel
theorem dX2_copyFrom_146 : decode cX2_copyFrom 146 = .ok (.getfield 73, 3) := by decide +kernel
theorem dX2_copyFrom_149 : decode cX2_copyFrom 149 = .ok (.putfield 73, 3) := by decide +kernel
theorem dX2_copyFrom_152 : decode cX2_copyFrom 152 = .ok (.aload_n 0, 1) := by decide +kernel
theorem dX2_copyFrom_153 : decode cX2_copyFrom 153 = .ok (.aload_n 1, 1) := by decide +kernel
theorem dX2_copyFrom_154 : decode cX2_copyFrom 154 = .ok (.getfield 76, 3) := by decide +kernel
theorem dX2_copyFrom_157 : decode cX2_copyFrom 157 = .ok (.putfield 76, 3) := by decide +kernel
theorem dX2_copyFrom_160 : decode cX2_copyFrom 160 = .ok (.aload_n 0, 1) := by decide +kernel
theorem dX2_copyFrom_161 : decode cX2_copyFrom 161 = .ok (.aload_n 1, 1) := by decide +kernel
theorem dX2_copyFrom_162 : decode cX2_copyFrom 162 = .ok (.getfield 79, 3) := by decide +kernel
theorem dX2_copyFrom_165 : decode cX2_copyFrom 165 = .ok (.putfield 79, 3) := by decide +kernel
theorem dX2_copyFrom_168 : decode cX2_copyFrom 168 = .ok (.aload_n 0, 1) := by decide +kernel
theorem dX2_copyFrom_169 : decode cX2_copyFrom 169 = .ok (.aload_n 1, 1) := by decide +kernel
theorem dX2_copyFrom_170 : decode cX2_copyFrom 170 = .ok (.getfield 82, 3) := by decide +kernel
theorem dX2_copyFrom_173 : decode cX2_copyFrom 173 = .ok (.putfield 82, 3) := by decide +kernel
theorem dX2_copyFrom_176 : decode cX2_copyFrom 176 = .ok (.return_, 1) := by decide +kernel
theorem dX2_runs_0 : decode cX2_runs 0 = .ok (.aload_n 0, 1) := by decide +kernel
theorem dX2_runs_1 : decode cX2_runs 1 = .ok (.getfield 46, 3) := by decide +kernel
theorem dX2_runs_4 : decode cX2_runs 4 = .ok (.iconst 1, 1) := by decide +kernel
theorem dX2_runs_5 : decode cX2_runs 5 = .ok (.if_icmp .eq 11, 3) := by decide +kernel
theorem dX2_runs_8 : decode cX2_runs 8 = .ok (.aload_n 0, 1) := by decide +kernel
theorem dX2_runs_9 : decode cX2_runs 9 = .ok (.getfield 46, 3) := by decide +kernel
theorem dX2_runs_12 : decode cX2_runs 12 = .ok (.iconst 2, 1) := by decide +kernel
theorem dX2_runs_13 : decode cX2_runs 13 = .ok (.if_icmp .ne 7, 3) := by decide +kernel
theorem dX2_runs_16 : decode cX2_runs 16 = .ok (.iconst 1, 1) := by decide +kernel
theorem dX2_runs_17 : decode cX2_runs 17 = .ok (.goto 4, 3) := by decide +kernel
theorem dX2_runs_20 : decode cX2_runs 20 = .ok (.iconst 0, 1) := by decide +kernel
theorem dX2_runs_21 : decode cX2_runs 21 = .ok (.ireturn, 1) := by decide +kernel
theorem dX2_softStart_0 : decode cX2_softStart 0 = .ok (.aload_n 0, 1) := by decide +kernel
theorem dX2_softStart_1 : decode cX2_softStart 1 = .ok (.iconst 1, 1) := by decide +kernel
theorem dX2_softStart_2 : decode cX2_softStart 2 = .ok (.putfield 46, 3) := by decide +kernel
theorem dX2_softStart_5 : decode cX2_softStart 5 = .ok (.aload_n 0, 1) := by decide +kernel
theorem dX2_softStart_6 : decode cX2_softStart 6 = .ok (.aload_n 0, 1) := by decide +kernel
theorem dX2_softStart_7 : decode cX2_softStart 7 = .ok (.getfield 49, 3) := by decide +kernel
theorem dX2_softStart_10 : decode cX2_softStart 10 = .ok (.putfield 52, 3) := by decide +kernel
theorem dX2_softStart_13 : decode cX2_softStart 13 = .ok (.aload_n 0, 1) := by decide +kernel
theorem dX2_softStart_14 : decode cX2_softStart 14 = .ok (.iconst 0, 1) := by decide +kernel
theorem dX2_softStart_15 : decode cX2_softStart 15 = .ok (.putfield 55, 3) := by decide +kernel
theorem dX2_softStart_18 : decode cX2_softStart 18 = .ok (.aload_n 0, 1) := by decide +kernel
theorem dX2_softStart_19 : decode cX2_softStart 19 = .ok (.iconst 0, 1) := by decide +kernel
theorem dX2_softStart_20 : decode cX2_softStart 20 = .ok (.putfield 61, 3) := by decide +kernel
theorem dX2_softStart_23 : decode cX2_softStart 23 = .ok (.aload_n 0, 1) := by decide +kernel
theorem dX2_softStart_24 : decode cX2_softStart 24 = .ok (.iconst 0, 1) := by decide +kernel
theorem dX2_softStart_25 : decode cX2_softStart 25 = .ok (.putfield 64, 3) := by decide +kernel
theorem dX2_softStart_28 : decode cX2_softStart 28 = .ok (.aload_n 0, 1) := by decide +kernel
theorem dX2_softStart_29 : decode cX2_softStart 29 = .ok (.aload_n 0, 1) := by decide +kernel
theorem dX2_softStart_30 : decode cX2_softStart 30 = .ok (.getfield 30, 3) := by decide +kernel
theorem dX2_softStart_33 : decode cX2_softStart 33 = .ok (.putfield 34, 3) := by decide +kernel
theorem dX2_softStart_36 : decode cX2_softStart 36 = .ok (.iconst 0, 1) := by decide +kernel
theorem dX2_softStart_37 : decode cX2_softStart 37 = .ok (.istore_n 1, 1) := by decide +kernel
theorem dX2_softStart_38 : decode cX2_softStart 38 = .ok (.iload_n 1, 1) := by decide +kernel
theorem dX2_softStart_39 : decode cX2_softStart 39 = .ok (.aload_n 0, 1) := by decide +kernel
theorem dX2_softStart_40 : decode cX2_softStart 40 = .ok (.getfield 25, 3) := by decide +kernel
theorem dX2_softStart_43 : decode cX2_softStart 43 = .ok (.arraylength, 1) := by decide +kernel
theorem dX2_softStart_44 : decode cX2_softStart 44 = .ok (.if_icmp .ge 19, 3) := by decide +kernel
theorem dX2_softStart_47 : decode cX2_softStart 47 = .ok (.aload_n 0, 1) := by decide +kernel
theorem dX2_softStart_48 : decode cX2_softStart 48 = .ok (.getfield 25, 3) := by decide +kernel
theorem dX2_softStart_51 : decode cX2_softStart 51 = .ok (.iload_n 1, 1) := by decide +kernel
theorem dX2_softStart_52 : decode cX2_softStart 52 = .ok (.aaload, 1) := by decide +kernel
theorem dX2_softStart_53 : decode cX2_softStart 53 = .ok (.iconst 0, 1) := by decide +kernel
theorem dX2_softStart_54 : decode cX2_softStart 54 = .ok (.putfield 89, 3) := by decide +kernel
theorem dX2_softStart_57 : decode cX2_softStart 57 = .ok (.iinc 1 1, 3) := by decide +kernel
theorem dX2_softStart_60 : decode cX2_softStart 60 = .ok (.goto (-22), 3) := by decide +kernel
theorem dX2_softStart_63 : decode cX2_softStart 63 = .ok (.return_, 1) := by decide +kernel
theorem dX2_halt_0 : decode cX2_halt 0 = .ok (.aload_n 0, 1) := by decide +kernel
theorem dX2_halt_1 : decode cX2_halt 1 = .ok (.iload_n 1, 1) := by decide +kernel
theorem dX2_halt_2 : decode cX2_halt 2 = .ok (.putfield 46, 3) := by decide +kernel
theorem dX2_halt_5 : decode cX2_halt 5 = .ok (.iconst 0, 1) := by decide +kernel
theorem dX2_halt_6 : decode cX2_halt 6 = .ok (.istore_n 2, 1) := by decide +kernel
theorem dX2_halt_7 : decode cX2_halt 7 = .ok (.iload_n 2, 1) := by decide +kernel
theorem dX2_halt_8 : decode cX2_halt 8 = .ok (.aload_n 0, 1) := by decide +kernel
theorem dX2_halt_9 : decode cX2_halt 9 = .ok (.getfield 25, 3) := by decide +kernel
theorem dX2_halt_12 : decode cX2_halt 12 = .ok (.arraylength, 1) := by decide +kernel
theorem dX2_halt_13 : decode cX2_halt 13 = .ok (.if_icmp .ge 19, 3) := by decide +kernel
theorem dX2_halt_16 : decode cX2_halt 16 = .ok (.aload_n 0, 1) := by decide +kernel
theorem dX2_halt_17 : decode cX2_halt 17 = .ok (.getfield 25, 3) := by decide +kernel
theorem dX2_halt_20 : decode cX2_halt 20 = .ok (.iload_n 2, 1) := by decide +kernel
theorem dX2_halt_21 : decode cX2_halt 21 = .ok (.aaload, 1) := by decide +kernel
theorem dX2_halt_22 : decode cX2_halt 22 = .ok (.iconst 0, 1) := by decide +kernel
theorem dX2_halt_23 : decode cX2_halt 23 = .ok (.putfield 92, 3) := by decide +kernel
theorem dX2_halt_26 : decode cX2_halt 26 = .ok (.iinc 2 1, 3) := by decide +kernel
theorem dX2_halt_29 : decode cX2_halt 29 = .ok (.goto (-22), 3) := by decide +kernel
theorem dX2_halt_32 : decode cX2_halt 32 = .ok (.return_, 1) := by decide +kernel
set_option maxRecDepth 20000 in
theorem ggX2_passCycle_X2_runs : GoodIn wsX2_passCycle wsX2_runs := goodIn_r _ [18, 19, 100, 101, 102, 103, 104, 105, 106, 107, 108, 109, 110, 111, 112, 113, 114, 115, 116] rfl (by decide +kernel)
set_option maxRecDepth 20000 in
theorem gX2_passCycle_X2_runs : GoodIn wsX2_passCycle (wsV RX2 95 RX2 yX2_runs wsX2_runs) := goodIn_app (goodIn_r _ [14, 15, 16, 17] rfl (by decide +kernel)) ggX2_passCycle_X2_runs
set_option maxRecDepth 20000 in
theorem ggX2_passCycle_X2_halt : GoodIn wsX2_passCycle wsX2_halt := goodIn_r _ [23, 19, 24, 25, 100, 101, 102, 103, 104, 105, 106, 107, 108, 109, 110, 111, 112, 113, 114, 115, 116, 117, 118, 119, 120, 121, 122, 123] rfl (by decide +kernel)
set_option maxRecDepth 20000 in
theorem gX2_passCycle_X2_halt : GoodIn wsX2_passCycle (wsV RX2 99 RX2 yX2_halt wsX2_halt) := goodIn_app (goodIn_r _ [20, 21, 22, 17] rfl (by decide +kernel)) ggX2_passCycle_X2_halt
set_option maxRecDepth 20000 in
theorem ggX2_passCycle_X2_moveTarget : GoodIn wsX2_passCycle wsX2_moveTarget := goodIn_r _ [29, 1, 19, 30, 100, 101, 102, 103, 104, 105, 106, 107, 108, 109, 110, 111, 112, 113, 114, 115, 116] rfl (by decide +kernel)
set_option maxRecDepth 20000 in
theorem gX2_passCycle_X2_moveTarget : GoodIn wsX2_passCycle (wsV RX2 103 RX2 yX2_moveTarget wsX2_moveTarget) := goodIn_app (goodIn_r _ [26, 27, 28, 17] rfl (by decide +kernel)) ggX2_passCycle_X2_moveTarget
set_option maxRecDepth 20000 in
theorem ggX2_passCycle_X2_regulate : GoodIn wsX2_passCycle wsX2_regulate := goodIn_r _ [34, 30, 2, 35, 36, 37, 1, 38, 39, 40, 41, 42, 43, 100, 101, 102, 103, 104, 105, 106, 107, 108, 109, 110, 111, 112, 113, 114, 115, 116] rfl (by decide +kernel)
set_option maxRecDepth 20000 in
theorem gX2_passCycle_X2_regulate : GoodIn wsX2_passCycle (wsV RX2 106 RX2 yX2_regulate wsX2_regulate) := goodIn_app (goodIn_r _ [31, 32, 33, 17] rfl (by decide +kernel)) ggX2_passCycle_X2_regulate
set_option maxRecDepth 20000 in
theorem ggX2_passCycle_X2_adaptPhases : GoodIn wsX2_passCycle wsX2_adaptPhases := goodIn_r _ [47, 48, 49, 12, 1, 50, 51, 24, 25, 52, 53, 54, 17, 55, 56, 100, 101, 102, 103, 104, 105, 106, 107, 108, 109, 110, 111, 112, 113, 114, 115, 116, 117, 118, 119, 120, 121, 122, 123] rfl (by decide +kernel)
set_option maxRecDepth 20000 in
theorem gX2_passCycle_X2_adaptPhases : GoodIn wsX2_passCycle (wsV RX2 109 RX2 yX2_adaptPhases wsX2_adaptPhases) := goodIn_app (goodIn_r _ [44, 45, 46, 17] rfl (by decide +kernel)) ggX2_passCycle_X2_adaptPhases
set_option maxRecDepth 20000 in
theorem ggX2_passCycle_X2_beginPulses : GoodIn wsX2_passCycle wsX2_beginPulses := goodIn_r _ [60, 48, 24, 42, 40, 43, 61, 62, 63, 17, 64, 19, 12, 1, 2, 30, 65, 38, 66, 67, 68, 69, 70, 71, 72, 73, 74, 75, 76, 39, 41, 77, 78, 79, 80, 81, 82, 100, 101, 102, 103, 104, 105, 106, 107, 108, 109, 110, 111, 112, 113, 114, 115, 116, 117, 118, 119, 120, 121, 122, 123] rfl (by decide +kernel)
set_option maxRecDepth 20000 in
theorem gX2_passCycle_X2_beginPulses : GoodIn wsX2_passCycle (wsV RX2 112 RX2 yX2_beginPulses wsX2_beginPulses) := goodIn_app (goodIn_r _ [57, 58, 59, 17] rfl (by decide +kernel)) ggX2_passCycle_X2_beginPulses
set_option maxRecDepth 20000 in
theorem ggX2_passCycle_X2_moveCurrents : GoodIn wsX2_passCycle wsX2_moveCurrents := goodIn_r _ [86, 1, 2, 49, 24, 65, 87, 9, 10, 6, 11, 42, 40, 43, 88, 89, 90, 69, 91, 71, 92, 93, 94, 100, 101, 102, 103, 104, 105, 106, 107, 108, 109, 110, 111, 112, 113, 114, 115, 116, 117, 118, 119, 120, 121, 122, 123] rfl (by decide +kernel)
set_option maxRecDepth 20000 in
theorem gX2_passCycle_X2_moveCurrents : GoodIn wsX2_passCycle (wsV RX2 115 RX2 yX2_moveCurrents wsX2_moveCurrents) := goodIn_app (goodIn_r _ [83, 84, 85, 17] rfl (by decide +kernel)) ggX2_passCycle_X2_moveCurrents
set_option maxRecDepth 20000 in
theorem ggX2_passCycle_X2_moveVoltage : GoodIn wsX2_passCycle wsX2_moveVoltage := goodIn_r _ [98, 1, 2, 99, 42, 40, 43, 39, 41, 14, 15, 16, 17, 18, 19, 20, 21, 22, 23, 24, 25, 100, 101, 102, 103, 104, 105, 106, 107, 108, 109, 110, 111, 112, 113, 114, 115, 116, 117, 118, 119, 120, 121, 122, 123] rfl (by decide +kernel)
set_option maxRecDepth 20000 in
theorem gX2_passCycle_X2_moveVoltage : GoodIn wsX2_passCycle (wsV RX2 119 RX2 yX2_moveVoltage wsX2_moveVoltage) := goodIn_app (goodIn_r _ [95, 96, 97, 17] rfl (by decide +kernel)) ggX2_passCycle_X2_moveVoltage
theorem dX2_passCycle_0 : decode cX2_passCycle 0 = .ok (.aload_n 0, 1) := by decide +kernel
theorem dX2_passCycle_1 : decode cX2_passCycle 1 = .ok (.invokevirtual 95, 3) := by decide +kernel
theorem dX2_passCycle_4 : decode cX2_passCycle 4 = .ok (.ifCond .eq 24, 3) := by decide +kernel
theorem dX2_passCycle_7 : decode cX2_passCycle 7 = .ok (.aload_n 0, 1) := by decide +kernel
theorem dX2_passCycle_8 : decode cX2_passCycle 8 = .ok (.getfield 18, 3) := by decide +kernel
theorem dX2_passCycle_11 : decode cX2_passCycle 11 = .ok (.iconst 0, 1) := by decide +kernel
theorem dX2_passCycle_12 : decode cX2_passCycle 12 = .ok (.iaload, 1) := by decide +kernel
theorem dX2_passCycle_13 : decode cX2_passCycle 13 = .ok (.aload_n 0, 1) := by decide +kernel
theorem dX2_passCycle_14 : decode cX2_passCycle 14 = .ok (.getfield 18, 3) := by decide +kernel
theorem dX2_passCycle_17 : decode cX2_passCycle 17 = .ok (.bipush 13, 2) := by decide +kernel
theorem dX2_passCycle_19 : decode cX2_passCycle 19 = .ok (.iaload, 1) := by decide +kernel
theorem dX2_passCycle_20 : decode cX2_passCycle 20 = .ok (.if_icmp .ge 8, 3) := by decide +kernel
theorem dX2_passCycle_23 : decode cX2_passCycle 23 = .ok (.aload_n 0, 1) := by decide +kernel
theorem dX2_passCycle_24 : decode cX2_passCycle 24 = .ok (.iconst 4, 1) := by decide +kernel
theorem dX2_passCycle_25 : decode cX2_passCycle 25 = .ok (.invokevirtual 99, 3) := by decide +kernel
theorem dX2_passCycle_28 : decode cX2_passCycle 28 = .ok (.aload_n 0, 1) := by decide +kernel
theorem dX2_passCycle_29 : decode cX2_passCycle 29 = .ok (.invokevirtual 95, 3) := by decide +kernel
theorem dX2_passCycle_32 : decode cX2_passCycle 32 = .ok (.ifCond .eq 15, 3) := by decide +kernel
theorem dX2_passCycle_35 : decode cX2_passCycle 35 = .ok (.aload_n 0, 1) := by decide +kernel
theorem dX2_passCycle_36 : decode cX2_passCycle 36 = .ok (.invokevirtual 103, 3) := by decide +kernel
theorem dX2_passCycle_39 : decode cX2_passCycle 39 = .ok (.aload_n 0, 1) := by decide +kernel
theorem dX2_passCycle_40 : decode cX2_passCycle 40 = .ok (.invokevirtual 106, 3) := by decide +kernel
theorem dX2_passCycle_43 : decode cX2_passCycle 43 = .ok (.aload_n 0, 1) := by decide +kernel
theorem dX2_passCycle_44 : decode cX2_passCycle 44 = .ok (.invokevirtual 109, 3) := by decide +kernel
theorem dX2_passCycle_47 : decode cX2_passCycle 47 = .ok (.iconst 0, 1) := by decide +kernel
theorem dX2_passCycle_48 : decode cX2_passCycle 48 = .ok (.istore_n 1, 1) := by decide +kernel
theorem dX2_passCycle_49 : decode cX2_passCycle 49 = .ok (.iconst 0, 1) := by decide +kernel
theorem dX2_passCycle_50 : decode cX2_passCycle 50 = .ok (.istore_n 2, 1) := by decide +kernel
theorem dX2_passCycle_51 : decode cX2_passCycle 51 = .ok (.iload_n 2, 1) := by decide +kernel
theorem dX2_passCycle_52 : decode cX2_passCycle 52 = .ok (.bipush 20, 2) := by decide +kernel
theorem dX2_passCycle_54 : decode cX2_passCycle 54 = .ok (.if_icmp .ge 87, 3) := by decide +kernel
theorem dX2_passCycle_57 : decode cX2_passCycle 57 = .ok (.aload_n 0, 1) := by decide +kernel
theorem dX2_passCycle_58 : decode cX2_passCycle 58 = .ok (.invokevirtual 95, 3) := by decide +kernel
theorem dX2_passCycle_61 : decode cX2_passCycle 61 = .ok (.ifCond .eq 8, 3) := by decide +kernel
theorem dX2_passCycle_64 : decode cX2_passCycle 64 = .ok (.aload_n 0, 1) := by decide +kernel
theorem dX2_passCycle_65 : decode cX2_passCycle 65 = .ok (.iload_n 2, 1) := by decide +kernel
theorem dX2_passCycle_66 : decode cX2_passCycle 66 = .ok (.invokevirtual 112, 3) := by decide +kernel
theorem dX2_passCycle_69 : decode cX2_passCycle 69 = .ok (.aload_n 0, 1) := by decide +kernel
theorem dX2_passCycle_70 : decode cX2_passCycle 70 = .ok (.invokevirtual 115, 3) := by decide +kernel
theorem dX2_passCycle_73 : decode cX2_passCycle 73 = .ok (.istore_n 3, 1) := by decide +kernel
theorem dX2_passCycle_74 : decode cX2_passCycle 74 = .ok (.iload_n 1, 1) := by decide +kernel
theorem dX2_passCycle_75 : decode cX2_passCycle 75 = .ok (.iload_n 3, 1) := by decide +kernel
theorem dX2_passCycle_76 : decode cX2_passCycle 76 = .ok (.iadd, 1) := by decide +kernel
theorem dX2_passCycle_77 : decode cX2_passCycle 77 = .ok (.istore_n 1, 1) := by decide +kernel
theorem dX2_passCycle_78 : decode cX2_passCycle 78 = .ok (.aload_n 0, 1) := by decide +kernel
theorem dX2_passCycle_79 : decode cX2_passCycle 79 = .ok (.iload_n 3, 1) := by decide +kernel
theorem dX2_passCycle_80 : decode cX2_passCycle 80 = .ok (.invokevirtual 119, 3) := by decide +kernel
theorem dX2_passCycle_83 : decode cX2_passCycle 83 = .ok (.aload_n 0, 1) := by decide +kernel
theorem dX2_passCycle_84 : decode cX2_passCycle 84 = .ok (.iload_n 2, 1) := by decide +kernel
theorem dX2_passCycle_85 : decode cX2_passCycle 85 = .ok (.ifCond .ne 10, 3) := by decide +kernel
theorem dX2_passCycle_88 : decode cX2_passCycle 88 = .ok (.aload_n 0, 1) := by decide +kernel
theorem dX2_passCycle_89 : decode cX2_passCycle 89 = .ok (.getfield 49, 3) := by decide +kernel
theorem dX2_passCycle_92 : decode cX2_passCycle 92 = .ok (.goto 14, 3) := by decide +kernel
theorem dX2_passCycle_95 : decode cX2_passCycle 95 = .ok (.aload_n 0, 1) := by decide +kernel
theorem dX2_passCycle_96 : decode cX2_passCycle 96 = .ok (.getfield 73, 3) := by decide +kernel
theorem dX2_passCycle_99 : decode cX2_passCycle 99 = .ok (.aload_n 0, 1) := by decide +kernel
theorem dX2_passCycle_100 : decode cX2_passCycle 100 = .ok (.getfield 49, 3) := by decide +kernel
theorem dX2_passCycle_103 : decode cX2_passCycle 103 = .ok (.invokestatic 122, 3) := by decide +kernel
theorem dX2_passCycle_106 : decode cX2_passCycle 106 = .ok (.putfield 73, 3) := by decide +kernel
theorem dX2_passCycle_109 : decode cX2_passCycle 109 = .ok (.aload_n 0, 1) := by decide +kernel
theorem dX2_passCycle_110 : decode cX2_passCycle 110 = .ok (.iload_n 2, 1) := by decide +kernel
theorem dX2_passCycle_111 : decode cX2_passCycle 111 = .ok (.ifCond .ne 10, 3) := by decide +kernel
theorem dX2_passCycle_114 : decode cX2_passCycle 114 = .ok (.aload_n 0, 1) := by decide +kernel
theorem dX2_passCycle_115 : decode cX2_passCycle 115 = .ok (.getfield 49, 3) := by decide +kernel
theorem dX2_passCycle_118 : decode cX2_passCycle 118 = .ok (.goto 14, 3) := by decide +kernel
theorem dX2_passCycle_121 : decode cX2_passCycle 121 = .ok (.aload_n 0, 1) := by decide +kernel
theorem dX2_passCycle_122 : decode cX2_passCycle 122 = .ok (.getfield 76, 3) := by decide +kernel
theorem dX2_passCycle_125 : decode cX2_passCycle 125 = .ok (.aload_n 0, 1) := by decide +kernel
theorem dX2_passCycle_126 : decode cX2_passCycle 126 = .ok (.getfield 49, 3) := by decide +kernel
theorem dX2_passCycle_129 : decode cX2_passCycle 129 = .ok (.invokestatic 128, 3) := by decide +kernel
theorem dX2_passCycle_132 : decode cX2_passCycle 132 = .ok (.putfield 76, 3) := by decide +kernel
theorem dX2_passCycle_135 : decode cX2_passCycle 135 = .ok (.iinc 2 1, 3) := by decide +kernel
theorem dX2_passCycle_138 : decode cX2_passCycle 138 = .ok (.goto (-87), 3) := by decide +kernel
theorem dX2_passCycle_141 : decode cX2_passCycle 141 = .ok (.aload_n 0, 1) := by decide +kernel
theorem dX2_passCycle_142 : decode cX2_passCycle 142 = .ok (.iload_n 1, 1) := by decide +kernel
theorem dX2_passCycle_143 : decode cX2_passCycle 143 = .ok (.bipush 20, 2) := by decide +kernel
theorem dX2_passCycle_145 : decode cX2_passCycle 145 = .ok (.idiv, 1) := by decide +kernel
theorem dX2_passCycle_146 : decode cX2_passCycle 146 = .ok (.putfield 70, 3) := by decide +kernel
theorem dX2_passCycle_149 : decode cX2_passCycle 149 = .ok (.aload_n 0, 1) := by decide +kernel
theorem dX2_passCycle_150 : decode cX2_passCycle 150 = .ok (.dup, 1) := by decide +kernel
theorem dX2_passCycle_151 : decode cX2_passCycle 151 = .ok (.getfield 67, 3) := by decide +kernel
theorem dX2_passCycle_154 : decode cX2_passCycle 154 = .ok (.iconst 1, 1) := by decide +kernel
theorem dX2_passCycle_155 : decode cX2_passCycle 155 = .ok (.iadd, 1) := by decide +kernel
theorem dX2_passCycle_156 : decode cX2_passCycle 156 = .ok (.putfield 67, 3) := by decide +kernel
theorem dX2_passCycle_159 : decode cX2_passCycle 159 = .ok (.return_, 1) := by decide +kernel
theorem dX2_moveTarget_0 : decode cX2_moveTarget 0 = .ok (.aload_n 0, 1) := by decide +kernel
theorem dX2_moveTarget_1 : decode cX2_moveTarget 1 = .ok (.getfield 18, 3) := by decide +kernel
theorem dX2_moveTarget_4 : decode cX2_moveTarget 4 = .ok (.iconst 1, 1) := by decide +kernel
theorem dX2_moveTarget_5 : decode cX2_moveTarget 5 = .ok (.iaload, 1) := by decide +kernel
theorem dX2_moveTarget_6 : decode cX2_moveTarget 6 = .ok (.istore_n 1, 1) := by decide +kernel
theorem dX2_moveTarget_7 : decode cX2_moveTarget 7 = .ok (.aload_n 0, 1) := by decide +kernel
theorem dX2_moveTarget_8 : decode cX2_moveTarget 8 = .ok (.getfield 46, 3) := by decide +kernel
theorem dX2_moveTarget_11 : decode cX2_moveTarget 11 = .ok (.iconst 1, 1) := by decide +kernel
theorem dX2_moveTarget_12 : decode cX2_moveTarget 12 = .ok (.if_icmp .ne 33, 3) := by decide +kernel
theorem dX2_moveTarget_15 : decode cX2_moveTarget 15 = .ok (.aload_n 0, 1) := by decide +kernel
theorem dX2_moveTarget_16 : decode cX2_moveTarget 16 = .ok (.dup, 1) := by decide +kernel
theorem dX2_moveTarget_17 : decode cX2_moveTarget 17 = .ok (.getfield 52, 3) := by decide +kernel
theorem dX2_moveTarget_20 : decode cX2_moveTarget 20 = .ok (.aload_n 0, 1) := by decide +kernel
theorem dX2_moveTarget_21 : decode cX2_moveTarget 21 = .ok (.getfield 18, 3) := by decide +kernel
theorem dX2_moveTarget_24 : decode cX2_moveTarget 24 = .ok (.bipush 8, 2) := by decide +kernel
theorem dX2_moveTarget_26 : decode cX2_moveTarget 26 = .ok (.iaload, 1) := by decide +kernel
theorem dX2_moveTarget_27 : decode cX2_moveTarget 27 = .ok (.iadd, 1) := by decide +kernel
theorem dX2_moveTarget_28 : decode cX2_moveTarget 28 = .ok (.putfield 52, 3) := by decide +kernel
theorem dX2_moveTarget_31 : decode cX2_moveTarget 31 = .ok (.aload_n 0, 1) := by decide +kernel
theorem dX2_moveTarget_32 : decode cX2_moveTarget 32 = .ok (.getfield 52, 3) := by decide +kernel
theorem dX2_moveTarget_35 : decode cX2_moveTarget 35 = .ok (.iload_n 1, 1) := by decide +kernel
theorem dX2_moveTarget_36 : decode cX2_moveTarget 36 = .ok (.if_icmp .ge 4, 3) := by decide +kernel
theorem dX2_moveTarget_39 : decode cX2_moveTarget 39 = .ok (.return_, 1) := by decide +kernel
theorem dX2_moveTarget_40 : decode cX2_moveTarget 40 = .ok (.aload_n 0, 1) := by decide +kernel
theorem dX2_moveTarget_41 : decode cX2_moveTarget 41 = .ok (.iconst 2, 1) := by decide +kernel
theorem dX2_moveTarget_42 : decode cX2_moveTarget 42 = .ok (.putfield 46, 3) := by decide +kernel
theorem dX2_moveTarget_45 : decode cX2_moveTarget 45 = .ok (.aload_n 0, 1) := by decide +kernel
theorem dX2_moveTarget_46 : decode cX2_moveTarget 46 = .ok (.iload_n 1, 1) := by decide +kernel
theorem dX2_moveTarget_47 : decode cX2_moveTarget 47 = .ok (.putfield 52, 3) := by decide +kernel
theorem dX2_moveTarget_50 : decode cX2_moveTarget 50 = .ok (.return_, 1) := by decide +kernel
set_option maxRecDepth 20000 in
theorem ggX2_regulate_X4_clamp : GoodIn wsX2_regulate wsX4_clamp := goodIn_r _ [10] rfl (by decide +kernel)
set_option maxRecDepth 20000 in
theorem gX2_regulate_X4_clamp_n133 : GoodIn wsX2_regulate (wsX4_clamp) := ggX2_regulate_X4_clamp
set_option maxRecDepth 20000 in
theorem ggX2_regulate_X4_quotient : GoodIn wsX2_regulate wsX4_quotient := goodIn_r _ [12] rfl (by decide +kernel)
set_option maxRecDepth 20000 in
theorem gX2_regulate_X4_quotient_n137 : GoodIn wsX2_regulate (wsX4_quotient) := ggX2_regulate_X4_quotient
theorem dX2_regulate_0 : decode cX2_regulate 0 = .ok (.aload_n 0, 1) := by decide +kernel
theorem dX2_regulate_1 : decode cX2_regulate 1 = .ok (.getfield 52, 3) := by decide +kernel
theorem dX2_regulate_4 : decode cX2_regulate 4 = .ok (.aload_n 0, 1) := by decide +kernel
theorem dX2_regulate_5 : decode cX2_regulate 5 = .ok (.getfield 49, 3) := by decide +kernel
theorem dX2_regulate_8 : decode cX2_regulate 8 = .ok (.isub, 1) := by decide +kernel
theorem dX2_regulate_9 : decode cX2_regulate 9 = .ok (.istore_n 1, 1) := by decide +kernel
theorem dX2_regulate_10 : decode cX2_regulate 10 = .ok (.aload_n 0, 1) := by decide +kernel
theorem dX2_regulate_11 : decode cX2_regulate 11 = .ok (.aload_n 0, 1) := by decide +kernel
theorem dX2_regulate_12 : decode cX2_regulate 12 = .ok (.getfield 55, 3) := by decide +kernel
theorem dX2_regulate_15 : decode cX2_regulate 15 = .ok (.iload_n 1, 1) := by decide +kernel
theorem dX2_regulate_16 : decode cX2_regulate 16 = .ok (.iadd, 1) := by decide +kernel
theorem dX2_regulate_17 : decode cX2_regulate 17 = .ok (.ldc 131, 2) := by decide +kernel
theorem dX2_regulate_19 : decode cX2_regulate 19 = .ok (.ldc 132, 2) := by decide +kernel
theorem dX2_regulate_21 : decode cX2_regulate 21 = .ok (.invokestatic 133, 3) := by decide +kernel
theorem dX2_regulate_24 : decode cX2_regulate 24 = .ok (.putfield 55, 3) := by decide +kernel
theorem dX2_regulate_27 : decode cX2_regulate 27 = .ok (.sipush 1000, 3) := by decide +kernel
theorem dX2_regulate_30 : decode cX2_regulate 30 = .ok (.aload_n 0, 1) := by decide +kernel
theorem dX2_regulate_31 : decode cX2_regulate 31 = .ok (.getfield 52, 3) := by decide +kernel
theorem dX2_regulate_34 : decode cX2_regulate 34 = .ok (.imul, 1) := by decide +kernel
theorem dX2_regulate_35 : decode cX2_regulate 35 = .ok (.aload_n 0, 1) := by decide +kernel
theorem dX2_regulate_36 : decode cX2_regulate 36 = .ok (.getfield 18, 3) := by decide +kernel
theorem dX2_regulate_39 : decode cX2_regulate 39 = .ok (.iconst 0, 1) := by decide +kernel
theorem dX2_regulate_40 : decode cX2_regulate 40 = .ok (.iaload, 1) := by decide +kernel
theorem dX2_regulate_41 : decode cX2_regulate 41 = .ok (.invokestatic 137, 3) := by decide +kernel
theorem dX2_regulate_44 : decode cX2_regulate 44 = .ok (.istore_n 2, 1) := by decide +kernel
theorem dX2_regulate_45 : decode cX2_regulate 45 = .ok (.iload_n 1, 1) := by decide +kernel
theorem dX2_regulate_46 : decode cX2_regulate 46 = .ok (.aload_n 0, 1) := by decide +kernel
theorem dX2_regulate_47 : decode cX2_regulate 47 = .ok (.getfield 18, 3) := by decide +kernel
theorem dX2_regulate_50 : decode cX2_regulate 50 = .ok (.bipush 6, 2) := by decide +kernel
theorem dX2_regulate_52 : decode cX2_regulate 52 = .ok (.iaload, 1) := by decide +kernel
theorem dX2_regulate_53 : decode cX2_regulate 53 = .ok (.imul, 1) := by decide +kernel
theorem dX2_regulate_54 : decode cX2_regulate 54 = .ok (.bipush 100, 2) := by decide +kernel
theorem dX2_regulate_56 : decode cX2_regulate 56 = .ok (.idiv, 1) := by decide +kernel
theorem dX2_regulate_57 : decode cX2_regulate 57 = .ok (.istore_n 3, 1) := by decide +kernel
theorem dX2_regulate_58 : decode cX2_regulate 58 = .ok (.aload_n 0, 1) := by decide +kernel
theorem dX2_regulate_59 : decode cX2_regulate 59 = .ok (.getfield 55, 3) := by decide +kernel
theorem dX2_regulate_62 : decode cX2_regulate 62 = .ok (.aload_n 0, 1) := by decide +kernel
theorem dX2_regulate_63 : decode cX2_regulate 63 = .ok (.getfield 18, 3) := by decide +kernel
theorem dX2_regulate_66 : decode cX2_regulate 66 = .ok (.bipush 7, 2) := by decide +kernel
theorem dX2_regulate_68 : decode cX2_regulate 68 = .ok (.iaload, 1) := by decide +kernel
theorem dX2_regulate_69 : decode cX2_regulate 69 = .ok (.imul, 1) := by decide +kernel
theorem dX2_regulate_70 : decode cX2_regulate 70 = .ok (.sipush 10000, 3) := by decide +kernel
theorem dX2_regulate_73 : decode cX2_regulate 73 = .ok (.idiv, 1) := by decide +kernel
theorem dX2_regulate_74 : decode cX2_regulate 74 = .ok (.istore 4, 2) := by decide +kernel
theorem dX2_regulate_76 : decode cX2_regulate 76 = .ok (.aload_n 0, 1) := by decide +kernel
theorem dX2_regulate_77 : decode cX2_regulate 77 = .ok (.iload_n 2, 1) := by decide +kernel
theorem dX2_regulate_78 : decode cX2_regulate 78 = .ok (.iload_n 3, 1) := by decide +kernel
theorem dX2_regulate_79 : decode cX2_regulate 79 = .ok (.iadd, 1) := by decide +kernel
theorem dX2_regulate_80 : decode cX2_regulate 80 = .ok (.iload 4, 2) := by decide +kernel
theorem dX2_regulate_82 : decode cX2_regulate 82 = .ok (.iadd, 1) := by decide +kernel
theorem dX2_regulate_83 : decode cX2_regulate 83 = .ok (.iconst 0, 1) := by decide +kernel
theorem dX2_regulate_84 : decode cX2_regulate 84 = .ok (.sipush 900, 3) := by decide +kernel
theorem dX2_regulate_87 : decode cX2_regulate 87 = .ok (.invokestatic 133, 3) := by decide +kernel
theorem dX2_regulate_90 : decode cX2_regulate 90 = .ok (.putfield 58, 3) := by decide +kernel
theorem dX2_regulate_93 : decode cX2_regulate 93 = .ok (.return_, 1) := by decide +kernel
set_option maxRecDepth 20000 in
theorem ggX2_adaptPhases_X2_changeActive : GoodIn wsX2_adaptPhases wsX2_changeActive := goodIn_r _ [13, 1, 5, 6, 14, 15, 16, 17, 18, 19, 20, 21, 22, 23, 24, 25, 26, 27, 28, 29, 30, 31] rfl (by decide +kernel)
set_option maxRecDepth 20000 in
theorem gX2_adaptPhases_X2_changeActive : GoodIn wsX2_adaptPhases (wsV RX2 140 RX2 yX2_changeActive wsX2_changeActive) := goodIn_app (goodIn_r _ [9, 10, 11, 12] rfl (by decide +kernel)) ggX2_adaptPhases_X2_changeActive
theorem dX2_adaptPhases_0 : decode cX2_adaptPhases 0 = .ok (.aload_n 0, 1) := by decide +kernel
theorem dX2_adaptPhases_1 : decode cX2_adaptPhases 1 = .ok (.getfield 34, 3) := by decide +kernel
theorem dX2_adaptPhases_4 : decode cX2_adaptPhases 4 = .ok (.aload_n 0, 1) := by decide +kernel
theorem dX2_adaptPhases_5 : decode cX2_adaptPhases 5 = .ok (.getfield 30, 3) := by decide +kernel
theorem dX2_adaptPhases_8 : decode cX2_adaptPhases 8 = .ok (.if_icmp .ge 26, 3) := by decide +kernel
theorem dX2_adaptPhases_11 : decode cX2_adaptPhases 11 = .ok (.aload_n 0, 1) := by decide +kernel
theorem dX2_adaptPhases_12 : decode cX2_adaptPhases 12 = .ok (.getfield 70, 3) := by decide +kernel
theorem dX2_adaptPhases_15 : decode cX2_adaptPhases 15 = .ok (.aload_n 0, 1) := by decide +kernel
theorem dX2_adaptPhases_16 : decode cX2_adaptPhases 16 = .ok (.getfield 18, 3) := by decide +kernel
theorem dX2_adaptPhases_19 : decode cX2_adaptPhases 19 = .ok (.bipush 10, 2) := by decide +kernel
theorem dX2_adaptPhases_21 : decode cX2_adaptPhases 21 = .ok (.iaload, 1) := by decide +kernel
theorem dX2_adaptPhases_22 : decode cX2_adaptPhases 22 = .ok (.aload_n 0, 1) := by decide +kernel
theorem dX2_adaptPhases_23 : decode cX2_adaptPhases 23 = .ok (.getfield 34, 3) := by decide +kernel
theorem dX2_adaptPhases_26 : decode cX2_adaptPhases 26 = .ok (.imul, 1) := by decide +kernel
theorem dX2_adaptPhases_27 : decode cX2_adaptPhases 27 = .ok (.if_icmp .le 7, 3) := by decide +kernel
theorem dX2_adaptPhases_30 : decode cX2_adaptPhases 30 = .ok (.iconst 1, 1) := by decide +kernel
theorem dX2_adaptPhases_31 : decode cX2_adaptPhases 31 = .ok (.goto 4, 3) := by decide +kernel
theorem dX2_adaptPhases_34 : decode cX2_adaptPhases 34 = .ok (.iconst 0, 1) := by decide +kernel
theorem dX2_adaptPhases_35 : decode cX2_adaptPhases 35 = .ok (.istore_n 1, 1) := by decide +kernel
theorem dX2_adaptPhases_36 : decode cX2_adaptPhases 36 = .ok (.aload_n 0, 1) := by decide +kernel
theorem dX2_adaptPhases_37 : decode cX2_adaptPhases 37 = .ok (.iload_n 1, 1) := by decide +kernel
theorem dX2_adaptPhases_38 : decode cX2_adaptPhases 38 = .ok (.ifCond .eq 12, 3) := by decide +kernel
theorem dX2_adaptPhases_41 : decode cX2_adaptPhases 41 = .ok (.aload_n 0, 1) := by decide +kernel
theorem dX2_adaptPhases_42 : decode cX2_adaptPhases 42 = .ok (.getfield 61, 3) := by decide +kernel
theorem dX2_adaptPhases_45 : decode cX2_adaptPhases 45 = .ok (.iconst 1, 1) := by decide +kernel
theorem dX2_adaptPhases_46 : decode cX2_adaptPhases 46 = .ok (.iadd, 1) := by decide +kernel
theorem dX2_adaptPhases_47 : decode cX2_adaptPhases 47 = .ok (.goto 4, 3) := by decide +kernel
theorem dX2_adaptPhases_50 : decode cX2_adaptPhases 50 = .ok (.iconst 0, 1) := by decide +kernel
theorem dX2_adaptPhases_51 : decode cX2_adaptPhases 51 = .ok (.putfield 61, 3) := by decide +kernel
theorem dX2_adaptPhases_54 : decode cX2_adaptPhases 54 = .ok (.aload_n 0, 1) := by decide +kernel
theorem dX2_adaptPhases_55 : decode cX2_adaptPhases 55 = .ok (.getfield 61, 3) := by decide +kernel
theorem dX2_adaptPhases_58 : decode cX2_adaptPhases 58 = .ok (.iconst 3, 1) := by decide +kernel
theorem dX2_adaptPhases_59 : decode cX2_adaptPhases 59 = .ok (.if_icmp .ne 14, 3) := by decide +kernel
theorem dX2_adaptPhases_62 : decode cX2_adaptPhases 62 = .ok (.aload_n 0, 1) := by decide +kernel
theorem dX2_adaptPhases_63 : decode cX2_adaptPhases 63 = .ok (.aload_n 0, 1) := by decide +kernel
theorem dX2_adaptPhases_64 : decode cX2_adaptPhases 64 = .ok (.getfield 34, 3) := by decide +kernel
theorem dX2_adaptPhases_67 : decode cX2_adaptPhases 67 = .ok (.iconst 1, 1) := by decide +kernel
theorem dX2_adaptPhases_68 : decode cX2_adaptPhases 68 = .ok (.iadd, 1) := by decide +kernel
theorem dX2_adaptPhases_69 : decode cX2_adaptPhases 69 = .ok (.invokevirtual 140, 3) := by decide +kernel
theorem dX2_adaptPhases_72 : decode cX2_adaptPhases 72 = .ok (.return_, 1) := by decide +kernel
theorem dX2_adaptPhases_73 : decode cX2_adaptPhases 73 = .ok (.aload_n 0, 1) := by decide +kernel
theorem dX2_adaptPhases_74 : decode cX2_adaptPhases 74 = .ok (.getfield 34, 3) := by decide +kernel
theorem dX2_adaptPhases_77 : decode cX2_adaptPhases 77 = .ok (.iconst 1, 1) := by decide +kernel
theorem dX2_adaptPhases_78 : decode cX2_adaptPhases 78 = .ok (.if_icmp .le 28, 3) := by decide +kernel
theorem dX2_adaptPhases_81 : decode cX2_adaptPhases 81 = .ok (.aload_n 0, 1) := by decide +kernel
theorem dX2_adaptPhases_82 : decode cX2_adaptPhases 82 = .ok (.getfield 70, 3) := by decide +kernel
theorem dX2_adaptPhases_85 : decode cX2_adaptPhases 85 = .ok (.aload_n 0, 1) := by decide +kernel
theorem dX2_adaptPhases_86 : decode cX2_adaptPhases 86 = .ok (.getfield 18, 3) := by decide +kernel
theorem dX2_adaptPhases_89 : decode cX2_adaptPhases 89 = .ok (.bipush 11, 2) := by decide +kernel
theorem dX2_adaptPhases_91 : decode cX2_adaptPhases 91 = .ok (.iaload, 1) := by decide +kernel
theorem dX2_adaptPhases_92 : decode cX2_adaptPhases 92 = .ok (.aload_n 0, 1) := by decide +kernel
theorem dX2_adaptPhases_93 : decode cX2_adaptPhases 93 = .ok (.getfield 34, 3) := by decide +kernel
theorem dX2_adaptPhases_96 : decode cX2_adaptPhases 96 = .ok (.iconst 1, 1) := by decide +kernel
theorem dX2_adaptPhases_97 : decode cX2_adaptPhases 97 = .ok (.isub, 1) := by decide +kernel
theorem dX2_adaptPhases_98 : decode cX2_adaptPhases 98 = .ok (.imul, 1) := by decide +kernel
theorem dX2_adaptPhases_99 : decode cX2_adaptPhases 99 = .ok (.if_icmp .ge 7, 3) := by decide +kernel
theorem dX2_adaptPhases_102 : decode cX2_adaptPhases 102 = .ok (.iconst 1, 1) := by decide +kernel
theorem dX2_adaptPhases_103 : decode cX2_adaptPhases 103 = .ok (.goto 4, 3) := by decide +kernel
theorem dX2_adaptPhases_106 : decode cX2_adaptPhases 106 = .ok (.iconst 0, 1) := by decide +kernel
theorem dX2_adaptPhases_107 : decode cX2_adaptPhases 107 = .ok (.istore_n 2, 1) := by decide +kernel
theorem dX2_adaptPhases_108 : decode cX2_adaptPhases 108 = .ok (.aload_n 0, 1) := by decide +kernel
theorem dX2_adaptPhases_109 : decode cX2_adaptPhases 109 = .ok (.iload_n 2, 1) := by decide +kernel
theorem dX2_adaptPhases_110 : decode cX2_adaptPhases 110 = .ok (.ifCond .eq 12, 3) := by decide +kernel
theorem dX2_adaptPhases_113 : decode cX2_adaptPhases 113 = .ok (.aload_n 0, 1) := by decide +kernel
theorem dX2_adaptPhases_114 : decode cX2_adaptPhases 114 = .ok (.getfield 64, 3) := by decide +kernel
theorem dX2_adaptPhases_117 : decode cX2_adaptPhases 117 = .ok (.iconst 1, 1) := by decide +kernel
theorem dX2_adaptPhases_118 : decode cX2_adaptPhases 118 = .ok (.iadd, 1) := by decide +kernel
theorem dX2_adaptPhases_119 : decode cX2_adaptPhases 119 = .ok (.goto 4, 3) := by decide +kernel
theorem dX2_adaptPhases_122 : decode cX2_adaptPhases 122 = .ok (.iconst 0, 1) := by decide +kernel
theorem dX2_adaptPhases_123 : decode cX2_adaptPhases 123 = .ok (.putfield 64, 3) := by decide +kernel
theorem dX2_adaptPhases_126 : decode cX2_adaptPhases 126 = .ok (.aload_n 0, 1) := by decide +kernel
theorem dX2_adaptPhases_127 : decode cX2_adaptPhases 127 = .ok (.getfield 64, 3) := by decide +kernel
theorem dX2_adaptPhases_130 : decode cX2_adaptPhases 130 = .ok (.iconst 5, 1) := by decide +kernel
theorem dX2_adaptPhases_131 : decode cX2_adaptPhases 131 = .ok (.if_icmp .ne 45, 3) := by decide +kernel
theorem dX2_adaptPhases_134 : decode cX2_adaptPhases 134 = .ok (.aload_n 0, 1) := by decide +kernel
theorem dX2_adaptPhases_135 : decode cX2_adaptPhases 135 = .ok (.aload_n 0, 1) := by decide +kernel
theorem dX2_adaptPhases_136 : decode cX2_adaptPhases 136 = .ok (.getfield 34, 3) := by decide +kernel
theorem dX2_adaptPhases_139 : decode cX2_adaptPhases 139 = .ok (.iconst 1, 1) := by decide +kernel
theorem dX2_adaptPhases_140 : decode cX2_adaptPhases 140 = .ok (.isub, 1) := by decide +kernel
theorem dX2_adaptPhases_141 : decode cX2_adaptPhases 141 = .ok (.invokevirtual 140, 3) := by decide +kernel
theorem dX2_adaptPhases_144 : decode cX2_adaptPhases 144 = .ok (.aload_n 0, 1) := by decide +kernel
theorem dX2_adaptPhases_145 : decode cX2_adaptPhases 145 = .ok (.getfield 34, 3) := by decide +kernel
theorem dX2_adaptPhases_148 : decode cX2_adaptPhases 148 = .ok (.ifCond .lt 28, 3) := by decide +kernel
theorem dX2_adaptPhases_151 : decode cX2_adaptPhases 151 = .ok (.aload_n 0, 1) := by decide +kernel
theorem dX2_adaptPhases_152 : decode cX2_adaptPhases 152 = .ok (.getfield 34, 3) := by decide +kernel
theorem dX2_adaptPhases_155 : decode cX2_adaptPhases 155 = .ok (.aload_n 0, 1) := by decide +kernel
theorem dX2_adaptPhases_156 : decode cX2_adaptPhases 156 = .ok (.getfield 25, 3) := by decide +kernel
theorem dX2_adaptPhases_159 : decode cX2_adaptPhases 159 = .ok (.arraylength, 1) := by decide +kernel
theorem dX2_adaptPhases_160 : decode cX2_adaptPhases 160 = .ok (.if_icmp .ge 16, 3) := by decide +kernel
theorem dX2_adaptPhases_163 : decode cX2_adaptPhases 163 = .ok (.aload_n 0, 1) := by decide +kernel
theorem dX2_adaptPhases_164 : decode cX2_adaptPhases 164 = .ok (.getfield 25, 3) := by decide +kernel
theorem dX2_adaptPhases_167 : decode cX2_adaptPhases 167 = .ok (.aload_n 0, 1) := by decide +kernel
theorem dX2_adaptPhases_168 : decode cX2_adaptPhases 168 = .ok (.getfield 34, 3) := by decide +kernel
theorem dX2_adaptPhases_171 : decode cX2_adaptPhases 171 = .ok (.aaload, 1) := by decide +kernel
theorem dX2_adaptPhases_172 : decode cX2_adaptPhases 172 = .ok (.iconst 0, 1) := by decide +kernel
theorem dX2_adaptPhases_173 : decode cX2_adaptPhases 173 = .ok (.putfield 92, 3) := by decide +kernel
theorem dX2_adaptPhases_176 : decode cX2_adaptPhases 176 = .ok (.return_, 1) := by decide +kernel
theorem dX2_changeActive_0 : decode cX2_changeActive 0 = .ok (.aload_n 0, 1) := by decide +kernel
theorem dX2_changeActive_1 : decode cX2_changeActive 1 = .ok (.iload_n 1, 1) := by decide +kernel
theorem dX2_changeActive_2 : decode cX2_changeActive 2 = .ok (.putfield 34, 3) := by decide +kernel
theorem dX2_changeActive_5 : decode cX2_changeActive 5 = .ok (.aload_n 0, 1) := by decide +kernel
theorem dX2_changeActive_6 : decode cX2_changeActive 6 = .ok (.iconst 0, 1) := by decide +kernel
theorem dX2_changeActive_7 : decode cX2_changeActive 7 = .ok (.putfield 61, 3) := by decide +kernel
theorem dX2_changeActive_10 : decode cX2_changeActive 10 = .ok (.aload_n 0, 1) := by decide +kernel
theorem dX2_changeActive_11 : decode cX2_changeActive 11 = .ok (.iconst 0, 1) := by decide +kernel
theorem dX2_changeActive_12 : decode cX2_changeActive 12 = .ok (.putfield 64, 3) := by decide +kernel
theorem dX2_changeActive_15 : decode cX2_changeActive 15 = .ok (.aload_n 0, 1) := by decide +kernel
theorem dX2_changeActive_16 : decode cX2_changeActive 16 = .ok (.dup, 1) := by decide +kernel
theorem dX2_changeActive_17 : decode cX2_changeActive 17 = .ok (.getfield 82, 3) := by decide +kernel
theorem dX2_changeActive_20 : decode cX2_changeActive 20 = .ok (.iconst 1, 1) := by decide +kernel
theorem dX2_changeActive_21 : decode cX2_changeActive 21 = .ok (.iadd, 1) := by decide +kernel
theorem dX2_changeActive_22 : decode cX2_changeActive 22 = .ok (.putfield 82, 3) := by decide +kernel
theorem dX2_changeActive_25 : decode cX2_changeActive 25 = .ok (.return_, 1) := by decide +kernel
set_option maxRecDepth 20000 in
theorem ggX2_beginPulses_X4_quotient : GoodIn wsX2_beginPulses wsX4_quotient := goodIn_r _ [5] rfl (by decide +kernel)
set_option maxRecDepth 20000 in
theorem gX2_beginPulses_X4_quotient_n137 : GoodIn wsX2_beginPulses (wsX4_quotient) := ggX2_beginPulses_X4_quotient
set_option maxRecDepth 20000 in
theorem ggX2_beginPulses_X2_beginPulse : GoodIn wsX2_beginPulses wsX2_beginPulse := goodIn_r _ [10, 11, 12, 13, 14, 15, 16, 1, 17, 18, 19, 20, 21, 22, 23, 24, 25, 26, 27, 9, 28, 2, 3, 4, 5, 29, 30, 31, 32, 33, 34, 35, 36, 37, 38, 39, 40, 41, 42, 43, 44, 45, 46, 47, 48, 49, 50, 51, 52, 53, 54, 55, 56, 57, 58, 59, 60] rfl (by decide +kernel)
set_option maxRecDepth 20000 in
theorem gX2_beginPulses_X2_beginPulse : GoodIn wsX2_beginPulses (wsV RX2 143 RX2 yX2_beginPulse wsX2_beginPulse) := goodIn_app (goodIn_r _ [6, 7, 8, 9] rfl (by decide +kernel)) ggX2_beginPulses_X2_beginPulse
theorem dX2_beginPulses_0 : decode cX2_beginPulses 0 = .ok (.iconst 0, 1) := by decide +kernel
theorem dX2_beginPulses_1 : decode cX2_beginPulses 1 = .ok (.istore_n 2, 1) := by decide +kernel
theorem dX2_beginPulses_2 : decode cX2_beginPulses 2 = .ok (.iload_n 2, 1) := by decide +kernel
theorem dX2_beginPulses_3 : decode cX2_beginPulses 3 = .ok (.aload_n 0, 1) := by decide +kernel
theorem dX2_beginPulses_4 : decode cX2_beginPulses 4 = .ok (.getfield 34, 3) := by decide +kernel
theorem dX2_beginPulses_7 : decode cX2_beginPulses 7 = .ok (.if_icmp .ge 43, 3) := by decide +kernel
theorem dX2_beginPulses_10 : decode cX2_beginPulses 10 = .ok (.iload_n 2, 1) := by decide +kernel
theorem dX2_beginPulses_11 : decode cX2_beginPulses 11 = .ok (.aload_n 0, 1) := by decide +kernel
theorem dX2_beginPulses_12 : decode cX2_beginPulses 12 = .ok (.getfield 25, 3) := by decide +kernel
theorem dX2_beginPulses_15 : decode cX2_beginPulses 15 = .ok (.arraylength, 1) := by decide +kernel
theorem dX2_beginPulses_16 : decode cX2_beginPulses 16 = .ok (.if_icmp .ge 34, 3) := by decide +kernel
theorem dX2_beginPulses_19 : decode cX2_beginPulses 19 = .ok (.iload_n 1, 1) := by decide +kernel
theorem dX2_beginPulses_20 : decode cX2_beginPulses 20 = .ok (.bipush 20, 2) := by decide +kernel
theorem dX2_beginPulses_22 : decode cX2_beginPulses 22 = .ok (.iload_n 2, 1) := by decide +kernel
theorem dX2_beginPulses_23 : decode cX2_beginPulses 23 = .ok (.imul, 1) := by decide +kernel
theorem dX2_beginPulses_24 : decode cX2_beginPulses 24 = .ok (.aload_n 0, 1) := by decide +kernel
theorem dX2_beginPulses_25 : decode cX2_beginPulses 25 = .ok (.getfield 34, 3) := by decide +kernel
theorem dX2_beginPulses_28 : decode cX2_beginPulses 28 = .ok (.invokestatic 137, 3) := by decide +kernel
theorem dX2_beginPulses_31 : decode cX2_beginPulses 31 = .ok (.if_icmp .ne 13, 3) := by decide +kernel
theorem dX2_beginPulses_34 : decode cX2_beginPulses 34 = .ok (.aload_n 0, 1) := by decide +kernel
theorem dX2_beginPulses_35 : decode cX2_beginPulses 35 = .ok (.aload_n 0, 1) := by decide +kernel
theorem dX2_beginPulses_36 : decode cX2_beginPulses 36 = .ok (.getfield 25, 3) := by decide +kernel
theorem dX2_beginPulses_39 : decode cX2_beginPulses 39 = .ok (.iload_n 2, 1) := by decide +kernel
theorem dX2_beginPulses_40 : decode cX2_beginPulses 40 = .ok (.aaload, 1) := by decide +kernel
theorem dX2_beginPulses_41 : decode cX2_beginPulses 41 = .ok (.invokevirtual 143, 3) := by decide +kernel
theorem dX2_beginPulses_44 : decode cX2_beginPulses 44 = .ok (.iinc 2 1, 3) := by decide +kernel
theorem dX2_beginPulses_47 : decode cX2_beginPulses 47 = .ok (.goto (-45), 3) := by decide +kernel
theorem dX2_beginPulses_50 : decode cX2_beginPulses 50 = .ok (.return_, 1) := by decide +kernel
set_option maxRecDepth 20000 in
theorem ggX2_beginPulse_X1_skipPulse : GoodIn wsX2_beginPulse wsX1_skipPulse := goodIn_r _ [13, 14, 15, 50, 51, 52, 53, 54, 55, 56] rfl (by decide +kernel)
set_option maxRecDepth 20000 in
theorem gX2_beginPulse_X1_skipPulse : GoodIn wsX2_beginPulse (wsV RX2 146 RX1 yX1_skipPulse wsX1_skipPulse) := goodIn_app (goodIn_r _ [9, 10, 11, 12] rfl (by decide +kernel)) ggX2_beginPulse_X1_skipPulse
set_option maxRecDepth 20000 in
theorem ggX2_beginPulse_X2_activeCurrents : GoodIn wsX2_beginPulse wsX2_activeCurrents := goodIn_r _ [20, 7, 21, 6, 33, 34, 35, 36, 37, 38, 39, 40, 41, 42, 43, 44, 45, 46, 47, 48, 49, 50, 51, 52, 53, 54, 55, 56] rfl (by decide +kernel)
set_option maxRecDepth 20000 in
theorem gX2_beginPulse_X2_activeCurrents : GoodIn wsX2_beginPulse (wsV RX2 152 RX2 yX2_activeCurrents wsX2_activeCurrents) := goodIn_app (goodIn_r _ [16, 17, 18, 19] rfl (by decide +kernel)) ggX2_beginPulse_X2_activeCurrents
set_option maxRecDepth 20000 in
theorem ggX2_beginPulse_X4_quotient : GoodIn wsX2_beginPulse wsX4_quotient := goodIn_r _ [24] rfl (by decide +kernel)
set_option maxRecDepth 20000 in
theorem gX2_beginPulse_X4_quotient_n137 : GoodIn wsX2_beginPulse (wsX4_quotient) := ggX2_beginPulse_X4_quotient
set_option maxRecDepth 20000 in
theorem ggX2_beginPulse_X4_clamp : GoodIn wsX2_beginPulse wsX4_clamp := goodIn_r _ [26] rfl (by decide +kernel)
set_option maxRecDepth 20000 in
theorem gX2_beginPulse_X4_clamp_n133 : GoodIn wsX2_beginPulse (wsX4_clamp) := ggX2_beginPulse_X4_clamp
set_option maxRecDepth 20000 in
theorem ggX2_beginPulse_X1_beginPulse : GoodIn wsX2_beginPulse wsX1_beginPulse := goodIn_r _ [30, 31, 14, 32, 50, 51, 52, 53, 54, 55, 56] rfl (by decide +kernel)
set_option maxRecDepth 20000 in
theorem gX2_beginPulse_X1_beginPulse : GoodIn wsX2_beginPulse (wsV RX2 155 RX1 yX1_beginPulse wsX1_beginPulse) := goodIn_app (goodIn_r _ [27, 28, 29, 12] rfl (by decide +kernel)) ggX2_beginPulse_X1_beginPulse
theorem dX2_beginPulse_0 : decode cX2_beginPulse 0 = .ok (.aload_n 0, 1) := by decide +kernel
theorem dX2_beginPulse_1 : decode cX2_beginPulse 1 = .ok (.getfield 46, 3) := by decide +kernel
theorem dX2_beginPulse_4 : decode cX2_beginPulse 4 = .ok (.iconst 1, 1) := by decide +kernel
theorem dX2_beginPulse_5 : decode cX2_beginPulse 5 = .ok (.if_icmp .eq 17, 3) := by decide +kernel
theorem dX2_beginPulse_8 : decode cX2_beginPulse 8 = .ok (.aload_n 0, 1) := by decide +kernel
theorem dX2_beginPulse_9 : decode cX2_beginPulse 9 = .ok (.getfield 70, 3) := by decide +kernel
theorem dX2_beginPulse_12 : decode cX2_beginPulse 12 = .ok (.aload_n 0, 1) := by decide +kernel
theorem dX2_beginPulse_13 : decode cX2_beginPulse 13 = .ok (.getfield 18, 3) := by decide +kernel
theorem dX2_beginPulse_16 : decode cX2_beginPulse 16 = .ok (.bipush 9, 2) := by decide +kernel
theorem dX2_beginPulse_18 : decode cX2_beginPulse 18 = .ok (.iaload, 1) := by decide +kernel
theorem dX2_beginPulse_19 : decode cX2_beginPulse 19 = .ok (.if_icmp .ge 7, 3) := by decide +kernel
theorem dX2_beginPulse_22 : decode cX2_beginPulse 22 = .ok (.iconst 1, 1) := by decide +kernel
theorem dX2_beginPulse_23 : decode cX2_beginPulse 23 = .ok (.goto 4, 3) := by decide +kernel
theorem dX2_beginPulse_26 : decode cX2_beginPulse 26 = .ok (.iconst 0, 1) := by decide +kernel
theorem dX2_beginPulse_27 : decode cX2_beginPulse 27 = .ok (.istore_n 2, 1) := by decide +kernel
theorem dX2_beginPulse_28 : decode cX2_beginPulse 28 = .ok (.aload_n 0, 1) := by decide +kernel
theorem dX2_beginPulse_29 : decode cX2_beginPulse 29 = .ok (.getfield 49, 3) := by decide +kernel
theorem dX2_beginPulse_32 : decode cX2_beginPulse 32 = .ok (.aload_n 0, 1) := by decide +kernel
theorem dX2_beginPulse_33 : decode cX2_beginPulse 33 = .ok (.getfield 52, 3) := by decide +kernel
theorem dX2_beginPulse_36 : decode cX2_beginPulse 36 = .ok (.if_icmp .lt 12, 3) := by decide +kernel
theorem dX2_beginPulse_39 : decode cX2_beginPulse 39 = .ok (.iload_n 2, 1) := by decide +kernel
theorem dX2_beginPulse_40 : decode cX2_beginPulse 40 = .ok (.ifCond .eq 8, 3) := by decide +kernel
theorem dX2_beginPulse_43 : decode cX2_beginPulse 43 = .ok (.aload_n 1, 1) := by decide +kernel
theorem dX2_beginPulse_44 : decode cX2_beginPulse 44 = .ok (.invokevirtual 146, 3) := by decide +kernel
theorem dX2_beginPulse_47 : decode cX2_beginPulse 47 = .ok (.return_, 1) := by decide +kernel
theorem dX2_beginPulse_48 : decode cX2_beginPulse 48 = .ok (.aload_n 1, 1) := by decide +kernel
theorem dX2_beginPulse_49 : decode cX2_beginPulse 49 = .ok (.getfield 149, 3) := by decide +kernel
theorem dX2_beginPulse_52 : decode cX2_beginPulse 52 = .ok (.aload_n 0, 1) := by decide +kernel
theorem dX2_beginPulse_53 : decode cX2_beginPulse 53 = .ok (.invokevirtual 152, 3) := by decide +kernel
theorem dX2_beginPulse_56 : decode cX2_beginPulse 56 = .ok (.aload_n 0, 1) := by decide +kernel
theorem dX2_beginPulse_57 : decode cX2_beginPulse 57 = .ok (.getfield 34, 3) := by decide +kernel
theorem dX2_beginPulse_60 : decode cX2_beginPulse 60 = .ok (.invokestatic 137, 3) := by decide +kernel
theorem dX2_beginPulse_63 : decode cX2_beginPulse 63 = .ok (.isub, 1) := by decide +kernel
theorem dX2_beginPulse_64 : decode cX2_beginPulse 64 = .ok (.istore_n 3, 1) := by decide +kernel
theorem dX2_beginPulse_65 : decode cX2_beginPulse 65 = .ok (.aload_n 0, 1) := by decide +kernel
theorem dX2_beginPulse_66 : decode cX2_beginPulse 66 = .ok (.getfield 58, 3) := by decide +kernel
theorem dX2_beginPulse_69 : decode cX2_beginPulse 69 = .ok (.iload_n 3, 1) := by decide +kernel
theorem dX2_beginPulse_70 : decode cX2_beginPulse 70 = .ok (.aload_n 0, 1) := by decide +kernel
theorem dX2_beginPulse_71 : decode cX2_beginPulse 71 = .ok (.getfield 18, 3) := by decide +kernel
theorem dX2_beginPulse_74 : decode cX2_beginPulse 74 = .ok (.bipush 14, 2) := by decide +kernel
theorem dX2_beginPulse_76 : decode cX2_beginPulse 76 = .ok (.iaload, 1) := by decide +kernel
theorem dX2_beginPulse_77 : decode cX2_beginPulse 77 = .ok (.imul, 1) := by decide +kernel
theorem dX2_beginPulse_78 : decode cX2_beginPulse 78 = .ok (.sipush 1000, 3) := by decide +kernel
theorem dX2_beginPulse_81 : decode cX2_beginPulse 81 = .ok (.idiv, 1) := by decide +kernel
theorem dX2_beginPulse_82 : decode cX2_beginPulse 82 = .ok (.isub, 1) := by decide +kernel
theorem dX2_beginPulse_83 : decode cX2_beginPulse 83 = .ok (.istore 4, 2) := by decide +kernel
theorem dX2_beginPulse_85 : decode cX2_beginPulse 85 = .ok (.aload_n 1, 1) := by decide +kernel
theorem dX2_beginPulse_86 : decode cX2_beginPulse 86 = .ok (.iload 4, 2) := by decide +kernel
theorem dX2_beginPulse_88 : decode cX2_beginPulse 88 = .ok (.iconst 0, 1) := by decide +kernel
theorem dX2_beginPulse_89 : decode cX2_beginPulse 89 = .ok (.sipush 900, 3) := by decide +kernel
theorem dX2_beginPulse_92 : decode cX2_beginPulse 92 = .ok (.invokestatic 133, 3) := by decide +kernel
theorem dX2_beginPulse_95 : decode cX2_beginPulse 95 = .ok (.invokevirtual 155, 3) := by decide +kernel
theorem dX2_beginPulse_98 : decode cX2_beginPulse 98 = .ok (.return_, 1) := by decide +kernel
theorem dX2_activeCurrents_0 : decode cX2_activeCurrents 0 = .ok (.iconst 0, 1) := by decide +kernel
theorem dX2_activeCurrents_1 : decode cX2_activeCurrents 1 = .ok (.istore_n 1, 1) := by decide +kernel
theorem dX2_activeCurrents_2 : decode cX2_activeCurrents 2 = .ok (.iconst 0, 1) := by decide +kernel
theorem dX2_activeCurrents_3 : decode cX2_activeCurrents 3 = .ok (.istore_n 2, 1) := by decide +kernel
theorem dX2_activeCurrents_4 : decode cX2_activeCurrents 4 = .ok (.iload_n 2, 1) := by decide +kernel
theorem dX2_activeCurrents_5 : decode cX2_activeCurrents 5 = .ok (.aload_n 0, 1) := by decide +kernel
theorem dX2_activeCurrents_6 : decode cX2_activeCurrents 6 = .ok (.getfield 34, 3) := by decide +kernel
theorem dX2_activeCurrents_9 : decode cX2_activeCurrents 9 = .ok (.if_icmp .ge 30, 3) := by decide +kernel
theorem dX2_activeCurrents_12 : decode cX2_activeCurrents 12 = .ok (.iload_n 2, 1) := by decide +kernel
theorem dX2_activeCurrents_13 : decode cX2_activeCurrents 13 = .ok (.aload_n 0, 1) := by decide +kernel
theorem dX2_activeCurrents_14 : decode cX2_activeCurrents 14 = .ok (.getfield 25, 3) := by decide +kernel
theorem dX2_activeCurrents_17 : decode cX2_activeCurrents 17 = .ok (.arraylength, 1) := by decide +kernel
theorem dX2_activeCurrents_18 : decode cX2_activeCurrents 18 = .ok (.if_icmp .ge 21, 3) := by decide +kernel
theorem dX2_activeCurrents_21 : decode cX2_activeCurrents 21 = .ok (.iload_n 1, 1) := by decide +kernel
theorem dX2_activeCurrents_22 : decode cX2_activeCurrents 22 = .ok (.aload_n 0, 1) := by decide +kernel
theorem dX2_activeCurrents_23 : decode cX2_activeCurrents 23 = .ok (.getfield 25, 3) := by decide +kernel
theorem dX2_activeCurrents_26 : decode cX2_activeCurrents 26 = .ok (.iload_n 2, 1) := by decide +kernel
theorem dX2_activeCurrents_27 : decode cX2_activeCurrents 27 = .ok (.aaload, 1) := by decide +kernel
theorem dX2_activeCurrents_28 : decode cX2_activeCurrents 28 = .ok (.getfield 149, 3) := by decide +kernel
theorem dX2_activeCurrents_31 : decode cX2_activeCurrents 31 = .ok (.iadd, 1) := by decide +kernel
theorem dX2_activeCurrents_32 : decode cX2_activeCurrents 32 = .ok (.istore_n 1, 1) := by decide +kernel
theorem dX2_activeCurrents_33 : decode cX2_activeCurrents 33 = .ok (.iinc 2 1, 3) := by decide +kernel
theorem dX2_activeCurrents_36 : decode cX2_activeCurrents 36 = .ok (.goto (-32), 3) := by decide +kernel
theorem dX2_activeCurrents_39 : decode cX2_activeCurrents 39 = .ok (.iload_n 1, 1) := by decide +kernel
theorem dX2_activeCurrents_40 : decode cX2_activeCurrents 40 = .ok (.ireturn, 1) := by decide +kernel
set_option maxRecDepth 20000 in
theorem ggX2_moveCurrents_X4_quotient : GoodIn wsX2_moveCurrents wsX4_quotient := goodIn_r _ [13] rfl (by decide +kernel)
set_option maxRecDepth 20000 in
theorem gX2_moveCurrents_X4_quotient_n137 : GoodIn wsX2_moveCurrents (wsX4_quotient) := ggX2_moveCurrents_X4_quotient
set_option maxRecDepth 20000 in
theorem ggX2_moveCurrents_X1_passSlot : GoodIn wsX2_moveCurrents wsX1_passSlot := goodIn_r _ [18, 19, 20, 21, 22, 40, 41, 42, 43, 44, 45, 46] rfl (by decide +kernel)
set_option maxRecDepth 20000 in
theorem gX2_moveCurrents_X1_passSlot : GoodIn wsX2_moveCurrents (wsV RX2 157 RX1 yX1_passSlot wsX1_passSlot) := goodIn_app (goodIn_r _ [14, 15, 16, 17] rfl (by decide +kernel)) ggX2_moveCurrents_X1_passSlot
theorem dX2_moveCurrents_0 : decode cX2_moveCurrents 0 = .ok (.aload_n 0, 1) := by decide +kernel
theorem dX2_moveCurrents_1 : decode cX2_moveCurrents 1 = .ok (.getfield 18, 3) := by decide +kernel
theorem dX2_moveCurrents_4 : decode cX2_moveCurrents 4 = .ok (.iconst 5, 1) := by decide +kernel
theorem dX2_moveCurrents_5 : decode cX2_moveCurrents 5 = .ok (.iaload, 1) := by decide +kernel
theorem dX2_moveCurrents_6 : decode cX2_moveCurrents 6 = .ok (.istore_n 1, 1) := by decide +kernel
theorem dX2_moveCurrents_7 : decode cX2_moveCurrents 7 = .ok (.aload_n 0, 1) := by decide +kernel
theorem dX2_moveCurrents_8 : decode cX2_moveCurrents 8 = .ok (.getfield 18, 3) := by decide +kernel
theorem dX2_moveCurrents_11 : decode cX2_moveCurrents 11 = .ok (.iconst 0, 1) := by decide +kernel
theorem dX2_moveCurrents_12 : decode cX2_moveCurrents 12 = .ok (.iaload, 1) := by decide +kernel
theorem dX2_moveCurrents_13 : decode cX2_moveCurrents 13 = .ok (.aload_n 0, 1) := by decide +kernel
theorem dX2_moveCurrents_14 : decode cX2_moveCurrents 14 = .ok (.getfield 49, 3) := by decide +kernel
theorem dX2_moveCurrents_17 : decode cX2_moveCurrents 17 = .ok (.isub, 1) := by decide +kernel
theorem dX2_moveCurrents_18 : decode cX2_moveCurrents 18 = .ok (.aload_n 0, 1) := by decide +kernel
theorem dX2_moveCurrents_19 : decode cX2_moveCurrents 19 = .ok (.getfield 18, 3) := by decide +kernel
theorem dX2_moveCurrents_22 : decode cX2_moveCurrents 22 = .ok (.iconst 3, 1) := by decide +kernel
theorem dX2_moveCurrents_23 : decode cX2_moveCurrents 23 = .ok (.iaload, 1) := by decide +kernel
theorem dX2_moveCurrents_24 : decode cX2_moveCurrents 24 = .ok (.invokestatic 137, 3) := by decide +kernel
theorem dX2_moveCurrents_27 : decode cX2_moveCurrents 27 = .ok (.istore_n 2, 1) := by decide +kernel
theorem dX2_moveCurrents_28 : decode cX2_moveCurrents 28 = .ok (.aload_n 0, 1) := by decide +kernel
theorem dX2_moveCurrents_29 : decode cX2_moveCurrents 29 = .ok (.getfield 49, 3) := by decide +kernel
theorem dX2_moveCurrents_32 : decode cX2_moveCurrents 32 = .ok (.aload_n 0, 1) := by decide +kernel
theorem dX2_moveCurrents_33 : decode cX2_moveCurrents 33 = .ok (.getfield 18, 3) := by decide +kernel
theorem dX2_moveCurrents_36 : decode cX2_moveCurrents 36 = .ok (.iconst 3, 1) := by decide +kernel
theorem dX2_moveCurrents_37 : decode cX2_moveCurrents 37 = .ok (.iaload, 1) := by decide +kernel
theorem dX2_moveCurrents_38 : decode cX2_moveCurrents 38 = .ok (.invokestatic 137, 3) := by decide +kernel
theorem dX2_moveCurrents_41 : decode cX2_moveCurrents 41 = .ok (.istore_n 3, 1) := by decide +kernel
theorem dX2_moveCurrents_42 : decode cX2_moveCurrents 42 = .ok (.iconst 0, 1) := by decide +kernel
theorem dX2_moveCurrents_43 : decode cX2_moveCurrents 43 = .ok (.istore 4, 2) := by decide +kernel
theorem dX2_moveCurrents_45 : decode cX2_moveCurrents 45 = .ok (.iconst 0, 1) := by decide +kernel
theorem dX2_moveCurrents_46 : decode cX2_moveCurrents 46 = .ok (.istore 5, 2) := by decide +kernel
theorem dX2_moveCurrents_48 : decode cX2_moveCurrents 48 = .ok (.iload 5, 2) := by decide +kernel
theorem dX2_moveCurrents_50 : decode cX2_moveCurrents 50 = .ok (.aload_n 0, 1) := by decide +kernel
theorem dX2_moveCurrents_51 : decode cX2_moveCurrents 51 = .ok (.getfield 30, 3) := by decide +kernel
theorem dX2_moveCurrents_54 : decode cX2_moveCurrents 54 = .ok (.if_icmp .ge 62, 3) := by decide +kernel
theorem dX2_moveCurrents_57 : decode cX2_moveCurrents 57 = .ok (.iload 5, 2) := by decide +kernel
theorem dX2_moveCurrents_59 : decode cX2_moveCurrents 59 = .ok (.aload_n 0, 1) := by decide +kernel
theorem dX2_moveCurrents_60 : decode cX2_moveCurrents 60 = .ok (.getfield 25, 3) := by decide +kernel
theorem dX2_moveCurrents_63 : decode cX2_moveCurrents 63 = .ok (.arraylength, 1) := by decide +kernel
theorem dX2_moveCurrents_64 : decode cX2_moveCurrents 64 = .ok (.if_icmp .ge 52, 3) := by decide +kernel
theorem dX2_moveCurrents_67 : decode cX2_moveCurrents 67 = .ok (.aload_n 0, 1) := by decide +kernel
theorem dX2_moveCurrents_68 : decode cX2_moveCurrents 68 = .ok (.getfield 25, 3) := by decide +kernel
theorem dX2_moveCurrents_71 : decode cX2_moveCurrents 71 = .ok (.iload 5, 2) := by decide +kernel
theorem dX2_moveCurrents_73 : decode cX2_moveCurrents 73 = .ok (.aaload, 1) := by decide +kernel
theorem dX2_moveCurrents_74 : decode cX2_moveCurrents 74 = .ok (.astore 6, 2) := by decide +kernel
theorem dX2_moveCurrents_76 : decode cX2_moveCurrents 76 = .ok (.aload 6, 2) := by decide +kernel
theorem dX2_moveCurrents_78 : decode cX2_moveCurrents 78 = .ok (.iload_n 1, 1) := by decide +kernel
theorem dX2_moveCurrents_79 : decode cX2_moveCurrents 79 = .ok (.iload_n 2, 1) := by decide +kernel
theorem dX2_moveCurrents_80 : decode cX2_moveCurrents 80 = .ok (.iload_n 3, 1) := by decide +kernel
theorem dX2_moveCurrents_81 : decode cX2_moveCurrents 81 = .ok (.invokevirtual 157, 3) := by decide +kernel
theorem dX2_moveCurrents_84 : decode cX2_moveCurrents 84 = .ok (.iload 4, 2) := by decide +kernel
theorem dX2_moveCurrents_86 : decode cX2_moveCurrents 86 = .ok (.aload 6, 2) := by decide +kernel
theorem dX2_moveCurrents_88 : decode cX2_moveCurrents 88 = .ok (.getfield 149, 3) := by decide +kernel
theorem dX2_moveCurrents_91 : decode cX2_moveCurrents 91 = .ok (.iadd, 1) := by decide +kernel
theorem dX2_moveCurrents_92 : decode cX2_moveCurrents 92 = .ok (.istore 4, 2) := by decide +kernel
theorem dX2_moveCurrents_94 : decode cX2_moveCurrents 94 = .ok (.aload_n 0, 1) := by decide +kernel
theorem dX2_moveCurrents_95 : decode cX2_moveCurrents 95 = .ok (.aload_n 0, 1) := by decide +kernel
theorem dX2_moveCurrents_96 : decode cX2_moveCurrents 96 = .ok (.getfield 79, 3) := by decide +kernel
theorem dX2_moveCurrents_99 : decode cX2_moveCurrents 99 = .ok (.aload 6, 2) := by decide +kernel
theorem dX2_moveCurrents_101 : decode cX2_moveCurrents 101 = .ok (.getfield 149, 3) := by decide +kernel
theorem dX2_moveCurrents_104 : decode cX2_moveCurrents 104 = .ok (.invokestatic 128, 3) := by decide +kernel
theorem dX2_moveCurrents_107 : decode cX2_moveCurrents 107 = .ok (.putfield 79, 3) := by decide +kernel
theorem dX2_moveCurrents_110 : decode cX2_moveCurrents 110 = .ok (.iinc 5 1, 3) := by decide +kernel
theorem dX2_moveCurrents_113 : decode cX2_moveCurrents 113 = .ok (.goto (-65), 3) := by decide +kernel
theorem dX2_moveCurrents_116 : decode cX2_moveCurrents 116 = .ok (.iload 4, 2) := by decide +kernel
theorem dX2_moveCurrents_118 : decode cX2_moveCurrents 118 = .ok (.ireturn, 1) := by decide +kernel
set_option maxRecDepth 20000 in
theorem ggX2_moveVoltage_X4_quotient : GoodIn wsX2_moveVoltage wsX4_quotient := goodIn_r _ [6] rfl (by decide +kernel)
set_option maxRecDepth 20000 in
theorem gX2_moveVoltage_X4_quotient_n137 : GoodIn wsX2_moveVoltage (wsX4_quotient) := ggX2_moveVoltage_X4_quotient
set_option maxRecDepth 20000 in
theorem ggX2_moveVoltage_X4_clamp : GoodIn wsX2_moveVoltage wsX4_clamp := goodIn_r _ [8] rfl (by decide +kernel)
set_option maxRecDepth 20000 in
theorem gX2_moveVoltage_X4_clamp_n133 : GoodIn wsX2_moveVoltage (wsX4_clamp) := ggX2_moveVoltage_X4_clamp
set_option maxRecDepth 20000 in
theorem ggX2_moveVoltage_X2_runs : GoodIn wsX2_moveVoltage wsX2_runs := goodIn_r _ [13, 14, 21, 22, 23, 24, 25, 26, 27, 28, 29, 30, 31, 32, 33, 34, 35, 36, 37] rfl (by decide +kernel)
set_option maxRecDepth 20000 in
theorem gX2_moveVoltage_X2_runs : GoodIn wsX2_moveVoltage (wsV RX2 95 RX2 yX2_runs wsX2_runs) := goodIn_app (goodIn_r _ [9, 10, 11, 12] rfl (by decide +kernel)) ggX2_moveVoltage_X2_runs
set_option maxRecDepth 20000 in
theorem ggX2_moveVoltage_X2_halt : GoodIn wsX2_moveVoltage wsX2_halt := goodIn_r _ [18, 14, 19, 20, 21, 22, 23, 24, 25, 26, 27, 28, 29, 30, 31, 32, 33, 34, 35, 36, 37, 38, 39, 40, 41, 42, 43, 44] rfl (by decide +kernel)
set_option maxRecDepth 20000 in
theorem gX2_moveVoltage_X2_halt : GoodIn wsX2_moveVoltage (wsV RX2 99 RX2 yX2_halt wsX2_halt) := goodIn_app (goodIn_r _ [15, 16, 17, 12] rfl (by decide +kernel)) ggX2_moveVoltage_X2_halt
theorem dX2_moveVoltage_0 : decode cX2_moveVoltage 0 = .ok (.iload_n 1, 1) := by decide +kernel
theorem dX2_moveVoltage_1 : decode cX2_moveVoltage 1 = .ok (.aload_n 0, 1) := by decide +kernel
theorem dX2_moveVoltage_2 : decode cX2_moveVoltage 2 = .ok (.getfield 18, 3) := by decide +kernel
theorem dX2_moveVoltage_5 : decode cX2_moveVoltage 5 = .ok (.iconst 2, 1) := by decide +kernel
theorem dX2_moveVoltage_6 : decode cX2_moveVoltage 6 = .ok (.iaload, 1) := by decide +kernel
theorem dX2_moveVoltage_7 : decode cX2_moveVoltage 7 = .ok (.isub, 1) := by decide +kernel
theorem dX2_moveVoltage_8 : decode cX2_moveVoltage 8 = .ok (.aload_n 0, 1) := by decide +kernel
theorem dX2_moveVoltage_9 : decode cX2_moveVoltage 9 = .ok (.getfield 18, 3) := by decide +kernel
theorem dX2_moveVoltage_12 : decode cX2_moveVoltage 12 = .ok (.iconst 4, 1) := by decide +kernel
theorem dX2_moveVoltage_13 : decode cX2_moveVoltage 13 = .ok (.iaload, 1) := by decide +kernel
theorem dX2_moveVoltage_14 : decode cX2_moveVoltage 14 = .ok (.invokestatic 137, 3) := by decide +kernel
theorem dX2_moveVoltage_17 : decode cX2_moveVoltage 17 = .ok (.istore_n 2, 1) := by decide +kernel
theorem dX2_moveVoltage_18 : decode cX2_moveVoltage 18 = .ok (.aload_n 0, 1) := by decide +kernel
theorem dX2_moveVoltage_19 : decode cX2_moveVoltage 19 = .ok (.aload_n 0, 1) := by decide +kernel
theorem dX2_moveVoltage_20 : decode cX2_moveVoltage 20 = .ok (.getfield 49, 3) := by decide +kernel
theorem dX2_moveVoltage_23 : decode cX2_moveVoltage 23 = .ok (.iload_n 2, 1) := by decide +kernel
theorem dX2_moveVoltage_24 : decode cX2_moveVoltage 24 = .ok (.iadd, 1) := by decide +kernel
theorem dX2_moveVoltage_25 : decode cX2_moveVoltage 25 = .ok (.iconst 0, 1) := by decide +kernel
theorem dX2_moveVoltage_26 : decode cX2_moveVoltage 26 = .ok (.ldc 161, 2) := by decide +kernel
theorem dX2_moveVoltage_28 : decode cX2_moveVoltage 28 = .ok (.invokestatic 133, 3) := by decide +kernel
theorem dX2_moveVoltage_31 : decode cX2_moveVoltage 31 = .ok (.putfield 49, 3) := by decide +kernel
theorem dX2_moveVoltage_34 : decode cX2_moveVoltage 34 = .ok (.aload_n 0, 1) := by decide +kernel
theorem dX2_moveVoltage_35 : decode cX2_moveVoltage 35 = .ok (.invokevirtual 95, 3) := by decide +kernel
theorem dX2_moveVoltage_38 : decode cX2_moveVoltage 38 = .ok (.ifCond .eq 22, 3) := by decide +kernel
theorem dX2_moveVoltage_41 : decode cX2_moveVoltage 41 = .ok (.aload_n 0, 1) := by decide +kernel
theorem dX2_moveVoltage_42 : decode cX2_moveVoltage 42 = .ok (.getfield 49, 3) := by decide +kernel
theorem dX2_moveVoltage_45 : decode cX2_moveVoltage 45 = .ok (.aload_n 0, 1) := by decide +kernel
theorem dX2_moveVoltage_46 : decode cX2_moveVoltage 46 = .ok (.getfield 18, 3) := by decide +kernel
theorem dX2_moveVoltage_49 : decode cX2_moveVoltage 49 = .ok (.bipush 12, 2) := by decide +kernel
theorem dX2_moveVoltage_51 : decode cX2_moveVoltage 51 = .ok (.iaload, 1) := by decide +kernel
theorem dX2_moveVoltage_52 : decode cX2_moveVoltage 52 = .ok (.if_icmp .le 8, 3) := by decide +kernel
theorem dX2_moveVoltage_55 : decode cX2_moveVoltage 55 = .ok (.aload_n 0, 1) := by decide +kernel
theorem dX2_moveVoltage_56 : decode cX2_moveVoltage 56 = .ok (.iconst 3, 1) := by decide +kernel
theorem dX2_moveVoltage_57 : decode cX2_moveVoltage 57 = .ok (.invokevirtual 99, 3) := by decide +kernel
theorem dX2_moveVoltage_60 : decode cX2_moveVoltage 60 = .ok (.return_, 1) := by decide +kernel
theorem dX2_limitEvents_0 : decode cX2_limitEvents 0 = .ok (.iconst 0, 1) := by decide +kernel
theorem dX2_limitEvents_1 : decode cX2_limitEvents 1 = .ok (.istore_n 1, 1) := by decide +kernel
theorem dX2_limitEvents_2 : decode cX2_limitEvents 2 = .ok (.iconst 0, 1) := by decide +kernel
theorem dX2_limitEvents_3 : decode cX2_limitEvents 3 = .ok (.istore_n 2, 1) := by decide +kernel
theorem dX2_limitEvents_4 : decode cX2_limitEvents 4 = .ok (.iload_n 2, 1) := by decide +kernel
theorem dX2_limitEvents_5 : decode cX2_limitEvents 5 = .ok (.aload_n 0, 1) := by decide +kernel
theorem dX2_limitEvents_6 : decode cX2_limitEvents 6 = .ok (.getfield 30, 3) := by decide +kernel
theorem dX2_limitEvents_9 : decode cX2_limitEvents 9 = .ok (.if_icmp .ge 30, 3) := by decide +kernel
theorem dX2_limitEvents_12 : decode cX2_limitEvents 12 = .ok (.iload_n 2, 1) := by decide +kernel
theorem dX2_limitEvents_13 : decode cX2_limitEvents 13 = .ok (.aload_n 0, 1) := by decide +kernel
theorem dX2_limitEvents_14 : decode cX2_limitEvents 14 = .ok (.getfield 25, 3) := by decide +kernel
theorem dX2_limitEvents_17 : decode cX2_limitEvents 17 = .ok (.arraylength, 1) := by decide +kernel
theorem dX2_limitEvents_18 : decode cX2_limitEvents 18 = .ok (.if_icmp .ge 21, 3) := by decide +kernel
theorem dX2_limitEvents_21 : decode cX2_limitEvents 21 = .ok (.iload_n 1, 1) := by decide +kernel
theorem dX2_limitEvents_22 : decode cX2_limitEvents 22 = .ok (.aload_n 0, 1) := by decide +kernel
theorem dX2_limitEvents_23 : decode cX2_limitEvents 23 = .ok (.getfield 25, 3) := by decide +kernel
theorem dX2_limitEvents_26 : decode cX2_limitEvents 26 = .ok (.iload_n 2, 1) := by decide +kernel
theorem dX2_limitEvents_27 : decode cX2_limitEvents 27 = .ok (.aaload, 1) := by decide +kernel
theorem dX2_limitEvents_28 : decode cX2_limitEvents 28 = .ok (.getfield 162, 3) := by decide +kernel
theorem dX2_limitEvents_31 : decode cX2_limitEvents 31 = .ok (.iadd, 1) := by decide +kernel
theorem dX2_limitEvents_32 : decode cX2_limitEvents 32 = .ok (.istore_n 1, 1) := by decide +kernel
theorem dX2_limitEvents_33 : decode cX2_limitEvents 33 = .ok (.iinc 2 1, 3) := by decide +kernel
theorem dX2_limitEvents_36 : decode cX2_limitEvents 36 = .ok (.goto (-32), 3) := by decide +kernel
theorem dX2_limitEvents_39 : decode cX2_limitEvents 39 = .ok (.iload_n 1, 1) := by decide +kernel
theorem dX2_limitEvents_40 : decode cX2_limitEvents 40 = .ok (.ireturn, 1) := by decide +kernel
theorem dX2_skippedPulses_0 : decode cX2_skippedPulses 0 = .ok (.iconst 0, 1) := by decide +kernel
theorem dX2_skippedPulses_1 : decode cX2_skippedPulses 1 = .ok (.istore_n 1, 1) := by decide +kernel
theorem dX2_skippedPulses_2 : decode cX2_skippedPulses 2 = .ok (.iconst 0, 1) := by decide +kernel
theorem dX2_skippedPulses_3 : decode cX2_skippedPulses 3 = .ok (.istore_n 2, 1) := by decide +kernel
theorem dX2_skippedPulses_4 : decode cX2_skippedPulses 4 = .ok (.iload_n 2, 1) := by decide +kernel
theorem dX2_skippedPulses_5 : decode cX2_skippedPulses 5 = .ok (.aload_n 0, 1) := by decide +kernel
theorem dX2_skippedPulses_6 : decode cX2_skippedPulses 6 = .ok (.getfield 30, 3) := by decide +kernel
theorem dX2_skippedPulses_9 : decode cX2_skippedPulses 9 = .ok (.if_icmp .ge 30, 3) := by decide +kernel
theorem dX2_skippedPulses_12 : decode cX2_skippedPulses 12 = .ok (.iload_n 2, 1) := by decide +kernel
theorem dX2_skippedPulses_13 : decode cX2_skippedPulses 13 = .ok (.aload_n 0, 1) := by decide +kernel
theorem dX2_skippedPulses_14 : decode cX2_skippedPulses 14 = .ok (.getfield 25, 3) := by decide +kernel
theorem dX2_skippedPulses_17 : decode cX2_skippedPulses 17 = .ok (.arraylength, 1) := by decide +kernel
theorem dX2_skippedPulses_18 : decode cX2_skippedPulses 18 = .ok (.if_icmp .ge 21, 3) := by decide +kernel
theorem dX2_skippedPulses_21 : decode cX2_skippedPulses 21 = .ok (.iload_n 1, 1) := by decide +kernel
theorem dX2_skippedPulses_22 : decode cX2_skippedPulses 22 = .ok (.aload_n 0, 1) := by decide +kernel
theorem dX2_skippedPulses_23 : decode cX2_skippedPulses 23 = .ok (.getfield 25, 3) := by decide +kernel
theorem dX2_skippedPulses_26 : decode cX2_skippedPulses 26 = .ok (.iload_n 2, 1) := by decide +kernel
theorem dX2_skippedPulses_27 : decode cX2_skippedPulses 27 = .ok (.aaload, 1) := by decide +kernel
theorem dX2_skippedPulses_28 : decode cX2_skippedPulses 28 = .ok (.getfield 165, 3) := by decide +kernel
theorem dX2_skippedPulses_31 : decode cX2_skippedPulses 31 = .ok (.iadd, 1) := by decide +kernel
theorem dX2_skippedPulses_32 : decode cX2_skippedPulses 32 = .ok (.istore_n 1, 1) := by decide +kernel
theorem dX2_skippedPulses_33 : decode cX2_skippedPulses 33 = .ok (.iinc 2 1, 3) := by decide +kernel
theorem dX2_skippedPulses_36 : decode cX2_skippedPulses 36 = .ok (.goto (-32), 3) := by decide +kernel
theorem dX2_skippedPulses_39 : decode cX2_skippedPulses 39 = .ok (.iload_n 1, 1) := by decide +kernel
theorem dX2_skippedPulses_40 : decode cX2_skippedPulses 40 = .ok (.ireturn, 1) := by decide +kernel
theorem dX2_ripple_0 : decode cX2_ripple 0 = .ok (.aload_n 0, 1) := by decide +kernel
theorem dX2_ripple_1 : decode cX2_ripple 1 = .ok (.getfield 76, 3) := by decide +kernel
theorem dX2_ripple_4 : decode cX2_ripple 4 = .ok (.aload_n 0, 1) := by decide +kernel
theorem dX2_ripple_5 : decode cX2_ripple 5 = .ok (.getfield 73, 3) := by decide +kernel
theorem dX2_ripple_8 : decode cX2_ripple 8 = .ok (.isub, 1) := by decide +kernel
theorem dX2_ripple_9 : decode cX2_ripple 9 = .ok (.ireturn, 1) := by decide +kernel
theorem dX2_currentSpread_0 : decode cX2_currentSpread 0 = .ok (.aload_n 0, 1) := by decide +kernel
theorem dX2_currentSpread_1 : decode cX2_currentSpread 1 = .ok (.getfield 25, 3) := by decide +kernel
theorem dX2_currentSpread_4 : decode cX2_currentSpread 4 = .ok (.iconst 0, 1) := by decide +kernel
theorem dX2_currentSpread_5 : decode cX2_currentSpread 5 = .ok (.aaload, 1) := by decide +kernel
theorem dX2_currentSpread_6 : decode cX2_currentSpread 6 = .ok (.getfield 149, 3) := by decide +kernel
theorem dX2_currentSpread_9 : decode cX2_currentSpread 9 = .ok (.istore_n 1, 1) := by decide +kernel
theorem dX2_currentSpread_10 : decode cX2_currentSpread 10 = .ok (.iload_n 1, 1) := by decide +kernel
theorem dX2_currentSpread_11 : decode cX2_currentSpread 11 = .ok (.istore_n 2, 1) := by decide +kernel
theorem dX2_currentSpread_12 : decode cX2_currentSpread 12 = .ok (.iconst 1, 1) := by decide +kernel
theorem dX2_currentSpread_13 : decode cX2_currentSpread 13 = .ok (.istore_n 3, 1) := by decide +kernel
theorem dX2_currentSpread_14 : decode cX2_currentSpread 14 = .ok (.iload_n 3, 1) := by decide +kernel
theorem dX2_currentSpread_15 : decode cX2_currentSpread 15 = .ok (.aload_n 0, 1) := by decide +kernel
theorem dX2_currentSpread_16 : decode cX2_currentSpread 16 = .ok (.getfield 34, 3) := by decide +kernel
theorem dX2_currentSpread_19 : decode cX2_currentSpread 19 = .ok (.if_icmp .ge 46, 3) := by decide +kernel
theorem dX2_currentSpread_22 : decode cX2_currentSpread 22 = .ok (.iload_n 3, 1) := by decide +kernel
theorem dX2_currentSpread_23 : decode cX2_currentSpread 23 = .ok (.aload_n 0, 1) := by decide +kernel
theorem dX2_currentSpread_24 : decode cX2_currentSpread 24 = .ok (.getfield 25, 3) := by decide +kernel
theorem dX2_currentSpread_27 : decode cX2_currentSpread 27 = .ok (.arraylength, 1) := by decide +kernel
theorem dX2_currentSpread_28 : decode cX2_currentSpread 28 = .ok (.if_icmp .ge 37, 3) := by decide +kernel
theorem dX2_currentSpread_31 : decode cX2_currentSpread 31 = .ok (.iload_n 1, 1) := by decide +kernel
theorem dX2_currentSpread_32 : decode cX2_currentSpread 32 = .ok (.aload_n 0, 1) := by decide +kernel
theorem dX2_currentSpread_33 : decode cX2_currentSpread 33 = .ok (.getfield 25, 3) := by decide +kernel
theorem dX2_currentSpread_36 : decode cX2_currentSpread 36 = .ok (.iload_n 3, 1) := by decide +kernel
theorem dX2_currentSpread_37 : decode cX2_currentSpread 37 = .ok (.aaload, 1) := by decide +kernel
theorem dX2_currentSpread_38 : decode cX2_currentSpread 38 = .ok (.getfield 149, 3) := by decide +kernel
theorem dX2_currentSpread_41 : decode cX2_currentSpread 41 = .ok (.invokestatic 122, 3) := by decide +kernel
theorem dX2_currentSpread_44 : decode cX2_currentSpread 44 = .ok (.istore_n 1, 1) := by decide +kernel
theorem dX2_currentSpread_45 : decode cX2_currentSpread 45 = .ok (.iload_n 2, 1) := by decide +kernel
theorem dX2_currentSpread_46 : decode cX2_currentSpread 46 = .ok (.aload_n 0, 1) := by decide +kernel
theorem dX2_currentSpread_47 : decode cX2_currentSpread 47 = .ok (.getfield 25, 3) := by decide +kernel
theorem dX2_currentSpread_50 : decode cX2_currentSpread 50 = .ok (.iload_n 3, 1) := by decide +kernel
theorem dX2_currentSpread_51 : decode cX2_currentSpread 51 = .ok (.aaload, 1) := by decide +kernel
theorem dX2_currentSpread_52 : decode cX2_currentSpread 52 = .ok (.getfield 149, 3) := by decide +kernel
theorem dX2_currentSpread_55 : decode cX2_currentSpread 55 = .ok (.invokestatic 128, 3) := by decide +kernel
theorem dX2_currentSpread_58 : decode cX2_currentSpread 58 = .ok (.istore_n 2, 1) := by decide +kernel
theorem dX2_currentSpread_59 : decode cX2_currentSpread 59 = .ok (.iinc 3 1, 3) := by decide +kernel
theorem dX2_currentSpread_62 : decode cX2_currentSpread 62 = .ok (.goto (-48), 3) := by decide +kernel
theorem dX2_currentSpread_65 : decode cX2_currentSpread 65 = .ok (.iload_n 2, 1) := by decide +kernel
theorem dX2_currentSpread_66 : decode cX2_currentSpread 66 = .ok (.iload_n 1, 1) := by decide +kernel
theorem dX2_currentSpread_67 : decode cX2_currentSpread 67 = .ok (.isub, 1) := by decide +kernel
theorem dX2_currentSpread_68 : decode cX2_currentSpread 68 = .ok (.ireturn, 1) := by decide +kernel
set_option maxRecDepth 20000 in
theorem ggX2_number_X2_ripple : GoodIn wsX2_number wsX2_ripple := goodIn_r _ [16, 17, 18, 30, 31, 32, 33, 34, 35, 36, 37, 38, 39, 40, 41, 42, 43, 44, 45, 46] rfl (by decide +kernel)
set_option maxRecDepth 20000 in
theorem gX2_number_X2_ripple : GoodIn wsX2_number (wsV RX2 168 RX2 yX2_ripple wsX2_ripple) := goodIn_app (goodIn_r _ [12, 13, 14, 15] rfl (by decide +kernel)) ggX2_number_X2_ripple
set_option maxRecDepth 20000 in
theorem ggX2_number_X2_limitEvents : GoodIn wsX2_number wsX2_limitEvents := goodIn_r _ [22, 11, 23, 24, 30, 31, 32, 33, 34, 35, 36, 37, 38, 39, 40, 41, 42, 43, 44, 45, 46, 47, 48, 49, 50, 51, 52, 53] rfl (by decide +kernel)
set_option maxRecDepth 20000 in
theorem gX2_number_X2_limitEvents : GoodIn wsX2_number (wsV RX2 171 RX2 yX2_limitEvents wsX2_limitEvents) := goodIn_app (goodIn_r _ [19, 20, 21, 15] rfl (by decide +kernel)) ggX2_number_X2_limitEvents
set_option maxRecDepth 20000 in
theorem ggX2_number_X2_skippedPulses : GoodIn wsX2_number wsX2_skippedPulses := goodIn_r _ [28, 11, 23, 29, 30, 31, 32, 33, 34, 35, 36, 37, 38, 39, 40, 41, 42, 43, 44, 45, 46, 47, 48, 49, 50, 51, 52, 53] rfl (by decide +kernel)
set_option maxRecDepth 20000 in
theorem gX2_number_X2_skippedPulses : GoodIn wsX2_number (wsV RX2 173 RX2 yX2_skippedPulses wsX2_skippedPulses) := goodIn_app (goodIn_r _ [25, 26, 27, 15] rfl (by decide +kernel)) ggX2_number_X2_skippedPulses
theorem dX2_number_0 : decode cX2_number 0 = .ok (.iload_n 1, 1) := by decide +kernel
theorem dX2_number_1 : decode cX2_number 1 = .ok (.tableswitch 132 0 12 #[67, 72, 77, 82, 87, 92, 97, 102, 107, 112, 117, 122, 127], 67) := by decide +kernel
theorem dX2_number_68 : decode cX2_number 68 = .ok (.aload_n 0, 1) := by decide +kernel
theorem dX2_number_69 : decode cX2_number 69 = .ok (.getfield 46, 3) := by decide +kernel
theorem dX2_number_72 : decode cX2_number 72 = .ok (.ireturn, 1) := by decide +kernel
theorem dX2_number_73 : decode cX2_number 73 = .ok (.aload_n 0, 1) := by decide +kernel
theorem dX2_number_74 : decode cX2_number 74 = .ok (.getfield 49, 3) := by decide +kernel
theorem dX2_number_77 : decode cX2_number 77 = .ok (.ireturn, 1) := by decide +kernel
theorem dX2_number_78 : decode cX2_number 78 = .ok (.aload_n 0, 1) := by decide +kernel
theorem dX2_number_79 : decode cX2_number 79 = .ok (.getfield 52, 3) := by decide +kernel
theorem dX2_number_82 : decode cX2_number 82 = .ok (.ireturn, 1) := by decide +kernel
theorem dX2_number_83 : decode cX2_number 83 = .ok (.aload_n 0, 1) := by decide +kernel
theorem dX2_number_84 : decode cX2_number 84 = .ok (.getfield 34, 3) := by decide +kernel
theorem dX2_number_87 : decode cX2_number 87 = .ok (.ireturn, 1) := by decide +kernel
theorem dX2_number_88 : decode cX2_number 88 = .ok (.aload_n 0, 1) := by decide +kernel
theorem dX2_number_89 : decode cX2_number 89 = .ok (.getfield 67, 3) := by decide +kernel
theorem dX2_number_92 : decode cX2_number 92 = .ok (.ireturn, 1) := by decide +kernel
theorem dX2_number_93 : decode cX2_number 93 = .ok (.aload_n 0, 1) := by decide +kernel
theorem dX2_number_94 : decode cX2_number 94 = .ok (.getfield 70, 3) := by decide +kernel
theorem dX2_number_97 : decode cX2_number 97 = .ok (.ireturn, 1) := by decide +kernel
theorem dX2_number_98 : decode cX2_number 98 = .ok (.aload_n 0, 1) := by decide +kernel
theorem dX2_number_99 : decode cX2_number 99 = .ok (.getfield 55, 3) := by decide +kernel
theorem dX2_number_102 : decode cX2_number 102 = .ok (.ireturn, 1) := by decide +kernel
theorem dX2_number_103 : decode cX2_number 103 = .ok (.aload_n 0, 1) := by decide +kernel
theorem dX2_number_104 : decode cX2_number 104 = .ok (.getfield 58, 3) := by decide +kernel
theorem dX2_number_107 : decode cX2_number 107 = .ok (.ireturn, 1) := by decide +kernel
theorem dX2_number_108 : decode cX2_number 108 = .ok (.aload_n 0, 1) := by decide +kernel
theorem dX2_number_109 : decode cX2_number 109 = .ok (.invokevirtual 168, 3) := by decide +kernel
theorem dX2_number_112 : decode cX2_number 112 = .ok (.ireturn, 1) := by decide +kernel
theorem dX2_number_113 : decode cX2_number 113 = .ok (.aload_n 0, 1) := by decide +kernel
theorem dX2_number_114 : decode cX2_number 114 = .ok (.invokevirtual 171, 3) := by decide +kernel
theorem dX2_number_117 : decode cX2_number 117 = .ok (.ireturn, 1) := by decide +kernel
theorem dX2_number_118 : decode cX2_number 118 = .ok (.aload_n 0, 1) := by decide +kernel
theorem dX2_number_119 : decode cX2_number 119 = .ok (.invokevirtual 173, 3) := by decide +kernel
theorem dX2_number_122 : decode cX2_number 122 = .ok (.ireturn, 1) := by decide +kernel
theorem dX2_number_123 : decode cX2_number 123 = .ok (.aload_n 0, 1) := by decide +kernel
theorem dX2_number_124 : decode cX2_number 124 = .ok (.getfield 79, 3) := by decide +kernel
theorem dX2_number_127 : decode cX2_number 127 = .ok (.ireturn, 1) := by decide +kernel
theorem dX2_number_128 : decode cX2_number 128 = .ok (.aload_n 0, 1) := by decide +kernel
theorem dX2_number_129 : decode cX2_number 129 = .ok (.getfield 82, 3) := by decide +kernel
theorem dX2_number_132 : decode cX2_number 132 = .ok (.ireturn, 1) := by decide +kernel
theorem dX2_number_133 : decode cX2_number 133 = .ok (.aload_n 0, 1) := by decide +kernel
theorem dX2_number_134 : decode cX2_number 134 = .ok (.getfield 30, 3) := by decide +kernel
theorem dX2_number_137 : decode cX2_number 137 = .ok (.ireturn, 1) := by decide +kernel
theorem dX3_init_0 : decode cX3_init 0 = .ok (.aload_n 0, 1) := by decide +kernel
theorem dX3_init_1 : decode cX3_init 1 = .ok (.invokespecial 3, 3) := by decide +kernel
theorem dX3_init_4 : decode cX3_init 4 = .ok (.aload_n 0, 1) := by decide +kernel
theorem dX3_init_5 : decode cX3_init 5 = .ok (.bipush 50, 2) := by decide +kernel
theorem dX3_init_7 : decode cX3_init 7 = .ok (.newarray .int, 2) := by decide +kernel
theorem dX3_init_9 : decode cX3_init 9 = .ok (.putfield 9, 3) := by decide +kernel
theorem dX3_init_12 : decode cX3_init 12 = .ok (.return_, 1) := by decide +kernel
theorem dX3_take_0 : decode cX3_take 0 = .ok (.aload_n 0, 1) := by decide +kernel
theorem dX3_take_1 : decode cX3_take 1 = .ok (.getfield 15, 3) := by decide +kernel
theorem dX3_take_4 : decode cX3_take 4 = .ok (.ifCond .lt 15, 3) := by decide +kernel
theorem dX3_take_7 : decode cX3_take 7 = .ok (.aload_n 0, 1) := by decide +kernel
theorem dX3_take_8 : decode cX3_take 8 = .ok (.getfield 15, 3) := by decide +kernel
theorem dX3_take_11 : decode cX3_take 11 = .ok (.aload_n 0, 1) := by decide +kernel
theorem dX3_take_12 : decode cX3_take 12 = .ok (.getfield 9, 3) := by decide +kernel
theorem dX3_take_15 : decode cX3_take 15 = .ok (.arraylength, 1) := by decide +kernel
theorem dX3_take_16 : decode cX3_take 16 = .ok (.if_icmp .lt 5, 3) := by decide +kernel
theorem dX3_take_19 : decode cX3_take 19 = .ok (.iconst 0, 1) := by decide +kernel
theorem dX3_take_20 : decode cX3_take 20 = .ok (.ireturn, 1) := by decide +kernel
theorem dX3_take_21 : decode cX3_take 21 = .ok (.aload_n 0, 1) := by decide +kernel
theorem dX3_take_22 : decode cX3_take 22 = .ok (.getfield 9, 3) := by decide +kernel
theorem dX3_take_25 : decode cX3_take 25 = .ok (.aload_n 0, 1) := by decide +kernel
theorem dX3_take_26 : decode cX3_take 26 = .ok (.getfield 15, 3) := by decide +kernel
theorem dX3_take_29 : decode cX3_take 29 = .ok (.iload_n 1, 1) := by decide +kernel
theorem dX3_take_30 : decode cX3_take 30 = .ok (.iastore, 1) := by decide +kernel
theorem dX3_take_31 : decode cX3_take 31 = .ok (.aload_n 0, 1) := by decide +kernel
theorem dX3_take_32 : decode cX3_take 32 = .ok (.dup, 1) := by decide +kernel
theorem dX3_take_33 : decode cX3_take 33 = .ok (.getfield 15, 3) := by decide +kernel
theorem dX3_take_36 : decode cX3_take 36 = .ok (.iconst 1, 1) := by decide +kernel
theorem dX3_take_37 : decode cX3_take 37 = .ok (.iadd, 1) := by decide +kernel
theorem dX3_take_38 : decode cX3_take 38 = .ok (.putfield 15, 3) := by decide +kernel
theorem dX3_take_41 : decode cX3_take 41 = .ok (.iconst 1, 1) := by decide +kernel
theorem dX3_take_42 : decode cX3_take 42 = .ok (.ireturn, 1) := by decide +kernel
theorem dX3_codeAt_0 : decode cX3_codeAt 0 = .ok (.iload_n 1, 1) := by decide +kernel
theorem dX3_codeAt_1 : decode cX3_codeAt 1 = .ok (.ifCond .lt 21, 3) := by decide +kernel
theorem dX3_codeAt_4 : decode cX3_codeAt 4 = .ok (.iload_n 1, 1) := by decide +kernel
theorem dX3_codeAt_5 : decode cX3_codeAt 5 = .ok (.aload_n 0, 1) := by decide +kernel
theorem dX3_codeAt_6 : decode cX3_codeAt 6 = .ok (.getfield 9, 3) := by decide +kernel
theorem dX3_codeAt_9 : decode cX3_codeAt 9 = .ok (.arraylength, 1) := by decide +kernel
theorem dX3_codeAt_10 : decode cX3_codeAt 10 = .ok (.if_icmp .ge 12, 3) := by decide +kernel
theorem dX3_codeAt_13 : decode cX3_codeAt 13 = .ok (.aload_n 0, 1) := by decide +kernel
theorem dX3_codeAt_14 : decode cX3_codeAt 14 = .ok (.getfield 9, 3) := by decide +kernel
theorem dX3_codeAt_17 : decode cX3_codeAt 17 = .ok (.iload_n 1, 1) := by decide +kernel
theorem dX3_codeAt_18 : decode cX3_codeAt 18 = .ok (.iaload, 1) := by decide +kernel
theorem dX3_codeAt_19 : decode cX3_codeAt 19 = .ok (.goto 4, 3) := by decide +kernel
theorem dX3_codeAt_22 : decode cX3_codeAt 22 = .ok (.iconst 0, 1) := by decide +kernel
theorem dX3_codeAt_23 : decode cX3_codeAt 23 = .ok (.ireturn, 1) := by decide +kernel
set_option maxRecDepth 20000 in
theorem ggX3_errorIndex_X3_codeAt : GoodIn wsX3_errorIndex wsX3_codeAt := goodIn_r _ [6, 7, 17, 18] rfl (by decide +kernel)
set_option maxRecDepth 20000 in
theorem gX3_errorIndex_X3_codeAt : GoodIn wsX3_errorIndex (wsV RX3 19 RX3 yX3_codeAt wsX3_codeAt) := goodIn_app (goodIn_r _ [2, 3, 4, 5] rfl (by decide +kernel)) ggX3_errorIndex_X3_codeAt
set_option maxRecDepth 20000 in
theorem ggX3_errorIndex_X3_stateAfter : GoodIn wsX3_errorIndex wsX3_stateAfter := goodIn_r _ [10, 11, 12, 5, 13, 14, 15, 16] rfl (by decide +kernel)
set_option maxRecDepth 20000 in
theorem gX3_errorIndex_X3_stateAfter : GoodIn wsX3_errorIndex (va_wsS RX3 23 yX3_stateAfter wsX3_stateAfter) := goodIn_app (goodIn_r _ [8, 9, 5] rfl (by decide +kernel)) ggX3_errorIndex_X3_stateAfter
theorem dX3_errorIndex_0 : decode cX3_errorIndex 0 = .ok (.iconst 0, 1) := by decide +kernel
theorem dX3_errorIndex_1 : decode cX3_errorIndex 1 = .ok (.istore_n 1, 1) := by decide +kernel
theorem dX3_errorIndex_2 : decode cX3_errorIndex 2 = .ok (.iconst 0, 1) := by decide +kernel
theorem dX3_errorIndex_3 : decode cX3_errorIndex 3 = .ok (.istore_n 2, 1) := by decide +kernel
theorem dX3_errorIndex_4 : decode cX3_errorIndex 4 = .ok (.iload_n 2, 1) := by decide +kernel
theorem dX3_errorIndex_5 : decode cX3_errorIndex 5 = .ok (.aload_n 0, 1) := by decide +kernel
theorem dX3_errorIndex_6 : decode cX3_errorIndex 6 = .ok (.getfield 15, 3) := by decide +kernel
theorem dX3_errorIndex_9 : decode cX3_errorIndex 9 = .ok (.if_icmp .ge 26, 3) := by decide +kernel
theorem dX3_errorIndex_12 : decode cX3_errorIndex 12 = .ok (.iload_n 1, 1) := by decide +kernel
theorem dX3_errorIndex_13 : decode cX3_errorIndex 13 = .ok (.aload_n 0, 1) := by decide +kernel
theorem dX3_errorIndex_14 : decode cX3_errorIndex 14 = .ok (.iload_n 2, 1) := by decide +kernel
theorem dX3_errorIndex_15 : decode cX3_errorIndex 15 = .ok (.invokevirtual 19, 3) := by decide +kernel
theorem dX3_errorIndex_18 : decode cX3_errorIndex 18 = .ok (.invokestatic 23, 3) := by decide +kernel
theorem dX3_errorIndex_21 : decode cX3_errorIndex 21 = .ok (.istore_n 1, 1) := by decide +kernel
theorem dX3_errorIndex_22 : decode cX3_errorIndex 22 = .ok (.iload_n 1, 1) := by decide +kernel
theorem dX3_errorIndex_23 : decode cX3_errorIndex 23 = .ok (.iconst (-1), 1) := by decide +kernel
theorem dX3_errorIndex_24 : decode cX3_errorIndex 24 = .ok (.if_icmp .ne 5, 3) := by decide +kernel
theorem dX3_errorIndex_27 : decode cX3_errorIndex 27 = .ok (.iload_n 2, 1) := by decide +kernel
theorem dX3_errorIndex_28 : decode cX3_errorIndex 28 = .ok (.ireturn, 1) := by decide +kernel
theorem dX3_errorIndex_29 : decode cX3_errorIndex 29 = .ok (.iinc 2 1, 3) := by decide +kernel
theorem dX3_errorIndex_32 : decode cX3_errorIndex 32 = .ok (.goto (-28), 3) := by decide +kernel
theorem dX3_errorIndex_35 : decode cX3_errorIndex 35 = .ok (.aload_n 0, 1) := by decide +kernel
theorem dX3_errorIndex_36 : decode cX3_errorIndex 36 = .ok (.getfield 15, 3) := by decide +kernel
theorem dX3_errorIndex_39 : decode cX3_errorIndex 39 = .ok (.ireturn, 1) := by decide +kernel
set_option maxRecDepth 20000 in
theorem ggX3_isComplete_X3_codeAt : GoodIn wsX3_isComplete wsX3_codeAt := goodIn_r _ [6, 7, 17, 18] rfl (by decide +kernel)
set_option maxRecDepth 20000 in
theorem gX3_isComplete_X3_codeAt : GoodIn wsX3_isComplete (wsV RX3 19 RX3 yX3_codeAt wsX3_codeAt) := goodIn_app (goodIn_r _ [2, 3, 4, 5] rfl (by decide +kernel)) ggX3_isComplete_X3_codeAt
set_option maxRecDepth 20000 in
theorem ggX3_isComplete_X3_stateAfter : GoodIn wsX3_isComplete wsX3_stateAfter := goodIn_r _ [10, 11, 12, 5, 13, 14, 15, 16] rfl (by decide +kernel)
set_option maxRecDepth 20000 in
theorem gX3_isComplete_X3_stateAfter : GoodIn wsX3_isComplete (va_wsS RX3 23 yX3_stateAfter wsX3_stateAfter) := goodIn_app (goodIn_r _ [8, 9, 5] rfl (by decide +kernel)) ggX3_isComplete_X3_stateAfter
theorem dX3_isComplete_0 : decode cX3_isComplete 0 = .ok (.iconst 0, 1) := by decide +kernel
theorem dX3_isComplete_1 : decode cX3_isComplete 1 = .ok (.istore_n 1, 1) := by decide +kernel
theorem dX3_isComplete_2 : decode cX3_isComplete 2 = .ok (.iconst 0, 1) := by decide +kernel
theorem dX3_isComplete_3 : decode cX3_isComplete 3 = .ok (.istore_n 2, 1) := by decide +kernel
theorem dX3_isComplete_4 : decode cX3_isComplete 4 = .ok (.iload_n 2, 1) := by decide +kernel
theorem dX3_isComplete_5 : decode cX3_isComplete 5 = .ok (.aload_n 0, 1) := by decide +kernel
theorem dX3_isComplete_6 : decode cX3_isComplete 6 = .ok (.getfield 15, 3) := by decide +kernel
theorem dX3_isComplete_9 : decode cX3_isComplete 9 = .ok (.if_icmp .ge 24, 3) := by decide +kernel
theorem dX3_isComplete_12 : decode cX3_isComplete 12 = .ok (.iload_n 1, 1) := by decide +kernel
theorem dX3_isComplete_13 : decode cX3_isComplete 13 = .ok (.iconst (-1), 1) := by decide +kernel
theorem dX3_isComplete_14 : decode cX3_isComplete 14 = .ok (.if_icmp .eq 19, 3) := by decide +kernel
theorem dX3_isComplete_17 : decode cX3_isComplete 17 = .ok (.iload_n 1, 1) := by decide +kernel
theorem dX3_isComplete_18 : decode cX3_isComplete 18 = .ok (.aload_n 0, 1) := by decide +kernel
theorem dX3_isComplete_19 : decode cX3_isComplete 19 = .ok (.iload_n 2, 1) := by decide +kernel
theorem dX3_isComplete_20 : decode cX3_isComplete 20 = .ok (.invokevirtual 19, 3) := by decide +kernel
theorem dX3_isComplete_23 : decode cX3_isComplete 23 = .ok (.invokestatic 23, 3) := by decide +kernel
theorem dX3_isComplete_26 : decode cX3_isComplete 26 = .ok (.istore_n 1, 1) := by decide +kernel
theorem dX3_isComplete_27 : decode cX3_isComplete 27 = .ok (.iinc 2 1, 3) := by decide +kernel
theorem dX3_isComplete_30 : decode cX3_isComplete 30 = .ok (.goto (-26), 3) := by decide +kernel
theorem dX3_isComplete_33 : decode cX3_isComplete 33 = .ok (.iload_n 1, 1) := by decide +kernel
theorem dX3_isComplete_34 : decode cX3_isComplete 34 = .ok (.iconst 2, 1) := by decide +kernel
theorem dX3_isComplete_35 : decode cX3_isComplete 35 = .ok (.if_icmp .lt 7, 3) := by decide +kernel
theorem dX3_isComplete_38 : decode cX3_isComplete 38 = .ok (.iconst 1, 1) := by decide +kernel
theorem dX3_isComplete_39 : decode cX3_isComplete 39 = .ok (.goto 4, 3) := by decide +kernel
theorem dX3_isComplete_42 : decode cX3_isComplete 42 = .ok (.iconst 0, 1) := by decide +kernel
theorem dX3_isComplete_43 : decode cX3_isComplete 43 = .ok (.ireturn, 1) := by decide +kernel
set_option maxRecDepth 20000 in
theorem ggX3_stateAfter_X3_stateAfterLetter : GoodIn wsX3_stateAfter wsX3_stateAfterLetter := goodIn_r _ [4] rfl (by decide +kernel)
set_option maxRecDepth 20000 in
theorem gX3_stateAfter_X3_stateAfterLetter : GoodIn wsX3_stateAfter (va_wsS RX3 27 yX3_stateAfterLetter wsX3_stateAfterLetter) := goodIn_app (goodIn_r _ [1, 2, 3] rfl (by decide +kernel)) ggX3_stateAfter_X3_stateAfterLetter
set_option maxRecDepth 20000 in
theorem ggX3_stateAfter_X4_isDigit : GoodIn wsX3_stateAfter wsX4_isDigit := goodIn_r _ [7] rfl (by decide +kernel)
set_option maxRecDepth 20000 in
theorem gX3_stateAfter_X4_isDigit_n30 : GoodIn wsX3_stateAfter (wsX4_isDigit) := ggX3_stateAfter_X4_isDigit
theorem dX3_stateAfter_0 : decode cX3_stateAfter 0 = .ok (.iload_n 0, 1) := by decide +kernel
theorem dX3_stateAfter_1 : decode cX3_stateAfter 1 = .ok (.ifCond .ne 8, 3) := by decide +kernel
theorem dX3_stateAfter_4 : decode cX3_stateAfter 4 = .ok (.iload_n 1, 1) := by decide +kernel
theorem dX3_stateAfter_5 : decode cX3_stateAfter 5 = .ok (.invokestatic 27, 3) := by decide +kernel
theorem dX3_stateAfter_8 : decode cX3_stateAfter 8 = .ok (.ireturn, 1) := by decide +kernel
theorem dX3_stateAfter_9 : decode cX3_stateAfter 9 = .ok (.iload_n 0, 1) := by decide +kernel
theorem dX3_stateAfter_10 : decode cX3_stateAfter 10 = .ok (.iconst 1, 1) := by decide +kernel
theorem dX3_stateAfter_11 : decode cX3_stateAfter 11 = .ok (.if_icmp .ne 25, 3) := by decide +kernel
theorem dX3_stateAfter_14 : decode cX3_stateAfter 14 = .ok (.iload_n 1, 1) := by decide +kernel
theorem dX3_stateAfter_15 : decode cX3_stateAfter 15 = .ok (.bipush 48, 2) := by decide +kernel
theorem dX3_stateAfter_17 : decode cX3_stateAfter 17 = .ok (.if_icmp .ne 5, 3) := by decide +kernel
theorem dX3_stateAfter_20 : decode cX3_stateAfter 20 = .ok (.iconst 2, 1) := by decide +kernel
theorem dX3_stateAfter_21 : decode cX3_stateAfter 21 = .ok (.ireturn, 1) := by decide +kernel
theorem dX3_stateAfter_22 : decode cX3_stateAfter 22 = .ok (.iload_n 1, 1) := by decide +kernel
theorem dX3_stateAfter_23 : decode cX3_stateAfter 23 = .ok (.invokestatic 30, 3) := by decide +kernel
theorem dX3_stateAfter_26 : decode cX3_stateAfter 26 = .ok (.ifCond .eq 8, 3) := by decide +kernel
theorem dX3_stateAfter_29 : decode cX3_stateAfter 29 = .ok (.bipush 6, 2) := by decide +kernel
theorem dX3_stateAfter_31 : decode cX3_stateAfter 31 = .ok (.goto 4, 3) := by decide +kernel
theorem dX3_stateAfter_34 : decode cX3_stateAfter 34 = .ok (.iconst (-1), 1) := by decide +kernel
theorem dX3_stateAfter_35 : decode cX3_stateAfter 35 = .ok (.ireturn, 1) := by decide +kernel
theorem dX3_stateAfter_36 : decode cX3_stateAfter 36 = .ok (.iload_n 1, 1) := by decide +kernel
theorem dX3_stateAfter_37 : decode cX3_stateAfter 37 = .ok (.bipush 44, 2) := by decide +kernel
theorem dX3_stateAfter_39 : decode cX3_stateAfter 39 = .ok (.if_icmp .ne 5, 3) := by decide +kernel
theorem dX3_stateAfter_42 : decode cX3_stateAfter 42 = .ok (.iconst 0, 1) := by decide +kernel
theorem dX3_stateAfter_43 : decode cX3_stateAfter 43 = .ok (.ireturn, 1) := by decide +kernel
theorem dX3_stateAfter_44 : decode cX3_stateAfter 44 = .ok (.iload_n 0, 1) := by decide +kernel
theorem dX3_stateAfter_45 : decode cX3_stateAfter 45 = .ok (.iconst 2, 1) := by decide +kernel
theorem dX3_stateAfter_46 : decode cX3_stateAfter 46 = .ok (.if_icmp .le 16, 3) := by decide +kernel
theorem dX3_stateAfter_49 : decode cX3_stateAfter 49 = .ok (.iload_n 1, 1) := by decide +kernel
theorem dX3_stateAfter_50 : decode cX3_stateAfter 50 = .ok (.invokestatic 30, 3) := by decide +kernel
theorem dX3_stateAfter_53 : decode cX3_stateAfter 53 = .ok (.ifCond .eq 9, 3) := by decide +kernel
theorem dX3_stateAfter_56 : decode cX3_stateAfter 56 = .ok (.iload_n 0, 1) := by decide +kernel
theorem dX3_stateAfter_57 : decode cX3_stateAfter 57 = .ok (.iconst 1, 1) := by decide +kernel
theorem dX3_stateAfter_58 : decode cX3_stateAfter 58 = .ok (.isub, 1) := by decide +kernel
theorem dX3_stateAfter_59 : decode cX3_stateAfter 59 = .ok (.goto 4, 3) := by decide +kernel
theorem dX3_stateAfter_62 : decode cX3_stateAfter 62 = .ok (.iconst (-1), 1) := by decide +kernel
theorem dX3_stateAfter_63 : decode cX3_stateAfter 63 = .ok (.ireturn, 1) := by decide +kernel
theorem dX3_stateAfterLetter_0 : decode cX3_stateAfterLetter 0 = .ok (.iload_n 0, 1) := by decide +kernel
theorem dX3_stateAfterLetter_1 : decode cX3_stateAfterLetter 1 = .ok (.tableswitch 107 99 120 #[105, 107, 107, 107, 107, 107, 105, 107, 107, 105, 107, 107, 107, 107, 107, 105, 103, 105, 107, 107, 107, 103], 103) := by decide +kernel
theorem dX3_stateAfterLetter_104 : decode cX3_stateAfterLetter 104 = .ok (.iconst 2, 1) := by decide +kernel
theorem dX3_stateAfterLetter_105 : decode cX3_stateAfterLetter 105 = .ok (.ireturn, 1) := by decide +kernel
theorem dX3_stateAfterLetter_106 : decode cX3_stateAfterLetter 106 = .ok (.iconst 1, 1) := by decide +kernel
theorem dX3_stateAfterLetter_107 : decode cX3_stateAfterLetter 107 = .ok (.ireturn, 1) := by decide +kernel
theorem dX3_stateAfterLetter_108 : decode cX3_stateAfterLetter 108 = .ok (.iconst (-1), 1) := by decide +kernel
theorem dX3_stateAfterLetter_109 : decode cX3_stateAfterLetter 109 = .ok (.ireturn, 1) := by decide +kernel
