set_option maxRecDepth 20000 in
theorem ggX4_init_X2_init : GoodIn wsX4_init wsX2_init := goodIn_r _ [19, 20, 2, 3, 21, 22, 23, 24, 25, 26, 27, 28, 29, 30, 31, 32, 33, 34, 35, 36, 46, 47, 48, 49, 50, 51, 52, 53, 54, 55, 56, 57, 58, 59, 60, 61, 62, 72, 73, 74, 75, 76, 77, 78] rfl (by decide +kernel)
set_option maxRecDepth 20000 in
theorem gX4_init_X2_init : GoodIn wsX4_init (wsX2_init) := ggX4_init_X2_init
set_option maxRecDepth 20000 in
theorem ggX4_init_X0_init : GoodIn wsX4_init wsX0_init := goodIn_r _ [38, 39, 2, 3, 40, 41, 67, 68, 69] rfl (by decide +kernel)
set_option maxRecDepth 20000 in
theorem gX4_init_X0_init_n23 : GoodIn wsX4_init (wsX0_init) := ggX4_init_X0_init
set_option maxRecDepth 20000 in
theorem ggX4_init_X3_init : GoodIn wsX4_init wsX3_init := goodIn_r _ [43, 44, 2, 3, 40, 45, 70, 71] rfl (by decide +kernel)
set_option maxRecDepth 20000 in
theorem gX4_init_X3_init_n30 : GoodIn wsX4_init (wsX3_init) := ggX4_init_X3_init
theorem dX4_init_0 : decode cX4_init 0 = .ok (.aload_n 0, 1) := by decide +kernel
theorem dX4_init_1 : decode cX4_init 1 = .ok (.invokespecial 1, 3) := by decide +kernel
theorem dX4_init_4 : decode cX4_init 4 = .ok (.aload_n 0, 1) := by decide +kernel
theorem dX4_init_5 : decode cX4_init 5 = .ok (.new 7, 3) := by decide +kernel
theorem dX4_init_8 : decode cX4_init 8 = .ok (.dup, 1) := by decide +kernel
theorem dX4_init_9 : decode cX4_init 9 = .ok (.iconst 2, 1) := by decide +kernel
theorem dX4_init_10 : decode cX4_init 10 = .ok (.invokespecial 11, 3) := by decide +kernel
theorem dX4_init_13 : decode cX4_init 13 = .ok (.putfield 14, 3) := by decide +kernel
theorem dX4_init_16 : decode cX4_init 16 = .ok (.aload_n 0, 1) := by decide +kernel
theorem dX4_init_17 : decode cX4_init 17 = .ok (.new 7, 3) := by decide +kernel
theorem dX4_init_20 : decode cX4_init 20 = .ok (.dup, 1) := by decide +kernel
theorem dX4_init_21 : decode cX4_init 21 = .ok (.iconst 2, 1) := by decide +kernel
theorem dX4_init_22 : decode cX4_init 22 = .ok (.invokespecial 11, 3) := by decide +kernel
theorem dX4_init_25 : decode cX4_init 25 = .ok (.putfield 18, 3) := by decide +kernel
theorem dX4_init_28 : decode cX4_init 28 = .ok (.aload_n 0, 1) := by decide +kernel
theorem dX4_init_29 : decode cX4_init 29 = .ok (.new 21, 3) := by decide +kernel
theorem dX4_init_32 : decode cX4_init 32 = .ok (.dup, 1) := by decide +kernel
theorem dX4_init_33 : decode cX4_init 33 = .ok (.invokespecial 23, 3) := by decide +kernel
theorem dX4_init_36 : decode cX4_init 36 = .ok (.putfield 24, 3) := by decide +kernel
theorem dX4_init_39 : decode cX4_init 39 = .ok (.aload_n 0, 1) := by decide +kernel
theorem dX4_init_40 : decode cX4_init 40 = .ok (.new 28, 3) := by decide +kernel
theorem dX4_init_43 : decode cX4_init 43 = .ok (.dup, 1) := by decide +kernel
theorem dX4_init_44 : decode cX4_init 44 = .ok (.invokespecial 30, 3) := by decide +kernel
theorem dX4_init_47 : decode cX4_init 47 = .ok (.putfield 31, 3) := by decide +kernel
theorem dX4_init_50 : decode cX4_init 50 = .ok (.return_, 1) := by decide +kernel
set_option maxRecDepth 20000 in
theorem ggX4_begin_X2_reset : GoodIn wsX4_begin wsX2_reset := goodIn_r _ [10, 11, 12, 13, 14, 15, 16, 17, 18, 19, 20, 21, 22, 23, 24, 25, 26, 27, 28, 29, 30, 31, 32, 33, 34, 35, 36, 37, 38, 39, 40, 41, 42, 43, 55, 56, 57, 58, 59, 60, 61, 62, 63, 64, 65, 66, 67, 68, 69, 70, 71, 72, 73, 74, 75, 76, 77, 78] rfl (by decide +kernel)
set_option maxRecDepth 20000 in
theorem gX4_begin_X2_reset : GoodIn wsX4_begin (wsV RX4 46 RX2 yX2_reset wsX2_reset) := goodIn_app (goodIn_r _ [6, 7, 8, 9] rfl (by decide +kernel)) ggX4_begin_X2_reset
set_option maxRecDepth 20000 in
theorem ggX4_begin_X0_forget : GoodIn wsX4_begin wsX0_forget := goodIn_r _ [48, 49, 50, 79, 80, 81] rfl (by decide +kernel)
set_option maxRecDepth 20000 in
theorem gX4_begin_X0_forget : GoodIn wsX4_begin (wsV RX4 49 RX0 yX0_forget wsX0_forget) := goodIn_app (goodIn_r _ [44, 45, 46, 47] rfl (by decide +kernel)) ggX4_begin_X0_forget
theorem dX4_begin_0 : decode cX4_begin 0 = .ok (.iload_n 1, 1) := by decide +kernel
theorem dX4_begin_1 : decode cX4_begin 1 = .ok (.iconst 1, 1) := by decide +kernel
theorem dX4_begin_2 : decode cX4_begin 2 = .ok (.if_icmp .lt 8, 3) := by decide +kernel
theorem dX4_begin_5 : decode cX4_begin 5 = .ok (.iload_n 1, 1) := by decide +kernel
theorem dX4_begin_6 : decode cX4_begin 6 = .ok (.iconst 4, 1) := by decide +kernel
theorem dX4_begin_7 : decode cX4_begin 7 = .ok (.if_icmp .le 13, 3) := by decide +kernel
theorem dX4_begin_10 : decode cX4_begin 10 = .ok (.new 35, 3) := by decide +kernel
theorem dX4_begin_13 : decode cX4_begin 13 = .ok (.dup, 1) := by decide +kernel
theorem dX4_begin_14 : decode cX4_begin 14 = .ok (.ldc 37, 2) := by decide +kernel
theorem dX4_begin_16 : decode cX4_begin 16 = .ok (.invokespecial 39, 3) := by decide +kernel
theorem dX4_begin_19 : decode cX4_begin 19 = .ok (.athrow, 1) := by decide +kernel
theorem dX4_begin_20 : decode cX4_begin 20 = .ok (.aload_n 0, 1) := by decide +kernel
theorem dX4_begin_21 : decode cX4_begin 21 = .ok (.getfield 14, 3) := by decide +kernel
theorem dX4_begin_24 : decode cX4_begin 24 = .ok (.getfield 42, 3) := by decide +kernel
theorem dX4_begin_27 : decode cX4_begin 27 = .ok (.istore_n 2, 1) := by decide +kernel
theorem dX4_begin_28 : decode cX4_begin 28 = .ok (.aload_n 0, 1) := by decide +kernel
theorem dX4_begin_29 : decode cX4_begin 29 = .ok (.getfield 14, 3) := by decide +kernel
theorem dX4_begin_32 : decode cX4_begin 32 = .ok (.iload_n 1, 1) := by decide +kernel
theorem dX4_begin_33 : decode cX4_begin 33 = .ok (.invokevirtual 46, 3) := by decide +kernel
theorem dX4_begin_36 : decode cX4_begin 36 = .ok (.aload_n 0, 1) := by decide +kernel
theorem dX4_begin_37 : decode cX4_begin 37 = .ok (.getfield 24, 3) := by decide +kernel
theorem dX4_begin_40 : decode cX4_begin 40 = .ok (.invokevirtual 49, 3) := by decide +kernel
theorem dX4_begin_43 : decode cX4_begin 43 = .ok (.iload_n 2, 1) := by decide +kernel
theorem dX4_begin_44 : decode cX4_begin 44 = .ok (.ireturn, 1) := by decide +kernel
set_option maxRecDepth 20000 in
theorem ggX4_set_X4_isSetting : GoodIn wsX4_set wsX4_isSetting := goodIn_r _ [10] rfl (by decide +kernel)
set_option maxRecDepth 20000 in
theorem gX4_set_X4_isSetting : GoodIn wsX4_set (va_wsS RX4 52 yX4_isSetting wsX4_isSetting) := goodIn_app (goodIn_r _ [7, 8, 9] rfl (by decide +kernel)) ggX4_set_X4_isSetting
set_option maxRecDepth 20000 in
theorem ggX4_set_X4_fits : GoodIn wsX4_set wsX4_fits := goodIn_r _ [13, 14, 15, 7, 8, 9, 10] rfl (by decide +kernel)
set_option maxRecDepth 20000 in
theorem gX4_set_X4_fits : GoodIn wsX4_set (va_wsS RX4 61 yX4_fits wsX4_fits) := goodIn_app (goodIn_r _ [11, 12, 9] rfl (by decide +kernel)) ggX4_set_X4_fits
theorem dX4_set_0 : decode cX4_set 0 = .ok (.iload_n 1, 1) := by decide +kernel
theorem dX4_set_1 : decode cX4_set 1 = .ok (.invokestatic 52, 3) := by decide +kernel
theorem dX4_set_4 : decode cX4_set 4 = .ok (.ifCond .ne 13, 3) := by decide +kernel
theorem dX4_set_7 : decode cX4_set 7 = .ok (.new 56, 3) := by decide +kernel
theorem dX4_set_10 : decode cX4_set 10 = .ok (.dup, 1) := by decide +kernel
theorem dX4_set_11 : decode cX4_set 11 = .ok (.ldc 58, 2) := by decide +kernel
theorem dX4_set_13 : decode cX4_set 13 = .ok (.invokespecial 60, 3) := by decide +kernel
theorem dX4_set_16 : decode cX4_set 16 = .ok (.athrow, 1) := by decide +kernel
theorem dX4_set_17 : decode cX4_set 17 = .ok (.iload_n 1, 1) := by decide +kernel
theorem dX4_set_18 : decode cX4_set 18 = .ok (.iload_n 2, 1) := by decide +kernel
theorem dX4_set_19 : decode cX4_set 19 = .ok (.invokestatic 61, 3) := by decide +kernel
theorem dX4_set_22 : decode cX4_set 22 = .ok (.ifCond .ne 13, 3) := by decide +kernel
theorem dX4_set_25 : decode cX4_set 25 = .ok (.new 35, 3) := by decide +kernel
theorem dX4_set_28 : decode cX4_set 28 = .ok (.dup, 1) := by decide +kernel
theorem dX4_set_29 : decode cX4_set 29 = .ok (.ldc 65, 2) := by decide +kernel
theorem dX4_set_31 : decode cX4_set 31 = .ok (.invokespecial 39, 3) := by decide +kernel
theorem dX4_set_34 : decode cX4_set 34 = .ok (.athrow, 1) := by decide +kernel
theorem dX4_set_35 : decode cX4_set 35 = .ok (.aload_n 0, 1) := by decide +kernel
theorem dX4_set_36 : decode cX4_set 36 = .ok (.getfield 14, 3) := by decide +kernel
theorem dX4_set_39 : decode cX4_set 39 = .ok (.getfield 67, 3) := by decide +kernel
theorem dX4_set_42 : decode cX4_set 42 = .ok (.iload_n 1, 1) := by decide +kernel
theorem dX4_set_43 : decode cX4_set 43 = .ok (.iaload, 1) := by decide +kernel
theorem dX4_set_44 : decode cX4_set 44 = .ok (.istore_n 3, 1) := by decide +kernel
theorem dX4_set_45 : decode cX4_set 45 = .ok (.aload_n 0, 1) := by decide +kernel
theorem dX4_set_46 : decode cX4_set 46 = .ok (.getfield 14, 3) := by decide +kernel
theorem dX4_set_49 : decode cX4_set 49 = .ok (.getfield 67, 3) := by decide +kernel
theorem dX4_set_52 : decode cX4_set 52 = .ok (.iload_n 1, 1) := by decide +kernel
theorem dX4_set_53 : decode cX4_set 53 = .ok (.iload_n 2, 1) := by decide +kernel
theorem dX4_set_54 : decode cX4_set 54 = .ok (.iastore, 1) := by decide +kernel
theorem dX4_set_55 : decode cX4_set 55 = .ok (.iload_n 3, 1) := by decide +kernel
theorem dX4_set_56 : decode cX4_set 56 = .ok (.ireturn, 1) := by decide +kernel
set_option maxRecDepth 20000 in
theorem ggX4_setting_X4_isSetting : GoodIn wsX4_setting wsX4_isSetting := goodIn_r _ [8] rfl (by decide +kernel)
set_option maxRecDepth 20000 in
theorem gX4_setting_X4_isSetting : GoodIn wsX4_setting (va_wsS RX4 52 yX4_isSetting wsX4_isSetting) := goodIn_app (goodIn_r _ [5, 6, 7] rfl (by decide +kernel)) ggX4_setting_X4_isSetting
theorem dX4_setting_0 : decode cX4_setting 0 = .ok (.iload_n 1, 1) := by decide +kernel
theorem dX4_setting_1 : decode cX4_setting 1 = .ok (.invokestatic 52, 3) := by decide +kernel
theorem dX4_setting_4 : decode cX4_setting 4 = .ok (.ifCond .ne 13, 3) := by decide +kernel
theorem dX4_setting_7 : decode cX4_setting 7 = .ok (.new 56, 3) := by decide +kernel
theorem dX4_setting_10 : decode cX4_setting 10 = .ok (.dup, 1) := by decide +kernel
theorem dX4_setting_11 : decode cX4_setting 11 = .ok (.ldc 58, 2) := by decide +kernel
theorem dX4_setting_13 : decode cX4_setting 13 = .ok (.invokespecial 60, 3) := by decide +kernel
theorem dX4_setting_16 : decode cX4_setting 16 = .ok (.athrow, 1) := by decide +kernel
theorem dX4_setting_17 : decode cX4_setting 17 = .ok (.aload_n 0, 1) := by decide +kernel
theorem dX4_setting_18 : decode cX4_setting 18 = .ok (.getfield 14, 3) := by decide +kernel
theorem dX4_setting_21 : decode cX4_setting 21 = .ok (.getfield 67, 3) := by decide +kernel
theorem dX4_setting_24 : decode cX4_setting 24 = .ok (.iload_n 1, 1) := by decide +kernel
theorem dX4_setting_25 : decode cX4_setting 25 = .ok (.iaload, 1) := by decide +kernel
theorem dX4_setting_26 : decode cX4_setting 26 = .ok (.ireturn, 1) := by decide +kernel
set_option maxRecDepth 20000 in
theorem ggX4_start_X2_runs : GoodIn wsX4_start wsX2_runs := goodIn_r _ [9, 10, 28, 29, 30, 31, 32, 33, 34, 35, 36, 37, 38, 39, 40, 41, 42, 43, 44] rfl (by decide +kernel)
set_option maxRecDepth 20000 in
theorem gX4_start_X2_runs : GoodIn wsX4_start (wsV RX4 71 RX2 yX2_runs wsX2_runs) := goodIn_app (goodIn_r _ [5, 6, 7, 8] rfl (by decide +kernel)) ggX4_start_X2_runs
set_option maxRecDepth 20000 in
theorem ggX4_start_X2_softStart : GoodIn wsX4_start wsX2_softStart := goodIn_r _ [14, 10, 15, 16, 17, 18, 19, 20, 21, 22, 23, 28, 29, 30, 31, 32, 33, 34, 35, 36, 37, 38, 39, 40, 41, 42, 43, 44, 45, 46, 47, 48, 49, 50, 51] rfl (by decide +kernel)
set_option maxRecDepth 20000 in
theorem gX4_start_X2_softStart : GoodIn wsX4_start (wsV RX4 80 RX2 yX2_softStart wsX2_softStart) := goodIn_app (goodIn_r _ [11, 12, 13, 8] rfl (by decide +kernel)) ggX4_start_X2_softStart
theorem dX4_start_0 : decode cX4_start 0 = .ok (.aload_n 0, 1) := by decide +kernel
theorem dX4_start_1 : decode cX4_start 1 = .ok (.getfield 14, 3) := by decide +kernel
theorem dX4_start_4 : decode cX4_start 4 = .ok (.invokevirtual 71, 3) := by decide +kernel
theorem dX4_start_7 : decode cX4_start 7 = .ok (.ifCond .eq 13, 3) := by decide +kernel
theorem dX4_start_10 : decode cX4_start 10 = .ok (.new 75, 3) := by decide +kernel
theorem dX4_start_13 : decode cX4_start 13 = .ok (.dup, 1) := by decide +kernel
theorem dX4_start_14 : decode cX4_start 14 = .ok (.ldc 77, 2) := by decide +kernel
theorem dX4_start_16 : decode cX4_start 16 = .ok (.invokespecial 79, 3) := by decide +kernel
theorem dX4_start_19 : decode cX4_start 19 = .ok (.athrow, 1) := by decide +kernel
theorem dX4_start_20 : decode cX4_start 20 = .ok (.aload_n 0, 1) := by decide +kernel
theorem dX4_start_21 : decode cX4_start 21 = .ok (.getfield 14, 3) := by decide +kernel
theorem dX4_start_24 : decode cX4_start 24 = .ok (.invokevirtual 80, 3) := by decide +kernel
theorem dX4_start_27 : decode cX4_start 27 = .ok (.aload_n 0, 1) := by decide +kernel
theorem dX4_start_28 : decode cX4_start 28 = .ok (.getfield 14, 3) := by decide +kernel
theorem dX4_start_31 : decode cX4_start 31 = .ok (.getfield 83, 3) := by decide +kernel
theorem dX4_start_34 : decode cX4_start 34 = .ok (.ireturn, 1) := by decide +kernel
set_option maxRecDepth 20000 in
theorem ggX4_stop_X2_halt : GoodIn wsX4_stop wsX2_halt := goodIn_r _ [7, 8, 9, 10, 15, 16, 17, 18, 19, 20, 21, 22, 23, 24, 25, 26, 27, 28, 29, 30, 31, 32, 33, 34, 35, 36, 37, 38] rfl (by decide +kernel)
set_option maxRecDepth 20000 in
theorem gX4_stop_X2_halt : GoodIn wsX4_stop (wsV RX4 89 RX2 yX2_halt wsX2_halt) := goodIn_app (goodIn_r _ [3, 4, 5, 6] rfl (by decide +kernel)) ggX4_stop_X2_halt
theorem dX4_stop_0 : decode cX4_stop 0 = .ok (.aload_n 0, 1) := by decide +kernel
theorem dX4_stop_1 : decode cX4_stop 1 = .ok (.getfield 14, 3) := by decide +kernel
theorem dX4_stop_4 : decode cX4_stop 4 = .ok (.getfield 86, 3) := by decide +kernel
theorem dX4_stop_7 : decode cX4_stop 7 = .ok (.istore_n 1, 1) := by decide +kernel
theorem dX4_stop_8 : decode cX4_stop 8 = .ok (.aload_n 0, 1) := by decide +kernel
theorem dX4_stop_9 : decode cX4_stop 9 = .ok (.getfield 14, 3) := by decide +kernel
theorem dX4_stop_12 : decode cX4_stop 12 = .ok (.iconst 0, 1) := by decide +kernel
theorem dX4_stop_13 : decode cX4_stop 13 = .ok (.invokevirtual 89, 3) := by decide +kernel
theorem dX4_stop_16 : decode cX4_stop 16 = .ok (.iload_n 1, 1) := by decide +kernel
theorem dX4_stop_17 : decode cX4_stop 17 = .ok (.ireturn, 1) := by decide +kernel
set_option maxRecDepth 20000 in
theorem ggX4_run_X4_isRunLength : GoodIn wsX4_run wsX4_isRunLength := goodIn_r _ [10] rfl (by decide +kernel)
set_option maxRecDepth 20000 in
theorem gX4_run_X4_isRunLength : GoodIn wsX4_run (va_wsS RX4 92 yX4_isRunLength wsX4_isRunLength) := goodIn_app (goodIn_r _ [7, 8, 9] rfl (by decide +kernel)) ggX4_run_X4_isRunLength
set_option maxRecDepth 20000 in
theorem ggX4_run_X4_hasRoomFor : GoodIn wsX4_run wsX4_hasRoomFor := goodIn_r _ [14, 5, 15, 16, 146, 147, 148, 149, 150, 151, 152, 153, 154, 155, 156, 157, 158, 159, 160, 161, 162, 163, 164, 165, 166] rfl (by decide +kernel)
set_option maxRecDepth 20000 in
theorem gX4_run_X4_hasRoomFor : GoodIn wsX4_run (wsV RX4 97 RX4 yX4_hasRoomFor wsX4_hasRoomFor) := goodIn_app (goodIn_r _ [11, 12, 13, 9] rfl (by decide +kernel)) ggX4_run_X4_hasRoomFor
set_option maxRecDepth 20000 in
theorem ggX4_run_X4_passCycles : GoodIn wsX4_run wsX4_passCycles := goodIn_r _ [20, 5, 21, 22, 23, 24, 25, 26, 27, 28, 29, 30, 31, 32, 33, 34, 35, 36, 37, 38, 39, 40, 41, 42, 43, 44, 45, 46, 47, 48, 49, 50, 51, 52, 53, 54, 55, 56, 57, 58, 59, 60, 61, 62, 63, 64, 65, 66, 67, 68, 69, 70, 9, 71, 72, 73, 74, 75, 76, 77, 78, 79, 80, 81, 82, 83, 84, 85, 86, 87, 88, 89, 90, 91, 92, 93, 94, 95, 96, 97, 98, 99, 100, 101, 102, 103, 104, 105, 106, 107, 108, 109, 110, 111, 112, 113, 114, 115, 116, 117, 118, 119, 120, 121, 122, 123, 124, 125, 126, 127, 128, 129, 130, 131, 132, 133, 134, 135, 136, 137, 138, 139, 140, 141, 142, 143, 144, 145, 146, 147, 148, 149, 150, 151, 152, 153, 154, 155, 156, 157, 158, 159, 160, 161, 162, 163, 164, 165, 166, 167, 168, 169, 170, 171, 172, 173, 174, 175, 176] rfl (by decide +kernel)
set_option maxRecDepth 20000 in
theorem gX4_run_X4_passCycles : GoodIn wsX4_run (wsV RX4 102 RX4 yX4_passCycles wsX4_passCycles) := goodIn_app (goodIn_r _ [17, 18, 19, 9] rfl (by decide +kernel)) ggX4_run_X4_passCycles
theorem dX4_run_0 : decode cX4_run 0 = .ok (.iload_n 1, 1) := by decide +kernel
theorem dX4_run_1 : decode cX4_run 1 = .ok (.invokestatic 92, 3) := by decide +kernel
theorem dX4_run_4 : decode cX4_run 4 = .ok (.ifCond .ne 13, 3) := by decide +kernel
theorem dX4_run_7 : decode cX4_run 7 = .ok (.new 35, 3) := by decide +kernel
theorem dX4_run_10 : decode cX4_run 10 = .ok (.dup, 1) := by decide +kernel
theorem dX4_run_11 : decode cX4_run 11 = .ok (.ldc 95, 2) := by decide +kernel
theorem dX4_run_13 : decode cX4_run 13 = .ok (.invokespecial 39, 3) := by decide +kernel
theorem dX4_run_16 : decode cX4_run 16 = .ok (.athrow, 1) := by decide +kernel
theorem dX4_run_17 : decode cX4_run 17 = .ok (.aload_n 0, 1) := by decide +kernel
theorem dX4_run_18 : decode cX4_run 18 = .ok (.iload_n 1, 1) := by decide +kernel
theorem dX4_run_19 : decode cX4_run 19 = .ok (.invokevirtual 97, 3) := by decide +kernel
theorem dX4_run_22 : decode cX4_run 22 = .ok (.ifCond .ne 13, 3) := by decide +kernel
theorem dX4_run_25 : decode cX4_run 25 = .ok (.new 75, 3) := by decide +kernel
theorem dX4_run_28 : decode cX4_run 28 = .ok (.dup, 1) := by decide +kernel
theorem dX4_run_29 : decode cX4_run 29 = .ok (.ldc 100, 2) := by decide +kernel
theorem dX4_run_31 : decode cX4_run 31 = .ok (.invokespecial 79, 3) := by decide +kernel
theorem dX4_run_34 : decode cX4_run 34 = .ok (.athrow, 1) := by decide +kernel
theorem dX4_run_35 : decode cX4_run 35 = .ok (.aload_n 0, 1) := by decide +kernel
theorem dX4_run_36 : decode cX4_run 36 = .ok (.iload_n 1, 1) := by decide +kernel
theorem dX4_run_37 : decode cX4_run 37 = .ok (.invokevirtual 102, 3) := by decide +kernel
theorem dX4_run_40 : decode cX4_run 40 = .ok (.aload_n 0, 1) := by decide +kernel
theorem dX4_run_41 : decode cX4_run 41 = .ok (.getfield 14, 3) := by decide +kernel
theorem dX4_run_44 : decode cX4_run 44 = .ok (.getfield 83, 3) := by decide +kernel
theorem dX4_run_47 : decode cX4_run 47 = .ok (.ireturn, 1) := by decide +kernel
set_option maxRecDepth 20000 in
theorem ggX4_append_X3_take : GoodIn wsX4_append wsX3_take := goodIn_r _ [11, 12, 13, 18, 19] rfl (by decide +kernel)
set_option maxRecDepth 20000 in
theorem gX4_append_X3_take : GoodIn wsX4_append (wsV RX4 107 RX3 yX3_take wsX3_take) := goodIn_app (goodIn_r _ [7, 8, 9, 10] rfl (by decide +kernel)) ggX4_append_X3_take
theorem dX4_append_0 : decode cX4_append 0 = .ok (.iload_n 1, 1) := by decide +kernel
theorem dX4_append_1 : decode cX4_append 1 = .ok (.bipush 33, 2) := by decide +kernel
theorem dX4_append_3 : decode cX4_append 3 = .ok (.if_icmp .lt 9, 3) := by decide +kernel
theorem dX4_append_6 : decode cX4_append 6 = .ok (.iload_n 1, 1) := by decide +kernel
theorem dX4_append_7 : decode cX4_append 7 = .ok (.bipush 126, 2) := by decide +kernel
theorem dX4_append_9 : decode cX4_append 9 = .ok (.if_icmp .le 13, 3) := by decide +kernel
theorem dX4_append_12 : decode cX4_append 12 = .ok (.new 35, 3) := by decide +kernel
theorem dX4_append_15 : decode cX4_append 15 = .ok (.dup, 1) := by decide +kernel
theorem dX4_append_16 : decode cX4_append 16 = .ok (.ldc 105, 2) := by decide +kernel
theorem dX4_append_18 : decode cX4_append 18 = .ok (.invokespecial 39, 3) := by decide +kernel
theorem dX4_append_21 : decode cX4_append 21 = .ok (.athrow, 1) := by decide +kernel
theorem dX4_append_22 : decode cX4_append 22 = .ok (.aload_n 0, 1) := by decide +kernel
theorem dX4_append_23 : decode cX4_append 23 = .ok (.getfield 31, 3) := by decide +kernel
theorem dX4_append_26 : decode cX4_append 26 = .ok (.iload_n 1, 1) := by decide +kernel
theorem dX4_append_27 : decode cX4_append 27 = .ok (.invokevirtual 107, 3) := by decide +kernel
theorem dX4_append_30 : decode cX4_append 30 = .ok (.ifCond .ne 13, 3) := by decide +kernel
theorem dX4_append_33 : decode cX4_append 33 = .ok (.new 75, 3) := by decide +kernel
theorem dX4_append_36 : decode cX4_append 36 = .ok (.dup, 1) := by decide +kernel
theorem dX4_append_37 : decode cX4_append 37 = .ok (.ldc 110, 2) := by decide +kernel
theorem dX4_append_39 : decode cX4_append 39 = .ok (.invokespecial 79, 3) := by decide +kernel
theorem dX4_append_42 : decode cX4_append 42 = .ok (.athrow, 1) := by decide +kernel
theorem dX4_append_43 : decode cX4_append 43 = .ok (.aload_n 0, 1) := by decide +kernel
theorem dX4_append_44 : decode cX4_append 44 = .ok (.getfield 31, 3) := by decide +kernel
theorem dX4_append_47 : decode cX4_append 47 = .ok (.getfield 112, 3) := by decide +kernel
theorem dX4_append_50 : decode cX4_append 50 = .ok (.ireturn, 1) := by decide +kernel
theorem dX4_clearBuffer_0 : decode cX4_clearBuffer 0 = .ok (.aload_n 0, 1) := by decide +kernel
theorem dX4_clearBuffer_1 : decode cX4_clearBuffer 1 = .ok (.getfield 31, 3) := by decide +kernel
theorem dX4_clearBuffer_4 : decode cX4_clearBuffer 4 = .ok (.getfield 112, 3) := by decide +kernel
theorem dX4_clearBuffer_7 : decode cX4_clearBuffer 7 = .ok (.istore_n 1, 1) := by decide +kernel
theorem dX4_clearBuffer_8 : decode cX4_clearBuffer 8 = .ok (.aload_n 0, 1) := by decide +kernel
theorem dX4_clearBuffer_9 : decode cX4_clearBuffer 9 = .ok (.getfield 31, 3) := by decide +kernel
theorem dX4_clearBuffer_12 : decode cX4_clearBuffer 12 = .ok (.iconst 0, 1) := by decide +kernel
theorem dX4_clearBuffer_13 : decode cX4_clearBuffer 13 = .ok (.putfield 112, 3) := by decide +kernel
theorem dX4_clearBuffer_16 : decode cX4_clearBuffer 16 = .ok (.iload_n 1, 1) := by decide +kernel
theorem dX4_clearBuffer_17 : decode cX4_clearBuffer 17 = .ok (.ireturn, 1) := by decide +kernel
set_option maxRecDepth 20000 in
theorem ggX4_firstError_X3_errorIndex : GoodIn wsX4_firstError wsX3_errorIndex := goodIn_r _ [6, 7, 8, 9, 10, 5, 11, 12, 13, 14, 15, 16, 17, 18, 19, 20, 21, 26, 27] rfl (by decide +kernel)
set_option maxRecDepth 20000 in
theorem gX4_firstError_X3_errorIndex : GoodIn wsX4_firstError (wsV RX4 115 RX3 yX3_errorIndex wsX3_errorIndex) := goodIn_app (goodIn_r _ [2, 3, 4, 5] rfl (by decide +kernel)) ggX4_firstError_X3_errorIndex
theorem dX4_firstError_0 : decode cX4_firstError 0 = .ok (.aload_n 0, 1) := by decide +kernel
theorem dX4_firstError_1 : decode cX4_firstError 1 = .ok (.getfield 31, 3) := by decide +kernel
theorem dX4_firstError_4 : decode cX4_firstError 4 = .ok (.invokevirtual 115, 3) := by decide +kernel
theorem dX4_firstError_7 : decode cX4_firstError 7 = .ok (.ireturn, 1) := by decide +kernel
set_option maxRecDepth 20000 in
theorem ggX4_play_X3_isComplete : GoodIn wsX4_play wsX3_isComplete := goodIn_r _ [9, 10, 11, 12, 13, 8, 14, 15, 16, 17, 18, 19, 20, 21, 22, 23, 24, 197, 198] rfl (by decide +kernel)
set_option maxRecDepth 20000 in
theorem gX4_play_X3_isComplete : GoodIn wsX4_play (wsV RX4 119 RX3 yX3_isComplete wsX3_isComplete) := goodIn_app (goodIn_r _ [5, 6, 7, 8] rfl (by decide +kernel)) ggX4_play_X3_isComplete
set_option maxRecDepth 20000 in
theorem ggX4_play_X3_codeAt : GoodIn wsX4_play wsX3_codeAt := goodIn_r _ [14, 15, 197, 198] rfl (by decide +kernel)
set_option maxRecDepth 20000 in
theorem gX4_play_X3_codeAt : GoodIn wsX4_play (wsV RX4 124 RX3 yX3_codeAt wsX3_codeAt) := goodIn_app (goodIn_r _ [25, 12, 13, 8] rfl (by decide +kernel)) ggX4_play_X3_codeAt
set_option maxRecDepth 20000 in
theorem ggX4_play_X4_isPossible : GoodIn wsX4_play wsX4_isPossible := goodIn_r _ [29, 30, 31, 32, 33, 34, 35, 36, 37, 38, 23, 39, 40, 41, 42, 43, 44, 45, 46, 47, 48, 49, 50, 51, 52, 53, 54, 55, 56, 193, 194, 195, 196, 199, 200, 201, 202, 203, 204, 205, 206, 207, 208, 209, 210, 211, 212, 213, 214, 215] rfl (by decide +kernel)
set_option maxRecDepth 20000 in
theorem gX4_play_X4_isPossible : GoodIn wsX4_play (wsV RX4 128 RX4 yX4_isPossible wsX4_isPossible) := goodIn_app (goodIn_r _ [26, 27, 28, 23] rfl (by decide +kernel)) ggX4_play_X4_isPossible
set_option maxRecDepth 20000 in
theorem ggX4_play_X4_carryOut : GoodIn wsX4_play wsX4_carryOut := goodIn_r _ [60, 30, 61, 62, 63, 64, 34, 65, 36, 66, 67, 68, 69, 70, 71, 72, 73, 74, 75, 76, 77, 78, 79, 80, 81, 82, 23, 83, 84, 85, 86, 87, 88, 89, 90, 91, 92, 93, 94, 95, 96, 97, 98, 99, 100, 101, 102, 103, 104, 105, 106, 32, 33, 35, 107, 108, 109, 110, 111, 112, 113, 114, 115, 116, 117, 118, 119, 120, 121, 122, 123, 124, 125, 126, 127, 128, 129, 130, 131, 132, 133, 134, 135, 136, 137, 138, 139, 140, 141, 142, 143, 144, 145, 146, 147, 148, 149, 150, 151, 152, 153, 154, 155, 156, 157, 158, 159, 160, 161, 162, 163, 164, 165, 166, 167, 168, 169, 170, 171, 172, 173, 174, 175, 176, 177, 178, 179, 180, 181, 182, 183, 184, 185, 186, 187, 188, 189, 190, 191, 46, 47, 48, 54, 55, 56, 193, 194, 195, 196, 199, 200, 201, 202, 203, 204, 205, 206, 207, 208, 209, 210, 211, 212, 213, 214, 215, 216, 217, 218, 219, 220, 221, 222, 223, 224, 225] rfl (by decide +kernel)
set_option maxRecDepth 20000 in
theorem gX4_play_X4_carryOut : GoodIn wsX4_play (wsV RX4 131 RX4 yX4_carryOut wsX4_carryOut) := goodIn_app (goodIn_r _ [57, 58, 59, 23] rfl (by decide +kernel)) ggX4_play_X4_carryOut
set_option maxRecDepth 20000 in
theorem ggX4_play_X4_isDigit : GoodIn wsX4_play wsX4_isDigit := goodIn_r _ [24] rfl (by decide +kernel)
set_option maxRecDepth 20000 in
theorem gX4_play_X4_isDigit : GoodIn wsX4_play (va_wsS RX4 135 yX4_isDigit wsX4_isDigit) := goodIn_app (goodIn_r _ [192, 22, 23] rfl (by decide +kernel)) ggX4_play_X4_isDigit
theorem dX4_play_0 : decode cX4_play 0 = .ok (.aload_n 0, 1) := by decide +kernel
theorem dX4_play_1 : decode cX4_play 1 = .ok (.getfield 31, 3) := by decide +kernel
theorem dX4_play_4 : decode cX4_play 4 = .ok (.invokevirtual 119, 3) := by decide +kernel
theorem dX4_play_7 : decode cX4_play 7 = .ok (.ifCond .ne 13, 3) := by decide +kernel
theorem dX4_play_10 : decode cX4_play 10 = .ok (.new 35, 3) := by decide +kernel
theorem dX4_play_13 : decode cX4_play 13 = .ok (.dup, 1) := by decide +kernel
theorem dX4_play_14 : decode cX4_play 14 = .ok (.ldc 122, 2) := by decide +kernel
theorem dX4_play_16 : decode cX4_play 16 = .ok (.invokespecial 39, 3) := by decide +kernel
theorem dX4_play_19 : decode cX4_play 19 = .ok (.athrow, 1) := by decide +kernel
theorem dX4_play_20 : decode cX4_play 20 = .ok (.iconst 0, 1) := by decide +kernel
theorem dX4_play_21 : decode cX4_play 21 = .ok (.istore_n 1, 1) := by decide +kernel
theorem dX4_play_22 : decode cX4_play 22 = .ok (.iconst 0, 1) := by decide +kernel
theorem dX4_play_23 : decode cX4_play 23 = .ok (.istore_n 2, 1) := by decide +kernel
theorem dX4_play_24 : decode cX4_play 24 = .ok (.iconst 0, 1) := by decide +kernel
theorem dX4_play_25 : decode cX4_play 25 = .ok (.istore_n 3, 1) := by decide +kernel
theorem dX4_play_26 : decode cX4_play 26 = .ok (.iconst 1, 1) := by decide +kernel
theorem dX4_play_27 : decode cX4_play 27 = .ok (.istore 4, 2) := by decide +kernel
theorem dX4_play_29 : decode cX4_play 29 = .ok (.iconst 0, 1) := by decide +kernel
theorem dX4_play_30 : decode cX4_play 30 = .ok (.istore 5, 2) := by decide +kernel
theorem dX4_play_32 : decode cX4_play 32 = .ok (.iload 5, 2) := by decide +kernel
theorem dX4_play_34 : decode cX4_play 34 = .ok (.aload_n 0, 1) := by decide +kernel
theorem dX4_play_35 : decode cX4_play 35 = .ok (.getfield 31, 3) := by decide +kernel
theorem dX4_play_38 : decode cX4_play 38 = .ok (.getfield 112, 3) := by decide +kernel
theorem dX4_play_41 : decode cX4_play 41 = .ok (.if_icmp .gt 101, 3) := by decide +kernel
theorem dX4_play_44 : decode cX4_play 44 = .ok (.iload 4, 2) := by decide +kernel
theorem dX4_play_46 : decode cX4_play 46 = .ok (.ifCond .eq 96, 3) := by decide +kernel
theorem dX4_play_49 : decode cX4_play 49 = .ok (.iload 5, 2) := by decide +kernel
theorem dX4_play_51 : decode cX4_play 51 = .ok (.aload_n 0, 1) := by decide +kernel
theorem dX4_play_52 : decode cX4_play 52 = .ok (.getfield 31, 3) := by decide +kernel
theorem dX4_play_55 : decode cX4_play 55 = .ok (.getfield 112, 3) := by decide +kernel
theorem dX4_play_58 : decode cX4_play 58 = .ok (.if_icmp .ge 15, 3) := by decide +kernel
theorem dX4_play_61 : decode cX4_play 61 = .ok (.aload_n 0, 1) := by decide +kernel
theorem dX4_play_62 : decode cX4_play 62 = .ok (.getfield 31, 3) := by decide +kernel
theorem dX4_play_65 : decode cX4_play 65 = .ok (.iload 5, 2) := by decide +kernel
theorem dX4_play_67 : decode cX4_play 67 = .ok (.invokevirtual 124, 3) := by decide +kernel
theorem dX4_play_70 : decode cX4_play 70 = .ok (.goto 5, 3) := by decide +kernel
theorem dX4_play_73 : decode cX4_play 73 = .ok (.bipush 44, 2) := by decide +kernel
theorem dX4_play_75 : decode cX4_play 75 = .ok (.istore 6, 2) := by decide +kernel
theorem dX4_play_77 : decode cX4_play 77 = .ok (.iload 6, 2) := by decide +kernel
theorem dX4_play_79 : decode cX4_play 79 = .ok (.bipush 44, 2) := by decide +kernel
theorem dX4_play_81 : decode cX4_play 81 = .ok (.if_icmp .ne 30, 3) := by decide +kernel
theorem dX4_play_84 : decode cX4_play 84 = .ok (.aload_n 0, 1) := by decide +kernel
theorem dX4_play_85 : decode cX4_play 85 = .ok (.iload_n 2, 1) := by decide +kernel
theorem dX4_play_86 : decode cX4_play 86 = .ok (.iload_n 3, 1) := by decide +kernel
theorem dX4_play_87 : decode cX4_play 87 = .ok (.invokevirtual 128, 3) := by decide +kernel
theorem dX4_play_90 : decode cX4_play 90 = .ok (.istore 4, 2) := by decide +kernel
theorem dX4_play_92 : decode cX4_play 92 = .ok (.iload 4, 2) := by decide +kernel
theorem dX4_play_94 : decode cX4_play 94 = .ok (.ifCond .eq 12, 3) := by decide +kernel
theorem dX4_play_97 : decode cX4_play 97 = .ok (.aload_n 0, 1) := by decide +kernel
theorem dX4_play_98 : decode cX4_play 98 = .ok (.iload_n 2, 1) := by decide +kernel
theorem dX4_play_99 : decode cX4_play 99 = .ok (.iload_n 3, 1) := by decide +kernel
theorem dX4_play_100 : decode cX4_play 100 = .ok (.invokevirtual 131, 3) := by decide +kernel
theorem dX4_play_103 : decode cX4_play 103 = .ok (.iinc 1 1, 3) := by decide +kernel
theorem dX4_play_106 : decode cX4_play 106 = .ok (.iconst 0, 1) := by decide +kernel
theorem dX4_play_107 : decode cX4_play 107 = .ok (.istore_n 3, 1) := by decide +kernel
theorem dX4_play_108 : decode cX4_play 108 = .ok (.goto 28, 3) := by decide +kernel
theorem dX4_play_111 : decode cX4_play 111 = .ok (.iload 6, 2) := by decide +kernel
theorem dX4_play_113 : decode cX4_play 113 = .ok (.invokestatic 135, 3) := by decide +kernel
theorem dX4_play_116 : decode cX4_play 116 = .ok (.ifCond .eq 17, 3) := by decide +kernel
theorem dX4_play_119 : decode cX4_play 119 = .ok (.bipush 10, 2) := by decide +kernel
theorem dX4_play_121 : decode cX4_play 121 = .ok (.iload_n 3, 1) := by decide +kernel
theorem dX4_play_122 : decode cX4_play 122 = .ok (.imul, 1) := by decide +kernel
theorem dX4_play_123 : decode cX4_play 123 = .ok (.iload 6, 2) := by decide +kernel
theorem dX4_play_125 : decode cX4_play 125 = .ok (.iadd, 1) := by decide +kernel
theorem dX4_play_126 : decode cX4_play 126 = .ok (.bipush 48, 2) := by decide +kernel
theorem dX4_play_128 : decode cX4_play 128 = .ok (.isub, 1) := by decide +kernel
theorem dX4_play_129 : decode cX4_play 129 = .ok (.istore_n 3, 1) := by decide +kernel
theorem dX4_play_130 : decode cX4_play 130 = .ok (.goto 6, 3) := by decide +kernel
theorem dX4_play_133 : decode cX4_play 133 = .ok (.iload 6, 2) := by decide +kernel
theorem dX4_play_135 : decode cX4_play 135 = .ok (.istore_n 2, 1) := by decide +kernel
theorem dX4_play_136 : decode cX4_play 136 = .ok (.iinc 5 1, 3) := by decide +kernel
theorem dX4_play_139 : decode cX4_play 139 = .ok (.goto (-107), 3) := by decide +kernel
theorem dX4_play_142 : decode cX4_play 142 = .ok (.aload_n 0, 1) := by decide +kernel
theorem dX4_play_143 : decode cX4_play 143 = .ok (.getfield 31, 3) := by decide +kernel
theorem dX4_play_146 : decode cX4_play 146 = .ok (.iconst 0, 1) := by decide +kernel
theorem dX4_play_147 : decode cX4_play 147 = .ok (.putfield 112, 3) := by decide +kernel
theorem dX4_play_150 : decode cX4_play 150 = .ok (.iload_n 1, 1) := by decide +kernel
theorem dX4_play_151 : decode cX4_play 151 = .ok (.ireturn, 1) := by decide +kernel
set_option maxRecDepth 20000 in
theorem ggX4_count_X4_number : GoodIn wsX4_count wsX4_number := goodIn_r _ [7, 8, 9, 10, 11, 12, 13, 14, 15, 16, 17, 18, 19, 20, 21, 22, 23, 24, 25, 26, 27, 28, 29, 30, 31, 32, 33, 34, 35, 36, 37, 38, 39, 40, 41, 42, 43, 44, 45, 46, 47, 48, 49, 50, 51, 52, 53, 54, 55, 56, 57, 58, 59, 60, 61, 62, 63, 64, 65, 66, 67, 68, 69, 70, 71, 72, 73, 74] rfl (by decide +kernel)
set_option maxRecDepth 20000 in
theorem gX4_count_X4_number : GoodIn wsX4_count (wsV RX4 140 RX4 yX4_number wsX4_number) := goodIn_app (goodIn_r _ [3, 4, 5, 6] rfl (by decide +kernel)) ggX4_count_X4_number
theorem dX4_count_0 : decode cX4_count 0 = .ok (.iload_n 1, 1) := by decide +kernel
theorem dX4_count_1 : decode cX4_count 1 = .ok (.ifCond .lt 9, 3) := by decide +kernel
theorem dX4_count_4 : decode cX4_count 4 = .ok (.iload_n 1, 1) := by decide +kernel
theorem dX4_count_5 : decode cX4_count 5 = .ok (.bipush 15, 2) := by decide +kernel
theorem dX4_count_7 : decode cX4_count 7 = .ok (.if_icmp .lt 13, 3) := by decide +kernel
theorem dX4_count_10 : decode cX4_count 10 = .ok (.new 35, 3) := by decide +kernel
theorem dX4_count_13 : decode cX4_count 13 = .ok (.dup, 1) := by decide +kernel
theorem dX4_count_14 : decode cX4_count 14 = .ok (.ldc 138, 2) := by decide +kernel
theorem dX4_count_16 : decode cX4_count 16 = .ok (.invokespecial 39, 3) := by decide +kernel
theorem dX4_count_19 : decode cX4_count 19 = .ok (.athrow, 1) := by decide +kernel
theorem dX4_count_20 : decode cX4_count 20 = .ok (.aload_n 0, 1) := by decide +kernel
theorem dX4_count_21 : decode cX4_count 21 = .ok (.iload_n 1, 1) := by decide +kernel
theorem dX4_count_22 : decode cX4_count 22 = .ok (.invokevirtual 140, 3) := by decide +kernel
theorem dX4_count_25 : decode cX4_count 25 = .ok (.ireturn, 1) := by decide +kernel
set_option maxRecDepth 20000 in
theorem ggX4_phase_X1_property : GoodIn wsX4_phase wsX1_property := goodIn_r _ [12, 13, 14, 15, 16, 17, 18, 19, 41, 42, 43, 44, 45, 46, 47] rfl (by decide +kernel)
set_option maxRecDepth 20000 in
theorem gX4_phase_X1_property : GoodIn wsX4_phase (wsV RX4 151 RX1 yX1_property wsX1_property) := goodIn_app (goodIn_r _ [8, 9, 10, 11] rfl (by decide +kernel)) ggX4_phase_X1_property
theorem dX4_phase_0 : decode cX4_phase 0 = .ok (.iload_n 1, 1) := by decide +kernel
theorem dX4_phase_1 : decode cX4_phase 1 = .ok (.ifCond .lt 26, 3) := by decide +kernel
theorem dX4_phase_4 : decode cX4_phase 4 = .ok (.iload_n 1, 1) := by decide +kernel
theorem dX4_phase_5 : decode cX4_phase 5 = .ok (.aload_n 0, 1) := by decide +kernel
theorem dX4_phase_6 : decode cX4_phase 6 = .ok (.getfield 14, 3) := by decide +kernel
theorem dX4_phase_9 : decode cX4_phase 9 = .ok (.getfield 42, 3) := by decide +kernel
theorem dX4_phase_12 : decode cX4_phase 12 = .ok (.if_icmp .ge 15, 3) := by decide +kernel
theorem dX4_phase_15 : decode cX4_phase 15 = .ok (.iload_n 1, 1) := by decide +kernel
theorem dX4_phase_16 : decode cX4_phase 16 = .ok (.aload_n 0, 1) := by decide +kernel
theorem dX4_phase_17 : decode cX4_phase 17 = .ok (.getfield 14, 3) := by decide +kernel
theorem dX4_phase_20 : decode cX4_phase 20 = .ok (.getfield 143, 3) := by decide +kernel
theorem dX4_phase_23 : decode cX4_phase 23 = .ok (.arraylength, 1) := by decide +kernel
theorem dX4_phase_24 : decode cX4_phase 24 = .ok (.if_icmp .lt 13, 3) := by decide +kernel
theorem dX4_phase_27 : decode cX4_phase 27 = .ok (.new 56, 3) := by decide +kernel
theorem dX4_phase_30 : decode cX4_phase 30 = .ok (.dup, 1) := by decide +kernel
theorem dX4_phase_31 : decode cX4_phase 31 = .ok (.ldc 147, 2) := by decide +kernel
theorem dX4_phase_33 : decode cX4_phase 33 = .ok (.invokespecial 60, 3) := by decide +kernel
theorem dX4_phase_36 : decode cX4_phase 36 = .ok (.athrow, 1) := by decide +kernel
theorem dX4_phase_37 : decode cX4_phase 37 = .ok (.iload_n 2, 1) := by decide +kernel
theorem dX4_phase_38 : decode cX4_phase 38 = .ok (.ifCond .lt 9, 3) := by decide +kernel
theorem dX4_phase_41 : decode cX4_phase 41 = .ok (.iload_n 2, 1) := by decide +kernel
theorem dX4_phase_42 : decode cX4_phase 42 = .ok (.bipush 7, 2) := by decide +kernel
theorem dX4_phase_44 : decode cX4_phase 44 = .ok (.if_icmp .lt 13, 3) := by decide +kernel
theorem dX4_phase_47 : decode cX4_phase 47 = .ok (.new 35, 3) := by decide +kernel
theorem dX4_phase_50 : decode cX4_phase 50 = .ok (.dup, 1) := by decide +kernel
theorem dX4_phase_51 : decode cX4_phase 51 = .ok (.ldc 149, 2) := by decide +kernel
theorem dX4_phase_53 : decode cX4_phase 53 = .ok (.invokespecial 39, 3) := by decide +kernel
theorem dX4_phase_56 : decode cX4_phase 56 = .ok (.athrow, 1) := by decide +kernel
theorem dX4_phase_57 : decode cX4_phase 57 = .ok (.aload_n 0, 1) := by decide +kernel
theorem dX4_phase_58 : decode cX4_phase 58 = .ok (.getfield 14, 3) := by decide +kernel
theorem dX4_phase_61 : decode cX4_phase 61 = .ok (.getfield 143, 3) := by decide +kernel
theorem dX4_phase_64 : decode cX4_phase 64 = .ok (.iload_n 1, 1) := by decide +kernel
theorem dX4_phase_65 : decode cX4_phase 65 = .ok (.aaload, 1) := by decide +kernel
theorem dX4_phase_66 : decode cX4_phase 66 = .ok (.iload_n 2, 1) := by decide +kernel
theorem dX4_phase_67 : decode cX4_phase 67 = .ok (.invokevirtual 151, 3) := by decide +kernel
theorem dX4_phase_70 : decode cX4_phase 70 = .ok (.ireturn, 1) := by decide +kernel
set_option maxRecDepth 20000 in
theorem ggX4_record_X0_part : GoodIn wsX4_record wsX0_part := goodIn_r _ [11, 12, 13, 18, 19, 20] rfl (by decide +kernel)
set_option maxRecDepth 20000 in
theorem gX4_record_X0_part : GoodIn wsX4_record (wsV RX4 163 RX0 yX0_part wsX0_part) := goodIn_app (goodIn_r _ [7, 8, 9, 10] rfl (by decide +kernel)) ggX4_record_X0_part
theorem dX4_record_0 : decode cX4_record 0 = .ok (.iload_n 1, 1) := by decide +kernel
theorem dX4_record_1 : decode cX4_record 1 = .ok (.ifCond .lt 14, 3) := by decide +kernel
theorem dX4_record_4 : decode cX4_record 4 = .ok (.iload_n 1, 1) := by decide +kernel
theorem dX4_record_5 : decode cX4_record 5 = .ok (.aload_n 0, 1) := by decide +kernel
theorem dX4_record_6 : decode cX4_record 6 = .ok (.getfield 24, 3) := by decide +kernel
theorem dX4_record_9 : decode cX4_record 9 = .ok (.getfield 156, 3) := by decide +kernel
theorem dX4_record_12 : decode cX4_record 12 = .ok (.if_icmp .lt 13, 3) := by decide +kernel
theorem dX4_record_15 : decode cX4_record 15 = .ok (.new 56, 3) := by decide +kernel
theorem dX4_record_18 : decode cX4_record 18 = .ok (.dup, 1) := by decide +kernel
theorem dX4_record_19 : decode cX4_record 19 = .ok (.ldc 159, 2) := by decide +kernel
theorem dX4_record_21 : decode cX4_record 21 = .ok (.invokespecial 60, 3) := by decide +kernel
theorem dX4_record_24 : decode cX4_record 24 = .ok (.athrow, 1) := by decide +kernel
theorem dX4_record_25 : decode cX4_record 25 = .ok (.iload_n 2, 1) := by decide +kernel
theorem dX4_record_26 : decode cX4_record 26 = .ok (.ifCond .lt 9, 3) := by decide +kernel
theorem dX4_record_29 : decode cX4_record 29 = .ok (.iload_n 2, 1) := by decide +kernel
theorem dX4_record_30 : decode cX4_record 30 = .ok (.bipush 6, 2) := by decide +kernel
theorem dX4_record_32 : decode cX4_record 32 = .ok (.if_icmp .lt 13, 3) := by decide +kernel
theorem dX4_record_35 : decode cX4_record 35 = .ok (.new 35, 3) := by decide +kernel
theorem dX4_record_38 : decode cX4_record 38 = .ok (.dup, 1) := by decide +kernel
theorem dX4_record_39 : decode cX4_record 39 = .ok (.ldc 161, 2) := by decide +kernel
theorem dX4_record_41 : decode cX4_record 41 = .ok (.invokespecial 39, 3) := by decide +kernel
theorem dX4_record_44 : decode cX4_record 44 = .ok (.athrow, 1) := by decide +kernel
theorem dX4_record_45 : decode cX4_record 45 = .ok (.aload_n 0, 1) := by decide +kernel
theorem dX4_record_46 : decode cX4_record 46 = .ok (.getfield 24, 3) := by decide +kernel
theorem dX4_record_49 : decode cX4_record 49 = .ok (.iload_n 1, 1) := by decide +kernel
theorem dX4_record_50 : decode cX4_record 50 = .ok (.iload_n 2, 1) := by decide +kernel
theorem dX4_record_51 : decode cX4_record 51 = .ok (.invokevirtual 163, 3) := by decide +kernel
theorem dX4_record_54 : decode cX4_record 54 = .ok (.ireturn, 1) := by decide +kernel
set_option maxRecDepth 20000 in
theorem ggX4_ifLoaded_X4_fits : GoodIn wsX4_ifLoaded wsX4_fits := goodIn_r _ [22, 23, 24, 25, 26, 21, 27] rfl (by decide +kernel)
set_option maxRecDepth 20000 in
theorem gX4_ifLoaded_X4_fits : GoodIn wsX4_ifLoaded (va_wsS RX4 61 yX4_fits wsX4_fits) := goodIn_app (goodIn_r _ [19, 20, 21] rfl (by decide +kernel)) ggX4_ifLoaded_X4_fits
set_option maxRecDepth 20000 in
theorem ggX4_ifLoaded_X4_beginTrial : GoodIn wsX4_ifLoaded wsX4_beginTrial := goodIn_r _ [31, 3, 32, 33, 34, 35, 36, 37, 38, 39, 40, 41, 42, 43, 44, 45, 46, 47, 48, 49, 50, 51, 52, 53, 54, 55, 56, 57, 58, 59, 60, 61, 62, 63, 64, 65, 66, 67, 68, 69, 70, 142, 143, 144, 145, 146, 147, 148, 149, 150, 151, 152, 153, 154, 155, 156, 157, 158, 159, 160, 161, 162, 163, 164, 165, 166, 167, 168, 169] rfl (by decide +kernel)
set_option maxRecDepth 20000 in
theorem gX4_ifLoaded_X4_beginTrial : GoodIn wsX4_ifLoaded (wsV RX4 169 RX4 yX4_beginTrial wsX4_beginTrial) := goodIn_app (goodIn_r _ [28, 29, 30, 21] rfl (by decide +kernel)) ggX4_ifLoaded_X4_beginTrial
set_option maxRecDepth 20000 in
theorem ggX4_ifLoaded_X2_passCycle : GoodIn wsX4_ifLoaded wsX2_passCycle := goodIn_r _ [74, 38, 47, 55, 75, 9, 10, 11, 56, 76, 14, 15, 54, 53, 77, 78, 79, 36, 80, 46, 81, 82, 83, 84, 43, 85, 86, 87, 88, 89, 48, 90, 91, 92, 93, 49, 94, 95, 50, 96, 21, 97, 98, 99, 100, 101, 102, 103, 45, 44, 51, 52, 104, 105, 106, 107, 58, 108, 109, 110, 111, 112, 113, 114, 115, 116, 117, 118, 119, 62, 120, 65, 69, 121, 122, 123, 124, 125, 126, 127, 128, 66, 70, 129, 130, 131, 132, 57, 133, 134, 135, 136, 64, 68, 67, 137, 138, 139, 140, 141, 146, 147, 148, 149, 150, 151, 152, 153, 154, 155, 156, 157, 158, 159, 160, 161, 162, 163, 164, 165, 166, 167, 168, 169] rfl (by decide +kernel)
set_option maxRecDepth 20000 in
theorem gX4_ifLoaded_X2_passCycle : GoodIn wsX4_ifLoaded (wsV RX4 176 RX2 yX2_passCycle wsX2_passCycle) := goodIn_app (goodIn_r _ [71, 72, 73, 36] rfl (by decide +kernel)) ggX4_ifLoaded_X2_passCycle
theorem dX4_ifLoaded_0 : decode cX4_ifLoaded 0 = .ok (.iconst 2, 1) := by decide +kernel
theorem dX4_ifLoaded_1 : decode cX4_ifLoaded 1 = .ok (.iload_n 1, 1) := by decide +kernel
theorem dX4_ifLoaded_2 : decode cX4_ifLoaded 2 = .ok (.invokestatic 61, 3) := by decide +kernel
theorem dX4_ifLoaded_5 : decode cX4_ifLoaded 5 = .ok (.ifCond .eq 24, 3) := by decide +kernel
theorem dX4_ifLoaded_8 : decode cX4_ifLoaded 8 = .ok (.iload_n 2, 1) := by decide +kernel
theorem dX4_ifLoaded_9 : decode cX4_ifLoaded 9 = .ok (.iconst 1, 1) := by decide +kernel
theorem dX4_ifLoaded_10 : decode cX4_ifLoaded 10 = .ok (.if_icmp .lt 19, 3) := by decide +kernel
theorem dX4_ifLoaded_13 : decode cX4_ifLoaded 13 = .ok (.iload_n 2, 1) := by decide +kernel
theorem dX4_ifLoaded_14 : decode cX4_ifLoaded 14 = .ok (.bipush 100, 2) := by decide +kernel
theorem dX4_ifLoaded_16 : decode cX4_ifLoaded 16 = .ok (.if_icmp .gt 13, 3) := by decide +kernel
theorem dX4_ifLoaded_19 : decode cX4_ifLoaded 19 = .ok (.iload_n 3, 1) := by decide +kernel
theorem dX4_ifLoaded_20 : decode cX4_ifLoaded 20 = .ok (.ifCond .lt 9, 3) := by decide +kernel
theorem dX4_ifLoaded_23 : decode cX4_ifLoaded 23 = .ok (.iload_n 3, 1) := by decide +kernel
theorem dX4_ifLoaded_24 : decode cX4_ifLoaded 24 = .ok (.bipush 6, 2) := by decide +kernel
theorem dX4_ifLoaded_26 : decode cX4_ifLoaded 26 = .ok (.if_icmp .lt 13, 3) := by decide +kernel
theorem dX4_ifLoaded_29 : decode cX4_ifLoaded 29 = .ok (.new 35, 3) := by decide +kernel
theorem dX4_ifLoaded_32 : decode cX4_ifLoaded 32 = .ok (.dup, 1) := by decide +kernel
theorem dX4_ifLoaded_33 : decode cX4_ifLoaded 33 = .ok (.ldc 167, 2) := by decide +kernel
theorem dX4_ifLoaded_35 : decode cX4_ifLoaded 35 = .ok (.invokespecial 39, 3) := by decide +kernel
theorem dX4_ifLoaded_38 : decode cX4_ifLoaded 38 = .ok (.athrow, 1) := by decide +kernel
theorem dX4_ifLoaded_39 : decode cX4_ifLoaded 39 = .ok (.aload_n 0, 1) := by decide +kernel
theorem dX4_ifLoaded_40 : decode cX4_ifLoaded 40 = .ok (.invokevirtual 169, 3) := by decide +kernel
theorem dX4_ifLoaded_43 : decode cX4_ifLoaded 43 = .ok (.aload_n 0, 1) := by decide +kernel
theorem dX4_ifLoaded_44 : decode cX4_ifLoaded 44 = .ok (.getfield 18, 3) := by decide +kernel
theorem dX4_ifLoaded_47 : decode cX4_ifLoaded 47 = .ok (.getfield 67, 3) := by decide +kernel
theorem dX4_ifLoaded_50 : decode cX4_ifLoaded 50 = .ok (.iconst 2, 1) := by decide +kernel
theorem dX4_ifLoaded_51 : decode cX4_ifLoaded 51 = .ok (.iload_n 1, 1) := by decide +kernel
theorem dX4_ifLoaded_52 : decode cX4_ifLoaded 52 = .ok (.iastore, 1) := by decide +kernel
theorem dX4_ifLoaded_53 : decode cX4_ifLoaded 53 = .ok (.aload_n 0, 1) := by decide +kernel
theorem dX4_ifLoaded_54 : decode cX4_ifLoaded 54 = .ok (.getfield 18, 3) := by decide +kernel
theorem dX4_ifLoaded_57 : decode cX4_ifLoaded 57 = .ok (.iconst 0, 1) := by decide +kernel
theorem dX4_ifLoaded_58 : decode cX4_ifLoaded 58 = .ok (.putfield 172, 3) := by decide +kernel
theorem dX4_ifLoaded_61 : decode cX4_ifLoaded 61 = .ok (.ldc 175, 2) := by decide +kernel
theorem dX4_ifLoaded_63 : decode cX4_ifLoaded 63 = .ok (.istore 4, 2) := by decide +kernel
theorem dX4_ifLoaded_65 : decode cX4_ifLoaded 65 = .ok (.iconst 0, 1) := by decide +kernel
theorem dX4_ifLoaded_66 : decode cX4_ifLoaded 66 = .ok (.istore 5, 2) := by decide +kernel
theorem dX4_ifLoaded_68 : decode cX4_ifLoaded 68 = .ok (.iconst 0, 1) := by decide +kernel
theorem dX4_ifLoaded_69 : decode cX4_ifLoaded 69 = .ok (.istore 6, 2) := by decide +kernel
theorem dX4_ifLoaded_71 : decode cX4_ifLoaded 71 = .ok (.iload 6, 2) := by decide +kernel
theorem dX4_ifLoaded_73 : decode cX4_ifLoaded 73 = .ok (.iload_n 2, 1) := by decide +kernel
theorem dX4_ifLoaded_74 : decode cX4_ifLoaded 74 = .ok (.if_icmp .ge 44, 3) := by decide +kernel
theorem dX4_ifLoaded_77 : decode cX4_ifLoaded 77 = .ok (.aload_n 0, 1) := by decide +kernel
theorem dX4_ifLoaded_78 : decode cX4_ifLoaded 78 = .ok (.getfield 18, 3) := by decide +kernel
theorem dX4_ifLoaded_81 : decode cX4_ifLoaded 81 = .ok (.invokevirtual 176, 3) := by decide +kernel
theorem dX4_ifLoaded_84 : decode cX4_ifLoaded 84 = .ok (.iload 4, 2) := by decide +kernel
theorem dX4_ifLoaded_86 : decode cX4_ifLoaded 86 = .ok (.aload_n 0, 1) := by decide +kernel
theorem dX4_ifLoaded_87 : decode cX4_ifLoaded 87 = .ok (.getfield 18, 3) := by decide +kernel
theorem dX4_ifLoaded_90 : decode cX4_ifLoaded 90 = .ok (.getfield 179, 3) := by decide +kernel
theorem dX4_ifLoaded_93 : decode cX4_ifLoaded 93 = .ok (.invokestatic 182, 3) := by decide +kernel
theorem dX4_ifLoaded_96 : decode cX4_ifLoaded 96 = .ok (.istore 4, 2) := by decide +kernel
theorem dX4_ifLoaded_98 : decode cX4_ifLoaded 98 = .ok (.iload 5, 2) := by decide +kernel
theorem dX4_ifLoaded_100 : decode cX4_ifLoaded 100 = .ok (.aload_n 0, 1) := by decide +kernel
theorem dX4_ifLoaded_101 : decode cX4_ifLoaded 101 = .ok (.getfield 18, 3) := by decide +kernel
theorem dX4_ifLoaded_104 : decode cX4_ifLoaded 104 = .ok (.getfield 187, 3) := by decide +kernel
theorem dX4_ifLoaded_107 : decode cX4_ifLoaded 107 = .ok (.invokestatic 190, 3) := by decide +kernel
theorem dX4_ifLoaded_110 : decode cX4_ifLoaded 110 = .ok (.istore 5, 2) := by decide +kernel
theorem dX4_ifLoaded_112 : decode cX4_ifLoaded 112 = .ok (.iinc 6 1, 3) := by decide +kernel
theorem dX4_ifLoaded_115 : decode cX4_ifLoaded 115 = .ok (.goto (-44), 3) := by decide +kernel
theorem dX4_ifLoaded_118 : decode cX4_ifLoaded 118 = .ok (.iload_n 3, 1) := by decide +kernel
theorem dX4_ifLoaded_119 : decode cX4_ifLoaded 119 = .ok (.tableswitch 63 0 4 #[33, 41, 44, 47, 55], 33) := by decide +kernel
theorem dX4_ifLoaded_152 : decode cX4_ifLoaded 152 = .ok (.aload_n 0, 1) := by decide +kernel
theorem dX4_ifLoaded_153 : decode cX4_ifLoaded 153 = .ok (.getfield 18, 3) := by decide +kernel
theorem dX4_ifLoaded_156 : decode cX4_ifLoaded 156 = .ok (.getfield 83, 3) := by decide +kernel
theorem dX4_ifLoaded_159 : decode cX4_ifLoaded 159 = .ok (.ireturn, 1) := by decide +kernel
theorem dX4_ifLoaded_160 : decode cX4_ifLoaded 160 = .ok (.iload 4, 2) := by decide +kernel
theorem dX4_ifLoaded_162 : decode cX4_ifLoaded 162 = .ok (.ireturn, 1) := by decide +kernel
theorem dX4_ifLoaded_163 : decode cX4_ifLoaded 163 = .ok (.iload 5, 2) := by decide +kernel
theorem dX4_ifLoaded_165 : decode cX4_ifLoaded 165 = .ok (.ireturn, 1) := by decide +kernel
theorem dX4_ifLoaded_166 : decode cX4_ifLoaded 166 = .ok (.aload_n 0, 1) := by decide +kernel
theorem dX4_ifLoaded_167 : decode cX4_ifLoaded 167 = .ok (.getfield 18, 3) := by decide +kernel
theorem dX4_ifLoaded_170 : decode cX4_ifLoaded 170 = .ok (.getfield 86, 3) := by decide +kernel
theorem dX4_ifLoaded_173 : decode cX4_ifLoaded 173 = .ok (.ireturn, 1) := by decide +kernel
theorem dX4_ifLoaded_174 : decode cX4_ifLoaded 174 = .ok (.aload_n 0, 1) := by decide +kernel
theorem dX4_ifLoaded_175 : decode cX4_ifLoaded 175 = .ok (.getfield 18, 3) := by decide +kernel
theorem dX4_ifLoaded_178 : decode cX4_ifLoaded 178 = .ok (.getfield 193, 3) := by decide +kernel
theorem dX4_ifLoaded_181 : decode cX4_ifLoaded 181 = .ok (.ireturn, 1) := by decide +kernel
theorem dX4_ifLoaded_182 : decode cX4_ifLoaded 182 = .ok (.aload_n 0, 1) := by decide +kernel
theorem dX4_ifLoaded_183 : decode cX4_ifLoaded 183 = .ok (.getfield 18, 3) := by decide +kernel
theorem dX4_ifLoaded_186 : decode cX4_ifLoaded 186 = .ok (.getfield 172, 3) := by decide +kernel
theorem dX4_ifLoaded_189 : decode cX4_ifLoaded 189 = .ok (.ireturn, 1) := by decide +kernel
set_option maxRecDepth 20000 in
theorem ggX4_settles_X4_beginTrial : GoodIn wsX4_settles wsX4_beginTrial := goodIn_r _ [14, 3, 15, 16, 17, 18, 19, 20, 21, 22, 23, 24, 25, 26, 27, 28, 29, 30, 31, 32, 33, 34, 35, 36, 37, 38, 39, 40, 41, 42, 43, 44, 45, 46, 47, 48, 49, 50, 51, 52, 53, 129, 130, 131, 132, 133, 134, 135, 136, 137, 138, 139, 140, 141, 142, 143, 144, 145, 146, 147, 148, 149, 150, 151, 152, 153, 154, 155, 156] rfl (by decide +kernel)
set_option maxRecDepth 20000 in
theorem gX4_settles_X4_beginTrial : GoodIn wsX4_settles (wsV RX4 169 RX4 yX4_beginTrial wsX4_beginTrial) := goodIn_app (goodIn_r _ [10, 11, 12, 13] rfl (by decide +kernel)) ggX4_settles_X4_beginTrial
set_option maxRecDepth 20000 in
theorem ggX4_settles_X2_passCycle : GoodIn wsX4_settles wsX2_passCycle := goodIn_r _ [57, 21, 30, 38, 58, 59, 8, 60, 39, 61, 62, 63, 37, 36, 64, 65, 66, 19, 67, 29, 68, 69, 70, 71, 26, 72, 73, 74, 75, 76, 31, 77, 78, 79, 80, 32, 81, 82, 33, 83, 13, 84, 85, 86, 87, 88, 89, 90, 28, 27, 34, 35, 91, 92, 93, 94, 41, 95, 96, 97, 98, 99, 100, 101, 102, 103, 104, 105, 106, 45, 107, 48, 52, 108, 109, 110, 111, 112, 113, 114, 115, 49, 53, 116, 117, 118, 119, 40, 120, 121, 122, 123, 47, 51, 50, 124, 125, 126, 127, 128, 133, 134, 135, 136, 137, 138, 139, 140, 141, 142, 143, 144, 145, 146, 147, 148, 149, 150, 151, 152, 153, 154, 155, 156] rfl (by decide +kernel)
set_option maxRecDepth 20000 in
theorem gX4_settles_X2_passCycle : GoodIn wsX4_settles (wsV RX4 176 RX2 yX2_passCycle wsX2_passCycle) := goodIn_app (goodIn_r _ [54, 55, 56, 19] rfl (by decide +kernel)) ggX4_settles_X2_passCycle
theorem dX4_settles_0 : decode cX4_settles 0 = .ok (.iload_n 1, 1) := by decide +kernel
theorem dX4_settles_1 : decode cX4_settles 1 = .ok (.ifCond .lt 10, 3) := by decide +kernel
theorem dX4_settles_4 : decode cX4_settles 4 = .ok (.iload_n 1, 1) := by decide +kernel
theorem dX4_settles_5 : decode cX4_settles 5 = .ok (.sipush 5000, 3) := by decide +kernel
theorem dX4_settles_8 : decode cX4_settles 8 = .ok (.if_icmp .le 13, 3) := by decide +kernel
theorem dX4_settles_11 : decode cX4_settles 11 = .ok (.new 35, 3) := by decide +kernel
theorem dX4_settles_14 : decode cX4_settles 14 = .ok (.dup, 1) := by decide +kernel
theorem dX4_settles_15 : decode cX4_settles 15 = .ok (.ldc 196, 2) := by decide +kernel
theorem dX4_settles_17 : decode cX4_settles 17 = .ok (.invokespecial 39, 3) := by decide +kernel
theorem dX4_settles_20 : decode cX4_settles 20 = .ok (.athrow, 1) := by decide +kernel
theorem dX4_settles_21 : decode cX4_settles 21 = .ok (.aload_n 0, 1) := by decide +kernel
theorem dX4_settles_22 : decode cX4_settles 22 = .ok (.invokevirtual 169, 3) := by decide +kernel
theorem dX4_settles_25 : decode cX4_settles 25 = .ok (.aload_n 0, 1) := by decide +kernel
theorem dX4_settles_26 : decode cX4_settles 26 = .ok (.getfield 18, 3) := by decide +kernel
theorem dX4_settles_29 : decode cX4_settles 29 = .ok (.getfield 67, 3) := by decide +kernel
theorem dX4_settles_32 : decode cX4_settles 32 = .ok (.iconst 1, 1) := by decide +kernel
theorem dX4_settles_33 : decode cX4_settles 33 = .ok (.iaload, 1) := by decide +kernel
theorem dX4_settles_34 : decode cX4_settles 34 = .ok (.istore_n 2, 1) := by decide +kernel
theorem dX4_settles_35 : decode cX4_settles 35 = .ok (.iconst 0, 1) := by decide +kernel
theorem dX4_settles_36 : decode cX4_settles 36 = .ok (.istore_n 3, 1) := by decide +kernel
theorem dX4_settles_37 : decode cX4_settles 37 = .ok (.iconst 1, 1) := by decide +kernel
theorem dX4_settles_38 : decode cX4_settles 38 = .ok (.istore 4, 2) := by decide +kernel
theorem dX4_settles_40 : decode cX4_settles 40 = .ok (.iload 4, 2) := by decide +kernel
theorem dX4_settles_42 : decode cX4_settles 42 = .ok (.sipush 202, 3) := by decide +kernel
theorem dX4_settles_45 : decode cX4_settles 45 = .ok (.if_icmp .gt 52, 3) := by decide +kernel
theorem dX4_settles_48 : decode cX4_settles 48 = .ok (.aload_n 0, 1) := by decide +kernel
theorem dX4_settles_49 : decode cX4_settles 49 = .ok (.getfield 18, 3) := by decide +kernel
theorem dX4_settles_52 : decode cX4_settles 52 = .ok (.invokevirtual 176, 3) := by decide +kernel
theorem dX4_settles_55 : decode cX4_settles 55 = .ok (.aload_n 0, 1) := by decide +kernel
theorem dX4_settles_56 : decode cX4_settles 56 = .ok (.getfield 18, 3) := by decide +kernel
theorem dX4_settles_59 : decode cX4_settles 59 = .ok (.getfield 83, 3) := by decide +kernel
theorem dX4_settles_62 : decode cX4_settles 62 = .ok (.iload_n 2, 1) := by decide +kernel
theorem dX4_settles_63 : decode cX4_settles 63 = .ok (.isub, 1) := by decide +kernel
theorem dX4_settles_64 : decode cX4_settles 64 = .ok (.invokestatic 198, 3) := by decide +kernel
theorem dX4_settles_67 : decode cX4_settles 67 = .ok (.iload_n 1, 1) := by decide +kernel
theorem dX4_settles_68 : decode cX4_settles 68 = .ok (.if_icmp .gt 9, 3) := by decide +kernel
theorem dX4_settles_71 : decode cX4_settles 71 = .ok (.iload_n 3, 1) := by decide +kernel
theorem dX4_settles_72 : decode cX4_settles 72 = .ok (.iconst 1, 1) := by decide +kernel
theorem dX4_settles_73 : decode cX4_settles 73 = .ok (.iadd, 1) := by decide +kernel
theorem dX4_settles_74 : decode cX4_settles 74 = .ok (.goto 4, 3) := by decide +kernel
theorem dX4_settles_77 : decode cX4_settles 77 = .ok (.iconst 0, 1) := by decide +kernel
theorem dX4_settles_78 : decode cX4_settles 78 = .ok (.istore_n 3, 1) := by decide +kernel
theorem dX4_settles_79 : decode cX4_settles 79 = .ok (.iload_n 3, 1) := by decide +kernel
theorem dX4_settles_80 : decode cX4_settles 80 = .ok (.iconst 3, 1) := by decide +kernel
theorem dX4_settles_81 : decode cX4_settles 81 = .ok (.if_icmp .ne 10, 3) := by decide +kernel
theorem dX4_settles_84 : decode cX4_settles 84 = .ok (.iload 4, 2) := by decide +kernel
theorem dX4_settles_86 : decode cX4_settles 86 = .ok (.iconst 3, 1) := by decide +kernel
theorem dX4_settles_87 : decode cX4_settles 87 = .ok (.isub, 1) := by decide +kernel
theorem dX4_settles_88 : decode cX4_settles 88 = .ok (.iconst 1, 1) := by decide +kernel
theorem dX4_settles_89 : decode cX4_settles 89 = .ok (.iadd, 1) := by decide +kernel
theorem dX4_settles_90 : decode cX4_settles 90 = .ok (.ireturn, 1) := by decide +kernel
theorem dX4_settles_91 : decode cX4_settles 91 = .ok (.iinc 4 1, 3) := by decide +kernel
theorem dX4_settles_94 : decode cX4_settles 94 = .ok (.goto (-54), 3) := by decide +kernel
theorem dX4_settles_97 : decode cX4_settles 97 = .ok (.iconst (-1), 1) := by decide +kernel
theorem dX4_settles_98 : decode cX4_settles 98 = .ok (.ireturn, 1) := by decide +kernel
set_option maxRecDepth 20000 in
theorem ggX4_greatestLoad_X4_holdsLevel : GoodIn wsX4_greatestLoad wsX4_holdsLevel := goodIn_r _ [8, 9, 10, 11, 12, 13, 14, 7, 15, 16, 17, 18, 19, 20, 21, 22, 23, 24, 25, 26, 27, 28, 29, 30, 31, 32, 33, 34, 35, 36, 37, 38, 39, 40, 41, 42, 43, 44, 45, 46, 47, 48, 49, 50, 51, 52, 53, 54, 55, 56, 57, 58, 59, 60, 61, 62, 63, 64, 65, 66, 67, 68, 69, 70, 71, 72, 73, 74, 75, 76, 77, 78, 79, 80, 81, 82, 83, 84, 85, 86, 87, 88, 89, 90, 91, 92, 93, 94, 95, 96, 97, 98, 99, 100, 101, 102, 103, 104, 105, 106, 107, 108, 109, 110, 111, 112, 113, 114, 115, 116, 117, 118, 119, 120, 121, 122, 123, 124, 125, 126, 127, 128, 129, 130, 131, 132, 133, 134, 135, 136, 137, 138, 139, 140, 141, 142, 143, 144, 145, 146, 147, 148, 149, 150, 151, 152, 153, 154, 155, 156, 157, 158] rfl (by decide +kernel)
set_option maxRecDepth 20000 in
theorem gX4_greatestLoad_X4_holdsLevel : GoodIn wsX4_greatestLoad (wsV RX4 203 RX4 yX4_holdsLevel wsX4_holdsLevel) := goodIn_app (goodIn_r _ [4, 5, 6, 7] rfl (by decide +kernel)) ggX4_greatestLoad_X4_holdsLevel
theorem dX4_greatestLoad_0 : decode cX4_greatestLoad 0 = .ok (.iload_n 1, 1) := by decide +kernel
theorem dX4_greatestLoad_1 : decode cX4_greatestLoad 1 = .ok (.ifCond .lt 9, 3) := by decide +kernel
theorem dX4_greatestLoad_4 : decode cX4_greatestLoad 4 = .ok (.iload_n 1, 1) := by decide +kernel
theorem dX4_greatestLoad_5 : decode cX4_greatestLoad 5 = .ok (.ldc 175, 2) := by decide +kernel
theorem dX4_greatestLoad_7 : decode cX4_greatestLoad 7 = .ok (.if_icmp .le 13, 3) := by decide +kernel
theorem dX4_greatestLoad_10 : decode cX4_greatestLoad 10 = .ok (.new 35, 3) := by decide +kernel
theorem dX4_greatestLoad_13 : decode cX4_greatestLoad 13 = .ok (.dup, 1) := by decide +kernel
theorem dX4_greatestLoad_14 : decode cX4_greatestLoad 14 = .ok (.ldc 201, 2) := by decide +kernel
theorem dX4_greatestLoad_16 : decode cX4_greatestLoad 16 = .ok (.invokespecial 39, 3) := by decide +kernel
theorem dX4_greatestLoad_19 : decode cX4_greatestLoad 19 = .ok (.athrow, 1) := by decide +kernel
theorem dX4_greatestLoad_20 : decode cX4_greatestLoad 20 = .ok (.sipush 20000, 3) := by decide +kernel
theorem dX4_greatestLoad_23 : decode cX4_greatestLoad 23 = .ok (.istore_n 2, 1) := by decide +kernel
theorem dX4_greatestLoad_24 : decode cX4_greatestLoad 24 = .ok (.iload_n 2, 1) := by decide +kernel
theorem dX4_greatestLoad_25 : decode cX4_greatestLoad 25 = .ok (.ifCond .lt 23, 3) := by decide +kernel
theorem dX4_greatestLoad_28 : decode cX4_greatestLoad 28 = .ok (.aload_n 0, 1) := by decide +kernel
theorem dX4_greatestLoad_29 : decode cX4_greatestLoad 29 = .ok (.iload_n 2, 1) := by decide +kernel
theorem dX4_greatestLoad_30 : decode cX4_greatestLoad 30 = .ok (.iload_n 1, 1) := by decide +kernel
theorem dX4_greatestLoad_31 : decode cX4_greatestLoad 31 = .ok (.invokevirtual 203, 3) := by decide +kernel
theorem dX4_greatestLoad_34 : decode cX4_greatestLoad 34 = .ok (.ifCond .eq 5, 3) := by decide +kernel
theorem dX4_greatestLoad_37 : decode cX4_greatestLoad 37 = .ok (.iload_n 2, 1) := by decide +kernel
theorem dX4_greatestLoad_38 : decode cX4_greatestLoad 38 = .ok (.ireturn, 1) := by decide +kernel
theorem dX4_greatestLoad_39 : decode cX4_greatestLoad 39 = .ok (.iinc 2 (-500), 6) := by decide +kernel
theorem dX4_greatestLoad_45 : decode cX4_greatestLoad 45 = .ok (.goto (-21), 3) := by decide +kernel
theorem dX4_greatestLoad_48 : decode cX4_greatestLoad 48 = .ok (.iconst (-1), 1) := by decide +kernel
theorem dX4_greatestLoad_49 : decode cX4_greatestLoad 49 = .ok (.ireturn, 1) := by decide +kernel
set_option maxRecDepth 20000 in
theorem ggX4_unbalance_X2_currentSpread : GoodIn wsX4_unbalance wsX2_currentSpread := goodIn_r _ [6, 7, 8, 9, 10, 11, 12, 13, 14, 15, 16, 21, 22, 23, 24, 25, 26, 27, 28, 29, 30, 31, 32, 33, 34, 35, 36, 37, 38, 39, 40, 41, 42, 43, 44] rfl (by decide +kernel)
set_option maxRecDepth 20000 in
theorem gX4_unbalance_X2_currentSpread : GoodIn wsX4_unbalance (wsV RX4 206 RX2 yX2_currentSpread wsX2_currentSpread) := goodIn_app (goodIn_r _ [2, 3, 4, 5] rfl (by decide +kernel)) ggX4_unbalance_X2_currentSpread
theorem dX4_unbalance_0 : decode cX4_unbalance 0 = .ok (.aload_n 0, 1) := by decide +kernel
theorem dX4_unbalance_1 : decode cX4_unbalance 1 = .ok (.getfield 14, 3) := by decide +kernel
theorem dX4_unbalance_4 : decode cX4_unbalance 4 = .ok (.invokevirtual 206, 3) := by decide +kernel
theorem dX4_unbalance_7 : decode cX4_unbalance 7 = .ok (.ireturn, 1) := by decide +kernel
set_option maxRecDepth 20000 in
theorem ggX4_meanVoltage_X0_part : GoodIn wsX4_meanVoltage wsX0_part := goodIn_r _ [7, 8, 9, 14, 15, 16] rfl (by decide +kernel)
set_option maxRecDepth 20000 in
theorem gX4_meanVoltage_X0_part : GoodIn wsX4_meanVoltage (wsV RX4 163 RX0 yX0_part wsX0_part) := goodIn_app (goodIn_r _ [3, 4, 5, 6] rfl (by decide +kernel)) ggX4_meanVoltage_X0_part
theorem dX4_meanVoltage_0 : decode cX4_meanVoltage 0 = .ok (.aload_n 0, 1) := by decide +kernel
theorem dX4_meanVoltage_1 : decode cX4_meanVoltage 1 = .ok (.getfield 24, 3) := by decide +kernel
theorem dX4_meanVoltage_4 : decode cX4_meanVoltage 4 = .ok (.getfield 156, 3) := by decide +kernel
theorem dX4_meanVoltage_7 : decode cX4_meanVoltage 7 = .ok (.istore_n 1, 1) := by decide +kernel
theorem dX4_meanVoltage_8 : decode cX4_meanVoltage 8 = .ok (.iload_n 1, 1) := by decide +kernel
theorem dX4_meanVoltage_9 : decode cX4_meanVoltage 9 = .ok (.iconst 1, 1) := by decide +kernel
theorem dX4_meanVoltage_10 : decode cX4_meanVoltage 10 = .ok (.if_icmp .ge 5, 3) := by decide +kernel
theorem dX4_meanVoltage_13 : decode cX4_meanVoltage 13 = .ok (.dconst 0, 1) := by decide +kernel
theorem dX4_meanVoltage_14 : decode cX4_meanVoltage 14 = .ok (.dreturn, 1) := by decide +kernel
theorem dX4_meanVoltage_15 : decode cX4_meanVoltage 15 = .ok (.iconst 0, 1) := by decide +kernel
theorem dX4_meanVoltage_16 : decode cX4_meanVoltage 16 = .ok (.istore_n 2, 1) := by decide +kernel
theorem dX4_meanVoltage_17 : decode cX4_meanVoltage 17 = .ok (.iconst 0, 1) := by decide +kernel
theorem dX4_meanVoltage_18 : decode cX4_meanVoltage 18 = .ok (.istore_n 3, 1) := by decide +kernel
theorem dX4_meanVoltage_19 : decode cX4_meanVoltage 19 = .ok (.iload_n 3, 1) := by decide +kernel
theorem dX4_meanVoltage_20 : decode cX4_meanVoltage 20 = .ok (.iload_n 1, 1) := by decide +kernel
theorem dX4_meanVoltage_21 : decode cX4_meanVoltage 21 = .ok (.if_icmp .ge 21, 3) := by decide +kernel
theorem dX4_meanVoltage_24 : decode cX4_meanVoltage 24 = .ok (.iload_n 2, 1) := by decide +kernel
theorem dX4_meanVoltage_25 : decode cX4_meanVoltage 25 = .ok (.aload_n 0, 1) := by decide +kernel
theorem dX4_meanVoltage_26 : decode cX4_meanVoltage 26 = .ok (.getfield 24, 3) := by decide +kernel
theorem dX4_meanVoltage_29 : decode cX4_meanVoltage 29 = .ok (.iload_n 3, 1) := by decide +kernel
theorem dX4_meanVoltage_30 : decode cX4_meanVoltage 30 = .ok (.iconst 0, 1) := by decide +kernel
theorem dX4_meanVoltage_31 : decode cX4_meanVoltage 31 = .ok (.invokevirtual 163, 3) := by decide +kernel
theorem dX4_meanVoltage_34 : decode cX4_meanVoltage 34 = .ok (.iadd, 1) := by decide +kernel
theorem dX4_meanVoltage_35 : decode cX4_meanVoltage 35 = .ok (.istore_n 2, 1) := by decide +kernel
theorem dX4_meanVoltage_36 : decode cX4_meanVoltage 36 = .ok (.iinc 3 1, 3) := by decide +kernel
theorem dX4_meanVoltage_39 : decode cX4_meanVoltage 39 = .ok (.goto (-20), 3) := by decide +kernel
theorem dX4_meanVoltage_42 : decode cX4_meanVoltage 42 = .ok (.iload_n 2, 1) := by decide +kernel
theorem dX4_meanVoltage_43 : decode cX4_meanVoltage 43 = .ok (.i2d, 1) := by decide +kernel
theorem dX4_meanVoltage_44 : decode cX4_meanVoltage 44 = .ok (.iload_n 1, 1) := by decide +kernel
theorem dX4_meanVoltage_45 : decode cX4_meanVoltage 45 = .ok (.i2d, 1) := by decide +kernel
theorem dX4_meanVoltage_46 : decode cX4_meanVoltage 46 = .ok (.ddiv, 1) := by decide +kernel
theorem dX4_meanVoltage_47 : decode cX4_meanVoltage 47 = .ok (.dreturn, 1) := by decide +kernel
set_option maxRecDepth 20000 in
theorem ggX4_digest_X4_number : GoodIn wsX4_digest wsX4_number := goodIn_r _ [15, 7, 8, 3, 16, 17, 18, 19, 20, 21, 22, 23, 24, 25, 26, 27, 28, 29, 30, 31, 32, 33, 34, 35, 36, 37, 38, 39, 40, 41, 42, 43, 44, 45, 46, 47, 48, 184, 185, 186, 187, 205, 206, 207, 188, 189, 190, 191, 192, 193, 194, 195, 196, 197, 198, 199, 200, 201, 202, 203, 204, 210, 211, 212, 213, 214, 215, 216] rfl (by decide +kernel)
set_option maxRecDepth 20000 in
theorem gX4_digest_X4_number : GoodIn wsX4_digest (wsV RX4 140 RX4 yX4_number wsX4_number) := goodIn_app (goodIn_r _ [11, 12, 13, 14] rfl (by decide +kernel)) ggX4_digest_X4_number
set_option maxRecDepth 20000 in
theorem ggX4_digest_X1_property : GoodIn wsX4_digest wsX1_property := goodIn_r _ [53, 54, 55, 56, 57, 58, 59, 60, 210, 211, 212, 213, 214, 215, 216] rfl (by decide +kernel)
set_option maxRecDepth 20000 in
theorem gX4_digest_X1_property : GoodIn wsX4_digest (wsV RX4 151 RX1 yX1_property wsX1_property) := goodIn_app (goodIn_r _ [49, 50, 51, 52] rfl (by decide +kernel)) ggX4_digest_X1_property
set_option maxRecDepth 20000 in
theorem ggX4_digest_X0_part : GoodIn wsX4_digest wsX0_part := goodIn_r _ [65, 66, 67, 205, 206, 207] rfl (by decide +kernel)
set_option maxRecDepth 20000 in
theorem gX4_digest_X0_part : GoodIn wsX4_digest (wsV RX4 163 RX0 yX0_part wsX0_part) := goodIn_app (goodIn_r _ [61, 62, 63, 64] rfl (by decide +kernel)) ggX4_digest_X0_part
set_option maxRecDepth 20000 in
theorem ggX4_digest_X4_settles : GoodIn wsX4_digest wsX4_settles := goodIn_ca (goodIn_r _ [71, 72, 73, 74, 4, 75, 76, 77, 78, 79, 80, 81, 82, 14, 83, 3, 84, 85, 86, 19, 87, 88, 89, 90, 91, 92, 42, 31, 24, 21, 22, 23, 27, 28, 93, 94, 25, 26, 37, 36, 29, 30, 95, 96, 97, 52, 98, 54, 55, 56, 57, 58, 59, 60, 99, 100, 101, 102, 103, 104, 105, 106, 107, 108, 109, 110, 111, 112, 113, 114, 115, 116, 117, 118, 119, 120, 121, 122, 123, 124, 125, 126, 127, 128, 129, 130, 131, 132, 133, 134, 135, 136, 137, 138, 139, 140, 141, 142, 143, 144, 145, 146, 147, 148, 149, 150, 151, 152, 153, 154, 155, 156, 157, 158, 159, 160, 161, 162, 163, 164, 165, 166, 167, 168, 169, 170, 171, 172, 173, 184, 185, 186, 187, 188, 189, 190, 191, 192, 193, 194, 195, 196, 197, 198, 199, 200, 201, 202, 203, 204, 210, 211, 212, 213, 214, 215, 216] rfl (by decide +kernel)) (goodIn_sub (fun _ h => List.mem_cons_of_mem _ (List.mem_append_right _ h)) (by decide +kernel))
set_option maxRecDepth 20000 in
theorem gX4_digest_X4_settles : GoodIn wsX4_digest (wsV RX4 213 RX4 yX4_settles wsX4_settles) := goodIn_app (goodIn_r _ [68, 69, 70, 14] rfl (by decide +kernel)) ggX4_digest_X4_settles
set_option maxRecDepth 20000 in
theorem ggX4_digest_X2_currentSpread : GoodIn wsX4_digest wsX2_currentSpread := goodIn_r _ [177, 42, 148, 24, 103, 104, 78, 105, 106, 107, 108, 188, 189, 190, 191, 192, 193, 194, 195, 196, 197, 198, 199, 200, 201, 202, 203, 204, 210, 211, 212, 213, 214, 215, 216] rfl (by decide +kernel)
set_option maxRecDepth 20000 in
theorem gX4_digest_X2_currentSpread : GoodIn wsX4_digest (wsV RX4 206 RX2 yX2_currentSpread wsX2_currentSpread) := goodIn_app (goodIn_r _ [174, 175, 176, 19] rfl (by decide +kernel)) ggX4_digest_X2_currentSpread
set_option maxRecDepth 20000 in
theorem ggX4_digest_X3_codeAt : GoodIn wsX4_digest wsX3_codeAt := goodIn_r _ [182, 183, 208, 209] rfl (by decide +kernel)
set_option maxRecDepth 20000 in
theorem gX4_digest_X3_codeAt : GoodIn wsX4_digest (wsV RX4 124 RX3 yX3_codeAt wsX3_codeAt) := goodIn_app (goodIn_r _ [178, 179, 180, 181] rfl (by decide +kernel)) ggX4_digest_X3_codeAt
theorem dX4_digest_0 : decode cX4_digest 0 = .ok (.ldc2_w 209, 3) := by decide +kernel
theorem dX4_digest_3 : decode cX4_digest 3 = .ok (.lstore_n 1, 1) := by decide +kernel
theorem dX4_digest_4 : decode cX4_digest 4 = .ok (.iconst 0, 1) := by decide +kernel
theorem dX4_digest_5 : decode cX4_digest 5 = .ok (.istore_n 3, 1) := by decide +kernel
theorem dX4_digest_6 : decode cX4_digest 6 = .ok (.iload_n 3, 1) := by decide +kernel
theorem dX4_digest_7 : decode cX4_digest 7 = .ok (.bipush 15, 2) := by decide +kernel
theorem dX4_digest_9 : decode cX4_digest 9 = .ok (.if_icmp .ge 22, 3) := by decide +kernel
theorem dX4_digest_12 : decode cX4_digest 12 = .ok (.ldc2_w 211, 3) := by decide +kernel
theorem dX4_digest_15 : decode cX4_digest 15 = .ok (.lload_n 1, 1) := by decide +kernel
theorem dX4_digest_16 : decode cX4_digest 16 = .ok (.lmul, 1) := by decide +kernel
theorem dX4_digest_17 : decode cX4_digest 17 = .ok (.aload_n 0, 1) := by decide +kernel
theorem dX4_digest_18 : decode cX4_digest 18 = .ok (.iload_n 3, 1) := by decide +kernel
theorem dX4_digest_19 : decode cX4_digest 19 = .ok (.invokevirtual 140, 3) := by decide +kernel
theorem dX4_digest_22 : decode cX4_digest 22 = .ok (.i2l, 1) := by decide +kernel
theorem dX4_digest_23 : decode cX4_digest 23 = .ok (.ladd, 1) := by decide +kernel
theorem dX4_digest_24 : decode cX4_digest 24 = .ok (.lstore_n 1, 1) := by decide +kernel
theorem dX4_digest_25 : decode cX4_digest 25 = .ok (.iinc 3 1, 3) := by decide +kernel
theorem dX4_digest_28 : decode cX4_digest 28 = .ok (.goto (-22), 3) := by decide +kernel
theorem dX4_digest_31 : decode cX4_digest 31 = .ok (.iconst 0, 1) := by decide +kernel
theorem dX4_digest_32 : decode cX4_digest 32 = .ok (.istore_n 3, 1) := by decide +kernel
theorem dX4_digest_33 : decode cX4_digest 33 = .ok (.iload_n 3, 1) := by decide +kernel
theorem dX4_digest_34 : decode cX4_digest 34 = .ok (.bipush 15, 2) := by decide +kernel
theorem dX4_digest_36 : decode cX4_digest 36 = .ok (.if_icmp .ge 38, 3) := by decide +kernel
theorem dX4_digest_39 : decode cX4_digest 39 = .ok (.iload_n 3, 1) := by decide +kernel
theorem dX4_digest_40 : decode cX4_digest 40 = .ok (.aload_n 0, 1) := by decide +kernel
theorem dX4_digest_41 : decode cX4_digest 41 = .ok (.getfield 14, 3) := by decide +kernel
theorem dX4_digest_44 : decode cX4_digest 44 = .ok (.getfield 67, 3) := by decide +kernel
theorem dX4_digest_47 : decode cX4_digest 47 = .ok (.arraylength, 1) := by decide +kernel
theorem dX4_digest_48 : decode cX4_digest 48 = .ok (.if_icmp .ge 26, 3) := by decide +kernel
theorem dX4_digest_51 : decode cX4_digest 51 = .ok (.ldc2_w 211, 3) := by decide +kernel
theorem dX4_digest_54 : decode cX4_digest 54 = .ok (.lload_n 1, 1) := by decide +kernel
theorem dX4_digest_55 : decode cX4_digest 55 = .ok (.lmul, 1) := by decide +kernel
theorem dX4_digest_56 : decode cX4_digest 56 = .ok (.aload_n 0, 1) := by decide +kernel
theorem dX4_digest_57 : decode cX4_digest 57 = .ok (.getfield 14, 3) := by decide +kernel
theorem dX4_digest_60 : decode cX4_digest 60 = .ok (.getfield 67, 3) := by decide +kernel
theorem dX4_digest_63 : decode cX4_digest 63 = .ok (.iload_n 3, 1) := by decide +kernel
theorem dX4_digest_64 : decode cX4_digest 64 = .ok (.iaload, 1) := by decide +kernel
theorem dX4_digest_65 : decode cX4_digest 65 = .ok (.i2l, 1) := by decide +kernel
theorem dX4_digest_66 : decode cX4_digest 66 = .ok (.ladd, 1) := by decide +kernel
theorem dX4_digest_67 : decode cX4_digest 67 = .ok (.lstore_n 1, 1) := by decide +kernel
theorem dX4_digest_68 : decode cX4_digest 68 = .ok (.iinc 3 1, 3) := by decide +kernel
theorem dX4_digest_71 : decode cX4_digest 71 = .ok (.goto (-38), 3) := by decide +kernel
theorem dX4_digest_74 : decode cX4_digest 74 = .ok (.iconst 0, 1) := by decide +kernel
theorem dX4_digest_75 : decode cX4_digest 75 = .ok (.istore_n 3, 1) := by decide +kernel
theorem dX4_digest_76 : decode cX4_digest 76 = .ok (.iload_n 3, 1) := by decide +kernel
theorem dX4_digest_77 : decode cX4_digest 77 = .ok (.aload_n 0, 1) := by decide +kernel
theorem dX4_digest_78 : decode cX4_digest 78 = .ok (.getfield 14, 3) := by decide +kernel
theorem dX4_digest_81 : decode cX4_digest 81 = .ok (.getfield 42, 3) := by decide +kernel
theorem dX4_digest_84 : decode cX4_digest 84 = .ok (.if_icmp .ge 59, 3) := by decide +kernel
theorem dX4_digest_87 : decode cX4_digest 87 = .ok (.iload_n 3, 1) := by decide +kernel
theorem dX4_digest_88 : decode cX4_digest 88 = .ok (.aload_n 0, 1) := by decide +kernel
theorem dX4_digest_89 : decode cX4_digest 89 = .ok (.getfield 14, 3) := by decide +kernel
theorem dX4_digest_92 : decode cX4_digest 92 = .ok (.getfield 143, 3) := by decide +kernel
theorem dX4_digest_95 : decode cX4_digest 95 = .ok (.arraylength, 1) := by decide +kernel
theorem dX4_digest_96 : decode cX4_digest 96 = .ok (.if_icmp .ge 47, 3) := by decide +kernel
theorem dX4_digest_99 : decode cX4_digest 99 = .ok (.iconst 0, 1) := by decide +kernel
theorem dX4_digest_100 : decode cX4_digest 100 = .ok (.istore 4, 2) := by decide +kernel
theorem dX4_digest_102 : decode cX4_digest 102 = .ok (.iload 4, 2) := by decide +kernel
theorem dX4_digest_104 : decode cX4_digest 104 = .ok (.bipush 7, 2) := by decide +kernel
theorem dX4_digest_106 : decode cX4_digest 106 = .ok (.if_icmp .ge 31, 3) := by decide +kernel
theorem dX4_digest_109 : decode cX4_digest 109 = .ok (.ldc2_w 211, 3) := by decide +kernel
theorem dX4_digest_112 : decode cX4_digest 112 = .ok (.lload_n 1, 1) := by decide +kernel
theorem dX4_digest_113 : decode cX4_digest 113 = .ok (.lmul, 1) := by decide +kernel
theorem dX4_digest_114 : decode cX4_digest 114 = .ok (.aload_n 0, 1) := by decide +kernel
theorem dX4_digest_115 : decode cX4_digest 115 = .ok (.getfield 14, 3) := by decide +kernel
theorem dX4_digest_118 : decode cX4_digest 118 = .ok (.getfield 143, 3) := by decide +kernel
theorem dX4_digest_121 : decode cX4_digest 121 = .ok (.iload_n 3, 1) := by decide +kernel
theorem dX4_digest_122 : decode cX4_digest 122 = .ok (.aaload, 1) := by decide +kernel
theorem dX4_digest_123 : decode cX4_digest 123 = .ok (.iload 4, 2) := by decide +kernel
theorem dX4_digest_125 : decode cX4_digest 125 = .ok (.invokevirtual 151, 3) := by decide +kernel
theorem dX4_digest_128 : decode cX4_digest 128 = .ok (.i2l, 1) := by decide +kernel
theorem dX4_digest_129 : decode cX4_digest 129 = .ok (.ladd, 1) := by decide +kernel
theorem dX4_digest_130 : decode cX4_digest 130 = .ok (.lstore_n 1, 1) := by decide +kernel
theorem dX4_digest_131 : decode cX4_digest 131 = .ok (.iinc 4 1, 3) := by decide +kernel
theorem dX4_digest_134 : decode cX4_digest 134 = .ok (.goto (-32), 3) := by decide +kernel
theorem dX4_digest_137 : decode cX4_digest 137 = .ok (.iinc 3 1, 3) := by decide +kernel
theorem dX4_digest_140 : decode cX4_digest 140 = .ok (.goto (-64), 3) := by decide +kernel
theorem dX4_digest_143 : decode cX4_digest 143 = .ok (.iconst 0, 1) := by decide +kernel
theorem dX4_digest_144 : decode cX4_digest 144 = .ok (.istore_n 3, 1) := by decide +kernel
theorem dX4_digest_145 : decode cX4_digest 145 = .ok (.iload_n 3, 1) := by decide +kernel
theorem dX4_digest_146 : decode cX4_digest 146 = .ok (.aload_n 0, 1) := by decide +kernel
theorem dX4_digest_147 : decode cX4_digest 147 = .ok (.getfield 24, 3) := by decide +kernel
theorem dX4_digest_150 : decode cX4_digest 150 = .ok (.getfield 156, 3) := by decide +kernel
theorem dX4_digest_153 : decode cX4_digest 153 = .ok (.if_icmp .ge 43, 3) := by decide +kernel
theorem dX4_digest_156 : decode cX4_digest 156 = .ok (.iconst 0, 1) := by decide +kernel
theorem dX4_digest_157 : decode cX4_digest 157 = .ok (.istore 4, 2) := by decide +kernel
theorem dX4_digest_159 : decode cX4_digest 159 = .ok (.iload 4, 2) := by decide +kernel
theorem dX4_digest_161 : decode cX4_digest 161 = .ok (.bipush 6, 2) := by decide +kernel
theorem dX4_digest_163 : decode cX4_digest 163 = .ok (.if_icmp .ge 27, 3) := by decide +kernel
theorem dX4_digest_166 : decode cX4_digest 166 = .ok (.ldc2_w 211, 3) := by decide +kernel
theorem dX4_digest_169 : decode cX4_digest 169 = .ok (.lload_n 1, 1) := by decide +kernel
theorem dX4_digest_170 : decode cX4_digest 170 = .ok (.lmul, 1) := by decide +kernel
theorem dX4_digest_171 : decode cX4_digest 171 = .ok (.aload_n 0, 1) := by decide +kernel
theorem dX4_digest_172 : decode cX4_digest 172 = .ok (.getfield 24, 3) := by decide +kernel
theorem dX4_digest_175 : decode cX4_digest 175 = .ok (.iload_n 3, 1) := by decide +kernel
theorem dX4_digest_176 : decode cX4_digest 176 = .ok (.iload 4, 2) := by decide +kernel
theorem dX4_digest_178 : decode cX4_digest 178 = .ok (.invokevirtual 163, 3) := by decide +kernel
theorem dX4_digest_181 : decode cX4_digest 181 = .ok (.i2l, 1) := by decide +kernel
theorem dX4_digest_182 : decode cX4_digest 182 = .ok (.ladd, 1) := by decide +kernel
theorem dX4_digest_183 : decode cX4_digest 183 = .ok (.lstore_n 1, 1) := by decide +kernel
theorem dX4_digest_184 : decode cX4_digest 184 = .ok (.iinc 4 1, 3) := by decide +kernel
theorem dX4_digest_187 : decode cX4_digest 187 = .ok (.goto (-28), 3) := by decide +kernel
theorem dX4_digest_190 : decode cX4_digest 190 = .ok (.iinc 3 1, 3) := by decide +kernel
theorem dX4_digest_193 : decode cX4_digest 193 = .ok (.goto (-48), 3) := by decide +kernel
theorem dX4_digest_196 : decode cX4_digest 196 = .ok (.ldc2_w 211, 3) := by decide +kernel
theorem dX4_digest_199 : decode cX4_digest 199 = .ok (.lload_n 1, 1) := by decide +kernel
theorem dX4_digest_200 : decode cX4_digest 200 = .ok (.lmul, 1) := by decide +kernel
theorem dX4_digest_201 : decode cX4_digest 201 = .ok (.aload_n 0, 1) := by decide +kernel
theorem dX4_digest_202 : decode cX4_digest 202 = .ok (.bipush 50, 2) := by decide +kernel
theorem dX4_digest_204 : decode cX4_digest 204 = .ok (.invokevirtual 213, 3) := by decide +kernel
theorem dX4_digest_207 : decode cX4_digest 207 = .ok (.i2l, 1) := by decide +kernel
theorem dX4_digest_208 : decode cX4_digest 208 = .ok (.ladd, 1) := by decide +kernel
theorem dX4_digest_209 : decode cX4_digest 209 = .ok (.lstore_n 1, 1) := by decide +kernel
theorem dX4_digest_210 : decode cX4_digest 210 = .ok (.ldc2_w 211, 3) := by decide +kernel
theorem dX4_digest_213 : decode cX4_digest 213 = .ok (.lload_n 1, 1) := by decide +kernel
theorem dX4_digest_214 : decode cX4_digest 214 = .ok (.lmul, 1) := by decide +kernel
theorem dX4_digest_215 : decode cX4_digest 215 = .ok (.aload_n 0, 1) := by decide +kernel
theorem dX4_digest_216 : decode cX4_digest 216 = .ok (.getfield 14, 3) := by decide +kernel
theorem dX4_digest_219 : decode cX4_digest 219 = .ok (.invokevirtual 206, 3) := by decide +kernel
theorem dX4_digest_222 : decode cX4_digest 222 = .ok (.i2l, 1) := by decide +kernel
theorem dX4_digest_223 : decode cX4_digest 223 = .ok (.ladd, 1) := by decide +kernel
theorem dX4_digest_224 : decode cX4_digest 224 = .ok (.lstore_n 1, 1) := by decide +kernel
theorem dX4_digest_225 : decode cX4_digest 225 = .ok (.ldc2_w 211, 3) := by decide +kernel
theorem dX4_digest_228 : decode cX4_digest 228 = .ok (.lload_n 1, 1) := by decide +kernel
theorem dX4_digest_229 : decode cX4_digest 229 = .ok (.lmul, 1) := by decide +kernel
theorem dX4_digest_230 : decode cX4_digest 230 = .ok (.aload_n 0, 1) := by decide +kernel
theorem dX4_digest_231 : decode cX4_digest 231 = .ok (.getfield 31, 3) := by decide +kernel
theorem dX4_digest_234 : decode cX4_digest 234 = .ok (.getfield 112, 3) := by decide +kernel
theorem dX4_digest_237 : decode cX4_digest 237 = .ok (.i2l, 1) := by decide +kernel
theorem dX4_digest_238 : decode cX4_digest 238 = .ok (.ladd, 1) := by decide +kernel
theorem dX4_digest_239 : decode cX4_digest 239 = .ok (.lstore_n 1, 1) := by decide +kernel
theorem dX4_digest_240 : decode cX4_digest 240 = .ok (.iconst 0, 1) := by decide +kernel
theorem dX4_digest_241 : decode cX4_digest 241 = .ok (.istore_n 3, 1) := by decide +kernel
theorem dX4_digest_242 : decode cX4_digest 242 = .ok (.iload_n 3, 1) := by decide +kernel
theorem dX4_digest_243 : decode cX4_digest 243 = .ok (.aload_n 0, 1) := by decide +kernel
theorem dX4_digest_244 : decode cX4_digest 244 = .ok (.getfield 31, 3) := by decide +kernel
theorem dX4_digest_247 : decode cX4_digest 247 = .ok (.getfield 112, 3) := by decide +kernel
theorem dX4_digest_250 : decode cX4_digest 250 = .ok (.if_icmp .ge 25, 3) := by decide +kernel
theorem dX4_digest_253 : decode cX4_digest 253 = .ok (.ldc2_w 211, 3) := by decide +kernel
theorem dX4_digest_256 : decode cX4_digest 256 = .ok (.lload_n 1, 1) := by decide +kernel
theorem dX4_digest_257 : decode cX4_digest 257 = .ok (.lmul, 1) := by decide +kernel
theorem dX4_digest_258 : decode cX4_digest 258 = .ok (.aload_n 0, 1) := by decide +kernel
theorem dX4_digest_259 : decode cX4_digest 259 = .ok (.getfield 31, 3) := by decide +kernel
theorem dX4_digest_262 : decode cX4_digest 262 = .ok (.iload_n 3, 1) := by decide +kernel
theorem dX4_digest_263 : decode cX4_digest 263 = .ok (.invokevirtual 124, 3) := by decide +kernel
theorem dX4_digest_266 : decode cX4_digest 266 = .ok (.i2l, 1) := by decide +kernel
theorem dX4_digest_267 : decode cX4_digest 267 = .ok (.ladd, 1) := by decide +kernel
theorem dX4_digest_268 : decode cX4_digest 268 = .ok (.lstore_n 1, 1) := by decide +kernel
theorem dX4_digest_269 : decode cX4_digest 269 = .ok (.iinc 3 1, 3) := by decide +kernel
theorem dX4_digest_272 : decode cX4_digest 272 = .ok (.goto (-30), 3) := by decide +kernel
theorem dX4_digest_275 : decode cX4_digest 275 = .ok (.lload_n 1, 1) := by decide +kernel
theorem dX4_digest_276 : decode cX4_digest 276 = .ok (.lreturn, 1) := by decide +kernel
theorem dX4_isSetting_0 : decode cX4_isSetting 0 = .ok (.iload_n 0, 1) := by decide +kernel
theorem dX4_isSetting_1 : decode cX4_isSetting 1 = .ok (.ifCond .lt 13, 3) := by decide +kernel
theorem dX4_isSetting_4 : decode cX4_isSetting 4 = .ok (.iload_n 0, 1) := by decide +kernel
theorem dX4_isSetting_5 : decode cX4_isSetting 5 = .ok (.bipush 15, 2) := by decide +kernel
theorem dX4_isSetting_7 : decode cX4_isSetting 7 = .ok (.if_icmp .ge 7, 3) := by decide +kernel
theorem dX4_isSetting_10 : decode cX4_isSetting 10 = .ok (.iconst 1, 1) := by decide +kernel
theorem dX4_isSetting_11 : decode cX4_isSetting 11 = .ok (.goto 4, 3) := by decide +kernel
theorem dX4_isSetting_14 : decode cX4_isSetting 14 = .ok (.iconst 0, 1) := by decide +kernel
theorem dX4_isSetting_15 : decode cX4_isSetting 15 = .ok (.ireturn, 1) := by decide +kernel
set_option maxRecDepth 20000 in
theorem ggX4_fits_X4_isSetting : GoodIn wsX4_fits wsX4_isSetting := goodIn_r _ [6] rfl (by decide +kernel)
set_option maxRecDepth 20000 in
theorem gX4_fits_X4_isSetting : GoodIn wsX4_fits (va_wsS RX4 52 yX4_isSetting wsX4_isSetting) := goodIn_app (goodIn_r _ [3, 4, 5] rfl (by decide +kernel)) ggX4_fits_X4_isSetting
theorem dX4_fits_0 : decode cX4_fits 0 = .ok (.iload_n 0, 1) := by decide +kernel
theorem dX4_fits_1 : decode cX4_fits 1 = .ok (.invokestatic 52, 3) := by decide +kernel
theorem dX4_fits_4 : decode cX4_fits 4 = .ok (.ifCond .eq 25, 3) := by decide +kernel
theorem dX4_fits_7 : decode cX4_fits 7 = .ok (.iload_n 1, 1) := by decide +kernel
theorem dX4_fits_8 : decode cX4_fits 8 = .ok (.getstatic 216, 3) := by decide +kernel
theorem dX4_fits_11 : decode cX4_fits 11 = .ok (.iload_n 0, 1) := by decide +kernel
theorem dX4_fits_12 : decode cX4_fits 12 = .ok (.iaload, 1) := by decide +kernel
theorem dX4_fits_13 : decode cX4_fits 13 = .ok (.if_icmp .lt 16, 3) := by decide +kernel
theorem dX4_fits_16 : decode cX4_fits 16 = .ok (.iload_n 1, 1) := by decide +kernel
theorem dX4_fits_17 : decode cX4_fits 17 = .ok (.getstatic 219, 3) := by decide +kernel
theorem dX4_fits_20 : decode cX4_fits 20 = .ok (.iload_n 0, 1) := by decide +kernel
theorem dX4_fits_21 : decode cX4_fits 21 = .ok (.iaload, 1) := by decide +kernel
theorem dX4_fits_22 : decode cX4_fits 22 = .ok (.if_icmp .gt 7, 3) := by decide +kernel
theorem dX4_fits_25 : decode cX4_fits 25 = .ok (.iconst 1, 1) := by decide +kernel
theorem dX4_fits_26 : decode cX4_fits 26 = .ok (.goto 4, 3) := by decide +kernel
theorem dX4_fits_29 : decode cX4_fits 29 = .ok (.iconst 0, 1) := by decide +kernel
theorem dX4_fits_30 : decode cX4_fits 30 = .ok (.ireturn, 1) := by decide +kernel
theorem dX4_isRunLength_0 : decode cX4_isRunLength 0 = .ok (.iload_n 0, 1) := by decide +kernel
theorem dX4_isRunLength_1 : decode cX4_isRunLength 1 = .ok (.iconst 1, 1) := by decide +kernel
theorem dX4_isRunLength_2 : decode cX4_isRunLength 2 = .ok (.if_icmp .lt 14, 3) := by decide +kernel
theorem dX4_isRunLength_5 : decode cX4_isRunLength 5 = .ok (.iload_n 0, 1) := by decide +kernel
theorem dX4_isRunLength_6 : decode cX4_isRunLength 6 = .ok (.sipush 200, 3) := by decide +kernel
theorem dX4_isRunLength_9 : decode cX4_isRunLength 9 = .ok (.if_icmp .gt 7, 3) := by decide +kernel
theorem dX4_isRunLength_12 : decode cX4_isRunLength 12 = .ok (.iconst 1, 1) := by decide +kernel
theorem dX4_isRunLength_13 : decode cX4_isRunLength 13 = .ok (.goto 4, 3) := by decide +kernel
theorem dX4_isRunLength_16 : decode cX4_isRunLength 16 = .ok (.iconst 0, 1) := by decide +kernel
theorem dX4_isRunLength_17 : decode cX4_isRunLength 17 = .ok (.ireturn, 1) := by decide +kernel
theorem dX4_hasRoomFor_0 : decode cX4_hasRoomFor 0 = .ok (.aload_n 0, 1) := by decide +kernel
theorem dX4_hasRoomFor_1 : decode cX4_hasRoomFor 1 = .ok (.getfield 14, 3) := by decide +kernel
theorem dX4_hasRoomFor_4 : decode cX4_hasRoomFor 4 = .ok (.getfield 222, 3) := by decide +kernel
theorem dX4_hasRoomFor_7 : decode cX4_hasRoomFor 7 = .ok (.iload_n 1, 1) := by decide +kernel
theorem dX4_hasRoomFor_8 : decode cX4_hasRoomFor 8 = .ok (.iadd, 1) := by decide +kernel
theorem dX4_hasRoomFor_9 : decode cX4_hasRoomFor 9 = .ok (.ldc 225, 2) := by decide +kernel
theorem dX4_hasRoomFor_11 : decode cX4_hasRoomFor 11 = .ok (.if_icmp .gt 7, 3) := by decide +kernel
theorem dX4_hasRoomFor_14 : decode cX4_hasRoomFor 14 = .ok (.iconst 1, 1) := by decide +kernel
theorem dX4_hasRoomFor_15 : decode cX4_hasRoomFor 15 = .ok (.goto 4, 3) := by decide +kernel
theorem dX4_hasRoomFor_18 : decode cX4_hasRoomFor 18 = .ok (.iconst 0, 1) := by decide +kernel
theorem dX4_hasRoomFor_19 : decode cX4_hasRoomFor 19 = .ok (.ireturn, 1) := by decide +kernel
theorem dX4_isDigit_0 : decode cX4_isDigit 0 = .ok (.iload_n 0, 1) := by decide +kernel
theorem dX4_isDigit_1 : decode cX4_isDigit 1 = .ok (.bipush 48, 2) := by decide +kernel
theorem dX4_isDigit_3 : decode cX4_isDigit 3 = .ok (.if_icmp .lt 13, 3) := by decide +kernel
theorem dX4_isDigit_6 : decode cX4_isDigit 6 = .ok (.iload_n 0, 1) := by decide +kernel
theorem dX4_isDigit_7 : decode cX4_isDigit 7 = .ok (.bipush 57, 2) := by decide +kernel
theorem dX4_isDigit_9 : decode cX4_isDigit 9 = .ok (.if_icmp .gt 7, 3) := by decide +kernel
theorem dX4_isDigit_12 : decode cX4_isDigit 12 = .ok (.iconst 1, 1) := by decide +kernel
theorem dX4_isDigit_13 : decode cX4_isDigit 13 = .ok (.goto 4, 3) := by decide +kernel
theorem dX4_isDigit_16 : decode cX4_isDigit 16 = .ok (.iconst 0, 1) := by decide +kernel
theorem dX4_isDigit_17 : decode cX4_isDigit 17 = .ok (.ireturn, 1) := by decide +kernel
theorem dX4_clamp_0 : decode cX4_clamp 0 = .ok (.iload_n 0, 1) := by decide +kernel
theorem dX4_clamp_1 : decode cX4_clamp 1 = .ok (.iload_n 1, 1) := by decide +kernel
theorem dX4_clamp_2 : decode cX4_clamp 2 = .ok (.if_icmp .ge 7, 3) := by decide +kernel
theorem dX4_clamp_5 : decode cX4_clamp 5 = .ok (.iload_n 1, 1) := by decide +kernel
theorem dX4_clamp_6 : decode cX4_clamp 6 = .ok (.goto 13, 3) := by decide +kernel
theorem dX4_clamp_9 : decode cX4_clamp 9 = .ok (.iload_n 0, 1) := by decide +kernel
theorem dX4_clamp_10 : decode cX4_clamp 10 = .ok (.iload_n 2, 1) := by decide +kernel
theorem dX4_clamp_11 : decode cX4_clamp 11 = .ok (.if_icmp .le 7, 3) := by decide +kernel
theorem dX4_clamp_14 : decode cX4_clamp 14 = .ok (.iload_n 2, 1) := by decide +kernel
theorem dX4_clamp_15 : decode cX4_clamp 15 = .ok (.goto 4, 3) := by decide +kernel
theorem dX4_clamp_18 : decode cX4_clamp 18 = .ok (.iload_n 0, 1) := by decide +kernel
theorem dX4_clamp_19 : decode cX4_clamp 19 = .ok (.ireturn, 1) := by decide +kernel
theorem dX4_quotient_0 : decode cX4_quotient 0 = .ok (.iload_n 1, 1) := by decide +kernel
theorem dX4_quotient_1 : decode cX4_quotient 1 = .ok (.ifCond .ne 7, 3) := by decide +kernel
theorem dX4_quotient_4 : decode cX4_quotient 4 = .ok (.iconst 0, 1) := by decide +kernel
theorem dX4_quotient_5 : decode cX4_quotient 5 = .ok (.goto 6, 3) := by decide +kernel
theorem dX4_quotient_8 : decode cX4_quotient 8 = .ok (.iload_n 0, 1) := by decide +kernel
theorem dX4_quotient_9 : decode cX4_quotient 9 = .ok (.iload_n 1, 1) := by decide +kernel
theorem dX4_quotient_10 : decode cX4_quotient 10 = .ok (.idiv, 1) := by decide +kernel
theorem dX4_quotient_11 : decode cX4_quotient 11 = .ok (.ireturn, 1) := by decide +kernel
set_option maxRecDepth 20000 in
theorem ggX4_passCycles_X2_limitEvents : GoodIn wsX4_passCycles wsX2_limitEvents := goodIn_r _ [7, 8, 9, 10, 132, 133, 134, 135, 136, 137, 138, 139, 140, 141, 142, 143, 144, 145, 146, 147, 148, 149, 150, 151, 152, 153, 154, 155] rfl (by decide +kernel)
set_option maxRecDepth 20000 in
theorem gX4_passCycles_X2_limitEvents : GoodIn wsX4_passCycles (wsV RX4 226 RX2 yX2_limitEvents wsX2_limitEvents) := goodIn_app (goodIn_r _ [3, 4, 5, 6] rfl (by decide +kernel)) ggX4_passCycles_X2_limitEvents
set_option maxRecDepth 20000 in
theorem ggX4_passCycles_X2_passCycle : GoodIn wsX4_passCycles wsX2_passCycle := goodIn_r _ [14, 15, 16, 17, 18, 19, 20, 21, 22, 23, 24, 25, 26, 27, 28, 29, 30, 6, 31, 32, 33, 34, 35, 36, 9, 37, 38, 39, 40, 41, 42, 43, 44, 45, 46, 47, 48, 49, 50, 51, 52, 53, 54, 55, 56, 57, 58, 59, 60, 8, 61, 62, 63, 64, 65, 66, 67, 68, 69, 70, 71, 72, 73, 74, 75, 76, 77, 78, 79, 80, 81, 82, 83, 84, 85, 86, 87, 88, 89, 90, 91, 92, 93, 94, 95, 96, 97, 98, 99, 100, 101, 102, 103, 104, 105, 106, 107, 108, 109, 110, 132, 133, 134, 135, 136, 137, 138, 139, 140, 141, 142, 143, 144, 145, 146, 147, 148, 149, 150, 151, 152, 153, 154, 155] rfl (by decide +kernel)
set_option maxRecDepth 20000 in
theorem gX4_passCycles_X2_passCycle : GoodIn wsX4_passCycles (wsV RX4 176 RX2 yX2_passCycle wsX2_passCycle) := goodIn_app (goodIn_r _ [11, 12, 13, 6] rfl (by decide +kernel)) ggX4_passCycles_X2_passCycle
set_option maxRecDepth 20000 in
theorem ggX4_passCycles_X0_keep : GoodIn wsX4_passCycles wsX0_keep := goodIn_r _ [115, 116, 117, 118, 19, 20, 21, 119, 120, 121, 122, 123, 124, 125, 126, 6, 127, 22, 17, 156, 157, 158, 132, 133, 134, 135, 136, 137, 138, 139, 140, 141, 142, 143, 144, 145, 146, 147, 148] rfl (by decide +kernel)
set_option maxRecDepth 20000 in
theorem gX4_passCycles_X0_keep : GoodIn wsX4_passCycles (wsV RX4 229 RX0 yX0_keep wsX0_keep) := goodIn_app (goodIn_r _ [111, 112, 113, 114] rfl (by decide +kernel)) ggX4_passCycles_X0_keep
theorem dX4_passCycles_0 : decode cX4_passCycles 0 = .ok (.iconst 0, 1) := by decide +kernel
theorem dX4_passCycles_1 : decode cX4_passCycles 1 = .ok (.istore_n 2, 1) := by decide +kernel
theorem dX4_passCycles_2 : decode cX4_passCycles 2 = .ok (.iload_n 2, 1) := by decide +kernel
theorem dX4_passCycles_3 : decode cX4_passCycles 3 = .ok (.iload_n 1, 1) := by decide +kernel
theorem dX4_passCycles_4 : decode cX4_passCycles 4 = .ok (.if_icmp .ge 44, 3) := by decide +kernel
theorem dX4_passCycles_7 : decode cX4_passCycles 7 = .ok (.aload_n 0, 1) := by decide +kernel
theorem dX4_passCycles_8 : decode cX4_passCycles 8 = .ok (.getfield 14, 3) := by decide +kernel
theorem dX4_passCycles_11 : decode cX4_passCycles 11 = .ok (.invokevirtual 226, 3) := by decide +kernel
theorem dX4_passCycles_14 : decode cX4_passCycles 14 = .ok (.istore_n 3, 1) := by decide +kernel
theorem dX4_passCycles_15 : decode cX4_passCycles 15 = .ok (.aload_n 0, 1) := by decide +kernel
theorem dX4_passCycles_16 : decode cX4_passCycles 16 = .ok (.getfield 14, 3) := by decide +kernel
theorem dX4_passCycles_19 : decode cX4_passCycles 19 = .ok (.invokevirtual 176, 3) := by decide +kernel
theorem dX4_passCycles_22 : decode cX4_passCycles 22 = .ok (.aload_n 0, 1) := by decide +kernel
theorem dX4_passCycles_23 : decode cX4_passCycles 23 = .ok (.getfield 24, 3) := by decide +kernel
theorem dX4_passCycles_26 : decode cX4_passCycles 26 = .ok (.aload_n 0, 1) := by decide +kernel
theorem dX4_passCycles_27 : decode cX4_passCycles 27 = .ok (.getfield 14, 3) := by decide +kernel
theorem dX4_passCycles_30 : decode cX4_passCycles 30 = .ok (.aload_n 0, 1) := by decide +kernel
theorem dX4_passCycles_31 : decode cX4_passCycles 31 = .ok (.getfield 14, 3) := by decide +kernel
theorem dX4_passCycles_34 : decode cX4_passCycles 34 = .ok (.invokevirtual 226, 3) := by decide +kernel
theorem dX4_passCycles_37 : decode cX4_passCycles 37 = .ok (.iload_n 3, 1) := by decide +kernel
theorem dX4_passCycles_38 : decode cX4_passCycles 38 = .ok (.isub, 1) := by decide +kernel
theorem dX4_passCycles_39 : decode cX4_passCycles 39 = .ok (.invokevirtual 229, 3) := by decide +kernel
theorem dX4_passCycles_42 : decode cX4_passCycles 42 = .ok (.iinc 2 1, 3) := by decide +kernel
theorem dX4_passCycles_45 : decode cX4_passCycles 45 = .ok (.goto (-43), 3) := by decide +kernel
theorem dX4_passCycles_48 : decode cX4_passCycles 48 = .ok (.return_, 1) := by decide +kernel
set_option maxRecDepth 20000 in
theorem ggX4_isPossible_X2_runs : GoodIn wsX4_isPossible wsX2_runs := goodIn_r _ [6, 7, 33, 34, 35, 36, 37, 38, 39, 40, 41, 42, 43, 44, 45, 46, 47, 48, 49] rfl (by decide +kernel)
set_option maxRecDepth 20000 in
theorem gX4_isPossible_X2_runs : GoodIn wsX4_isPossible (wsV RX4 71 RX2 yX2_runs wsX2_runs) := goodIn_app (goodIn_r _ [2, 3, 4, 5] rfl (by decide +kernel)) ggX4_isPossible_X2_runs
set_option maxRecDepth 20000 in
theorem ggX4_isPossible_X4_isRunLength : GoodIn wsX4_isPossible wsX4_isRunLength := goodIn_r _ [11] rfl (by decide +kernel)
set_option maxRecDepth 20000 in
theorem gX4_isPossible_X4_isRunLength : GoodIn wsX4_isPossible (va_wsS RX4 92 yX4_isRunLength wsX4_isRunLength) := goodIn_app (goodIn_r _ [8, 9, 10] rfl (by decide +kernel)) ggX4_isPossible_X4_isRunLength
set_option maxRecDepth 20000 in
theorem ggX4_isPossible_X4_hasRoomFor : GoodIn wsX4_isPossible wsX4_hasRoomFor := goodIn_r _ [15, 1, 16, 17, 29, 30, 31, 32, 33, 34, 35, 36, 37, 38, 39, 40, 41, 42, 43, 44, 45, 46, 47, 48, 49] rfl (by decide +kernel)
set_option maxRecDepth 20000 in
theorem gX4_isPossible_X4_hasRoomFor : GoodIn wsX4_isPossible (wsV RX4 97 RX4 yX4_hasRoomFor wsX4_hasRoomFor) := goodIn_app (goodIn_r _ [12, 13, 14, 10] rfl (by decide +kernel)) ggX4_isPossible_X4_hasRoomFor
set_option maxRecDepth 20000 in
theorem ggX4_isPossible_X4_settingOf : GoodIn wsX4_isPossible wsX4_settingOf := goodIn_r _ [20] rfl (by decide +kernel)
set_option maxRecDepth 20000 in
theorem gX4_isPossible_X4_settingOf : GoodIn wsX4_isPossible (va_wsS RX4 233 yX4_settingOf wsX4_settingOf) := goodIn_app (goodIn_r _ [18, 19, 10] rfl (by decide +kernel)) ggX4_isPossible_X4_settingOf
set_option maxRecDepth 20000 in
theorem ggX4_isPossible_X4_fits : GoodIn wsX4_isPossible wsX4_fits := goodIn_r _ [23, 24, 25, 26, 27, 10, 28] rfl (by decide +kernel)
set_option maxRecDepth 20000 in
theorem gX4_isPossible_X4_fits : GoodIn wsX4_isPossible (va_wsS RX4 61 yX4_fits wsX4_fits) := goodIn_app (goodIn_r _ [21, 22, 10] rfl (by decide +kernel)) ggX4_isPossible_X4_fits
theorem dX4_isPossible_0 : decode cX4_isPossible 0 = .ok (.iload_n 1, 1) := by decide +kernel
theorem dX4_isPossible_1 : decode cX4_isPossible 1 = .ok (.lookupswitch 74 #[(114, 53), (115, 35), (120, 51)], 35) := by decide +kernel
theorem dX4_isPossible_36 : decode cX4_isPossible 36 = .ok (.aload_n 0, 1) := by decide +kernel
theorem dX4_isPossible_37 : decode cX4_isPossible 37 = .ok (.getfield 14, 3) := by decide +kernel
theorem dX4_isPossible_40 : decode cX4_isPossible 40 = .ok (.invokevirtual 71, 3) := by decide +kernel
theorem dX4_isPossible_43 : decode cX4_isPossible 43 = .ok (.ifCond .ne 7, 3) := by decide +kernel
theorem dX4_isPossible_46 : decode cX4_isPossible 46 = .ok (.iconst 1, 1) := by decide +kernel
theorem dX4_isPossible_47 : decode cX4_isPossible 47 = .ok (.goto 4, 3) := by decide +kernel
theorem dX4_isPossible_50 : decode cX4_isPossible 50 = .ok (.iconst 0, 1) := by decide +kernel
theorem dX4_isPossible_51 : decode cX4_isPossible 51 = .ok (.ireturn, 1) := by decide +kernel
theorem dX4_isPossible_52 : decode cX4_isPossible 52 = .ok (.iconst 1, 1) := by decide +kernel
theorem dX4_isPossible_53 : decode cX4_isPossible 53 = .ok (.ireturn, 1) := by decide +kernel
theorem dX4_isPossible_54 : decode cX4_isPossible 54 = .ok (.iload_n 2, 1) := by decide +kernel
theorem dX4_isPossible_55 : decode cX4_isPossible 55 = .ok (.invokestatic 92, 3) := by decide +kernel
theorem dX4_isPossible_58 : decode cX4_isPossible 58 = .ok (.ifCond .eq 15, 3) := by decide +kernel
theorem dX4_isPossible_61 : decode cX4_isPossible 61 = .ok (.aload_n 0, 1) := by decide +kernel
theorem dX4_isPossible_62 : decode cX4_isPossible 62 = .ok (.iload_n 2, 1) := by decide +kernel
theorem dX4_isPossible_63 : decode cX4_isPossible 63 = .ok (.invokevirtual 97, 3) := by decide +kernel
theorem dX4_isPossible_66 : decode cX4_isPossible 66 = .ok (.ifCond .eq 7, 3) := by decide +kernel
theorem dX4_isPossible_69 : decode cX4_isPossible 69 = .ok (.iconst 1, 1) := by decide +kernel
theorem dX4_isPossible_70 : decode cX4_isPossible 70 = .ok (.goto 4, 3) := by decide +kernel
theorem dX4_isPossible_73 : decode cX4_isPossible 73 = .ok (.iconst 0, 1) := by decide +kernel
theorem dX4_isPossible_74 : decode cX4_isPossible 74 = .ok (.ireturn, 1) := by decide +kernel
theorem dX4_isPossible_75 : decode cX4_isPossible 75 = .ok (.iload_n 1, 1) := by decide +kernel
theorem dX4_isPossible_76 : decode cX4_isPossible 76 = .ok (.invokestatic 233, 3) := by decide +kernel
theorem dX4_isPossible_79 : decode cX4_isPossible 79 = .ok (.iload_n 2, 1) := by decide +kernel
theorem dX4_isPossible_80 : decode cX4_isPossible 80 = .ok (.invokestatic 61, 3) := by decide +kernel
theorem dX4_isPossible_83 : decode cX4_isPossible 83 = .ok (.ireturn, 1) := by decide +kernel
set_option maxRecDepth 20000 in
theorem ggX4_carryOut_X2_softStart : GoodIn wsX4_carryOut wsX2_softStart := goodIn_r _ [7, 8, 9, 10, 11, 12, 13, 14, 15, 16, 17, 149, 150, 151, 152, 153, 154, 155, 156, 157, 158, 159, 160, 161, 162, 163, 164, 165, 166, 167, 168, 169, 170, 171, 172] rfl (by decide +kernel)
set_option maxRecDepth 20000 in
theorem gX4_carryOut_X2_softStart : GoodIn wsX4_carryOut (wsV RX4 80 RX2 yX2_softStart wsX2_softStart) := goodIn_app (goodIn_r _ [3, 4, 5, 6] rfl (by decide +kernel)) ggX4_carryOut_X2_softStart
set_option maxRecDepth 20000 in
theorem ggX4_carryOut_X2_halt : GoodIn wsX4_carryOut wsX2_halt := goodIn_r _ [21, 8, 16, 22, 149, 150, 151, 152, 153, 154, 155, 156, 157, 158, 159, 160, 161, 162, 163, 164, 165, 166, 167, 168, 169, 170, 171, 172] rfl (by decide +kernel)
set_option maxRecDepth 20000 in
theorem gX4_carryOut_X2_halt : GoodIn wsX4_carryOut (wsV RX4 89 RX2 yX2_halt wsX2_halt) := goodIn_app (goodIn_r _ [18, 19, 20, 6] rfl (by decide +kernel)) ggX4_carryOut_X2_halt
set_option maxRecDepth 20000 in
theorem ggX4_carryOut_X4_passCycles : GoodIn wsX4_carryOut wsX4_passCycles := goodIn_r _ [27, 1, 28, 29, 30, 31, 6, 32, 14, 16, 33, 34, 35, 36, 37, 38, 9, 39, 40, 41, 42, 43, 44, 45, 46, 47, 48, 49, 50, 51, 52, 53, 8, 54, 19, 20, 21, 22, 55, 56, 57, 58, 10, 59, 60, 61, 62, 11, 63, 64, 65, 66, 26, 67, 68, 69, 70, 71, 72, 73, 15, 12, 13, 74, 75, 76, 77, 78, 79, 80, 81, 82, 83, 84, 85, 86, 87, 88, 89, 90, 91, 92, 93, 94, 95, 96, 97, 98, 99, 100, 101, 102, 103, 104, 105, 106, 107, 108, 109, 110, 111, 112, 113, 114, 115, 116, 117, 118, 119, 120, 121, 122, 123, 124, 125, 126, 127, 128, 129, 130, 131, 132, 133, 134, 135, 136, 137, 138, 145, 146, 147, 148, 149, 150, 151, 152, 153, 154, 155, 156, 157, 158, 159, 160, 161, 162, 163, 164, 165, 166, 167, 168, 169, 170, 171, 172, 173, 174, 175] rfl (by decide +kernel)
set_option maxRecDepth 20000 in
theorem gX4_carryOut_X4_passCycles : GoodIn wsX4_carryOut (wsV RX4 102 RX4 yX4_passCycles wsX4_passCycles) := goodIn_app (goodIn_r _ [23, 24, 25, 26] rfl (by decide +kernel)) ggX4_carryOut_X4_passCycles
set_option maxRecDepth 20000 in
theorem ggX4_carryOut_X4_settingOf : GoodIn wsX4_carryOut wsX4_settingOf := goodIn_r _ [141] rfl (by decide +kernel)
set_option maxRecDepth 20000 in
theorem gX4_carryOut_X4_settingOf : GoodIn wsX4_carryOut (va_wsS RX4 233 yX4_settingOf wsX4_settingOf) := goodIn_app (goodIn_r _ [139, 140, 26] rfl (by decide +kernel)) ggX4_carryOut_X4_settingOf
set_option maxRecDepth 20000 in
theorem ggX4_carryOut_X4_isSetting : GoodIn wsX4_carryOut wsX4_isSetting := goodIn_r _ [144] rfl (by decide +kernel)
set_option maxRecDepth 20000 in
theorem gX4_carryOut_X4_isSetting : GoodIn wsX4_carryOut (va_wsS RX4 52 yX4_isSetting wsX4_isSetting) := goodIn_app (goodIn_r _ [142, 143, 26] rfl (by decide +kernel)) ggX4_carryOut_X4_isSetting
theorem dX4_carryOut_0 : decode cX4_carryOut 0 = .ok (.iload_n 1, 1) := by decide +kernel
theorem dX4_carryOut_1 : decode cX4_carryOut 1 = .ok (.lookupswitch 64 #[(114, 56), (115, 35), (120, 45)], 35) := by decide +kernel
theorem dX4_carryOut_36 : decode cX4_carryOut 36 = .ok (.aload_n 0, 1) := by decide +kernel
theorem dX4_carryOut_37 : decode cX4_carryOut 37 = .ok (.getfield 14, 3) := by decide +kernel
theorem dX4_carryOut_40 : decode cX4_carryOut 40 = .ok (.invokevirtual 80, 3) := by decide +kernel
theorem dX4_carryOut_43 : decode cX4_carryOut 43 = .ok (.goto 44, 3) := by decide +kernel
theorem dX4_carryOut_46 : decode cX4_carryOut 46 = .ok (.aload_n 0, 1) := by decide +kernel
theorem dX4_carryOut_47 : decode cX4_carryOut 47 = .ok (.getfield 14, 3) := by decide +kernel
theorem dX4_carryOut_50 : decode cX4_carryOut 50 = .ok (.iconst 0, 1) := by decide +kernel
theorem dX4_carryOut_51 : decode cX4_carryOut 51 = .ok (.invokevirtual 89, 3) := by decide +kernel
theorem dX4_carryOut_54 : decode cX4_carryOut 54 = .ok (.goto 33, 3) := by decide +kernel
theorem dX4_carryOut_57 : decode cX4_carryOut 57 = .ok (.aload_n 0, 1) := by decide +kernel
theorem dX4_carryOut_58 : decode cX4_carryOut 58 = .ok (.iload_n 2, 1) := by decide +kernel
theorem dX4_carryOut_59 : decode cX4_carryOut 59 = .ok (.invokevirtual 102, 3) := by decide +kernel
theorem dX4_carryOut_62 : decode cX4_carryOut 62 = .ok (.goto 25, 3) := by decide +kernel
theorem dX4_carryOut_65 : decode cX4_carryOut 65 = .ok (.iload_n 1, 1) := by decide +kernel
theorem dX4_carryOut_66 : decode cX4_carryOut 66 = .ok (.invokestatic 233, 3) := by decide +kernel
theorem dX4_carryOut_69 : decode cX4_carryOut 69 = .ok (.istore_n 3, 1) := by decide +kernel
theorem dX4_carryOut_70 : decode cX4_carryOut 70 = .ok (.iload_n 3, 1) := by decide +kernel
theorem dX4_carryOut_71 : decode cX4_carryOut 71 = .ok (.invokestatic 52, 3) := by decide +kernel
theorem dX4_carryOut_74 : decode cX4_carryOut 74 = .ok (.ifCond .eq 13, 3) := by decide +kernel
theorem dX4_carryOut_77 : decode cX4_carryOut 77 = .ok (.aload_n 0, 1) := by decide +kernel
theorem dX4_carryOut_78 : decode cX4_carryOut 78 = .ok (.getfield 14, 3) := by decide +kernel
theorem dX4_carryOut_81 : decode cX4_carryOut 81 = .ok (.getfield 67, 3) := by decide +kernel
theorem dX4_carryOut_84 : decode cX4_carryOut 84 = .ok (.iload_n 3, 1) := by decide +kernel
theorem dX4_carryOut_85 : decode cX4_carryOut 85 = .ok (.iload_n 2, 1) := by decide +kernel
theorem dX4_carryOut_86 : decode cX4_carryOut 86 = .ok (.iastore, 1) := by decide +kernel
theorem dX4_carryOut_87 : decode cX4_carryOut 87 = .ok (.return_, 1) := by decide +kernel
theorem dX4_settingOf_0 : decode cX4_settingOf 0 = .ok (.iload_n 0, 1) := by decide +kernel
theorem dX4_settingOf_1 : decode cX4_settingOf 1 = .ok (.lookupswitch 51 #[(99, 49), (105, 43), (108, 47), (116, 45)], 43) := by decide +kernel
theorem dX4_settingOf_44 : decode cX4_settingOf 44 = .ok (.iconst 0, 1) := by decide +kernel
theorem dX4_settingOf_45 : decode cX4_settingOf 45 = .ok (.ireturn, 1) := by decide +kernel
theorem dX4_settingOf_46 : decode cX4_settingOf 46 = .ok (.iconst 1, 1) := by decide +kernel
theorem dX4_settingOf_47 : decode cX4_settingOf 47 = .ok (.ireturn, 1) := by decide +kernel
theorem dX4_settingOf_48 : decode cX4_settingOf 48 = .ok (.iconst 2, 1) := by decide +kernel
theorem dX4_settingOf_49 : decode cX4_settingOf 49 = .ok (.ireturn, 1) := by decide +kernel
theorem dX4_settingOf_50 : decode cX4_settingOf 50 = .ok (.iconst 5, 1) := by decide +kernel
theorem dX4_settingOf_51 : decode cX4_settingOf 51 = .ok (.ireturn, 1) := by decide +kernel
theorem dX4_settingOf_52 : decode cX4_settingOf 52 = .ok (.iconst (-1), 1) := by decide +kernel
theorem dX4_settingOf_53 : decode cX4_settingOf 53 = .ok (.ireturn, 1) := by decide +kernel
set_option maxRecDepth 20000 in
theorem ggX4_number_X2_number : GoodIn wsX4_number wsX2_number := goodIn_r _ [8, 9, 10, 11, 12, 13, 14, 15, 16, 17, 18, 19, 20, 21, 22, 7, 23, 24, 25, 26, 27, 28, 29, 30, 31, 32, 33, 34, 35, 36, 44, 45, 46, 47, 48, 49, 50, 51, 52, 53, 54, 55, 56, 57, 58, 59, 60, 61, 62, 63, 64, 65, 66, 67] rfl (by decide +kernel)
set_option maxRecDepth 20000 in
theorem gX4_number_X2_number : GoodIn wsX4_number (wsV RX4 236 RX2 yX2_number wsX2_number) := goodIn_app (goodIn_r _ [4, 5, 6, 7] rfl (by decide +kernel)) ggX4_number_X2_number
theorem dX4_number_0 : decode cX4_number 0 = .ok (.iload_n 1, 1) := by decide +kernel
theorem dX4_number_1 : decode cX4_number 1 = .ok (.bipush 14, 2) := by decide +kernel
theorem dX4_number_3 : decode cX4_number 3 = .ok (.if_icmp .ne 13, 3) := by decide +kernel
theorem dX4_number_6 : decode cX4_number 6 = .ok (.aload_n 0, 1) := by decide +kernel
theorem dX4_number_7 : decode cX4_number 7 = .ok (.getfield 24, 3) := by decide +kernel
theorem dX4_number_10 : decode cX4_number 10 = .ok (.getfield 156, 3) := by decide +kernel
theorem dX4_number_13 : decode cX4_number 13 = .ok (.goto 11, 3) := by decide +kernel
theorem dX4_number_16 : decode cX4_number 16 = .ok (.aload_n 0, 1) := by decide +kernel
theorem dX4_number_17 : decode cX4_number 17 = .ok (.getfield 14, 3) := by decide +kernel
theorem dX4_number_20 : decode cX4_number 20 = .ok (.iload_n 1, 1) := by decide +kernel
theorem dX4_number_21 : decode cX4_number 21 = .ok (.invokevirtual 236, 3) := by decide +kernel
theorem dX4_number_24 : decode cX4_number 24 = .ok (.ireturn, 1) := by decide +kernel
set_option maxRecDepth 20000 in
theorem ggX4_beginTrial_X2_copyFrom : GoodIn wsX4_beginTrial wsX2_copyFrom := goodIn_r _ [7, 8, 9, 10, 11, 12, 13, 14, 15, 16, 17, 18, 19, 20, 21, 22, 23, 24, 25, 26, 27, 28, 29, 30, 31, 32, 33, 34, 35, 36, 37, 38, 39, 40, 45, 46, 47, 48, 49, 50, 51, 52, 53, 54, 55, 56, 57, 58, 59, 60, 61, 62, 63, 64, 65, 66, 67, 68] rfl (by decide +kernel)
set_option maxRecDepth 20000 in
theorem gX4_beginTrial_X2_copyFrom : GoodIn wsX4_beginTrial (wsV RX4 237 RX2 yX2_copyFrom wsX2_copyFrom) := goodIn_app (goodIn_r _ [3, 4, 5, 6] rfl (by decide +kernel)) ggX4_beginTrial_X2_copyFrom
theorem dX4_beginTrial_0 : decode cX4_beginTrial 0 = .ok (.aload_n 0, 1) := by decide +kernel
theorem dX4_beginTrial_1 : decode cX4_beginTrial 1 = .ok (.getfield 18, 3) := by decide +kernel
theorem dX4_beginTrial_4 : decode cX4_beginTrial 4 = .ok (.aload_n 0, 1) := by decide +kernel
theorem dX4_beginTrial_5 : decode cX4_beginTrial 5 = .ok (.getfield 14, 3) := by decide +kernel
theorem dX4_beginTrial_8 : decode cX4_beginTrial 8 = .ok (.invokevirtual 237, 3) := by decide +kernel
theorem dX4_beginTrial_11 : decode cX4_beginTrial 11 = .ok (.return_, 1) := by decide +kernel
set_option maxRecDepth 20000 in
theorem ggX4_holdsLevel_X4_beginTrial : GoodIn wsX4_holdsLevel wsX4_beginTrial := goodIn_r _ [8, 1, 9, 10, 11, 12, 13, 14, 15, 16, 17, 18, 19, 20, 21, 22, 23, 24, 25, 26, 27, 28, 29, 30, 31, 32, 33, 34, 35, 36, 37, 38, 39, 40, 41, 42, 43, 44, 45, 46, 47, 124, 125, 126, 127, 128, 129, 130, 131, 132, 133, 134, 135, 136, 137, 138, 139, 140, 141, 142, 143, 144, 145, 146, 147, 148, 149, 150, 151] rfl (by decide +kernel)
set_option maxRecDepth 20000 in
theorem gX4_holdsLevel_X4_beginTrial : GoodIn wsX4_holdsLevel (wsV RX4 169 RX4 yX4_beginTrial wsX4_beginTrial) := goodIn_app (goodIn_r _ [4, 5, 6, 7] rfl (by decide +kernel)) ggX4_holdsLevel_X4_beginTrial
set_option maxRecDepth 20000 in
theorem ggX4_holdsLevel_X2_passCycle : GoodIn wsX4_holdsLevel wsX2_passCycle := goodIn_r _ [51, 15, 24, 32, 52, 53, 54, 55, 33, 56, 57, 58, 31, 30, 59, 60, 61, 13, 62, 23, 63, 64, 65, 66, 20, 67, 68, 69, 70, 71, 25, 72, 73, 74, 75, 26, 76, 77, 27, 78, 7, 79, 80, 81, 82, 83, 84, 85, 22, 21, 28, 29, 86, 87, 88, 89, 35, 90, 91, 92, 93, 94, 95, 96, 97, 98, 99, 100, 101, 39, 102, 42, 46, 103, 104, 105, 106, 107, 108, 109, 110, 43, 47, 111, 112, 113, 114, 34, 115, 116, 117, 118, 41, 45, 44, 119, 120, 121, 122, 123, 128, 129, 130, 131, 132, 133, 134, 135, 136, 137, 138, 139, 140, 141, 142, 143, 144, 145, 146, 147, 148, 149, 150, 151] rfl (by decide +kernel)
set_option maxRecDepth 20000 in
theorem gX4_holdsLevel_X2_passCycle : GoodIn wsX4_holdsLevel (wsV RX4 176 RX2 yX2_passCycle wsX2_passCycle) := goodIn_app (goodIn_r _ [48, 49, 50, 13] rfl (by decide +kernel)) ggX4_holdsLevel_X2_passCycle
theorem dX4_holdsLevel_0 : decode cX4_holdsLevel 0 = .ok (.aload_n 0, 1) := by decide +kernel
theorem dX4_holdsLevel_1 : decode cX4_holdsLevel 1 = .ok (.invokevirtual 169, 3) := by decide +kernel
theorem dX4_holdsLevel_4 : decode cX4_holdsLevel 4 = .ok (.aload_n 0, 1) := by decide +kernel
theorem dX4_holdsLevel_5 : decode cX4_holdsLevel 5 = .ok (.getfield 18, 3) := by decide +kernel
theorem dX4_holdsLevel_8 : decode cX4_holdsLevel 8 = .ok (.getfield 67, 3) := by decide +kernel
theorem dX4_holdsLevel_11 : decode cX4_holdsLevel 11 = .ok (.iconst 2, 1) := by decide +kernel
theorem dX4_holdsLevel_12 : decode cX4_holdsLevel 12 = .ok (.iload_n 1, 1) := by decide +kernel
theorem dX4_holdsLevel_13 : decode cX4_holdsLevel 13 = .ok (.iastore, 1) := by decide +kernel
theorem dX4_holdsLevel_14 : decode cX4_holdsLevel 14 = .ok (.iconst 0, 1) := by decide +kernel
theorem dX4_holdsLevel_15 : decode cX4_holdsLevel 15 = .ok (.istore_n 3, 1) := by decide +kernel
theorem dX4_holdsLevel_16 : decode cX4_holdsLevel 16 = .ok (.iload_n 3, 1) := by decide +kernel
theorem dX4_holdsLevel_17 : decode cX4_holdsLevel 17 = .ok (.bipush 30, 2) := by decide +kernel
theorem dX4_holdsLevel_19 : decode cX4_holdsLevel 19 = .ok (.if_icmp .ge 29, 3) := by decide +kernel
theorem dX4_holdsLevel_22 : decode cX4_holdsLevel 22 = .ok (.aload_n 0, 1) := by decide +kernel
theorem dX4_holdsLevel_23 : decode cX4_holdsLevel 23 = .ok (.getfield 18, 3) := by decide +kernel
theorem dX4_holdsLevel_26 : decode cX4_holdsLevel 26 = .ok (.invokevirtual 176, 3) := by decide +kernel
theorem dX4_holdsLevel_29 : decode cX4_holdsLevel 29 = .ok (.aload_n 0, 1) := by decide +kernel
theorem dX4_holdsLevel_30 : decode cX4_holdsLevel 30 = .ok (.getfield 18, 3) := by decide +kernel
theorem dX4_holdsLevel_33 : decode cX4_holdsLevel 33 = .ok (.getfield 179, 3) := by decide +kernel
theorem dX4_holdsLevel_36 : decode cX4_holdsLevel 36 = .ok (.iload_n 2, 1) := by decide +kernel
theorem dX4_holdsLevel_37 : decode cX4_holdsLevel 37 = .ok (.if_icmp .ge 5, 3) := by decide +kernel
theorem dX4_holdsLevel_40 : decode cX4_holdsLevel 40 = .ok (.iconst 0, 1) := by decide +kernel
theorem dX4_holdsLevel_41 : decode cX4_holdsLevel 41 = .ok (.ireturn, 1) := by decide +kernel
theorem dX4_holdsLevel_42 : decode cX4_holdsLevel 42 = .ok (.iinc 3 1, 3) := by decide +kernel
theorem dX4_holdsLevel_45 : decode cX4_holdsLevel 45 = .ok (.goto (-29), 3) := by decide +kernel
theorem dX4_holdsLevel_48 : decode cX4_holdsLevel 48 = .ok (.iconst 1, 1) := by decide +kernel
theorem dX4_holdsLevel_49 : decode cX4_holdsLevel 49 = .ok (.ireturn, 1) := by decide +kernel
