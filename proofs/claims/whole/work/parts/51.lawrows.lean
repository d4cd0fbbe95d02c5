/-! The words of the law calls, the wrappers rows. -/
set_option maxRecDepth 20000 in
theorem ggL_begin_X4_begin : GoodIn wsL_begin wsX4_begin := goodIn_ca (goodIn_r _ [6, 7, 8, 9, 10, 11, 12, 13, 14, 15, 16, 17, 18, 19, 20, 21, 22, 23, 24, 25, 26, 27, 28, 29, 30, 31, 32, 33, 34, 35, 36, 37, 38, 39, 40, 41, 42, 43, 44, 45, 46, 47, 48, 49, 50, 51, 52, 53, 54, 55, 56, 57, 58, 59, 60, 61, 62, 63, 64, 65, 66, 67, 68, 69, 70, 71, 72, 73, 74, 75, 76, 77, 78, 79, 80, 81, 82, 83, 84, 85, 86, 87] rfl (by decide +kernel)) (goodIn_sub (fun _ h => List.mem_cons_of_mem _ (List.mem_append_right _ h)) (by decide +kernel))
set_option maxRecDepth 20000 in
theorem gL_begin_X4_begin : GoodIn wsL_begin (wsV RL 7 RX4 yX4_begin wsX4_begin) := goodIn_app (goodIn_r _ [2, 3, 4, 5] rfl (by decide +kernel)) ggL_begin_X4_begin
theorem dL_begin_0 : decode cL_begin 0 = .ok (.aload_n 2, 1) := by decide +kernel
theorem dL_begin_1 : decode cL_begin 1 = .ok (.iconst 0, 1) := by decide +kernel
theorem dL_begin_2 : decode cL_begin 2 = .ok (.aload_n 0, 1) := by decide +kernel
theorem dL_begin_3 : decode cL_begin 3 = .ok (.iload_n 1, 1) := by decide +kernel
theorem dL_begin_4 : decode cL_begin 4 = .ok (.invokevirtual 7, 3) := by decide +kernel
theorem dL_begin_7 : decode cL_begin 7 = .ok (.i2l, 1) := by decide +kernel
theorem dL_begin_8 : decode cL_begin 8 = .ok (.lastore, 1) := by decide +kernel
theorem dL_begin_9 : decode cL_begin 9 = .ok (.goto 6, 3) := by decide +kernel
theorem dL_begin_12 : decode cL_begin 12 = .ok (.astore_n 3, 1) := by decide +kernel
theorem dL_begin_13 : decode cL_begin 13 = .ok (.iconst 1, 1) := by decide +kernel
theorem dL_begin_14 : decode cL_begin 14 = .ok (.ireturn, 1) := by decide +kernel
theorem dL_begin_15 : decode cL_begin 15 = .ok (.iconst 0, 1) := by decide +kernel
theorem dL_begin_16 : decode cL_begin 16 = .ok (.ireturn, 1) := by decide +kernel
set_option maxRecDepth 20000 in
theorem ggL_set_X4_set : GoodIn wsL_set wsX4_set := goodIn_ca (goodIn_ca (goodIn_r _ [7, 8, 9, 10, 11, 12, 13, 14, 15, 6, 16, 17, 18, 19, 20, 21, 22, 23, 24, 25, 26, 27, 28, 29, 30, 31, 32, 33, 34, 35, 36, 37, 38, 39, 40, 41, 42] rfl (by decide +kernel)) (goodIn_sub (fun _ h => List.mem_cons_of_mem _ (List.mem_append_left _ (List.mem_append_right _ h))) (by decide +kernel))) (goodIn_sub (fun _ h => List.mem_cons_of_mem _ (List.mem_append_right _ h)) (by decide +kernel))
set_option maxRecDepth 20000 in
theorem gL_set_X4_set : GoodIn wsL_set (wsV RL 15 RX4 yX4_set wsX4_set) := goodIn_app (goodIn_r _ [3, 4, 5, 6] rfl (by decide +kernel)) ggL_set_X4_set
theorem dL_set_0 : decode cL_set 0 = .ok (.aload_n 3, 1) := by decide +kernel
theorem dL_set_1 : decode cL_set 1 = .ok (.iconst 0, 1) := by decide +kernel
theorem dL_set_2 : decode cL_set 2 = .ok (.aload_n 0, 1) := by decide +kernel
theorem dL_set_3 : decode cL_set 3 = .ok (.iload_n 1, 1) := by decide +kernel
theorem dL_set_4 : decode cL_set 4 = .ok (.iload_n 2, 1) := by decide +kernel
theorem dL_set_5 : decode cL_set 5 = .ok (.invokevirtual 15, 3) := by decide +kernel
theorem dL_set_8 : decode cL_set 8 = .ok (.i2l, 1) := by decide +kernel
theorem dL_set_9 : decode cL_set 9 = .ok (.lastore, 1) := by decide +kernel
theorem dL_set_10 : decode cL_set 10 = .ok (.goto 11, 3) := by decide +kernel
theorem dL_set_13 : decode cL_set 13 = .ok (.astore 4, 2) := by decide +kernel
theorem dL_set_15 : decode cL_set 15 = .ok (.iconst 1, 1) := by decide +kernel
theorem dL_set_16 : decode cL_set 16 = .ok (.ireturn, 1) := by decide +kernel
theorem dL_set_17 : decode cL_set 17 = .ok (.astore 4, 2) := by decide +kernel
theorem dL_set_19 : decode cL_set 19 = .ok (.iconst 2, 1) := by decide +kernel
theorem dL_set_20 : decode cL_set 20 = .ok (.ireturn, 1) := by decide +kernel
theorem dL_set_21 : decode cL_set 21 = .ok (.iconst 0, 1) := by decide +kernel
theorem dL_set_22 : decode cL_set 22 = .ok (.ireturn, 1) := by decide +kernel
set_option maxRecDepth 20000 in
theorem ggL_setting_X4_setting : GoodIn wsL_setting wsX4_setting := goodIn_ca (goodIn_r _ [6, 7, 8, 9, 10, 11, 12, 5, 13, 14, 15, 16, 17, 18, 19, 20, 21, 22, 23, 24, 25, 26, 27, 28, 29, 30, 31, 32, 33, 34] rfl (by decide +kernel)) (goodIn_sub (fun _ h => List.mem_cons_of_mem _ (List.mem_append_right _ h)) (by decide +kernel))
set_option maxRecDepth 20000 in
theorem gL_setting_X4_setting : GoodIn wsL_setting (wsV RL 21 RX4 yX4_setting wsX4_setting) := goodIn_app (goodIn_r _ [2, 3, 4, 5] rfl (by decide +kernel)) ggL_setting_X4_setting
theorem dL_setting_0 : decode cL_setting 0 = .ok (.aload_n 2, 1) := by decide +kernel
theorem dL_setting_1 : decode cL_setting 1 = .ok (.iconst 0, 1) := by decide +kernel
theorem dL_setting_2 : decode cL_setting 2 = .ok (.aload_n 0, 1) := by decide +kernel
theorem dL_setting_3 : decode cL_setting 3 = .ok (.iload_n 1, 1) := by decide +kernel
theorem dL_setting_4 : decode cL_setting 4 = .ok (.invokevirtual 21, 3) := by decide +kernel
theorem dL_setting_7 : decode cL_setting 7 = .ok (.i2l, 1) := by decide +kernel
theorem dL_setting_8 : decode cL_setting 8 = .ok (.lastore, 1) := by decide +kernel
theorem dL_setting_9 : decode cL_setting 9 = .ok (.goto 6, 3) := by decide +kernel
theorem dL_setting_12 : decode cL_setting 12 = .ok (.astore_n 3, 1) := by decide +kernel
theorem dL_setting_13 : decode cL_setting 13 = .ok (.iconst 1, 1) := by decide +kernel
theorem dL_setting_14 : decode cL_setting 14 = .ok (.ireturn, 1) := by decide +kernel
theorem dL_setting_15 : decode cL_setting 15 = .ok (.iconst 0, 1) := by decide +kernel
theorem dL_setting_16 : decode cL_setting 16 = .ok (.ireturn, 1) := by decide +kernel
set_option maxRecDepth 20000 in
theorem ggL_start_X4_start : GoodIn wsL_start wsX4_start := goodIn_ca (goodIn_r _ [6, 7, 8, 9, 10, 11, 12, 13, 14, 15, 16, 17, 18, 19, 20, 21, 22, 23, 24, 25, 26, 27, 28, 29, 30, 31, 32, 33, 34, 35, 36, 37, 38, 39, 40, 41, 42, 43, 44, 45, 46, 47, 48, 49, 50, 51, 52, 53, 54, 55, 56, 57] rfl (by decide +kernel)) (goodIn_sub (fun _ h => List.mem_cons_of_mem _ (List.mem_append_right _ h)) (by decide +kernel))
set_option maxRecDepth 20000 in
theorem gL_start_X4_start : GoodIn wsL_start (wsV RL 24 RX4 yX4_start wsX4_start) := goodIn_app (goodIn_r _ [2, 3, 4, 5] rfl (by decide +kernel)) ggL_start_X4_start
theorem dL_start_0 : decode cL_start 0 = .ok (.aload_n 1, 1) := by decide +kernel
theorem dL_start_1 : decode cL_start 1 = .ok (.iconst 0, 1) := by decide +kernel
theorem dL_start_2 : decode cL_start 2 = .ok (.aload_n 0, 1) := by decide +kernel
theorem dL_start_3 : decode cL_start 3 = .ok (.invokevirtual 24, 3) := by decide +kernel
theorem dL_start_6 : decode cL_start 6 = .ok (.i2l, 1) := by decide +kernel
theorem dL_start_7 : decode cL_start 7 = .ok (.lastore, 1) := by decide +kernel
theorem dL_start_8 : decode cL_start 8 = .ok (.goto 6, 3) := by decide +kernel
theorem dL_start_11 : decode cL_start 11 = .ok (.astore_n 2, 1) := by decide +kernel
theorem dL_start_12 : decode cL_start 12 = .ok (.iconst 1, 1) := by decide +kernel
theorem dL_start_13 : decode cL_start 13 = .ok (.ireturn, 1) := by decide +kernel
theorem dL_start_14 : decode cL_start 14 = .ok (.iconst 0, 1) := by decide +kernel
theorem dL_start_15 : decode cL_start 15 = .ok (.ireturn, 1) := by decide +kernel
set_option maxRecDepth 20000 in
theorem ggL_run_X4_run : GoodIn wsL_run wsX4_run := goodIn_ca (goodIn_ca (goodIn_r _ [7, 8, 9, 10, 11, 12, 13, 14, 15, 6, 16, 17, 18, 19, 20, 21, 22, 23, 24, 25, 26, 27, 28, 29, 30, 31, 32, 33, 34, 35, 36, 37, 38, 39, 40, 41, 42, 43, 44, 45, 46, 47, 48, 49, 50, 51, 52, 53, 54, 55, 56, 57, 58, 59, 60, 61, 62, 63, 64, 65, 66, 67, 68, 69, 70, 71, 72, 73, 74, 75, 76, 77, 78, 79, 80, 81, 82, 83, 84, 85, 86, 87, 88, 89, 90, 91, 92, 93, 94, 95, 96, 97, 98, 99, 100, 101, 102, 103, 104, 105, 106, 107, 108, 109, 110, 111, 112, 113, 114, 115, 116, 117, 118, 119, 120, 121, 122, 123, 124, 125, 126, 127, 128, 129, 130, 131, 132, 133, 134, 135, 136, 137, 138, 139, 140, 141, 142, 143, 144, 145, 146, 147, 148, 149, 150, 151, 152, 153, 154, 155, 156, 157, 158, 159, 160, 161, 162, 163, 164, 165, 166, 167, 168, 169, 170, 171, 172, 173, 174, 175, 176, 177, 178, 179, 180, 181, 182] rfl (by decide +kernel)) (goodIn_sub (fun _ h => List.mem_cons_of_mem _ (List.mem_append_left _ (List.mem_append_right _ h))) (by decide +kernel))) (goodIn_sub (fun _ h => List.mem_cons_of_mem _ (List.mem_append_right _ h)) (by decide +kernel))
set_option maxRecDepth 20000 in
theorem gL_run_X4_run : GoodIn wsL_run (wsV RL 30 RX4 yX4_run wsX4_run) := goodIn_app (goodIn_r _ [3, 4, 5, 6] rfl (by decide +kernel)) ggL_run_X4_run
theorem dL_run_0 : decode cL_run 0 = .ok (.aload_n 2, 1) := by decide +kernel
theorem dL_run_1 : decode cL_run 1 = .ok (.iconst 0, 1) := by decide +kernel
theorem dL_run_2 : decode cL_run 2 = .ok (.aload_n 0, 1) := by decide +kernel
theorem dL_run_3 : decode cL_run 3 = .ok (.iload_n 1, 1) := by decide +kernel
theorem dL_run_4 : decode cL_run 4 = .ok (.invokevirtual 30, 3) := by decide +kernel
theorem dL_run_7 : decode cL_run 7 = .ok (.i2l, 1) := by decide +kernel
theorem dL_run_8 : decode cL_run 8 = .ok (.lastore, 1) := by decide +kernel
theorem dL_run_9 : decode cL_run 9 = .ok (.goto 9, 3) := by decide +kernel
theorem dL_run_12 : decode cL_run 12 = .ok (.astore_n 3, 1) := by decide +kernel
theorem dL_run_13 : decode cL_run 13 = .ok (.iconst 1, 1) := by decide +kernel
theorem dL_run_14 : decode cL_run 14 = .ok (.ireturn, 1) := by decide +kernel
theorem dL_run_15 : decode cL_run 15 = .ok (.astore_n 3, 1) := by decide +kernel
theorem dL_run_16 : decode cL_run 16 = .ok (.iconst 2, 1) := by decide +kernel
theorem dL_run_17 : decode cL_run 17 = .ok (.ireturn, 1) := by decide +kernel
theorem dL_run_18 : decode cL_run 18 = .ok (.iconst 0, 1) := by decide +kernel
theorem dL_run_19 : decode cL_run 19 = .ok (.ireturn, 1) := by decide +kernel
set_option maxRecDepth 20000 in
theorem ggL_append_X4_append : GoodIn wsL_append wsX4_append := goodIn_ca (goodIn_ca (goodIn_r _ [7, 8, 9, 10, 11, 12, 13, 14, 15, 16, 17, 18, 19, 20, 21, 22, 23, 24, 25, 26] rfl (by decide +kernel)) (goodIn_sub (fun _ h => List.mem_cons_of_mem _ (List.mem_append_left _ (List.mem_append_right _ h))) (by decide +kernel))) (goodIn_sub (fun _ h => List.mem_cons_of_mem _ (List.mem_append_right _ h)) (by decide +kernel))
set_option maxRecDepth 20000 in
theorem gL_append_X4_append : GoodIn wsL_append (wsV RL 33 RX4 yX4_append wsX4_append) := goodIn_app (goodIn_r _ [3, 4, 5, 6] rfl (by decide +kernel)) ggL_append_X4_append
theorem dL_append_0 : decode cL_append 0 = .ok (.aload_n 2, 1) := by decide +kernel
theorem dL_append_1 : decode cL_append 1 = .ok (.iconst 0, 1) := by decide +kernel
theorem dL_append_2 : decode cL_append 2 = .ok (.aload_n 0, 1) := by decide +kernel
theorem dL_append_3 : decode cL_append 3 = .ok (.iload_n 1, 1) := by decide +kernel
theorem dL_append_4 : decode cL_append 4 = .ok (.invokevirtual 33, 3) := by decide +kernel
theorem dL_append_7 : decode cL_append 7 = .ok (.i2l, 1) := by decide +kernel
theorem dL_append_8 : decode cL_append 8 = .ok (.lastore, 1) := by decide +kernel
theorem dL_append_9 : decode cL_append 9 = .ok (.goto 9, 3) := by decide +kernel
theorem dL_append_12 : decode cL_append 12 = .ok (.astore_n 3, 1) := by decide +kernel
theorem dL_append_13 : decode cL_append 13 = .ok (.iconst 1, 1) := by decide +kernel
theorem dL_append_14 : decode cL_append 14 = .ok (.ireturn, 1) := by decide +kernel
theorem dL_append_15 : decode cL_append 15 = .ok (.astore_n 3, 1) := by decide +kernel
theorem dL_append_16 : decode cL_append 16 = .ok (.iconst 2, 1) := by decide +kernel
theorem dL_append_17 : decode cL_append 17 = .ok (.ireturn, 1) := by decide +kernel
theorem dL_append_18 : decode cL_append 18 = .ok (.iconst 0, 1) := by decide +kernel
theorem dL_append_19 : decode cL_append 19 = .ok (.ireturn, 1) := by decide +kernel
set_option maxRecDepth 20000 in
theorem ggL_play_X4_play : GoodIn wsL_play wsX4_play := goodIn_ca (goodIn_r _ [6, 7, 8, 9, 10, 11, 12, 13, 14, 15, 16, 17, 18, 19, 20, 21, 22, 23, 24, 25, 26, 27, 28, 5, 29, 30, 31, 32, 33, 34, 35, 36, 37, 38, 39, 40, 41, 42, 43, 44, 45, 46, 47, 48, 49, 50, 51, 52, 53, 54, 55, 56, 57, 58, 59, 60, 61, 62, 63, 64, 65, 66, 67, 68, 69, 70, 71, 72, 73, 74, 75, 76, 77, 78, 79, 80, 81, 82, 83, 84, 85, 86, 87, 88, 89, 90, 91, 92, 93, 94, 95, 96, 97, 98, 99, 100, 101, 102, 103, 104, 105, 106, 107, 108, 109, 110, 111, 112, 113, 114, 115, 116, 117, 118, 119, 120, 121, 122, 123, 124, 125, 126, 127, 128, 129, 130, 131, 132, 133, 134, 135, 136, 137, 138, 139, 140, 141, 142, 143, 144, 145, 146, 147, 148, 149, 150, 151, 152, 153, 154, 155, 156, 157, 158, 159, 160, 161, 162, 163, 164, 165, 166, 167, 168, 169, 170, 171, 172, 173, 174, 175, 176, 177, 178, 179, 180, 181, 182, 183, 184, 185, 186, 187, 188, 189, 190, 191, 192, 193, 194, 195, 196, 197, 198, 199, 200, 201, 202, 203, 204, 205, 206, 207, 208, 209, 210, 211, 212, 213, 214, 215, 216, 217, 218, 219, 220, 221, 222, 223, 224, 225, 226, 227, 228, 229, 230] rfl (by decide +kernel)) (goodIn_sub (fun _ h => List.mem_cons_of_mem _ (List.mem_append_right _ h)) (by decide +kernel))
set_option maxRecDepth 20000 in
theorem gL_play_X4_play : GoodIn wsL_play (wsV RL 36 RX4 yX4_play wsX4_play) := goodIn_app (goodIn_r _ [2, 3, 4, 5] rfl (by decide +kernel)) ggL_play_X4_play
theorem dL_play_0 : decode cL_play 0 = .ok (.aload_n 1, 1) := by decide +kernel
theorem dL_play_1 : decode cL_play 1 = .ok (.iconst 0, 1) := by decide +kernel
theorem dL_play_2 : decode cL_play 2 = .ok (.aload_n 0, 1) := by decide +kernel
theorem dL_play_3 : decode cL_play 3 = .ok (.invokevirtual 36, 3) := by decide +kernel
theorem dL_play_6 : decode cL_play 6 = .ok (.i2l, 1) := by decide +kernel
theorem dL_play_7 : decode cL_play 7 = .ok (.lastore, 1) := by decide +kernel
theorem dL_play_8 : decode cL_play 8 = .ok (.goto 6, 3) := by decide +kernel
theorem dL_play_11 : decode cL_play 11 = .ok (.astore_n 2, 1) := by decide +kernel
theorem dL_play_12 : decode cL_play 12 = .ok (.iconst 1, 1) := by decide +kernel
theorem dL_play_13 : decode cL_play 13 = .ok (.ireturn, 1) := by decide +kernel
theorem dL_play_14 : decode cL_play 14 = .ok (.iconst 0, 1) := by decide +kernel
theorem dL_play_15 : decode cL_play 15 = .ok (.ireturn, 1) := by decide +kernel
set_option maxRecDepth 20000 in
theorem ggL_count_X4_count : GoodIn wsL_count wsX4_count := goodIn_ca (goodIn_r _ [6, 7, 8, 9, 10, 11, 5, 12, 13, 14, 15, 16, 17, 18, 19, 20, 21, 22, 23, 24, 25, 26, 27, 28, 29, 30, 31, 32, 33, 34, 35, 36, 37, 38, 39, 40, 41, 42, 43, 44, 45, 46, 47, 48, 49, 50, 51, 52, 53, 54, 55, 56, 57, 58, 59, 60, 61, 62, 63, 64, 65, 66, 67, 68, 69, 70, 71, 72, 73, 74, 75, 76, 77, 78, 79] rfl (by decide +kernel)) (goodIn_sub (fun _ h => List.mem_cons_of_mem _ (List.mem_append_right _ h)) (by decide +kernel))
set_option maxRecDepth 20000 in
theorem gL_count_X4_count : GoodIn wsL_count (wsV RL 39 RX4 yX4_count wsX4_count) := goodIn_app (goodIn_r _ [2, 3, 4, 5] rfl (by decide +kernel)) ggL_count_X4_count
theorem dL_count_0 : decode cL_count 0 = .ok (.aload_n 2, 1) := by decide +kernel
theorem dL_count_1 : decode cL_count 1 = .ok (.iconst 0, 1) := by decide +kernel
theorem dL_count_2 : decode cL_count 2 = .ok (.aload_n 0, 1) := by decide +kernel
theorem dL_count_3 : decode cL_count 3 = .ok (.iload_n 1, 1) := by decide +kernel
theorem dL_count_4 : decode cL_count 4 = .ok (.invokevirtual 39, 3) := by decide +kernel
theorem dL_count_7 : decode cL_count 7 = .ok (.i2l, 1) := by decide +kernel
theorem dL_count_8 : decode cL_count 8 = .ok (.lastore, 1) := by decide +kernel
theorem dL_count_9 : decode cL_count 9 = .ok (.goto 6, 3) := by decide +kernel
theorem dL_count_12 : decode cL_count 12 = .ok (.astore_n 3, 1) := by decide +kernel
theorem dL_count_13 : decode cL_count 13 = .ok (.iconst 1, 1) := by decide +kernel
theorem dL_count_14 : decode cL_count 14 = .ok (.ireturn, 1) := by decide +kernel
theorem dL_count_15 : decode cL_count 15 = .ok (.iconst 0, 1) := by decide +kernel
theorem dL_count_16 : decode cL_count 16 = .ok (.ireturn, 1) := by decide +kernel
set_option maxRecDepth 20000 in
theorem ggL_phase_X4_phase : GoodIn wsL_phase wsX4_phase := goodIn_ca (goodIn_ca (goodIn_r _ [7, 8, 9, 10, 11, 12, 13, 14, 15, 16, 17, 18, 19, 20, 21, 22, 23, 24, 25, 26, 27, 28, 29, 30, 31, 32, 33, 34, 35, 36, 37, 38, 39, 40, 41, 42, 43, 44, 45, 46, 47, 48, 49, 50, 51, 52, 53, 54] rfl (by decide +kernel)) (goodIn_sub (fun _ h => List.mem_cons_of_mem _ (List.mem_append_left _ (List.mem_append_right _ h))) (by decide +kernel))) (goodIn_sub (fun _ h => List.mem_cons_of_mem _ (List.mem_append_right _ h)) (by decide +kernel))
set_option maxRecDepth 20000 in
theorem gL_phase_X4_phase : GoodIn wsL_phase (wsV RL 42 RX4 yX4_phase wsX4_phase) := goodIn_app (goodIn_r _ [3, 4, 5, 6] rfl (by decide +kernel)) ggL_phase_X4_phase
theorem dL_phase_0 : decode cL_phase 0 = .ok (.aload_n 3, 1) := by decide +kernel
theorem dL_phase_1 : decode cL_phase 1 = .ok (.iconst 0, 1) := by decide +kernel
theorem dL_phase_2 : decode cL_phase 2 = .ok (.aload_n 0, 1) := by decide +kernel
theorem dL_phase_3 : decode cL_phase 3 = .ok (.iload_n 1, 1) := by decide +kernel
theorem dL_phase_4 : decode cL_phase 4 = .ok (.iload_n 2, 1) := by decide +kernel
theorem dL_phase_5 : decode cL_phase 5 = .ok (.invokevirtual 42, 3) := by decide +kernel
theorem dL_phase_8 : decode cL_phase 8 = .ok (.i2l, 1) := by decide +kernel
theorem dL_phase_9 : decode cL_phase 9 = .ok (.lastore, 1) := by decide +kernel
theorem dL_phase_10 : decode cL_phase 10 = .ok (.goto 11, 3) := by decide +kernel
theorem dL_phase_13 : decode cL_phase 13 = .ok (.astore 4, 2) := by decide +kernel
theorem dL_phase_15 : decode cL_phase 15 = .ok (.iconst 1, 1) := by decide +kernel
theorem dL_phase_16 : decode cL_phase 16 = .ok (.ireturn, 1) := by decide +kernel
theorem dL_phase_17 : decode cL_phase 17 = .ok (.astore 4, 2) := by decide +kernel
theorem dL_phase_19 : decode cL_phase 19 = .ok (.iconst 2, 1) := by decide +kernel
theorem dL_phase_20 : decode cL_phase 20 = .ok (.ireturn, 1) := by decide +kernel
theorem dL_phase_21 : decode cL_phase 21 = .ok (.iconst 0, 1) := by decide +kernel
theorem dL_phase_22 : decode cL_phase 22 = .ok (.ireturn, 1) := by decide +kernel
set_option maxRecDepth 20000 in
theorem ggL_record_X4_record : GoodIn wsL_record wsX4_record := goodIn_ca (goodIn_ca (goodIn_r _ [7, 8, 9, 10, 11, 12, 13, 14, 15, 16, 17, 18, 19, 20, 21, 22, 23, 24, 25, 26, 27] rfl (by decide +kernel)) (goodIn_sub (fun _ h => List.mem_cons_of_mem _ (List.mem_append_left _ (List.mem_append_right _ h))) (by decide +kernel))) (goodIn_sub (fun _ h => List.mem_cons_of_mem _ (List.mem_append_right _ h)) (by decide +kernel))
set_option maxRecDepth 20000 in
theorem gL_record_X4_record : GoodIn wsL_record (wsV RL 45 RX4 yX4_record wsX4_record) := goodIn_app (goodIn_r _ [3, 4, 5, 6] rfl (by decide +kernel)) ggL_record_X4_record
theorem dL_record_0 : decode cL_record 0 = .ok (.aload_n 3, 1) := by decide +kernel
theorem dL_record_1 : decode cL_record 1 = .ok (.iconst 0, 1) := by decide +kernel
theorem dL_record_2 : decode cL_record 2 = .ok (.aload_n 0, 1) := by decide +kernel
theorem dL_record_3 : decode cL_record 3 = .ok (.iload_n 1, 1) := by decide +kernel
theorem dL_record_4 : decode cL_record 4 = .ok (.iload_n 2, 1) := by decide +kernel
theorem dL_record_5 : decode cL_record 5 = .ok (.invokevirtual 45, 3) := by decide +kernel
theorem dL_record_8 : decode cL_record 8 = .ok (.i2l, 1) := by decide +kernel
theorem dL_record_9 : decode cL_record 9 = .ok (.lastore, 1) := by decide +kernel
theorem dL_record_10 : decode cL_record 10 = .ok (.goto 11, 3) := by decide +kernel
theorem dL_record_13 : decode cL_record 13 = .ok (.astore 4, 2) := by decide +kernel
theorem dL_record_15 : decode cL_record 15 = .ok (.iconst 1, 1) := by decide +kernel
theorem dL_record_16 : decode cL_record 16 = .ok (.ireturn, 1) := by decide +kernel
theorem dL_record_17 : decode cL_record 17 = .ok (.astore 4, 2) := by decide +kernel
theorem dL_record_19 : decode cL_record 19 = .ok (.iconst 2, 1) := by decide +kernel
theorem dL_record_20 : decode cL_record 20 = .ok (.ireturn, 1) := by decide +kernel
theorem dL_record_21 : decode cL_record 21 = .ok (.iconst 0, 1) := by decide +kernel
theorem dL_record_22 : decode cL_record 22 = .ok (.ireturn, 1) := by decide +kernel
set_option maxRecDepth 20000 in
theorem ggL_ifLoaded_X4_ifLoaded : GoodIn wsL_ifLoaded wsX4_ifLoaded := goodIn_ca (goodIn_r _ [6, 7, 8, 9, 10, 11, 12, 13, 14, 15, 16, 17, 18, 19, 20, 21, 22, 23, 24, 25, 26, 5, 27, 28, 29, 30, 31, 32, 33, 34, 35, 36, 37, 38, 39, 40, 41, 42, 43, 44, 45, 46, 47, 48, 49, 50, 51, 52, 53, 54, 55, 56, 57, 58, 59, 60, 61, 62, 63, 64, 65, 66, 67, 68, 69, 70, 71, 72, 73, 74, 75, 76, 77, 78, 79, 80, 81, 82, 83, 84, 85, 86, 87, 88, 89, 90, 91, 92, 93, 94, 95, 96, 97, 98, 99, 100, 101, 102, 103, 104, 105, 106, 107, 108, 109, 110, 111, 112, 113, 114, 115, 116, 117, 118, 119, 120, 121, 122, 123, 124, 125, 126, 127, 128, 129, 130, 131, 132, 133, 134, 135, 136, 137, 138, 139, 140, 141, 142, 143, 144, 145, 146, 147, 148, 149, 150, 151, 152, 153, 154, 155, 156, 157, 158, 159, 160, 161, 162, 163, 164, 165, 166, 167, 168, 169, 170, 171, 172, 173, 174] rfl (by decide +kernel)) (goodIn_sub (fun _ h => List.mem_cons_of_mem _ (List.mem_append_right _ h)) (by decide +kernel))
set_option maxRecDepth 20000 in
theorem gL_ifLoaded_X4_ifLoaded : GoodIn wsL_ifLoaded (wsV RL 48 RX4 yX4_ifLoaded wsX4_ifLoaded) := goodIn_app (goodIn_r _ [2, 3, 4, 5] rfl (by decide +kernel)) ggL_ifLoaded_X4_ifLoaded
theorem dL_ifLoaded_0 : decode cL_ifLoaded 0 = .ok (.aload 4, 2) := by decide +kernel
theorem dL_ifLoaded_2 : decode cL_ifLoaded 2 = .ok (.iconst 0, 1) := by decide +kernel
theorem dL_ifLoaded_3 : decode cL_ifLoaded 3 = .ok (.aload_n 0, 1) := by decide +kernel
theorem dL_ifLoaded_4 : decode cL_ifLoaded 4 = .ok (.iload_n 1, 1) := by decide +kernel
theorem dL_ifLoaded_5 : decode cL_ifLoaded 5 = .ok (.iload_n 2, 1) := by decide +kernel
theorem dL_ifLoaded_6 : decode cL_ifLoaded 6 = .ok (.iload_n 3, 1) := by decide +kernel
theorem dL_ifLoaded_7 : decode cL_ifLoaded 7 = .ok (.invokevirtual 48, 3) := by decide +kernel
theorem dL_ifLoaded_10 : decode cL_ifLoaded 10 = .ok (.i2l, 1) := by decide +kernel
theorem dL_ifLoaded_11 : decode cL_ifLoaded 11 = .ok (.lastore, 1) := by decide +kernel
theorem dL_ifLoaded_12 : decode cL_ifLoaded 12 = .ok (.goto 7, 3) := by decide +kernel
theorem dL_ifLoaded_15 : decode cL_ifLoaded 15 = .ok (.astore 5, 2) := by decide +kernel
theorem dL_ifLoaded_17 : decode cL_ifLoaded 17 = .ok (.iconst 1, 1) := by decide +kernel
theorem dL_ifLoaded_18 : decode cL_ifLoaded 18 = .ok (.ireturn, 1) := by decide +kernel
theorem dL_ifLoaded_19 : decode cL_ifLoaded 19 = .ok (.iconst 0, 1) := by decide +kernel
theorem dL_ifLoaded_20 : decode cL_ifLoaded 20 = .ok (.ireturn, 1) := by decide +kernel
set_option maxRecDepth 20000 in
theorem ggL_settles_X4_settles : GoodIn wsL_settles wsX4_settles := goodIn_ca (goodIn_r _ [6, 7, 8, 9, 10, 11, 12, 13, 14, 15, 16, 17, 18, 5, 19, 20, 21, 22, 23, 24, 25, 26, 27, 28, 29, 30, 31, 32, 33, 34, 35, 36, 37, 38, 39, 40, 41, 42, 43, 44, 45, 46, 47, 48, 49, 50, 51, 52, 53, 54, 55, 56, 57, 58, 59, 60, 61, 62, 63, 64, 65, 66, 67, 68, 69, 70, 71, 72, 73, 74, 75, 76, 77, 78, 79, 80, 81, 82, 83, 84, 85, 86, 87, 88, 89, 90, 91, 92, 93, 94, 95, 96, 97, 98, 99, 100, 101, 102, 103, 104, 105, 106, 107, 108, 109, 110, 111, 112, 113, 114, 115, 116, 117, 118, 119, 120, 121, 122, 123, 124, 125, 126, 127, 128, 129, 130, 131, 132, 133, 134, 135, 136, 137, 138, 139, 140, 141, 142, 143, 144, 145, 146, 147, 148, 149, 150, 151, 152, 153, 154, 155, 156, 157, 158, 159, 160, 161] rfl (by decide +kernel)) (goodIn_sub (fun _ h => List.mem_cons_of_mem _ (List.mem_append_right _ h)) (by decide +kernel))
set_option maxRecDepth 20000 in
theorem gL_settles_X4_settles : GoodIn wsL_settles (wsV RL 52 RX4 yX4_settles wsX4_settles) := goodIn_app (goodIn_r _ [2, 3, 4, 5] rfl (by decide +kernel)) ggL_settles_X4_settles
theorem dL_settles_0 : decode cL_settles 0 = .ok (.aload_n 2, 1) := by decide +kernel
theorem dL_settles_1 : decode cL_settles 1 = .ok (.iconst 0, 1) := by decide +kernel
theorem dL_settles_2 : decode cL_settles 2 = .ok (.aload_n 0, 1) := by decide +kernel
theorem dL_settles_3 : decode cL_settles 3 = .ok (.iload_n 1, 1) := by decide +kernel
theorem dL_settles_4 : decode cL_settles 4 = .ok (.invokevirtual 52, 3) := by decide +kernel
theorem dL_settles_7 : decode cL_settles 7 = .ok (.i2l, 1) := by decide +kernel
theorem dL_settles_8 : decode cL_settles 8 = .ok (.lastore, 1) := by decide +kernel
theorem dL_settles_9 : decode cL_settles 9 = .ok (.goto 6, 3) := by decide +kernel
theorem dL_settles_12 : decode cL_settles 12 = .ok (.astore_n 3, 1) := by decide +kernel
theorem dL_settles_13 : decode cL_settles 13 = .ok (.iconst 1, 1) := by decide +kernel
theorem dL_settles_14 : decode cL_settles 14 = .ok (.ireturn, 1) := by decide +kernel
theorem dL_settles_15 : decode cL_settles 15 = .ok (.iconst 0, 1) := by decide +kernel
theorem dL_settles_16 : decode cL_settles 16 = .ok (.ireturn, 1) := by decide +kernel
set_option maxRecDepth 20000 in
theorem ggL_greatestLoad_X4_greatestLoad : GoodIn wsL_greatestLoad wsX4_greatestLoad := goodIn_ca (goodIn_r _ [6, 7, 8, 9, 10, 11, 12, 5, 13, 14, 15, 16, 17, 18, 19, 20, 21, 22, 23, 24, 25, 26, 27, 28, 29, 30, 31, 32, 33, 34, 35, 36, 37, 38, 39, 40, 41, 42, 43, 44, 45, 46, 47, 48, 49, 50, 51, 52, 53, 54, 55, 56, 57, 58, 59, 60, 61, 62, 63, 64, 65, 66, 67, 68, 69, 70, 71, 72, 73, 74, 75, 76, 77, 78, 79, 80, 81, 82, 83, 84, 85, 86, 87, 88, 89, 90, 91, 92, 93, 94, 95, 96, 97, 98, 99, 100, 101, 102, 103, 104, 105, 106, 107, 108, 109, 110, 111, 112, 113, 114, 115, 116, 117, 118, 119, 120, 121, 122, 123, 124, 125, 126, 127, 128, 129, 130, 131, 132, 133, 134, 135, 136, 137, 138, 139, 140, 141, 142, 143, 144, 145, 146, 147, 148, 149, 150, 151, 152, 153, 154, 155, 156, 157, 158, 159, 160, 161, 162, 163] rfl (by decide +kernel)) (goodIn_sub (fun _ h => List.mem_cons_of_mem _ (List.mem_append_right _ h)) (by decide +kernel))
set_option maxRecDepth 20000 in
theorem gL_greatestLoad_X4_greatestLoad : GoodIn wsL_greatestLoad (wsV RL 55 RX4 yX4_greatestLoad wsX4_greatestLoad) := goodIn_app (goodIn_r _ [2, 3, 4, 5] rfl (by decide +kernel)) ggL_greatestLoad_X4_greatestLoad
theorem dL_greatestLoad_0 : decode cL_greatestLoad 0 = .ok (.aload_n 2, 1) := by decide +kernel
theorem dL_greatestLoad_1 : decode cL_greatestLoad 1 = .ok (.iconst 0, 1) := by decide +kernel
theorem dL_greatestLoad_2 : decode cL_greatestLoad 2 = .ok (.aload_n 0, 1) := by decide +kernel
theorem dL_greatestLoad_3 : decode cL_greatestLoad 3 = .ok (.iload_n 1, 1) := by decide +kernel
theorem dL_greatestLoad_4 : decode cL_greatestLoad 4 = .ok (.invokevirtual 55, 3) := by decide +kernel
theorem dL_greatestLoad_7 : decode cL_greatestLoad 7 = .ok (.i2l, 1) := by decide +kernel
theorem dL_greatestLoad_8 : decode cL_greatestLoad 8 = .ok (.lastore, 1) := by decide +kernel
theorem dL_greatestLoad_9 : decode cL_greatestLoad 9 = .ok (.goto 6, 3) := by decide +kernel
theorem dL_greatestLoad_12 : decode cL_greatestLoad 12 = .ok (.astore_n 3, 1) := by decide +kernel
theorem dL_greatestLoad_13 : decode cL_greatestLoad 13 = .ok (.iconst 1, 1) := by decide +kernel
theorem dL_greatestLoad_14 : decode cL_greatestLoad 14 = .ok (.ireturn, 1) := by decide +kernel
theorem dL_greatestLoad_15 : decode cL_greatestLoad 15 = .ok (.iconst 0, 1) := by decide +kernel
theorem dL_greatestLoad_16 : decode cL_greatestLoad 16 = .ok (.ireturn, 1) := by decide +kernel
set_option maxRecDepth 20000 in
theorem ggL_law_X4_init : GoodIn wsL_law wsX4_init := goodIn_r _ [9, 10, 11, 12, 13, 14, 15, 16, 17, 18, 19, 20, 21, 22, 23, 24, 25, 26, 27, 28, 29, 30, 31, 32, 33, 34, 35, 36, 37, 38, 39, 40, 41, 42, 43, 44, 45, 46, 47, 48, 49, 50, 51, 52, 53, 54, 694, 695, 696, 697, 698, 699, 700, 701, 702, 703, 704, 705, 706, 707, 708, 709, 710, 675, 676, 677, 678, 711, 712, 713, 714, 715, 716, 717, 718, 719, 720, 721, 722] rfl (by decide +kernel)
set_option maxRecDepth 20000 in
theorem gL_law_X4_init : GoodIn wsL_law (wsX4_init) := ggL_law_X4_init
set_option maxRecDepth 20000 in
theorem ggL_law_X5_init : GoodIn wsL_law wsX5_init := goodIn_r _ [57, 58, 11, 12, 49, 59, 60, 61, 62, 63, 64, 65, 5, 66, 67, 68, 69, 679, 680, 681, 682, 683, 684, 685, 686, 687, 688, 689, 690, 691, 692, 693] rfl (by decide +kernel)
set_option maxRecDepth 20000 in
theorem gL_law_X5_init : GoodIn wsL_law (wsX5_init) := ggL_law_X5_init
set_option maxRecDepth 20000 in
theorem ggL_law_L_begin : GoodIn wsL_law wsL_begin := goodIn_ca (goodIn_r _ [73, 74, 75, 76, 77, 2, 78, 79, 80, 16, 81, 21, 82, 83, 84, 15, 85, 36, 86, 87, 88, 89, 38, 41, 42, 90, 91, 92, 93, 94, 95, 96, 97, 98, 99, 100, 101, 102, 103, 104, 105, 40, 106, 107, 108, 109, 110, 111, 112, 113, 114, 115, 116, 20, 117, 118, 119, 675, 676, 677, 678, 694, 695, 696, 697, 698, 699, 700, 701, 702, 703, 704, 705, 706, 707, 708, 709, 710, 716, 717, 718, 719, 720, 721, 722, 711, 712, 713] rfl (by decide +kernel)) (goodIn_sub (fun _ h => List.mem_append_left _ (List.mem_append_left _ (List.mem_append_right _ h))) (by decide +kernel))
set_option maxRecDepth 20000 in
theorem gL_law_L_begin : GoodIn wsL_law (va_wsS RL 62 yL_begin wsL_begin) := goodIn_app (goodIn_r _ [70, 71, 72] rfl (by decide +kernel)) ggL_law_L_begin
set_option maxRecDepth 20000 in
theorem ggL_law_X5_begin : GoodIn wsL_law wsX5_begin := goodIn_r _ [123, 124, 59, 125, 126, 5, 127, 63, 64, 65, 66, 67, 68, 69, 679, 680, 681, 682, 683, 684, 685, 686, 687, 688, 689, 690, 691, 692, 693] rfl (by decide +kernel)
set_option maxRecDepth 20000 in
theorem gL_law_X5_begin : GoodIn wsL_law (wsV RL 67 RX5 yX5_begin wsX5_begin) := goodIn_app (goodIn_r _ [120, 121, 122, 5] rfl (by decide +kernel)) ggL_law_X5_begin
set_option maxRecDepth 20000 in
theorem ggL_law_X5_thrown : GoodIn wsL_law wsX5_thrown := goodIn_r _ [131, 124, 679, 680, 681, 682, 683, 684, 685, 686, 687, 688, 689, 690, 691, 692, 693] rfl (by decide +kernel)
set_option maxRecDepth 20000 in
theorem gL_law_X5_thrown : GoodIn wsL_law (wsV RL 68 RX5 yX5_thrown wsX5_thrown) := goodIn_app (goodIn_r _ [128, 129, 130, 5] rfl (by decide +kernel)) ggL_law_X5_thrown
set_option maxRecDepth 20000 in
theorem ggL_law_L_set : GoodIn wsL_law wsL_set := goodIn_ca (goodIn_ca (goodIn_r _ [134, 135, 74, 136, 137, 138, 2, 139, 140, 141, 79, 80, 16, 142, 143, 144, 145, 146, 147, 148, 149, 150, 675, 676, 677, 678, 694, 695, 696, 697, 698, 699, 700, 701, 702, 703, 704, 705, 706, 707, 708, 709, 710] rfl (by decide +kernel)) (goodIn_sub (fun _ h => List.mem_append_left _ (List.mem_append_right _ h)) (by decide +kernel))) (goodIn_sub (fun _ h => List.mem_append_left _ (List.mem_append_left _ (List.mem_append_right _ h))) (by decide +kernel))
set_option maxRecDepth 20000 in
theorem gL_law_L_set : GoodIn wsL_law (va_wsS RL 71 yL_set wsL_set) := goodIn_app (goodIn_r _ [132, 133, 72] rfl (by decide +kernel)) ggL_law_L_set
set_option maxRecDepth 20000 in
theorem ggL_law_X5_set : GoodIn wsL_law wsX5_set := goodIn_r _ [154, 124, 59, 155, 156, 5, 157, 125, 126, 127, 158, 159, 160, 161, 162, 163, 164, 679, 680, 681, 682, 683, 684, 685, 686, 687, 688, 689, 690, 691, 692, 693] rfl (by decide +kernel)
set_option maxRecDepth 20000 in
theorem gL_law_X5_set : GoodIn wsL_law (wsV RL 74 RX5 yX5_set wsX5_set) := goodIn_app (goodIn_r _ [151, 152, 153, 5] rfl (by decide +kernel)) ggL_law_X5_set
set_option maxRecDepth 20000 in
theorem ggL_law_L_setting : GoodIn wsL_law wsL_setting := goodIn_ca (goodIn_r _ [167, 135, 168, 169, 170, 2, 171, 140, 141, 16, 142, 143, 144, 145, 675, 676, 677, 678, 694, 695, 696, 697, 698, 699, 700, 701, 702, 703, 704, 705, 706, 707, 708, 709, 710] rfl (by decide +kernel)) (goodIn_sub (fun _ h => List.mem_append_left _ (List.mem_append_right _ h)) (by decide +kernel))
set_option maxRecDepth 20000 in
theorem gL_law_L_setting : GoodIn wsL_law (va_wsS RL 75 yL_setting wsL_setting) := goodIn_app (goodIn_r _ [165, 166, 72] rfl (by decide +kernel)) ggL_law_L_setting
set_option maxRecDepth 20000 in
theorem ggL_law_X5_setting : GoodIn wsL_law wsX5_setting := goodIn_r _ [175, 124, 59, 155, 156, 5, 157, 125, 126, 127, 679, 680, 681, 682, 683, 684, 685, 686, 687, 688, 689, 690, 691, 692, 693] rfl (by decide +kernel)
set_option maxRecDepth 20000 in
theorem gL_law_X5_setting : GoodIn wsL_law (wsV RL 77 RX5 yX5_setting wsX5_setting) := goodIn_app (goodIn_r _ [172, 173, 174, 5] rfl (by decide +kernel)) ggL_law_X5_setting
set_option maxRecDepth 20000 in
theorem ggL_law_L_start : GoodIn wsL_law wsL_start := goodIn_ca (goodIn_r _ [178, 179, 180, 181, 182, 2, 183, 184, 185, 16, 186, 187, 188, 189, 15, 190, 90, 191, 192, 193, 194, 91, 92, 93, 95, 96, 41, 42, 38, 195, 675, 676, 677, 678, 694, 695, 696, 697, 698, 699, 700, 701, 702, 703, 704, 705, 706, 707, 708, 709, 710, 716, 717, 718, 719, 720, 721, 722] rfl (by decide +kernel)) (goodIn_sub (fun _ h => List.mem_append_right _ h) (by decide +kernel))
set_option maxRecDepth 20000 in
theorem gL_law_L_start : GoodIn wsL_law (va_wsS RL 78 yL_start wsL_start) := goodIn_app (goodIn_r _ [176, 177, 72] rfl (by decide +kernel)) ggL_law_L_start
set_option maxRecDepth 20000 in
theorem ggL_law_X5_start : GoodIn wsL_law wsX5_start := goodIn_r _ [199, 124, 59, 200, 201, 202, 5, 203, 204, 205, 206, 679, 680, 681, 682, 683, 684, 685, 686, 687, 688, 689, 690, 691, 692, 693] rfl (by decide +kernel)
set_option maxRecDepth 20000 in
theorem gL_law_X5_start : GoodIn wsL_law (wsV RL 81 RX5 yX5_start wsX5_start) := goodIn_app (goodIn_r _ [196, 197, 198, 5] rfl (by decide +kernel)) ggL_law_X5_start
set_option maxRecDepth 20000 in
theorem ggL_law_X4_stop : GoodIn wsL_law wsX4_stop := goodIn_r _ [210, 16, 211, 212, 213, 214, 15, 215, 90, 38, 216, 675, 676, 677, 678, 694, 695, 696, 697, 698, 699, 700, 701, 702, 703, 704, 705, 706, 707, 708, 709, 710, 716, 717, 718, 719, 720, 721, 722] rfl (by decide +kernel)
set_option maxRecDepth 20000 in
theorem gL_law_X4_stop : GoodIn wsL_law (wsV RL 82 RX4 yX4_stop wsX4_stop) := goodIn_app (goodIn_r _ [207, 208, 209, 2] rfl (by decide +kernel)) ggL_law_X4_stop
set_option maxRecDepth 20000 in
theorem ggL_law_X5_stop : GoodIn wsL_law wsX5_stop := goodIn_r _ [220, 124, 59, 221, 222, 223, 5, 224, 204, 205, 206, 679, 680, 681, 682, 683, 684, 685, 686, 687, 688, 689, 690, 691, 692, 693] rfl (by decide +kernel)
set_option maxRecDepth 20000 in
theorem gL_law_X5_stop : GoodIn wsL_law (wsV RL 85 RX5 yX5_stop wsX5_stop) := goodIn_app (goodIn_r _ [217, 218, 219, 5] rfl (by decide +kernel)) ggL_law_X5_stop
set_option maxRecDepth 20000 in
theorem ggL_law_L_run : GoodIn wsL_law wsL_run := goodIn_ca (goodIn_ca (goodIn_r _ [227, 74, 179, 228, 229, 230, 2, 231, 79, 80, 184, 185, 16, 186, 232, 233, 234, 235, 236, 237, 238, 239, 240, 241, 242, 243, 244, 21, 245, 246, 247, 15, 248, 41, 38, 249, 250, 251, 252, 253, 36, 91, 99, 254, 255, 256, 257, 100, 258, 259, 260, 98, 97, 261, 188, 189, 190, 90, 262, 213, 214, 215, 216, 263, 264, 265, 266, 92, 267, 268, 269, 270, 93, 271, 272, 94, 273, 274, 275, 276, 277, 278, 279, 280, 42, 95, 96, 281, 282, 283, 284, 102, 285, 286, 287, 288, 289, 290, 291, 292, 293, 294, 295, 296, 40, 297, 108, 112, 298, 299, 300, 301, 302, 303, 304, 305, 109, 113, 306, 307, 308, 309, 101, 310, 311, 312, 313, 107, 111, 110, 314, 315, 316, 317, 318, 319, 320, 321, 20, 322, 119, 118, 323, 50, 324, 325, 326, 327, 328, 329, 330, 331, 675, 676, 677, 678, 694, 695, 696, 697, 698, 699, 700, 701, 702, 703, 704, 705, 706, 707, 708, 709, 710, 716, 717, 718, 719, 720, 721, 722, 711, 712, 713] rfl (by decide +kernel)) (goodIn_sub (fun _ h => List.mem_append_left _ (List.mem_append_left _ (List.mem_append_right _ h))) (by decide +kernel))) (goodIn_sub (fun _ h => List.mem_append_right _ h) (by decide +kernel))
set_option maxRecDepth 20000 in
theorem gL_law_L_run : GoodIn wsL_law (va_wsS RL 86 yL_run wsL_run) := goodIn_app (goodIn_r _ [225, 226, 72] rfl (by decide +kernel)) ggL_law_L_run
set_option maxRecDepth 20000 in
theorem ggL_law_X5_run : GoodIn wsL_law wsX5_run := goodIn_r _ [335, 59, 336, 124, 125, 126, 5, 127, 337, 338, 339, 340, 341, 342, 343, 344, 345, 346, 347, 348, 200, 201, 202, 203, 221, 222, 223, 224, 204, 205, 206, 349, 350, 351, 352, 353, 354, 355, 356, 357, 358, 359, 360, 361, 362, 363, 364, 365, 366, 367, 368, 369, 370, 371, 372, 373, 374, 375, 376, 377, 378, 379, 380, 381, 382, 383, 384, 385, 386, 387, 388, 389, 679, 680, 681, 682, 683, 684, 685, 686, 687, 688, 689, 690, 691, 692, 693] rfl (by decide +kernel)
set_option maxRecDepth 20000 in
theorem gL_law_X5_run : GoodIn wsL_law (wsV RL 88 RX5 yX5_run wsX5_run) := goodIn_app (goodIn_r _ [332, 333, 334, 5] rfl (by decide +kernel)) ggL_law_X5_run
set_option maxRecDepth 20000 in
theorem ggL_law_L_append : GoodIn wsL_law wsL_append := goodIn_ca (goodIn_ca (goodIn_r _ [392, 74, 179, 393, 394, 395, 2, 396, 79, 80, 184, 185, 25, 397, 398, 399, 400, 24, 401, 402, 54, 675, 676, 677, 678, 714, 715] rfl (by decide +kernel)) (goodIn_sub (fun _ h => List.mem_append_left _ (List.mem_append_left _ (List.mem_append_right _ h))) (by decide +kernel))) (goodIn_sub (fun _ h => List.mem_append_right _ h) (by decide +kernel))
set_option maxRecDepth 20000 in
theorem gL_law_L_append : GoodIn wsL_law (va_wsS RL 89 yL_append wsL_append) := goodIn_app (goodIn_r _ [390, 391, 72] rfl (by decide +kernel)) ggL_law_L_append
set_option maxRecDepth 20000 in
theorem ggL_law_X5_append : GoodIn wsL_law wsX5_append := goodIn_r _ [406, 407, 124, 61, 125, 126, 5, 127, 679, 680, 681, 682, 683, 684, 685, 686, 687, 688, 689, 690, 691, 692, 693] rfl (by decide +kernel)
set_option maxRecDepth 20000 in
theorem gL_law_X5_append : GoodIn wsL_law (wsV RL 91 RX5 yX5_append wsX5_append) := goodIn_app (goodIn_r _ [403, 404, 405, 5] rfl (by decide +kernel)) ggL_law_X5_append
set_option maxRecDepth 20000 in
theorem ggL_law_X4_clearBuffer : GoodIn wsL_law wsX4_clearBuffer := goodIn_r _ [411, 25, 397, 675, 676, 677, 678, 714, 715] rfl (by decide +kernel)
set_option maxRecDepth 20000 in
theorem gL_law_X4_clearBuffer : GoodIn wsL_law (wsV RL 92 RX4 yX4_clearBuffer wsX4_clearBuffer) := goodIn_app (goodIn_r _ [408, 409, 410, 2] rfl (by decide +kernel)) ggL_law_X4_clearBuffer
set_option maxRecDepth 20000 in
theorem ggL_law_X5_clearBuffer : GoodIn wsL_law wsX5_clearBuffer := goodIn_r _ [415, 124, 407, 679, 680, 681, 682, 683, 684, 685, 686, 687, 688, 689, 690, 691, 692, 693] rfl (by decide +kernel)
set_option maxRecDepth 20000 in
theorem gL_law_X5_clearBuffer : GoodIn wsL_law (wsV RL 95 RX5 yX5_clearBuffer wsX5_clearBuffer) := goodIn_app (goodIn_r _ [412, 413, 414, 5] rfl (by decide +kernel)) ggL_law_X5_clearBuffer
set_option maxRecDepth 20000 in
theorem ggL_law_X4_firstError : GoodIn wsL_law wsX4_firstError := goodIn_r _ [419, 25, 420, 421, 422, 24, 423, 402, 424, 425, 426, 427, 54, 428, 429, 430, 431, 432, 433, 434, 2, 435, 675, 676, 677, 678, 714, 715] rfl (by decide +kernel)
set_option maxRecDepth 20000 in
theorem gL_law_X4_firstError : GoodIn wsL_law (wsV RL 96 RX4 yX4_firstError wsX4_firstError) := goodIn_app (goodIn_r _ [416, 417, 418, 2] rfl (by decide +kernel)) ggL_law_X4_firstError
set_option maxRecDepth 20000 in
theorem ggL_law_X5_firstError : GoodIn wsL_law wsX5_firstError := goodIn_r _ [439, 124, 440, 441, 442, 5, 443, 444, 445, 407, 61, 446, 447, 448, 449, 450, 451, 125, 126, 127, 452, 453, 454, 455, 456, 457, 458, 459, 460, 62, 679, 680, 681, 682, 683, 684, 685, 686, 687, 688, 689, 690, 691, 692, 693] rfl (by decide +kernel)
set_option maxRecDepth 20000 in
theorem gL_law_X5_firstError : GoodIn wsL_law (wsV RL 99 RX5 yX5_firstError wsX5_firstError) := goodIn_app (goodIn_r _ [436, 437, 438, 5] rfl (by decide +kernel)) ggL_law_X5_firstError
set_option maxRecDepth 20000 in
theorem ggL_law_L_play : GoodIn wsL_law wsL_play := goodIn_ca (goodIn_r _ [463, 74, 464, 465, 466, 2, 467, 79, 80, 25, 397, 468, 469, 470, 24, 471, 402, 424, 425, 426, 427, 54, 428, 429, 430, 431, 432, 433, 434, 435, 472, 473, 474, 475, 476, 16, 187, 188, 189, 15, 190, 90, 232, 233, 234, 235, 236, 237, 238, 239, 240, 477, 478, 479, 146, 147, 148, 149, 150, 143, 144, 145, 480, 481, 482, 483, 142, 191, 192, 193, 194, 91, 92, 93, 95, 96, 41, 42, 38, 195, 212, 213, 214, 215, 216, 241, 242, 243, 244, 21, 245, 246, 247, 248, 249, 250, 251, 252, 253, 36, 99, 254, 255, 256, 257, 100, 258, 259, 260, 98, 97, 261, 262, 263, 264, 265, 266, 267, 268, 269, 270, 271, 272, 94, 273, 274, 275, 276, 277, 278, 279, 280, 281, 282, 283, 284, 102, 285, 286, 287, 288, 289, 290, 291, 292, 293, 294, 295, 296, 40, 297, 108, 112, 298, 299, 300, 301, 302, 303, 304, 305, 109, 113, 306, 307, 308, 309, 101, 310, 311, 312, 313, 107, 111, 110, 314, 315, 316, 317, 318, 319, 320, 321, 20, 322, 119, 118, 323, 50, 324, 325, 326, 327, 328, 329, 330, 331, 484, 675, 676, 677, 678, 714, 715, 694, 695, 696, 697, 698, 699, 700, 701, 702, 703, 704, 705, 706, 707, 708, 709, 710, 716, 717, 718, 719, 720, 721, 722, 711, 712, 713] rfl (by decide +kernel)) (goodIn_sub (fun _ h => List.mem_append_left _ (List.mem_append_left _ (List.mem_append_right _ h))) (by decide +kernel))
set_option maxRecDepth 20000 in
theorem gL_law_L_play : GoodIn wsL_law (va_wsS RL 100 yL_play wsL_play) := goodIn_app (goodIn_r _ [461, 462, 72] rfl (by decide +kernel)) ggL_law_L_play
set_option maxRecDepth 20000 in
theorem ggL_law_X5_play : GoodIn wsL_law wsX5_play := goodIn_r _ [488, 407, 444, 124, 445, 62, 440, 441, 442, 5, 443, 61, 446, 447, 448, 449, 450, 451, 125, 126, 127, 452, 453, 454, 455, 456, 457, 458, 459, 460, 489, 490, 491, 492, 493, 197, 198, 199, 59, 200, 201, 202, 203, 204, 205, 206, 494, 218, 219, 220, 221, 222, 223, 224, 495, 333, 334, 335, 336, 337, 338, 339, 340, 341, 342, 343, 344, 345, 346, 347, 348, 349, 350, 351, 352, 353, 354, 355, 356, 357, 358, 359, 360, 361, 362, 363, 364, 365, 366, 367, 368, 369, 370, 371, 372, 373, 374, 375, 376, 377, 378, 379, 380, 381, 382, 383, 384, 385, 386, 387, 388, 389, 496, 152, 153, 154, 155, 156, 157, 158, 159, 160, 161, 162, 163, 164, 679, 680, 681, 682, 683, 684, 685, 686, 687, 688, 689, 690, 691, 692, 693] rfl (by decide +kernel)
set_option maxRecDepth 20000 in
theorem gL_law_X5_play : GoodIn wsL_law (wsV RL 102 RX5 yX5_play wsX5_play) := goodIn_app (goodIn_r _ [485, 486, 487, 5] rfl (by decide +kernel)) ggL_law_X5_play
set_option maxRecDepth 20000 in
theorem ggL_law_L_count : GoodIn wsL_law wsL_count := goodIn_ca (goodIn_r _ [499, 74, 500, 501, 502, 2, 503, 79, 80, 504, 505, 506, 507, 21, 508, 16, 509, 510, 511, 15, 512, 90, 91, 92, 42, 97, 98, 93, 94, 101, 102, 41, 513, 329, 330, 331, 100, 99, 514, 246, 247, 248, 38, 249, 515, 516, 517, 518, 519, 675, 676, 677, 678, 711, 712, 713, 694, 695, 696, 697, 698, 699, 700, 701, 702, 703, 704, 705, 706, 707, 708, 709, 710, 716, 717, 718, 719, 720, 721, 722] rfl (by decide +kernel)) (goodIn_sub (fun _ h => List.mem_append_left _ (List.mem_append_left _ (List.mem_append_right _ h))) (by decide +kernel))
set_option maxRecDepth 20000 in
theorem gL_law_L_count : GoodIn wsL_law (va_wsS RL 103 yL_count wsL_count) := goodIn_app (goodIn_r _ [497, 498, 72] rfl (by decide +kernel)) ggL_law_L_count
set_option maxRecDepth 20000 in
theorem ggL_law_X5_count : GoodIn wsL_law wsX5_count := goodIn_r _ [523, 124, 59, 125, 126, 5, 127, 524, 525, 526, 679, 680, 681, 682, 683, 684, 685, 686, 687, 688, 689, 690, 691, 692, 693] rfl (by decide +kernel)
set_option maxRecDepth 20000 in
theorem gL_law_X5_count : GoodIn wsL_law (wsV RL 105 RX5 yX5_count wsX5_count) := goodIn_app (goodIn_r _ [520, 521, 522, 5] rfl (by decide +kernel)) ggL_law_X5_count
set_option maxRecDepth 20000 in
theorem ggL_law_L_phase : GoodIn wsL_law wsL_phase := goodIn_ca (goodIn_ca (goodIn_r _ [529, 135, 74, 530, 531, 532, 2, 533, 140, 141, 79, 80, 16, 81, 534, 535, 536, 537, 40, 538, 107, 108, 109, 110, 111, 112, 113, 675, 676, 677, 678, 694, 695, 696, 697, 698, 699, 700, 701, 702, 703, 704, 705, 706, 707, 708, 709, 710, 716, 717, 718, 719, 720, 721, 722] rfl (by decide +kernel)) (goodIn_sub (fun _ h => List.mem_append_left _ (List.mem_append_right _ h)) (by decide +kernel))) (goodIn_sub (fun _ h => List.mem_append_left _ (List.mem_append_left _ (List.mem_append_right _ h))) (by decide +kernel))
set_option maxRecDepth 20000 in
theorem gL_law_L_phase : GoodIn wsL_law (va_wsS RL 106 yL_phase wsL_phase) := goodIn_app (goodIn_r _ [527, 528, 72] rfl (by decide +kernel)) ggL_law_L_phase
set_option maxRecDepth 20000 in
theorem ggL_law_X5_phase : GoodIn wsL_law wsX5_phase := goodIn_r _ [542, 59, 124, 125, 126, 5, 127, 204, 205, 206, 679, 680, 681, 682, 683, 684, 685, 686, 687, 688, 689, 690, 691, 692, 693] rfl (by decide +kernel)
set_option maxRecDepth 20000 in
theorem gL_law_X5_phase : GoodIn wsL_law (wsV RL 108 RX5 yX5_phase wsX5_phase) := goodIn_app (goodIn_r _ [539, 540, 541, 5] rfl (by decide +kernel)) ggL_law_X5_phase
set_option maxRecDepth 20000 in
theorem ggL_law_L_record : GoodIn wsL_law wsL_record := goodIn_ca (goodIn_ca (goodIn_r _ [545, 135, 74, 546, 547, 548, 2, 549, 140, 141, 79, 80, 21, 508, 550, 551, 552, 20, 553, 119, 50, 675, 676, 677, 678, 711, 712, 713] rfl (by decide +kernel)) (goodIn_sub (fun _ h => List.mem_append_left _ (List.mem_append_right _ h)) (by decide +kernel))) (goodIn_sub (fun _ h => List.mem_append_left _ (List.mem_append_left _ (List.mem_append_right _ h))) (by decide +kernel))
set_option maxRecDepth 20000 in
theorem gL_law_L_record : GoodIn wsL_law (va_wsS RL 109 yL_record wsL_record) := goodIn_app (goodIn_r _ [543, 544, 72] rfl (by decide +kernel)) ggL_law_L_record
set_option maxRecDepth 20000 in
theorem ggL_law_X5_record_ : GoodIn wsL_law wsX5_record_ := goodIn_r _ [557, 59, 124, 125, 126, 5, 127, 679, 680, 681, 682, 683, 684, 685, 686, 687, 688, 689, 690, 691, 692, 693] rfl (by decide +kernel)
set_option maxRecDepth 20000 in
theorem gL_law_X5_record_ : GoodIn wsL_law (wsV RL 111 RX5 yX5_record_ wsX5_record_) := goodIn_app (goodIn_r _ [554, 555, 556, 5] rfl (by decide +kernel)) ggL_law_X5_record_
set_option maxRecDepth 20000 in
theorem ggL_law_L_ifLoaded : GoodIn wsL_law wsL_ifLoaded := goodIn_ca (goodIn_r _ [560, 74, 561, 562, 563, 2, 564, 79, 80, 17, 142, 565, 566, 567, 568, 255, 256, 257, 569, 570, 259, 260, 186, 211, 571, 146, 147, 148, 149, 150, 143, 144, 145, 572, 573, 574, 575, 16, 576, 577, 578, 15, 579, 36, 86, 87, 88, 89, 38, 41, 42, 90, 91, 92, 93, 94, 95, 96, 97, 98, 99, 100, 101, 102, 580, 581, 582, 40, 583, 107, 108, 109, 110, 111, 112, 113, 250, 251, 252, 253, 254, 258, 261, 188, 189, 190, 262, 213, 214, 215, 216, 263, 264, 265, 266, 267, 268, 269, 270, 271, 272, 273, 274, 275, 276, 277, 278, 279, 280, 281, 282, 283, 284, 285, 286, 287, 288, 289, 290, 291, 292, 293, 294, 295, 296, 297, 298, 299, 300, 301, 302, 303, 304, 305, 306, 307, 308, 309, 310, 311, 312, 313, 314, 315, 316, 317, 318, 675, 676, 677, 678, 694, 695, 696, 697, 698, 699, 700, 701, 702, 703, 704, 705, 706, 707, 708, 709, 710, 716, 717, 718, 719, 720, 721, 722] rfl (by decide +kernel)) (goodIn_sub (fun _ h => List.mem_append_left _ (List.mem_append_left _ (List.mem_append_right _ h))) (by decide +kernel))
set_option maxRecDepth 20000 in
theorem gL_law_L_ifLoaded : GoodIn wsL_law (va_wsS RL 112 yL_ifLoaded wsL_ifLoaded) := goodIn_app (goodIn_r _ [558, 559, 72] rfl (by decide +kernel)) ggL_law_L_ifLoaded
set_option maxRecDepth 20000 in
theorem ggL_law_X5_ifLoaded : GoodIn wsL_law wsX5_ifLoaded := goodIn_r _ [587, 164, 124, 59, 342, 343, 344, 125, 126, 5, 127, 588, 589, 590, 591, 60, 337, 338, 339, 340, 341, 345, 346, 347, 348, 200, 201, 202, 203, 221, 222, 223, 224, 204, 205, 206, 349, 350, 351, 352, 353, 354, 355, 356, 357, 336, 358, 359, 360, 361, 362, 363, 364, 365, 366, 367, 368, 369, 370, 371, 372, 373, 374, 375, 376, 377, 378, 379, 380, 381, 382, 383, 384, 385, 386, 387, 388, 389, 592, 593, 594, 595, 679, 680, 681, 682, 683, 684, 685, 686, 687, 688, 689, 690, 691, 692, 693] rfl (by decide +kernel)
set_option maxRecDepth 20000 in
theorem gL_law_X5_ifLoaded : GoodIn wsL_law (wsV RL 115 RX5 yX5_ifLoaded wsX5_ifLoaded) := goodIn_app (goodIn_r _ [584, 585, 586, 5] rfl (by decide +kernel)) ggL_law_X5_ifLoaded
set_option maxRecDepth 20000 in
theorem ggL_law_L_settles : GoodIn wsL_law wsL_settles := goodIn_ca (goodIn_r _ [598, 74, 599, 600, 601, 2, 602, 79, 80, 17, 142, 186, 603, 604, 256, 605, 572, 573, 574, 575, 16, 576, 577, 578, 15, 579, 36, 86, 87, 88, 89, 38, 41, 42, 90, 91, 92, 93, 94, 95, 96, 97, 98, 99, 100, 101, 102, 580, 581, 582, 40, 583, 107, 108, 109, 110, 111, 112, 113, 250, 251, 252, 253, 254, 255, 257, 258, 259, 260, 261, 188, 189, 190, 262, 213, 214, 215, 216, 263, 264, 265, 266, 267, 268, 269, 270, 271, 272, 273, 274, 275, 276, 277, 278, 279, 280, 281, 282, 283, 284, 285, 286, 287, 288, 289, 290, 291, 292, 293, 294, 295, 296, 297, 298, 299, 300, 301, 302, 303, 304, 305, 306, 307, 308, 309, 310, 311, 312, 313, 314, 315, 316, 317, 318, 675, 676, 677, 678, 694, 695, 696, 697, 698, 699, 700, 701, 702, 703, 704, 705, 706, 707, 708, 709, 710, 716, 717, 718, 719, 720, 721, 722] rfl (by decide +kernel)) (goodIn_sub (fun _ h => List.mem_append_left _ (List.mem_append_left _ (List.mem_append_right _ h))) (by decide +kernel))
set_option maxRecDepth 20000 in
theorem gL_law_L_settles : GoodIn wsL_law (va_wsS RL 116 yL_settles wsL_settles) := goodIn_app (goodIn_r _ [596, 597, 72] rfl (by decide +kernel)) ggL_law_L_settles
set_option maxRecDepth 20000 in
theorem ggL_law_X5_settles : GoodIn wsL_law wsX5_settles := goodIn_r _ [609, 124, 125, 126, 5, 127, 610, 611, 612, 613, 59, 588, 589, 590, 591, 60, 337, 338, 339, 340, 341, 342, 343, 344, 345, 346, 347, 348, 200, 201, 202, 203, 221, 222, 223, 224, 204, 205, 206, 349, 350, 351, 352, 353, 354, 355, 356, 357, 336, 358, 359, 360, 361, 362, 363, 364, 365, 366, 367, 368, 369, 370, 371, 372, 373, 374, 375, 376, 377, 378, 379, 380, 381, 382, 383, 384, 385, 386, 387, 388, 389, 592, 593, 594, 595, 679, 680, 681, 682, 683, 684, 685, 686, 687, 688, 689, 690, 691, 692, 693] rfl (by decide +kernel)
set_option maxRecDepth 20000 in
theorem gL_law_X5_settles : GoodIn wsL_law (wsV RL 118 RX5 yX5_settles wsX5_settles) := goodIn_app (goodIn_r _ [606, 607, 608, 5] rfl (by decide +kernel)) ggL_law_X5_settles
set_option maxRecDepth 20000 in
theorem ggL_law_L_greatestLoad : GoodIn wsL_law wsL_greatestLoad := goodIn_ca (goodIn_r _ [616, 74, 617, 618, 619, 2, 620, 79, 80, 566, 621, 622, 623, 624, 17, 142, 567, 572, 573, 574, 575, 16, 576, 577, 578, 15, 579, 36, 86, 87, 88, 89, 38, 41, 42, 90, 91, 92, 93, 94, 95, 96, 97, 98, 99, 100, 101, 102, 580, 581, 582, 40, 583, 107, 108, 109, 110, 111, 112, 113, 250, 251, 252, 253, 254, 255, 256, 257, 258, 259, 260, 261, 188, 189, 190, 262, 213, 214, 215, 216, 263, 264, 265, 266, 267, 268, 269, 270, 271, 272, 273, 274, 275, 276, 277, 278, 279, 280, 281, 282, 283, 284, 285, 286, 287, 288, 289, 290, 291, 292, 293, 294, 295, 296, 297, 298, 299, 300, 301, 302, 303, 304, 305, 306, 307, 308, 309, 310, 311, 312, 313, 314, 315, 316, 317, 318, 675, 676, 677, 678, 694, 695, 696, 697, 698, 699, 700, 701, 702, 703, 704, 705, 706, 707, 708, 709, 710, 716, 717, 718, 719, 720, 721, 722] rfl (by decide +kernel)) (goodIn_sub (fun _ h => List.mem_append_left _ (List.mem_append_left _ (List.mem_append_right _ h))) (by decide +kernel))
set_option maxRecDepth 20000 in
theorem gL_law_L_greatestLoad : GoodIn wsL_law (va_wsS RL 119 yL_greatestLoad wsL_greatestLoad) := goodIn_app (goodIn_r _ [614, 615, 72] rfl (by decide +kernel)) ggL_law_L_greatestLoad
set_option maxRecDepth 20000 in
theorem ggL_law_X5_greatestLoad : GoodIn wsL_law wsX5_greatestLoad := goodIn_r _ [628, 373, 124, 125, 126, 5, 127, 629, 630, 631, 632, 59, 342, 588, 589, 590, 591, 60, 337, 338, 339, 340, 341, 343, 344, 345, 346, 347, 348, 200, 201, 202, 203, 221, 222, 223, 224, 204, 205, 206, 349, 350, 351, 352, 353, 354, 355, 356, 357, 336, 358, 359, 360, 361, 362, 363, 364, 365, 366, 367, 368, 369, 370, 371, 372, 374, 375, 376, 377, 378, 379, 380, 381, 382, 383, 384, 385, 386, 387, 388, 389, 592, 593, 594, 595, 679, 680, 681, 682, 683, 684, 685, 686, 687, 688, 689, 690, 691, 692, 693] rfl (by decide +kernel)
set_option maxRecDepth 20000 in
theorem gL_law_X5_greatestLoad : GoodIn wsL_law (wsV RL 121 RX5 yX5_greatestLoad wsX5_greatestLoad) := goodIn_app (goodIn_r _ [625, 626, 627, 5] rfl (by decide +kernel)) ggL_law_X5_greatestLoad
set_option maxRecDepth 20000 in
theorem ggL_law_X4_unbalance : GoodIn wsL_law wsX4_unbalance := goodIn_r _ [636, 16, 637, 638, 639, 15, 640, 38, 293, 42, 254, 255, 256, 257, 258, 259, 260, 675, 676, 677, 678, 694, 695, 696, 697, 698, 699, 700, 701, 702, 703, 704, 705, 706, 707, 708, 709, 710, 716, 717, 718, 719, 720, 721, 722] rfl (by decide +kernel)
set_option maxRecDepth 20000 in
theorem gL_law_X4_unbalance : GoodIn wsL_law (wsV RL 122 RX4 yX4_unbalance wsX4_unbalance) := goodIn_app (goodIn_r _ [633, 634, 635, 2] rfl (by decide +kernel)) ggL_law_X4_unbalance
set_option maxRecDepth 20000 in
theorem ggL_law_X5_unbalance : GoodIn wsL_law wsX5_unbalance := goodIn_r _ [644, 124, 645, 646, 647, 5, 648, 59, 204, 205, 206, 679, 680, 681, 682, 683, 684, 685, 686, 687, 688, 689, 690, 691, 692, 693] rfl (by decide +kernel)
set_option maxRecDepth 20000 in
theorem gL_law_X5_unbalance : GoodIn wsL_law (wsV RL 125 RX5 yX5_unbalance wsX5_unbalance) := goodIn_app (goodIn_r _ [641, 642, 643, 5] rfl (by decide +kernel)) ggL_law_X5_unbalance
set_option maxRecDepth 20000 in
theorem ggL_law_X4_meanVoltage : GoodIn wsL_law wsX4_meanVoltage := goodIn_r _ [652, 21, 508, 550, 551, 552, 20, 553, 119, 50, 675, 676, 677, 678, 711, 712, 713] rfl (by decide +kernel)
set_option maxRecDepth 20000 in
theorem gL_law_X4_meanVoltage : GoodIn wsL_law (wsV RL 126 RX4 yX4_meanVoltage wsX4_meanVoltage) := goodIn_app (goodIn_r _ [649, 650, 651, 2] rfl (by decide +kernel)) ggL_law_X4_meanVoltage
set_option maxRecDepth 20000 in
theorem ggL_law_X5_meanVoltage : GoodIn wsL_law wsX5_meanVoltage := goodIn_r _ [656, 124, 59, 679, 680, 681, 682, 683, 684, 685, 686, 687, 688, 689, 690, 691, 692, 693] rfl (by decide +kernel)
set_option maxRecDepth 20000 in
theorem gL_law_X5_meanVoltage : GoodIn wsL_law (wsV RL 130 RX5 yX5_meanVoltage wsX5_meanVoltage) := goodIn_app (goodIn_r _ [653, 654, 655, 5] rfl (by decide +kernel)) ggL_law_X5_meanVoltage
set_option maxRecDepth 20000 in
theorem ggL_law_X4_digest : GoodIn wsL_law wsX4_digest := goodIn_ca (goodIn_r _ [660, 661, 662, 16, 142, 81, 534, 21, 508, 25, 397, 504, 505, 506, 2, 507, 509, 510, 511, 15, 512, 90, 91, 92, 42, 97, 98, 93, 94, 101, 102, 41, 513, 329, 330, 331, 100, 99, 514, 246, 247, 248, 38, 249, 515, 516, 517, 518, 519, 535, 536, 537, 40, 538, 107, 108, 109, 110, 111, 112, 113, 550, 551, 552, 20, 553, 119, 50, 663, 600, 601, 602, 79, 80, 17, 186, 603, 604, 256, 605, 572, 573, 574, 575, 576, 577, 578, 579, 36, 86, 87, 88, 89, 95, 96, 580, 581, 582, 583, 250, 251, 252, 253, 254, 255, 257, 258, 259, 260, 261, 188, 189, 190, 262, 213, 214, 215, 216, 263, 264, 265, 266, 267, 268, 269, 270, 271, 272, 273, 274, 275, 276, 277, 278, 279, 280, 281, 282, 283, 284, 285, 286, 287, 288, 289, 290, 291, 292, 293, 294, 295, 296, 297, 298, 299, 300, 301, 302, 303, 304, 305, 306, 307, 308, 309, 310, 311, 312, 313, 314, 315, 316, 317, 318, 637, 638, 639, 640, 472, 425, 426, 24, 427, 54, 675, 676, 677, 678, 694, 695, 696, 697, 698, 699, 700, 701, 702, 703, 704, 705, 706, 707, 708, 709, 710, 711, 712, 713, 714, 715, 716, 717, 718, 719, 720, 721, 722] rfl (by decide +kernel)) (goodIn_sub (fun _ h => List.mem_append_left _ (List.mem_append_left _ (List.mem_append_right _ h))) (by decide +kernel))
set_option maxRecDepth 20000 in
theorem gL_law_X4_digest : GoodIn wsL_law (wsV RL 131 RX4 yX4_digest wsX4_digest) := goodIn_app (goodIn_r _ [657, 658, 659, 2] rfl (by decide +kernel)) ggL_law_X4_digest
set_option maxRecDepth 20000 in
theorem ggL_law_X5_digest : GoodIn wsL_law wsX5_digest := goodIn_r _ [667, 124, 668, 669, 59, 407, 61, 524, 525, 5, 526, 670, 671, 672, 673, 674, 610, 611, 612, 613, 588, 589, 590, 591, 60, 337, 338, 339, 340, 341, 342, 343, 344, 345, 346, 347, 348, 200, 201, 202, 203, 221, 222, 223, 224, 204, 205, 206, 349, 350, 351, 352, 353, 354, 355, 356, 357, 336, 358, 359, 360, 361, 362, 363, 364, 365, 366, 367, 368, 369, 370, 371, 372, 373, 374, 375, 376, 377, 378, 379, 380, 381, 382, 383, 384, 385, 386, 387, 388, 389, 125, 126, 127, 592, 593, 594, 595, 645, 646, 647, 648, 679, 680, 681, 682, 683, 684, 685, 686, 687, 688, 689, 690, 691, 692, 693] rfl (by decide +kernel)
set_option maxRecDepth 20000 in
theorem gL_law_X5_digest : GoodIn wsL_law (wsV RL 135 RX5 yX5_digest wsX5_digest) := goodIn_app (goodIn_r _ [664, 665, 666, 5] rfl (by decide +kernel)) ggL_law_X5_digest
