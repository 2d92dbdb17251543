set_option maxRecDepth 20000 in
theorem ggL_list_X7_list : GoodIn wsL_list wsX7_list := goodIn_ca (goodIn_r _ [6, 7, 8, 9, 10, 11, 12, 13, 14, 15, 16, 17, 18] (by decide +kernel) (by decide +kernel)) (goodIn_sub (fun _ h => List.mem_cons_of_mem _ (List.mem_append_right _ h)) (by decide +kernel))
set_option maxRecDepth 20000 in
theorem gL_list_X7_list : GoodIn wsL_list (wsV RL 7 RX7 yX7_list wsX7_list) := goodIn_app (goodIn_of _ (by decide +kernel)) ggL_list_X7_list
theorem dL_list_0 : decode cL_list 0 = .ok (.aload_n 1, 1) := by decide +kernel
theorem dL_list_1 : decode cL_list 1 = .ok (.iconst 0, 1) := by decide +kernel
theorem dL_list_2 : decode cL_list 2 = .ok (.aload_n 0, 1) := by decide +kernel
theorem dL_list_3 : decode cL_list 3 = .ok (.invokevirtual 7, 3) := by decide +kernel
theorem dL_list_6 : decode cL_list 6 = .ok (.i2l, 1) := by decide +kernel
theorem dL_list_7 : decode cL_list 7 = .ok (.lastore, 1) := by decide +kernel
theorem dL_list_8 : decode cL_list 8 = .ok (.goto 6, 3) := by decide +kernel
theorem dL_list_11 : decode cL_list 11 = .ok (.astore_n 2, 1) := by decide +kernel
theorem dL_list_12 : decode cL_list 12 = .ok (.iconst 1, 1) := by decide +kernel
theorem dL_list_13 : decode cL_list 13 = .ok (.ireturn, 1) := by decide +kernel
theorem dL_list_14 : decode cL_list 14 = .ok (.iconst 0, 1) := by decide +kernel
theorem dL_list_15 : decode cL_list 15 = .ok (.ireturn, 1) := by decide +kernel
set_option maxRecDepth 20000 in
theorem ggL_line_X7_line : GoodIn wsL_line wsX7_line := goodIn_ca (goodIn_ca (goodIn_ca (goodIn_ca (goodIn_r _ [8, 9, 10, 11, 12, 13, 14, 15, 16, 17, 18, 19, 7, 20, 21, 22, 23, 24, 25, 26, 27, 28, 29, 30, 31, 32, 33, 34, 35, 36, 37, 38, 39, 40, 41, 42, 43, 44, 45, 46, 47, 48, 49, 50] (by decide +kernel) (by decide +kernel)) (goodIn_sub (fun _ h => List.mem_cons_of_mem _ (List.mem_append_left _ (List.mem_append_left _ (List.mem_append_right _ h)))) (by decide +kernel))) (goodIn_sub (fun _ h => List.mem_cons_of_mem _ (List.mem_append_left _ (List.mem_append_right _ h))) (by decide +kernel))) (goodIn_sub (fun _ h => List.mem_cons_of_mem _ (List.mem_append_right _ h)) (by decide +kernel))) (goodIn_sub (fun _ h => List.mem_cons_of_mem _ (List.mem_append_left _ (List.mem_append_left _ (List.mem_append_left _ (List.mem_append_right _ h))))) (by decide +kernel))
set_option maxRecDepth 20000 in
theorem gL_line_X7_line : GoodIn wsL_line (wsV RL 15 RX7 yX7_line wsX7_line) := goodIn_app (goodIn_of _ (by decide +kernel)) ggL_line_X7_line
theorem dL_line_0 : decode cL_line 0 = .ok (.aload 5, 2) := by decide +kernel
theorem dL_line_2 : decode cL_line 2 = .ok (.iconst 0, 1) := by decide +kernel
theorem dL_line_3 : decode cL_line 3 = .ok (.aload_n 0, 1) := by decide +kernel
theorem dL_line_4 : decode cL_line 4 = .ok (.iload_n 1, 1) := by decide +kernel
theorem dL_line_5 : decode cL_line 5 = .ok (.iload_n 2, 1) := by decide +kernel
theorem dL_line_6 : decode cL_line 6 = .ok (.iload_n 3, 1) := by decide +kernel
theorem dL_line_7 : decode cL_line 7 = .ok (.iload 4, 2) := by decide +kernel
theorem dL_line_9 : decode cL_line 9 = .ok (.invokevirtual 15, 3) := by decide +kernel
theorem dL_line_12 : decode cL_line 12 = .ok (.i2l, 1) := by decide +kernel
theorem dL_line_13 : decode cL_line 13 = .ok (.lastore, 1) := by decide +kernel
theorem dL_line_14 : decode cL_line 14 = .ok (.goto 15, 3) := by decide +kernel
theorem dL_line_17 : decode cL_line 17 = .ok (.astore 6, 2) := by decide +kernel
theorem dL_line_19 : decode cL_line 19 = .ok (.iconst 1, 1) := by decide +kernel
theorem dL_line_20 : decode cL_line 20 = .ok (.ireturn, 1) := by decide +kernel
theorem dL_line_21 : decode cL_line 21 = .ok (.astore 6, 2) := by decide +kernel
theorem dL_line_23 : decode cL_line 23 = .ok (.iconst 2, 1) := by decide +kernel
theorem dL_line_24 : decode cL_line 24 = .ok (.ireturn, 1) := by decide +kernel
theorem dL_line_25 : decode cL_line 25 = .ok (.astore 6, 2) := by decide +kernel
theorem dL_line_27 : decode cL_line 27 = .ok (.iconst 3, 1) := by decide +kernel
theorem dL_line_28 : decode cL_line 28 = .ok (.ireturn, 1) := by decide +kernel
theorem dL_line_29 : decode cL_line 29 = .ok (.iconst 0, 1) := by decide +kernel
theorem dL_line_30 : decode cL_line 30 = .ok (.ireturn, 1) := by decide +kernel
set_option maxRecDepth 20000 in
theorem ggL_cut_X7_cut : GoodIn wsL_cut wsX7_cut := goodIn_ca (goodIn_ca (goodIn_r _ [6, 7, 8, 9, 10, 11, 12, 13, 14, 5, 15, 16, 17, 18, 19, 20, 21, 22, 23, 24, 25, 26, 27, 28, 29, 30, 31, 32, 33, 34, 35, 36] (by decide +kernel) (by decide +kernel)) (goodIn_sub (fun _ h => List.mem_cons_of_mem _ (List.mem_append_right _ h)) (by decide +kernel))) (goodIn_sub (fun _ h => List.mem_cons_of_mem _ (List.mem_append_left _ (List.mem_append_right _ h))) (by decide +kernel))
set_option maxRecDepth 20000 in
theorem gL_cut_X7_cut : GoodIn wsL_cut (wsV RL 23 RX7 yX7_cut wsX7_cut) := goodIn_app (goodIn_of _ (by decide +kernel)) ggL_cut_X7_cut
theorem dL_cut_0 : decode cL_cut 0 = .ok (.aload_n 3, 1) := by decide +kernel
theorem dL_cut_1 : decode cL_cut 1 = .ok (.iconst 0, 1) := by decide +kernel
theorem dL_cut_2 : decode cL_cut 2 = .ok (.aload_n 0, 1) := by decide +kernel
theorem dL_cut_3 : decode cL_cut 3 = .ok (.iload_n 1, 1) := by decide +kernel
theorem dL_cut_4 : decode cL_cut 4 = .ok (.iload_n 2, 1) := by decide +kernel
theorem dL_cut_5 : decode cL_cut 5 = .ok (.invokevirtual 23, 3) := by decide +kernel
theorem dL_cut_8 : decode cL_cut 8 = .ok (.i2l, 1) := by decide +kernel
theorem dL_cut_9 : decode cL_cut 9 = .ok (.lastore, 1) := by decide +kernel
theorem dL_cut_10 : decode cL_cut 10 = .ok (.goto 7, 3) := by decide +kernel
theorem dL_cut_13 : decode cL_cut 13 = .ok (.astore 4, 2) := by decide +kernel
theorem dL_cut_15 : decode cL_cut 15 = .ok (.iconst 1, 1) := by decide +kernel
theorem dL_cut_16 : decode cL_cut 16 = .ok (.ireturn, 1) := by decide +kernel
theorem dL_cut_17 : decode cL_cut 17 = .ok (.iconst 0, 1) := by decide +kernel
theorem dL_cut_18 : decode cL_cut 18 = .ok (.ireturn, 1) := by decide +kernel
set_option maxRecDepth 20000 in
theorem ggL_lines_X7_lines : GoodIn wsL_lines wsX7_lines := goodIn_ca (goodIn_ca (goodIn_ca (goodIn_r _ [7, 8, 9, 10, 11, 6, 12, 13, 14, 15, 16, 17, 18, 19, 20, 21, 22, 23, 24, 25, 26, 27, 28, 29, 30, 31, 32, 33, 34, 35, 36, 37, 38, 39, 40, 41, 42] (by decide +kernel) (by decide +kernel)) (goodIn_sub (fun _ h => List.mem_cons_of_mem _ (List.mem_append_left _ (List.mem_append_right _ h))) (by decide +kernel))) (goodIn_sub (fun _ h => List.mem_cons_of_mem _ (List.mem_append_right _ h)) (by decide +kernel))) (goodIn_sub (fun _ h => List.mem_cons_of_mem _ (List.mem_append_left _ (List.mem_append_left _ (List.mem_append_right _ h)))) (by decide +kernel))
set_option maxRecDepth 20000 in
theorem gL_lines_X7_lines : GoodIn wsL_lines (wsV RL 27 RX7 yX7_lines wsX7_lines) := goodIn_app (goodIn_of _ (by decide +kernel)) ggL_lines_X7_lines
theorem dL_lines_0 : decode cL_lines 0 = .ok (.aload_n 3, 1) := by decide +kernel
theorem dL_lines_1 : decode cL_lines 1 = .ok (.iconst 0, 1) := by decide +kernel
theorem dL_lines_2 : decode cL_lines 2 = .ok (.aload_n 0, 1) := by decide +kernel
theorem dL_lines_3 : decode cL_lines 3 = .ok (.iload_n 1, 1) := by decide +kernel
theorem dL_lines_4 : decode cL_lines 4 = .ok (.iload_n 2, 1) := by decide +kernel
theorem dL_lines_5 : decode cL_lines 5 = .ok (.invokevirtual 27, 3) := by decide +kernel
theorem dL_lines_8 : decode cL_lines 8 = .ok (.i2l, 1) := by decide +kernel
theorem dL_lines_9 : decode cL_lines 9 = .ok (.lastore, 1) := by decide +kernel
theorem dL_lines_10 : decode cL_lines 10 = .ok (.goto 11, 3) := by decide +kernel
theorem dL_lines_13 : decode cL_lines 13 = .ok (.astore 4, 2) := by decide +kernel
theorem dL_lines_15 : decode cL_lines 15 = .ok (.iconst 1, 1) := by decide +kernel
theorem dL_lines_16 : decode cL_lines 16 = .ok (.ireturn, 1) := by decide +kernel
theorem dL_lines_17 : decode cL_lines 17 = .ok (.astore 4, 2) := by decide +kernel
theorem dL_lines_19 : decode cL_lines 19 = .ok (.iconst 2, 1) := by decide +kernel
theorem dL_lines_20 : decode cL_lines 20 = .ok (.ireturn, 1) := by decide +kernel
theorem dL_lines_21 : decode cL_lines 21 = .ok (.iconst 0, 1) := by decide +kernel
theorem dL_lines_22 : decode cL_lines 22 = .ok (.ireturn, 1) := by decide +kernel
set_option maxRecDepth 20000 in
theorem ggL_kiosk_X7_kiosk : GoodIn wsL_kiosk wsX7_kiosk := goodIn_ca (goodIn_r _ [6, 7, 8, 9, 10, 11, 12, 13, 14, 15, 16, 17, 18] (by decide +kernel) (by decide +kernel)) (goodIn_sub (fun _ h => List.mem_cons_of_mem _ (List.mem_append_right _ h)) (by decide +kernel))
set_option maxRecDepth 20000 in
theorem gL_kiosk_X7_kiosk : GoodIn wsL_kiosk (wsV RL 31 RX7 yX7_kiosk wsX7_kiosk) := goodIn_app (goodIn_of _ (by decide +kernel)) ggL_kiosk_X7_kiosk
theorem dL_kiosk_0 : decode cL_kiosk 0 = .ok (.aload_n 1, 1) := by decide +kernel
theorem dL_kiosk_1 : decode cL_kiosk 1 = .ok (.iconst 0, 1) := by decide +kernel
theorem dL_kiosk_2 : decode cL_kiosk 2 = .ok (.aload_n 0, 1) := by decide +kernel
theorem dL_kiosk_3 : decode cL_kiosk 3 = .ok (.invokevirtual 31, 3) := by decide +kernel
theorem dL_kiosk_6 : decode cL_kiosk 6 = .ok (.i2l, 1) := by decide +kernel
theorem dL_kiosk_7 : decode cL_kiosk 7 = .ok (.lastore, 1) := by decide +kernel
theorem dL_kiosk_8 : decode cL_kiosk 8 = .ok (.goto 6, 3) := by decide +kernel
theorem dL_kiosk_11 : decode cL_kiosk 11 = .ok (.astore_n 2, 1) := by decide +kernel
theorem dL_kiosk_12 : decode cL_kiosk 12 = .ok (.iconst 1, 1) := by decide +kernel
theorem dL_kiosk_13 : decode cL_kiosk 13 = .ok (.ireturn, 1) := by decide +kernel
theorem dL_kiosk_14 : decode cL_kiosk 14 = .ok (.iconst 0, 1) := by decide +kernel
theorem dL_kiosk_15 : decode cL_kiosk 15 = .ok (.ireturn, 1) := by decide +kernel
set_option maxRecDepth 20000 in
theorem ggL_start_X7_start : GoodIn wsL_start wsX7_start := goodIn_ca (goodIn_ca (goodIn_ca (goodIn_r _ [7, 8, 9, 10, 11, 12, 13, 14, 15, 16, 6, 17, 18, 19, 20, 21, 22, 23, 24, 25, 26, 27, 28, 29, 30, 31, 32, 33, 34, 35, 36, 37, 38, 39, 40, 41, 42, 43, 44, 45, 46, 47, 48, 49, 50, 51, 52, 53, 54, 55, 56, 57, 58, 59, 60, 61, 62, 63, 64, 65, 66, 67, 68, 69, 70, 71, 72, 73, 74, 75, 76, 77, 78, 79, 80, 81, 82, 83, 84, 85, 86, 87, 88, 89, 90, 91, 92, 93, 94, 95, 96, 97, 98, 99, 100, 101, 102, 103, 104, 105, 106, 107, 108, 109, 110, 111, 112, 113, 114, 115, 116] (by decide +kernel) (by decide +kernel)) (goodIn_sub (fun _ h => List.mem_cons_of_mem _ (List.mem_append_left _ (List.mem_append_right _ h))) (by decide +kernel))) (goodIn_sub (fun _ h => List.mem_cons_of_mem _ (List.mem_append_right _ h)) (by decide +kernel))) (goodIn_sub (fun _ h => List.mem_cons_of_mem _ (List.mem_append_left _ (List.mem_append_left _ (List.mem_append_right _ h)))) (by decide +kernel))
set_option maxRecDepth 20000 in
theorem gL_start_X7_start : GoodIn wsL_start (wsV RL 34 RX7 yX7_start wsX7_start) := goodIn_app (goodIn_of _ (by decide +kernel)) ggL_start_X7_start
theorem dL_start_0 : decode cL_start 0 = .ok (.aload_n 3, 1) := by decide +kernel
theorem dL_start_1 : decode cL_start 1 = .ok (.iconst 0, 1) := by decide +kernel
theorem dL_start_2 : decode cL_start 2 = .ok (.aload_n 0, 1) := by decide +kernel
theorem dL_start_3 : decode cL_start 3 = .ok (.iload_n 1, 1) := by decide +kernel
theorem dL_start_4 : decode cL_start 4 = .ok (.iload_n 2, 1) := by decide +kernel
theorem dL_start_5 : decode cL_start 5 = .ok (.invokevirtual 34, 3) := by decide +kernel
theorem dL_start_8 : decode cL_start 8 = .ok (.i2l, 1) := by decide +kernel
theorem dL_start_9 : decode cL_start 9 = .ok (.lastore, 1) := by decide +kernel
theorem dL_start_10 : decode cL_start 10 = .ok (.goto 11, 3) := by decide +kernel
theorem dL_start_13 : decode cL_start 13 = .ok (.astore 4, 2) := by decide +kernel
theorem dL_start_15 : decode cL_start 15 = .ok (.iconst 1, 1) := by decide +kernel
theorem dL_start_16 : decode cL_start 16 = .ok (.ireturn, 1) := by decide +kernel
theorem dL_start_17 : decode cL_start 17 = .ok (.astore 4, 2) := by decide +kernel
theorem dL_start_19 : decode cL_start 19 = .ok (.iconst 2, 1) := by decide +kernel
theorem dL_start_20 : decode cL_start 20 = .ok (.ireturn, 1) := by decide +kernel
theorem dL_start_21 : decode cL_start 21 = .ok (.iconst 0, 1) := by decide +kernel
theorem dL_start_22 : decode cL_start 22 = .ok (.ireturn, 1) := by decide +kernel
set_option maxRecDepth 20000 in
theorem ggL_stop_X7_stop : GoodIn wsL_stop wsX7_stop := goodIn_ca (goodIn_ca (goodIn_ca (goodIn_r _ [7, 8, 9, 10, 11, 12, 13, 14, 15, 6, 16, 17, 18, 19, 20, 21, 22, 23, 24, 25, 26, 27, 28, 29, 30, 31, 32, 33, 34, 35, 36, 37, 38, 39, 40, 41, 42, 43, 44, 45, 46, 47, 48, 49, 50, 51, 52, 53, 54, 55, 56, 57, 58, 59, 60, 61, 62, 63, 64, 65, 66, 67, 68, 69, 70, 71, 72, 73] (by decide +kernel) (by decide +kernel)) (goodIn_sub (fun _ h => List.mem_cons_of_mem _ (List.mem_append_left _ (List.mem_append_right _ h))) (by decide +kernel))) (goodIn_sub (fun _ h => List.mem_cons_of_mem _ (List.mem_append_right _ h)) (by decide +kernel))) (goodIn_sub (fun _ h => List.mem_cons_of_mem _ (List.mem_append_left _ (List.mem_append_left _ (List.mem_append_right _ h)))) (by decide +kernel))
set_option maxRecDepth 20000 in
theorem gL_stop_X7_stop : GoodIn wsL_stop (wsV RL 38 RX7 yX7_stop wsX7_stop) := goodIn_app (goodIn_of _ (by decide +kernel)) ggL_stop_X7_stop
theorem dL_stop_0 : decode cL_stop 0 = .ok (.aload_n 2, 1) := by decide +kernel
theorem dL_stop_1 : decode cL_stop 1 = .ok (.iconst 0, 1) := by decide +kernel
theorem dL_stop_2 : decode cL_stop 2 = .ok (.aload_n 0, 1) := by decide +kernel
theorem dL_stop_3 : decode cL_stop 3 = .ok (.iload_n 1, 1) := by decide +kernel
theorem dL_stop_4 : decode cL_stop 4 = .ok (.invokevirtual 38, 3) := by decide +kernel
theorem dL_stop_7 : decode cL_stop 7 = .ok (.i2l, 1) := by decide +kernel
theorem dL_stop_8 : decode cL_stop 8 = .ok (.lastore, 1) := by decide +kernel
theorem dL_stop_9 : decode cL_stop 9 = .ok (.goto 9, 3) := by decide +kernel
theorem dL_stop_12 : decode cL_stop 12 = .ok (.astore_n 3, 1) := by decide +kernel
theorem dL_stop_13 : decode cL_stop 13 = .ok (.iconst 1, 1) := by decide +kernel
theorem dL_stop_14 : decode cL_stop 14 = .ok (.ireturn, 1) := by decide +kernel
theorem dL_stop_15 : decode cL_stop 15 = .ok (.astore_n 3, 1) := by decide +kernel
theorem dL_stop_16 : decode cL_stop 16 = .ok (.iconst 2, 1) := by decide +kernel
theorem dL_stop_17 : decode cL_stop 17 = .ok (.ireturn, 1) := by decide +kernel
theorem dL_stop_18 : decode cL_stop 18 = .ok (.iconst 0, 1) := by decide +kernel
theorem dL_stop_19 : decode cL_stop 19 = .ok (.ireturn, 1) := by decide +kernel
set_option maxRecDepth 20000 in
theorem ggL_freeze_X7_freeze : GoodIn wsL_freeze wsX7_freeze := goodIn_ca (goodIn_r _ [6, 7, 8, 9, 10, 11, 5, 12, 13, 14, 15, 16, 17, 18, 19, 20, 21, 22, 23, 24, 25, 26, 27, 28, 29] (by decide +kernel) (by decide +kernel)) (goodIn_sub (fun _ h => List.mem_cons_of_mem _ (List.mem_append_right _ h)) (by decide +kernel))
set_option maxRecDepth 20000 in
theorem gL_freeze_X7_freeze : GoodIn wsL_freeze (wsV RL 44 RX7 yX7_freeze wsX7_freeze) := goodIn_app (goodIn_of _ (by decide +kernel)) ggL_freeze_X7_freeze
theorem dL_freeze_0 : decode cL_freeze 0 = .ok (.aload_n 2, 1) := by decide +kernel
theorem dL_freeze_1 : decode cL_freeze 1 = .ok (.iconst 0, 1) := by decide +kernel
theorem dL_freeze_2 : decode cL_freeze 2 = .ok (.aload_n 0, 1) := by decide +kernel
theorem dL_freeze_3 : decode cL_freeze 3 = .ok (.iload_n 1, 1) := by decide +kernel
theorem dL_freeze_4 : decode cL_freeze 4 = .ok (.invokevirtual 44, 3) := by decide +kernel
theorem dL_freeze_7 : decode cL_freeze 7 = .ok (.ifCond .eq 7, 3) := by decide +kernel
theorem dL_freeze_10 : decode cL_freeze 10 = .ok (.lconst 1, 1) := by decide +kernel
theorem dL_freeze_11 : decode cL_freeze 11 = .ok (.goto 4, 3) := by decide +kernel
theorem dL_freeze_14 : decode cL_freeze 14 = .ok (.lconst 0, 1) := by decide +kernel
theorem dL_freeze_15 : decode cL_freeze 15 = .ok (.lastore, 1) := by decide +kernel
theorem dL_freeze_16 : decode cL_freeze 16 = .ok (.goto 6, 3) := by decide +kernel
theorem dL_freeze_19 : decode cL_freeze 19 = .ok (.astore_n 3, 1) := by decide +kernel
theorem dL_freeze_20 : decode cL_freeze 20 = .ok (.iconst 1, 1) := by decide +kernel
theorem dL_freeze_21 : decode cL_freeze 21 = .ok (.ireturn, 1) := by decide +kernel
theorem dL_freeze_22 : decode cL_freeze 22 = .ok (.iconst 0, 1) := by decide +kernel
theorem dL_freeze_23 : decode cL_freeze 23 = .ok (.ireturn, 1) := by decide +kernel
set_option maxRecDepth 20000 in
theorem ggL_thaw_X7_thaw : GoodIn wsL_thaw wsX7_thaw := goodIn_ca (goodIn_ca (goodIn_r _ [6, 7, 8, 9, 10, 11, 12, 13, 5, 14, 15, 16, 17, 18, 19, 20, 21, 22, 23, 24, 25, 26, 27, 28, 29, 30, 31, 32, 33, 34, 35, 36, 37, 38, 39, 40, 41, 42, 43, 44, 45, 46, 47, 48, 49, 50, 51, 52, 53, 54, 55, 56, 57, 58, 59, 60, 61, 62, 63, 64, 65, 66, 67, 68, 69, 70, 71, 72, 73] (by decide +kernel) (by decide +kernel)) (goodIn_sub (fun _ h => List.mem_cons_of_mem _ (List.mem_append_right _ h)) (by decide +kernel))) (goodIn_sub (fun _ h => List.mem_cons_of_mem _ (List.mem_append_left _ (List.mem_append_right _ h))) (by decide +kernel))
set_option maxRecDepth 20000 in
theorem gL_thaw_X7_thaw : GoodIn wsL_thaw (wsV RL 48 RX7 yX7_thaw wsX7_thaw) := goodIn_app (goodIn_of _ (by decide +kernel)) ggL_thaw_X7_thaw
theorem dL_thaw_0 : decode cL_thaw 0 = .ok (.aload_n 2, 1) := by decide +kernel
theorem dL_thaw_1 : decode cL_thaw 1 = .ok (.iconst 0, 1) := by decide +kernel
theorem dL_thaw_2 : decode cL_thaw 2 = .ok (.aload_n 0, 1) := by decide +kernel
theorem dL_thaw_3 : decode cL_thaw 3 = .ok (.iload_n 1, 1) := by decide +kernel
theorem dL_thaw_4 : decode cL_thaw 4 = .ok (.invokevirtual 48, 3) := by decide +kernel
theorem dL_thaw_7 : decode cL_thaw 7 = .ok (.i2l, 1) := by decide +kernel
theorem dL_thaw_8 : decode cL_thaw 8 = .ok (.lastore, 1) := by decide +kernel
theorem dL_thaw_9 : decode cL_thaw 9 = .ok (.goto 6, 3) := by decide +kernel
theorem dL_thaw_12 : decode cL_thaw 12 = .ok (.astore_n 3, 1) := by decide +kernel
theorem dL_thaw_13 : decode cL_thaw 13 = .ok (.iconst 1, 1) := by decide +kernel
theorem dL_thaw_14 : decode cL_thaw 14 = .ok (.ireturn, 1) := by decide +kernel
theorem dL_thaw_15 : decode cL_thaw 15 = .ok (.iconst 0, 1) := by decide +kernel
theorem dL_thaw_16 : decode cL_thaw 16 = .ok (.ireturn, 1) := by decide +kernel
set_option maxRecDepth 20000 in
theorem ggL_state_X7_state : GoodIn wsL_state wsX7_state := goodIn_ca (goodIn_r _ [6, 7, 8, 9, 10, 11, 12, 5, 13, 14, 15, 16, 17, 18, 19, 20, 21, 22, 23, 24, 25, 26, 27, 28, 29, 30] (by decide +kernel) (by decide +kernel)) (goodIn_sub (fun _ h => List.mem_cons_of_mem _ (List.mem_append_right _ h)) (by decide +kernel))
set_option maxRecDepth 20000 in
theorem gL_state_X7_state : GoodIn wsL_state (wsV RL 51 RX7 yX7_state wsX7_state) := goodIn_app (goodIn_of _ (by decide +kernel)) ggL_state_X7_state
theorem dL_state_0 : decode cL_state 0 = .ok (.aload_n 2, 1) := by decide +kernel
theorem dL_state_1 : decode cL_state 1 = .ok (.iconst 0, 1) := by decide +kernel
theorem dL_state_2 : decode cL_state 2 = .ok (.aload_n 0, 1) := by decide +kernel
theorem dL_state_3 : decode cL_state 3 = .ok (.iload_n 1, 1) := by decide +kernel
theorem dL_state_4 : decode cL_state 4 = .ok (.invokevirtual 51, 3) := by decide +kernel
theorem dL_state_7 : decode cL_state 7 = .ok (.i2l, 1) := by decide +kernel
theorem dL_state_8 : decode cL_state 8 = .ok (.lastore, 1) := by decide +kernel
theorem dL_state_9 : decode cL_state 9 = .ok (.goto 6, 3) := by decide +kernel
theorem dL_state_12 : decode cL_state 12 = .ok (.astore_n 3, 1) := by decide +kernel
theorem dL_state_13 : decode cL_state 13 = .ok (.iconst 1, 1) := by decide +kernel
theorem dL_state_14 : decode cL_state 14 = .ok (.ireturn, 1) := by decide +kernel
theorem dL_state_15 : decode cL_state 15 = .ok (.iconst 0, 1) := by decide +kernel
theorem dL_state_16 : decode cL_state 16 = .ok (.ireturn, 1) := by decide +kernel
set_option maxRecDepth 20000 in
theorem ggL_plays_X7_plays : GoodIn wsL_plays wsX7_plays := goodIn_ca (goodIn_ca (goodIn_r _ [7, 8, 9, 10, 11, 12, 6, 13, 14, 15, 16, 17, 18, 19, 20, 21, 22, 23, 24, 25, 26, 27, 28, 29, 30, 31, 32, 33, 34, 35, 36, 37, 38, 39, 40, 41] (by decide +kernel) (by decide +kernel)) (goodIn_sub (fun _ h => List.mem_cons_of_mem _ (List.mem_append_left _ (List.mem_append_right _ h))) (by decide +kernel))) (goodIn_sub (fun _ h => List.mem_cons_of_mem _ (List.mem_append_right _ h)) (by decide +kernel))
set_option maxRecDepth 20000 in
theorem gL_plays_X7_plays : GoodIn wsL_plays (wsV RL 55 RX7 yX7_plays wsX7_plays) := goodIn_app (goodIn_of _ (by decide +kernel)) ggL_plays_X7_plays
theorem dL_plays_0 : decode cL_plays 0 = .ok (.aload_n 2, 1) := by decide +kernel
theorem dL_plays_1 : decode cL_plays 1 = .ok (.iconst 0, 1) := by decide +kernel
theorem dL_plays_2 : decode cL_plays 2 = .ok (.aload_n 0, 1) := by decide +kernel
theorem dL_plays_3 : decode cL_plays 3 = .ok (.iload_n 1, 1) := by decide +kernel
theorem dL_plays_4 : decode cL_plays 4 = .ok (.invokevirtual 55, 3) := by decide +kernel
theorem dL_plays_7 : decode cL_plays 7 = .ok (.i2l, 1) := by decide +kernel
theorem dL_plays_8 : decode cL_plays 8 = .ok (.lastore, 1) := by decide +kernel
theorem dL_plays_9 : decode cL_plays 9 = .ok (.goto 9, 3) := by decide +kernel
theorem dL_plays_12 : decode cL_plays 12 = .ok (.astore_n 3, 1) := by decide +kernel
theorem dL_plays_13 : decode cL_plays 13 = .ok (.iconst 1, 1) := by decide +kernel
theorem dL_plays_14 : decode cL_plays 14 = .ok (.ireturn, 1) := by decide +kernel
theorem dL_plays_15 : decode cL_plays 15 = .ok (.astore_n 3, 1) := by decide +kernel
theorem dL_plays_16 : decode cL_plays 16 = .ok (.iconst 2, 1) := by decide +kernel
theorem dL_plays_17 : decode cL_plays 17 = .ok (.ireturn, 1) := by decide +kernel
theorem dL_plays_18 : decode cL_plays 18 = .ok (.iconst 0, 1) := by decide +kernel
theorem dL_plays_19 : decode cL_plays 19 = .ok (.ireturn, 1) := by decide +kernel
set_option maxRecDepth 20000 in
theorem ggL_playerAt_X7_playerAt : GoodIn wsL_playerAt wsX7_playerAt := goodIn_ca (goodIn_ca (goodIn_ca (goodIn_r _ [7, 8, 9, 10, 11, 12, 13, 14, 15, 16, 6, 17, 18, 19, 20, 21, 22, 23, 24, 25, 26, 27, 28, 29, 30, 31, 32, 33, 34, 35, 36] (by decide +kernel) (by decide +kernel)) (goodIn_sub (fun _ h => List.mem_cons_of_mem _ (List.mem_append_left _ (List.mem_append_right _ h))) (by decide +kernel))) (goodIn_sub (fun _ h => List.mem_cons_of_mem _ (List.mem_append_left _ (List.mem_append_left _ (List.mem_append_right _ h)))) (by decide +kernel))) (goodIn_sub (fun _ h => List.mem_cons_of_mem _ (List.mem_append_right _ h)) (by decide +kernel))
set_option maxRecDepth 20000 in
theorem gL_playerAt_X7_playerAt : GoodIn wsL_playerAt (wsV RL 58 RX7 yX7_playerAt wsX7_playerAt) := goodIn_app (goodIn_of _ (by decide +kernel)) ggL_playerAt_X7_playerAt
theorem dL_playerAt_0 : decode cL_playerAt 0 = .ok (.aload_n 3, 1) := by decide +kernel
theorem dL_playerAt_1 : decode cL_playerAt 1 = .ok (.iconst 0, 1) := by decide +kernel
theorem dL_playerAt_2 : decode cL_playerAt 2 = .ok (.aload_n 0, 1) := by decide +kernel
theorem dL_playerAt_3 : decode cL_playerAt 3 = .ok (.iload_n 1, 1) := by decide +kernel
theorem dL_playerAt_4 : decode cL_playerAt 4 = .ok (.iload_n 2, 1) := by decide +kernel
theorem dL_playerAt_5 : decode cL_playerAt 5 = .ok (.invokevirtual 58, 3) := by decide +kernel
theorem dL_playerAt_8 : decode cL_playerAt 8 = .ok (.i2l, 1) := by decide +kernel
theorem dL_playerAt_9 : decode cL_playerAt 9 = .ok (.lastore, 1) := by decide +kernel
theorem dL_playerAt_10 : decode cL_playerAt 10 = .ok (.goto 11, 3) := by decide +kernel
theorem dL_playerAt_13 : decode cL_playerAt 13 = .ok (.astore 4, 2) := by decide +kernel
theorem dL_playerAt_15 : decode cL_playerAt 15 = .ok (.iconst 1, 1) := by decide +kernel
theorem dL_playerAt_16 : decode cL_playerAt 16 = .ok (.ireturn, 1) := by decide +kernel
theorem dL_playerAt_17 : decode cL_playerAt 17 = .ok (.astore 4, 2) := by decide +kernel
theorem dL_playerAt_19 : decode cL_playerAt 19 = .ok (.iconst 2, 1) := by decide +kernel
theorem dL_playerAt_20 : decode cL_playerAt 20 = .ok (.ireturn, 1) := by decide +kernel
theorem dL_playerAt_21 : decode cL_playerAt 21 = .ok (.iconst 0, 1) := by decide +kernel
theorem dL_playerAt_22 : decode cL_playerAt 22 = .ok (.ireturn, 1) := by decide +kernel
set_option maxRecDepth 20000 in
theorem ggL_next_X7_next : GoodIn wsL_next wsX7_next := goodIn_ca (goodIn_ca (goodIn_ca (goodIn_r _ [7, 8, 9, 10, 11, 12, 6, 13, 14, 15, 16, 17, 18, 19, 20, 21, 22, 23, 24, 25, 26, 27, 28, 29, 30, 31, 32, 33, 34, 35, 36, 37, 38, 39, 40, 41, 42, 43, 44, 45, 46, 47, 48] (by decide +kernel) (by decide +kernel)) (goodIn_sub (fun _ h => List.mem_cons_of_mem _ (List.mem_append_left _ (List.mem_append_right _ h))) (by decide +kernel))) (goodIn_sub (fun _ h => List.mem_cons_of_mem _ (List.mem_append_right _ h)) (by decide +kernel))) (goodIn_sub (fun _ h => List.mem_cons_of_mem _ (List.mem_append_left _ (List.mem_append_left _ (List.mem_append_right _ h)))) (by decide +kernel))
set_option maxRecDepth 20000 in
theorem gL_next_X7_next : GoodIn wsL_next (wsV RL 61 RX7 yX7_next wsX7_next) := goodIn_app (goodIn_of _ (by decide +kernel)) ggL_next_X7_next
theorem dL_next_0 : decode cL_next 0 = .ok (.aload_n 2, 1) := by decide +kernel
theorem dL_next_1 : decode cL_next 1 = .ok (.iconst 0, 1) := by decide +kernel
theorem dL_next_2 : decode cL_next 2 = .ok (.aload_n 0, 1) := by decide +kernel
theorem dL_next_3 : decode cL_next 3 = .ok (.iload_n 1, 1) := by decide +kernel
theorem dL_next_4 : decode cL_next 4 = .ok (.invokevirtual 61, 3) := by decide +kernel
theorem dL_next_7 : decode cL_next 7 = .ok (.i2l, 1) := by decide +kernel
theorem dL_next_8 : decode cL_next 8 = .ok (.lastore, 1) := by decide +kernel
theorem dL_next_9 : decode cL_next 9 = .ok (.goto 9, 3) := by decide +kernel
theorem dL_next_12 : decode cL_next 12 = .ok (.astore_n 3, 1) := by decide +kernel
theorem dL_next_13 : decode cL_next 13 = .ok (.iconst 1, 1) := by decide +kernel
theorem dL_next_14 : decode cL_next 14 = .ok (.ireturn, 1) := by decide +kernel
theorem dL_next_15 : decode cL_next 15 = .ok (.astore_n 3, 1) := by decide +kernel
theorem dL_next_16 : decode cL_next 16 = .ok (.iconst 2, 1) := by decide +kernel
theorem dL_next_17 : decode cL_next 17 = .ok (.ireturn, 1) := by decide +kernel
theorem dL_next_18 : decode cL_next 18 = .ok (.iconst 0, 1) := by decide +kernel
theorem dL_next_19 : decode cL_next 19 = .ok (.ireturn, 1) := by decide +kernel
set_option maxRecDepth 20000 in
theorem ggL_count_X7_count : GoodIn wsL_count wsX7_count := goodIn_ca (goodIn_ca (goodIn_r _ [7, 8, 9, 10, 11, 12, 6, 13, 14, 15, 16, 17, 18, 19, 20, 21, 22, 23, 24, 25, 26, 27, 28, 29, 30, 31, 32, 33, 34, 35, 36, 37, 38, 39, 40, 41] (by decide +kernel) (by decide +kernel)) (goodIn_sub (fun _ h => List.mem_cons_of_mem _ (List.mem_append_left _ (List.mem_append_right _ h))) (by decide +kernel))) (goodIn_sub (fun _ h => List.mem_cons_of_mem _ (List.mem_append_right _ h)) (by decide +kernel))
set_option maxRecDepth 20000 in
theorem gL_count_X7_count : GoodIn wsL_count (wsV RL 64 RX7 yX7_count wsX7_count) := goodIn_app (goodIn_of _ (by decide +kernel)) ggL_count_X7_count
theorem dL_count_0 : decode cL_count 0 = .ok (.aload_n 2, 1) := by decide +kernel
theorem dL_count_1 : decode cL_count 1 = .ok (.iconst 0, 1) := by decide +kernel
theorem dL_count_2 : decode cL_count 2 = .ok (.aload_n 0, 1) := by decide +kernel
theorem dL_count_3 : decode cL_count 3 = .ok (.iload_n 1, 1) := by decide +kernel
theorem dL_count_4 : decode cL_count 4 = .ok (.invokevirtual 64, 3) := by decide +kernel
theorem dL_count_7 : decode cL_count 7 = .ok (.i2l, 1) := by decide +kernel
theorem dL_count_8 : decode cL_count 8 = .ok (.lastore, 1) := by decide +kernel
theorem dL_count_9 : decode cL_count 9 = .ok (.goto 9, 3) := by decide +kernel
theorem dL_count_12 : decode cL_count 12 = .ok (.astore_n 3, 1) := by decide +kernel
theorem dL_count_13 : decode cL_count 13 = .ok (.iconst 1, 1) := by decide +kernel
theorem dL_count_14 : decode cL_count 14 = .ok (.ireturn, 1) := by decide +kernel
theorem dL_count_15 : decode cL_count 15 = .ok (.astore_n 3, 1) := by decide +kernel
theorem dL_count_16 : decode cL_count 16 = .ok (.iconst 2, 1) := by decide +kernel
theorem dL_count_17 : decode cL_count 17 = .ok (.ireturn, 1) := by decide +kernel
theorem dL_count_18 : decode cL_count 18 = .ok (.iconst 0, 1) := by decide +kernel
theorem dL_count_19 : decode cL_count 19 = .ok (.ireturn, 1) := by decide +kernel
set_option maxRecDepth 20000 in
theorem ggL_waits_X7_waits : GoodIn wsL_waits wsX7_waits := goodIn_ca (goodIn_ca (goodIn_r _ [7, 8, 9, 10, 11, 12, 13, 6, 14, 15, 16, 17, 18, 19, 20, 21, 22, 23, 24, 25, 26, 27, 28, 29, 30, 31, 32, 33, 34, 35, 36, 37, 38, 39, 40, 41, 42] (by decide +kernel) (by decide +kernel)) (goodIn_sub (fun _ h => List.mem_cons_of_mem _ (List.mem_append_left _ (List.mem_append_right _ h))) (by decide +kernel))) (goodIn_sub (fun _ h => List.mem_cons_of_mem _ (List.mem_append_right _ h)) (by decide +kernel))
set_option maxRecDepth 20000 in
theorem gL_waits_X7_waits : GoodIn wsL_waits (wsV RL 67 RX7 yX7_waits wsX7_waits) := goodIn_app (goodIn_of _ (by decide +kernel)) ggL_waits_X7_waits
theorem dL_waits_0 : decode cL_waits 0 = .ok (.aload_n 2, 1) := by decide +kernel
theorem dL_waits_1 : decode cL_waits 1 = .ok (.iconst 0, 1) := by decide +kernel
theorem dL_waits_2 : decode cL_waits 2 = .ok (.aload_n 0, 1) := by decide +kernel
theorem dL_waits_3 : decode cL_waits 3 = .ok (.iload_n 1, 1) := by decide +kernel
theorem dL_waits_4 : decode cL_waits 4 = .ok (.invokevirtual 67, 3) := by decide +kernel
theorem dL_waits_7 : decode cL_waits 7 = .ok (.i2l, 1) := by decide +kernel
theorem dL_waits_8 : decode cL_waits 8 = .ok (.lastore, 1) := by decide +kernel
theorem dL_waits_9 : decode cL_waits 9 = .ok (.goto 9, 3) := by decide +kernel
theorem dL_waits_12 : decode cL_waits 12 = .ok (.astore_n 3, 1) := by decide +kernel
theorem dL_waits_13 : decode cL_waits 13 = .ok (.iconst 1, 1) := by decide +kernel
theorem dL_waits_14 : decode cL_waits 14 = .ok (.ireturn, 1) := by decide +kernel
theorem dL_waits_15 : decode cL_waits 15 = .ok (.astore_n 3, 1) := by decide +kernel
theorem dL_waits_16 : decode cL_waits 16 = .ok (.iconst 2, 1) := by decide +kernel
theorem dL_waits_17 : decode cL_waits 17 = .ok (.ireturn, 1) := by decide +kernel
theorem dL_waits_18 : decode cL_waits 18 = .ok (.iconst 0, 1) := by decide +kernel
theorem dL_waits_19 : decode cL_waits 19 = .ok (.ireturn, 1) := by decide +kernel
set_option maxRecDepth 20000 in
theorem ggL_tick_X7_tick : GoodIn wsL_tick wsX7_tick := goodIn_ca (goodIn_ca (goodIn_r _ [6, 7, 8, 9, 10, 11, 5, 12, 13, 14, 15, 16, 17, 18, 19, 20, 21, 22, 23, 24, 25, 26, 27, 28, 29, 30, 31, 32, 33, 34, 35, 36, 37, 38, 39, 40, 41, 42, 43, 44, 45, 46, 47, 48, 49, 50, 51, 52, 53, 54, 55, 56, 57, 58, 59, 60, 61, 62, 63, 64, 65, 66, 67, 68, 69, 70, 71, 72, 73, 74, 75, 76, 77, 78, 79, 80, 81, 82, 83, 84, 85, 86, 87, 88, 89, 90, 91, 92, 93, 94, 95, 96, 97, 98, 99, 100, 101, 102, 103, 104, 105, 106, 107, 108, 109, 110, 111, 112, 113, 114, 115, 116, 117, 118, 119, 120, 121, 122, 123, 124, 125, 126, 127, 128, 129, 130, 131, 132, 133, 134, 135, 136, 137, 138, 139, 140, 141, 142, 143, 144, 145, 146, 147, 148, 149, 150, 151, 152, 153, 154, 155, 156, 157, 158, 159, 160, 161, 162, 163, 164, 165, 166, 167, 168, 169, 170, 171, 172, 173, 174, 175, 176, 177, 178, 179, 180, 181, 182, 183, 184, 185, 186, 187, 188, 189, 190, 191, 192, 193, 194, 195, 196, 197, 198, 199, 200, 201, 202, 203] (by decide +kernel) (by decide +kernel)) (goodIn_sub (fun _ h => List.mem_cons_of_mem _ (List.mem_append_right _ h)) (by decide +kernel))) (goodIn_sub (fun _ h => List.mem_cons_of_mem _ (List.mem_append_left _ (List.mem_append_right _ h))) (by decide +kernel))
set_option maxRecDepth 20000 in
theorem gL_tick_X7_tick : GoodIn wsL_tick (wsV RL 70 RX7 yX7_tick wsX7_tick) := goodIn_app (goodIn_of _ (by decide +kernel)) ggL_tick_X7_tick
theorem dL_tick_0 : decode cL_tick 0 = .ok (.aload_n 2, 1) := by decide +kernel
theorem dL_tick_1 : decode cL_tick 1 = .ok (.iconst 0, 1) := by decide +kernel
theorem dL_tick_2 : decode cL_tick 2 = .ok (.aload_n 0, 1) := by decide +kernel
theorem dL_tick_3 : decode cL_tick 3 = .ok (.iload_n 1, 1) := by decide +kernel
theorem dL_tick_4 : decode cL_tick 4 = .ok (.invokevirtual 70, 3) := by decide +kernel
theorem dL_tick_7 : decode cL_tick 7 = .ok (.i2l, 1) := by decide +kernel
theorem dL_tick_8 : decode cL_tick 8 = .ok (.lastore, 1) := by decide +kernel
theorem dL_tick_9 : decode cL_tick 9 = .ok (.goto 6, 3) := by decide +kernel
theorem dL_tick_12 : decode cL_tick 12 = .ok (.astore_n 3, 1) := by decide +kernel
theorem dL_tick_13 : decode cL_tick 13 = .ok (.iconst 1, 1) := by decide +kernel
theorem dL_tick_14 : decode cL_tick 14 = .ok (.ireturn, 1) := by decide +kernel
theorem dL_tick_15 : decode cL_tick 15 = .ok (.iconst 0, 1) := by decide +kernel
theorem dL_tick_16 : decode cL_tick 16 = .ok (.ireturn, 1) := by decide +kernel
set_option maxRecDepth 20000 in
theorem ggL_slide_X7_slide : GoodIn wsL_slide wsX7_slide := goodIn_ca (goodIn_ca (goodIn_r _ [7, 8, 9, 10, 11, 12, 13, 14, 6, 15, 16, 17, 18, 19, 20, 21, 22, 23, 24, 25, 26, 27, 28, 29, 30, 31, 32] (by decide +kernel) (by decide +kernel)) (goodIn_sub (fun _ h => List.mem_cons_of_mem _ (List.mem_append_left _ (List.mem_append_right _ h))) (by decide +kernel))) (goodIn_sub (fun _ h => List.mem_cons_of_mem _ (List.mem_append_right _ h)) (by decide +kernel))
set_option maxRecDepth 20000 in
theorem gL_slide_X7_slide : GoodIn wsL_slide (wsV RL 73 RX7 yX7_slide wsX7_slide) := goodIn_app (goodIn_of _ (by decide +kernel)) ggL_slide_X7_slide
theorem dL_slide_0 : decode cL_slide 0 = .ok (.aload_n 2, 1) := by decide +kernel
theorem dL_slide_1 : decode cL_slide 1 = .ok (.iconst 0, 1) := by decide +kernel
theorem dL_slide_2 : decode cL_slide 2 = .ok (.aload_n 0, 1) := by decide +kernel
theorem dL_slide_3 : decode cL_slide 3 = .ok (.iload_n 1, 1) := by decide +kernel
theorem dL_slide_4 : decode cL_slide 4 = .ok (.invokevirtual 73, 3) := by decide +kernel
theorem dL_slide_7 : decode cL_slide 7 = .ok (.i2l, 1) := by decide +kernel
theorem dL_slide_8 : decode cL_slide 8 = .ok (.lastore, 1) := by decide +kernel
theorem dL_slide_9 : decode cL_slide 9 = .ok (.goto 9, 3) := by decide +kernel
theorem dL_slide_12 : decode cL_slide 12 = .ok (.astore_n 3, 1) := by decide +kernel
theorem dL_slide_13 : decode cL_slide 13 = .ok (.iconst 1, 1) := by decide +kernel
theorem dL_slide_14 : decode cL_slide 14 = .ok (.ireturn, 1) := by decide +kernel
theorem dL_slide_15 : decode cL_slide 15 = .ok (.astore_n 3, 1) := by decide +kernel
theorem dL_slide_16 : decode cL_slide 16 = .ok (.iconst 2, 1) := by decide +kernel
theorem dL_slide_17 : decode cL_slide 17 = .ok (.ireturn, 1) := by decide +kernel
theorem dL_slide_18 : decode cL_slide 18 = .ok (.iconst 0, 1) := by decide +kernel
theorem dL_slide_19 : decode cL_slide 19 = .ok (.ireturn, 1) := by decide +kernel
set_option maxRecDepth 20000 in
theorem ggL_holder_X7_holder : GoodIn wsL_holder wsX7_holder := goodIn_ca (goodIn_ca (goodIn_r _ [7, 8, 9, 10, 11, 12, 13, 6, 14, 15, 16, 17, 18, 19, 20, 21, 22, 23, 24, 25, 26, 27] (by decide +kernel) (by decide +kernel)) (goodIn_sub (fun _ h => List.mem_cons_of_mem _ (List.mem_append_left _ (List.mem_append_right _ h))) (by decide +kernel))) (goodIn_sub (fun _ h => List.mem_cons_of_mem _ (List.mem_append_right _ h)) (by decide +kernel))
set_option maxRecDepth 20000 in
theorem gL_holder_X7_holder : GoodIn wsL_holder (wsV RL 76 RX7 yX7_holder wsX7_holder) := goodIn_app (goodIn_of _ (by decide +kernel)) ggL_holder_X7_holder
theorem dL_holder_0 : decode cL_holder 0 = .ok (.aload_n 2, 1) := by decide +kernel
theorem dL_holder_1 : decode cL_holder 1 = .ok (.iconst 0, 1) := by decide +kernel
theorem dL_holder_2 : decode cL_holder 2 = .ok (.aload_n 0, 1) := by decide +kernel
theorem dL_holder_3 : decode cL_holder 3 = .ok (.iload_n 1, 1) := by decide +kernel
theorem dL_holder_4 : decode cL_holder 4 = .ok (.invokevirtual 76, 3) := by decide +kernel
theorem dL_holder_7 : decode cL_holder 7 = .ok (.i2l, 1) := by decide +kernel
theorem dL_holder_8 : decode cL_holder 8 = .ok (.lastore, 1) := by decide +kernel
theorem dL_holder_9 : decode cL_holder 9 = .ok (.goto 9, 3) := by decide +kernel
theorem dL_holder_12 : decode cL_holder 12 = .ok (.astore_n 3, 1) := by decide +kernel
theorem dL_holder_13 : decode cL_holder 13 = .ok (.iconst 1, 1) := by decide +kernel
theorem dL_holder_14 : decode cL_holder 14 = .ok (.ireturn, 1) := by decide +kernel
theorem dL_holder_15 : decode cL_holder 15 = .ok (.astore_n 3, 1) := by decide +kernel
theorem dL_holder_16 : decode cL_holder 16 = .ok (.iconst 2, 1) := by decide +kernel
theorem dL_holder_17 : decode cL_holder 17 = .ok (.ireturn, 1) := by decide +kernel
theorem dL_holder_18 : decode cL_holder 18 = .ok (.iconst 0, 1) := by decide +kernel
theorem dL_holder_19 : decode cL_holder 19 = .ok (.ireturn, 1) := by decide +kernel
set_option maxRecDepth 20000 in
theorem ggL_queued_X7_queued : GoodIn wsL_queued wsX7_queued := goodIn_ca (goodIn_ca (goodIn_ca (goodIn_r _ [7, 8, 9, 10, 11, 12, 13, 14, 15, 6, 16, 17, 18, 19, 20, 21, 22, 23, 24, 25, 26, 27, 28, 29, 30, 31] (by decide +kernel) (by decide +kernel)) (goodIn_sub (fun _ h => List.mem_cons_of_mem _ (List.mem_append_left _ (List.mem_append_right _ h))) (by decide +kernel))) (goodIn_sub (fun _ h => List.mem_cons_of_mem _ (List.mem_append_left _ (List.mem_append_left _ (List.mem_append_right _ h)))) (by decide +kernel))) (goodIn_sub (fun _ h => List.mem_cons_of_mem _ (List.mem_append_right _ h)) (by decide +kernel))
set_option maxRecDepth 20000 in
theorem gL_queued_X7_queued : GoodIn wsL_queued (wsV RL 79 RX7 yX7_queued wsX7_queued) := goodIn_app (goodIn_of _ (by decide +kernel)) ggL_queued_X7_queued
theorem dL_queued_0 : decode cL_queued 0 = .ok (.aload_n 3, 1) := by decide +kernel
theorem dL_queued_1 : decode cL_queued 1 = .ok (.iconst 0, 1) := by decide +kernel
theorem dL_queued_2 : decode cL_queued 2 = .ok (.aload_n 0, 1) := by decide +kernel
theorem dL_queued_3 : decode cL_queued 3 = .ok (.iload_n 1, 1) := by decide +kernel
theorem dL_queued_4 : decode cL_queued 4 = .ok (.iload_n 2, 1) := by decide +kernel
theorem dL_queued_5 : decode cL_queued 5 = .ok (.invokevirtual 79, 3) := by decide +kernel
theorem dL_queued_8 : decode cL_queued 8 = .ok (.i2l, 1) := by decide +kernel
theorem dL_queued_9 : decode cL_queued 9 = .ok (.lastore, 1) := by decide +kernel
theorem dL_queued_10 : decode cL_queued 10 = .ok (.goto 11, 3) := by decide +kernel
theorem dL_queued_13 : decode cL_queued 13 = .ok (.astore 4, 2) := by decide +kernel
theorem dL_queued_15 : decode cL_queued 15 = .ok (.iconst 1, 1) := by decide +kernel
theorem dL_queued_16 : decode cL_queued 16 = .ok (.ireturn, 1) := by decide +kernel
theorem dL_queued_17 : decode cL_queued 17 = .ok (.astore 4, 2) := by decide +kernel
theorem dL_queued_19 : decode cL_queued 19 = .ok (.iconst 2, 1) := by decide +kernel
theorem dL_queued_20 : decode cL_queued 20 = .ok (.ireturn, 1) := by decide +kernel
theorem dL_queued_21 : decode cL_queued 21 = .ok (.iconst 0, 1) := by decide +kernel
theorem dL_queued_22 : decode cL_queued 22 = .ok (.ireturn, 1) := by decide +kernel
set_option maxRecDepth 20000 in
theorem ggL_visitor_X7_visitor : GoodIn wsL_visitor wsX7_visitor := goodIn_ca (goodIn_r _ [6, 7, 8, 9, 10, 11, 12, 13, 14, 15, 16, 17, 18] (by decide +kernel) (by decide +kernel)) (goodIn_sub (fun _ h => List.mem_cons_of_mem _ (List.mem_append_right _ h)) (by decide +kernel))
set_option maxRecDepth 20000 in
theorem gL_visitor_X7_visitor : GoodIn wsL_visitor (wsV RL 82 RX7 yX7_visitor wsX7_visitor) := goodIn_app (goodIn_of _ (by decide +kernel)) ggL_visitor_X7_visitor
theorem dL_visitor_0 : decode cL_visitor 0 = .ok (.aload_n 1, 1) := by decide +kernel
theorem dL_visitor_1 : decode cL_visitor 1 = .ok (.iconst 0, 1) := by decide +kernel
theorem dL_visitor_2 : decode cL_visitor 2 = .ok (.aload_n 0, 1) := by decide +kernel
theorem dL_visitor_3 : decode cL_visitor 3 = .ok (.invokevirtual 82, 3) := by decide +kernel
theorem dL_visitor_6 : decode cL_visitor 6 = .ok (.i2l, 1) := by decide +kernel
theorem dL_visitor_7 : decode cL_visitor 7 = .ok (.lastore, 1) := by decide +kernel
theorem dL_visitor_8 : decode cL_visitor 8 = .ok (.goto 6, 3) := by decide +kernel
theorem dL_visitor_11 : decode cL_visitor 11 = .ok (.astore_n 2, 1) := by decide +kernel
theorem dL_visitor_12 : decode cL_visitor 12 = .ok (.iconst 1, 1) := by decide +kernel
theorem dL_visitor_13 : decode cL_visitor 13 = .ok (.ireturn, 1) := by decide +kernel
theorem dL_visitor_14 : decode cL_visitor 14 = .ok (.iconst 0, 1) := by decide +kernel
theorem dL_visitor_15 : decode cL_visitor 15 = .ok (.ireturn, 1) := by decide +kernel
set_option maxRecDepth 20000 in
theorem ggL_go_X7_go : GoodIn wsL_go wsX7_go := goodIn_ca (goodIn_r _ [6, 7, 8, 9, 10, 11, 5, 12, 13, 14, 15, 16, 17, 18, 19, 20, 21, 22, 23, 24, 25, 26, 27, 28, 29, 30, 31, 32, 33] (by decide +kernel) (by decide +kernel)) (goodIn_sub (fun _ h => List.mem_cons_of_mem _ (List.mem_append_right _ h)) (by decide +kernel))
set_option maxRecDepth 20000 in
theorem gL_go_X7_go : GoodIn wsL_go (wsV RL 85 RX7 yX7_go wsX7_go) := goodIn_app (goodIn_of _ (by decide +kernel)) ggL_go_X7_go
theorem dL_go_0 : decode cL_go 0 = .ok (.aload_n 3, 1) := by decide +kernel
theorem dL_go_1 : decode cL_go 1 = .ok (.iconst 0, 1) := by decide +kernel
theorem dL_go_2 : decode cL_go 2 = .ok (.aload_n 0, 1) := by decide +kernel
theorem dL_go_3 : decode cL_go 3 = .ok (.iload_n 1, 1) := by decide +kernel
theorem dL_go_4 : decode cL_go 4 = .ok (.iload_n 2, 1) := by decide +kernel
theorem dL_go_5 : decode cL_go 5 = .ok (.invokevirtual 85, 3) := by decide +kernel
theorem dL_go_8 : decode cL_go 8 = .ok (.i2l, 1) := by decide +kernel
theorem dL_go_9 : decode cL_go 9 = .ok (.lastore, 1) := by decide +kernel
theorem dL_go_10 : decode cL_go 10 = .ok (.goto 7, 3) := by decide +kernel
theorem dL_go_13 : decode cL_go 13 = .ok (.astore 4, 2) := by decide +kernel
theorem dL_go_15 : decode cL_go 15 = .ok (.iconst 1, 1) := by decide +kernel
theorem dL_go_16 : decode cL_go 16 = .ok (.ireturn, 1) := by decide +kernel
theorem dL_go_17 : decode cL_go 17 = .ok (.iconst 0, 1) := by decide +kernel
theorem dL_go_18 : decode cL_go 18 = .ok (.ireturn, 1) := by decide +kernel
set_option maxRecDepth 20000 in
theorem ggL_ask_X7_ask : GoodIn wsL_ask wsX7_ask := goodIn_ca (goodIn_ca (goodIn_ca (goodIn_r _ [7, 8, 9, 10, 11, 12, 13, 14, 6, 15, 16, 17, 18, 19, 20, 21, 22, 23, 24, 25, 26, 27, 28, 29, 30, 31, 32, 33, 34, 35, 36] (by decide +kernel) (by decide +kernel)) (goodIn_sub (fun _ h => List.mem_cons_of_mem _ (List.mem_append_left _ (List.mem_append_left _ (List.mem_append_right _ h)))) (by decide +kernel))) (goodIn_sub (fun _ h => List.mem_cons_of_mem _ (List.mem_append_left _ (List.mem_append_right _ h))) (by decide +kernel))) (goodIn_sub (fun _ h => List.mem_cons_of_mem _ (List.mem_append_right _ h)) (by decide +kernel))
set_option maxRecDepth 20000 in
theorem gL_ask_X7_ask : GoodIn wsL_ask (wsV RL 88 RX7 yX7_ask wsX7_ask) := goodIn_app (goodIn_of _ (by decide +kernel)) ggL_ask_X7_ask
theorem dL_ask_0 : decode cL_ask 0 = .ok (.aload_n 3, 1) := by decide +kernel
theorem dL_ask_1 : decode cL_ask 1 = .ok (.iconst 0, 1) := by decide +kernel
theorem dL_ask_2 : decode cL_ask 2 = .ok (.aload_n 0, 1) := by decide +kernel
theorem dL_ask_3 : decode cL_ask 3 = .ok (.iload_n 1, 1) := by decide +kernel
theorem dL_ask_4 : decode cL_ask 4 = .ok (.iload_n 2, 1) := by decide +kernel
theorem dL_ask_5 : decode cL_ask 5 = .ok (.invokevirtual 88, 3) := by decide +kernel
theorem dL_ask_8 : decode cL_ask 8 = .ok (.ifCond .eq 7, 3) := by decide +kernel
theorem dL_ask_11 : decode cL_ask 11 = .ok (.lconst 1, 1) := by decide +kernel
theorem dL_ask_12 : decode cL_ask 12 = .ok (.goto 4, 3) := by decide +kernel
theorem dL_ask_15 : decode cL_ask 15 = .ok (.lconst 0, 1) := by decide +kernel
theorem dL_ask_16 : decode cL_ask 16 = .ok (.lastore, 1) := by decide +kernel
theorem dL_ask_17 : decode cL_ask 17 = .ok (.goto 11, 3) := by decide +kernel
theorem dL_ask_20 : decode cL_ask 20 = .ok (.astore 4, 2) := by decide +kernel
theorem dL_ask_22 : decode cL_ask 22 = .ok (.iconst 1, 1) := by decide +kernel
theorem dL_ask_23 : decode cL_ask 23 = .ok (.ireturn, 1) := by decide +kernel
theorem dL_ask_24 : decode cL_ask 24 = .ok (.astore 4, 2) := by decide +kernel
theorem dL_ask_26 : decode cL_ask 26 = .ok (.iconst 2, 1) := by decide +kernel
theorem dL_ask_27 : decode cL_ask 27 = .ok (.ireturn, 1) := by decide +kernel
theorem dL_ask_28 : decode cL_ask 28 = .ok (.iconst 0, 1) := by decide +kernel
theorem dL_ask_29 : decode cL_ask 29 = .ok (.ireturn, 1) := by decide +kernel
set_option maxRecDepth 20000 in
theorem ggL_saw_X7_saw : GoodIn wsL_saw wsX7_saw := goodIn_ca (goodIn_ca (goodIn_ca (goodIn_r _ [7, 8, 9, 10, 11, 12, 6, 13, 14, 15, 16, 17, 18, 19, 20, 21, 22, 23, 24, 25, 26, 27, 28, 29, 30, 31, 32, 33, 34] (by decide +kernel) (by decide +kernel)) (goodIn_sub (fun _ h => List.mem_cons_of_mem _ (List.mem_append_left _ (List.mem_append_left _ (List.mem_append_right _ h)))) (by decide +kernel))) (goodIn_sub (fun _ h => List.mem_cons_of_mem _ (List.mem_append_left _ (List.mem_append_right _ h))) (by decide +kernel))) (goodIn_sub (fun _ h => List.mem_cons_of_mem _ (List.mem_append_right _ h)) (by decide +kernel))
set_option maxRecDepth 20000 in
theorem gL_saw_X7_saw : GoodIn wsL_saw (wsV RL 92 RX7 yX7_saw wsX7_saw) := goodIn_app (goodIn_of _ (by decide +kernel)) ggL_saw_X7_saw
theorem dL_saw_0 : decode cL_saw 0 = .ok (.aload_n 3, 1) := by decide +kernel
theorem dL_saw_1 : decode cL_saw 1 = .ok (.iconst 0, 1) := by decide +kernel
theorem dL_saw_2 : decode cL_saw 2 = .ok (.aload_n 0, 1) := by decide +kernel
theorem dL_saw_3 : decode cL_saw 3 = .ok (.iload_n 1, 1) := by decide +kernel
theorem dL_saw_4 : decode cL_saw 4 = .ok (.iload_n 2, 1) := by decide +kernel
theorem dL_saw_5 : decode cL_saw 5 = .ok (.invokevirtual 92, 3) := by decide +kernel
theorem dL_saw_8 : decode cL_saw 8 = .ok (.i2l, 1) := by decide +kernel
theorem dL_saw_9 : decode cL_saw 9 = .ok (.lastore, 1) := by decide +kernel
theorem dL_saw_10 : decode cL_saw 10 = .ok (.goto 11, 3) := by decide +kernel
theorem dL_saw_13 : decode cL_saw 13 = .ok (.astore 4, 2) := by decide +kernel
theorem dL_saw_15 : decode cL_saw 15 = .ok (.iconst 1, 1) := by decide +kernel
theorem dL_saw_16 : decode cL_saw 16 = .ok (.ireturn, 1) := by decide +kernel
theorem dL_saw_17 : decode cL_saw 17 = .ok (.astore 4, 2) := by decide +kernel
theorem dL_saw_19 : decode cL_saw 19 = .ok (.iconst 2, 1) := by decide +kernel
theorem dL_saw_20 : decode cL_saw 20 = .ok (.ireturn, 1) := by decide +kernel
theorem dL_saw_21 : decode cL_saw 21 = .ok (.iconst 0, 1) := by decide +kernel
theorem dL_saw_22 : decode cL_saw 22 = .ok (.ireturn, 1) := by decide +kernel
set_option maxRecDepth 20000 in
theorem ggL_meanSeen_X7_meanSeen : GoodIn wsL_meanSeen wsX7_meanSeen := goodIn_ca (goodIn_ca (goodIn_r _ [6, 7, 8, 9, 10, 11, 12, 13, 14, 15, 16, 17, 18, 19, 20, 21, 22, 23, 24] (by decide +kernel) (by decide +kernel)) (goodIn_sub (fun _ h => List.mem_cons_of_mem _ (List.mem_append_right _ h)) (by decide +kernel))) (goodIn_sub (fun _ h => List.mem_cons_of_mem _ (List.mem_append_left _ (List.mem_append_right _ h))) (by decide +kernel))
set_option maxRecDepth 20000 in
theorem gL_meanSeen_X7_meanSeen : GoodIn wsL_meanSeen (wsV RL 95 RX7 yX7_meanSeen wsX7_meanSeen) := goodIn_app (goodIn_of _ (by decide +kernel)) ggL_meanSeen_X7_meanSeen
theorem dL_meanSeen_0 : decode cL_meanSeen 0 = .ok (.aload_n 1, 1) := by decide +kernel
theorem dL_meanSeen_1 : decode cL_meanSeen 1 = .ok (.iconst 0, 1) := by decide +kernel
theorem dL_meanSeen_2 : decode cL_meanSeen 2 = .ok (.aload_n 0, 1) := by decide +kernel
theorem dL_meanSeen_3 : decode cL_meanSeen 3 = .ok (.invokevirtual 95, 3) := by decide +kernel
theorem dL_meanSeen_6 : decode cL_meanSeen 6 = .ok (.dastore, 1) := by decide +kernel
theorem dL_meanSeen_7 : decode cL_meanSeen 7 = .ok (.goto 6, 3) := by decide +kernel
theorem dL_meanSeen_10 : decode cL_meanSeen 10 = .ok (.astore_n 2, 1) := by decide +kernel
theorem dL_meanSeen_11 : decode cL_meanSeen 11 = .ok (.iconst 1, 1) := by decide +kernel
theorem dL_meanSeen_12 : decode cL_meanSeen 12 = .ok (.ireturn, 1) := by decide +kernel
theorem dL_meanSeen_13 : decode cL_meanSeen 13 = .ok (.iconst 0, 1) := by decide +kernel
theorem dL_meanSeen_14 : decode cL_meanSeen 14 = .ok (.ireturn, 1) := by decide +kernel
