theorem dL_cell_0 : decode cL_cell 0 = .ok (.ldc 7, 2) := by decide +kernel
theorem dL_cell_2 : decode cL_cell 2 = .ok (.iload_n 1, 1) := by decide +kernel
theorem dL_cell_3 : decode cL_cell 3 = .ok (.aload_n 0, 1) := by decide +kernel
theorem dL_cell_4 : decode cL_cell 4 = .ok (.arraylength, 1) := by decide +kernel
theorem dL_cell_5 : decode cL_cell 5 = .ok (.if_icmp .ge 9, 3) := by decide +kernel
theorem dL_cell_8 : decode cL_cell 8 = .ok (.aload_n 0, 1) := by decide +kernel
theorem dL_cell_9 : decode cL_cell 9 = .ok (.iload_n 1, 1) := by decide +kernel
theorem dL_cell_10 : decode cL_cell 10 = .ok (.iaload, 1) := by decide +kernel
theorem dL_cell_11 : decode cL_cell 11 = .ok (.goto 4, 3) := by decide +kernel
theorem dL_cell_14 : decode cL_cell 14 = .ok (.iconst 0, 1) := by decide +kernel
theorem dL_cell_15 : decode cL_cell 15 = .ok (.sipush 1009, 3) := by decide +kernel
theorem dL_cell_18 : decode cL_cell 18 = .ok (.iload_n 1, 1) := by decide +kernel
theorem dL_cell_19 : decode cL_cell 19 = .ok (.imul, 1) := by decide +kernel
theorem dL_cell_20 : decode cL_cell 20 = .ok (.iadd, 1) := by decide +kernel
theorem dL_cell_21 : decode cL_cell 21 = .ok (.imul, 1) := by decide +kernel
theorem dL_cell_22 : decode cL_cell 22 = .ok (.sipush 12345, 3) := by decide +kernel
theorem dL_cell_25 : decode cL_cell 25 = .ok (.iadd, 1) := by decide +kernel
theorem dL_cell_26 : decode cL_cell 26 = .ok (.istore_n 2, 1) := by decide +kernel
theorem dL_cell_27 : decode cL_cell 27 = .ok (.iload_n 2, 1) := by decide +kernel
theorem dL_cell_28 : decode cL_cell 28 = .ok (.iload_n 2, 1) := by decide +kernel
theorem dL_cell_29 : decode cL_cell 29 = .ok (.bipush 13, 2) := by decide +kernel
theorem dL_cell_31 : decode cL_cell 31 = .ok (.iushr, 1) := by decide +kernel
theorem dL_cell_32 : decode cL_cell 32 = .ok (.ixor, 1) := by decide +kernel
theorem dL_cell_33 : decode cL_cell 33 = .ok (.ldc 8, 2) := by decide +kernel
theorem dL_cell_35 : decode cL_cell 35 = .ok (.imul, 1) := by decide +kernel
theorem dL_cell_36 : decode cL_cell 36 = .ok (.istore_n 2, 1) := by decide +kernel
theorem dL_cell_37 : decode cL_cell 37 = .ok (.iload_n 2, 1) := by decide +kernel
theorem dL_cell_38 : decode cL_cell 38 = .ok (.iload_n 2, 1) := by decide +kernel
theorem dL_cell_39 : decode cL_cell 39 = .ok (.bipush 16, 2) := by decide +kernel
theorem dL_cell_41 : decode cL_cell 41 = .ok (.iushr, 1) := by decide +kernel
theorem dL_cell_42 : decode cL_cell 42 = .ok (.ixor, 1) := by decide +kernel
theorem dL_cell_43 : decode cL_cell 43 = .ok (.ireturn, 1) := by decide +kernel
set_option maxRecDepth 20000 in
theorem ggL_list_X7_list : GoodIn wsL_list wsX7_list := goodIn_ca (goodIn_r _ [7, 8, 9, 10, 11, 12, 13, 14, 15, 16, 17, 18, 19] (by decide +kernel) (by decide +kernel)) (goodIn_sub (fun _ h => List.mem_cons_of_mem _ (List.mem_append_right _ h)) (by decide +kernel))
set_option maxRecDepth 20000 in
theorem gL_list_X7_list : GoodIn wsL_list (wsV RL 9 RX7 yX7_list wsX7_list) := goodIn_app (goodIn_of _ (by decide +kernel)) ggL_list_X7_list
theorem dL_list_0 : decode cL_list 0 = .ok (.aload_n 0, 1) := by decide +kernel
theorem dL_list_1 : decode cL_list 1 = .ok (.invokevirtual 9, 3) := by decide +kernel
theorem dL_list_4 : decode cL_list 4 = .ok (.ireturn, 1) := by decide +kernel
theorem dL_list_5 : decode cL_list 5 = .ok (.astore_n 1, 1) := by decide +kernel
theorem dL_list_6 : decode cL_list 6 = .ok (.ldc 17, 2) := by decide +kernel
theorem dL_list_8 : decode cL_list 8 = .ok (.ireturn, 1) := by decide +kernel
set_option maxRecDepth 20000 in
theorem ggL_line_X7_line : GoodIn wsL_line wsX7_line := goodIn_ca (goodIn_ca (goodIn_ca (goodIn_ca (goodIn_r _ [11, 12, 13, 14, 15, 16, 17, 18, 19, 20, 21, 22, 10, 23, 24, 25, 26, 27, 28, 29, 30, 31, 32, 33, 34, 35, 36, 37, 38, 39, 40, 41, 42, 43, 44, 45, 46, 47, 48, 49, 50, 51, 52, 53] (by decide +kernel) (by decide +kernel)) (goodIn_sub (fun _ h => List.mem_cons_of_mem _ (List.mem_append_left _ (List.mem_append_left _ (List.mem_append_left _ (List.mem_append_right _ h))))) (by decide +kernel))) (goodIn_sub (fun _ h => List.mem_cons_of_mem _ (List.mem_append_left _ (List.mem_append_left _ (List.mem_append_right _ h)))) (by decide +kernel))) (goodIn_sub (fun _ h => List.mem_cons_of_mem _ (List.mem_append_left _ (List.mem_append_right _ h))) (by decide +kernel))) (goodIn_sub (fun _ h => List.mem_cons_of_mem _ (List.mem_append_right _ h)) (by decide +kernel))
set_option maxRecDepth 20000 in
theorem gL_line_X7_line : GoodIn wsL_line (wsV RL 18 RX7 yX7_line wsX7_line) := goodIn_app (goodIn_of _ (by decide +kernel)) ggL_line_X7_line
theorem dL_line_0 : decode cL_line 0 = .ok (.aload_n 0, 1) := by decide +kernel
theorem dL_line_1 : decode cL_line 1 = .ok (.iload_n 1, 1) := by decide +kernel
theorem dL_line_2 : decode cL_line 2 = .ok (.iload_n 2, 1) := by decide +kernel
theorem dL_line_3 : decode cL_line 3 = .ok (.iload_n 3, 1) := by decide +kernel
theorem dL_line_4 : decode cL_line 4 = .ok (.iload 4, 2) := by decide +kernel
theorem dL_line_6 : decode cL_line 6 = .ok (.invokevirtual 18, 3) := by decide +kernel
theorem dL_line_9 : decode cL_line 9 = .ok (.ireturn, 1) := by decide +kernel
theorem dL_line_10 : decode cL_line 10 = .ok (.astore 5, 2) := by decide +kernel
theorem dL_line_12 : decode cL_line 12 = .ok (.ldc 17, 2) := by decide +kernel
theorem dL_line_14 : decode cL_line 14 = .ok (.ireturn, 1) := by decide +kernel
theorem dL_line_15 : decode cL_line 15 = .ok (.astore 5, 2) := by decide +kernel
theorem dL_line_17 : decode cL_line 17 = .ok (.ldc 26, 2) := by decide +kernel
theorem dL_line_19 : decode cL_line 19 = .ok (.ireturn, 1) := by decide +kernel
theorem dL_line_20 : decode cL_line 20 = .ok (.astore 5, 2) := by decide +kernel
theorem dL_line_22 : decode cL_line 22 = .ok (.ldc 27, 2) := by decide +kernel
theorem dL_line_24 : decode cL_line 24 = .ok (.ireturn, 1) := by decide +kernel
set_option maxRecDepth 20000 in
theorem ggL_cut_X7_cut : GoodIn wsL_cut wsX7_cut := goodIn_ca (goodIn_ca (goodIn_r _ [7, 8, 9, 10, 11, 12, 13, 14, 15, 6, 16, 17, 18, 19, 20, 21, 22, 23, 24, 25, 26, 27, 28, 29, 30, 31, 32, 33, 34, 35, 36, 37] (by decide +kernel) (by decide +kernel)) (goodIn_sub (fun _ h => List.mem_cons_of_mem _ (List.mem_append_left _ (List.mem_append_right _ h))) (by decide +kernel))) (goodIn_sub (fun _ h => List.mem_cons_of_mem _ (List.mem_append_right _ h)) (by decide +kernel))
set_option maxRecDepth 20000 in
theorem gL_cut_X7_cut : GoodIn wsL_cut (wsV RL 28 RX7 yX7_cut wsX7_cut) := goodIn_app (goodIn_of _ (by decide +kernel)) ggL_cut_X7_cut
theorem dL_cut_0 : decode cL_cut 0 = .ok (.aload_n 0, 1) := by decide +kernel
theorem dL_cut_1 : decode cL_cut 1 = .ok (.iload_n 1, 1) := by decide +kernel
theorem dL_cut_2 : decode cL_cut 2 = .ok (.iload_n 2, 1) := by decide +kernel
theorem dL_cut_3 : decode cL_cut 3 = .ok (.invokevirtual 28, 3) := by decide +kernel
theorem dL_cut_6 : decode cL_cut 6 = .ok (.ireturn, 1) := by decide +kernel
theorem dL_cut_7 : decode cL_cut 7 = .ok (.astore_n 3, 1) := by decide +kernel
theorem dL_cut_8 : decode cL_cut 8 = .ok (.ldc 17, 2) := by decide +kernel
theorem dL_cut_10 : decode cL_cut 10 = .ok (.ireturn, 1) := by decide +kernel
set_option maxRecDepth 20000 in
theorem ggL_lines_X7_lines : GoodIn wsL_lines wsX7_lines := goodIn_ca (goodIn_ca (goodIn_ca (goodIn_r _ [9, 10, 11, 12, 13, 8, 14, 15, 16, 17, 18, 19, 20, 21, 22, 23, 24, 25, 26, 27, 28, 29, 30, 31, 32, 33, 34, 35, 36, 37, 38, 39, 40, 41, 42, 43, 44] (by decide +kernel) (by decide +kernel)) (goodIn_sub (fun _ h => List.mem_cons_of_mem _ (List.mem_append_left _ (List.mem_append_left _ (List.mem_append_right _ h)))) (by decide +kernel))) (goodIn_sub (fun _ h => List.mem_cons_of_mem _ (List.mem_append_left _ (List.mem_append_right _ h))) (by decide +kernel))) (goodIn_sub (fun _ h => List.mem_cons_of_mem _ (List.mem_append_right _ h)) (by decide +kernel))
set_option maxRecDepth 20000 in
theorem gL_lines_X7_lines : GoodIn wsL_lines (wsV RL 32 RX7 yX7_lines wsX7_lines) := goodIn_app (goodIn_of _ (by decide +kernel)) ggL_lines_X7_lines
theorem dL_lines_0 : decode cL_lines 0 = .ok (.aload_n 0, 1) := by decide +kernel
theorem dL_lines_1 : decode cL_lines 1 = .ok (.iload_n 1, 1) := by decide +kernel
theorem dL_lines_2 : decode cL_lines 2 = .ok (.iload_n 2, 1) := by decide +kernel
theorem dL_lines_3 : decode cL_lines 3 = .ok (.invokevirtual 32, 3) := by decide +kernel
theorem dL_lines_6 : decode cL_lines 6 = .ok (.ireturn, 1) := by decide +kernel
theorem dL_lines_7 : decode cL_lines 7 = .ok (.astore_n 3, 1) := by decide +kernel
theorem dL_lines_8 : decode cL_lines 8 = .ok (.ldc 17, 2) := by decide +kernel
theorem dL_lines_10 : decode cL_lines 10 = .ok (.ireturn, 1) := by decide +kernel
theorem dL_lines_11 : decode cL_lines 11 = .ok (.astore_n 3, 1) := by decide +kernel
theorem dL_lines_12 : decode cL_lines 12 = .ok (.ldc 26, 2) := by decide +kernel
theorem dL_lines_14 : decode cL_lines 14 = .ok (.ireturn, 1) := by decide +kernel
set_option maxRecDepth 20000 in
theorem ggL_kiosk_X7_kiosk : GoodIn wsL_kiosk wsX7_kiosk := goodIn_ca (goodIn_r _ [7, 8, 9, 10, 11, 12, 13, 14, 15, 16, 17, 18, 19] (by decide +kernel) (by decide +kernel)) (goodIn_sub (fun _ h => List.mem_cons_of_mem _ (List.mem_append_right _ h)) (by decide +kernel))
set_option maxRecDepth 20000 in
theorem gL_kiosk_X7_kiosk : GoodIn wsL_kiosk (wsV RL 36 RX7 yX7_kiosk wsX7_kiosk) := goodIn_app (goodIn_of _ (by decide +kernel)) ggL_kiosk_X7_kiosk
theorem dL_kiosk_0 : decode cL_kiosk 0 = .ok (.aload_n 0, 1) := by decide +kernel
theorem dL_kiosk_1 : decode cL_kiosk 1 = .ok (.invokevirtual 36, 3) := by decide +kernel
theorem dL_kiosk_4 : decode cL_kiosk 4 = .ok (.ireturn, 1) := by decide +kernel
theorem dL_kiosk_5 : decode cL_kiosk 5 = .ok (.astore_n 1, 1) := by decide +kernel
theorem dL_kiosk_6 : decode cL_kiosk 6 = .ok (.ldc 17, 2) := by decide +kernel
theorem dL_kiosk_8 : decode cL_kiosk 8 = .ok (.ireturn, 1) := by decide +kernel
set_option maxRecDepth 20000 in
theorem ggL_start_X7_start : GoodIn wsL_start wsX7_start := goodIn_ca (goodIn_ca (goodIn_ca (goodIn_r _ [9, 10, 11, 12, 13, 14, 15, 16, 17, 18, 8, 19, 20, 21, 22, 23, 24, 25, 26, 27, 28, 29, 30, 31, 32, 33, 34, 35, 36, 37, 38, 39, 40, 41, 42, 43, 44, 45, 46, 47, 48, 49, 50, 51, 52, 53, 54, 55, 56, 57, 58, 59, 60, 61, 62, 63, 64, 65, 66, 67, 68, 69, 70, 71, 72, 73, 74, 75, 76, 77, 78, 79, 80, 81, 82, 83, 84, 85, 86, 87, 88, 89, 90, 91, 92, 93, 94, 95, 96, 97, 98, 99, 100, 101, 102, 103, 104, 105, 106, 107, 108, 109, 110, 111, 112, 113, 114, 115, 116, 117, 118] (by decide +kernel) (by decide +kernel)) (goodIn_sub (fun _ h => List.mem_cons_of_mem _ (List.mem_append_left _ (List.mem_append_left _ (List.mem_append_right _ h)))) (by decide +kernel))) (goodIn_sub (fun _ h => List.mem_cons_of_mem _ (List.mem_append_left _ (List.mem_append_right _ h))) (by decide +kernel))) (goodIn_sub (fun _ h => List.mem_cons_of_mem _ (List.mem_append_right _ h)) (by decide +kernel))
set_option maxRecDepth 20000 in
theorem gL_start_X7_start : GoodIn wsL_start (wsV RL 39 RX7 yX7_start wsX7_start) := goodIn_app (goodIn_of _ (by decide +kernel)) ggL_start_X7_start
theorem dL_start_0 : decode cL_start 0 = .ok (.aload_n 0, 1) := by decide +kernel
theorem dL_start_1 : decode cL_start 1 = .ok (.iload_n 1, 1) := by decide +kernel
theorem dL_start_2 : decode cL_start 2 = .ok (.iload_n 2, 1) := by decide +kernel
theorem dL_start_3 : decode cL_start 3 = .ok (.invokevirtual 39, 3) := by decide +kernel
theorem dL_start_6 : decode cL_start 6 = .ok (.ireturn, 1) := by decide +kernel
theorem dL_start_7 : decode cL_start 7 = .ok (.astore_n 3, 1) := by decide +kernel
theorem dL_start_8 : decode cL_start 8 = .ok (.ldc 17, 2) := by decide +kernel
theorem dL_start_10 : decode cL_start 10 = .ok (.ireturn, 1) := by decide +kernel
theorem dL_start_11 : decode cL_start 11 = .ok (.astore_n 3, 1) := by decide +kernel
theorem dL_start_12 : decode cL_start 12 = .ok (.ldc 26, 2) := by decide +kernel
theorem dL_start_14 : decode cL_start 14 = .ok (.ireturn, 1) := by decide +kernel
set_option maxRecDepth 20000 in
theorem ggL_stop_X7_stop : GoodIn wsL_stop wsX7_stop := goodIn_ca (goodIn_ca (goodIn_ca (goodIn_r _ [9, 10, 11, 12, 13, 14, 15, 16, 17, 8, 18, 19, 20, 21, 22, 23, 24, 25, 26, 27, 28, 29, 30, 31, 32, 33, 34, 35, 36, 37, 38, 39, 40, 41, 42, 43, 44, 45, 46, 47, 48, 49, 50, 51, 52, 53, 54, 55, 56, 57, 58, 59, 60, 61, 62, 63, 64, 65, 66, 67, 68, 69, 70, 71, 72, 73, 74, 75] (by decide +kernel) (by decide +kernel)) (goodIn_sub (fun _ h => List.mem_cons_of_mem _ (List.mem_append_left _ (List.mem_append_left _ (List.mem_append_right _ h)))) (by decide +kernel))) (goodIn_sub (fun _ h => List.mem_cons_of_mem _ (List.mem_append_left _ (List.mem_append_right _ h))) (by decide +kernel))) (goodIn_sub (fun _ h => List.mem_cons_of_mem _ (List.mem_append_right _ h)) (by decide +kernel))
set_option maxRecDepth 20000 in
theorem gL_stop_X7_stop : GoodIn wsL_stop (wsV RL 43 RX7 yX7_stop wsX7_stop) := goodIn_app (goodIn_of _ (by decide +kernel)) ggL_stop_X7_stop
theorem dL_stop_0 : decode cL_stop 0 = .ok (.aload_n 0, 1) := by decide +kernel
theorem dL_stop_1 : decode cL_stop 1 = .ok (.iload_n 1, 1) := by decide +kernel
theorem dL_stop_2 : decode cL_stop 2 = .ok (.invokevirtual 43, 3) := by decide +kernel
theorem dL_stop_5 : decode cL_stop 5 = .ok (.ireturn, 1) := by decide +kernel
theorem dL_stop_6 : decode cL_stop 6 = .ok (.astore_n 2, 1) := by decide +kernel
theorem dL_stop_7 : decode cL_stop 7 = .ok (.ldc 17, 2) := by decide +kernel
theorem dL_stop_9 : decode cL_stop 9 = .ok (.ireturn, 1) := by decide +kernel
theorem dL_stop_10 : decode cL_stop 10 = .ok (.astore_n 2, 1) := by decide +kernel
theorem dL_stop_11 : decode cL_stop 11 = .ok (.ldc 26, 2) := by decide +kernel
theorem dL_stop_13 : decode cL_stop 13 = .ok (.ireturn, 1) := by decide +kernel
set_option maxRecDepth 20000 in
theorem ggL_plays_X7_plays : GoodIn wsL_plays wsX7_plays := goodIn_ca (goodIn_ca (goodIn_r _ [9, 10, 11, 12, 13, 14, 8, 15, 16, 17, 18, 19, 20, 21, 22, 23, 24, 25, 26, 27, 28, 29, 30, 31, 32, 33, 34, 35, 36, 37, 38, 39, 40, 41, 42, 43] (by decide +kernel) (by decide +kernel)) (goodIn_sub (fun _ h => List.mem_cons_of_mem _ (List.mem_append_left _ (List.mem_append_right _ h))) (by decide +kernel))) (goodIn_sub (fun _ h => List.mem_cons_of_mem _ (List.mem_append_right _ h)) (by decide +kernel))
set_option maxRecDepth 20000 in
theorem gL_plays_X7_plays : GoodIn wsL_plays (wsV RL 49 RX7 yX7_plays wsX7_plays) := goodIn_app (goodIn_of _ (by decide +kernel)) ggL_plays_X7_plays
theorem dL_plays_0 : decode cL_plays 0 = .ok (.aload_n 0, 1) := by decide +kernel
theorem dL_plays_1 : decode cL_plays 1 = .ok (.iload_n 1, 1) := by decide +kernel
theorem dL_plays_2 : decode cL_plays 2 = .ok (.invokevirtual 49, 3) := by decide +kernel
theorem dL_plays_5 : decode cL_plays 5 = .ok (.ireturn, 1) := by decide +kernel
theorem dL_plays_6 : decode cL_plays 6 = .ok (.astore_n 2, 1) := by decide +kernel
theorem dL_plays_7 : decode cL_plays 7 = .ok (.ldc 17, 2) := by decide +kernel
theorem dL_plays_9 : decode cL_plays 9 = .ok (.ireturn, 1) := by decide +kernel
theorem dL_plays_10 : decode cL_plays 10 = .ok (.astore_n 2, 1) := by decide +kernel
theorem dL_plays_11 : decode cL_plays 11 = .ok (.ldc 26, 2) := by decide +kernel
theorem dL_plays_13 : decode cL_plays 13 = .ok (.ireturn, 1) := by decide +kernel
set_option maxRecDepth 20000 in
theorem ggL_playerAt_X7_playerAt : GoodIn wsL_playerAt wsX7_playerAt := goodIn_ca (goodIn_ca (goodIn_ca (goodIn_r _ [9, 10, 11, 12, 13, 14, 15, 16, 17, 18, 8, 19, 20, 21, 22, 23, 24, 25, 26, 27, 28, 29, 30, 31, 32, 33, 34, 35, 36, 37, 38] (by decide +kernel) (by decide +kernel)) (goodIn_sub (fun _ h => List.mem_cons_of_mem _ (List.mem_append_left _ (List.mem_append_left _ (List.mem_append_right _ h)))) (by decide +kernel))) (goodIn_sub (fun _ h => List.mem_cons_of_mem _ (List.mem_append_left _ (List.mem_append_right _ h))) (by decide +kernel))) (goodIn_sub (fun _ h => List.mem_cons_of_mem _ (List.mem_append_right _ h)) (by decide +kernel))
set_option maxRecDepth 20000 in
theorem gL_playerAt_X7_playerAt : GoodIn wsL_playerAt (wsV RL 52 RX7 yX7_playerAt wsX7_playerAt) := goodIn_app (goodIn_of _ (by decide +kernel)) ggL_playerAt_X7_playerAt
theorem dL_playerAt_0 : decode cL_playerAt 0 = .ok (.aload_n 0, 1) := by decide +kernel
theorem dL_playerAt_1 : decode cL_playerAt 1 = .ok (.iload_n 1, 1) := by decide +kernel
theorem dL_playerAt_2 : decode cL_playerAt 2 = .ok (.iload_n 2, 1) := by decide +kernel
theorem dL_playerAt_3 : decode cL_playerAt 3 = .ok (.invokevirtual 52, 3) := by decide +kernel
theorem dL_playerAt_6 : decode cL_playerAt 6 = .ok (.ireturn, 1) := by decide +kernel
theorem dL_playerAt_7 : decode cL_playerAt 7 = .ok (.astore_n 3, 1) := by decide +kernel
theorem dL_playerAt_8 : decode cL_playerAt 8 = .ok (.ldc 17, 2) := by decide +kernel
theorem dL_playerAt_10 : decode cL_playerAt 10 = .ok (.ireturn, 1) := by decide +kernel
theorem dL_playerAt_11 : decode cL_playerAt 11 = .ok (.astore_n 3, 1) := by decide +kernel
theorem dL_playerAt_12 : decode cL_playerAt 12 = .ok (.ldc 26, 2) := by decide +kernel
theorem dL_playerAt_14 : decode cL_playerAt 14 = .ok (.ireturn, 1) := by decide +kernel
set_option maxRecDepth 20000 in
theorem ggL_next_X7_next : GoodIn wsL_next wsX7_next := goodIn_ca (goodIn_ca (goodIn_ca (goodIn_r _ [9, 10, 11, 12, 13, 14, 8, 15, 16, 17, 18, 19, 20, 21, 22, 23, 24, 25, 26, 27, 28, 29, 30, 31, 32, 33, 34, 35, 36, 37, 38, 39, 40, 41, 42, 43, 44, 45, 46, 47, 48, 49, 50] (by decide +kernel) (by decide +kernel)) (goodIn_sub (fun _ h => List.mem_cons_of_mem _ (List.mem_append_left _ (List.mem_append_left _ (List.mem_append_right _ h)))) (by decide +kernel))) (goodIn_sub (fun _ h => List.mem_cons_of_mem _ (List.mem_append_left _ (List.mem_append_right _ h))) (by decide +kernel))) (goodIn_sub (fun _ h => List.mem_cons_of_mem _ (List.mem_append_right _ h)) (by decide +kernel))
set_option maxRecDepth 20000 in
theorem gL_next_X7_next : GoodIn wsL_next (wsV RL 55 RX7 yX7_next wsX7_next) := goodIn_app (goodIn_of _ (by decide +kernel)) ggL_next_X7_next
theorem dL_next_0 : decode cL_next 0 = .ok (.aload_n 0, 1) := by decide +kernel
theorem dL_next_1 : decode cL_next 1 = .ok (.iload_n 1, 1) := by decide +kernel
theorem dL_next_2 : decode cL_next 2 = .ok (.invokevirtual 55, 3) := by decide +kernel
theorem dL_next_5 : decode cL_next 5 = .ok (.ireturn, 1) := by decide +kernel
theorem dL_next_6 : decode cL_next 6 = .ok (.astore_n 2, 1) := by decide +kernel
theorem dL_next_7 : decode cL_next 7 = .ok (.ldc 17, 2) := by decide +kernel
theorem dL_next_9 : decode cL_next 9 = .ok (.ireturn, 1) := by decide +kernel
theorem dL_next_10 : decode cL_next 10 = .ok (.astore_n 2, 1) := by decide +kernel
theorem dL_next_11 : decode cL_next 11 = .ok (.ldc 26, 2) := by decide +kernel
theorem dL_next_13 : decode cL_next 13 = .ok (.ireturn, 1) := by decide +kernel
set_option maxRecDepth 20000 in
theorem ggL_count_X7_count : GoodIn wsL_count wsX7_count := goodIn_ca (goodIn_ca (goodIn_r _ [9, 10, 11, 12, 13, 14, 8, 15, 16, 17, 18, 19, 20, 21, 22, 23, 24, 25, 26, 27, 28, 29, 30, 31, 32, 33, 34, 35, 36, 37, 38, 39, 40, 41, 42, 43] (by decide +kernel) (by decide +kernel)) (goodIn_sub (fun _ h => List.mem_cons_of_mem _ (List.mem_append_left _ (List.mem_append_right _ h))) (by decide +kernel))) (goodIn_sub (fun _ h => List.mem_cons_of_mem _ (List.mem_append_right _ h)) (by decide +kernel))
set_option maxRecDepth 20000 in
theorem gL_count_X7_count : GoodIn wsL_count (wsV RL 58 RX7 yX7_count wsX7_count) := goodIn_app (goodIn_of _ (by decide +kernel)) ggL_count_X7_count
theorem dL_count_0 : decode cL_count 0 = .ok (.aload_n 0, 1) := by decide +kernel
theorem dL_count_1 : decode cL_count 1 = .ok (.iload_n 1, 1) := by decide +kernel
theorem dL_count_2 : decode cL_count 2 = .ok (.invokevirtual 58, 3) := by decide +kernel
theorem dL_count_5 : decode cL_count 5 = .ok (.ireturn, 1) := by decide +kernel
theorem dL_count_6 : decode cL_count 6 = .ok (.astore_n 2, 1) := by decide +kernel
theorem dL_count_7 : decode cL_count 7 = .ok (.ldc 17, 2) := by decide +kernel
theorem dL_count_9 : decode cL_count 9 = .ok (.ireturn, 1) := by decide +kernel
theorem dL_count_10 : decode cL_count 10 = .ok (.astore_n 2, 1) := by decide +kernel
theorem dL_count_11 : decode cL_count 11 = .ok (.ldc 26, 2) := by decide +kernel
theorem dL_count_13 : decode cL_count 13 = .ok (.ireturn, 1) := by decide +kernel
set_option maxRecDepth 20000 in
theorem ggL_waits_X7_waits : GoodIn wsL_waits wsX7_waits := goodIn_ca (goodIn_ca (goodIn_r _ [9, 10, 11, 12, 13, 14, 15, 8, 16, 17, 18, 19, 20, 21, 22, 23, 24, 25, 26, 27, 28, 29, 30, 31, 32, 33, 34, 35, 36, 37, 38, 39, 40, 41, 42, 43, 44] (by decide +kernel) (by decide +kernel)) (goodIn_sub (fun _ h => List.mem_cons_of_mem _ (List.mem_append_left _ (List.mem_append_right _ h))) (by decide +kernel))) (goodIn_sub (fun _ h => List.mem_cons_of_mem _ (List.mem_append_right _ h)) (by decide +kernel))
set_option maxRecDepth 20000 in
theorem gL_waits_X7_waits : GoodIn wsL_waits (wsV RL 61 RX7 yX7_waits wsX7_waits) := goodIn_app (goodIn_of _ (by decide +kernel)) ggL_waits_X7_waits
theorem dL_waits_0 : decode cL_waits 0 = .ok (.aload_n 0, 1) := by decide +kernel
theorem dL_waits_1 : decode cL_waits 1 = .ok (.iload_n 1, 1) := by decide +kernel
theorem dL_waits_2 : decode cL_waits 2 = .ok (.invokevirtual 61, 3) := by decide +kernel
theorem dL_waits_5 : decode cL_waits 5 = .ok (.ireturn, 1) := by decide +kernel
theorem dL_waits_6 : decode cL_waits 6 = .ok (.astore_n 2, 1) := by decide +kernel
theorem dL_waits_7 : decode cL_waits 7 = .ok (.ldc 17, 2) := by decide +kernel
theorem dL_waits_9 : decode cL_waits 9 = .ok (.ireturn, 1) := by decide +kernel
theorem dL_waits_10 : decode cL_waits 10 = .ok (.astore_n 2, 1) := by decide +kernel
theorem dL_waits_11 : decode cL_waits 11 = .ok (.ldc 26, 2) := by decide +kernel
theorem dL_waits_13 : decode cL_waits 13 = .ok (.ireturn, 1) := by decide +kernel
set_option maxRecDepth 20000 in
theorem ggL_tick_X7_tick : GoodIn wsL_tick wsX7_tick := goodIn_ca (goodIn_ca (goodIn_r _ [7, 8, 9, 10, 11, 12, 6, 13, 14, 15, 16, 17, 18, 19, 20, 21, 22, 23, 24, 25, 26, 27, 28, 29, 30, 31, 32, 33, 34, 35, 36, 37, 38, 39, 40, 41, 42, 43, 44, 45, 46, 47, 48, 49, 50, 51, 52, 53, 54, 55, 56, 57, 58, 59, 60, 61, 62, 63, 64, 65, 66, 67, 68, 69, 70, 71, 72, 73, 74, 75, 76, 77, 78, 79, 80, 81, 82, 83, 84, 85, 86, 87, 88, 89, 90, 91, 92, 93, 94, 95, 96, 97, 98, 99, 100, 101, 102, 103, 104, 105, 106, 107, 108, 109, 110, 111, 112, 113, 114, 115, 116, 117, 118, 119, 120, 121, 122, 123, 124, 125, 126, 127, 128, 129, 130, 131, 132, 133, 134, 135, 136, 137, 138, 139, 140, 141, 142, 143, 144, 145, 146, 147, 148, 149, 150, 151, 152, 153, 154, 155, 156, 157, 158, 159, 160, 161, 162, 163, 164, 165, 166, 167, 168, 169, 170, 171, 172, 173, 174, 175, 176, 177, 178, 179, 180, 181, 182, 183, 184, 185, 186, 187, 188, 189, 190, 191, 192, 193, 194, 195, 196, 197, 198, 199, 200, 201, 202, 203, 204] (by decide +kernel) (by decide +kernel)) (goodIn_sub (fun _ h => List.mem_cons_of_mem _ (List.mem_append_left _ (List.mem_append_right _ h))) (by decide +kernel))) (goodIn_sub (fun _ h => List.mem_cons_of_mem _ (List.mem_append_right _ h)) (by decide +kernel))
set_option maxRecDepth 20000 in
theorem gL_tick_X7_tick : GoodIn wsL_tick (wsV RL 64 RX7 yX7_tick wsX7_tick) := goodIn_app (goodIn_of _ (by decide +kernel)) ggL_tick_X7_tick
theorem dL_tick_0 : decode cL_tick 0 = .ok (.aload_n 0, 1) := by decide +kernel
theorem dL_tick_1 : decode cL_tick 1 = .ok (.iload_n 1, 1) := by decide +kernel
theorem dL_tick_2 : decode cL_tick 2 = .ok (.invokevirtual 64, 3) := by decide +kernel
theorem dL_tick_5 : decode cL_tick 5 = .ok (.ireturn, 1) := by decide +kernel
theorem dL_tick_6 : decode cL_tick 6 = .ok (.astore_n 2, 1) := by decide +kernel
theorem dL_tick_7 : decode cL_tick 7 = .ok (.ldc 17, 2) := by decide +kernel
theorem dL_tick_9 : decode cL_tick 9 = .ok (.ireturn, 1) := by decide +kernel
set_option maxRecDepth 20000 in
theorem ggL_slide_X7_slide : GoodIn wsL_slide wsX7_slide := goodIn_ca (goodIn_ca (goodIn_r _ [9, 10, 11, 12, 13, 14, 15, 16, 8, 17, 18, 19, 20, 21, 22, 23, 24, 25, 26, 27, 28, 29, 30, 31, 32, 33, 34] (by decide +kernel) (by decide +kernel)) (goodIn_sub (fun _ h => List.mem_cons_of_mem _ (List.mem_append_left _ (List.mem_append_right _ h))) (by decide +kernel))) (goodIn_sub (fun _ h => List.mem_cons_of_mem _ (List.mem_append_right _ h)) (by decide +kernel))
set_option maxRecDepth 20000 in
theorem gL_slide_X7_slide : GoodIn wsL_slide (wsV RL 67 RX7 yX7_slide wsX7_slide) := goodIn_app (goodIn_of _ (by decide +kernel)) ggL_slide_X7_slide
theorem dL_slide_0 : decode cL_slide 0 = .ok (.aload_n 0, 1) := by decide +kernel
theorem dL_slide_1 : decode cL_slide 1 = .ok (.iload_n 1, 1) := by decide +kernel
theorem dL_slide_2 : decode cL_slide 2 = .ok (.invokevirtual 67, 3) := by decide +kernel
theorem dL_slide_5 : decode cL_slide 5 = .ok (.ireturn, 1) := by decide +kernel
theorem dL_slide_6 : decode cL_slide 6 = .ok (.astore_n 2, 1) := by decide +kernel
theorem dL_slide_7 : decode cL_slide 7 = .ok (.ldc 17, 2) := by decide +kernel
theorem dL_slide_9 : decode cL_slide 9 = .ok (.ireturn, 1) := by decide +kernel
theorem dL_slide_10 : decode cL_slide 10 = .ok (.astore_n 2, 1) := by decide +kernel
theorem dL_slide_11 : decode cL_slide 11 = .ok (.ldc 26, 2) := by decide +kernel
theorem dL_slide_13 : decode cL_slide 13 = .ok (.ireturn, 1) := by decide +kernel
set_option maxRecDepth 20000 in
theorem ggL_meanSeen_X7_meanSeen : GoodIn wsL_meanSeen wsX7_meanSeen := goodIn_ca (goodIn_ca (goodIn_r _ [7, 8, 9, 10, 11, 12, 13, 14, 15, 16, 17, 18, 19, 20, 21, 22, 23, 24, 25] (by decide +kernel) (by decide +kernel)) (goodIn_sub (fun _ h => List.mem_cons_of_mem _ (List.mem_append_left _ (List.mem_append_right _ h))) (by decide +kernel))) (goodIn_sub (fun _ h => List.mem_cons_of_mem _ (List.mem_append_right _ h)) (by decide +kernel))
set_option maxRecDepth 20000 in
theorem gL_meanSeen_X7_meanSeen : GoodIn wsL_meanSeen (wsV RL 70 RX7 yX7_meanSeen wsX7_meanSeen) := goodIn_app (goodIn_of _ (by decide +kernel)) ggL_meanSeen_X7_meanSeen
theorem dL_meanSeen_0 : decode cL_meanSeen 0 = .ok (.aload_n 0, 1) := by decide +kernel
theorem dL_meanSeen_1 : decode cL_meanSeen 1 = .ok (.invokevirtual 70, 3) := by decide +kernel
theorem dL_meanSeen_4 : decode cL_meanSeen 4 = .ok (.dreturn, 1) := by decide +kernel
theorem dL_meanSeen_5 : decode cL_meanSeen 5 = .ok (.astore_n 1, 1) := by decide +kernel
theorem dL_meanSeen_6 : decode cL_meanSeen 6 = .ok (.ldc2_w 76, 3) := by decide +kernel
theorem dL_meanSeen_9 : decode cL_meanSeen 9 = .ok (.dreturn, 1) := by decide +kernel
set_option maxRecDepth 20000 in
theorem ggL_in_L_cell : GoodIn wsL_in wsL_cell := goodIn_ca (goodIn_r _ [5, 6, 7] (by decide +kernel) (by decide +kernel)) (goodIn_sub (fun _ h => List.mem_cons_of_mem _ (List.mem_append_right _ h)) (by decide +kernel))
set_option maxRecDepth 20000 in
theorem gL_in_L_cell : GoodIn wsL_in (va_wsS RL 78 yL_cell wsL_cell) := goodIn_app (goodIn_of _ (by decide +kernel)) ggL_in_L_cell
theorem dL_in_0 : decode cL_in 0 = .ok (.aload_n 0, 1) := by decide +kernel
theorem dL_in_1 : decode cL_in 1 = .ok (.iload_n 1, 1) := by decide +kernel
theorem dL_in_2 : decode cL_in 2 = .ok (.invokestatic 78, 3) := by decide +kernel
theorem dL_in_5 : decode cL_in 5 = .ok (.ldc 84, 2) := by decide +kernel
theorem dL_in_7 : decode cL_in 7 = .ok (.iand, 1) := by decide +kernel
theorem dL_in_8 : decode cL_in 8 = .ok (.iload_n 2, 1) := by decide +kernel
theorem dL_in_9 : decode cL_in 9 = .ok (.irem, 1) := by decide +kernel
theorem dL_in_10 : decode cL_in 10 = .ok (.ireturn, 1) := by decide +kernel
theorem dL_copy_0 : decode cL_copy 0 = .ok (.iconst 0, 1) := by decide +kernel
theorem dL_copy_1 : decode cL_copy 1 = .ok (.istore_n 3, 1) := by decide +kernel
theorem dL_copy_2 : decode cL_copy 2 = .ok (.iload_n 3, 1) := by decide +kernel
theorem dL_copy_3 : decode cL_copy 3 = .ok (.bipush 48, 2) := by decide +kernel
theorem dL_copy_5 : decode cL_copy 5 = .ok (.if_icmp .ge 19, 3) := by decide +kernel
theorem dL_copy_8 : decode cL_copy 8 = .ok (.aload_n 0, 1) := by decide +kernel
theorem dL_copy_9 : decode cL_copy 9 = .ok (.iload_n 2, 1) := by decide +kernel
theorem dL_copy_10 : decode cL_copy 10 = .ok (.iload_n 3, 1) := by decide +kernel
theorem dL_copy_11 : decode cL_copy 11 = .ok (.iadd, 1) := by decide +kernel
theorem dL_copy_12 : decode cL_copy 12 = .ok (.aload_n 0, 1) := by decide +kernel
theorem dL_copy_13 : decode cL_copy 13 = .ok (.iload_n 1, 1) := by decide +kernel
theorem dL_copy_14 : decode cL_copy 14 = .ok (.iload_n 3, 1) := by decide +kernel
theorem dL_copy_15 : decode cL_copy 15 = .ok (.iadd, 1) := by decide +kernel
theorem dL_copy_16 : decode cL_copy 16 = .ok (.iaload, 1) := by decide +kernel
theorem dL_copy_17 : decode cL_copy 17 = .ok (.iastore, 1) := by decide +kernel
theorem dL_copy_18 : decode cL_copy 18 = .ok (.iinc 3 1, 3) := by decide +kernel
theorem dL_copy_21 : decode cL_copy 21 = .ok (.goto (-19), 3) := by decide +kernel
theorem dL_copy_24 : decode cL_copy 24 = .ok (.aload_n 0, 1) := by decide +kernel
theorem dL_copy_25 : decode cL_copy 25 = .ok (.iload_n 2, 1) := by decide +kernel
theorem dL_copy_26 : decode cL_copy 26 = .ok (.bipush 48, 2) := by decide +kernel
theorem dL_copy_28 : decode cL_copy 28 = .ok (.iadd, 1) := by decide +kernel
theorem dL_copy_29 : decode cL_copy 29 = .ok (.iload_n 1, 1) := by decide +kernel
theorem dL_copy_30 : decode cL_copy 30 = .ok (.bipush 50, 2) := by decide +kernel
theorem dL_copy_32 : decode cL_copy 32 = .ok (.idiv, 1) := by decide +kernel
theorem dL_copy_33 : decode cL_copy 33 = .ok (.iastore, 1) := by decide +kernel
theorem dL_copy_34 : decode cL_copy 34 = .ok (.aload_n 0, 1) := by decide +kernel
theorem dL_copy_35 : decode cL_copy 35 = .ok (.iload_n 2, 1) := by decide +kernel
theorem dL_copy_36 : decode cL_copy 36 = .ok (.bipush 49, 2) := by decide +kernel
theorem dL_copy_38 : decode cL_copy 38 = .ok (.iadd, 1) := by decide +kernel
theorem dL_copy_39 : decode cL_copy 39 = .ok (.iconst 0, 1) := by decide +kernel
theorem dL_copy_40 : decode cL_copy 40 = .ok (.iastore, 1) := by decide +kernel
theorem dL_copy_41 : decode cL_copy 41 = .ok (.return_, 1) := by decide +kernel
set_option maxRecDepth 20000 in
theorem ggL_turn_L_copy : GoodIn wsL_turn wsL_copy := goodIn_ca (goodIn_r _ [4] (by decide +kernel) (by decide +kernel)) (goodIn_sub (fun _ h => List.mem_cons_of_mem _ (List.mem_append_right _ h)) (by decide +kernel))
set_option maxRecDepth 20000 in
theorem gL_turn_L_copy : GoodIn wsL_turn (va_wsS RL 85 yL_copy wsL_copy) := goodIn_app (goodIn_of _ (by decide +kernel)) ggL_turn_L_copy
theorem dL_turn_0 : decode cL_turn 0 = .ok (.aload_n 1, 1) := by decide +kernel
theorem dL_turn_1 : decode cL_turn 1 = .ok (.iconst 2, 1) := by decide +kernel
theorem dL_turn_2 : decode cL_turn 2 = .ok (.iaload, 1) := by decide +kernel
theorem dL_turn_3 : decode cL_turn 3 = .ok (.ifCond .le 11, 3) := by decide +kernel
theorem dL_turn_6 : decode cL_turn 6 = .ok (.aload_n 1, 1) := by decide +kernel
theorem dL_turn_7 : decode cL_turn 7 = .ok (.iconst 2, 1) := by decide +kernel
theorem dL_turn_8 : decode cL_turn 8 = .ok (.dup2, 1) := by decide +kernel
theorem dL_turn_9 : decode cL_turn 9 = .ok (.iaload, 1) := by decide +kernel
theorem dL_turn_10 : decode cL_turn 10 = .ok (.iconst 1, 1) := by decide +kernel
theorem dL_turn_11 : decode cL_turn 11 = .ok (.isub, 1) := by decide +kernel
theorem dL_turn_12 : decode cL_turn 12 = .ok (.iastore, 1) := by decide +kernel
theorem dL_turn_13 : decode cL_turn 13 = .ok (.return_, 1) := by decide +kernel
theorem dL_turn_14 : decode cL_turn 14 = .ok (.iconst 0, 1) := by decide +kernel
theorem dL_turn_15 : decode cL_turn 15 = .ok (.istore_n 2, 1) := by decide +kernel
theorem dL_turn_16 : decode cL_turn 16 = .ok (.iload_n 2, 1) := by decide +kernel
theorem dL_turn_17 : decode cL_turn 17 = .ok (.bipush 8, 2) := by decide +kernel
theorem dL_turn_19 : decode cL_turn 19 = .ok (.if_icmp .ge 291, 3) := by decide +kernel
theorem dL_turn_22 : decode cL_turn 22 = .ok (.sipush 1000, 3) := by decide +kernel
theorem dL_turn_25 : decode cL_turn 25 = .ok (.bipush 50, 2) := by decide +kernel
theorem dL_turn_27 : decode cL_turn 27 = .ok (.aload_n 1, 1) := by decide +kernel
theorem dL_turn_28 : decode cL_turn 28 = .ok (.iconst 0, 1) := by decide +kernel
theorem dL_turn_29 : decode cL_turn 29 = .ok (.iaload, 1) := by decide +kernel
theorem dL_turn_30 : decode cL_turn 30 = .ok (.iconst 1, 1) := by decide +kernel
theorem dL_turn_31 : decode cL_turn 31 = .ok (.isub, 1) := by decide +kernel
theorem dL_turn_32 : decode cL_turn 32 = .ok (.imul, 1) := by decide +kernel
theorem dL_turn_33 : decode cL_turn 33 = .ok (.iadd, 1) := by decide +kernel
theorem dL_turn_34 : decode cL_turn 34 = .ok (.istore_n 3, 1) := by decide +kernel
theorem dL_turn_35 : decode cL_turn 35 = .ok (.aload_n 0, 1) := by decide +kernel
theorem dL_turn_36 : decode cL_turn 36 = .ok (.iload_n 3, 1) := by decide +kernel
theorem dL_turn_37 : decode cL_turn 37 = .ok (.bipush 49, 2) := by decide +kernel
theorem dL_turn_39 : decode cL_turn 39 = .ok (.iadd, 1) := by decide +kernel
theorem dL_turn_40 : decode cL_turn 40 = .ok (.iaload, 1) := by decide +kernel
theorem dL_turn_41 : decode cL_turn 41 = .ok (.istore 4, 2) := by decide +kernel
theorem dL_turn_43 : decode cL_turn 43 = .ok (.iload 4, 2) := by decide +kernel
theorem dL_turn_45 : decode cL_turn 45 = .ok (.aload_n 0, 1) := by decide +kernel
theorem dL_turn_46 : decode cL_turn 46 = .ok (.iload_n 3, 1) := by decide +kernel
theorem dL_turn_47 : decode cL_turn 47 = .ok (.iaload, 1) := by decide +kernel
theorem dL_turn_48 : decode cL_turn 48 = .ok (.if_icmp .lt 20, 3) := by decide +kernel
theorem dL_turn_51 : decode cL_turn 51 = .ok (.aload_n 1, 1) := by decide +kernel
theorem dL_turn_52 : decode cL_turn 52 = .ok (.iconst 0, 1) := by decide +kernel
theorem dL_turn_53 : decode cL_turn 53 = .ok (.iaload, 1) := by decide +kernel
theorem dL_turn_54 : decode cL_turn 54 = .ok (.iconst 1, 1) := by decide +kernel
theorem dL_turn_55 : decode cL_turn 55 = .ok (.if_icmp .le 13, 3) := by decide +kernel
theorem dL_turn_58 : decode cL_turn 58 = .ok (.aload_n 1, 1) := by decide +kernel
theorem dL_turn_59 : decode cL_turn 59 = .ok (.iconst 0, 1) := by decide +kernel
theorem dL_turn_60 : decode cL_turn 60 = .ok (.dup2, 1) := by decide +kernel
theorem dL_turn_61 : decode cL_turn 61 = .ok (.iaload, 1) := by decide +kernel
theorem dL_turn_62 : decode cL_turn 62 = .ok (.iconst 1, 1) := by decide +kernel
theorem dL_turn_63 : decode cL_turn 63 = .ok (.isub, 1) := by decide +kernel
theorem dL_turn_64 : decode cL_turn 64 = .ok (.iastore, 1) := by decide +kernel
theorem dL_turn_65 : decode cL_turn 65 = .ok (.goto (-49), 3) := by decide +kernel
theorem dL_turn_68 : decode cL_turn 68 = .ok (.iinc 2 1, 3) := by decide +kernel
theorem dL_turn_71 : decode cL_turn 71 = .ok (.aload_n 1, 1) := by decide +kernel
theorem dL_turn_72 : decode cL_turn 72 = .ok (.iconst 5, 1) := by decide +kernel
theorem dL_turn_73 : decode cL_turn 73 = .ok (.dup2, 1) := by decide +kernel
theorem dL_turn_74 : decode cL_turn 74 = .ok (.iaload, 1) := by decide +kernel
theorem dL_turn_75 : decode cL_turn 75 = .ok (.iconst 1, 1) := by decide +kernel
theorem dL_turn_76 : decode cL_turn 76 = .ok (.iadd, 1) := by decide +kernel
theorem dL_turn_77 : decode cL_turn 77 = .ok (.iastore, 1) := by decide +kernel
theorem dL_turn_78 : decode cL_turn 78 = .ok (.iload 4, 2) := by decide +kernel
theorem dL_turn_80 : decode cL_turn 80 = .ok (.aload_n 0, 1) := by decide +kernel
theorem dL_turn_81 : decode cL_turn 81 = .ok (.iload_n 3, 1) := by decide +kernel
theorem dL_turn_82 : decode cL_turn 82 = .ok (.iaload, 1) := by decide +kernel
theorem dL_turn_83 : decode cL_turn 83 = .ok (.if_icmp .lt 20, 3) := by decide +kernel
theorem dL_turn_86 : decode cL_turn 86 = .ok (.aload_n 0, 1) := by decide +kernel
theorem dL_turn_87 : decode cL_turn 87 = .ok (.bipush 50, 2) := by decide +kernel
theorem dL_turn_89 : decode cL_turn 89 = .ok (.aload_n 0, 1) := by decide +kernel
theorem dL_turn_90 : decode cL_turn 90 = .ok (.iload_n 3, 1) := by decide +kernel
theorem dL_turn_91 : decode cL_turn 91 = .ok (.bipush 48, 2) := by decide +kernel
theorem dL_turn_93 : decode cL_turn 93 = .ok (.iadd, 1) := by decide +kernel
theorem dL_turn_94 : decode cL_turn 94 = .ok (.iaload, 1) := by decide +kernel
theorem dL_turn_95 : decode cL_turn 95 = .ok (.imul, 1) := by decide +kernel
theorem dL_turn_96 : decode cL_turn 96 = .ok (.iload_n 3, 1) := by decide +kernel
theorem dL_turn_97 : decode cL_turn 97 = .ok (.invokestatic 85, 3) := by decide +kernel
theorem dL_turn_100 : decode cL_turn 100 = .ok (.goto (-84), 3) := by decide +kernel
theorem dL_turn_103 : decode cL_turn 103 = .ok (.aload_n 0, 1) := by decide +kernel
theorem dL_turn_104 : decode cL_turn 104 = .ok (.iload_n 3, 1) := by decide +kernel
theorem dL_turn_105 : decode cL_turn 105 = .ok (.iconst 1, 1) := by decide +kernel
theorem dL_turn_106 : decode cL_turn 106 = .ok (.iadd, 1) := by decide +kernel
theorem dL_turn_107 : decode cL_turn 107 = .ok (.iconst 2, 1) := by decide +kernel
theorem dL_turn_108 : decode cL_turn 108 = .ok (.iload 4, 2) := by decide +kernel
theorem dL_turn_110 : decode cL_turn 110 = .ok (.imul, 1) := by decide +kernel
theorem dL_turn_111 : decode cL_turn 111 = .ok (.iadd, 1) := by decide +kernel
theorem dL_turn_112 : decode cL_turn 112 = .ok (.iaload, 1) := by decide +kernel
theorem dL_turn_113 : decode cL_turn 113 = .ok (.istore 5, 2) := by decide +kernel
theorem dL_turn_115 : decode cL_turn 115 = .ok (.aload_n 0, 1) := by decide +kernel
theorem dL_turn_116 : decode cL_turn 116 = .ok (.iload_n 3, 1) := by decide +kernel
theorem dL_turn_117 : decode cL_turn 117 = .ok (.iconst 2, 1) := by decide +kernel
theorem dL_turn_118 : decode cL_turn 118 = .ok (.iadd, 1) := by decide +kernel
theorem dL_turn_119 : decode cL_turn 119 = .ok (.iconst 2, 1) := by decide +kernel
theorem dL_turn_120 : decode cL_turn 120 = .ok (.iload 4, 2) := by decide +kernel
theorem dL_turn_122 : decode cL_turn 122 = .ok (.imul, 1) := by decide +kernel
theorem dL_turn_123 : decode cL_turn 123 = .ok (.iadd, 1) := by decide +kernel
theorem dL_turn_124 : decode cL_turn 124 = .ok (.iaload, 1) := by decide +kernel
theorem dL_turn_125 : decode cL_turn 125 = .ok (.istore 6, 2) := by decide +kernel
theorem dL_turn_127 : decode cL_turn 127 = .ok (.aload_n 0, 1) := by decide +kernel
theorem dL_turn_128 : decode cL_turn 128 = .ok (.iload_n 3, 1) := by decide +kernel
theorem dL_turn_129 : decode cL_turn 129 = .ok (.bipush 49, 2) := by decide +kernel
theorem dL_turn_131 : decode cL_turn 131 = .ok (.iadd, 1) := by decide +kernel
theorem dL_turn_132 : decode cL_turn 132 = .ok (.dup2, 1) := by decide +kernel
theorem dL_turn_133 : decode cL_turn 133 = .ok (.iaload, 1) := by decide +kernel
theorem dL_turn_134 : decode cL_turn 134 = .ok (.iconst 1, 1) := by decide +kernel
theorem dL_turn_135 : decode cL_turn 135 = .ok (.iadd, 1) := by decide +kernel
theorem dL_turn_136 : decode cL_turn 136 = .ok (.iastore, 1) := by decide +kernel
theorem dL_turn_137 : decode cL_turn 137 = .ok (.iload 5, 2) := by decide +kernel
theorem dL_turn_139 : decode cL_turn 139 = .ok (.bipush 115, 2) := by decide +kernel
theorem dL_turn_141 : decode cL_turn 141 = .ok (.if_icmp .ne 16, 3) := by decide +kernel
theorem dL_turn_144 : decode cL_turn 144 = .ok (.aload_n 1, 1) := by decide +kernel
theorem dL_turn_145 : decode cL_turn 145 = .ok (.iconst 3, 1) := by decide +kernel
theorem dL_turn_146 : decode cL_turn 146 = .ok (.iload 6, 2) := by decide +kernel
theorem dL_turn_148 : decode cL_turn 148 = .ok (.iastore, 1) := by decide +kernel
theorem dL_turn_149 : decode cL_turn 149 = .ok (.aload_n 1, 1) := by decide +kernel
theorem dL_turn_150 : decode cL_turn 150 = .ok (.iconst 4, 1) := by decide +kernel
theorem dL_turn_151 : decode cL_turn 151 = .ok (.dup2, 1) := by decide +kernel
theorem dL_turn_152 : decode cL_turn 152 = .ok (.iaload, 1) := by decide +kernel
theorem dL_turn_153 : decode cL_turn 153 = .ok (.iconst 1, 1) := by decide +kernel
theorem dL_turn_154 : decode cL_turn 154 = .ok (.iadd, 1) := by decide +kernel
theorem dL_turn_155 : decode cL_turn 155 = .ok (.iastore, 1) := by decide +kernel
theorem dL_turn_156 : decode cL_turn 156 = .ok (.return_, 1) := by decide +kernel
theorem dL_turn_157 : decode cL_turn 157 = .ok (.iload 5, 2) := by decide +kernel
theorem dL_turn_159 : decode cL_turn 159 = .ok (.bipush 119, 2) := by decide +kernel
theorem dL_turn_161 : decode cL_turn 161 = .ok (.if_icmp .ne 11, 3) := by decide +kernel
theorem dL_turn_164 : decode cL_turn 164 = .ok (.aload_n 1, 1) := by decide +kernel
theorem dL_turn_165 : decode cL_turn 165 = .ok (.iconst 2, 1) := by decide +kernel
theorem dL_turn_166 : decode cL_turn 166 = .ok (.iload 6, 2) := by decide +kernel
theorem dL_turn_168 : decode cL_turn 168 = .ok (.iconst 1, 1) := by decide +kernel
theorem dL_turn_169 : decode cL_turn 169 = .ok (.isub, 1) := by decide +kernel
theorem dL_turn_170 : decode cL_turn 170 = .ok (.iastore, 1) := by decide +kernel
theorem dL_turn_171 : decode cL_turn 171 = .ok (.return_, 1) := by decide +kernel
theorem dL_turn_172 : decode cL_turn 172 = .ok (.iload 5, 2) := by decide +kernel
theorem dL_turn_174 : decode cL_turn 174 = .ok (.bipush 103, 2) := by decide +kernel
theorem dL_turn_176 : decode cL_turn 176 = .ok (.if_icmp .eq 23, 3) := by decide +kernel
theorem dL_turn_179 : decode cL_turn 179 = .ok (.iload 5, 2) := by decide +kernel
theorem dL_turn_181 : decode cL_turn 181 = .ok (.bipush 118, 2) := by decide +kernel
theorem dL_turn_183 : decode cL_turn 183 = .ok (.if_icmp .eq 16, 3) := by decide +kernel
theorem dL_turn_186 : decode cL_turn 186 = .ok (.iload 5, 2) := by decide +kernel
theorem dL_turn_188 : decode cL_turn 188 = .ok (.bipush 108, 2) := by decide +kernel
theorem dL_turn_190 : decode cL_turn 190 = .ok (.if_icmp .ne 13, 3) := by decide +kernel
theorem dL_turn_193 : decode cL_turn 193 = .ok (.aload_n 1, 1) := by decide +kernel
theorem dL_turn_194 : decode cL_turn 194 = .ok (.iconst 1, 1) := by decide +kernel
theorem dL_turn_195 : decode cL_turn 195 = .ok (.iaload, 1) := by decide +kernel
theorem dL_turn_196 : decode cL_turn 196 = .ok (.ifCond .ne 7, 3) := by decide +kernel
theorem dL_turn_199 : decode cL_turn 199 = .ok (.iconst 1, 1) := by decide +kernel
theorem dL_turn_200 : decode cL_turn 200 = .ok (.goto 4, 3) := by decide +kernel
theorem dL_turn_203 : decode cL_turn 203 = .ok (.iconst 0, 1) := by decide +kernel
theorem dL_turn_204 : decode cL_turn 204 = .ok (.istore 7, 2) := by decide +kernel
theorem dL_turn_206 : decode cL_turn 206 = .ok (.aload_n 1, 1) := by decide +kernel
theorem dL_turn_207 : decode cL_turn 207 = .ok (.iconst 1, 1) := by decide +kernel
theorem dL_turn_208 : decode cL_turn 208 = .ok (.iload 5, 2) := by decide +kernel
theorem dL_turn_210 : decode cL_turn 210 = .ok (.bipush 99, 2) := by decide +kernel
theorem dL_turn_212 : decode cL_turn 212 = .ok (.if_icmp .ne 8, 3) := by decide +kernel
theorem dL_turn_215 : decode cL_turn 215 = .ok (.iload 6, 2) := by decide +kernel
theorem dL_turn_217 : decode cL_turn 217 = .ok (.goto 27, 3) := by decide +kernel
theorem dL_turn_220 : decode cL_turn 220 = .ok (.iload 5, 2) := by decide +kernel
theorem dL_turn_222 : decode cL_turn 222 = .ok (.bipush 108, 2) := by decide +kernel
theorem dL_turn_224 : decode cL_turn 224 = .ok (.if_icmp .ne 17, 3) := by decide +kernel
theorem dL_turn_227 : decode cL_turn 227 = .ok (.aload_n 1, 1) := by decide +kernel
theorem dL_turn_228 : decode cL_turn 228 = .ok (.iconst 1, 1) := by decide +kernel
theorem dL_turn_229 : decode cL_turn 229 = .ok (.iaload, 1) := by decide +kernel
theorem dL_turn_230 : decode cL_turn 230 = .ok (.ifCond .le 11, 3) := by decide +kernel
theorem dL_turn_233 : decode cL_turn 233 = .ok (.aload_n 1, 1) := by decide +kernel
theorem dL_turn_234 : decode cL_turn 234 = .ok (.iconst 1, 1) := by decide +kernel
theorem dL_turn_235 : decode cL_turn 235 = .ok (.iaload, 1) := by decide +kernel
theorem dL_turn_236 : decode cL_turn 236 = .ok (.iconst 1, 1) := by decide +kernel
theorem dL_turn_237 : decode cL_turn 237 = .ok (.isub, 1) := by decide +kernel
theorem dL_turn_238 : decode cL_turn 238 = .ok (.goto 6, 3) := by decide +kernel
theorem dL_turn_241 : decode cL_turn 241 = .ok (.aload_n 1, 1) := by decide +kernel
theorem dL_turn_242 : decode cL_turn 242 = .ok (.iconst 1, 1) := by decide +kernel
theorem dL_turn_243 : decode cL_turn 243 = .ok (.iaload, 1) := by decide +kernel
theorem dL_turn_244 : decode cL_turn 244 = .ok (.iastore, 1) := by decide +kernel
theorem dL_turn_245 : decode cL_turn 245 = .ok (.aload_n 0, 1) := by decide +kernel
theorem dL_turn_246 : decode cL_turn 246 = .ok (.iload_n 3, 1) := by decide +kernel
theorem dL_turn_247 : decode cL_turn 247 = .ok (.bipush 49, 2) := by decide +kernel
theorem dL_turn_249 : decode cL_turn 249 = .ok (.iadd, 1) := by decide +kernel
theorem dL_turn_250 : decode cL_turn 250 = .ok (.iload 7, 2) := by decide +kernel
theorem dL_turn_252 : decode cL_turn 252 = .ok (.ifCond .eq 8, 3) := by decide +kernel
theorem dL_turn_255 : decode cL_turn 255 = .ok (.iload 6, 2) := by decide +kernel
theorem dL_turn_257 : decode cL_turn 257 = .ok (.goto 9, 3) := by decide +kernel
theorem dL_turn_260 : decode cL_turn 260 = .ok (.aload_n 0, 1) := by decide +kernel
theorem dL_turn_261 : decode cL_turn 261 = .ok (.iload_n 3, 1) := by decide +kernel
theorem dL_turn_262 : decode cL_turn 262 = .ok (.bipush 49, 2) := by decide +kernel
theorem dL_turn_264 : decode cL_turn 264 = .ok (.iadd, 1) := by decide +kernel
theorem dL_turn_265 : decode cL_turn 265 = .ok (.iaload, 1) := by decide +kernel
theorem dL_turn_266 : decode cL_turn 266 = .ok (.iastore, 1) := by decide +kernel
theorem dL_turn_267 : decode cL_turn 267 = .ok (.iload 5, 2) := by decide +kernel
theorem dL_turn_269 : decode cL_turn 269 = .ok (.bipush 112, 2) := by decide +kernel
theorem dL_turn_271 : decode cL_turn 271 = .ok (.if_icmp .ne 36, 3) := by decide +kernel
theorem dL_turn_274 : decode cL_turn 274 = .ok (.iload 6, 2) := by decide +kernel
theorem dL_turn_276 : decode cL_turn 276 = .ok (.iconst 3, 1) := by decide +kernel
theorem dL_turn_277 : decode cL_turn 277 = .ok (.if_icmp .ge 30, 3) := by decide +kernel
theorem dL_turn_280 : decode cL_turn 280 = .ok (.aload_n 1, 1) := by decide +kernel
theorem dL_turn_281 : decode cL_turn 281 = .ok (.iconst 0, 1) := by decide +kernel
theorem dL_turn_282 : decode cL_turn 282 = .ok (.iaload, 1) := by decide +kernel
theorem dL_turn_283 : decode cL_turn 283 = .ok (.iconst 4, 1) := by decide +kernel
theorem dL_turn_284 : decode cL_turn 284 = .ok (.if_icmp .ge 23, 3) := by decide +kernel
theorem dL_turn_287 : decode cL_turn 287 = .ok (.aload_n 0, 1) := by decide +kernel
theorem dL_turn_288 : decode cL_turn 288 = .ok (.bipush 50, 2) := by decide +kernel
theorem dL_turn_290 : decode cL_turn 290 = .ok (.iload 6, 2) := by decide +kernel
theorem dL_turn_292 : decode cL_turn 292 = .ok (.imul, 1) := by decide +kernel
theorem dL_turn_293 : decode cL_turn 293 = .ok (.iload_n 3, 1) := by decide +kernel
theorem dL_turn_294 : decode cL_turn 294 = .ok (.bipush 50, 2) := by decide +kernel
theorem dL_turn_296 : decode cL_turn 296 = .ok (.iadd, 1) := by decide +kernel
theorem dL_turn_297 : decode cL_turn 297 = .ok (.invokestatic 85, 3) := by decide +kernel
theorem dL_turn_300 : decode cL_turn 300 = .ok (.aload_n 1, 1) := by decide +kernel
theorem dL_turn_301 : decode cL_turn 301 = .ok (.iconst 0, 1) := by decide +kernel
theorem dL_turn_302 : decode cL_turn 302 = .ok (.dup2, 1) := by decide +kernel
theorem dL_turn_303 : decode cL_turn 303 = .ok (.iaload, 1) := by decide +kernel
theorem dL_turn_304 : decode cL_turn 304 = .ok (.iconst 1, 1) := by decide +kernel
theorem dL_turn_305 : decode cL_turn 305 = .ok (.iadd, 1) := by decide +kernel
theorem dL_turn_306 : decode cL_turn 306 = .ok (.iastore, 1) := by decide +kernel
theorem dL_turn_307 : decode cL_turn 307 = .ok (.goto (-291), 3) := by decide +kernel
theorem dL_turn_310 : decode cL_turn 310 = .ok (.return_, 1) := by decide +kernel
