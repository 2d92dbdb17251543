set_option maxRecDepth 20000 in
theorem ggX0_init_X4_init : GoodIn wsX0_init wsX4_init := goodIn_r _ [10, 11, 2, 3, 12, 13, 14, 15] (by decide +kernel) (by decide +kernel)
set_option maxRecDepth 20000 in
theorem gX0_init_X4_init_n11 : GoodIn wsX0_init (wsX4_init) := ggX0_init_X4_init
theorem dX0_init_0 : decode cX0_init 0 = .ok (.aload_n 0, 1) := by decide +kernel
theorem dX0_init_1 : decode cX0_init 1 = .ok (.invokespecial 3, 3) := by decide +kernel
theorem dX0_init_4 : decode cX0_init 4 = .ok (.aload_n 0, 1) := by decide +kernel
theorem dX0_init_5 : decode cX0_init 5 = .ok (.new 9, 3) := by decide +kernel
theorem dX0_init_8 : decode cX0_init 8 = .ok (.dup, 1) := by decide +kernel
theorem dX0_init_9 : decode cX0_init 9 = .ok (.invokespecial 11, 3) := by decide +kernel
theorem dX0_init_12 : decode cX0_init 12 = .ok (.putfield 12, 3) := by decide +kernel
theorem dX0_init_15 : decode cX0_init 15 = .ok (.aload_n 0, 1) := by decide +kernel
theorem dX0_init_16 : decode cX0_init 16 = .ok (.iconst (-1), 1) := by decide +kernel
theorem dX0_init_17 : decode cX0_init 17 = .ok (.putfield 18, 3) := by decide +kernel
theorem dX0_init_20 : decode cX0_init 20 = .ok (.return_, 1) := by decide +kernel
set_option maxRecDepth 20000 in
theorem ggX1_init_X4_init : GoodIn wsX1_init wsX4_init := goodIn_r _ [10, 11, 2, 3, 12, 13, 14, 15] (by decide +kernel) (by decide +kernel)
set_option maxRecDepth 20000 in
theorem gX1_init_X4_init_n11 : GoodIn wsX1_init (wsX4_init) := ggX1_init_X4_init
theorem dX1_init_0 : decode cX1_init 0 = .ok (.aload_n 0, 1) := by decide +kernel
theorem dX1_init_1 : decode cX1_init 1 = .ok (.invokespecial 3, 3) := by decide +kernel
theorem dX1_init_4 : decode cX1_init 4 = .ok (.aload_n 0, 1) := by decide +kernel
theorem dX1_init_5 : decode cX1_init 5 = .ok (.new 9, 3) := by decide +kernel
theorem dX1_init_8 : decode cX1_init 8 = .ok (.dup, 1) := by decide +kernel
theorem dX1_init_9 : decode cX1_init 9 = .ok (.invokespecial 11, 3) := by decide +kernel
theorem dX1_init_12 : decode cX1_init 12 = .ok (.putfield 12, 3) := by decide +kernel
theorem dX1_init_15 : decode cX1_init 15 = .ok (.aload_n 0, 1) := by decide +kernel
theorem dX1_init_16 : decode cX1_init 16 = .ok (.iconst (-1), 1) := by decide +kernel
theorem dX1_init_17 : decode cX1_init 17 = .ok (.putfield 18, 3) := by decide +kernel
theorem dX1_init_20 : decode cX1_init 20 = .ok (.return_, 1) := by decide +kernel
set_option maxRecDepth 20000 in
theorem ggX3_init_X5_init : GoodIn wsX3_init wsX5_init := goodIn_r _ [14, 15, 2, 3, 16, 17, 6, 18, 28, 29, 30] (by decide +kernel) (by decide +kernel)
set_option maxRecDepth 20000 in
theorem gX3_init_X5_init_n31 : GoodIn wsX3_init (wsX5_init) := ggX3_init_X5_init
theorem dX3_init_0 : decode cX3_init 0 = .ok (.aload_n 0, 1) := by decide +kernel
theorem dX3_init_1 : decode cX3_init 1 = .ok (.invokespecial 3, 3) := by decide +kernel
theorem dX3_init_4 : decode cX3_init 4 = .ok (.aload_n 0, 1) := by decide +kernel
theorem dX3_init_5 : decode cX3_init 5 = .ok (.iconst 4, 1) := by decide +kernel
theorem dX3_init_6 : decode cX3_init 6 = .ok (.anewarray 9, 3) := by decide +kernel
theorem dX3_init_9 : decode cX3_init 9 = .ok (.putfield 11, 3) := by decide +kernel
theorem dX3_init_12 : decode cX3_init 12 = .ok (.aload_n 0, 1) := by decide +kernel
theorem dX3_init_13 : decode cX3_init 13 = .ok (.iconst 4, 1) := by decide +kernel
theorem dX3_init_14 : decode cX3_init 14 = .ok (.newarray .int, 2) := by decide +kernel
theorem dX3_init_16 : decode cX3_init 16 = .ok (.putfield 17, 3) := by decide +kernel
theorem dX3_init_19 : decode cX3_init 19 = .ok (.aload_n 0, 1) := by decide +kernel
theorem dX3_init_20 : decode cX3_init 20 = .ok (.iconst 1, 1) := by decide +kernel
theorem dX3_init_21 : decode cX3_init 21 = .ok (.putfield 21, 3) := by decide +kernel
theorem dX3_init_24 : decode cX3_init 24 = .ok (.aload_n 0, 1) := by decide +kernel
theorem dX3_init_25 : decode cX3_init 25 = .ok (.iconst (-1), 1) := by decide +kernel
theorem dX3_init_26 : decode cX3_init 26 = .ok (.putfield 25, 3) := by decide +kernel
theorem dX3_init_29 : decode cX3_init 29 = .ok (.aload_n 0, 1) := by decide +kernel
theorem dX3_init_30 : decode cX3_init 30 = .ok (.iconst (-1), 1) := by decide +kernel
theorem dX3_init_31 : decode cX3_init 31 = .ok (.putfield 28, 3) := by decide +kernel
theorem dX3_init_34 : decode cX3_init 34 = .ok (.iconst 0, 1) := by decide +kernel
theorem dX3_init_35 : decode cX3_init 35 = .ok (.istore_n 1, 1) := by decide +kernel
theorem dX3_init_36 : decode cX3_init 36 = .ok (.iload_n 1, 1) := by decide +kernel
theorem dX3_init_37 : decode cX3_init 37 = .ok (.iconst 4, 1) := by decide +kernel
theorem dX3_init_38 : decode cX3_init 38 = .ok (.if_icmp .ge 22, 3) := by decide +kernel
theorem dX3_init_41 : decode cX3_init 41 = .ok (.aload_n 0, 1) := by decide +kernel
theorem dX3_init_42 : decode cX3_init 42 = .ok (.getfield 11, 3) := by decide +kernel
theorem dX3_init_45 : decode cX3_init 45 = .ok (.iload_n 1, 1) := by decide +kernel
theorem dX3_init_46 : decode cX3_init 46 = .ok (.new 9, 3) := by decide +kernel
theorem dX3_init_49 : decode cX3_init 49 = .ok (.dup, 1) := by decide +kernel
theorem dX3_init_50 : decode cX3_init 50 = .ok (.invokespecial 31, 3) := by decide +kernel
theorem dX3_init_53 : decode cX3_init 53 = .ok (.aastore, 1) := by decide +kernel
theorem dX3_init_54 : decode cX3_init 54 = .ok (.iinc 1 1, 3) := by decide +kernel
theorem dX3_init_57 : decode cX3_init 57 = .ok (.goto (-21), 3) := by decide +kernel
theorem dX3_init_60 : decode cX3_init 60 = .ok (.return_, 1) := by decide +kernel
set_option maxRecDepth 20000 in
theorem ggX3_begin_X3_beginPile : GoodIn wsX3_begin wsX3_beginPile := goodIn_ca (goodIn_r _ [10, 11, 12, 13, 14, 9, 15, 16, 17, 18, 19, 20, 21, 22, 23, 24, 25, 26, 27, 28, 29, 30, 31, 32, 33, 34, 35, 36, 37] (by decide +kernel) (by decide +kernel)) (goodIn_sub (fun _ h => List.mem_cons_of_mem _ (List.mem_append_right _ h)) (by decide +kernel))
set_option maxRecDepth 20000 in
theorem gX3_begin_X3_beginPile : GoodIn wsX3_begin (wsV RX3 45 RX3 yX3_beginPile wsX3_beginPile) := goodIn_app (goodIn_of _ (by decide +kernel)) ggX3_begin_X3_beginPile
theorem dX3_begin_0 : decode cX3_begin 0 = .ok (.aload_n 0, 1) := by decide +kernel
theorem dX3_begin_1 : decode cX3_begin 1 = .ok (.iconst 1, 1) := by decide +kernel
theorem dX3_begin_2 : decode cX3_begin 2 = .ok (.putfield 32, 3) := by decide +kernel
theorem dX3_begin_5 : decode cX3_begin 5 = .ok (.aload_n 0, 1) := by decide +kernel
theorem dX3_begin_6 : decode cX3_begin 6 = .ok (.iload_n 1, 1) := by decide +kernel
theorem dX3_begin_7 : decode cX3_begin 7 = .ok (.putfield 36, 3) := by decide +kernel
theorem dX3_begin_10 : decode cX3_begin 10 = .ok (.aload_n 0, 1) := by decide +kernel
theorem dX3_begin_11 : decode cX3_begin 11 = .ok (.iconst 0, 1) := by decide +kernel
theorem dX3_begin_12 : decode cX3_begin 12 = .ok (.putfield 39, 3) := by decide +kernel
theorem dX3_begin_15 : decode cX3_begin 15 = .ok (.aload_n 0, 1) := by decide +kernel
theorem dX3_begin_16 : decode cX3_begin 16 = .ok (.iconst 0, 1) := by decide +kernel
theorem dX3_begin_17 : decode cX3_begin 17 = .ok (.putfield 42, 3) := by decide +kernel
theorem dX3_begin_20 : decode cX3_begin 20 = .ok (.aload_n 0, 1) := by decide +kernel
theorem dX3_begin_21 : decode cX3_begin 21 = .ok (.iconst (-1), 1) := by decide +kernel
theorem dX3_begin_22 : decode cX3_begin 22 = .ok (.putfield 28, 3) := by decide +kernel
theorem dX3_begin_25 : decode cX3_begin 25 = .ok (.aload_n 0, 1) := by decide +kernel
theorem dX3_begin_26 : decode cX3_begin 26 = .ok (.aload_n 2, 1) := by decide +kernel
theorem dX3_begin_27 : decode cX3_begin 27 = .ok (.invokevirtual 45, 3) := by decide +kernel
theorem dX3_begin_30 : decode cX3_begin 30 = .ok (.return_, 1) := by decide +kernel
set_option maxRecDepth 20000 in
theorem ggX3_beginPile_X3_putOnPile : GoodIn wsX3_beginPile wsX3_putOnPile := goodIn_ca (goodIn_r _ [6, 1, 7, 8, 9, 10, 11, 12, 13, 14, 15, 16, 17, 18, 19, 20, 21, 22, 23, 24, 25, 26, 27, 28] (by decide +kernel) (by decide +kernel)) (goodIn_sub (fun _ h => List.mem_cons_of_mem _ (List.mem_append_right _ h)) (by decide +kernel))
set_option maxRecDepth 20000 in
theorem gX3_beginPile_X3_putOnPile : GoodIn wsX3_beginPile (wsV RX3 49 RX3 yX3_putOnPile wsX3_putOnPile) := goodIn_app (goodIn_of _ (by decide +kernel)) ggX3_beginPile_X3_putOnPile
theorem dX3_beginPile_0 : decode cX3_beginPile 0 = .ok (.aload_n 0, 1) := by decide +kernel
theorem dX3_beginPile_1 : decode cX3_beginPile 1 = .ok (.iconst 0, 1) := by decide +kernel
theorem dX3_beginPile_2 : decode cX3_beginPile 2 = .ok (.putfield 21, 3) := by decide +kernel
theorem dX3_beginPile_5 : decode cX3_beginPile 5 = .ok (.aload_n 0, 1) := by decide +kernel
theorem dX3_beginPile_6 : decode cX3_beginPile 6 = .ok (.aload_n 1, 1) := by decide +kernel
theorem dX3_beginPile_7 : decode cX3_beginPile 7 = .ok (.invokevirtual 49, 3) := by decide +kernel
theorem dX3_beginPile_10 : decode cX3_beginPile 10 = .ok (.return_, 1) := by decide +kernel
set_option maxRecDepth 20000 in
theorem ggX3_putOnPile_X5_copyFrom : GoodIn wsX3_putOnPile wsX5_copyFrom := goodIn_ca (goodIn_r _ [8, 9, 10, 11, 21, 22, 23] (by decide +kernel) (by decide +kernel)) (goodIn_sub (fun _ h => List.mem_cons_of_mem _ (List.mem_append_right _ h)) (by decide +kernel))
set_option maxRecDepth 20000 in
theorem gX3_putOnPile_X5_copyFrom : GoodIn wsX3_putOnPile (wsV RX3 52 RX5 yX5_copyFrom wsX5_copyFrom) := goodIn_app (goodIn_of _ (by decide +kernel)) ggX3_putOnPile_X5_copyFrom
theorem dX3_putOnPile_0 : decode cX3_putOnPile 0 = .ok (.aload_n 0, 1) := by decide +kernel
theorem dX3_putOnPile_1 : decode cX3_putOnPile 1 = .ok (.getfield 21, 3) := by decide +kernel
theorem dX3_putOnPile_4 : decode cX3_putOnPile 4 = .ok (.iconst 4, 1) := by decide +kernel
theorem dX3_putOnPile_5 : decode cX3_putOnPile 5 = .ok (.if_icmp .ge 36, 3) := by decide +kernel
theorem dX3_putOnPile_8 : decode cX3_putOnPile 8 = .ok (.aload_n 0, 1) := by decide +kernel
theorem dX3_putOnPile_9 : decode cX3_putOnPile 9 = .ok (.getfield 11, 3) := by decide +kernel
theorem dX3_putOnPile_12 : decode cX3_putOnPile 12 = .ok (.aload_n 0, 1) := by decide +kernel
theorem dX3_putOnPile_13 : decode cX3_putOnPile 13 = .ok (.getfield 21, 3) := by decide +kernel
theorem dX3_putOnPile_16 : decode cX3_putOnPile 16 = .ok (.aaload, 1) := by decide +kernel
theorem dX3_putOnPile_17 : decode cX3_putOnPile 17 = .ok (.aload_n 1, 1) := by decide +kernel
theorem dX3_putOnPile_18 : decode cX3_putOnPile 18 = .ok (.invokevirtual 52, 3) := by decide +kernel
theorem dX3_putOnPile_21 : decode cX3_putOnPile 21 = .ok (.aload_n 0, 1) := by decide +kernel
theorem dX3_putOnPile_22 : decode cX3_putOnPile 22 = .ok (.getfield 17, 3) := by decide +kernel
theorem dX3_putOnPile_25 : decode cX3_putOnPile 25 = .ok (.aload_n 0, 1) := by decide +kernel
theorem dX3_putOnPile_26 : decode cX3_putOnPile 26 = .ok (.getfield 21, 3) := by decide +kernel
theorem dX3_putOnPile_29 : decode cX3_putOnPile 29 = .ok (.iconst 0, 1) := by decide +kernel
theorem dX3_putOnPile_30 : decode cX3_putOnPile 30 = .ok (.iastore, 1) := by decide +kernel
theorem dX3_putOnPile_31 : decode cX3_putOnPile 31 = .ok (.aload_n 0, 1) := by decide +kernel
theorem dX3_putOnPile_32 : decode cX3_putOnPile 32 = .ok (.dup, 1) := by decide +kernel
theorem dX3_putOnPile_33 : decode cX3_putOnPile 33 = .ok (.getfield 21, 3) := by decide +kernel
theorem dX3_putOnPile_36 : decode cX3_putOnPile 36 = .ok (.iconst 1, 1) := by decide +kernel
theorem dX3_putOnPile_37 : decode cX3_putOnPile 37 = .ok (.iadd, 1) := by decide +kernel
theorem dX3_putOnPile_38 : decode cX3_putOnPile 38 = .ok (.putfield 21, 3) := by decide +kernel
theorem dX3_putOnPile_41 : decode cX3_putOnPile 41 = .ok (.return_, 1) := by decide +kernel
set_option maxRecDepth 20000 in
theorem ggX3_takeEndedFromPile_X3_isAtEnd : GoodIn wsX3_takeEndedFromPile wsX3_isAtEnd := goodIn_ca (goodIn_r _ [6, 7, 1, 8, 9, 10, 11, 5, 12, 13, 14, 15, 16, 17, 18, 19, 20, 21, 22, 23, 24, 25] (by decide +kernel) (by decide +kernel)) (goodIn_sub (fun _ h => List.mem_cons_of_mem _ (List.mem_append_right _ h)) (by decide +kernel))
set_option maxRecDepth 20000 in
theorem gX3_takeEndedFromPile_X3_isAtEnd : GoodIn wsX3_takeEndedFromPile (wsV RX3 55 RX3 yX3_isAtEnd wsX3_isAtEnd) := goodIn_app (goodIn_of _ (by decide +kernel)) ggX3_takeEndedFromPile_X3_isAtEnd
theorem dX3_takeEndedFromPile_0 : decode cX3_takeEndedFromPile 0 = .ok (.aload_n 0, 1) := by decide +kernel
theorem dX3_takeEndedFromPile_1 : decode cX3_takeEndedFromPile 1 = .ok (.getfield 21, 3) := by decide +kernel
theorem dX3_takeEndedFromPile_4 : decode cX3_takeEndedFromPile 4 = .ok (.iconst 1, 1) := by decide +kernel
theorem dX3_takeEndedFromPile_5 : decode cX3_takeEndedFromPile 5 = .ok (.if_icmp .le 23, 3) := by decide +kernel
theorem dX3_takeEndedFromPile_8 : decode cX3_takeEndedFromPile 8 = .ok (.aload_n 0, 1) := by decide +kernel
theorem dX3_takeEndedFromPile_9 : decode cX3_takeEndedFromPile 9 = .ok (.invokevirtual 55, 3) := by decide +kernel
theorem dX3_takeEndedFromPile_12 : decode cX3_takeEndedFromPile 12 = .ok (.ifCond .eq 16, 3) := by decide +kernel
theorem dX3_takeEndedFromPile_15 : decode cX3_takeEndedFromPile 15 = .ok (.aload_n 0, 1) := by decide +kernel
theorem dX3_takeEndedFromPile_16 : decode cX3_takeEndedFromPile 16 = .ok (.dup, 1) := by decide +kernel
theorem dX3_takeEndedFromPile_17 : decode cX3_takeEndedFromPile 17 = .ok (.getfield 21, 3) := by decide +kernel
theorem dX3_takeEndedFromPile_20 : decode cX3_takeEndedFromPile 20 = .ok (.iconst 1, 1) := by decide +kernel
theorem dX3_takeEndedFromPile_21 : decode cX3_takeEndedFromPile 21 = .ok (.isub, 1) := by decide +kernel
theorem dX3_takeEndedFromPile_22 : decode cX3_takeEndedFromPile 22 = .ok (.putfield 21, 3) := by decide +kernel
theorem dX3_takeEndedFromPile_25 : decode cX3_takeEndedFromPile 25 = .ok (.goto (-25), 3) := by decide +kernel
theorem dX3_takeEndedFromPile_28 : decode cX3_takeEndedFromPile 28 = .ok (.return_, 1) := by decide +kernel
set_option maxRecDepth 20000 in
theorem ggX3_isAtEnd_X3_lineAhead : GoodIn wsX3_isAtEnd wsX3_lineAhead := goodIn_ca (goodIn_r _ [8, 9, 2, 10, 11, 12, 13, 14, 15, 16, 17, 18] (by decide +kernel) (by decide +kernel)) (goodIn_sub (fun _ h => List.mem_cons_of_mem _ (List.mem_append_right _ h)) (by decide +kernel))
set_option maxRecDepth 20000 in
theorem gX3_isAtEnd_X3_lineAhead : GoodIn wsX3_isAtEnd (wsV RX3 59 RX3 yX3_lineAhead wsX3_lineAhead) := goodIn_app (goodIn_of _ (by decide +kernel)) ggX3_isAtEnd_X3_lineAhead
theorem dX3_isAtEnd_0 : decode cX3_isAtEnd 0 = .ok (.aload_n 0, 1) := by decide +kernel
theorem dX3_isAtEnd_1 : decode cX3_isAtEnd 1 = .ok (.invokevirtual 59, 3) := by decide +kernel
theorem dX3_isAtEnd_4 : decode cX3_isAtEnd 4 = .ok (.aload_n 0, 1) := by decide +kernel
theorem dX3_isAtEnd_5 : decode cX3_isAtEnd 5 = .ok (.getfield 11, 3) := by decide +kernel
theorem dX3_isAtEnd_8 : decode cX3_isAtEnd 8 = .ok (.aload_n 0, 1) := by decide +kernel
theorem dX3_isAtEnd_9 : decode cX3_isAtEnd 9 = .ok (.getfield 21, 3) := by decide +kernel
theorem dX3_isAtEnd_12 : decode cX3_isAtEnd 12 = .ok (.iconst 1, 1) := by decide +kernel
theorem dX3_isAtEnd_13 : decode cX3_isAtEnd 13 = .ok (.isub, 1) := by decide +kernel
theorem dX3_isAtEnd_14 : decode cX3_isAtEnd 14 = .ok (.aaload, 1) := by decide +kernel
theorem dX3_isAtEnd_15 : decode cX3_isAtEnd 15 = .ok (.getfield 63, 3) := by decide +kernel
theorem dX3_isAtEnd_18 : decode cX3_isAtEnd 18 = .ok (.if_icmp .lt 7, 3) := by decide +kernel
theorem dX3_isAtEnd_21 : decode cX3_isAtEnd 21 = .ok (.iconst 1, 1) := by decide +kernel
theorem dX3_isAtEnd_22 : decode cX3_isAtEnd 22 = .ok (.goto 4, 3) := by decide +kernel
theorem dX3_isAtEnd_25 : decode cX3_isAtEnd 25 = .ok (.iconst 0, 1) := by decide +kernel
theorem dX3_isAtEnd_26 : decode cX3_isAtEnd 26 = .ok (.ireturn, 1) := by decide +kernel
theorem dX3_lineAhead_0 : decode cX3_lineAhead 0 = .ok (.aload_n 0, 1) := by decide +kernel
theorem dX3_lineAhead_1 : decode cX3_lineAhead 1 = .ok (.getfield 17, 3) := by decide +kernel
theorem dX3_lineAhead_4 : decode cX3_lineAhead 4 = .ok (.aload_n 0, 1) := by decide +kernel
theorem dX3_lineAhead_5 : decode cX3_lineAhead 5 = .ok (.getfield 21, 3) := by decide +kernel
theorem dX3_lineAhead_8 : decode cX3_lineAhead 8 = .ok (.iconst 1, 1) := by decide +kernel
theorem dX3_lineAhead_9 : decode cX3_lineAhead 9 = .ok (.isub, 1) := by decide +kernel
theorem dX3_lineAhead_10 : decode cX3_lineAhead 10 = .ok (.iaload, 1) := by decide +kernel
theorem dX3_lineAhead_11 : decode cX3_lineAhead 11 = .ok (.ireturn, 1) := by decide +kernel
theorem dX3_goOnAt_0 : decode cX3_goOnAt 0 = .ok (.aload_n 0, 1) := by decide +kernel
theorem dX3_goOnAt_1 : decode cX3_goOnAt 1 = .ok (.getfield 17, 3) := by decide +kernel
theorem dX3_goOnAt_4 : decode cX3_goOnAt 4 = .ok (.aload_n 0, 1) := by decide +kernel
theorem dX3_goOnAt_5 : decode cX3_goOnAt 5 = .ok (.getfield 21, 3) := by decide +kernel
theorem dX3_goOnAt_8 : decode cX3_goOnAt 8 = .ok (.iconst 1, 1) := by decide +kernel
theorem dX3_goOnAt_9 : decode cX3_goOnAt 9 = .ok (.isub, 1) := by decide +kernel
theorem dX3_goOnAt_10 : decode cX3_goOnAt 10 = .ok (.iload_n 1, 1) := by decide +kernel
theorem dX3_goOnAt_11 : decode cX3_goOnAt 11 = .ok (.iastore, 1) := by decide +kernel
theorem dX3_goOnAt_12 : decode cX3_goOnAt 12 = .ok (.return_, 1) := by decide +kernel
theorem dX4_init_0 : decode cX4_init 0 = .ok (.aload_n 0, 1) := by decide +kernel
theorem dX4_init_1 : decode cX4_init 1 = .ok (.invokespecial 3, 3) := by decide +kernel
theorem dX4_init_4 : decode cX4_init 4 = .ok (.aload_n 0, 1) := by decide +kernel
theorem dX4_init_5 : decode cX4_init 5 = .ok (.bipush 6, 2) := by decide +kernel
theorem dX4_init_7 : decode cX4_init 7 = .ok (.newarray .int, 2) := by decide +kernel
theorem dX4_init_9 : decode cX4_init 9 = .ok (.putfield 9, 3) := by decide +kernel
theorem dX4_init_12 : decode cX4_init 12 = .ok (.return_, 1) := by decide +kernel
theorem dX4_addLast_0 : decode cX4_addLast 0 = .ok (.aload_n 0, 1) := by decide +kernel
theorem dX4_addLast_1 : decode cX4_addLast 1 = .ok (.getfield 15, 3) := by decide +kernel
theorem dX4_addLast_4 : decode cX4_addLast 4 = .ok (.bipush 6, 2) := by decide +kernel
theorem dX4_addLast_6 : decode cX4_addLast 6 = .ok (.if_icmp .ge 23, 3) := by decide +kernel
theorem dX4_addLast_9 : decode cX4_addLast 9 = .ok (.aload_n 0, 1) := by decide +kernel
theorem dX4_addLast_10 : decode cX4_addLast 10 = .ok (.getfield 9, 3) := by decide +kernel
theorem dX4_addLast_13 : decode cX4_addLast 13 = .ok (.aload_n 0, 1) := by decide +kernel
theorem dX4_addLast_14 : decode cX4_addLast 14 = .ok (.getfield 15, 3) := by decide +kernel
theorem dX4_addLast_17 : decode cX4_addLast 17 = .ok (.iload_n 1, 1) := by decide +kernel
theorem dX4_addLast_18 : decode cX4_addLast 18 = .ok (.iastore, 1) := by decide +kernel
theorem dX4_addLast_19 : decode cX4_addLast 19 = .ok (.aload_n 0, 1) := by decide +kernel
theorem dX4_addLast_20 : decode cX4_addLast 20 = .ok (.dup, 1) := by decide +kernel
theorem dX4_addLast_21 : decode cX4_addLast 21 = .ok (.getfield 15, 3) := by decide +kernel
theorem dX4_addLast_24 : decode cX4_addLast 24 = .ok (.iconst 1, 1) := by decide +kernel
theorem dX4_addLast_25 : decode cX4_addLast 25 = .ok (.iadd, 1) := by decide +kernel
theorem dX4_addLast_26 : decode cX4_addLast 26 = .ok (.putfield 15, 3) := by decide +kernel
theorem dX4_addLast_29 : decode cX4_addLast 29 = .ok (.return_, 1) := by decide +kernel
theorem dX4_addFirst_0 : decode cX4_addFirst 0 = .ok (.aload_n 0, 1) := by decide +kernel
theorem dX4_addFirst_1 : decode cX4_addFirst 1 = .ok (.getfield 15, 3) := by decide +kernel
theorem dX4_addFirst_4 : decode cX4_addFirst 4 = .ok (.bipush 6, 2) := by decide +kernel
theorem dX4_addFirst_6 : decode cX4_addFirst 6 = .ok (.if_icmp .ge 49, 3) := by decide +kernel
theorem dX4_addFirst_9 : decode cX4_addFirst 9 = .ok (.aload_n 0, 1) := by decide +kernel
theorem dX4_addFirst_10 : decode cX4_addFirst 10 = .ok (.getfield 15, 3) := by decide +kernel
theorem dX4_addFirst_13 : decode cX4_addFirst 13 = .ok (.istore_n 2, 1) := by decide +kernel
theorem dX4_addFirst_14 : decode cX4_addFirst 14 = .ok (.iload_n 2, 1) := by decide +kernel
theorem dX4_addFirst_15 : decode cX4_addFirst 15 = .ok (.ifCond .le 23, 3) := by decide +kernel
theorem dX4_addFirst_18 : decode cX4_addFirst 18 = .ok (.aload_n 0, 1) := by decide +kernel
theorem dX4_addFirst_19 : decode cX4_addFirst 19 = .ok (.getfield 9, 3) := by decide +kernel
theorem dX4_addFirst_22 : decode cX4_addFirst 22 = .ok (.iload_n 2, 1) := by decide +kernel
theorem dX4_addFirst_23 : decode cX4_addFirst 23 = .ok (.aload_n 0, 1) := by decide +kernel
theorem dX4_addFirst_24 : decode cX4_addFirst 24 = .ok (.getfield 9, 3) := by decide +kernel
theorem dX4_addFirst_27 : decode cX4_addFirst 27 = .ok (.iload_n 2, 1) := by decide +kernel
theorem dX4_addFirst_28 : decode cX4_addFirst 28 = .ok (.iconst 1, 1) := by decide +kernel
theorem dX4_addFirst_29 : decode cX4_addFirst 29 = .ok (.isub, 1) := by decide +kernel
theorem dX4_addFirst_30 : decode cX4_addFirst 30 = .ok (.iaload, 1) := by decide +kernel
theorem dX4_addFirst_31 : decode cX4_addFirst 31 = .ok (.iastore, 1) := by decide +kernel
theorem dX4_addFirst_32 : decode cX4_addFirst 32 = .ok (.iinc 2 (-1), 3) := by decide +kernel
theorem dX4_addFirst_35 : decode cX4_addFirst 35 = .ok (.goto (-21), 3) := by decide +kernel
theorem dX4_addFirst_38 : decode cX4_addFirst 38 = .ok (.aload_n 0, 1) := by decide +kernel
theorem dX4_addFirst_39 : decode cX4_addFirst 39 = .ok (.getfield 9, 3) := by decide +kernel
theorem dX4_addFirst_42 : decode cX4_addFirst 42 = .ok (.iconst 0, 1) := by decide +kernel
theorem dX4_addFirst_43 : decode cX4_addFirst 43 = .ok (.iload_n 1, 1) := by decide +kernel
theorem dX4_addFirst_44 : decode cX4_addFirst 44 = .ok (.iastore, 1) := by decide +kernel
theorem dX4_addFirst_45 : decode cX4_addFirst 45 = .ok (.aload_n 0, 1) := by decide +kernel
theorem dX4_addFirst_46 : decode cX4_addFirst 46 = .ok (.dup, 1) := by decide +kernel
theorem dX4_addFirst_47 : decode cX4_addFirst 47 = .ok (.getfield 15, 3) := by decide +kernel
theorem dX4_addFirst_50 : decode cX4_addFirst 50 = .ok (.iconst 1, 1) := by decide +kernel
theorem dX4_addFirst_51 : decode cX4_addFirst 51 = .ok (.iadd, 1) := by decide +kernel
theorem dX4_addFirst_52 : decode cX4_addFirst 52 = .ok (.putfield 15, 3) := by decide +kernel
theorem dX4_addFirst_55 : decode cX4_addFirst 55 = .ok (.return_, 1) := by decide +kernel
theorem dX4_remove_0 : decode cX4_remove 0 = .ok (.iconst 0, 1) := by decide +kernel
theorem dX4_remove_1 : decode cX4_remove 1 = .ok (.istore_n 2, 1) := by decide +kernel
theorem dX4_remove_2 : decode cX4_remove 2 = .ok (.iconst 0, 1) := by decide +kernel
theorem dX4_remove_3 : decode cX4_remove 3 = .ok (.istore_n 3, 1) := by decide +kernel
theorem dX4_remove_4 : decode cX4_remove 4 = .ok (.iload_n 3, 1) := by decide +kernel
theorem dX4_remove_5 : decode cX4_remove 5 = .ok (.aload_n 0, 1) := by decide +kernel
theorem dX4_remove_6 : decode cX4_remove 6 = .ok (.getfield 15, 3) := by decide +kernel
theorem dX4_remove_9 : decode cX4_remove 9 = .ok (.if_icmp .ge 34, 3) := by decide +kernel
theorem dX4_remove_12 : decode cX4_remove 12 = .ok (.aload_n 0, 1) := by decide +kernel
theorem dX4_remove_13 : decode cX4_remove 13 = .ok (.getfield 9, 3) := by decide +kernel
theorem dX4_remove_16 : decode cX4_remove 16 = .ok (.iload_n 3, 1) := by decide +kernel
theorem dX4_remove_17 : decode cX4_remove 17 = .ok (.iaload, 1) := by decide +kernel
theorem dX4_remove_18 : decode cX4_remove 18 = .ok (.iload_n 1, 1) := by decide +kernel
theorem dX4_remove_19 : decode cX4_remove 19 = .ok (.if_icmp .eq 18, 3) := by decide +kernel
theorem dX4_remove_22 : decode cX4_remove 22 = .ok (.aload_n 0, 1) := by decide +kernel
theorem dX4_remove_23 : decode cX4_remove 23 = .ok (.getfield 9, 3) := by decide +kernel
theorem dX4_remove_26 : decode cX4_remove 26 = .ok (.iload_n 2, 1) := by decide +kernel
theorem dX4_remove_27 : decode cX4_remove 27 = .ok (.aload_n 0, 1) := by decide +kernel
theorem dX4_remove_28 : decode cX4_remove 28 = .ok (.getfield 9, 3) := by decide +kernel
theorem dX4_remove_31 : decode cX4_remove 31 = .ok (.iload_n 3, 1) := by decide +kernel
theorem dX4_remove_32 : decode cX4_remove 32 = .ok (.iaload, 1) := by decide +kernel
theorem dX4_remove_33 : decode cX4_remove 33 = .ok (.iastore, 1) := by decide +kernel
theorem dX4_remove_34 : decode cX4_remove 34 = .ok (.iinc 2 1, 3) := by decide +kernel
theorem dX4_remove_37 : decode cX4_remove 37 = .ok (.iinc 3 1, 3) := by decide +kernel
theorem dX4_remove_40 : decode cX4_remove 40 = .ok (.goto (-36), 3) := by decide +kernel
theorem dX4_remove_43 : decode cX4_remove 43 = .ok (.aload_n 0, 1) := by decide +kernel
theorem dX4_remove_44 : decode cX4_remove 44 = .ok (.iload_n 2, 1) := by decide +kernel
theorem dX4_remove_45 : decode cX4_remove 45 = .ok (.putfield 15, 3) := by decide +kernel
theorem dX4_remove_48 : decode cX4_remove 48 = .ok (.return_, 1) := by decide +kernel
theorem dX4_timesIn_0 : decode cX4_timesIn 0 = .ok (.iconst 0, 1) := by decide +kernel
theorem dX4_timesIn_1 : decode cX4_timesIn 1 = .ok (.istore_n 2, 1) := by decide +kernel
theorem dX4_timesIn_2 : decode cX4_timesIn 2 = .ok (.iconst 0, 1) := by decide +kernel
theorem dX4_timesIn_3 : decode cX4_timesIn 3 = .ok (.istore_n 3, 1) := by decide +kernel
theorem dX4_timesIn_4 : decode cX4_timesIn 4 = .ok (.iload_n 3, 1) := by decide +kernel
theorem dX4_timesIn_5 : decode cX4_timesIn 5 = .ok (.aload_n 0, 1) := by decide +kernel
theorem dX4_timesIn_6 : decode cX4_timesIn 6 = .ok (.getfield 15, 3) := by decide +kernel
theorem dX4_timesIn_9 : decode cX4_timesIn 9 = .ok (.if_icmp .ge 22, 3) := by decide +kernel
theorem dX4_timesIn_12 : decode cX4_timesIn 12 = .ok (.aload_n 0, 1) := by decide +kernel
theorem dX4_timesIn_13 : decode cX4_timesIn 13 = .ok (.getfield 9, 3) := by decide +kernel
theorem dX4_timesIn_16 : decode cX4_timesIn 16 = .ok (.iload_n 3, 1) := by decide +kernel
theorem dX4_timesIn_17 : decode cX4_timesIn 17 = .ok (.iaload, 1) := by decide +kernel
theorem dX4_timesIn_18 : decode cX4_timesIn 18 = .ok (.iload_n 1, 1) := by decide +kernel
theorem dX4_timesIn_19 : decode cX4_timesIn 19 = .ok (.if_icmp .ne 6, 3) := by decide +kernel
theorem dX4_timesIn_22 : decode cX4_timesIn 22 = .ok (.iinc 2 1, 3) := by decide +kernel
theorem dX4_timesIn_25 : decode cX4_timesIn 25 = .ok (.iinc 3 1, 3) := by decide +kernel
theorem dX4_timesIn_28 : decode cX4_timesIn 28 = .ok (.goto (-24), 3) := by decide +kernel
theorem dX4_timesIn_31 : decode cX4_timesIn 31 = .ok (.iload_n 2, 1) := by decide +kernel
theorem dX4_timesIn_32 : decode cX4_timesIn 32 = .ok (.ireturn, 1) := by decide +kernel
theorem dX5_init_0 : decode cX5_init 0 = .ok (.aload_n 0, 1) := by decide +kernel
theorem dX5_init_1 : decode cX5_init 1 = .ok (.invokespecial 3, 3) := by decide +kernel
theorem dX5_init_4 : decode cX5_init 4 = .ok (.aload_n 0, 1) := by decide +kernel
theorem dX5_init_5 : decode cX5_init 5 = .ok (.bipush 20, 2) := by decide +kernel
theorem dX5_init_7 : decode cX5_init 7 = .ok (.newarray .char, 2) := by decide +kernel
theorem dX5_init_9 : decode cX5_init 9 = .ok (.putfield 9, 3) := by decide +kernel
theorem dX5_init_12 : decode cX5_init 12 = .ok (.aload_n 0, 1) := by decide +kernel
theorem dX5_init_13 : decode cX5_init 13 = .ok (.bipush 20, 2) := by decide +kernel
theorem dX5_init_15 : decode cX5_init 15 = .ok (.newarray .int, 2) := by decide +kernel
theorem dX5_init_17 : decode cX5_init 17 = .ok (.putfield 15, 3) := by decide +kernel
theorem dX5_init_20 : decode cX5_init 20 = .ok (.return_, 1) := by decide +kernel
theorem dX5_insertAt_0 : decode cX5_insertAt 0 = .ok (.aload_n 0, 1) := by decide +kernel
theorem dX5_insertAt_1 : decode cX5_insertAt 1 = .ok (.getfield 19, 3) := by decide +kernel
theorem dX5_insertAt_4 : decode cX5_insertAt 4 = .ok (.istore 4, 2) := by decide +kernel
theorem dX5_insertAt_6 : decode cX5_insertAt 6 = .ok (.iload 4, 2) := by decide +kernel
theorem dX5_insertAt_8 : decode cX5_insertAt 8 = .ok (.iload_n 1, 1) := by decide +kernel
theorem dX5_insertAt_9 : decode cX5_insertAt 9 = .ok (.if_icmp .le 41, 3) := by decide +kernel
theorem dX5_insertAt_12 : decode cX5_insertAt 12 = .ok (.aload_n 0, 1) := by decide +kernel
theorem dX5_insertAt_13 : decode cX5_insertAt 13 = .ok (.getfield 9, 3) := by decide +kernel
theorem dX5_insertAt_16 : decode cX5_insertAt 16 = .ok (.iload 4, 2) := by decide +kernel
theorem dX5_insertAt_18 : decode cX5_insertAt 18 = .ok (.aload_n 0, 1) := by decide +kernel
theorem dX5_insertAt_19 : decode cX5_insertAt 19 = .ok (.getfield 9, 3) := by decide +kernel
theorem dX5_insertAt_22 : decode cX5_insertAt 22 = .ok (.iload 4, 2) := by decide +kernel
theorem dX5_insertAt_24 : decode cX5_insertAt 24 = .ok (.iconst 1, 1) := by decide +kernel
theorem dX5_insertAt_25 : decode cX5_insertAt 25 = .ok (.isub, 1) := by decide +kernel
theorem dX5_insertAt_26 : decode cX5_insertAt 26 = .ok (.caload, 1) := by decide +kernel
theorem dX5_insertAt_27 : decode cX5_insertAt 27 = .ok (.castore, 1) := by decide +kernel
theorem dX5_insertAt_28 : decode cX5_insertAt 28 = .ok (.aload_n 0, 1) := by decide +kernel
theorem dX5_insertAt_29 : decode cX5_insertAt 29 = .ok (.getfield 15, 3) := by decide +kernel
theorem dX5_insertAt_32 : decode cX5_insertAt 32 = .ok (.iload 4, 2) := by decide +kernel
theorem dX5_insertAt_34 : decode cX5_insertAt 34 = .ok (.aload_n 0, 1) := by decide +kernel
theorem dX5_insertAt_35 : decode cX5_insertAt 35 = .ok (.getfield 15, 3) := by decide +kernel
theorem dX5_insertAt_38 : decode cX5_insertAt 38 = .ok (.iload 4, 2) := by decide +kernel
theorem dX5_insertAt_40 : decode cX5_insertAt 40 = .ok (.iconst 1, 1) := by decide +kernel
theorem dX5_insertAt_41 : decode cX5_insertAt 41 = .ok (.isub, 1) := by decide +kernel
theorem dX5_insertAt_42 : decode cX5_insertAt 42 = .ok (.iaload, 1) := by decide +kernel
theorem dX5_insertAt_43 : decode cX5_insertAt 43 = .ok (.iastore, 1) := by decide +kernel
theorem dX5_insertAt_44 : decode cX5_insertAt 44 = .ok (.iinc 4 (-1), 3) := by decide +kernel
theorem dX5_insertAt_47 : decode cX5_insertAt 47 = .ok (.goto (-41), 3) := by decide +kernel
theorem dX5_insertAt_50 : decode cX5_insertAt 50 = .ok (.aload_n 0, 1) := by decide +kernel
theorem dX5_insertAt_51 : decode cX5_insertAt 51 = .ok (.getfield 9, 3) := by decide +kernel
theorem dX5_insertAt_54 : decode cX5_insertAt 54 = .ok (.iload_n 1, 1) := by decide +kernel
theorem dX5_insertAt_55 : decode cX5_insertAt 55 = .ok (.iload_n 2, 1) := by decide +kernel
theorem dX5_insertAt_56 : decode cX5_insertAt 56 = .ok (.castore, 1) := by decide +kernel
theorem dX5_insertAt_57 : decode cX5_insertAt 57 = .ok (.aload_n 0, 1) := by decide +kernel
theorem dX5_insertAt_58 : decode cX5_insertAt 58 = .ok (.getfield 15, 3) := by decide +kernel
theorem dX5_insertAt_61 : decode cX5_insertAt 61 = .ok (.iload_n 1, 1) := by decide +kernel
theorem dX5_insertAt_62 : decode cX5_insertAt 62 = .ok (.iload_n 3, 1) := by decide +kernel
theorem dX5_insertAt_63 : decode cX5_insertAt 63 = .ok (.iastore, 1) := by decide +kernel
theorem dX5_insertAt_64 : decode cX5_insertAt 64 = .ok (.aload_n 0, 1) := by decide +kernel
theorem dX5_insertAt_65 : decode cX5_insertAt 65 = .ok (.dup, 1) := by decide +kernel
theorem dX5_insertAt_66 : decode cX5_insertAt 66 = .ok (.getfield 19, 3) := by decide +kernel
theorem dX5_insertAt_69 : decode cX5_insertAt 69 = .ok (.iconst 1, 1) := by decide +kernel
theorem dX5_insertAt_70 : decode cX5_insertAt 70 = .ok (.iadd, 1) := by decide +kernel
theorem dX5_insertAt_71 : decode cX5_insertAt 71 = .ok (.putfield 19, 3) := by decide +kernel
theorem dX5_insertAt_74 : decode cX5_insertAt 74 = .ok (.return_, 1) := by decide +kernel
theorem dX5_removeAt_0 : decode cX5_removeAt 0 = .ok (.aload_n 0, 1) := by decide +kernel
theorem dX5_removeAt_1 : decode cX5_removeAt 1 = .ok (.dup, 1) := by decide +kernel
theorem dX5_removeAt_2 : decode cX5_removeAt 2 = .ok (.getfield 19, 3) := by decide +kernel
theorem dX5_removeAt_5 : decode cX5_removeAt 5 = .ok (.iconst 1, 1) := by decide +kernel
theorem dX5_removeAt_6 : decode cX5_removeAt 6 = .ok (.isub, 1) := by decide +kernel
theorem dX5_removeAt_7 : decode cX5_removeAt 7 = .ok (.putfield 19, 3) := by decide +kernel
theorem dX5_removeAt_10 : decode cX5_removeAt 10 = .ok (.iload_n 1, 1) := by decide +kernel
theorem dX5_removeAt_11 : decode cX5_removeAt 11 = .ok (.istore_n 2, 1) := by decide +kernel
theorem dX5_removeAt_12 : decode cX5_removeAt 12 = .ok (.iload_n 2, 1) := by decide +kernel
theorem dX5_removeAt_13 : decode cX5_removeAt 13 = .ok (.aload_n 0, 1) := by decide +kernel
theorem dX5_removeAt_14 : decode cX5_removeAt 14 = .ok (.getfield 19, 3) := by decide +kernel
theorem dX5_removeAt_17 : decode cX5_removeAt 17 = .ok (.if_icmp .ge 37, 3) := by decide +kernel
theorem dX5_removeAt_20 : decode cX5_removeAt 20 = .ok (.aload_n 0, 1) := by decide +kernel
theorem dX5_removeAt_21 : decode cX5_removeAt 21 = .ok (.getfield 9, 3) := by decide +kernel
theorem dX5_removeAt_24 : decode cX5_removeAt 24 = .ok (.iload_n 2, 1) := by decide +kernel
theorem dX5_removeAt_25 : decode cX5_removeAt 25 = .ok (.aload_n 0, 1) := by decide +kernel
theorem dX5_removeAt_26 : decode cX5_removeAt 26 = .ok (.getfield 9, 3) := by decide +kernel
theorem dX5_removeAt_29 : decode cX5_removeAt 29 = .ok (.iload_n 2, 1) := by decide +kernel
theorem dX5_removeAt_30 : decode cX5_removeAt 30 = .ok (.iconst 1, 1) := by decide +kernel
theorem dX5_removeAt_31 : decode cX5_removeAt 31 = .ok (.iadd, 1) := by decide +kernel
theorem dX5_removeAt_32 : decode cX5_removeAt 32 = .ok (.caload, 1) := by decide +kernel
theorem dX5_removeAt_33 : decode cX5_removeAt 33 = .ok (.castore, 1) := by decide +kernel
theorem dX5_removeAt_34 : decode cX5_removeAt 34 = .ok (.aload_n 0, 1) := by decide +kernel
theorem dX5_removeAt_35 : decode cX5_removeAt 35 = .ok (.getfield 15, 3) := by decide +kernel
theorem dX5_removeAt_38 : decode cX5_removeAt 38 = .ok (.iload_n 2, 1) := by decide +kernel
theorem dX5_removeAt_39 : decode cX5_removeAt 39 = .ok (.aload_n 0, 1) := by decide +kernel
theorem dX5_removeAt_40 : decode cX5_removeAt 40 = .ok (.getfield 15, 3) := by decide +kernel
theorem dX5_removeAt_43 : decode cX5_removeAt 43 = .ok (.iload_n 2, 1) := by decide +kernel
theorem dX5_removeAt_44 : decode cX5_removeAt 44 = .ok (.iconst 1, 1) := by decide +kernel
theorem dX5_removeAt_45 : decode cX5_removeAt 45 = .ok (.iadd, 1) := by decide +kernel
theorem dX5_removeAt_46 : decode cX5_removeAt 46 = .ok (.iaload, 1) := by decide +kernel
theorem dX5_removeAt_47 : decode cX5_removeAt 47 = .ok (.iastore, 1) := by decide +kernel
theorem dX5_removeAt_48 : decode cX5_removeAt 48 = .ok (.iinc 2 1, 3) := by decide +kernel
theorem dX5_removeAt_51 : decode cX5_removeAt 51 = .ok (.goto (-39), 3) := by decide +kernel
theorem dX5_removeAt_54 : decode cX5_removeAt 54 = .ok (.return_, 1) := by decide +kernel
theorem dX5_linesOf_0 : decode cX5_linesOf 0 = .ok (.iconst 0, 1) := by decide +kernel
theorem dX5_linesOf_1 : decode cX5_linesOf 1 = .ok (.istore_n 2, 1) := by decide +kernel
theorem dX5_linesOf_2 : decode cX5_linesOf 2 = .ok (.iconst 0, 1) := by decide +kernel
theorem dX5_linesOf_3 : decode cX5_linesOf 3 = .ok (.istore_n 3, 1) := by decide +kernel
theorem dX5_linesOf_4 : decode cX5_linesOf 4 = .ok (.iload_n 3, 1) := by decide +kernel
theorem dX5_linesOf_5 : decode cX5_linesOf 5 = .ok (.aload_n 0, 1) := by decide +kernel
theorem dX5_linesOf_6 : decode cX5_linesOf 6 = .ok (.getfield 19, 3) := by decide +kernel
theorem dX5_linesOf_9 : decode cX5_linesOf 9 = .ok (.if_icmp .ge 22, 3) := by decide +kernel
theorem dX5_linesOf_12 : decode cX5_linesOf 12 = .ok (.aload_n 0, 1) := by decide +kernel
theorem dX5_linesOf_13 : decode cX5_linesOf 13 = .ok (.getfield 9, 3) := by decide +kernel
theorem dX5_linesOf_16 : decode cX5_linesOf 16 = .ok (.iload_n 3, 1) := by decide +kernel
theorem dX5_linesOf_17 : decode cX5_linesOf 17 = .ok (.caload, 1) := by decide +kernel
theorem dX5_linesOf_18 : decode cX5_linesOf 18 = .ok (.iload_n 1, 1) := by decide +kernel
theorem dX5_linesOf_19 : decode cX5_linesOf 19 = .ok (.if_icmp .ne 6, 3) := by decide +kernel
theorem dX5_linesOf_22 : decode cX5_linesOf 22 = .ok (.iinc 2 1, 3) := by decide +kernel
theorem dX5_linesOf_25 : decode cX5_linesOf 25 = .ok (.iinc 3 1, 3) := by decide +kernel
theorem dX5_linesOf_28 : decode cX5_linesOf 28 = .ok (.goto (-24), 3) := by decide +kernel
theorem dX5_linesOf_31 : decode cX5_linesOf 31 = .ok (.iload_n 2, 1) := by decide +kernel
theorem dX5_linesOf_32 : decode cX5_linesOf 32 = .ok (.ireturn, 1) := by decide +kernel
theorem dX5_copyFrom_0 : decode cX5_copyFrom 0 = .ok (.aload_n 0, 1) := by decide +kernel
theorem dX5_copyFrom_1 : decode cX5_copyFrom 1 = .ok (.aload_n 1, 1) := by decide +kernel
theorem dX5_copyFrom_2 : decode cX5_copyFrom 2 = .ok (.getfield 19, 3) := by decide +kernel
theorem dX5_copyFrom_5 : decode cX5_copyFrom 5 = .ok (.putfield 19, 3) := by decide +kernel
theorem dX5_copyFrom_8 : decode cX5_copyFrom 8 = .ok (.iconst 0, 1) := by decide +kernel
theorem dX5_copyFrom_9 : decode cX5_copyFrom 9 = .ok (.istore_n 2, 1) := by decide +kernel
theorem dX5_copyFrom_10 : decode cX5_copyFrom 10 = .ok (.iload_n 2, 1) := by decide +kernel
theorem dX5_copyFrom_11 : decode cX5_copyFrom 11 = .ok (.aload_n 0, 1) := by decide +kernel
theorem dX5_copyFrom_12 : decode cX5_copyFrom 12 = .ok (.getfield 19, 3) := by decide +kernel
theorem dX5_copyFrom_15 : decode cX5_copyFrom 15 = .ok (.if_icmp .ge 33, 3) := by decide +kernel
theorem dX5_copyFrom_18 : decode cX5_copyFrom 18 = .ok (.aload_n 0, 1) := by decide +kernel
theorem dX5_copyFrom_19 : decode cX5_copyFrom 19 = .ok (.getfield 9, 3) := by decide +kernel
theorem dX5_copyFrom_22 : decode cX5_copyFrom 22 = .ok (.iload_n 2, 1) := by decide +kernel
theorem dX5_copyFrom_23 : decode cX5_copyFrom 23 = .ok (.aload_n 1, 1) := by decide +kernel
theorem dX5_copyFrom_24 : decode cX5_copyFrom 24 = .ok (.getfield 9, 3) := by decide +kernel
theorem dX5_copyFrom_27 : decode cX5_copyFrom 27 = .ok (.iload_n 2, 1) := by decide +kernel
theorem dX5_copyFrom_28 : decode cX5_copyFrom 28 = .ok (.caload, 1) := by decide +kernel
theorem dX5_copyFrom_29 : decode cX5_copyFrom 29 = .ok (.castore, 1) := by decide +kernel
theorem dX5_copyFrom_30 : decode cX5_copyFrom 30 = .ok (.aload_n 0, 1) := by decide +kernel
theorem dX5_copyFrom_31 : decode cX5_copyFrom 31 = .ok (.getfield 15, 3) := by decide +kernel
theorem dX5_copyFrom_34 : decode cX5_copyFrom 34 = .ok (.iload_n 2, 1) := by decide +kernel
theorem dX5_copyFrom_35 : decode cX5_copyFrom 35 = .ok (.aload_n 1, 1) := by decide +kernel
theorem dX5_copyFrom_36 : decode cX5_copyFrom 36 = .ok (.getfield 15, 3) := by decide +kernel
theorem dX5_copyFrom_39 : decode cX5_copyFrom 39 = .ok (.iload_n 2, 1) := by decide +kernel
theorem dX5_copyFrom_40 : decode cX5_copyFrom 40 = .ok (.iaload, 1) := by decide +kernel
theorem dX5_copyFrom_41 : decode cX5_copyFrom 41 = .ok (.iastore, 1) := by decide +kernel
theorem dX5_copyFrom_42 : decode cX5_copyFrom 42 = .ok (.iinc 2 1, 3) := by decide +kernel
theorem dX5_copyFrom_45 : decode cX5_copyFrom 45 = .ok (.goto (-35), 3) := by decide +kernel
theorem dX5_copyFrom_48 : decode cX5_copyFrom 48 = .ok (.return_, 1) := by decide +kernel
theorem dX6_init_0 : decode cX6_init 0 = .ok (.aload_n 0, 1) := by decide +kernel
theorem dX6_init_1 : decode cX6_init 1 = .ok (.invokespecial 3, 3) := by decide +kernel
theorem dX6_init_4 : decode cX6_init 4 = .ok (.aload_n 0, 1) := by decide +kernel
theorem dX6_init_5 : decode cX6_init 5 = .ok (.bipush 100, 2) := by decide +kernel
theorem dX6_init_7 : decode cX6_init 7 = .ok (.newarray .int, 2) := by decide +kernel
theorem dX6_init_9 : decode cX6_init 9 = .ok (.putfield 9, 3) := by decide +kernel
theorem dX6_init_12 : decode cX6_init 12 = .ok (.aload_n 0, 1) := by decide +kernel
theorem dX6_init_13 : decode cX6_init 13 = .ok (.bipush 100, 2) := by decide +kernel
theorem dX6_init_15 : decode cX6_init 15 = .ok (.newarray .int, 2) := by decide +kernel
theorem dX6_init_17 : decode cX6_init 17 = .ok (.putfield 15, 3) := by decide +kernel
theorem dX6_init_20 : decode cX6_init 20 = .ok (.aload_n 0, 1) := by decide +kernel
theorem dX6_init_21 : decode cX6_init 21 = .ok (.bipush 100, 2) := by decide +kernel
theorem dX6_init_23 : decode cX6_init 23 = .ok (.newarray .boolean, 2) := by decide +kernel
theorem dX6_init_25 : decode cX6_init 25 = .ok (.putfield 18, 3) := by decide +kernel
theorem dX6_init_28 : decode cX6_init 28 = .ok (.aload_n 0, 1) := by decide +kernel
theorem dX6_init_29 : decode cX6_init 29 = .ok (.iconst (-1), 1) := by decide +kernel
theorem dX6_init_30 : decode cX6_init 30 = .ok (.putfield 22, 3) := by decide +kernel
theorem dX6_init_33 : decode cX6_init 33 = .ok (.return_, 1) := by decide +kernel
theorem dX6_wouldSee_0 : decode cX6_wouldSee 0 = .ok (.aload_n 0, 1) := by decide +kernel
theorem dX6_wouldSee_1 : decode cX6_wouldSee 1 = .ok (.getfield 9, 3) := by decide +kernel
theorem dX6_wouldSee_4 : decode cX6_wouldSee 4 = .ok (.iload_n 1, 1) := by decide +kernel
theorem dX6_wouldSee_5 : decode cX6_wouldSee 5 = .ok (.iaload, 1) := by decide +kernel
theorem dX6_wouldSee_6 : decode cX6_wouldSee 6 = .ok (.ifCond .eq 12, 3) := by decide +kernel
theorem dX6_wouldSee_9 : decode cX6_wouldSee 9 = .ok (.aload_n 0, 1) := by decide +kernel
theorem dX6_wouldSee_10 : decode cX6_wouldSee 10 = .ok (.getfield 18, 3) := by decide +kernel
theorem dX6_wouldSee_13 : decode cX6_wouldSee 13 = .ok (.iload_n 1, 1) := by decide +kernel
theorem dX6_wouldSee_14 : decode cX6_wouldSee 14 = .ok (.baload, 1) := by decide +kernel
theorem dX6_wouldSee_15 : decode cX6_wouldSee 15 = .ok (.ifCond .eq 7, 3) := by decide +kernel
theorem dX6_wouldSee_18 : decode cX6_wouldSee 18 = .ok (.iconst 1, 1) := by decide +kernel
theorem dX6_wouldSee_19 : decode cX6_wouldSee 19 = .ok (.goto 4, 3) := by decide +kernel
theorem dX6_wouldSee_22 : decode cX6_wouldSee 22 = .ok (.iconst 0, 1) := by decide +kernel
theorem dX6_wouldSee_23 : decode cX6_wouldSee 23 = .ok (.ireturn, 1) := by decide +kernel
theorem dX6_see_0 : decode cX6_see 0 = .ok (.aload_n 0, 1) := by decide +kernel
theorem dX6_see_1 : decode cX6_see 1 = .ok (.getfield 9, 3) := by decide +kernel
theorem dX6_see_4 : decode cX6_see 4 = .ok (.iload_n 1, 1) := by decide +kernel
theorem dX6_see_5 : decode cX6_see 5 = .ok (.dup2, 1) := by decide +kernel
theorem dX6_see_6 : decode cX6_see 6 = .ok (.iaload, 1) := by decide +kernel
theorem dX6_see_7 : decode cX6_see 7 = .ok (.iconst 1, 1) := by decide +kernel
theorem dX6_see_8 : decode cX6_see 8 = .ok (.iadd, 1) := by decide +kernel
theorem dX6_see_9 : decode cX6_see 9 = .ok (.iastore, 1) := by decide +kernel
theorem dX6_see_10 : decode cX6_see 10 = .ok (.aload_n 0, 1) := by decide +kernel
theorem dX6_see_11 : decode cX6_see 11 = .ok (.getfield 18, 3) := by decide +kernel
theorem dX6_see_14 : decode cX6_see 14 = .ok (.iload_n 1, 1) := by decide +kernel
theorem dX6_see_15 : decode cX6_see 15 = .ok (.iconst 0, 1) := by decide +kernel
theorem dX6_see_16 : decode cX6_see 16 = .ok (.bastore, 1) := by decide +kernel
theorem dX6_see_17 : decode cX6_see 17 = .ok (.return_, 1) := by decide +kernel
set_option maxRecDepth 20000 in
theorem ggX7_init_X5_init : GoodIn wsX7_init wsX5_init := goodIn_r _ [25, 26, 2, 3, 27, 28, 29, 30, 76, 77, 78] (by decide +kernel) (by decide +kernel)
set_option maxRecDepth 20000 in
theorem gX7_init_X5_init_n39 : GoodIn wsX7_init (wsX5_init) := ggX7_init_X5_init
set_option maxRecDepth 20000 in
theorem ggX7_init_X1_init : GoodIn wsX7_init wsX1_init := goodIn_r _ [32, 33, 2, 3, 34, 35, 36, 37, 38, 39, 40, 41, 29, 42, 99, 100, 79, 80, 81, 82, 83] (by decide +kernel) (by decide +kernel)
set_option maxRecDepth 20000 in
theorem gX7_init_X1_init_n40 : GoodIn wsX7_init (wsX1_init) := ggX7_init_X1_init
set_option maxRecDepth 20000 in
theorem ggX7_init_X3_init : GoodIn wsX7_init wsX3_init := goodIn_r _ [45, 46, 2, 3, 47, 48, 29, 49, 50, 51, 52, 14, 15, 24, 25, 26, 27, 28, 30, 84, 85, 86, 87, 88, 89, 90, 91, 92, 76, 77, 78] (by decide +kernel) (by decide +kernel)
set_option maxRecDepth 20000 in
theorem gX7_init_X3_init : GoodIn wsX7_init (wsX3_init) := ggX7_init_X3_init
set_option maxRecDepth 20000 in
theorem ggX7_init_X0_init : GoodIn wsX7_init wsX0_init := goodIn_r _ [54, 55, 2, 3, 56, 35, 36, 57, 58, 39, 40, 41, 29, 42, 99, 100, 93, 94] (by decide +kernel) (by decide +kernel)
set_option maxRecDepth 20000 in
theorem gX7_init_X0_init_n42 : GoodIn wsX7_init (wsX0_init) := ggX7_init_X0_init
set_option maxRecDepth 20000 in
theorem ggX7_init_X6_init : GoodIn wsX7_init wsX6_init := goodIn_r _ [60, 61, 2, 3, 29, 62, 63, 64, 65, 66, 95, 96, 97, 98] (by decide +kernel) (by decide +kernel)
set_option maxRecDepth 20000 in
theorem gX7_init_X6_init_n43 : GoodIn wsX7_init (wsX6_init) := ggX7_init_X6_init
theorem dX7_init_0 : decode cX7_init 0 = .ok (.aload_n 0, 1) := by decide +kernel
theorem dX7_init_1 : decode cX7_init 1 = .ok (.invokespecial 1, 3) := by decide +kernel
theorem dX7_init_4 : decode cX7_init 4 = .ok (.aload_n 0, 1) := by decide +kernel
theorem dX7_init_5 : decode cX7_init 5 = .ok (.bipush 8, 2) := by decide +kernel
theorem dX7_init_7 : decode cX7_init 7 = .ok (.anewarray 9, 3) := by decide +kernel
theorem dX7_init_10 : decode cX7_init 10 = .ok (.putfield 11, 3) := by decide +kernel
theorem dX7_init_13 : decode cX7_init 13 = .ok (.aload_n 0, 1) := by decide +kernel
theorem dX7_init_14 : decode cX7_init 14 = .ok (.bipush 6, 2) := by decide +kernel
theorem dX7_init_16 : decode cX7_init 16 = .ok (.anewarray 15, 3) := by decide +kernel
theorem dX7_init_19 : decode cX7_init 19 = .ok (.putfield 17, 3) := by decide +kernel
theorem dX7_init_22 : decode cX7_init 22 = .ok (.aload_n 0, 1) := by decide +kernel
theorem dX7_init_23 : decode cX7_init 23 = .ok (.bipush 6, 2) := by decide +kernel
theorem dX7_init_25 : decode cX7_init 25 = .ok (.anewarray 21, 3) := by decide +kernel
theorem dX7_init_28 : decode cX7_init 28 = .ok (.putfield 23, 3) := by decide +kernel
theorem dX7_init_31 : decode cX7_init 31 = .ok (.aload_n 0, 1) := by decide +kernel
theorem dX7_init_32 : decode cX7_init 32 = .ok (.bipush 6, 2) := by decide +kernel
theorem dX7_init_34 : decode cX7_init 34 = .ok (.anewarray 27, 3) := by decide +kernel
theorem dX7_init_37 : decode cX7_init 37 = .ok (.putfield 29, 3) := by decide +kernel
theorem dX7_init_40 : decode cX7_init 40 = .ok (.aload_n 0, 1) := by decide +kernel
theorem dX7_init_41 : decode cX7_init 41 = .ok (.bipush 10, 2) := by decide +kernel
theorem dX7_init_43 : decode cX7_init 43 = .ok (.anewarray 33, 3) := by decide +kernel
theorem dX7_init_46 : decode cX7_init 46 = .ok (.putfield 35, 3) := by decide +kernel
theorem dX7_init_49 : decode cX7_init 49 = .ok (.iconst 0, 1) := by decide +kernel
theorem dX7_init_50 : decode cX7_init 50 = .ok (.istore_n 1, 1) := by decide +kernel
theorem dX7_init_51 : decode cX7_init 51 = .ok (.iload_n 1, 1) := by decide +kernel
theorem dX7_init_52 : decode cX7_init 52 = .ok (.bipush 8, 2) := by decide +kernel
theorem dX7_init_54 : decode cX7_init 54 = .ok (.if_icmp .ge 22, 3) := by decide +kernel
theorem dX7_init_57 : decode cX7_init 57 = .ok (.aload_n 0, 1) := by decide +kernel
theorem dX7_init_58 : decode cX7_init 58 = .ok (.getfield 11, 3) := by decide +kernel
theorem dX7_init_61 : decode cX7_init 61 = .ok (.iload_n 1, 1) := by decide +kernel
theorem dX7_init_62 : decode cX7_init 62 = .ok (.new 9, 3) := by decide +kernel
theorem dX7_init_65 : decode cX7_init 65 = .ok (.dup, 1) := by decide +kernel
theorem dX7_init_66 : decode cX7_init 66 = .ok (.invokespecial 39, 3) := by decide +kernel
theorem dX7_init_69 : decode cX7_init 69 = .ok (.aastore, 1) := by decide +kernel
theorem dX7_init_70 : decode cX7_init 70 = .ok (.iinc 1 1, 3) := by decide +kernel
theorem dX7_init_73 : decode cX7_init 73 = .ok (.goto (-22), 3) := by decide +kernel
theorem dX7_init_76 : decode cX7_init 76 = .ok (.iconst 0, 1) := by decide +kernel
theorem dX7_init_77 : decode cX7_init 77 = .ok (.istore_n 1, 1) := by decide +kernel
theorem dX7_init_78 : decode cX7_init 78 = .ok (.iload_n 1, 1) := by decide +kernel
theorem dX7_init_79 : decode cX7_init 79 = .ok (.bipush 6, 2) := by decide +kernel
theorem dX7_init_81 : decode cX7_init 81 = .ok (.if_icmp .ge 35, 3) := by decide +kernel
theorem dX7_init_84 : decode cX7_init 84 = .ok (.aload_n 0, 1) := by decide +kernel
theorem dX7_init_85 : decode cX7_init 85 = .ok (.getfield 17, 3) := by decide +kernel
theorem dX7_init_88 : decode cX7_init 88 = .ok (.iload_n 1, 1) := by decide +kernel
theorem dX7_init_89 : decode cX7_init 89 = .ok (.new 15, 3) := by decide +kernel
theorem dX7_init_92 : decode cX7_init 92 = .ok (.dup, 1) := by decide +kernel
theorem dX7_init_93 : decode cX7_init 93 = .ok (.invokespecial 40, 3) := by decide +kernel
theorem dX7_init_96 : decode cX7_init 96 = .ok (.aastore, 1) := by decide +kernel
theorem dX7_init_97 : decode cX7_init 97 = .ok (.aload_n 0, 1) := by decide +kernel
theorem dX7_init_98 : decode cX7_init 98 = .ok (.getfield 23, 3) := by decide +kernel
theorem dX7_init_101 : decode cX7_init 101 = .ok (.iload_n 1, 1) := by decide +kernel
theorem dX7_init_102 : decode cX7_init 102 = .ok (.new 21, 3) := by decide +kernel
theorem dX7_init_105 : decode cX7_init 105 = .ok (.dup, 1) := by decide +kernel
theorem dX7_init_106 : decode cX7_init 106 = .ok (.invokespecial 41, 3) := by decide +kernel
theorem dX7_init_109 : decode cX7_init 109 = .ok (.aastore, 1) := by decide +kernel
theorem dX7_init_110 : decode cX7_init 110 = .ok (.iinc 1 1, 3) := by decide +kernel
theorem dX7_init_113 : decode cX7_init 113 = .ok (.goto (-35), 3) := by decide +kernel
theorem dX7_init_116 : decode cX7_init 116 = .ok (.iconst 0, 1) := by decide +kernel
theorem dX7_init_117 : decode cX7_init 117 = .ok (.istore_n 1, 1) := by decide +kernel
theorem dX7_init_118 : decode cX7_init 118 = .ok (.iload_n 1, 1) := by decide +kernel
theorem dX7_init_119 : decode cX7_init 119 = .ok (.bipush 6, 2) := by decide +kernel
theorem dX7_init_121 : decode cX7_init 121 = .ok (.if_icmp .ge 22, 3) := by decide +kernel
theorem dX7_init_124 : decode cX7_init 124 = .ok (.aload_n 0, 1) := by decide +kernel
theorem dX7_init_125 : decode cX7_init 125 = .ok (.getfield 29, 3) := by decide +kernel
theorem dX7_init_128 : decode cX7_init 128 = .ok (.iload_n 1, 1) := by decide +kernel
theorem dX7_init_129 : decode cX7_init 129 = .ok (.new 27, 3) := by decide +kernel
theorem dX7_init_132 : decode cX7_init 132 = .ok (.dup, 1) := by decide +kernel
theorem dX7_init_133 : decode cX7_init 133 = .ok (.invokespecial 42, 3) := by decide +kernel
theorem dX7_init_136 : decode cX7_init 136 = .ok (.aastore, 1) := by decide +kernel
theorem dX7_init_137 : decode cX7_init 137 = .ok (.iinc 1 1, 3) := by decide +kernel
theorem dX7_init_140 : decode cX7_init 140 = .ok (.goto (-22), 3) := by decide +kernel
theorem dX7_init_143 : decode cX7_init 143 = .ok (.iconst 0, 1) := by decide +kernel
theorem dX7_init_144 : decode cX7_init 144 = .ok (.istore_n 1, 1) := by decide +kernel
theorem dX7_init_145 : decode cX7_init 145 = .ok (.iload_n 1, 1) := by decide +kernel
theorem dX7_init_146 : decode cX7_init 146 = .ok (.bipush 10, 2) := by decide +kernel
theorem dX7_init_148 : decode cX7_init 148 = .ok (.if_icmp .ge 22, 3) := by decide +kernel
theorem dX7_init_151 : decode cX7_init 151 = .ok (.aload_n 0, 1) := by decide +kernel
theorem dX7_init_152 : decode cX7_init 152 = .ok (.getfield 35, 3) := by decide +kernel
theorem dX7_init_155 : decode cX7_init 155 = .ok (.iload_n 1, 1) := by decide +kernel
theorem dX7_init_156 : decode cX7_init 156 = .ok (.new 33, 3) := by decide +kernel
theorem dX7_init_159 : decode cX7_init 159 = .ok (.dup, 1) := by decide +kernel
theorem dX7_init_160 : decode cX7_init 160 = .ok (.invokespecial 43, 3) := by decide +kernel
theorem dX7_init_163 : decode cX7_init 163 = .ok (.aastore, 1) := by decide +kernel
theorem dX7_init_164 : decode cX7_init 164 = .ok (.iinc 1 1, 3) := by decide +kernel
theorem dX7_init_167 : decode cX7_init 167 = .ok (.goto (-22), 3) := by decide +kernel
theorem dX7_init_170 : decode cX7_init 170 = .ok (.return_, 1) := by decide +kernel
theorem dX7_list_0 : decode cX7_list 0 = .ok (.aload_n 0, 1) := by decide +kernel
theorem dX7_list_1 : decode cX7_list 1 = .ok (.getfield 44, 3) := by decide +kernel
theorem dX7_list_4 : decode cX7_list 4 = .ok (.bipush 8, 2) := by decide +kernel
theorem dX7_list_6 : decode cX7_list 6 = .ok (.if_icmp .lt 13, 3) := by decide +kernel
theorem dX7_list_9 : decode cX7_list 9 = .ok (.new 48, 3) := by decide +kernel
theorem dX7_list_12 : decode cX7_list 12 = .ok (.dup, 1) := by decide +kernel
theorem dX7_list_13 : decode cX7_list 13 = .ok (.ldc 50, 2) := by decide +kernel
theorem dX7_list_15 : decode cX7_list 15 = .ok (.invokespecial 52, 3) := by decide +kernel
theorem dX7_list_18 : decode cX7_list 18 = .ok (.athrow, 1) := by decide +kernel
theorem dX7_list_19 : decode cX7_list 19 = .ok (.aload_n 0, 1) := by decide +kernel
theorem dX7_list_20 : decode cX7_list 20 = .ok (.dup, 1) := by decide +kernel
theorem dX7_list_21 : decode cX7_list 21 = .ok (.getfield 44, 3) := by decide +kernel
theorem dX7_list_24 : decode cX7_list 24 = .ok (.iconst 1, 1) := by decide +kernel
theorem dX7_list_25 : decode cX7_list 25 = .ok (.iadd, 1) := by decide +kernel
theorem dX7_list_26 : decode cX7_list 26 = .ok (.putfield 44, 3) := by decide +kernel
theorem dX7_list_29 : decode cX7_list 29 = .ok (.aload_n 0, 1) := by decide +kernel
theorem dX7_list_30 : decode cX7_list 30 = .ok (.getfield 44, 3) := by decide +kernel
theorem dX7_list_33 : decode cX7_list 33 = .ok (.iconst 1, 1) := by decide +kernel
theorem dX7_list_34 : decode cX7_list 34 = .ok (.isub, 1) := by decide +kernel
theorem dX7_list_35 : decode cX7_list 35 = .ok (.ireturn, 1) := by decide +kernel
set_option maxRecDepth 20000 in
theorem ggX7_line_X7_checkList : GoodIn wsX7_line wsX7_checkList := goodIn_ca (goodIn_r _ [13, 1, 2, 14, 32, 33, 34, 35, 36, 37, 38, 39, 40] (by decide +kernel) (by decide +kernel)) (goodIn_sub (fun _ h => List.mem_cons_of_mem _ (List.mem_append_left _ (List.mem_append_left _ (List.mem_append_left _ (List.mem_append_right _ h))))) (by decide +kernel))
set_option maxRecDepth 20000 in
theorem gX7_line_X7_checkList : GoodIn wsX7_line (wsV RX7 55 RX7 yX7_checkList wsX7_checkList) := goodIn_app (goodIn_of _ (by decide +kernel)) ggX7_line_X7_checkList
set_option maxRecDepth 20000 in
theorem ggX7_line_X7_checkKind : GoodIn wsX7_line wsX7_checkKind := goodIn_ca (goodIn_r _ [17, 3, 4, 18, 19, 12, 20] (by decide +kernel) (by decide +kernel)) (goodIn_sub (fun _ h => List.mem_cons_of_mem _ (List.mem_append_left _ (List.mem_append_left _ (List.mem_append_right _ h)))) (by decide +kernel))
set_option maxRecDepth 20000 in
theorem gX7_line_X7_checkKind : GoodIn wsX7_line (va_wsS RX7 67 yX7_checkKind wsX7_checkKind) := goodIn_app (goodIn_of _ (by decide +kernel)) ggX7_line_X7_checkKind
set_option maxRecDepth 20000 in
theorem ggX7_line_X7_leastNumber : GoodIn wsX7_line wsX7_leastNumber := goodIn_r _ [23] (by decide +kernel) (by decide +kernel)
set_option maxRecDepth 20000 in
theorem gX7_line_X7_leastNumber : GoodIn wsX7_line (va_wsS RX7 71 yX7_leastNumber wsX7_leastNumber) := goodIn_app (goodIn_of _ (by decide +kernel)) ggX7_line_X7_leastNumber
set_option maxRecDepth 20000 in
theorem ggX7_line_X7_mostNumber : GoodIn wsX7_line wsX7_mostNumber := goodIn_r _ [20] (by decide +kernel) (by decide +kernel)
set_option maxRecDepth 20000 in
theorem gX7_line_X7_mostNumber : GoodIn wsX7_line (va_wsS RX7 75 yX7_mostNumber wsX7_mostNumber) := goodIn_app (goodIn_of _ (by decide +kernel)) ggX7_line_X7_mostNumber
set_option maxRecDepth 20000 in
theorem ggX7_line_X5_insertAt : GoodIn wsX7_line wsX5_insertAt := goodIn_ca (goodIn_r _ [28, 29, 30, 31, 41, 42, 43] (by decide +kernel) (by decide +kernel)) (goodIn_sub (fun _ h => List.mem_cons_of_mem _ (List.mem_append_right _ h)) (by decide +kernel))
set_option maxRecDepth 20000 in
theorem gX7_line_X5_insertAt : GoodIn wsX7_line (wsV RX7 85 RX5 yX5_insertAt wsX5_insertAt) := goodIn_app (goodIn_of _ (by decide +kernel)) ggX7_line_X5_insertAt
theorem dX7_line_0 : decode cX7_line 0 = .ok (.aload_n 0, 1) := by decide +kernel
theorem dX7_line_1 : decode cX7_line 1 = .ok (.iload_n 1, 1) := by decide +kernel
theorem dX7_line_2 : decode cX7_line 2 = .ok (.invokevirtual 55, 3) := by decide +kernel
theorem dX7_line_5 : decode cX7_line 5 = .ok (.aload_n 0, 1) := by decide +kernel
theorem dX7_line_6 : decode cX7_line 6 = .ok (.getfield 11, 3) := by decide +kernel
theorem dX7_line_9 : decode cX7_line 9 = .ok (.iload_n 1, 1) := by decide +kernel
theorem dX7_line_10 : decode cX7_line 10 = .ok (.aaload, 1) := by decide +kernel
theorem dX7_line_11 : decode cX7_line 11 = .ok (.astore 5, 2) := by decide +kernel
theorem dX7_line_13 : decode cX7_line 13 = .ok (.iload_n 2, 1) := by decide +kernel
theorem dX7_line_14 : decode cX7_line 14 = .ok (.ifCond .lt 12, 3) := by decide +kernel
theorem dX7_line_17 : decode cX7_line 17 = .ok (.iload_n 2, 1) := by decide +kernel
theorem dX7_line_18 : decode cX7_line 18 = .ok (.aload 5, 2) := by decide +kernel
theorem dX7_line_20 : decode cX7_line 20 = .ok (.getfield 59, 3) := by decide +kernel
theorem dX7_line_23 : decode cX7_line 23 = .ok (.if_icmp .le 13, 3) := by decide +kernel
theorem dX7_line_26 : decode cX7_line 26 = .ok (.new 62, 3) := by decide +kernel
theorem dX7_line_29 : decode cX7_line 29 = .ok (.dup, 1) := by decide +kernel
theorem dX7_line_30 : decode cX7_line 30 = .ok (.ldc 64, 2) := by decide +kernel
theorem dX7_line_32 : decode cX7_line 32 = .ok (.invokespecial 66, 3) := by decide +kernel
theorem dX7_line_35 : decode cX7_line 35 = .ok (.athrow, 1) := by decide +kernel
theorem dX7_line_36 : decode cX7_line 36 = .ok (.iload_n 3, 1) := by decide +kernel
theorem dX7_line_37 : decode cX7_line 37 = .ok (.invokestatic 67, 3) := by decide +kernel
theorem dX7_line_40 : decode cX7_line 40 = .ok (.iload 4, 2) := by decide +kernel
theorem dX7_line_42 : decode cX7_line 42 = .ok (.iload_n 3, 1) := by decide +kernel
theorem dX7_line_43 : decode cX7_line 43 = .ok (.invokestatic 71, 3) := by decide +kernel
theorem dX7_line_46 : decode cX7_line 46 = .ok (.if_icmp .lt 12, 3) := by decide +kernel
theorem dX7_line_49 : decode cX7_line 49 = .ok (.iload 4, 2) := by decide +kernel
theorem dX7_line_51 : decode cX7_line 51 = .ok (.iload_n 3, 1) := by decide +kernel
theorem dX7_line_52 : decode cX7_line 52 = .ok (.invokestatic 75, 3) := by decide +kernel
theorem dX7_line_55 : decode cX7_line 55 = .ok (.if_icmp .le 13, 3) := by decide +kernel
theorem dX7_line_58 : decode cX7_line 58 = .ok (.new 78, 3) := by decide +kernel
theorem dX7_line_61 : decode cX7_line 61 = .ok (.dup, 1) := by decide +kernel
theorem dX7_line_62 : decode cX7_line 62 = .ok (.ldc 80, 2) := by decide +kernel
theorem dX7_line_64 : decode cX7_line 64 = .ok (.invokespecial 82, 3) := by decide +kernel
theorem dX7_line_67 : decode cX7_line 67 = .ok (.athrow, 1) := by decide +kernel
theorem dX7_line_68 : decode cX7_line 68 = .ok (.aload 5, 2) := by decide +kernel
theorem dX7_line_70 : decode cX7_line 70 = .ok (.getfield 59, 3) := by decide +kernel
theorem dX7_line_73 : decode cX7_line 73 = .ok (.bipush 20, 2) := by decide +kernel
theorem dX7_line_75 : decode cX7_line 75 = .ok (.if_icmp .lt 13, 3) := by decide +kernel
theorem dX7_line_78 : decode cX7_line 78 = .ok (.new 48, 3) := by decide +kernel
theorem dX7_line_81 : decode cX7_line 81 = .ok (.dup, 1) := by decide +kernel
theorem dX7_line_82 : decode cX7_line 82 = .ok (.ldc 83, 2) := by decide +kernel
theorem dX7_line_84 : decode cX7_line 84 = .ok (.invokespecial 52, 3) := by decide +kernel
theorem dX7_line_87 : decode cX7_line 87 = .ok (.athrow, 1) := by decide +kernel
theorem dX7_line_88 : decode cX7_line 88 = .ok (.aload 5, 2) := by decide +kernel
theorem dX7_line_90 : decode cX7_line 90 = .ok (.iload_n 2, 1) := by decide +kernel
theorem dX7_line_91 : decode cX7_line 91 = .ok (.iload_n 3, 1) := by decide +kernel
theorem dX7_line_92 : decode cX7_line 92 = .ok (.iload 4, 2) := by decide +kernel
theorem dX7_line_94 : decode cX7_line 94 = .ok (.invokevirtual 85, 3) := by decide +kernel
theorem dX7_line_97 : decode cX7_line 97 = .ok (.aload 5, 2) := by decide +kernel
theorem dX7_line_99 : decode cX7_line 99 = .ok (.getfield 59, 3) := by decide +kernel
theorem dX7_line_102 : decode cX7_line 102 = .ok (.ireturn, 1) := by decide +kernel
set_option maxRecDepth 20000 in
theorem ggX7_cut_X7_checkList : GoodIn wsX7_cut wsX7_checkList := goodIn_ca (goodIn_r _ [10, 1, 2, 11, 20, 21, 22, 23, 24, 25, 26, 27, 28] (by decide +kernel) (by decide +kernel)) (goodIn_sub (fun _ h => List.mem_cons_of_mem _ (List.mem_append_left _ (List.mem_append_right _ h))) (by decide +kernel))
set_option maxRecDepth 20000 in
theorem gX7_cut_X7_checkList : GoodIn wsX7_cut (wsV RX7 55 RX7 yX7_checkList wsX7_checkList) := goodIn_app (goodIn_of _ (by decide +kernel)) ggX7_cut_X7_checkList
set_option maxRecDepth 20000 in
theorem ggX7_cut_X5_removeAt : GoodIn wsX7_cut wsX5_removeAt := goodIn_ca (goodIn_r _ [16, 17, 18, 19, 29, 30, 31] (by decide +kernel) (by decide +kernel)) (goodIn_sub (fun _ h => List.mem_cons_of_mem _ (List.mem_append_right _ h)) (by decide +kernel))
set_option maxRecDepth 20000 in
theorem gX7_cut_X5_removeAt : GoodIn wsX7_cut (wsV RX7 93 RX5 yX5_removeAt wsX5_removeAt) := goodIn_app (goodIn_of _ (by decide +kernel)) ggX7_cut_X5_removeAt
theorem dX7_cut_0 : decode cX7_cut 0 = .ok (.aload_n 0, 1) := by decide +kernel
theorem dX7_cut_1 : decode cX7_cut 1 = .ok (.iload_n 1, 1) := by decide +kernel
theorem dX7_cut_2 : decode cX7_cut 2 = .ok (.invokevirtual 55, 3) := by decide +kernel
theorem dX7_cut_5 : decode cX7_cut 5 = .ok (.aload_n 0, 1) := by decide +kernel
theorem dX7_cut_6 : decode cX7_cut 6 = .ok (.getfield 11, 3) := by decide +kernel
theorem dX7_cut_9 : decode cX7_cut 9 = .ok (.iload_n 1, 1) := by decide +kernel
theorem dX7_cut_10 : decode cX7_cut 10 = .ok (.aaload, 1) := by decide +kernel
theorem dX7_cut_11 : decode cX7_cut 11 = .ok (.astore_n 3, 1) := by decide +kernel
theorem dX7_cut_12 : decode cX7_cut 12 = .ok (.iload_n 2, 1) := by decide +kernel
theorem dX7_cut_13 : decode cX7_cut 13 = .ok (.ifCond .lt 11, 3) := by decide +kernel
theorem dX7_cut_16 : decode cX7_cut 16 = .ok (.iload_n 2, 1) := by decide +kernel
theorem dX7_cut_17 : decode cX7_cut 17 = .ok (.aload_n 3, 1) := by decide +kernel
theorem dX7_cut_18 : decode cX7_cut 18 = .ok (.getfield 59, 3) := by decide +kernel
theorem dX7_cut_21 : decode cX7_cut 21 = .ok (.if_icmp .lt 13, 3) := by decide +kernel
theorem dX7_cut_24 : decode cX7_cut 24 = .ok (.new 62, 3) := by decide +kernel
theorem dX7_cut_27 : decode cX7_cut 27 = .ok (.dup, 1) := by decide +kernel
theorem dX7_cut_28 : decode cX7_cut 28 = .ok (.ldc 64, 2) := by decide +kernel
theorem dX7_cut_30 : decode cX7_cut 30 = .ok (.invokespecial 66, 3) := by decide +kernel
theorem dX7_cut_33 : decode cX7_cut 33 = .ok (.athrow, 1) := by decide +kernel
theorem dX7_cut_34 : decode cX7_cut 34 = .ok (.aload_n 3, 1) := by decide +kernel
theorem dX7_cut_35 : decode cX7_cut 35 = .ok (.getfield 89, 3) := by decide +kernel
theorem dX7_cut_38 : decode cX7_cut 38 = .ok (.iload_n 2, 1) := by decide +kernel
theorem dX7_cut_39 : decode cX7_cut 39 = .ok (.caload, 1) := by decide +kernel
theorem dX7_cut_40 : decode cX7_cut 40 = .ok (.istore 4, 2) := by decide +kernel
theorem dX7_cut_42 : decode cX7_cut 42 = .ok (.aload_n 3, 1) := by decide +kernel
theorem dX7_cut_43 : decode cX7_cut 43 = .ok (.iload_n 2, 1) := by decide +kernel
theorem dX7_cut_44 : decode cX7_cut 44 = .ok (.invokevirtual 93, 3) := by decide +kernel
theorem dX7_cut_47 : decode cX7_cut 47 = .ok (.iload 4, 2) := by decide +kernel
theorem dX7_cut_49 : decode cX7_cut 49 = .ok (.ireturn, 1) := by decide +kernel
set_option maxRecDepth 20000 in
theorem ggX7_lines_X7_checkList : GoodIn wsX7_lines wsX7_checkList := goodIn_ca (goodIn_r _ [6, 7, 8, 9, 25, 26, 27, 28, 29, 30, 31, 32, 33] (by decide +kernel) (by decide +kernel)) (goodIn_sub (fun _ h => List.mem_cons_of_mem _ (List.mem_append_left _ (List.mem_append_left _ (List.mem_append_right _ h)))) (by decide +kernel))
set_option maxRecDepth 20000 in
theorem gX7_lines_X7_checkList : GoodIn wsX7_lines (wsV RX7 55 RX7 yX7_checkList wsX7_checkList) := goodIn_app (goodIn_of _ (by decide +kernel)) ggX7_lines_X7_checkList
set_option maxRecDepth 20000 in
theorem ggX7_lines_X7_checkKind : GoodIn wsX7_lines wsX7_checkKind := goodIn_ca (goodIn_r _ [12, 13, 14, 15, 16, 5, 17] (by decide +kernel) (by decide +kernel)) (goodIn_sub (fun _ h => List.mem_cons_of_mem _ (List.mem_append_left _ (List.mem_append_right _ h))) (by decide +kernel))
set_option maxRecDepth 20000 in
theorem gX7_lines_X7_checkKind : GoodIn wsX7_lines (va_wsS RX7 67 yX7_checkKind wsX7_checkKind) := goodIn_app (goodIn_of _ (by decide +kernel)) ggX7_lines_X7_checkKind
set_option maxRecDepth 20000 in
theorem ggX7_lines_X5_linesOf : GoodIn wsX7_lines wsX5_linesOf := goodIn_ca (goodIn_r _ [22, 23, 24, 34, 35, 36] (by decide +kernel) (by decide +kernel)) (goodIn_sub (fun _ h => List.mem_cons_of_mem _ (List.mem_append_right _ h)) (by decide +kernel))
set_option maxRecDepth 20000 in
theorem gX7_lines_X5_linesOf : GoodIn wsX7_lines (wsV RX7 96 RX5 yX5_linesOf wsX5_linesOf) := goodIn_app (goodIn_of _ (by decide +kernel)) ggX7_lines_X5_linesOf
theorem dX7_lines_0 : decode cX7_lines 0 = .ok (.aload_n 0, 1) := by decide +kernel
theorem dX7_lines_1 : decode cX7_lines 1 = .ok (.iload_n 1, 1) := by decide +kernel
theorem dX7_lines_2 : decode cX7_lines 2 = .ok (.invokevirtual 55, 3) := by decide +kernel
theorem dX7_lines_5 : decode cX7_lines 5 = .ok (.iload_n 2, 1) := by decide +kernel
theorem dX7_lines_6 : decode cX7_lines 6 = .ok (.invokestatic 67, 3) := by decide +kernel
theorem dX7_lines_9 : decode cX7_lines 9 = .ok (.aload_n 0, 1) := by decide +kernel
theorem dX7_lines_10 : decode cX7_lines 10 = .ok (.getfield 11, 3) := by decide +kernel
theorem dX7_lines_13 : decode cX7_lines 13 = .ok (.iload_n 1, 1) := by decide +kernel
theorem dX7_lines_14 : decode cX7_lines 14 = .ok (.aaload, 1) := by decide +kernel
theorem dX7_lines_15 : decode cX7_lines 15 = .ok (.iload_n 2, 1) := by decide +kernel
theorem dX7_lines_16 : decode cX7_lines 16 = .ok (.invokevirtual 96, 3) := by decide +kernel
theorem dX7_lines_19 : decode cX7_lines 19 = .ok (.ireturn, 1) := by decide +kernel
theorem dX7_kiosk_0 : decode cX7_kiosk 0 = .ok (.aload_n 0, 1) := by decide +kernel
theorem dX7_kiosk_1 : decode cX7_kiosk 1 = .ok (.getfield 99, 3) := by decide +kernel
theorem dX7_kiosk_4 : decode cX7_kiosk 4 = .ok (.bipush 6, 2) := by decide +kernel
theorem dX7_kiosk_6 : decode cX7_kiosk 6 = .ok (.if_icmp .lt 13, 3) := by decide +kernel
theorem dX7_kiosk_9 : decode cX7_kiosk 9 = .ok (.new 48, 3) := by decide +kernel
theorem dX7_kiosk_12 : decode cX7_kiosk 12 = .ok (.dup, 1) := by decide +kernel
theorem dX7_kiosk_13 : decode cX7_kiosk 13 = .ok (.ldc 102, 2) := by decide +kernel
theorem dX7_kiosk_15 : decode cX7_kiosk 15 = .ok (.invokespecial 52, 3) := by decide +kernel
theorem dX7_kiosk_18 : decode cX7_kiosk 18 = .ok (.athrow, 1) := by decide +kernel
theorem dX7_kiosk_19 : decode cX7_kiosk 19 = .ok (.aload_n 0, 1) := by decide +kernel
theorem dX7_kiosk_20 : decode cX7_kiosk 20 = .ok (.dup, 1) := by decide +kernel
theorem dX7_kiosk_21 : decode cX7_kiosk 21 = .ok (.getfield 99, 3) := by decide +kernel
theorem dX7_kiosk_24 : decode cX7_kiosk 24 = .ok (.iconst 1, 1) := by decide +kernel
theorem dX7_kiosk_25 : decode cX7_kiosk 25 = .ok (.iadd, 1) := by decide +kernel
theorem dX7_kiosk_26 : decode cX7_kiosk 26 = .ok (.putfield 99, 3) := by decide +kernel
theorem dX7_kiosk_29 : decode cX7_kiosk 29 = .ok (.aload_n 0, 1) := by decide +kernel
theorem dX7_kiosk_30 : decode cX7_kiosk 30 = .ok (.getfield 99, 3) := by decide +kernel
theorem dX7_kiosk_33 : decode cX7_kiosk 33 = .ok (.iconst 1, 1) := by decide +kernel
theorem dX7_kiosk_34 : decode cX7_kiosk 34 = .ok (.isub, 1) := by decide +kernel
theorem dX7_kiosk_35 : decode cX7_kiosk 35 = .ok (.ireturn, 1) := by decide +kernel
set_option maxRecDepth 20000 in
theorem ggX7_start_X7_checkKiosk : GoodIn wsX7_start wsX7_checkKiosk := goodIn_ca (goodIn_r _ [11, 12, 13, 14, 83, 84, 85, 86, 87, 88, 89, 90, 91] (by decide +kernel) (by decide +kernel)) (goodIn_sub (fun _ h => List.mem_cons_of_mem _ (List.mem_append_left _ (List.mem_append_right _ h))) (by decide +kernel))
set_option maxRecDepth 20000 in
theorem gX7_start_X7_checkKiosk : GoodIn wsX7_start (wsV RX7 104 RX7 yX7_checkKiosk wsX7_checkKiosk) := goodIn_app (goodIn_of _ (by decide +kernel)) ggX7_start_X7_checkKiosk
set_option maxRecDepth 20000 in
theorem ggX7_start_X7_checkList : GoodIn wsX7_start wsX7_checkList := goodIn_ca (goodIn_r _ [18, 12, 13, 19, 83, 84, 85, 86, 87, 88, 89, 90, 91] (by decide +kernel) (by decide +kernel)) (goodIn_sub (fun _ h => List.mem_cons_of_mem _ (List.mem_append_left _ (List.mem_append_right _ h))) (by decide +kernel))
set_option maxRecDepth 20000 in
theorem gX7_start_X7_checkList : GoodIn wsX7_start (wsV RX7 55 RX7 yX7_checkList wsX7_checkList) := goodIn_app (goodIn_of _ (by decide +kernel)) ggX7_start_X7_checkList
set_option maxRecDepth 20000 in
theorem ggX7_start_X3_begin : GoodIn wsX7_start wsX3_begin := goodIn_ca (goodIn_r _ [24, 25, 26, 27, 28, 29, 30, 31, 32, 23, 33, 34, 35, 36, 37, 38, 39, 40, 41, 42, 43, 44, 45, 46, 47, 48, 92, 93, 94, 95, 96, 97, 98, 99, 100, 101, 102, 103] (by decide +kernel) (by decide +kernel)) (goodIn_sub (fun _ h => List.mem_cons_of_mem _ (List.mem_append_right _ h)) (by decide +kernel))
set_option maxRecDepth 20000 in
theorem gX7_start_X3_begin : GoodIn wsX7_start (wsV RX7 113 RX3 yX3_begin wsX3_begin) := goodIn_app (goodIn_of _ (by decide +kernel)) ggX7_start_X3_begin
set_option maxRecDepth 20000 in
theorem ggX7_start_X7_nearestNotOut : GoodIn wsX7_start wsX7_nearestNotOut := goodIn_r _ [52, 14, 53, 54, 55, 10, 56, 57, 58, 83, 84, 85, 86, 87, 88, 89, 90, 91, 104, 105, 106, 107, 108] (by decide +kernel) (by decide +kernel)
set_option maxRecDepth 20000 in
theorem gX7_start_X7_nearestNotOut : GoodIn wsX7_start (wsV RX7 117 RX7 yX7_nearestNotOut wsX7_nearestNotOut) := goodIn_app (goodIn_of _ (by decide +kernel)) ggX7_start_X7_nearestNotOut
set_option maxRecDepth 20000 in
theorem ggX7_start_X7_settle : GoodIn wsX7_start wsX7_settle := goodIn_ca (goodIn_r _ [62, 3, 6, 57, 63, 64, 65, 66, 10, 67, 68, 69, 70, 71, 72, 73, 74, 75, 76, 77, 78, 79, 80, 81, 82, 83, 84, 85, 86, 87, 88, 89, 90, 91, 92, 93, 94, 95, 96, 97, 98, 99, 100, 104, 105, 106, 107, 108, 109, 110] (by decide +kernel) (by decide +kernel)) (goodIn_sub (fun _ h => List.mem_cons_of_mem _ (List.mem_append_right _ h)) (by decide +kernel))
set_option maxRecDepth 20000 in
theorem gX7_start_X7_settle : GoodIn wsX7_start (wsV RX7 121 RX7 yX7_settle wsX7_settle) := goodIn_app (goodIn_of _ (by decide +kernel)) ggX7_start_X7_settle
theorem dX7_start_0 : decode cX7_start 0 = .ok (.aload_n 0, 1) := by decide +kernel
theorem dX7_start_1 : decode cX7_start 1 = .ok (.iload_n 1, 1) := by decide +kernel
theorem dX7_start_2 : decode cX7_start 2 = .ok (.invokevirtual 104, 3) := by decide +kernel
theorem dX7_start_5 : decode cX7_start 5 = .ok (.aload_n 0, 1) := by decide +kernel
theorem dX7_start_6 : decode cX7_start 6 = .ok (.iload_n 2, 1) := by decide +kernel
theorem dX7_start_7 : decode cX7_start 7 = .ok (.invokevirtual 55, 3) := by decide +kernel
theorem dX7_start_10 : decode cX7_start 10 = .ok (.aload_n 0, 1) := by decide +kernel
theorem dX7_start_11 : decode cX7_start 11 = .ok (.getfield 23, 3) := by decide +kernel
theorem dX7_start_14 : decode cX7_start 14 = .ok (.iload_n 1, 1) := by decide +kernel
theorem dX7_start_15 : decode cX7_start 15 = .ok (.aaload, 1) := by decide +kernel
theorem dX7_start_16 : decode cX7_start 16 = .ok (.astore_n 3, 1) := by decide +kernel
theorem dX7_start_17 : decode cX7_start 17 = .ok (.aload_n 3, 1) := by decide +kernel
theorem dX7_start_18 : decode cX7_start 18 = .ok (.getfield 107, 3) := by decide +kernel
theorem dX7_start_21 : decode cX7_start 21 = .ok (.ifCond .eq 13, 3) := by decide +kernel
theorem dX7_start_24 : decode cX7_start 24 = .ok (.new 48, 3) := by decide +kernel
theorem dX7_start_27 : decode cX7_start 27 = .ok (.dup, 1) := by decide +kernel
theorem dX7_start_28 : decode cX7_start 28 = .ok (.ldc 111, 2) := by decide +kernel
theorem dX7_start_30 : decode cX7_start 30 = .ok (.invokespecial 52, 3) := by decide +kernel
theorem dX7_start_33 : decode cX7_start 33 = .ok (.athrow, 1) := by decide +kernel
theorem dX7_start_34 : decode cX7_start 34 = .ok (.aload_n 3, 1) := by decide +kernel
theorem dX7_start_35 : decode cX7_start 35 = .ok (.iload_n 2, 1) := by decide +kernel
theorem dX7_start_36 : decode cX7_start 36 = .ok (.aload_n 0, 1) := by decide +kernel
theorem dX7_start_37 : decode cX7_start 37 = .ok (.getfield 11, 3) := by decide +kernel
theorem dX7_start_40 : decode cX7_start 40 = .ok (.iload_n 2, 1) := by decide +kernel
theorem dX7_start_41 : decode cX7_start 41 = .ok (.aaload, 1) := by decide +kernel
theorem dX7_start_42 : decode cX7_start 42 = .ok (.invokevirtual 113, 3) := by decide +kernel
theorem dX7_start_45 : decode cX7_start 45 = .ok (.aload_n 0, 1) := by decide +kernel
theorem dX7_start_46 : decode cX7_start 46 = .ok (.iload_n 1, 1) := by decide +kernel
theorem dX7_start_47 : decode cX7_start 47 = .ok (.aload_n 0, 1) := by decide +kernel
theorem dX7_start_48 : decode cX7_start 48 = .ok (.iload_n 1, 1) := by decide +kernel
theorem dX7_start_49 : decode cX7_start 49 = .ok (.invokevirtual 117, 3) := by decide +kernel
theorem dX7_start_52 : decode cX7_start 52 = .ok (.invokevirtual 121, 3) := by decide +kernel
theorem dX7_start_55 : decode cX7_start 55 = .ok (.aload_n 3, 1) := by decide +kernel
theorem dX7_start_56 : decode cX7_start 56 = .ok (.getfield 125, 3) := by decide +kernel
theorem dX7_start_59 : decode cX7_start 59 = .ok (.ireturn, 1) := by decide +kernel
set_option maxRecDepth 20000 in
theorem ggX7_stop_X7_checkPlayer : GoodIn wsX7_stop wsX7_checkPlayer := goodIn_ca (goodIn_ca (goodIn_r _ [10, 11, 12, 4, 5, 13, 14, 15, 9, 16, 17, 18, 19, 41, 42, 43, 44, 45, 46, 47, 48, 49, 52, 53, 54, 55, 56, 57, 58, 59, 60] (by decide +kernel) (by decide +kernel)) (goodIn_sub (fun _ h => List.mem_cons_of_mem _ (List.mem_append_left _ (List.mem_append_left _ (List.mem_append_right _ h)))) (by decide +kernel))) (goodIn_sub (fun _ h => List.mem_cons_of_mem _ (List.mem_append_left _ (List.mem_append_right _ h))) (by decide +kernel))
set_option maxRecDepth 20000 in
theorem gX7_stop_X7_checkPlayer : GoodIn wsX7_stop (wsV RX7 128 RX7 yX7_checkPlayer wsX7_checkPlayer) := goodIn_app (goodIn_of _ (by decide +kernel)) ggX7_stop_X7_checkPlayer
set_option maxRecDepth 20000 in
theorem ggX7_stop_X7_passOn : GoodIn wsX7_stop wsX7_passOn := goodIn_ca (goodIn_r _ [23, 1, 2, 3, 24, 25, 4, 26, 27, 28, 29, 30, 31, 32, 33, 41, 42, 43, 44, 45, 46, 47, 48, 49, 50, 51, 61, 62, 52, 53, 54, 55, 56, 57, 58, 59, 60] (by decide +kernel) (by decide +kernel)) (goodIn_sub (fun _ h => List.mem_cons_of_mem _ (List.mem_append_right _ h)) (by decide +kernel))
set_option maxRecDepth 20000 in
theorem gX7_stop_X7_passOn : GoodIn wsX7_stop (wsV RX7 134 RX7 yX7_passOn wsX7_passOn) := goodIn_app (goodIn_of _ (by decide +kernel)) ggX7_stop_X7_passOn
set_option maxRecDepth 20000 in
theorem ggX7_stop_X4_remove : GoodIn wsX7_stop wsX4_remove := goodIn_ca (goodIn_r _ [31, 32, 33, 61, 62] (by decide +kernel) (by decide +kernel)) (goodIn_sub (fun _ h => List.mem_cons_of_mem _ (List.mem_append_right _ h)) (by decide +kernel))
set_option maxRecDepth 20000 in
theorem gX7_stop_X4_remove : GoodIn wsX7_stop (wsV RX7 141 RX4 yX4_remove wsX4_remove) := goodIn_app (goodIn_of _ (by decide +kernel)) ggX7_stop_X4_remove
set_option maxRecDepth 20000 in
theorem ggX7_stop_X7_leave : GoodIn wsX7_stop wsX7_leave := goodIn_ca (goodIn_r _ [37, 4, 38, 39, 40, 27, 28, 29, 30, 31, 32, 33, 41, 42, 43, 44, 45, 46, 47, 48, 49, 52, 53, 54, 55, 56, 57, 58, 59, 60, 63, 64, 65, 66, 67, 61, 62] (by decide +kernel) (by decide +kernel)) (goodIn_sub (fun _ h => List.mem_cons_of_mem _ (List.mem_append_right _ h)) (by decide +kernel))
set_option maxRecDepth 20000 in
theorem gX7_stop_X7_leave : GoodIn wsX7_stop (wsV RX7 146 RX7 yX7_leave wsX7_leave) := goodIn_app (goodIn_of _ (by decide +kernel)) ggX7_stop_X7_leave
theorem dX7_stop_0 : decode cX7_stop 0 = .ok (.aload_n 0, 1) := by decide +kernel
theorem dX7_stop_1 : decode cX7_stop 1 = .ok (.iload_n 1, 1) := by decide +kernel
theorem dX7_stop_2 : decode cX7_stop 2 = .ok (.invokevirtual 128, 3) := by decide +kernel
theorem dX7_stop_5 : decode cX7_stop 5 = .ok (.iconst 0, 1) := by decide +kernel
theorem dX7_stop_6 : decode cX7_stop 6 = .ok (.istore_n 2, 1) := by decide +kernel
theorem dX7_stop_7 : decode cX7_stop 7 = .ok (.iconst 0, 1) := by decide +kernel
theorem dX7_stop_8 : decode cX7_stop 8 = .ok (.istore_n 3, 1) := by decide +kernel
theorem dX7_stop_9 : decode cX7_stop 9 = .ok (.iload_n 3, 1) := by decide +kernel
theorem dX7_stop_10 : decode cX7_stop 10 = .ok (.bipush 6, 2) := by decide +kernel
theorem dX7_stop_12 : decode cX7_stop 12 = .ok (.if_icmp .ge 43, 3) := by decide +kernel
theorem dX7_stop_15 : decode cX7_stop 15 = .ok (.aload_n 0, 1) := by decide +kernel
theorem dX7_stop_16 : decode cX7_stop 16 = .ok (.getfield 29, 3) := by decide +kernel
theorem dX7_stop_19 : decode cX7_stop 19 = .ok (.iload_n 3, 1) := by decide +kernel
theorem dX7_stop_20 : decode cX7_stop 20 = .ok (.aaload, 1) := by decide +kernel
theorem dX7_stop_21 : decode cX7_stop 21 = .ok (.getfield 131, 3) := by decide +kernel
theorem dX7_stop_24 : decode cX7_stop 24 = .ok (.iload_n 1, 1) := by decide +kernel
theorem dX7_stop_25 : decode cX7_stop 25 = .ok (.if_icmp .ne 11, 3) := by decide +kernel
theorem dX7_stop_28 : decode cX7_stop 28 = .ok (.aload_n 0, 1) := by decide +kernel
theorem dX7_stop_29 : decode cX7_stop 29 = .ok (.iload_n 3, 1) := by decide +kernel
theorem dX7_stop_30 : decode cX7_stop 30 = .ok (.invokevirtual 134, 3) := by decide +kernel
theorem dX7_stop_33 : decode cX7_stop 33 = .ok (.iinc 2 1, 3) := by decide +kernel
theorem dX7_stop_36 : decode cX7_stop 36 = .ok (.aload_n 0, 1) := by decide +kernel
theorem dX7_stop_37 : decode cX7_stop 37 = .ok (.getfield 29, 3) := by decide +kernel
theorem dX7_stop_40 : decode cX7_stop 40 = .ok (.iload_n 3, 1) := by decide +kernel
theorem dX7_stop_41 : decode cX7_stop 41 = .ok (.aaload, 1) := by decide +kernel
theorem dX7_stop_42 : decode cX7_stop 42 = .ok (.getfield 137, 3) := by decide +kernel
theorem dX7_stop_45 : decode cX7_stop 45 = .ok (.iload_n 1, 1) := by decide +kernel
theorem dX7_stop_46 : decode cX7_stop 46 = .ok (.invokevirtual 141, 3) := by decide +kernel
theorem dX7_stop_49 : decode cX7_stop 49 = .ok (.iinc 3 1, 3) := by decide +kernel
theorem dX7_stop_52 : decode cX7_stop 52 = .ok (.goto (-43), 3) := by decide +kernel
theorem dX7_stop_55 : decode cX7_stop 55 = .ok (.aload_n 0, 1) := by decide +kernel
theorem dX7_stop_56 : decode cX7_stop 56 = .ok (.iload_n 1, 1) := by decide +kernel
theorem dX7_stop_57 : decode cX7_stop 57 = .ok (.invokevirtual 146, 3) := by decide +kernel
theorem dX7_stop_60 : decode cX7_stop 60 = .ok (.aload_n 0, 1) := by decide +kernel
theorem dX7_stop_61 : decode cX7_stop 61 = .ok (.getfield 23, 3) := by decide +kernel
theorem dX7_stop_64 : decode cX7_stop 64 = .ok (.iload_n 1, 1) := by decide +kernel
theorem dX7_stop_65 : decode cX7_stop 65 = .ok (.aaload, 1) := by decide +kernel
theorem dX7_stop_66 : decode cX7_stop 66 = .ok (.iconst 0, 1) := by decide +kernel
theorem dX7_stop_67 : decode cX7_stop 67 = .ok (.putfield 107, 3) := by decide +kernel
theorem dX7_stop_70 : decode cX7_stop 70 = .ok (.iload_n 2, 1) := by decide +kernel
theorem dX7_stop_71 : decode cX7_stop 71 = .ok (.ireturn, 1) := by decide +kernel
set_option maxRecDepth 20000 in
theorem ggX7_plays_X7_checkPlayer : GoodIn wsX7_plays wsX7_checkPlayer := goodIn_ca (goodIn_ca (goodIn_r _ [7, 8, 9, 1, 10, 11, 12, 13, 6, 14, 15, 16, 17, 18, 19, 20, 21, 22, 23, 24, 25, 26, 27, 28, 29, 30, 31, 32, 33, 34, 35] (by decide +kernel) (by decide +kernel)) (goodIn_sub (fun _ h => List.mem_cons_of_mem _ (List.mem_append_left _ (List.mem_append_right _ h))) (by decide +kernel))) (goodIn_sub (fun _ h => List.mem_cons_of_mem _ (List.mem_append_right _ h)) (by decide +kernel))
set_option maxRecDepth 20000 in
theorem gX7_plays_X7_checkPlayer : GoodIn wsX7_plays (wsV RX7 128 RX7 yX7_checkPlayer wsX7_checkPlayer) := goodIn_app (goodIn_of _ (by decide +kernel)) ggX7_plays_X7_checkPlayer
theorem dX7_plays_0 : decode cX7_plays 0 = .ok (.aload_n 0, 1) := by decide +kernel
theorem dX7_plays_1 : decode cX7_plays 1 = .ok (.iload_n 1, 1) := by decide +kernel
theorem dX7_plays_2 : decode cX7_plays 2 = .ok (.invokevirtual 128, 3) := by decide +kernel
theorem dX7_plays_5 : decode cX7_plays 5 = .ok (.aload_n 0, 1) := by decide +kernel
theorem dX7_plays_6 : decode cX7_plays 6 = .ok (.getfield 23, 3) := by decide +kernel
theorem dX7_plays_9 : decode cX7_plays 9 = .ok (.iload_n 1, 1) := by decide +kernel
theorem dX7_plays_10 : decode cX7_plays 10 = .ok (.aaload, 1) := by decide +kernel
theorem dX7_plays_11 : decode cX7_plays 11 = .ok (.getfield 125, 3) := by decide +kernel
theorem dX7_plays_14 : decode cX7_plays 14 = .ok (.ireturn, 1) := by decide +kernel
set_option maxRecDepth 20000 in
theorem ggX7_playerAt_X7_checkKiosk : GoodIn wsX7_playerAt wsX7_checkKiosk := goodIn_ca (goodIn_r _ [11, 12, 13, 14, 15, 16, 17, 18, 19, 20, 21, 22, 23] (by decide +kernel) (by decide +kernel)) (goodIn_sub (fun _ h => List.mem_cons_of_mem _ (List.mem_append_right _ h)) (by decide +kernel))
set_option maxRecDepth 20000 in
theorem gX7_playerAt_X7_checkKiosk : GoodIn wsX7_playerAt (wsV RX7 104 RX7 yX7_checkKiosk wsX7_checkKiosk) := goodIn_app (goodIn_of _ (by decide +kernel)) ggX7_playerAt_X7_checkKiosk
theorem dX7_playerAt_0 : decode cX7_playerAt 0 = .ok (.aload_n 0, 1) := by decide +kernel
theorem dX7_playerAt_1 : decode cX7_playerAt 1 = .ok (.iload_n 1, 1) := by decide +kernel
theorem dX7_playerAt_2 : decode cX7_playerAt 2 = .ok (.invokevirtual 104, 3) := by decide +kernel
theorem dX7_playerAt_5 : decode cX7_playerAt 5 = .ok (.aload_n 0, 1) := by decide +kernel
theorem dX7_playerAt_6 : decode cX7_playerAt 6 = .ok (.getfield 17, 3) := by decide +kernel
theorem dX7_playerAt_9 : decode cX7_playerAt 9 = .ok (.iload_n 1, 1) := by decide +kernel
theorem dX7_playerAt_10 : decode cX7_playerAt 10 = .ok (.aaload, 1) := by decide +kernel
theorem dX7_playerAt_11 : decode cX7_playerAt 11 = .ok (.getfield 161, 3) := by decide +kernel
theorem dX7_playerAt_14 : decode cX7_playerAt 14 = .ok (.astore_n 3, 1) := by decide +kernel
theorem dX7_playerAt_15 : decode cX7_playerAt 15 = .ok (.iload_n 2, 1) := by decide +kernel
theorem dX7_playerAt_16 : decode cX7_playerAt 16 = .ok (.ifCond .lt 11, 3) := by decide +kernel
theorem dX7_playerAt_19 : decode cX7_playerAt 19 = .ok (.iload_n 2, 1) := by decide +kernel
theorem dX7_playerAt_20 : decode cX7_playerAt 20 = .ok (.aload_n 3, 1) := by decide +kernel
theorem dX7_playerAt_21 : decode cX7_playerAt 21 = .ok (.getfield 164, 3) := by decide +kernel
theorem dX7_playerAt_24 : decode cX7_playerAt 24 = .ok (.if_icmp .lt 13, 3) := by decide +kernel
theorem dX7_playerAt_27 : decode cX7_playerAt 27 = .ok (.new 165, 3) := by decide +kernel
theorem dX7_playerAt_30 : decode cX7_playerAt 30 = .ok (.dup, 1) := by decide +kernel
theorem dX7_playerAt_31 : decode cX7_playerAt 31 = .ok (.ldc 167, 2) := by decide +kernel
theorem dX7_playerAt_33 : decode cX7_playerAt 33 = .ok (.invokespecial 169, 3) := by decide +kernel
theorem dX7_playerAt_36 : decode cX7_playerAt 36 = .ok (.athrow, 1) := by decide +kernel
theorem dX7_playerAt_37 : decode cX7_playerAt 37 = .ok (.aload_n 3, 1) := by decide +kernel
theorem dX7_playerAt_38 : decode cX7_playerAt 38 = .ok (.getfield 170, 3) := by decide +kernel
theorem dX7_playerAt_41 : decode cX7_playerAt 41 = .ok (.iload_n 2, 1) := by decide +kernel
theorem dX7_playerAt_42 : decode cX7_playerAt 42 = .ok (.iaload, 1) := by decide +kernel
theorem dX7_playerAt_43 : decode cX7_playerAt 43 = .ok (.ireturn, 1) := by decide +kernel
set_option maxRecDepth 20000 in
theorem ggX7_next_X7_checkPlayer : GoodIn wsX7_next wsX7_checkPlayer := goodIn_ca (goodIn_ca (goodIn_r _ [7, 8, 9, 1, 10, 11, 12, 13, 6, 14, 15, 16, 17, 25, 26, 27, 28, 29, 30, 31, 32, 33, 34, 35, 36, 37, 38, 39, 40, 41, 42] (by decide +kernel) (by decide +kernel)) (goodIn_sub (fun _ h => List.mem_cons_of_mem _ (List.mem_append_left _ (List.mem_append_left _ (List.mem_append_right _ h)))) (by decide +kernel))) (goodIn_sub (fun _ h => List.mem_cons_of_mem _ (List.mem_append_left _ (List.mem_append_right _ h))) (by decide +kernel))
set_option maxRecDepth 20000 in
theorem gX7_next_X7_checkPlayer : GoodIn wsX7_next (wsV RX7 128 RX7 yX7_checkPlayer wsX7_checkPlayer) := goodIn_app (goodIn_of _ (by decide +kernel)) ggX7_next_X7_checkPlayer
set_option maxRecDepth 20000 in
theorem ggX7_next_X3_lineAhead : GoodIn wsX7_next wsX3_lineAhead := goodIn_ca (goodIn_r _ [22, 23, 24, 34, 35, 36, 37, 38, 39, 40, 41, 42] (by decide +kernel) (by decide +kernel)) (goodIn_sub (fun _ h => List.mem_cons_of_mem _ (List.mem_append_right _ h)) (by decide +kernel))
set_option maxRecDepth 20000 in
theorem gX7_next_X3_lineAhead : GoodIn wsX7_next (wsV RX7 177 RX3 yX3_lineAhead wsX3_lineAhead) := goodIn_app (goodIn_of _ (by decide +kernel)) ggX7_next_X3_lineAhead
theorem dX7_next_0 : decode cX7_next 0 = .ok (.aload_n 0, 1) := by decide +kernel
theorem dX7_next_1 : decode cX7_next 1 = .ok (.iload_n 1, 1) := by decide +kernel
theorem dX7_next_2 : decode cX7_next 2 = .ok (.invokevirtual 128, 3) := by decide +kernel
theorem dX7_next_5 : decode cX7_next 5 = .ok (.aload_n 0, 1) := by decide +kernel
theorem dX7_next_6 : decode cX7_next 6 = .ok (.getfield 23, 3) := by decide +kernel
theorem dX7_next_9 : decode cX7_next 9 = .ok (.iload_n 1, 1) := by decide +kernel
theorem dX7_next_10 : decode cX7_next 10 = .ok (.aaload, 1) := by decide +kernel
theorem dX7_next_11 : decode cX7_next 11 = .ok (.astore_n 2, 1) := by decide +kernel
theorem dX7_next_12 : decode cX7_next 12 = .ok (.bipush 100, 2) := by decide +kernel
theorem dX7_next_14 : decode cX7_next 14 = .ok (.aload_n 2, 1) := by decide +kernel
theorem dX7_next_15 : decode cX7_next 15 = .ok (.getfield 174, 3) := by decide +kernel
theorem dX7_next_18 : decode cX7_next 18 = .ok (.imul, 1) := by decide +kernel
theorem dX7_next_19 : decode cX7_next 19 = .ok (.aload_n 2, 1) := by decide +kernel
theorem dX7_next_20 : decode cX7_next 20 = .ok (.invokevirtual 177, 3) := by decide +kernel
theorem dX7_next_23 : decode cX7_next 23 = .ok (.iadd, 1) := by decide +kernel
theorem dX7_next_24 : decode cX7_next 24 = .ok (.ireturn, 1) := by decide +kernel
set_option maxRecDepth 20000 in
theorem ggX7_count_X7_checkPlayer : GoodIn wsX7_count wsX7_checkPlayer := goodIn_ca (goodIn_ca (goodIn_r _ [7, 8, 9, 1, 10, 11, 12, 13, 6, 14, 15, 16, 17, 18, 19, 20, 21, 22, 23, 24, 25, 26, 27, 28, 29, 30, 31, 32, 33, 34, 35] (by decide +kernel) (by decide +kernel)) (goodIn_sub (fun _ h => List.mem_cons_of_mem _ (List.mem_append_left _ (List.mem_append_right _ h))) (by decide +kernel))) (goodIn_sub (fun _ h => List.mem_cons_of_mem _ (List.mem_append_right _ h)) (by decide +kernel))
set_option maxRecDepth 20000 in
theorem gX7_count_X7_checkPlayer : GoodIn wsX7_count (wsV RX7 128 RX7 yX7_checkPlayer wsX7_checkPlayer) := goodIn_app (goodIn_of _ (by decide +kernel)) ggX7_count_X7_checkPlayer
theorem dX7_count_0 : decode cX7_count 0 = .ok (.aload_n 0, 1) := by decide +kernel
theorem dX7_count_1 : decode cX7_count 1 = .ok (.iload_n 1, 1) := by decide +kernel
theorem dX7_count_2 : decode cX7_count 2 = .ok (.invokevirtual 128, 3) := by decide +kernel
theorem dX7_count_5 : decode cX7_count 5 = .ok (.aload_n 0, 1) := by decide +kernel
theorem dX7_count_6 : decode cX7_count 6 = .ok (.getfield 23, 3) := by decide +kernel
theorem dX7_count_9 : decode cX7_count 9 = .ok (.iload_n 1, 1) := by decide +kernel
theorem dX7_count_10 : decode cX7_count 10 = .ok (.aaload, 1) := by decide +kernel
theorem dX7_count_11 : decode cX7_count 11 = .ok (.getfield 181, 3) := by decide +kernel
theorem dX7_count_14 : decode cX7_count 14 = .ok (.ireturn, 1) := by decide +kernel
set_option maxRecDepth 20000 in
theorem ggX7_waits_X7_checkPlayer : GoodIn wsX7_waits wsX7_checkPlayer := goodIn_ca (goodIn_ca (goodIn_r _ [8, 9, 10, 1, 11, 12, 13, 14, 7, 15, 16, 17, 18, 19, 20, 21, 22, 23, 24, 25, 26, 27, 28, 29, 30, 31, 32, 33, 34, 35, 36] (by decide +kernel) (by decide +kernel)) (goodIn_sub (fun _ h => List.mem_cons_of_mem _ (List.mem_append_left _ (List.mem_append_right _ h))) (by decide +kernel))) (goodIn_sub (fun _ h => List.mem_cons_of_mem _ (List.mem_append_right _ h)) (by decide +kernel))
set_option maxRecDepth 20000 in
theorem gX7_waits_X7_checkPlayer : GoodIn wsX7_waits (wsV RX7 128 RX7 yX7_checkPlayer wsX7_checkPlayer) := goodIn_app (goodIn_of _ (by decide +kernel)) ggX7_waits_X7_checkPlayer
theorem dX7_waits_0 : decode cX7_waits 0 = .ok (.aload_n 0, 1) := by decide +kernel
theorem dX7_waits_1 : decode cX7_waits 1 = .ok (.iload_n 1, 1) := by decide +kernel
theorem dX7_waits_2 : decode cX7_waits 2 = .ok (.invokevirtual 128, 3) := by decide +kernel
theorem dX7_waits_5 : decode cX7_waits 5 = .ok (.aload_n 0, 1) := by decide +kernel
theorem dX7_waits_6 : decode cX7_waits 6 = .ok (.getfield 23, 3) := by decide +kernel
theorem dX7_waits_9 : decode cX7_waits 9 = .ok (.iload_n 1, 1) := by decide +kernel
theorem dX7_waits_10 : decode cX7_waits 10 = .ok (.aaload, 1) := by decide +kernel
theorem dX7_waits_11 : decode cX7_waits 11 = .ok (.astore_n 2, 1) := by decide +kernel
theorem dX7_waits_12 : decode cX7_waits 12 = .ok (.aload_n 2, 1) := by decide +kernel
theorem dX7_waits_13 : decode cX7_waits 13 = .ok (.getfield 184, 3) := by decide +kernel
theorem dX7_waits_16 : decode cX7_waits 16 = .ok (.iconst (-1), 1) := by decide +kernel
theorem dX7_waits_17 : decode cX7_waits 17 = .ok (.if_icmp .eq 8, 3) := by decide +kernel
theorem dX7_waits_20 : decode cX7_waits 20 = .ok (.bipush 100, 2) := by decide +kernel
theorem dX7_waits_22 : decode cX7_waits 22 = .ok (.goto 7, 3) := by decide +kernel
theorem dX7_waits_25 : decode cX7_waits 25 = .ok (.aload_n 2, 1) := by decide +kernel
theorem dX7_waits_26 : decode cX7_waits 26 = .ok (.getfield 187, 3) := by decide +kernel
theorem dX7_waits_29 : decode cX7_waits 29 = .ok (.ireturn, 1) := by decide +kernel
set_option maxRecDepth 20000 in
theorem ggX7_tick_X7_playOneTick : GoodIn wsX7_tick wsX7_playOneTick := goodIn_ca (goodIn_r _ [7, 8, 9, 10, 11, 12, 13, 14, 15, 16, 17, 6, 18, 19, 20, 21, 22, 23, 24, 25, 26, 27, 28, 29, 30, 31, 32, 33, 34, 35, 36, 37, 38, 39, 40, 41, 42, 43, 44, 45, 46, 47, 48, 49, 50, 51, 52, 53, 54, 55, 56, 57, 58, 59, 60, 61, 62, 63, 64, 65, 66, 67, 68, 69, 70, 71, 72, 73, 74, 75, 76, 77, 78, 79, 80, 81, 82, 83, 84, 85, 86, 87, 88, 89, 90, 91, 92, 93, 94, 95, 96, 97, 98, 99, 100, 101, 102, 103, 104, 105, 106, 107, 108, 109, 110, 111, 112, 113, 114, 115, 116, 117, 118, 119, 120, 121, 122, 123, 124, 125, 126, 127, 128, 129, 130, 131, 132, 133, 134, 165, 166, 167, 168, 169, 170, 171, 172, 173, 174, 175, 176, 177, 178, 179, 180, 181, 182, 183, 184, 185, 186, 187, 188, 189, 190, 191, 192, 193, 194, 195, 196, 197, 198] (by decide +kernel) (by decide +kernel)) (goodIn_sub (fun _ h => List.mem_cons_of_mem _ (List.mem_append_right _ h)) (by decide +kernel))
set_option maxRecDepth 20000 in
theorem gX7_tick_X7_playOneTick : GoodIn wsX7_tick (wsV RX7 192 RX7 yX7_playOneTick wsX7_playOneTick) := goodIn_app (goodIn_of _ (by decide +kernel)) ggX7_tick_X7_playOneTick
set_option maxRecDepth 20000 in
theorem ggX7_tick_X7_watchFrozenKiosks : GoodIn wsX7_tick wsX7_watchFrozenKiosks := goodIn_ca (goodIn_r _ [138, 8, 9, 10, 139, 140, 141, 142, 143, 6, 144, 11, 12, 14, 145, 146, 147, 148, 149, 150, 151, 152, 153, 154, 155, 156, 13, 77, 157, 158, 159, 160, 126, 127, 128, 118, 129, 120, 121, 161, 162, 163, 164, 115, 116, 117, 119, 165, 166, 167, 168, 169, 170, 171, 172, 173, 174, 175, 176, 177, 178, 179, 180, 181, 182, 183, 184, 185, 186, 187, 188, 189] (by decide +kernel) (by decide +kernel)) (goodIn_sub (fun _ h => List.mem_cons_of_mem _ (List.mem_append_right _ h)) (by decide +kernel))
set_option maxRecDepth 20000 in
theorem gX7_tick_X7_watchFrozenKiosks : GoodIn wsX7_tick (wsV RX7 195 RX7 yX7_watchFrozenKiosks wsX7_watchFrozenKiosks) := goodIn_app (goodIn_of _ (by decide +kernel)) ggX7_tick_X7_watchFrozenKiosks
theorem dX7_tick_0 : decode cX7_tick 0 = .ok (.iload_n 1, 1) := by decide +kernel
theorem dX7_tick_1 : decode cX7_tick 1 = .ok (.iconst 1, 1) := by decide +kernel
theorem dX7_tick_2 : decode cX7_tick 2 = .ok (.if_icmp .lt 9, 3) := by decide +kernel
theorem dX7_tick_5 : decode cX7_tick 5 = .ok (.iload_n 1, 1) := by decide +kernel
theorem dX7_tick_6 : decode cX7_tick 6 = .ok (.bipush 50, 2) := by decide +kernel
theorem dX7_tick_8 : decode cX7_tick 8 = .ok (.if_icmp .le 13, 3) := by decide +kernel
theorem dX7_tick_11 : decode cX7_tick 11 = .ok (.new 78, 3) := by decide +kernel
theorem dX7_tick_14 : decode cX7_tick 14 = .ok (.dup, 1) := by decide +kernel
theorem dX7_tick_15 : decode cX7_tick 15 = .ok (.ldc 190, 2) := by decide +kernel
theorem dX7_tick_17 : decode cX7_tick 17 = .ok (.invokespecial 82, 3) := by decide +kernel
theorem dX7_tick_20 : decode cX7_tick 20 = .ok (.athrow, 1) := by decide +kernel
theorem dX7_tick_21 : decode cX7_tick 21 = .ok (.iconst 0, 1) := by decide +kernel
theorem dX7_tick_22 : decode cX7_tick 22 = .ok (.istore_n 2, 1) := by decide +kernel
theorem dX7_tick_23 : decode cX7_tick 23 = .ok (.iconst 0, 1) := by decide +kernel
theorem dX7_tick_24 : decode cX7_tick 24 = .ok (.istore_n 3, 1) := by decide +kernel
theorem dX7_tick_25 : decode cX7_tick 25 = .ok (.iload_n 3, 1) := by decide +kernel
theorem dX7_tick_26 : decode cX7_tick 26 = .ok (.iload_n 1, 1) := by decide +kernel
theorem dX7_tick_27 : decode cX7_tick 27 = .ok (.if_icmp .ge 20, 3) := by decide +kernel
theorem dX7_tick_30 : decode cX7_tick 30 = .ok (.iload_n 2, 1) := by decide +kernel
theorem dX7_tick_31 : decode cX7_tick 31 = .ok (.aload_n 0, 1) := by decide +kernel
theorem dX7_tick_32 : decode cX7_tick 32 = .ok (.invokevirtual 192, 3) := by decide +kernel
theorem dX7_tick_35 : decode cX7_tick 35 = .ok (.iadd, 1) := by decide +kernel
theorem dX7_tick_36 : decode cX7_tick 36 = .ok (.istore_n 2, 1) := by decide +kernel
theorem dX7_tick_37 : decode cX7_tick 37 = .ok (.aload_n 0, 1) := by decide +kernel
theorem dX7_tick_38 : decode cX7_tick 38 = .ok (.invokevirtual 195, 3) := by decide +kernel
theorem dX7_tick_41 : decode cX7_tick 41 = .ok (.iinc 3 1, 3) := by decide +kernel
theorem dX7_tick_44 : decode cX7_tick 44 = .ok (.goto (-19), 3) := by decide +kernel
theorem dX7_tick_47 : decode cX7_tick 47 = .ok (.iload_n 2, 1) := by decide +kernel
theorem dX7_tick_48 : decode cX7_tick 48 = .ok (.ireturn, 1) := by decide +kernel
set_option maxRecDepth 20000 in
theorem ggX7_slide_X7_checkKiosk : GoodIn wsX7_slide wsX7_checkKiosk := goodIn_ca (goodIn_r _ [9, 10, 11, 12, 13, 14, 15, 16, 17, 18, 19, 20, 21] (by decide +kernel) (by decide +kernel)) (goodIn_sub (fun _ h => List.mem_cons_of_mem _ (List.mem_append_right _ h)) (by decide +kernel))
set_option maxRecDepth 20000 in
theorem gX7_slide_X7_checkKiosk : GoodIn wsX7_slide (wsV RX7 104 RX7 yX7_checkKiosk wsX7_checkKiosk) := goodIn_app (goodIn_of _ (by decide +kernel)) ggX7_slide_X7_checkKiosk
theorem dX7_slide_0 : decode cX7_slide 0 = .ok (.aload_n 0, 1) := by decide +kernel
theorem dX7_slide_1 : decode cX7_slide 1 = .ok (.iload_n 1, 1) := by decide +kernel
theorem dX7_slide_2 : decode cX7_slide 2 = .ok (.invokevirtual 104, 3) := by decide +kernel
theorem dX7_slide_5 : decode cX7_slide 5 = .ok (.aload_n 0, 1) := by decide +kernel
theorem dX7_slide_6 : decode cX7_slide 6 = .ok (.getfield 17, 3) := by decide +kernel
theorem dX7_slide_9 : decode cX7_slide 9 = .ok (.iload_n 1, 1) := by decide +kernel
theorem dX7_slide_10 : decode cX7_slide 10 = .ok (.aaload, 1) := by decide +kernel
theorem dX7_slide_11 : decode cX7_slide 11 = .ok (.getfield 198, 3) := by decide +kernel
theorem dX7_slide_14 : decode cX7_slide 14 = .ok (.istore_n 2, 1) := by decide +kernel
theorem dX7_slide_15 : decode cX7_slide 15 = .ok (.iload_n 2, 1) := by decide +kernel
theorem dX7_slide_16 : decode cX7_slide 16 = .ok (.iconst (-1), 1) := by decide +kernel
theorem dX7_slide_17 : decode cX7_slide 17 = .ok (.if_icmp .ne 13, 3) := by decide +kernel
theorem dX7_slide_20 : decode cX7_slide 20 = .ok (.new 165, 3) := by decide +kernel
theorem dX7_slide_23 : decode cX7_slide 23 = .ok (.dup, 1) := by decide +kernel
theorem dX7_slide_24 : decode cX7_slide 24 = .ok (.ldc 201, 2) := by decide +kernel
theorem dX7_slide_26 : decode cX7_slide 26 = .ok (.invokespecial 169, 3) := by decide +kernel
theorem dX7_slide_29 : decode cX7_slide 29 = .ok (.athrow, 1) := by decide +kernel
theorem dX7_slide_30 : decode cX7_slide 30 = .ok (.iload_n 2, 1) := by decide +kernel
theorem dX7_slide_31 : decode cX7_slide 31 = .ok (.ireturn, 1) := by decide +kernel
theorem dX7_done_0 : decode cX7_done 0 = .ok (.aload_n 0, 1) := by decide +kernel
theorem dX7_done_1 : decode cX7_done 1 = .ok (.getfield 230, 3) := by decide +kernel
theorem dX7_done_4 : decode cX7_done 4 = .ok (.lreturn, 1) := by decide +kernel
theorem dX7_meanSeen_0 : decode cX7_meanSeen 0 = .ok (.aload_n 0, 1) := by decide +kernel
theorem dX7_meanSeen_1 : decode cX7_meanSeen 1 = .ok (.getfield 208, 3) := by decide +kernel
theorem dX7_meanSeen_4 : decode cX7_meanSeen 4 = .ok (.ifCond .ne 13, 3) := by decide +kernel
theorem dX7_meanSeen_7 : decode cX7_meanSeen 7 = .ok (.new 243, 3) := by decide +kernel
theorem dX7_meanSeen_10 : decode cX7_meanSeen 10 = .ok (.dup, 1) := by decide +kernel
theorem dX7_meanSeen_11 : decode cX7_meanSeen 11 = .ok (.ldc 245, 2) := by decide +kernel
theorem dX7_meanSeen_13 : decode cX7_meanSeen 13 = .ok (.invokespecial 247, 3) := by decide +kernel
theorem dX7_meanSeen_16 : decode cX7_meanSeen 16 = .ok (.athrow, 1) := by decide +kernel
theorem dX7_meanSeen_17 : decode cX7_meanSeen 17 = .ok (.lconst 0, 1) := by decide +kernel
theorem dX7_meanSeen_18 : decode cX7_meanSeen 18 = .ok (.lstore_n 1, 1) := by decide +kernel
theorem dX7_meanSeen_19 : decode cX7_meanSeen 19 = .ok (.iconst 0, 1) := by decide +kernel
theorem dX7_meanSeen_20 : decode cX7_meanSeen 20 = .ok (.istore_n 3, 1) := by decide +kernel
theorem dX7_meanSeen_21 : decode cX7_meanSeen 21 = .ok (.iload_n 3, 1) := by decide +kernel
theorem dX7_meanSeen_22 : decode cX7_meanSeen 22 = .ok (.aload_n 0, 1) := by decide +kernel
theorem dX7_meanSeen_23 : decode cX7_meanSeen 23 = .ok (.getfield 208, 3) := by decide +kernel
theorem dX7_meanSeen_26 : decode cX7_meanSeen 26 = .ok (.if_icmp .ge 41, 3) := by decide +kernel
theorem dX7_meanSeen_29 : decode cX7_meanSeen 29 = .ok (.iconst 0, 1) := by decide +kernel
theorem dX7_meanSeen_30 : decode cX7_meanSeen 30 = .ok (.istore 4, 2) := by decide +kernel
theorem dX7_meanSeen_32 : decode cX7_meanSeen 32 = .ok (.iload 4, 2) := by decide +kernel
theorem dX7_meanSeen_34 : decode cX7_meanSeen 34 = .ok (.bipush 100, 2) := by decide +kernel
theorem dX7_meanSeen_36 : decode cX7_meanSeen 36 = .ok (.if_icmp .ge 25, 3) := by decide +kernel
theorem dX7_meanSeen_39 : decode cX7_meanSeen 39 = .ok (.lload_n 1, 1) := by decide +kernel
theorem dX7_meanSeen_40 : decode cX7_meanSeen 40 = .ok (.aload_n 0, 1) := by decide +kernel
theorem dX7_meanSeen_41 : decode cX7_meanSeen 41 = .ok (.getfield 35, 3) := by decide +kernel
theorem dX7_meanSeen_44 : decode cX7_meanSeen 44 = .ok (.iload_n 3, 1) := by decide +kernel
theorem dX7_meanSeen_45 : decode cX7_meanSeen 45 = .ok (.aaload, 1) := by decide +kernel
theorem dX7_meanSeen_46 : decode cX7_meanSeen 46 = .ok (.getfield 227, 3) := by decide +kernel
theorem dX7_meanSeen_49 : decode cX7_meanSeen 49 = .ok (.iload 4, 2) := by decide +kernel
theorem dX7_meanSeen_51 : decode cX7_meanSeen 51 = .ok (.iaload, 1) := by decide +kernel
theorem dX7_meanSeen_52 : decode cX7_meanSeen 52 = .ok (.i2l, 1) := by decide +kernel
theorem dX7_meanSeen_53 : decode cX7_meanSeen 53 = .ok (.ladd, 1) := by decide +kernel
theorem dX7_meanSeen_54 : decode cX7_meanSeen 54 = .ok (.lstore_n 1, 1) := by decide +kernel
theorem dX7_meanSeen_55 : decode cX7_meanSeen 55 = .ok (.iinc 4 1, 3) := by decide +kernel
theorem dX7_meanSeen_58 : decode cX7_meanSeen 58 = .ok (.goto (-26), 3) := by decide +kernel
theorem dX7_meanSeen_61 : decode cX7_meanSeen 61 = .ok (.iinc 3 1, 3) := by decide +kernel
theorem dX7_meanSeen_64 : decode cX7_meanSeen 64 = .ok (.goto (-43), 3) := by decide +kernel
theorem dX7_meanSeen_67 : decode cX7_meanSeen 67 = .ok (.lload_n 1, 1) := by decide +kernel
theorem dX7_meanSeen_68 : decode cX7_meanSeen 68 = .ok (.l2d, 1) := by decide +kernel
theorem dX7_meanSeen_69 : decode cX7_meanSeen 69 = .ok (.aload_n 0, 1) := by decide +kernel
theorem dX7_meanSeen_70 : decode cX7_meanSeen 70 = .ok (.getfield 208, 3) := by decide +kernel
theorem dX7_meanSeen_73 : decode cX7_meanSeen 73 = .ok (.i2d, 1) := by decide +kernel
theorem dX7_meanSeen_74 : decode cX7_meanSeen 74 = .ok (.ddiv, 1) := by decide +kernel
theorem dX7_meanSeen_75 : decode cX7_meanSeen 75 = .ok (.dreturn, 1) := by decide +kernel
set_option maxRecDepth 20000 in
theorem ggX7_isSound_X7_holdersAreSound : GoodIn wsX7_isSound wsX7_holdersAreSound := goodIn_r _ [5, 6, 7, 8, 9, 10, 11, 12, 4, 13, 35, 36, 37, 38, 39, 40, 41, 42, 43, 44, 45, 46, 47, 48, 49, 50, 51, 52, 53, 54] (by decide +kernel) (by decide +kernel)
set_option maxRecDepth 20000 in
theorem gX7_isSound_X7_holdersAreSound : GoodIn wsX7_isSound (wsV RX7 248 RX7 yX7_holdersAreSound wsX7_holdersAreSound) := goodIn_app (goodIn_of _ (by decide +kernel)) ggX7_isSound_X7_holdersAreSound
set_option maxRecDepth 20000 in
theorem ggX7_isSound_X7_queuesAreSound : GoodIn wsX7_isSound wsX7_queuesAreSound := goodIn_ca (goodIn_r _ [17, 8, 9, 18, 6, 19, 20, 21, 22, 23, 24, 25, 26, 35, 36, 37, 38, 39, 40, 41, 42, 43, 46, 47, 48, 49, 50, 51, 52, 53, 54, 44, 45, 55, 56] (by decide +kernel) (by decide +kernel)) (goodIn_sub (fun _ h => List.mem_cons_of_mem _ (List.mem_append_right _ h)) (by decide +kernel))
set_option maxRecDepth 20000 in
theorem gX7_isSound_X7_queuesAreSound : GoodIn wsX7_isSound (wsV RX7 252 RX7 yX7_queuesAreSound wsX7_queuesAreSound) := goodIn_app (goodIn_of _ (by decide +kernel)) ggX7_isSound_X7_queuesAreSound
set_option maxRecDepth 20000 in
theorem ggX7_isSound_X7_visitorsAreSound : GoodIn wsX7_isSound wsX7_visitorsAreSound := goodIn_ca (goodIn_r _ [30, 31, 32, 33, 34, 35, 36, 37, 38, 39, 40, 41, 42, 43, 57, 58, 59, 60] (by decide +kernel) (by decide +kernel)) (goodIn_sub (fun _ h => List.mem_cons_of_mem _ (List.mem_append_right _ h)) (by decide +kernel))
set_option maxRecDepth 20000 in
theorem gX7_isSound_X7_visitorsAreSound : GoodIn wsX7_isSound (wsV RX7 255 RX7 yX7_visitorsAreSound wsX7_visitorsAreSound) := goodIn_app (goodIn_of _ (by decide +kernel)) ggX7_isSound_X7_visitorsAreSound
theorem dX7_isSound_0 : decode cX7_isSound 0 = .ok (.aload_n 0, 1) := by decide +kernel
theorem dX7_isSound_1 : decode cX7_isSound 1 = .ok (.invokevirtual 248, 3) := by decide +kernel
theorem dX7_isSound_4 : decode cX7_isSound 4 = .ok (.ifCond .eq 21, 3) := by decide +kernel
theorem dX7_isSound_7 : decode cX7_isSound 7 = .ok (.aload_n 0, 1) := by decide +kernel
theorem dX7_isSound_8 : decode cX7_isSound 8 = .ok (.invokevirtual 252, 3) := by decide +kernel
theorem dX7_isSound_11 : decode cX7_isSound 11 = .ok (.ifCond .eq 14, 3) := by decide +kernel
theorem dX7_isSound_14 : decode cX7_isSound 14 = .ok (.aload_n 0, 1) := by decide +kernel
theorem dX7_isSound_15 : decode cX7_isSound 15 = .ok (.invokevirtual 255, 3) := by decide +kernel
theorem dX7_isSound_18 : decode cX7_isSound 18 = .ok (.ifCond .eq 7, 3) := by decide +kernel
theorem dX7_isSound_21 : decode cX7_isSound 21 = .ok (.iconst 1, 1) := by decide +kernel
theorem dX7_isSound_22 : decode cX7_isSound 22 = .ok (.goto 4, 3) := by decide +kernel
theorem dX7_isSound_25 : decode cX7_isSound 25 = .ok (.iconst 0, 1) := by decide +kernel
theorem dX7_isSound_26 : decode cX7_isSound 26 = .ok (.ireturn, 1) := by decide +kernel
theorem dX7_checkList_0 : decode cX7_checkList 0 = .ok (.iload_n 1, 1) := by decide +kernel
theorem dX7_checkList_1 : decode cX7_checkList 1 = .ok (.ifCond .lt 11, 3) := by decide +kernel
theorem dX7_checkList_4 : decode cX7_checkList 4 = .ok (.iload_n 1, 1) := by decide +kernel
theorem dX7_checkList_5 : decode cX7_checkList 5 = .ok (.aload_n 0, 1) := by decide +kernel
theorem dX7_checkList_6 : decode cX7_checkList 6 = .ok (.getfield 44, 3) := by decide +kernel
theorem dX7_checkList_9 : decode cX7_checkList 9 = .ok (.if_icmp .lt 14, 3) := by decide +kernel
theorem dX7_checkList_12 : decode cX7_checkList 12 = .ok (.new 62, 3) := by decide +kernel
theorem dX7_checkList_15 : decode cX7_checkList 15 = .ok (.dup, 1) := by decide +kernel
theorem dX7_checkList_16 : decode cX7_checkList 16 = .ok (.ldc_w 258, 3) := by decide +kernel
theorem dX7_checkList_19 : decode cX7_checkList 19 = .ok (.invokespecial 66, 3) := by decide +kernel
theorem dX7_checkList_22 : decode cX7_checkList 22 = .ok (.athrow, 1) := by decide +kernel
theorem dX7_checkList_23 : decode cX7_checkList 23 = .ok (.return_, 1) := by decide +kernel
theorem dX7_checkKiosk_0 : decode cX7_checkKiosk 0 = .ok (.iload_n 1, 1) := by decide +kernel
theorem dX7_checkKiosk_1 : decode cX7_checkKiosk 1 = .ok (.ifCond .lt 11, 3) := by decide +kernel
theorem dX7_checkKiosk_4 : decode cX7_checkKiosk 4 = .ok (.iload_n 1, 1) := by decide +kernel
theorem dX7_checkKiosk_5 : decode cX7_checkKiosk 5 = .ok (.aload_n 0, 1) := by decide +kernel
theorem dX7_checkKiosk_6 : decode cX7_checkKiosk 6 = .ok (.getfield 99, 3) := by decide +kernel
theorem dX7_checkKiosk_9 : decode cX7_checkKiosk 9 = .ok (.if_icmp .lt 14, 3) := by decide +kernel
theorem dX7_checkKiosk_12 : decode cX7_checkKiosk 12 = .ok (.new 62, 3) := by decide +kernel
theorem dX7_checkKiosk_15 : decode cX7_checkKiosk 15 = .ok (.dup, 1) := by decide +kernel
theorem dX7_checkKiosk_16 : decode cX7_checkKiosk 16 = .ok (.ldc_w 260, 3) := by decide +kernel
theorem dX7_checkKiosk_19 : decode cX7_checkKiosk 19 = .ok (.invokespecial 66, 3) := by decide +kernel
theorem dX7_checkKiosk_22 : decode cX7_checkKiosk 22 = .ok (.athrow, 1) := by decide +kernel
theorem dX7_checkKiosk_23 : decode cX7_checkKiosk 23 = .ok (.return_, 1) := by decide +kernel
set_option maxRecDepth 20000 in
theorem ggX7_checkPlayer_X7_checkKiosk : GoodIn wsX7_checkPlayer wsX7_checkKiosk := goodIn_ca (goodIn_r _ [9, 10, 11, 12, 13, 14, 15, 16, 17, 18, 19, 20, 21] (by decide +kernel) (by decide +kernel)) (goodIn_sub (fun _ h => List.mem_cons_of_mem _ (List.mem_append_right _ h)) (by decide +kernel))
set_option maxRecDepth 20000 in
theorem gX7_checkPlayer_X7_checkKiosk : GoodIn wsX7_checkPlayer (wsV RX7 104 RX7 yX7_checkKiosk wsX7_checkKiosk) := goodIn_app (goodIn_of _ (by decide +kernel)) ggX7_checkPlayer_X7_checkKiosk
theorem dX7_checkPlayer_0 : decode cX7_checkPlayer 0 = .ok (.aload_n 0, 1) := by decide +kernel
theorem dX7_checkPlayer_1 : decode cX7_checkPlayer 1 = .ok (.iload_n 1, 1) := by decide +kernel
theorem dX7_checkPlayer_2 : decode cX7_checkPlayer 2 = .ok (.invokevirtual 104, 3) := by decide +kernel
theorem dX7_checkPlayer_5 : decode cX7_checkPlayer 5 = .ok (.aload_n 0, 1) := by decide +kernel
theorem dX7_checkPlayer_6 : decode cX7_checkPlayer 6 = .ok (.getfield 23, 3) := by decide +kernel
theorem dX7_checkPlayer_9 : decode cX7_checkPlayer 9 = .ok (.iload_n 1, 1) := by decide +kernel
theorem dX7_checkPlayer_10 : decode cX7_checkPlayer 10 = .ok (.aaload, 1) := by decide +kernel
theorem dX7_checkPlayer_11 : decode cX7_checkPlayer 11 = .ok (.getfield 107, 3) := by decide +kernel
theorem dX7_checkPlayer_14 : decode cX7_checkPlayer 14 = .ok (.ifCond .ne 14, 3) := by decide +kernel
theorem dX7_checkPlayer_17 : decode cX7_checkPlayer 17 = .ok (.new 165, 3) := by decide +kernel
theorem dX7_checkPlayer_20 : decode cX7_checkPlayer 20 = .ok (.dup, 1) := by decide +kernel
theorem dX7_checkPlayer_21 : decode cX7_checkPlayer 21 = .ok (.ldc_w 262, 3) := by decide +kernel
theorem dX7_checkPlayer_24 : decode cX7_checkPlayer 24 = .ok (.invokespecial 169, 3) := by decide +kernel
theorem dX7_checkPlayer_27 : decode cX7_checkPlayer 27 = .ok (.athrow, 1) := by decide +kernel
theorem dX7_checkPlayer_28 : decode cX7_checkPlayer 28 = .ok (.return_, 1) := by decide +kernel
set_option maxRecDepth 20000 in
theorem ggX7_checkKind_X7_mostNumber : GoodIn wsX7_checkKind wsX7_mostNumber := goodIn_r _ [6] (by decide +kernel) (by decide +kernel)
set_option maxRecDepth 20000 in
theorem gX7_checkKind_X7_mostNumber : GoodIn wsX7_checkKind (va_wsS RX7 75 yX7_mostNumber wsX7_mostNumber) := goodIn_app (goodIn_of _ (by decide +kernel)) ggX7_checkKind_X7_mostNumber
theorem dX7_checkKind_0 : decode cX7_checkKind 0 = .ok (.iload_n 0, 1) := by decide +kernel
theorem dX7_checkKind_1 : decode cX7_checkKind 1 = .ok (.invokestatic 75, 3) := by decide +kernel
theorem dX7_checkKind_4 : decode cX7_checkKind 4 = .ok (.iconst (-1), 1) := by decide +kernel
theorem dX7_checkKind_5 : decode cX7_checkKind 5 = .ok (.if_icmp .ne 14, 3) := by decide +kernel
theorem dX7_checkKind_8 : decode cX7_checkKind 8 = .ok (.new 78, 3) := by decide +kernel
theorem dX7_checkKind_11 : decode cX7_checkKind 11 = .ok (.dup, 1) := by decide +kernel
theorem dX7_checkKind_12 : decode cX7_checkKind 12 = .ok (.ldc_w 270, 3) := by decide +kernel
theorem dX7_checkKind_15 : decode cX7_checkKind 15 = .ok (.invokespecial 82, 3) := by decide +kernel
theorem dX7_checkKind_18 : decode cX7_checkKind 18 = .ok (.athrow, 1) := by decide +kernel
theorem dX7_checkKind_19 : decode cX7_checkKind 19 = .ok (.return_, 1) := by decide +kernel
theorem dX7_leastNumber_0 : decode cX7_leastNumber 0 = .ok (.iload_n 0, 1) := by decide +kernel
theorem dX7_leastNumber_1 : decode cX7_leastNumber 1 = .ok (.bipush 119, 2) := by decide +kernel
theorem dX7_leastNumber_3 : decode cX7_leastNumber 3 = .ok (.if_icmp .ne 7, 3) := by decide +kernel
theorem dX7_leastNumber_6 : decode cX7_leastNumber 6 = .ok (.iconst 1, 1) := by decide +kernel
theorem dX7_leastNumber_7 : decode cX7_leastNumber 7 = .ok (.goto 4, 3) := by decide +kernel
theorem dX7_leastNumber_10 : decode cX7_leastNumber 10 = .ok (.iconst 0, 1) := by decide +kernel
theorem dX7_leastNumber_11 : decode cX7_leastNumber 11 = .ok (.ireturn, 1) := by decide +kernel
theorem dX7_mostNumber_0 : decode cX7_mostNumber 0 = .ok (.iload_n 0, 1) := by decide +kernel
theorem dX7_mostNumber_1 : decode cX7_mostNumber 1 = .ok (.tableswitch 116 99 119 #[110, 105, 116, 105, 107, 116, 116, 116, 116, 107, 116, 116, 116, 113, 116, 116, 99, 116, 116, 107, 102], 99) := by decide +kernel
theorem dX7_mostNumber_100 : decode cX7_mostNumber 100 = .ok (.bipush 99, 2) := by decide +kernel
theorem dX7_mostNumber_102 : decode cX7_mostNumber 102 = .ok (.ireturn, 1) := by decide +kernel
theorem dX7_mostNumber_103 : decode cX7_mostNumber 103 = .ok (.bipush 20, 2) := by decide +kernel
theorem dX7_mostNumber_105 : decode cX7_mostNumber 105 = .ok (.ireturn, 1) := by decide +kernel
theorem dX7_mostNumber_106 : decode cX7_mostNumber 106 = .ok (.iconst 5, 1) := by decide +kernel
theorem dX7_mostNumber_107 : decode cX7_mostNumber 107 = .ok (.ireturn, 1) := by decide +kernel
theorem dX7_mostNumber_108 : decode cX7_mostNumber 108 = .ok (.bipush 20, 2) := by decide +kernel
theorem dX7_mostNumber_110 : decode cX7_mostNumber 110 = .ok (.ireturn, 1) := by decide +kernel
theorem dX7_mostNumber_111 : decode cX7_mostNumber 111 = .ok (.bipush 99, 2) := by decide +kernel
theorem dX7_mostNumber_113 : decode cX7_mostNumber 113 = .ok (.ireturn, 1) := by decide +kernel
theorem dX7_mostNumber_114 : decode cX7_mostNumber 114 = .ok (.bipush 7, 2) := by decide +kernel
theorem dX7_mostNumber_116 : decode cX7_mostNumber 116 = .ok (.ireturn, 1) := by decide +kernel
theorem dX7_mostNumber_117 : decode cX7_mostNumber 117 = .ok (.iconst (-1), 1) := by decide +kernel
theorem dX7_mostNumber_118 : decode cX7_mostNumber 118 = .ok (.ireturn, 1) := by decide +kernel
set_option maxRecDepth 20000 in
theorem ggX7_playOneTick_X7_takeTurn : GoodIn wsX7_playOneTick wsX7_takeTurn := goodIn_ca (goodIn_r _ [12, 13, 14, 15, 16, 17, 18, 19, 11, 20, 21, 22, 23, 24, 25, 26, 27, 28, 29, 30, 31, 32, 33, 34, 35, 36, 37, 38, 39, 40, 41, 42, 43, 44, 45, 46, 47, 48, 49, 50, 51, 52, 53, 54, 55, 56, 57, 58, 59, 60, 61, 62, 63, 64, 65, 66, 67, 68, 69, 70, 71, 72, 73, 74, 75, 76, 77, 78, 79, 80, 81, 82, 83, 2, 84, 85, 86, 87, 88, 89, 90, 91, 92, 93, 94, 95, 96, 97, 98, 99, 100, 101, 102, 103, 104, 105, 106, 107, 108, 109, 110, 111, 112, 113, 114, 115, 116, 117, 118, 119, 5, 7, 6, 120, 121, 122, 123, 124, 125, 126, 127, 128, 145, 146, 147, 148, 149, 150, 151, 152, 153, 129, 130, 131, 132, 133, 134, 135, 136, 137, 154, 155, 156, 157, 158, 159, 160, 161, 162, 138, 139, 140, 141, 142, 143, 144] (by decide +kernel) (by decide +kernel)) (goodIn_sub (fun _ h => List.mem_cons_of_mem _ (List.mem_append_right _ h)) (by decide +kernel))
set_option maxRecDepth 20000 in
theorem gX7_playOneTick_X7_takeTurn : GoodIn wsX7_playOneTick (wsV RX7 272 RX7 yX7_takeTurn wsX7_takeTurn) := goodIn_app (goodIn_of _ (by decide +kernel)) ggX7_playOneTick_X7_takeTurn
theorem dX7_playOneTick_0 : decode cX7_playOneTick 0 = .ok (.iconst 0, 1) := by decide +kernel
theorem dX7_playOneTick_1 : decode cX7_playOneTick 1 = .ok (.istore_n 1, 1) := by decide +kernel
theorem dX7_playOneTick_2 : decode cX7_playOneTick 2 = .ok (.iconst 0, 1) := by decide +kernel
theorem dX7_playOneTick_3 : decode cX7_playOneTick 3 = .ok (.istore_n 2, 1) := by decide +kernel
theorem dX7_playOneTick_4 : decode cX7_playOneTick 4 = .ok (.iload_n 2, 1) := by decide +kernel
theorem dX7_playOneTick_5 : decode cX7_playOneTick 5 = .ok (.aload_n 0, 1) := by decide +kernel
theorem dX7_playOneTick_6 : decode cX7_playOneTick 6 = .ok (.getfield 99, 3) := by decide +kernel
theorem dX7_playOneTick_9 : decode cX7_playOneTick 9 = .ok (.if_icmp .ge 75, 3) := by decide +kernel
theorem dX7_playOneTick_12 : decode cX7_playOneTick 12 = .ok (.aload_n 0, 1) := by decide +kernel
theorem dX7_playOneTick_13 : decode cX7_playOneTick 13 = .ok (.getfield 17, 3) := by decide +kernel
theorem dX7_playOneTick_16 : decode cX7_playOneTick 16 = .ok (.iload_n 2, 1) := by decide +kernel
theorem dX7_playOneTick_17 : decode cX7_playOneTick 17 = .ok (.aaload, 1) := by decide +kernel
theorem dX7_playOneTick_18 : decode cX7_playOneTick 18 = .ok (.getfield 149, 3) := by decide +kernel
theorem dX7_playOneTick_21 : decode cX7_playOneTick 21 = .ok (.ifCond .ne 57, 3) := by decide +kernel
theorem dX7_playOneTick_24 : decode cX7_playOneTick 24 = .ok (.aload_n 0, 1) := by decide +kernel
theorem dX7_playOneTick_25 : decode cX7_playOneTick 25 = .ok (.getfield 17, 3) := by decide +kernel
theorem dX7_playOneTick_28 : decode cX7_playOneTick 28 = .ok (.iload_n 2, 1) := by decide +kernel
theorem dX7_playOneTick_29 : decode cX7_playOneTick 29 = .ok (.aaload, 1) := by decide +kernel
theorem dX7_playOneTick_30 : decode cX7_playOneTick 30 = .ok (.getfield 161, 3) := by decide +kernel
theorem dX7_playOneTick_33 : decode cX7_playOneTick 33 = .ok (.astore_n 3, 1) := by decide +kernel
theorem dX7_playOneTick_34 : decode cX7_playOneTick 34 = .ok (.iconst 0, 1) := by decide +kernel
theorem dX7_playOneTick_35 : decode cX7_playOneTick 35 = .ok (.istore 4, 2) := by decide +kernel
theorem dX7_playOneTick_37 : decode cX7_playOneTick 37 = .ok (.iload 4, 2) := by decide +kernel
theorem dX7_playOneTick_39 : decode cX7_playOneTick 39 = .ok (.aload_n 3, 1) := by decide +kernel
theorem dX7_playOneTick_40 : decode cX7_playOneTick 40 = .ok (.getfield 164, 3) := by decide +kernel
theorem dX7_playOneTick_43 : decode cX7_playOneTick 43 = .ok (.if_icmp .ge 35, 3) := by decide +kernel
theorem dX7_playOneTick_46 : decode cX7_playOneTick 46 = .ok (.iload_n 1, 1) := by decide +kernel
theorem dX7_playOneTick_47 : decode cX7_playOneTick 47 = .ok (.aload_n 0, 1) := by decide +kernel
theorem dX7_playOneTick_48 : decode cX7_playOneTick 48 = .ok (.aload_n 0, 1) := by decide +kernel
theorem dX7_playOneTick_49 : decode cX7_playOneTick 49 = .ok (.getfield 23, 3) := by decide +kernel
theorem dX7_playOneTick_52 : decode cX7_playOneTick 52 = .ok (.aload_n 3, 1) := by decide +kernel
theorem dX7_playOneTick_53 : decode cX7_playOneTick 53 = .ok (.getfield 170, 3) := by decide +kernel
theorem dX7_playOneTick_56 : decode cX7_playOneTick 56 = .ok (.iload 4, 2) := by decide +kernel
theorem dX7_playOneTick_58 : decode cX7_playOneTick 58 = .ok (.iaload, 1) := by decide +kernel
theorem dX7_playOneTick_59 : decode cX7_playOneTick 59 = .ok (.aaload, 1) := by decide +kernel
theorem dX7_playOneTick_60 : decode cX7_playOneTick 60 = .ok (.aload_n 3, 1) := by decide +kernel
theorem dX7_playOneTick_61 : decode cX7_playOneTick 61 = .ok (.getfield 170, 3) := by decide +kernel
theorem dX7_playOneTick_64 : decode cX7_playOneTick 64 = .ok (.iload 4, 2) := by decide +kernel
theorem dX7_playOneTick_66 : decode cX7_playOneTick 66 = .ok (.iaload, 1) := by decide +kernel
theorem dX7_playOneTick_67 : decode cX7_playOneTick 67 = .ok (.invokevirtual 272, 3) := by decide +kernel
theorem dX7_playOneTick_70 : decode cX7_playOneTick 70 = .ok (.iadd, 1) := by decide +kernel
theorem dX7_playOneTick_71 : decode cX7_playOneTick 71 = .ok (.istore_n 1, 1) := by decide +kernel
theorem dX7_playOneTick_72 : decode cX7_playOneTick 72 = .ok (.iinc 4 1, 3) := by decide +kernel
theorem dX7_playOneTick_75 : decode cX7_playOneTick 75 = .ok (.goto (-38), 3) := by decide +kernel
theorem dX7_playOneTick_78 : decode cX7_playOneTick 78 = .ok (.iinc 2 1, 3) := by decide +kernel
theorem dX7_playOneTick_81 : decode cX7_playOneTick 81 = .ok (.goto (-77), 3) := by decide +kernel
theorem dX7_playOneTick_84 : decode cX7_playOneTick 84 = .ok (.iload_n 1, 1) := by decide +kernel
theorem dX7_playOneTick_85 : decode cX7_playOneTick 85 = .ok (.ireturn, 1) := by decide +kernel
set_option maxRecDepth 20000 in
theorem ggX7_takeTurn_X7_doLine : GoodIn wsX7_takeTurn wsX7_doLine := goodIn_ca (goodIn_r _ [9, 10, 11, 12, 3, 13, 14, 15, 16, 17, 18, 19, 20, 21, 22, 23, 24, 25, 26, 27, 28, 29, 30, 31, 32, 33, 34, 35, 36, 37, 38, 39, 40, 41, 42, 43, 44, 45, 46, 47, 48, 49, 50, 51, 52, 53, 54, 55, 56, 57, 58, 8, 59, 60, 1, 61, 62, 63, 64, 65, 66, 67, 68, 69, 70, 71, 72, 73, 74, 4, 75, 76, 77, 78, 79, 80, 81, 82, 83, 84, 85, 86, 87, 88, 89, 90, 91, 92, 93, 94, 2, 95, 96, 97, 98, 99, 100, 101, 102, 103, 104, 105, 106, 107, 108, 109, 110, 111, 112, 113, 114, 115, 116, 117, 118, 119, 120, 121, 131, 132, 133, 134, 135, 136, 137, 138, 139, 122, 123, 124, 125, 126, 127, 128, 129, 130, 140, 141, 142, 143, 144, 145, 146, 147, 148, 149, 150, 151, 152, 153, 154, 155] (by decide +kernel) (by decide +kernel)) (goodIn_sub (fun _ h => List.mem_cons_of_mem _ (List.mem_append_right _ h)) (by decide +kernel))
set_option maxRecDepth 20000 in
theorem gX7_takeTurn_X7_doLine : GoodIn wsX7_takeTurn (wsV RX7 282 RX7 yX7_doLine wsX7_doLine) := goodIn_app (goodIn_of _ (by decide +kernel)) ggX7_takeTurn_X7_doLine
theorem dX7_takeTurn_0 : decode cX7_takeTurn 0 = .ok (.aload_n 1, 1) := by decide +kernel
theorem dX7_takeTurn_1 : decode cX7_takeTurn 1 = .ok (.getfield 187, 3) := by decide +kernel
theorem dX7_takeTurn_4 : decode cX7_takeTurn 4 = .ok (.ifCond .le 15, 3) := by decide +kernel
theorem dX7_takeTurn_7 : decode cX7_takeTurn 7 = .ok (.aload_n 1, 1) := by decide +kernel
theorem dX7_takeTurn_8 : decode cX7_takeTurn 8 = .ok (.dup, 1) := by decide +kernel
theorem dX7_takeTurn_9 : decode cX7_takeTurn 9 = .ok (.getfield 187, 3) := by decide +kernel
theorem dX7_takeTurn_12 : decode cX7_takeTurn 12 = .ok (.iconst 1, 1) := by decide +kernel
theorem dX7_takeTurn_13 : decode cX7_takeTurn 13 = .ok (.isub, 1) := by decide +kernel
theorem dX7_takeTurn_14 : decode cX7_takeTurn 14 = .ok (.putfield 187, 3) := by decide +kernel
theorem dX7_takeTurn_17 : decode cX7_takeTurn 17 = .ok (.iconst 0, 1) := by decide +kernel
theorem dX7_takeTurn_18 : decode cX7_takeTurn 18 = .ok (.ireturn, 1) := by decide +kernel
theorem dX7_takeTurn_19 : decode cX7_takeTurn 19 = .ok (.aload_n 1, 1) := by decide +kernel
theorem dX7_takeTurn_20 : decode cX7_takeTurn 20 = .ok (.getfield 184, 3) := by decide +kernel
theorem dX7_takeTurn_23 : decode cX7_takeTurn 23 = .ok (.iconst (-1), 1) := by decide +kernel
theorem dX7_takeTurn_24 : decode cX7_takeTurn 24 = .ok (.if_icmp .eq 5, 3) := by decide +kernel
theorem dX7_takeTurn_27 : decode cX7_takeTurn 27 = .ok (.iconst 0, 1) := by decide +kernel
theorem dX7_takeTurn_28 : decode cX7_takeTurn 28 = .ok (.ireturn, 1) := by decide +kernel
theorem dX7_takeTurn_29 : decode cX7_takeTurn 29 = .ok (.getstatic 276, 3) := by decide +kernel
theorem dX7_takeTurn_32 : decode cX7_takeTurn 32 = .ok (.astore_n 3, 1) := by decide +kernel
theorem dX7_takeTurn_33 : decode cX7_takeTurn 33 = .ok (.iconst 0, 1) := by decide +kernel
theorem dX7_takeTurn_34 : decode cX7_takeTurn 34 = .ok (.istore 4, 2) := by decide +kernel
theorem dX7_takeTurn_36 : decode cX7_takeTurn 36 = .ok (.iload 4, 2) := by decide +kernel
theorem dX7_takeTurn_38 : decode cX7_takeTurn 38 = .ok (.bipush 8, 2) := by decide +kernel
theorem dX7_takeTurn_40 : decode cX7_takeTurn 40 = .ok (.if_icmp .ge 23, 3) := by decide +kernel
theorem dX7_takeTurn_43 : decode cX7_takeTurn 43 = .ok (.aload_n 3, 1) := by decide +kernel
theorem dX7_takeTurn_44 : decode cX7_takeTurn 44 = .ok (.getstatic 276, 3) := by decide +kernel
theorem dX7_takeTurn_47 : decode cX7_takeTurn 47 = .ok (.if_acmp .ne 16, 3) := by decide +kernel
theorem dX7_takeTurn_50 : decode cX7_takeTurn 50 = .ok (.aload_n 0, 1) := by decide +kernel
theorem dX7_takeTurn_51 : decode cX7_takeTurn 51 = .ok (.aload_n 1, 1) := by decide +kernel
theorem dX7_takeTurn_52 : decode cX7_takeTurn 52 = .ok (.iload_n 2, 1) := by decide +kernel
theorem dX7_takeTurn_53 : decode cX7_takeTurn 53 = .ok (.invokevirtual 282, 3) := by decide +kernel
theorem dX7_takeTurn_56 : decode cX7_takeTurn 56 = .ok (.astore_n 3, 1) := by decide +kernel
theorem dX7_takeTurn_57 : decode cX7_takeTurn 57 = .ok (.iinc 4 1, 3) := by decide +kernel
theorem dX7_takeTurn_60 : decode cX7_takeTurn 60 = .ok (.goto (-24), 3) := by decide +kernel
theorem dX7_takeTurn_63 : decode cX7_takeTurn 63 = .ok (.aload_n 3, 1) := by decide +kernel
theorem dX7_takeTurn_64 : decode cX7_takeTurn 64 = .ok (.getstatic 286, 3) := by decide +kernel
theorem dX7_takeTurn_67 : decode cX7_takeTurn 67 = .ok (.if_acmp .ne 7, 3) := by decide +kernel
theorem dX7_takeTurn_70 : decode cX7_takeTurn 70 = .ok (.iconst 1, 1) := by decide +kernel
theorem dX7_takeTurn_71 : decode cX7_takeTurn 71 = .ok (.goto 4, 3) := by decide +kernel
theorem dX7_takeTurn_74 : decode cX7_takeTurn 74 = .ok (.iconst 0, 1) := by decide +kernel
theorem dX7_takeTurn_75 : decode cX7_takeTurn 75 = .ok (.ireturn, 1) := by decide +kernel
set_option maxRecDepth 20000 in
theorem ggX7_doLine_X3_takeEndedFromPile : GoodIn wsX7_doLine wsX3_takeEndedFromPile := goodIn_ca (goodIn_r _ [13, 14, 15, 16, 17, 12, 18, 19, 20, 21, 22, 23, 24, 25, 127, 128, 129, 130, 131, 132, 133, 134, 135, 136, 137, 138] (by decide +kernel) (by decide +kernel)) (goodIn_sub (fun _ h => List.mem_cons_of_mem _ (List.mem_append_right _ h)) (by decide +kernel))
set_option maxRecDepth 20000 in
theorem gX7_doLine_X3_takeEndedFromPile : GoodIn wsX7_doLine (wsV RX7 289 RX3 yX3_takeEndedFromPile wsX3_takeEndedFromPile) := goodIn_app (goodIn_of _ (by decide +kernel)) ggX7_doLine_X3_takeEndedFromPile
set_option maxRecDepth 20000 in
theorem ggX7_doLine_X3_isAtEnd : GoodIn wsX7_doLine wsX3_isAtEnd := goodIn_ca (goodIn_r _ [18, 19, 14, 20, 21, 22, 23, 12, 24, 25, 127, 128, 129, 130, 131, 132, 133, 134, 135, 136, 137, 138] (by decide +kernel) (by decide +kernel)) (goodIn_sub (fun _ h => List.mem_cons_of_mem _ (List.mem_append_right _ h)) (by decide +kernel))
set_option maxRecDepth 20000 in
theorem gX7_doLine_X3_isAtEnd : GoodIn wsX7_doLine (wsV RX7 292 RX3 yX3_isAtEnd wsX3_isAtEnd) := goodIn_app (goodIn_of _ (by decide +kernel)) ggX7_doLine_X3_isAtEnd
set_option maxRecDepth 20000 in
theorem ggX7_doLine_X3_beginPile : GoodIn wsX7_doLine wsX3_beginPile := goodIn_ca (goodIn_r _ [30, 14, 31, 32, 33, 12, 34, 19, 25, 35, 36, 37, 38, 39, 40, 41, 42, 127, 128, 129, 130, 131, 132, 133, 134, 135, 136, 137, 138] (by decide +kernel) (by decide +kernel)) (goodIn_sub (fun _ h => List.mem_cons_of_mem _ (List.mem_append_right _ h)) (by decide +kernel))
set_option maxRecDepth 20000 in
theorem gX7_doLine_X3_beginPile : GoodIn wsX7_doLine (wsV RX7 298 RX3 yX3_beginPile wsX3_beginPile) := goodIn_app (goodIn_of _ (by decide +kernel)) ggX7_doLine_X3_beginPile
set_option maxRecDepth 20000 in
theorem ggX7_doLine_X3_lineAhead : GoodIn wsX7_doLine wsX3_lineAhead := goodIn_ca (goodIn_r _ [24, 25, 14, 127, 128, 129, 130, 131, 132, 133, 134, 135] (by decide +kernel) (by decide +kernel)) (goodIn_sub (fun _ h => List.mem_cons_of_mem _ (List.mem_append_right _ h)) (by decide +kernel))
set_option maxRecDepth 20000 in
theorem gX7_doLine_X3_lineAhead : GoodIn wsX7_doLine (wsV RX7 177 RX3 yX3_lineAhead wsX3_lineAhead) := goodIn_app (goodIn_of _ (by decide +kernel)) ggX7_doLine_X3_lineAhead
set_option maxRecDepth 20000 in
theorem ggX7_doLine_X3_goOnAt : GoodIn wsX7_doLine wsX3_goOnAt := goodIn_ca (goodIn_r _ [47, 25, 14, 127, 128, 129, 130, 131, 132, 133, 134, 135] (by decide +kernel) (by decide +kernel)) (goodIn_sub (fun _ h => List.mem_cons_of_mem _ (List.mem_append_right _ h)) (by decide +kernel))
set_option maxRecDepth 20000 in
theorem gX7_doLine_X3_goOnAt : GoodIn wsX7_doLine (wsV RX7 305 RX3 yX3_goOnAt wsX3_goOnAt) := goodIn_app (goodIn_of _ (by decide +kernel)) ggX7_doLine_X3_goOnAt
set_option maxRecDepth 20000 in
theorem ggX7_doLine_X7_obey : GoodIn wsX7_doLine wsX7_obey := goodIn_ca (goodIn_r _ [52, 53, 54, 55, 56, 57, 4, 58, 2, 59, 60, 61, 62, 51, 63, 64, 65, 66, 67, 68, 69, 70, 71, 72, 73, 74, 75, 76, 77, 78, 79, 80, 81, 82, 83, 84, 85, 86, 87, 88, 89, 90, 91, 92, 93, 94, 95, 96, 97, 98, 99, 100, 101, 102, 103, 104, 105, 106, 107, 108, 109, 110, 111, 112, 113, 32, 33, 12, 34, 14, 19, 25, 35, 36, 37, 38, 39, 40, 41, 42, 114, 115, 116, 117, 44, 45, 46, 47, 127, 128, 129, 130, 131, 132, 133, 134, 135, 118, 119, 120, 121, 122, 123, 124, 125, 126, 139, 140, 141, 142, 143, 144, 145, 146, 147, 148, 149, 150, 151, 136, 137, 138] (by decide +kernel) (by decide +kernel)) (goodIn_sub (fun _ h => List.mem_cons_of_mem _ (List.mem_append_right _ h)) (by decide +kernel))
set_option maxRecDepth 20000 in
theorem gX7_doLine_X7_obey : GoodIn wsX7_doLine (wsV RX7 311 RX7 yX7_obey wsX7_obey) := goodIn_app (goodIn_of _ (by decide +kernel)) ggX7_doLine_X7_obey
theorem dX7_doLine_0 : decode cX7_doLine 0 = .ok (.aload_n 1, 1) := by decide +kernel
theorem dX7_doLine_1 : decode cX7_doLine 1 = .ok (.invokevirtual 289, 3) := by decide +kernel
theorem dX7_doLine_4 : decode cX7_doLine 4 = .ok (.aload_n 0, 1) := by decide +kernel
theorem dX7_doLine_5 : decode cX7_doLine 5 = .ok (.dup, 1) := by decide +kernel
theorem dX7_doLine_6 : decode cX7_doLine 6 = .ok (.getfield 230, 3) := by decide +kernel
theorem dX7_doLine_9 : decode cX7_doLine 9 = .ok (.lconst 1, 1) := by decide +kernel
theorem dX7_doLine_10 : decode cX7_doLine 10 = .ok (.ladd, 1) := by decide +kernel
theorem dX7_doLine_11 : decode cX7_doLine 11 = .ok (.putfield 230, 3) := by decide +kernel
theorem dX7_doLine_14 : decode cX7_doLine 14 = .ok (.aload_n 1, 1) := by decide +kernel
theorem dX7_doLine_15 : decode cX7_doLine 15 = .ok (.invokevirtual 292, 3) := by decide +kernel
theorem dX7_doLine_18 : decode cX7_doLine 18 = .ok (.ifCond .eq 20, 3) := by decide +kernel
theorem dX7_doLine_21 : decode cX7_doLine 21 = .ok (.aload_n 1, 1) := by decide +kernel
theorem dX7_doLine_22 : decode cX7_doLine 22 = .ok (.aload_n 0, 1) := by decide +kernel
theorem dX7_doLine_23 : decode cX7_doLine 23 = .ok (.getfield 11, 3) := by decide +kernel
theorem dX7_doLine_26 : decode cX7_doLine 26 = .ok (.aload_n 1, 1) := by decide +kernel
theorem dX7_doLine_27 : decode cX7_doLine 27 = .ok (.getfield 295, 3) := by decide +kernel
theorem dX7_doLine_30 : decode cX7_doLine 30 = .ok (.aaload, 1) := by decide +kernel
theorem dX7_doLine_31 : decode cX7_doLine 31 = .ok (.invokevirtual 298, 3) := by decide +kernel
theorem dX7_doLine_34 : decode cX7_doLine 34 = .ok (.getstatic 276, 3) := by decide +kernel
theorem dX7_doLine_37 : decode cX7_doLine 37 = .ok (.areturn, 1) := by decide +kernel
theorem dX7_doLine_38 : decode cX7_doLine 38 = .ok (.aload_n 1, 1) := by decide +kernel
theorem dX7_doLine_39 : decode cX7_doLine 39 = .ok (.invokevirtual 177, 3) := by decide +kernel
theorem dX7_doLine_42 : decode cX7_doLine 42 = .ok (.istore_n 3, 1) := by decide +kernel
theorem dX7_doLine_43 : decode cX7_doLine 43 = .ok (.aload_n 1, 1) := by decide +kernel
theorem dX7_doLine_44 : decode cX7_doLine 44 = .ok (.getfield 302, 3) := by decide +kernel
theorem dX7_doLine_47 : decode cX7_doLine 47 = .ok (.aload_n 1, 1) := by decide +kernel
theorem dX7_doLine_48 : decode cX7_doLine 48 = .ok (.getfield 174, 3) := by decide +kernel
theorem dX7_doLine_51 : decode cX7_doLine 51 = .ok (.iconst 1, 1) := by decide +kernel
theorem dX7_doLine_52 : decode cX7_doLine 52 = .ok (.isub, 1) := by decide +kernel
theorem dX7_doLine_53 : decode cX7_doLine 53 = .ok (.aaload, 1) := by decide +kernel
theorem dX7_doLine_54 : decode cX7_doLine 54 = .ok (.astore 4, 2) := by decide +kernel
theorem dX7_doLine_56 : decode cX7_doLine 56 = .ok (.aload_n 1, 1) := by decide +kernel
theorem dX7_doLine_57 : decode cX7_doLine 57 = .ok (.iload_n 3, 1) := by decide +kernel
theorem dX7_doLine_58 : decode cX7_doLine 58 = .ok (.iconst 1, 1) := by decide +kernel
theorem dX7_doLine_59 : decode cX7_doLine 59 = .ok (.iadd, 1) := by decide +kernel
theorem dX7_doLine_60 : decode cX7_doLine 60 = .ok (.invokevirtual 305, 3) := by decide +kernel
theorem dX7_doLine_63 : decode cX7_doLine 63 = .ok (.aload_n 0, 1) := by decide +kernel
theorem dX7_doLine_64 : decode cX7_doLine 64 = .ok (.aload_n 1, 1) := by decide +kernel
theorem dX7_doLine_65 : decode cX7_doLine 65 = .ok (.iload_n 2, 1) := by decide +kernel
theorem dX7_doLine_66 : decode cX7_doLine 66 = .ok (.aload 4, 2) := by decide +kernel
theorem dX7_doLine_68 : decode cX7_doLine 68 = .ok (.getfield 89, 3) := by decide +kernel
theorem dX7_doLine_71 : decode cX7_doLine 71 = .ok (.iload_n 3, 1) := by decide +kernel
theorem dX7_doLine_72 : decode cX7_doLine 72 = .ok (.caload, 1) := by decide +kernel
theorem dX7_doLine_73 : decode cX7_doLine 73 = .ok (.aload 4, 2) := by decide +kernel
theorem dX7_doLine_75 : decode cX7_doLine 75 = .ok (.getfield 308, 3) := by decide +kernel
theorem dX7_doLine_78 : decode cX7_doLine 78 = .ok (.iload_n 3, 1) := by decide +kernel
theorem dX7_doLine_79 : decode cX7_doLine 79 = .ok (.iaload, 1) := by decide +kernel
theorem dX7_doLine_80 : decode cX7_doLine 80 = .ok (.invokevirtual 311, 3) := by decide +kernel
theorem dX7_doLine_83 : decode cX7_doLine 83 = .ok (.areturn, 1) := by decide +kernel
set_option maxRecDepth 20000 in
theorem ggX7_obey_X7_show : GoodIn wsX7_obey wsX7_show := goodIn_ca (goodIn_r _ [14, 15, 16, 17, 6, 18, 19, 20, 21, 22, 23, 24, 25, 26, 27, 28, 29, 30, 31, 32, 33, 34, 13, 35, 97, 98, 99, 100, 101, 102, 103, 104, 105, 108, 109, 110, 111, 112, 113, 114, 115, 116] (by decide +kernel) (by decide +kernel)) (goodIn_sub (fun _ h => List.mem_cons_of_mem _ (List.mem_append_right _ h)) (by decide +kernel))
set_option maxRecDepth 20000 in
theorem gX7_obey_X7_show : GoodIn wsX7_obey (wsV RX7 315 RX7 yX7_show wsX7_show) := goodIn_app (goodIn_of _ (by decide +kernel)) ggX7_obey_X7_show
set_option maxRecDepth 20000 in
theorem ggX7_obey_X7_lease : GoodIn wsX7_obey wsX7_lease := goodIn_ca (goodIn_r _ [39, 4, 5, 6, 40, 41, 3, 42, 43, 44, 13, 45, 46, 47, 48, 49, 50, 51, 52, 97, 98, 99, 100, 101, 102, 103, 104, 105, 106, 107, 88, 89, 90, 91, 92, 93, 94, 95, 96, 117, 118] (by decide +kernel) (by decide +kernel)) (goodIn_sub (fun _ h => List.mem_cons_of_mem _ (List.mem_append_right _ h)) (by decide +kernel))
set_option maxRecDepth 20000 in
theorem gX7_obey_X7_lease : GoodIn wsX7_obey (wsV RX7 322 RX7 yX7_lease wsX7_lease) := goodIn_app (goodIn_of _ (by decide +kernel)) ggX7_obey_X7_lease
set_option maxRecDepth 20000 in
theorem ggX7_obey_X7_passOn : GoodIn wsX7_obey wsX7_passOn := goodIn_ca (goodIn_r _ [56, 4, 5, 40, 57, 58, 59, 41, 60, 61, 62, 49, 63, 51, 52, 97, 98, 99, 100, 101, 102, 103, 104, 105, 106, 107, 117, 118, 88, 89, 90, 91, 92, 93, 94, 95, 96] (by decide +kernel) (by decide +kernel)) (goodIn_sub (fun _ h => List.mem_cons_of_mem _ (List.mem_append_right _ h)) (by decide +kernel))
set_option maxRecDepth 20000 in
theorem gX7_obey_X7_passOn : GoodIn wsX7_obey (wsV RX7 134 RX7 yX7_passOn wsX7_passOn) := goodIn_app (goodIn_of _ (by decide +kernel)) ggX7_obey_X7_passOn
set_option maxRecDepth 20000 in
theorem ggX7_obey_X3_putOnPile : GoodIn wsX7_obey wsX3_putOnPile := goodIn_ca (goodIn_r _ [68, 69, 70, 71, 72, 73, 74, 75, 76, 77, 78, 79, 88, 89, 90, 91, 92, 93, 94, 95, 96, 119, 120, 121] (by decide +kernel) (by decide +kernel)) (goodIn_sub (fun _ h => List.mem_cons_of_mem _ (List.mem_append_right _ h)) (by decide +kernel))
set_option maxRecDepth 20000 in
theorem gX7_obey_X3_putOnPile : GoodIn wsX7_obey (wsV RX7 326 RX3 yX3_putOnPile wsX3_putOnPile) := goodIn_app (goodIn_of _ (by decide +kernel)) ggX7_obey_X3_putOnPile
set_option maxRecDepth 20000 in
theorem ggX7_obey_X7_branch : GoodIn wsX7_obey wsX7_branch := goodIn_ca (goodIn_r _ [83, 9, 1, 32, 33, 34, 13, 35, 15, 16, 17, 84, 85, 86, 67, 87, 71, 69, 88, 89, 90, 91, 92, 93, 94, 95, 96, 97, 98, 99, 100, 101, 102, 103, 104, 105, 108, 109, 110, 111] (by decide +kernel) (by decide +kernel)) (goodIn_sub (fun _ h => List.mem_cons_of_mem _ (List.mem_append_right _ h)) (by decide +kernel))
set_option maxRecDepth 20000 in
theorem gX7_obey_X7_branch : GoodIn wsX7_obey (wsV RX7 329 RX7 yX7_branch wsX7_branch) := goodIn_app (goodIn_of _ (by decide +kernel)) ggX7_obey_X7_branch
theorem dX7_obey_0 : decode cX7_obey 0 = .ok (.iload_n 3, 1) := by decide +kernel
theorem dX7_obey_1 : decode cX7_obey 1 = .ok (.lookupswitch 149 #[(99, 139), (100, 82), (102, 91), (112, 115), (115, 59), (119, 70)], 59) := by decide +kernel
theorem dX7_obey_60 : decode cX7_obey 60 = .ok (.aload_n 0, 1) := by decide +kernel
theorem dX7_obey_61 : decode cX7_obey 61 = .ok (.aload_n 1, 1) := by decide +kernel
theorem dX7_obey_62 : decode cX7_obey 62 = .ok (.getfield 125, 3) := by decide +kernel
theorem dX7_obey_65 : decode cX7_obey 65 = .ok (.iload 4, 2) := by decide +kernel
theorem dX7_obey_67 : decode cX7_obey 67 = .ok (.invokevirtual 315, 3) := by decide +kernel
theorem dX7_obey_70 : decode cX7_obey 70 = .ok (.areturn, 1) := by decide +kernel
theorem dX7_obey_71 : decode cX7_obey 71 = .ok (.aload_n 1, 1) := by decide +kernel
theorem dX7_obey_72 : decode cX7_obey 72 = .ok (.iload 4, 2) := by decide +kernel
theorem dX7_obey_74 : decode cX7_obey 74 = .ok (.iconst 1, 1) := by decide +kernel
theorem dX7_obey_75 : decode cX7_obey 75 = .ok (.isub, 1) := by decide +kernel
theorem dX7_obey_76 : decode cX7_obey 76 = .ok (.putfield 187, 3) := by decide +kernel
theorem dX7_obey_79 : decode cX7_obey 79 = .ok (.getstatic 319, 3) := by decide +kernel
theorem dX7_obey_82 : decode cX7_obey 82 = .ok (.areturn, 1) := by decide +kernel
theorem dX7_obey_83 : decode cX7_obey 83 = .ok (.aload_n 0, 1) := by decide +kernel
theorem dX7_obey_84 : decode cX7_obey 84 = .ok (.aload_n 1, 1) := by decide +kernel
theorem dX7_obey_85 : decode cX7_obey 85 = .ok (.iload_n 2, 1) := by decide +kernel
theorem dX7_obey_86 : decode cX7_obey 86 = .ok (.iload 4, 2) := by decide +kernel
theorem dX7_obey_88 : decode cX7_obey 88 = .ok (.invokevirtual 322, 3) := by decide +kernel
theorem dX7_obey_91 : decode cX7_obey 91 = .ok (.areturn, 1) := by decide +kernel
theorem dX7_obey_92 : decode cX7_obey 92 = .ok (.aload_n 0, 1) := by decide +kernel
theorem dX7_obey_93 : decode cX7_obey 93 = .ok (.getfield 29, 3) := by decide +kernel
theorem dX7_obey_96 : decode cX7_obey 96 = .ok (.iload 4, 2) := by decide +kernel
theorem dX7_obey_98 : decode cX7_obey 98 = .ok (.aaload, 1) := by decide +kernel
theorem dX7_obey_99 : decode cX7_obey 99 = .ok (.getfield 131, 3) := by decide +kernel
theorem dX7_obey_102 : decode cX7_obey 102 = .ok (.iload_n 2, 1) := by decide +kernel
theorem dX7_obey_103 : decode cX7_obey 103 = .ok (.if_icmp .ne 9, 3) := by decide +kernel
theorem dX7_obey_106 : decode cX7_obey 106 = .ok (.aload_n 0, 1) := by decide +kernel
theorem dX7_obey_107 : decode cX7_obey 107 = .ok (.iload 4, 2) := by decide +kernel
theorem dX7_obey_109 : decode cX7_obey 109 = .ok (.invokevirtual 134, 3) := by decide +kernel
theorem dX7_obey_112 : decode cX7_obey 112 = .ok (.getstatic 276, 3) := by decide +kernel
theorem dX7_obey_115 : decode cX7_obey 115 = .ok (.areturn, 1) := by decide +kernel
theorem dX7_obey_116 : decode cX7_obey 116 = .ok (.iload 4, 2) := by decide +kernel
theorem dX7_obey_118 : decode cX7_obey 118 = .ok (.aload_n 0, 1) := by decide +kernel
theorem dX7_obey_119 : decode cX7_obey 119 = .ok (.getfield 44, 3) := by decide +kernel
theorem dX7_obey_122 : decode cX7_obey 122 = .ok (.if_icmp .ge 14, 3) := by decide +kernel
theorem dX7_obey_125 : decode cX7_obey 125 = .ok (.aload_n 1, 1) := by decide +kernel
theorem dX7_obey_126 : decode cX7_obey 126 = .ok (.aload_n 0, 1) := by decide +kernel
theorem dX7_obey_127 : decode cX7_obey 127 = .ok (.getfield 11, 3) := by decide +kernel
theorem dX7_obey_130 : decode cX7_obey 130 = .ok (.iload 4, 2) := by decide +kernel
theorem dX7_obey_132 : decode cX7_obey 132 = .ok (.aaload, 1) := by decide +kernel
theorem dX7_obey_133 : decode cX7_obey 133 = .ok (.invokevirtual 326, 3) := by decide +kernel
theorem dX7_obey_136 : decode cX7_obey 136 = .ok (.getstatic 276, 3) := by decide +kernel
theorem dX7_obey_139 : decode cX7_obey 139 = .ok (.areturn, 1) := by decide +kernel
theorem dX7_obey_140 : decode cX7_obey 140 = .ok (.aload_n 1, 1) := by decide +kernel
theorem dX7_obey_141 : decode cX7_obey 141 = .ok (.iload 4, 2) := by decide +kernel
theorem dX7_obey_143 : decode cX7_obey 143 = .ok (.putfield 181, 3) := by decide +kernel
theorem dX7_obey_146 : decode cX7_obey 146 = .ok (.getstatic 276, 3) := by decide +kernel
theorem dX7_obey_149 : decode cX7_obey 149 = .ok (.areturn, 1) := by decide +kernel
theorem dX7_obey_150 : decode cX7_obey 150 = .ok (.aload_n 0, 1) := by decide +kernel
theorem dX7_obey_151 : decode cX7_obey 151 = .ok (.aload_n 1, 1) := by decide +kernel
theorem dX7_obey_152 : decode cX7_obey 152 = .ok (.iload_n 3, 1) := by decide +kernel
theorem dX7_obey_153 : decode cX7_obey 153 = .ok (.iload 4, 2) := by decide +kernel
theorem dX7_obey_155 : decode cX7_obey 155 = .ok (.invokevirtual 329, 3) := by decide +kernel
theorem dX7_obey_158 : decode cX7_obey 158 = .ok (.getstatic 276, 3) := by decide +kernel
theorem dX7_obey_161 : decode cX7_obey 161 = .ok (.areturn, 1) := by decide +kernel
set_option maxRecDepth 20000 in
theorem ggX7_branch_X7_hasVisitor : GoodIn wsX7_branch wsX7_hasVisitor := goodIn_r _ [7, 8, 9, 10, 27, 28, 29, 30, 31, 32, 33, 34, 35, 36, 37, 38, 39] (by decide +kernel) (by decide +kernel)
set_option maxRecDepth 20000 in
theorem gX7_branch_X7_hasVisitor : GoodIn wsX7_branch (wsV RX7 333 RX7 yX7_hasVisitor wsX7_hasVisitor) := goodIn_app (goodIn_of _ (by decide +kernel)) ggX7_branch_X7_hasVisitor
set_option maxRecDepth 20000 in
theorem ggX7_branch_X3_goOnAt : GoodIn wsX7_branch wsX3_goOnAt := goodIn_ca (goodIn_r _ [15, 16, 17, 18, 19, 20, 21, 22, 23, 24, 25, 26] (by decide +kernel) (by decide +kernel)) (goodIn_sub (fun _ h => List.mem_cons_of_mem _ (List.mem_append_right _ h)) (by decide +kernel))
set_option maxRecDepth 20000 in
theorem gX7_branch_X3_goOnAt : GoodIn wsX7_branch (wsV RX7 305 RX3 yX3_goOnAt wsX3_goOnAt) := goodIn_app (goodIn_of _ (by decide +kernel)) ggX7_branch_X3_goOnAt
theorem dX7_branch_0 : decode cX7_branch 0 = .ok (.iload_n 2, 1) := by decide +kernel
theorem dX7_branch_1 : decode cX7_branch 1 = .ok (.bipush 108, 2) := by decide +kernel
theorem dX7_branch_3 : decode cX7_branch 3 = .ok (.if_icmp .ne 23, 3) := by decide +kernel
theorem dX7_branch_6 : decode cX7_branch 6 = .ok (.aload_n 1, 1) := by decide +kernel
theorem dX7_branch_7 : decode cX7_branch 7 = .ok (.getfield 181, 3) := by decide +kernel
theorem dX7_branch_10 : decode cX7_branch 10 = .ok (.ifCond .le 16, 3) := by decide +kernel
theorem dX7_branch_13 : decode cX7_branch 13 = .ok (.aload_n 1, 1) := by decide +kernel
theorem dX7_branch_14 : decode cX7_branch 14 = .ok (.dup, 1) := by decide +kernel
theorem dX7_branch_15 : decode cX7_branch 15 = .ok (.getfield 181, 3) := by decide +kernel
theorem dX7_branch_18 : decode cX7_branch 18 = .ok (.iconst 1, 1) := by decide +kernel
theorem dX7_branch_19 : decode cX7_branch 19 = .ok (.isub, 1) := by decide +kernel
theorem dX7_branch_20 : decode cX7_branch 20 = .ok (.putfield 181, 3) := by decide +kernel
theorem dX7_branch_23 : decode cX7_branch 23 = .ok (.goto 25, 3) := by decide +kernel
theorem dX7_branch_26 : decode cX7_branch 26 = .ok (.iload_n 2, 1) := by decide +kernel
theorem dX7_branch_27 : decode cX7_branch 27 = .ok (.bipush 118, 2) := by decide +kernel
theorem dX7_branch_29 : decode cX7_branch 29 = .ok (.if_icmp .ne 14, 3) := by decide +kernel
theorem dX7_branch_32 : decode cX7_branch 32 = .ok (.aload_n 0, 1) := by decide +kernel
theorem dX7_branch_33 : decode cX7_branch 33 = .ok (.aload_n 1, 1) := by decide +kernel
theorem dX7_branch_34 : decode cX7_branch 34 = .ok (.getfield 125, 3) := by decide +kernel
theorem dX7_branch_37 : decode cX7_branch 37 = .ok (.invokevirtual 333, 3) := by decide +kernel
theorem dX7_branch_40 : decode cX7_branch 40 = .ok (.ifCond .ne 8, 3) := by decide +kernel
theorem dX7_branch_43 : decode cX7_branch 43 = .ok (.aload_n 1, 1) := by decide +kernel
theorem dX7_branch_44 : decode cX7_branch 44 = .ok (.iload_n 3, 1) := by decide +kernel
theorem dX7_branch_45 : decode cX7_branch 45 = .ok (.invokevirtual 305, 3) := by decide +kernel
theorem dX7_branch_48 : decode cX7_branch 48 = .ok (.return_, 1) := by decide +kernel
theorem dX7_hasVisitor_0 : decode cX7_hasVisitor 0 = .ok (.iconst 0, 1) := by decide +kernel
theorem dX7_hasVisitor_1 : decode cX7_hasVisitor 1 = .ok (.istore_n 2, 1) := by decide +kernel
theorem dX7_hasVisitor_2 : decode cX7_hasVisitor 2 = .ok (.iload_n 2, 1) := by decide +kernel
theorem dX7_hasVisitor_3 : decode cX7_hasVisitor 3 = .ok (.aload_n 0, 1) := by decide +kernel
theorem dX7_hasVisitor_4 : decode cX7_hasVisitor 4 = .ok (.getfield 208, 3) := by decide +kernel
theorem dX7_hasVisitor_7 : decode cX7_hasVisitor 7 = .ok (.if_icmp .ge 24, 3) := by decide +kernel
theorem dX7_hasVisitor_10 : decode cX7_hasVisitor 10 = .ok (.aload_n 0, 1) := by decide +kernel
theorem dX7_hasVisitor_11 : decode cX7_hasVisitor 11 = .ok (.getfield 35, 3) := by decide +kernel
theorem dX7_hasVisitor_14 : decode cX7_hasVisitor 14 = .ok (.iload_n 2, 1) := by decide +kernel
theorem dX7_hasVisitor_15 : decode cX7_hasVisitor 15 = .ok (.aaload, 1) := by decide +kernel
theorem dX7_hasVisitor_16 : decode cX7_hasVisitor 16 = .ok (.getfield 216, 3) := by decide +kernel
theorem dX7_hasVisitor_19 : decode cX7_hasVisitor 19 = .ok (.iload_n 1, 1) := by decide +kernel
theorem dX7_hasVisitor_20 : decode cX7_hasVisitor 20 = .ok (.if_icmp .ne 5, 3) := by decide +kernel
theorem dX7_hasVisitor_23 : decode cX7_hasVisitor 23 = .ok (.iconst 1, 1) := by decide +kernel
theorem dX7_hasVisitor_24 : decode cX7_hasVisitor 24 = .ok (.ireturn, 1) := by decide +kernel
theorem dX7_hasVisitor_25 : decode cX7_hasVisitor 25 = .ok (.iinc 2 1, 3) := by decide +kernel
theorem dX7_hasVisitor_28 : decode cX7_hasVisitor 28 = .ok (.goto (-26), 3) := by decide +kernel
theorem dX7_hasVisitor_31 : decode cX7_hasVisitor 31 = .ok (.iconst 0, 1) := by decide +kernel
theorem dX7_hasVisitor_32 : decode cX7_hasVisitor 32 = .ok (.ireturn, 1) := by decide +kernel
set_option maxRecDepth 20000 in
theorem ggX7_show_X6_wouldSee : GoodIn wsX7_show wsX6_wouldSee := goodIn_ca (goodIn_r _ [12, 13, 14, 33, 34, 35, 36] (by decide +kernel) (by decide +kernel)) (goodIn_sub (fun _ h => List.mem_cons_of_mem _ (List.mem_append_right _ h)) (by decide +kernel))
set_option maxRecDepth 20000 in
theorem gX7_show_X6_wouldSee : GoodIn wsX7_show (wsV RX7 337 RX6 yX6_wouldSee wsX6_wouldSee) := goodIn_app (goodIn_of _ (by decide +kernel)) ggX7_show_X6_wouldSee
set_option maxRecDepth 20000 in
theorem ggX7_show_X6_see : GoodIn wsX7_show wsX6_see := goodIn_ca (goodIn_r _ [18, 13, 14, 33, 34, 35, 36] (by decide +kernel) (by decide +kernel)) (goodIn_sub (fun _ h => List.mem_cons_of_mem _ (List.mem_append_right _ h)) (by decide +kernel))
set_option maxRecDepth 20000 in
theorem gX7_show_X6_see : GoodIn wsX7_show (wsV RX7 340 RX6 yX6_see wsX6_see) := goodIn_app (goodIn_of _ (by decide +kernel)) ggX7_show_X6_see
set_option maxRecDepth 20000 in
theorem ggX7_show_X7_hasVisitor : GoodIn wsX7_show wsX7_hasVisitor := goodIn_r _ [23, 1, 2, 3, 24, 25, 26, 27, 28, 29, 30, 31, 32, 33, 34, 35, 36] (by decide +kernel) (by decide +kernel)
set_option maxRecDepth 20000 in
theorem gX7_show_X7_hasVisitor : GoodIn wsX7_show (wsV RX7 333 RX7 yX7_hasVisitor wsX7_hasVisitor) := goodIn_app (goodIn_of _ (by decide +kernel)) ggX7_show_X7_hasVisitor
theorem dX7_show_0 : decode cX7_show 0 = .ok (.iconst 0, 1) := by decide +kernel
theorem dX7_show_1 : decode cX7_show 1 = .ok (.istore_n 3, 1) := by decide +kernel
theorem dX7_show_2 : decode cX7_show 2 = .ok (.iconst 0, 1) := by decide +kernel
theorem dX7_show_3 : decode cX7_show 3 = .ok (.istore 4, 2) := by decide +kernel
theorem dX7_show_5 : decode cX7_show 5 = .ok (.iload 4, 2) := by decide +kernel
theorem dX7_show_7 : decode cX7_show 7 = .ok (.aload_n 0, 1) := by decide +kernel
theorem dX7_show_8 : decode cX7_show 8 = .ok (.getfield 208, 3) := by decide +kernel
theorem dX7_show_11 : decode cX7_show 11 = .ok (.if_icmp .ge 44, 3) := by decide +kernel
theorem dX7_show_14 : decode cX7_show 14 = .ok (.aload_n 0, 1) := by decide +kernel
theorem dX7_show_15 : decode cX7_show 15 = .ok (.getfield 35, 3) := by decide +kernel
theorem dX7_show_18 : decode cX7_show 18 = .ok (.iload 4, 2) := by decide +kernel
theorem dX7_show_20 : decode cX7_show 20 = .ok (.aaload, 1) := by decide +kernel
theorem dX7_show_21 : decode cX7_show 21 = .ok (.astore 5, 2) := by decide +kernel
theorem dX7_show_23 : decode cX7_show 23 = .ok (.aload 5, 2) := by decide +kernel
theorem dX7_show_25 : decode cX7_show 25 = .ok (.getfield 216, 3) := by decide +kernel
theorem dX7_show_28 : decode cX7_show 28 = .ok (.iload_n 1, 1) := by decide +kernel
theorem dX7_show_29 : decode cX7_show 29 = .ok (.if_icmp .ne 20, 3) := by decide +kernel
theorem dX7_show_32 : decode cX7_show 32 = .ok (.aload 5, 2) := by decide +kernel
theorem dX7_show_34 : decode cX7_show 34 = .ok (.iload_n 2, 1) := by decide +kernel
theorem dX7_show_35 : decode cX7_show 35 = .ok (.invokevirtual 337, 3) := by decide +kernel
theorem dX7_show_38 : decode cX7_show 38 = .ok (.ifCond .eq 11, 3) := by decide +kernel
theorem dX7_show_41 : decode cX7_show 41 = .ok (.aload 5, 2) := by decide +kernel
theorem dX7_show_43 : decode cX7_show 43 = .ok (.iload_n 2, 1) := by decide +kernel
theorem dX7_show_44 : decode cX7_show 44 = .ok (.invokevirtual 340, 3) := by decide +kernel
theorem dX7_show_47 : decode cX7_show 47 = .ok (.iconst 1, 1) := by decide +kernel
theorem dX7_show_48 : decode cX7_show 48 = .ok (.istore_n 3, 1) := by decide +kernel
theorem dX7_show_49 : decode cX7_show 49 = .ok (.iinc 4 1, 3) := by decide +kernel
theorem dX7_show_52 : decode cX7_show 52 = .ok (.goto (-47), 3) := by decide +kernel
theorem dX7_show_55 : decode cX7_show 55 = .ok (.iload_n 3, 1) := by decide +kernel
theorem dX7_show_56 : decode cX7_show 56 = .ok (.ifCond .ne 15, 3) := by decide +kernel
theorem dX7_show_59 : decode cX7_show 59 = .ok (.aload_n 0, 1) := by decide +kernel
theorem dX7_show_60 : decode cX7_show 60 = .ok (.iload_n 1, 1) := by decide +kernel
theorem dX7_show_61 : decode cX7_show 61 = .ok (.invokevirtual 333, 3) := by decide +kernel
theorem dX7_show_64 : decode cX7_show 64 = .ok (.ifCond .eq 7, 3) := by decide +kernel
theorem dX7_show_67 : decode cX7_show 67 = .ok (.getstatic 276, 3) := by decide +kernel
theorem dX7_show_70 : decode cX7_show 70 = .ok (.areturn, 1) := by decide +kernel
theorem dX7_show_71 : decode cX7_show 71 = .ok (.aload_n 0, 1) := by decide +kernel
theorem dX7_show_72 : decode cX7_show 72 = .ok (.getfield 17, 3) := by decide +kernel
theorem dX7_show_75 : decode cX7_show 75 = .ok (.iload_n 1, 1) := by decide +kernel
theorem dX7_show_76 : decode cX7_show 76 = .ok (.aaload, 1) := by decide +kernel
theorem dX7_show_77 : decode cX7_show 77 = .ok (.iload_n 2, 1) := by decide +kernel
theorem dX7_show_78 : decode cX7_show 78 = .ok (.putfield 198, 3) := by decide +kernel
theorem dX7_show_81 : decode cX7_show 81 = .ok (.getstatic 286, 3) := by decide +kernel
theorem dX7_show_84 : decode cX7_show 84 = .ok (.areturn, 1) := by decide +kernel
set_option maxRecDepth 20000 in
theorem ggX7_lease_X7_devicesOf : GoodIn wsX7_lease wsX7_devicesOf := goodIn_r _ [11, 1, 2, 19, 20, 21, 22, 23, 24, 25, 26, 27, 28, 29] (by decide +kernel) (by decide +kernel)
set_option maxRecDepth 20000 in
theorem gX7_lease_X7_devicesOf : GoodIn wsX7_lease (wsV RX7 343 RX7 yX7_devicesOf wsX7_devicesOf) := goodIn_app (goodIn_of _ (by decide +kernel)) ggX7_lease_X7_devicesOf
set_option maxRecDepth 20000 in
theorem ggX7_lease_X4_addLast : GoodIn wsX7_lease wsX4_addLast := goodIn_ca (goodIn_r _ [16, 17, 18, 39, 40] (by decide +kernel) (by decide +kernel)) (goodIn_sub (fun _ h => List.mem_cons_of_mem _ (List.mem_append_right _ h)) (by decide +kernel))
set_option maxRecDepth 20000 in
theorem gX7_lease_X4_addLast : GoodIn wsX7_lease (wsV RX7 346 RX4 yX4_addLast wsX4_addLast) := goodIn_app (goodIn_of _ (by decide +kernel)) ggX7_lease_X4_addLast
theorem dX7_lease_0 : decode cX7_lease 0 = .ok (.aload_n 0, 1) := by decide +kernel
theorem dX7_lease_1 : decode cX7_lease 1 = .ok (.getfield 29, 3) := by decide +kernel
theorem dX7_lease_4 : decode cX7_lease 4 = .ok (.iload_n 3, 1) := by decide +kernel
theorem dX7_lease_5 : decode cX7_lease 5 = .ok (.aaload, 1) := by decide +kernel
theorem dX7_lease_6 : decode cX7_lease 6 = .ok (.astore 4, 2) := by decide +kernel
theorem dX7_lease_8 : decode cX7_lease 8 = .ok (.aload 4, 2) := by decide +kernel
theorem dX7_lease_10 : decode cX7_lease 10 = .ok (.getfield 131, 3) := by decide +kernel
theorem dX7_lease_13 : decode cX7_lease 13 = .ok (.iload_n 2, 1) := by decide +kernel
theorem dX7_lease_14 : decode cX7_lease 14 = .ok (.if_icmp .eq 12, 3) := by decide +kernel
theorem dX7_lease_17 : decode cX7_lease 17 = .ok (.aload_n 0, 1) := by decide +kernel
theorem dX7_lease_18 : decode cX7_lease 18 = .ok (.iload_n 2, 1) := by decide +kernel
theorem dX7_lease_19 : decode cX7_lease 19 = .ok (.invokevirtual 343, 3) := by decide +kernel
theorem dX7_lease_22 : decode cX7_lease 22 = .ok (.iconst 3, 1) := by decide +kernel
theorem dX7_lease_23 : decode cX7_lease 23 = .ok (.if_icmp .lt 7, 3) := by decide +kernel
theorem dX7_lease_26 : decode cX7_lease 26 = .ok (.getstatic 276, 3) := by decide +kernel
theorem dX7_lease_29 : decode cX7_lease 29 = .ok (.areturn, 1) := by decide +kernel
theorem dX7_lease_30 : decode cX7_lease 30 = .ok (.aload 4, 2) := by decide +kernel
theorem dX7_lease_32 : decode cX7_lease 32 = .ok (.getfield 131, 3) := by decide +kernel
theorem dX7_lease_35 : decode cX7_lease 35 = .ok (.iconst (-1), 1) := by decide +kernel
theorem dX7_lease_36 : decode cX7_lease 36 = .ok (.if_icmp .ne 13, 3) := by decide +kernel
theorem dX7_lease_39 : decode cX7_lease 39 = .ok (.aload 4, 2) := by decide +kernel
theorem dX7_lease_41 : decode cX7_lease 41 = .ok (.iload_n 2, 1) := by decide +kernel
theorem dX7_lease_42 : decode cX7_lease 42 = .ok (.putfield 131, 3) := by decide +kernel
theorem dX7_lease_45 : decode cX7_lease 45 = .ok (.getstatic 276, 3) := by decide +kernel
theorem dX7_lease_48 : decode cX7_lease 48 = .ok (.areturn, 1) := by decide +kernel
theorem dX7_lease_49 : decode cX7_lease 49 = .ok (.aload 4, 2) := by decide +kernel
theorem dX7_lease_51 : decode cX7_lease 51 = .ok (.getfield 137, 3) := by decide +kernel
theorem dX7_lease_54 : decode cX7_lease 54 = .ok (.iload_n 2, 1) := by decide +kernel
theorem dX7_lease_55 : decode cX7_lease 55 = .ok (.invokevirtual 346, 3) := by decide +kernel
theorem dX7_lease_58 : decode cX7_lease 58 = .ok (.aload_n 1, 1) := by decide +kernel
theorem dX7_lease_59 : decode cX7_lease 59 = .ok (.iload_n 3, 1) := by decide +kernel
theorem dX7_lease_60 : decode cX7_lease 60 = .ok (.putfield 184, 3) := by decide +kernel
theorem dX7_lease_63 : decode cX7_lease 63 = .ok (.getstatic 319, 3) := by decide +kernel
theorem dX7_lease_66 : decode cX7_lease 66 = .ok (.areturn, 1) := by decide +kernel
theorem dX7_devicesOf_0 : decode cX7_devicesOf 0 = .ok (.iconst 0, 1) := by decide +kernel
theorem dX7_devicesOf_1 : decode cX7_devicesOf 1 = .ok (.istore_n 2, 1) := by decide +kernel
theorem dX7_devicesOf_2 : decode cX7_devicesOf 2 = .ok (.iconst 0, 1) := by decide +kernel
theorem dX7_devicesOf_3 : decode cX7_devicesOf 3 = .ok (.istore_n 3, 1) := by decide +kernel
theorem dX7_devicesOf_4 : decode cX7_devicesOf 4 = .ok (.iload_n 3, 1) := by decide +kernel
theorem dX7_devicesOf_5 : decode cX7_devicesOf 5 = .ok (.bipush 6, 2) := by decide +kernel
theorem dX7_devicesOf_7 : decode cX7_devicesOf 7 = .ok (.if_icmp .ge 25, 3) := by decide +kernel
theorem dX7_devicesOf_10 : decode cX7_devicesOf 10 = .ok (.aload_n 0, 1) := by decide +kernel
theorem dX7_devicesOf_11 : decode cX7_devicesOf 11 = .ok (.getfield 29, 3) := by decide +kernel
theorem dX7_devicesOf_14 : decode cX7_devicesOf 14 = .ok (.iload_n 3, 1) := by decide +kernel
theorem dX7_devicesOf_15 : decode cX7_devicesOf 15 = .ok (.aaload, 1) := by decide +kernel
theorem dX7_devicesOf_16 : decode cX7_devicesOf 16 = .ok (.getfield 131, 3) := by decide +kernel
theorem dX7_devicesOf_19 : decode cX7_devicesOf 19 = .ok (.iload_n 1, 1) := by decide +kernel
theorem dX7_devicesOf_20 : decode cX7_devicesOf 20 = .ok (.if_icmp .ne 6, 3) := by decide +kernel
theorem dX7_devicesOf_23 : decode cX7_devicesOf 23 = .ok (.iinc 2 1, 3) := by decide +kernel
theorem dX7_devicesOf_26 : decode cX7_devicesOf 26 = .ok (.iinc 3 1, 3) := by decide +kernel
theorem dX7_devicesOf_29 : decode cX7_devicesOf 29 = .ok (.goto (-25), 3) := by decide +kernel
theorem dX7_devicesOf_32 : decode cX7_devicesOf 32 = .ok (.iload_n 2, 1) := by decide +kernel
theorem dX7_devicesOf_33 : decode cX7_devicesOf 33 = .ok (.ireturn, 1) := by decide +kernel
set_option maxRecDepth 20000 in
theorem ggX7_passOn_X4_remove : GoodIn wsX7_passOn wsX4_remove := goodIn_ca (goodIn_r _ [12, 13, 14, 26, 27] (by decide +kernel) (by decide +kernel)) (goodIn_sub (fun _ h => List.mem_cons_of_mem _ (List.mem_append_right _ h)) (by decide +kernel))
set_option maxRecDepth 20000 in
theorem gX7_passOn_X4_remove : GoodIn wsX7_passOn (wsV RX7 141 RX4 yX4_remove wsX4_remove) := goodIn_app (goodIn_of _ (by decide +kernel)) ggX7_passOn_X4_remove
theorem dX7_passOn_0 : decode cX7_passOn 0 = .ok (.aload_n 0, 1) := by decide +kernel
theorem dX7_passOn_1 : decode cX7_passOn 1 = .ok (.getfield 29, 3) := by decide +kernel
theorem dX7_passOn_4 : decode cX7_passOn 4 = .ok (.iload_n 1, 1) := by decide +kernel
theorem dX7_passOn_5 : decode cX7_passOn 5 = .ok (.aaload, 1) := by decide +kernel
theorem dX7_passOn_6 : decode cX7_passOn 6 = .ok (.astore_n 2, 1) := by decide +kernel
theorem dX7_passOn_7 : decode cX7_passOn 7 = .ok (.aload_n 2, 1) := by decide +kernel
theorem dX7_passOn_8 : decode cX7_passOn 8 = .ok (.iconst (-1), 1) := by decide +kernel
theorem dX7_passOn_9 : decode cX7_passOn 9 = .ok (.putfield 131, 3) := by decide +kernel
theorem dX7_passOn_12 : decode cX7_passOn 12 = .ok (.aload_n 2, 1) := by decide +kernel
theorem dX7_passOn_13 : decode cX7_passOn 13 = .ok (.getfield 137, 3) := by decide +kernel
theorem dX7_passOn_16 : decode cX7_passOn 16 = .ok (.getfield 164, 3) := by decide +kernel
theorem dX7_passOn_19 : decode cX7_passOn 19 = .ok (.ifCond .le 40, 3) := by decide +kernel
theorem dX7_passOn_22 : decode cX7_passOn 22 = .ok (.aload_n 2, 1) := by decide +kernel
theorem dX7_passOn_23 : decode cX7_passOn 23 = .ok (.aload_n 2, 1) := by decide +kernel
theorem dX7_passOn_24 : decode cX7_passOn 24 = .ok (.getfield 137, 3) := by decide +kernel
theorem dX7_passOn_27 : decode cX7_passOn 27 = .ok (.getfield 170, 3) := by decide +kernel
theorem dX7_passOn_30 : decode cX7_passOn 30 = .ok (.iconst 0, 1) := by decide +kernel
theorem dX7_passOn_31 : decode cX7_passOn 31 = .ok (.iaload, 1) := by decide +kernel
theorem dX7_passOn_32 : decode cX7_passOn 32 = .ok (.putfield 131, 3) := by decide +kernel
theorem dX7_passOn_35 : decode cX7_passOn 35 = .ok (.aload_n 2, 1) := by decide +kernel
theorem dX7_passOn_36 : decode cX7_passOn 36 = .ok (.getfield 137, 3) := by decide +kernel
theorem dX7_passOn_39 : decode cX7_passOn 39 = .ok (.aload_n 2, 1) := by decide +kernel
theorem dX7_passOn_40 : decode cX7_passOn 40 = .ok (.getfield 131, 3) := by decide +kernel
theorem dX7_passOn_43 : decode cX7_passOn 43 = .ok (.invokevirtual 141, 3) := by decide +kernel
theorem dX7_passOn_46 : decode cX7_passOn 46 = .ok (.aload_n 0, 1) := by decide +kernel
theorem dX7_passOn_47 : decode cX7_passOn 47 = .ok (.getfield 23, 3) := by decide +kernel
theorem dX7_passOn_50 : decode cX7_passOn 50 = .ok (.aload_n 2, 1) := by decide +kernel
theorem dX7_passOn_51 : decode cX7_passOn 51 = .ok (.getfield 131, 3) := by decide +kernel
theorem dX7_passOn_54 : decode cX7_passOn 54 = .ok (.aaload, 1) := by decide +kernel
theorem dX7_passOn_55 : decode cX7_passOn 55 = .ok (.iconst (-1), 1) := by decide +kernel
theorem dX7_passOn_56 : decode cX7_passOn 56 = .ok (.putfield 184, 3) := by decide +kernel
theorem dX7_passOn_59 : decode cX7_passOn 59 = .ok (.return_, 1) := by decide +kernel
set_option maxRecDepth 20000 in
theorem ggX7_watchFrozenKiosks_X7_makeOut : GoodIn wsX7_watchFrozenKiosks wsX7_makeOut := goodIn_ca (goodIn_r _ [10, 2, 4, 11, 12, 13, 14, 15, 16, 9, 17, 1, 18, 19, 20, 21, 22, 23, 24, 25, 26, 27, 28, 29, 30, 31, 32, 33, 34, 35, 36, 37, 38, 39, 40, 41, 42, 43, 44, 45, 46, 47, 48, 49, 50, 51, 52, 53, 54, 55, 56, 57, 58, 59, 60, 61, 62, 63, 64, 65, 66, 67, 68, 69, 70, 71] (by decide +kernel) (by decide +kernel)) (goodIn_sub (fun _ h => List.mem_cons_of_mem _ (List.mem_append_right _ h)) (by decide +kernel))
set_option maxRecDepth 20000 in
theorem gX7_watchFrozenKiosks_X7_makeOut : GoodIn wsX7_watchFrozenKiosks (wsV RX7 349 RX7 yX7_makeOut wsX7_makeOut) := goodIn_app (goodIn_of _ (by decide +kernel)) ggX7_watchFrozenKiosks_X7_makeOut
theorem dX7_watchFrozenKiosks_0 : decode cX7_watchFrozenKiosks 0 = .ok (.iconst 0, 1) := by decide +kernel
theorem dX7_watchFrozenKiosks_1 : decode cX7_watchFrozenKiosks 1 = .ok (.istore_n 1, 1) := by decide +kernel
theorem dX7_watchFrozenKiosks_2 : decode cX7_watchFrozenKiosks 2 = .ok (.iload_n 1, 1) := by decide +kernel
theorem dX7_watchFrozenKiosks_3 : decode cX7_watchFrozenKiosks 3 = .ok (.aload_n 0, 1) := by decide +kernel
theorem dX7_watchFrozenKiosks_4 : decode cX7_watchFrozenKiosks 4 = .ok (.getfield 99, 3) := by decide +kernel
theorem dX7_watchFrozenKiosks_7 : decode cX7_watchFrozenKiosks 7 = .ok (.if_icmp .ge 53, 3) := by decide +kernel
theorem dX7_watchFrozenKiosks_10 : decode cX7_watchFrozenKiosks 10 = .ok (.aload_n 0, 1) := by decide +kernel
theorem dX7_watchFrozenKiosks_11 : decode cX7_watchFrozenKiosks 11 = .ok (.getfield 17, 3) := by decide +kernel
theorem dX7_watchFrozenKiosks_14 : decode cX7_watchFrozenKiosks 14 = .ok (.iload_n 1, 1) := by decide +kernel
theorem dX7_watchFrozenKiosks_15 : decode cX7_watchFrozenKiosks 15 = .ok (.aaload, 1) := by decide +kernel
theorem dX7_watchFrozenKiosks_16 : decode cX7_watchFrozenKiosks 16 = .ok (.astore_n 2, 1) := by decide +kernel
theorem dX7_watchFrozenKiosks_17 : decode cX7_watchFrozenKiosks 17 = .ok (.aload_n 2, 1) := by decide +kernel
theorem dX7_watchFrozenKiosks_18 : decode cX7_watchFrozenKiosks 18 = .ok (.getfield 149, 3) := by decide +kernel
theorem dX7_watchFrozenKiosks_21 : decode cX7_watchFrozenKiosks 21 = .ok (.ifCond .eq 33, 3) := by decide +kernel
theorem dX7_watchFrozenKiosks_24 : decode cX7_watchFrozenKiosks 24 = .ok (.aload_n 2, 1) := by decide +kernel
theorem dX7_watchFrozenKiosks_25 : decode cX7_watchFrozenKiosks 25 = .ok (.getfield 152, 3) := by decide +kernel
theorem dX7_watchFrozenKiosks_28 : decode cX7_watchFrozenKiosks 28 = .ok (.ifCond .ne 26, 3) := by decide +kernel
theorem dX7_watchFrozenKiosks_31 : decode cX7_watchFrozenKiosks 31 = .ok (.aload_n 2, 1) := by decide +kernel
theorem dX7_watchFrozenKiosks_32 : decode cX7_watchFrozenKiosks 32 = .ok (.dup, 1) := by decide +kernel
theorem dX7_watchFrozenKiosks_33 : decode cX7_watchFrozenKiosks 33 = .ok (.getfield 155, 3) := by decide +kernel
theorem dX7_watchFrozenKiosks_36 : decode cX7_watchFrozenKiosks 36 = .ok (.iconst 1, 1) := by decide +kernel
theorem dX7_watchFrozenKiosks_37 : decode cX7_watchFrozenKiosks 37 = .ok (.iadd, 1) := by decide +kernel
theorem dX7_watchFrozenKiosks_38 : decode cX7_watchFrozenKiosks 38 = .ok (.putfield 155, 3) := by decide +kernel
theorem dX7_watchFrozenKiosks_41 : decode cX7_watchFrozenKiosks 41 = .ok (.aload_n 2, 1) := by decide +kernel
theorem dX7_watchFrozenKiosks_42 : decode cX7_watchFrozenKiosks 42 = .ok (.getfield 155, 3) := by decide +kernel
theorem dX7_watchFrozenKiosks_45 : decode cX7_watchFrozenKiosks 45 = .ok (.iconst 5, 1) := by decide +kernel
theorem dX7_watchFrozenKiosks_46 : decode cX7_watchFrozenKiosks 46 = .ok (.if_icmp .lt 8, 3) := by decide +kernel
theorem dX7_watchFrozenKiosks_49 : decode cX7_watchFrozenKiosks 49 = .ok (.aload_n 0, 1) := by decide +kernel
theorem dX7_watchFrozenKiosks_50 : decode cX7_watchFrozenKiosks 50 = .ok (.iload_n 1, 1) := by decide +kernel
theorem dX7_watchFrozenKiosks_51 : decode cX7_watchFrozenKiosks 51 = .ok (.invokevirtual 349, 3) := by decide +kernel
theorem dX7_watchFrozenKiosks_54 : decode cX7_watchFrozenKiosks 54 = .ok (.iinc 1 1, 3) := by decide +kernel
theorem dX7_watchFrozenKiosks_57 : decode cX7_watchFrozenKiosks 57 = .ok (.goto (-55), 3) := by decide +kernel
theorem dX7_watchFrozenKiosks_60 : decode cX7_watchFrozenKiosks 60 = .ok (.return_, 1) := by decide +kernel
set_option maxRecDepth 20000 in
theorem ggX7_makeOut_X7_nearestNotOut : GoodIn wsX7_makeOut wsX7_nearestNotOut := goodIn_r _ [10, 11, 12, 13, 14, 9, 15, 1, 2, 41, 42, 43, 44, 45, 46, 47, 48, 49, 50, 51, 52, 53, 54] (by decide +kernel) (by decide +kernel)
set_option maxRecDepth 20000 in
theorem gX7_makeOut_X7_nearestNotOut : GoodIn wsX7_makeOut (wsV RX7 117 RX7 yX7_nearestNotOut wsX7_nearestNotOut) := goodIn_app (goodIn_of _ (by decide +kernel)) ggX7_makeOut_X7_nearestNotOut
set_option maxRecDepth 20000 in
theorem ggX7_makeOut_X7_settle : GoodIn wsX7_makeOut wsX7_settle := goodIn_ca (goodIn_r _ [19, 20, 21, 1, 3, 22, 23, 24, 9, 25, 26, 27, 28, 29, 30, 31, 32, 33, 34, 35, 36, 37, 38, 39, 40, 41, 42, 43, 44, 45, 46, 47, 48, 49, 57, 58, 59, 60, 61, 62, 63, 64, 65, 50, 51, 52, 53, 54, 55, 56] (by decide +kernel) (by decide +kernel)) (goodIn_sub (fun _ h => List.mem_cons_of_mem _ (List.mem_append_right _ h)) (by decide +kernel))
set_option maxRecDepth 20000 in
theorem gX7_makeOut_X7_settle : GoodIn wsX7_makeOut (wsV RX7 121 RX7 yX7_settle wsX7_settle) := goodIn_app (goodIn_of _ (by decide +kernel)) ggX7_makeOut_X7_settle
theorem dX7_makeOut_0 : decode cX7_makeOut 0 = .ok (.aload_n 0, 1) := by decide +kernel
theorem dX7_makeOut_1 : decode cX7_makeOut 1 = .ok (.getfield 17, 3) := by decide +kernel
theorem dX7_makeOut_4 : decode cX7_makeOut 4 = .ok (.iload_n 1, 1) := by decide +kernel
theorem dX7_makeOut_5 : decode cX7_makeOut 5 = .ok (.aaload, 1) := by decide +kernel
theorem dX7_makeOut_6 : decode cX7_makeOut 6 = .ok (.iconst 1, 1) := by decide +kernel
theorem dX7_makeOut_7 : decode cX7_makeOut 7 = .ok (.putfield 152, 3) := by decide +kernel
theorem dX7_makeOut_10 : decode cX7_makeOut 10 = .ok (.aload_n 0, 1) := by decide +kernel
theorem dX7_makeOut_11 : decode cX7_makeOut 11 = .ok (.iload_n 1, 1) := by decide +kernel
theorem dX7_makeOut_12 : decode cX7_makeOut 12 = .ok (.invokevirtual 117, 3) := by decide +kernel
theorem dX7_makeOut_15 : decode cX7_makeOut 15 = .ok (.istore_n 2, 1) := by decide +kernel
theorem dX7_makeOut_16 : decode cX7_makeOut 16 = .ok (.aload_n 0, 1) := by decide +kernel
theorem dX7_makeOut_17 : decode cX7_makeOut 17 = .ok (.getfield 17, 3) := by decide +kernel
theorem dX7_makeOut_20 : decode cX7_makeOut 20 = .ok (.iload_n 1, 1) := by decide +kernel
theorem dX7_makeOut_21 : decode cX7_makeOut 21 = .ok (.aaload, 1) := by decide +kernel
theorem dX7_makeOut_22 : decode cX7_makeOut 22 = .ok (.getfield 161, 3) := by decide +kernel
theorem dX7_makeOut_25 : decode cX7_makeOut 25 = .ok (.astore_n 3, 1) := by decide +kernel
theorem dX7_makeOut_26 : decode cX7_makeOut 26 = .ok (.aload_n 3, 1) := by decide +kernel
theorem dX7_makeOut_27 : decode cX7_makeOut 27 = .ok (.getfield 164, 3) := by decide +kernel
theorem dX7_makeOut_30 : decode cX7_makeOut 30 = .ok (.istore 4, 2) := by decide +kernel
theorem dX7_makeOut_32 : decode cX7_makeOut 32 = .ok (.iconst 0, 1) := by decide +kernel
theorem dX7_makeOut_33 : decode cX7_makeOut 33 = .ok (.istore 5, 2) := by decide +kernel
theorem dX7_makeOut_35 : decode cX7_makeOut 35 = .ok (.iload 5, 2) := by decide +kernel
theorem dX7_makeOut_37 : decode cX7_makeOut 37 = .ok (.iload 4, 2) := by decide +kernel
theorem dX7_makeOut_39 : decode cX7_makeOut 39 = .ok (.if_icmp .ge 20, 3) := by decide +kernel
theorem dX7_makeOut_42 : decode cX7_makeOut 42 = .ok (.aload_n 0, 1) := by decide +kernel
theorem dX7_makeOut_43 : decode cX7_makeOut 43 = .ok (.aload_n 3, 1) := by decide +kernel
theorem dX7_makeOut_44 : decode cX7_makeOut 44 = .ok (.getfield 170, 3) := by decide +kernel
theorem dX7_makeOut_47 : decode cX7_makeOut 47 = .ok (.iconst 0, 1) := by decide +kernel
theorem dX7_makeOut_48 : decode cX7_makeOut 48 = .ok (.iaload, 1) := by decide +kernel
theorem dX7_makeOut_49 : decode cX7_makeOut 49 = .ok (.iload_n 2, 1) := by decide +kernel
theorem dX7_makeOut_50 : decode cX7_makeOut 50 = .ok (.invokevirtual 121, 3) := by decide +kernel
theorem dX7_makeOut_53 : decode cX7_makeOut 53 = .ok (.iinc 5 1, 3) := by decide +kernel
theorem dX7_makeOut_56 : decode cX7_makeOut 56 = .ok (.goto (-21), 3) := by decide +kernel
theorem dX7_makeOut_59 : decode cX7_makeOut 59 = .ok (.return_, 1) := by decide +kernel
set_option maxRecDepth 20000 in
theorem ggX7_nearestNotOut_X7_isNotOut : GoodIn wsX7_nearestNotOut wsX7_isNotOut := goodIn_r _ [6, 1, 7, 8, 9, 10, 11, 12, 13, 14, 15, 16, 17, 18, 19, 20, 21, 22] (by decide +kernel) (by decide +kernel)
set_option maxRecDepth 20000 in
theorem gX7_nearestNotOut_X7_isNotOut : GoodIn wsX7_nearestNotOut (wsV RX7 352 RX7 yX7_isNotOut wsX7_isNotOut) := goodIn_app (goodIn_of _ (by decide +kernel)) ggX7_nearestNotOut_X7_isNotOut
theorem dX7_nearestNotOut_0 : decode cX7_nearestNotOut 0 = .ok (.iconst 0, 1) := by decide +kernel
theorem dX7_nearestNotOut_1 : decode cX7_nearestNotOut 1 = .ok (.istore_n 2, 1) := by decide +kernel
theorem dX7_nearestNotOut_2 : decode cX7_nearestNotOut 2 = .ok (.iload_n 2, 1) := by decide +kernel
theorem dX7_nearestNotOut_3 : decode cX7_nearestNotOut 3 = .ok (.aload_n 0, 1) := by decide +kernel
theorem dX7_nearestNotOut_4 : decode cX7_nearestNotOut 4 = .ok (.getfield 99, 3) := by decide +kernel
theorem dX7_nearestNotOut_7 : decode cX7_nearestNotOut 7 = .ok (.if_icmp .ge 37, 3) := by decide +kernel
theorem dX7_nearestNotOut_10 : decode cX7_nearestNotOut 10 = .ok (.aload_n 0, 1) := by decide +kernel
theorem dX7_nearestNotOut_11 : decode cX7_nearestNotOut 11 = .ok (.iload_n 1, 1) := by decide +kernel
theorem dX7_nearestNotOut_12 : decode cX7_nearestNotOut 12 = .ok (.iload_n 2, 1) := by decide +kernel
theorem dX7_nearestNotOut_13 : decode cX7_nearestNotOut 13 = .ok (.isub, 1) := by decide +kernel
theorem dX7_nearestNotOut_14 : decode cX7_nearestNotOut 14 = .ok (.invokevirtual 352, 3) := by decide +kernel
theorem dX7_nearestNotOut_17 : decode cX7_nearestNotOut 17 = .ok (.ifCond .eq 7, 3) := by decide +kernel
theorem dX7_nearestNotOut_20 : decode cX7_nearestNotOut 20 = .ok (.iload_n 1, 1) := by decide +kernel
theorem dX7_nearestNotOut_21 : decode cX7_nearestNotOut 21 = .ok (.iload_n 2, 1) := by decide +kernel
theorem dX7_nearestNotOut_22 : decode cX7_nearestNotOut 22 = .ok (.isub, 1) := by decide +kernel
theorem dX7_nearestNotOut_23 : decode cX7_nearestNotOut 23 = .ok (.ireturn, 1) := by decide +kernel
theorem dX7_nearestNotOut_24 : decode cX7_nearestNotOut 24 = .ok (.aload_n 0, 1) := by decide +kernel
theorem dX7_nearestNotOut_25 : decode cX7_nearestNotOut 25 = .ok (.iload_n 1, 1) := by decide +kernel
theorem dX7_nearestNotOut_26 : decode cX7_nearestNotOut 26 = .ok (.iload_n 2, 1) := by decide +kernel
theorem dX7_nearestNotOut_27 : decode cX7_nearestNotOut 27 = .ok (.iadd, 1) := by decide +kernel
theorem dX7_nearestNotOut_28 : decode cX7_nearestNotOut 28 = .ok (.invokevirtual 352, 3) := by decide +kernel
theorem dX7_nearestNotOut_31 : decode cX7_nearestNotOut 31 = .ok (.ifCond .eq 7, 3) := by decide +kernel
theorem dX7_nearestNotOut_34 : decode cX7_nearestNotOut 34 = .ok (.iload_n 1, 1) := by decide +kernel
theorem dX7_nearestNotOut_35 : decode cX7_nearestNotOut 35 = .ok (.iload_n 2, 1) := by decide +kernel
theorem dX7_nearestNotOut_36 : decode cX7_nearestNotOut 36 = .ok (.iadd, 1) := by decide +kernel
theorem dX7_nearestNotOut_37 : decode cX7_nearestNotOut 37 = .ok (.ireturn, 1) := by decide +kernel
theorem dX7_nearestNotOut_38 : decode cX7_nearestNotOut 38 = .ok (.iinc 2 1, 3) := by decide +kernel
theorem dX7_nearestNotOut_41 : decode cX7_nearestNotOut 41 = .ok (.goto (-39), 3) := by decide +kernel
theorem dX7_nearestNotOut_44 : decode cX7_nearestNotOut 44 = .ok (.iconst (-1), 1) := by decide +kernel
theorem dX7_nearestNotOut_45 : decode cX7_nearestNotOut 45 = .ok (.ireturn, 1) := by decide +kernel
theorem dX7_isNotOut_0 : decode cX7_isNotOut 0 = .ok (.iload_n 1, 1) := by decide +kernel
theorem dX7_isNotOut_1 : decode cX7_isNotOut 1 = .ok (.ifCond .lt 27, 3) := by decide +kernel
theorem dX7_isNotOut_4 : decode cX7_isNotOut 4 = .ok (.iload_n 1, 1) := by decide +kernel
theorem dX7_isNotOut_5 : decode cX7_isNotOut 5 = .ok (.aload_n 0, 1) := by decide +kernel
theorem dX7_isNotOut_6 : decode cX7_isNotOut 6 = .ok (.getfield 99, 3) := by decide +kernel
theorem dX7_isNotOut_9 : decode cX7_isNotOut 9 = .ok (.if_icmp .ge 19, 3) := by decide +kernel
theorem dX7_isNotOut_12 : decode cX7_isNotOut 12 = .ok (.aload_n 0, 1) := by decide +kernel
theorem dX7_isNotOut_13 : decode cX7_isNotOut 13 = .ok (.getfield 17, 3) := by decide +kernel
theorem dX7_isNotOut_16 : decode cX7_isNotOut 16 = .ok (.iload_n 1, 1) := by decide +kernel
theorem dX7_isNotOut_17 : decode cX7_isNotOut 17 = .ok (.aaload, 1) := by decide +kernel
theorem dX7_isNotOut_18 : decode cX7_isNotOut 18 = .ok (.getfield 152, 3) := by decide +kernel
theorem dX7_isNotOut_21 : decode cX7_isNotOut 21 = .ok (.ifCond .ne 7, 3) := by decide +kernel
theorem dX7_isNotOut_24 : decode cX7_isNotOut 24 = .ok (.iconst 1, 1) := by decide +kernel
theorem dX7_isNotOut_25 : decode cX7_isNotOut 25 = .ok (.goto 4, 3) := by decide +kernel
theorem dX7_isNotOut_28 : decode cX7_isNotOut 28 = .ok (.iconst 0, 1) := by decide +kernel
theorem dX7_isNotOut_29 : decode cX7_isNotOut 29 = .ok (.ireturn, 1) := by decide +kernel
set_option maxRecDepth 20000 in
theorem ggX7_settle_X7_leave : GoodIn wsX7_settle wsX7_leave := goodIn_ca (goodIn_r _ [9, 1, 2, 3, 4, 10, 11, 12, 13, 14, 15, 16, 25, 26, 27, 28, 29, 30, 31, 32, 33, 34, 35, 36, 37, 38, 39, 40, 41, 42, 43, 44, 45, 46, 47, 48, 49] (by decide +kernel) (by decide +kernel)) (goodIn_sub (fun _ h => List.mem_cons_of_mem _ (List.mem_append_right _ h)) (by decide +kernel))
set_option maxRecDepth 20000 in
theorem gX7_settle_X7_leave : GoodIn wsX7_settle (wsV RX7 146 RX7 yX7_leave wsX7_leave) := goodIn_app (goodIn_of _ (by decide +kernel)) ggX7_settle_X7_leave
set_option maxRecDepth 20000 in
theorem ggX7_settle_X4_addFirst : GoodIn wsX7_settle wsX4_addFirst := goodIn_ca (goodIn_r _ [20, 15, 16, 48, 49] (by decide +kernel) (by decide +kernel)) (goodIn_sub (fun _ h => List.mem_cons_of_mem _ (List.mem_append_right _ h)) (by decide +kernel))
set_option maxRecDepth 20000 in
theorem gX7_settle_X4_addFirst : GoodIn wsX7_settle (wsV RX7 355 RX4 yX4_addFirst wsX4_addFirst) := goodIn_app (goodIn_of _ (by decide +kernel)) ggX7_settle_X4_addFirst
set_option maxRecDepth 20000 in
theorem ggX7_settle_X4_addLast : GoodIn wsX7_settle wsX4_addLast := goodIn_ca (goodIn_r _ [24, 15, 16, 48, 49] (by decide +kernel) (by decide +kernel)) (goodIn_sub (fun _ h => List.mem_cons_of_mem _ (List.mem_append_right _ h)) (by decide +kernel))
set_option maxRecDepth 20000 in
theorem gX7_settle_X4_addLast : GoodIn wsX7_settle (wsV RX7 346 RX4 yX4_addLast wsX4_addLast) := goodIn_app (goodIn_of _ (by decide +kernel)) ggX7_settle_X4_addLast
theorem dX7_settle_0 : decode cX7_settle 0 = .ok (.aload_n 0, 1) := by decide +kernel
theorem dX7_settle_1 : decode cX7_settle 1 = .ok (.iload_n 1, 1) := by decide +kernel
theorem dX7_settle_2 : decode cX7_settle 2 = .ok (.invokevirtual 146, 3) := by decide +kernel
theorem dX7_settle_5 : decode cX7_settle 5 = .ok (.aload_n 0, 1) := by decide +kernel
theorem dX7_settle_6 : decode cX7_settle 6 = .ok (.getfield 23, 3) := by decide +kernel
theorem dX7_settle_9 : decode cX7_settle 9 = .ok (.iload_n 1, 1) := by decide +kernel
theorem dX7_settle_10 : decode cX7_settle 10 = .ok (.aaload, 1) := by decide +kernel
theorem dX7_settle_11 : decode cX7_settle 11 = .ok (.iload_n 2, 1) := by decide +kernel
theorem dX7_settle_12 : decode cX7_settle 12 = .ok (.putfield 125, 3) := by decide +kernel
theorem dX7_settle_15 : decode cX7_settle 15 = .ok (.iload_n 2, 1) := by decide +kernel
theorem dX7_settle_16 : decode cX7_settle 16 = .ok (.iload_n 1, 1) := by decide +kernel
theorem dX7_settle_17 : decode cX7_settle 17 = .ok (.if_icmp .ne 19, 3) := by decide +kernel
theorem dX7_settle_20 : decode cX7_settle 20 = .ok (.aload_n 0, 1) := by decide +kernel
theorem dX7_settle_21 : decode cX7_settle 21 = .ok (.getfield 17, 3) := by decide +kernel
theorem dX7_settle_24 : decode cX7_settle 24 = .ok (.iload_n 2, 1) := by decide +kernel
theorem dX7_settle_25 : decode cX7_settle 25 = .ok (.aaload, 1) := by decide +kernel
theorem dX7_settle_26 : decode cX7_settle 26 = .ok (.getfield 161, 3) := by decide +kernel
theorem dX7_settle_29 : decode cX7_settle 29 = .ok (.iload_n 1, 1) := by decide +kernel
theorem dX7_settle_30 : decode cX7_settle 30 = .ok (.invokevirtual 355, 3) := by decide +kernel
theorem dX7_settle_33 : decode cX7_settle 33 = .ok (.goto 21, 3) := by decide +kernel
theorem dX7_settle_36 : decode cX7_settle 36 = .ok (.iload_n 2, 1) := by decide +kernel
theorem dX7_settle_37 : decode cX7_settle 37 = .ok (.iconst (-1), 1) := by decide +kernel
theorem dX7_settle_38 : decode cX7_settle 38 = .ok (.if_icmp .eq 16, 3) := by decide +kernel
theorem dX7_settle_41 : decode cX7_settle 41 = .ok (.aload_n 0, 1) := by decide +kernel
theorem dX7_settle_42 : decode cX7_settle 42 = .ok (.getfield 17, 3) := by decide +kernel
theorem dX7_settle_45 : decode cX7_settle 45 = .ok (.iload_n 2, 1) := by decide +kernel
theorem dX7_settle_46 : decode cX7_settle 46 = .ok (.aaload, 1) := by decide +kernel
theorem dX7_settle_47 : decode cX7_settle 47 = .ok (.getfield 161, 3) := by decide +kernel
theorem dX7_settle_50 : decode cX7_settle 50 = .ok (.iload_n 1, 1) := by decide +kernel
theorem dX7_settle_51 : decode cX7_settle 51 = .ok (.invokevirtual 346, 3) := by decide +kernel
theorem dX7_settle_54 : decode cX7_settle 54 = .ok (.return_, 1) := by decide +kernel
set_option maxRecDepth 20000 in
theorem ggX7_leave_X4_remove : GoodIn wsX7_leave wsX4_remove := goodIn_ca (goodIn_r _ [9, 10, 11, 35, 36] (by decide +kernel) (by decide +kernel)) (goodIn_sub (fun _ h => List.mem_cons_of_mem _ (List.mem_append_right _ h)) (by decide +kernel))
set_option maxRecDepth 20000 in
theorem gX7_leave_X4_remove : GoodIn wsX7_leave (wsV RX7 141 RX4 yX4_remove wsX4_remove) := goodIn_app (goodIn_of _ (by decide +kernel)) ggX7_leave_X4_remove
theorem dX7_leave_0 : decode cX7_leave 0 = .ok (.aload_n 0, 1) := by decide +kernel
theorem dX7_leave_1 : decode cX7_leave 1 = .ok (.getfield 23, 3) := by decide +kernel
theorem dX7_leave_4 : decode cX7_leave 4 = .ok (.iload_n 1, 1) := by decide +kernel
theorem dX7_leave_5 : decode cX7_leave 5 = .ok (.aaload, 1) := by decide +kernel
theorem dX7_leave_6 : decode cX7_leave 6 = .ok (.astore_n 2, 1) := by decide +kernel
theorem dX7_leave_7 : decode cX7_leave 7 = .ok (.aload_n 2, 1) := by decide +kernel
theorem dX7_leave_8 : decode cX7_leave 8 = .ok (.getfield 125, 3) := by decide +kernel
theorem dX7_leave_11 : decode cX7_leave 11 = .ok (.iconst (-1), 1) := by decide +kernel
theorem dX7_leave_12 : decode cX7_leave 12 = .ok (.if_icmp .eq 24, 3) := by decide +kernel
theorem dX7_leave_15 : decode cX7_leave 15 = .ok (.aload_n 0, 1) := by decide +kernel
theorem dX7_leave_16 : decode cX7_leave 16 = .ok (.getfield 17, 3) := by decide +kernel
theorem dX7_leave_19 : decode cX7_leave 19 = .ok (.aload_n 2, 1) := by decide +kernel
theorem dX7_leave_20 : decode cX7_leave 20 = .ok (.getfield 125, 3) := by decide +kernel
theorem dX7_leave_23 : decode cX7_leave 23 = .ok (.aaload, 1) := by decide +kernel
theorem dX7_leave_24 : decode cX7_leave 24 = .ok (.getfield 161, 3) := by decide +kernel
theorem dX7_leave_27 : decode cX7_leave 27 = .ok (.iload_n 1, 1) := by decide +kernel
theorem dX7_leave_28 : decode cX7_leave 28 = .ok (.invokevirtual 141, 3) := by decide +kernel
theorem dX7_leave_31 : decode cX7_leave 31 = .ok (.aload_n 2, 1) := by decide +kernel
theorem dX7_leave_32 : decode cX7_leave 32 = .ok (.iconst (-1), 1) := by decide +kernel
theorem dX7_leave_33 : decode cX7_leave 33 = .ok (.putfield 125, 3) := by decide +kernel
theorem dX7_leave_36 : decode cX7_leave 36 = .ok (.return_, 1) := by decide +kernel
set_option maxRecDepth 20000 in
theorem ggX7_holdersAreSound_X7_devicesOf : GoodIn wsX7_holdersAreSound wsX7_devicesOf := goodIn_r _ [9, 1, 2, 10, 11, 12, 13, 14, 15, 16, 17, 18, 19, 20] (by decide +kernel) (by decide +kernel)
set_option maxRecDepth 20000 in
theorem gX7_holdersAreSound_X7_devicesOf : GoodIn wsX7_holdersAreSound (wsV RX7 343 RX7 yX7_devicesOf wsX7_devicesOf) := goodIn_app (goodIn_of _ (by decide +kernel)) ggX7_holdersAreSound_X7_devicesOf
theorem dX7_holdersAreSound_0 : decode cX7_holdersAreSound 0 = .ok (.iconst 0, 1) := by decide +kernel
theorem dX7_holdersAreSound_1 : decode cX7_holdersAreSound 1 = .ok (.istore_n 1, 1) := by decide +kernel
theorem dX7_holdersAreSound_2 : decode cX7_holdersAreSound 2 = .ok (.iload_n 1, 1) := by decide +kernel
theorem dX7_holdersAreSound_3 : decode cX7_holdersAreSound 3 = .ok (.bipush 6, 2) := by decide +kernel
theorem dX7_holdersAreSound_5 : decode cX7_holdersAreSound 5 = .ok (.if_icmp .ge 47, 3) := by decide +kernel
theorem dX7_holdersAreSound_8 : decode cX7_holdersAreSound 8 = .ok (.aload_n 0, 1) := by decide +kernel
theorem dX7_holdersAreSound_9 : decode cX7_holdersAreSound 9 = .ok (.getfield 29, 3) := by decide +kernel
theorem dX7_holdersAreSound_12 : decode cX7_holdersAreSound 12 = .ok (.iload_n 1, 1) := by decide +kernel
theorem dX7_holdersAreSound_13 : decode cX7_holdersAreSound 13 = .ok (.aaload, 1) := by decide +kernel
theorem dX7_holdersAreSound_14 : decode cX7_holdersAreSound 14 = .ok (.getfield 131, 3) := by decide +kernel
theorem dX7_holdersAreSound_17 : decode cX7_holdersAreSound 17 = .ok (.istore_n 2, 1) := by decide +kernel
theorem dX7_holdersAreSound_18 : decode cX7_holdersAreSound 18 = .ok (.iload_n 2, 1) := by decide +kernel
theorem dX7_holdersAreSound_19 : decode cX7_holdersAreSound 19 = .ok (.iconst (-1), 1) := by decide +kernel
theorem dX7_holdersAreSound_20 : decode cX7_holdersAreSound 20 = .ok (.if_icmp .eq 26, 3) := by decide +kernel
theorem dX7_holdersAreSound_23 : decode cX7_holdersAreSound 23 = .ok (.aload_n 0, 1) := by decide +kernel
theorem dX7_holdersAreSound_24 : decode cX7_holdersAreSound 24 = .ok (.getfield 23, 3) := by decide +kernel
theorem dX7_holdersAreSound_27 : decode cX7_holdersAreSound 27 = .ok (.iload_n 2, 1) := by decide +kernel
theorem dX7_holdersAreSound_28 : decode cX7_holdersAreSound 28 = .ok (.aaload, 1) := by decide +kernel
theorem dX7_holdersAreSound_29 : decode cX7_holdersAreSound 29 = .ok (.getfield 107, 3) := by decide +kernel
theorem dX7_holdersAreSound_32 : decode cX7_holdersAreSound 32 = .ok (.ifCond .eq 12, 3) := by decide +kernel
theorem dX7_holdersAreSound_35 : decode cX7_holdersAreSound 35 = .ok (.aload_n 0, 1) := by decide +kernel
theorem dX7_holdersAreSound_36 : decode cX7_holdersAreSound 36 = .ok (.iload_n 2, 1) := by decide +kernel
theorem dX7_holdersAreSound_37 : decode cX7_holdersAreSound 37 = .ok (.invokevirtual 343, 3) := by decide +kernel
theorem dX7_holdersAreSound_40 : decode cX7_holdersAreSound 40 = .ok (.iconst 3, 1) := by decide +kernel
theorem dX7_holdersAreSound_41 : decode cX7_holdersAreSound 41 = .ok (.if_icmp .le 5, 3) := by decide +kernel
theorem dX7_holdersAreSound_44 : decode cX7_holdersAreSound 44 = .ok (.iconst 0, 1) := by decide +kernel
theorem dX7_holdersAreSound_45 : decode cX7_holdersAreSound 45 = .ok (.ireturn, 1) := by decide +kernel
theorem dX7_holdersAreSound_46 : decode cX7_holdersAreSound 46 = .ok (.iinc 1 1, 3) := by decide +kernel
theorem dX7_holdersAreSound_49 : decode cX7_holdersAreSound 49 = .ok (.goto (-47), 3) := by decide +kernel
theorem dX7_holdersAreSound_52 : decode cX7_holdersAreSound 52 = .ok (.iconst 1, 1) := by decide +kernel
theorem dX7_holdersAreSound_53 : decode cX7_holdersAreSound 53 = .ok (.ireturn, 1) := by decide +kernel
set_option maxRecDepth 20000 in
theorem ggX7_queuesAreSound_X4_timesIn : GoodIn wsX7_queuesAreSound wsX4_timesIn := goodIn_ca (goodIn_r _ [10, 11, 12, 33, 34] (by decide +kernel) (by decide +kernel)) (goodIn_sub (fun _ h => List.mem_cons_of_mem _ (List.mem_append_right _ h)) (by decide +kernel))
set_option maxRecDepth 20000 in
theorem gX7_queuesAreSound_X4_timesIn : GoodIn wsX7_queuesAreSound (wsV RX7 359 RX4 yX4_timesIn wsX4_timesIn) := goodIn_app (goodIn_of _ (by decide +kernel)) ggX7_queuesAreSound_X4_timesIn
theorem dX7_queuesAreSound_0 : decode cX7_queuesAreSound 0 = .ok (.iconst 0, 1) := by decide +kernel
theorem dX7_queuesAreSound_1 : decode cX7_queuesAreSound 1 = .ok (.istore_n 1, 1) := by decide +kernel
theorem dX7_queuesAreSound_2 : decode cX7_queuesAreSound 2 = .ok (.iload_n 1, 1) := by decide +kernel
theorem dX7_queuesAreSound_3 : decode cX7_queuesAreSound 3 = .ok (.bipush 6, 2) := by decide +kernel
theorem dX7_queuesAreSound_5 : decode cX7_queuesAreSound 5 = .ok (.if_icmp .ge 98, 3) := by decide +kernel
theorem dX7_queuesAreSound_8 : decode cX7_queuesAreSound 8 = .ok (.aload_n 0, 1) := by decide +kernel
theorem dX7_queuesAreSound_9 : decode cX7_queuesAreSound 9 = .ok (.getfield 23, 3) := by decide +kernel
theorem dX7_queuesAreSound_12 : decode cX7_queuesAreSound 12 = .ok (.iload_n 1, 1) := by decide +kernel
theorem dX7_queuesAreSound_13 : decode cX7_queuesAreSound 13 = .ok (.aaload, 1) := by decide +kernel
theorem dX7_queuesAreSound_14 : decode cX7_queuesAreSound 14 = .ok (.getfield 107, 3) := by decide +kernel
theorem dX7_queuesAreSound_17 : decode cX7_queuesAreSound 17 = .ok (.ifCond .eq 20, 3) := by decide +kernel
theorem dX7_queuesAreSound_20 : decode cX7_queuesAreSound 20 = .ok (.aload_n 0, 1) := by decide +kernel
theorem dX7_queuesAreSound_21 : decode cX7_queuesAreSound 21 = .ok (.getfield 23, 3) := by decide +kernel
theorem dX7_queuesAreSound_24 : decode cX7_queuesAreSound 24 = .ok (.iload_n 1, 1) := by decide +kernel
theorem dX7_queuesAreSound_25 : decode cX7_queuesAreSound 25 = .ok (.aaload, 1) := by decide +kernel
theorem dX7_queuesAreSound_26 : decode cX7_queuesAreSound 26 = .ok (.getfield 184, 3) := by decide +kernel
theorem dX7_queuesAreSound_29 : decode cX7_queuesAreSound 29 = .ok (.iconst (-1), 1) := by decide +kernel
theorem dX7_queuesAreSound_30 : decode cX7_queuesAreSound 30 = .ok (.if_icmp .eq 7, 3) := by decide +kernel
theorem dX7_queuesAreSound_33 : decode cX7_queuesAreSound 33 = .ok (.iconst 1, 1) := by decide +kernel
theorem dX7_queuesAreSound_34 : decode cX7_queuesAreSound 34 = .ok (.goto 4, 3) := by decide +kernel
theorem dX7_queuesAreSound_37 : decode cX7_queuesAreSound 37 = .ok (.iconst 0, 1) := by decide +kernel
theorem dX7_queuesAreSound_38 : decode cX7_queuesAreSound 38 = .ok (.istore_n 2, 1) := by decide +kernel
theorem dX7_queuesAreSound_39 : decode cX7_queuesAreSound 39 = .ok (.iconst 0, 1) := by decide +kernel
theorem dX7_queuesAreSound_40 : decode cX7_queuesAreSound 40 = .ok (.istore_n 3, 1) := by decide +kernel
theorem dX7_queuesAreSound_41 : decode cX7_queuesAreSound 41 = .ok (.iload_n 3, 1) := by decide +kernel
theorem dX7_queuesAreSound_42 : decode cX7_queuesAreSound 42 = .ok (.bipush 6, 2) := by decide +kernel
theorem dX7_queuesAreSound_44 : decode cX7_queuesAreSound 44 = .ok (.if_icmp .ge 53, 3) := by decide +kernel
theorem dX7_queuesAreSound_47 : decode cX7_queuesAreSound 47 = .ok (.iload_n 2, 1) := by decide +kernel
theorem dX7_queuesAreSound_48 : decode cX7_queuesAreSound 48 = .ok (.ifCond .eq 20, 3) := by decide +kernel
theorem dX7_queuesAreSound_51 : decode cX7_queuesAreSound 51 = .ok (.aload_n 0, 1) := by decide +kernel
theorem dX7_queuesAreSound_52 : decode cX7_queuesAreSound 52 = .ok (.getfield 23, 3) := by decide +kernel
theorem dX7_queuesAreSound_55 : decode cX7_queuesAreSound 55 = .ok (.iload_n 1, 1) := by decide +kernel
theorem dX7_queuesAreSound_56 : decode cX7_queuesAreSound 56 = .ok (.aaload, 1) := by decide +kernel
theorem dX7_queuesAreSound_57 : decode cX7_queuesAreSound 57 = .ok (.getfield 184, 3) := by decide +kernel
theorem dX7_queuesAreSound_60 : decode cX7_queuesAreSound 60 = .ok (.iload_n 3, 1) := by decide +kernel
theorem dX7_queuesAreSound_61 : decode cX7_queuesAreSound 61 = .ok (.if_icmp .ne 7, 3) := by decide +kernel
theorem dX7_queuesAreSound_64 : decode cX7_queuesAreSound 64 = .ok (.iconst 1, 1) := by decide +kernel
theorem dX7_queuesAreSound_65 : decode cX7_queuesAreSound 65 = .ok (.goto 4, 3) := by decide +kernel
theorem dX7_queuesAreSound_68 : decode cX7_queuesAreSound 68 = .ok (.iconst 0, 1) := by decide +kernel
theorem dX7_queuesAreSound_69 : decode cX7_queuesAreSound 69 = .ok (.istore 4, 2) := by decide +kernel
theorem dX7_queuesAreSound_71 : decode cX7_queuesAreSound 71 = .ok (.aload_n 0, 1) := by decide +kernel
theorem dX7_queuesAreSound_72 : decode cX7_queuesAreSound 72 = .ok (.getfield 29, 3) := by decide +kernel
theorem dX7_queuesAreSound_75 : decode cX7_queuesAreSound 75 = .ok (.iload_n 3, 1) := by decide +kernel
theorem dX7_queuesAreSound_76 : decode cX7_queuesAreSound 76 = .ok (.aaload, 1) := by decide +kernel
theorem dX7_queuesAreSound_77 : decode cX7_queuesAreSound 77 = .ok (.getfield 137, 3) := by decide +kernel
theorem dX7_queuesAreSound_80 : decode cX7_queuesAreSound 80 = .ok (.iload_n 1, 1) := by decide +kernel
theorem dX7_queuesAreSound_81 : decode cX7_queuesAreSound 81 = .ok (.invokevirtual 359, 3) := by decide +kernel
theorem dX7_queuesAreSound_84 : decode cX7_queuesAreSound 84 = .ok (.iload 4, 2) := by decide +kernel
theorem dX7_queuesAreSound_86 : decode cX7_queuesAreSound 86 = .ok (.if_icmp .eq 5, 3) := by decide +kernel
theorem dX7_queuesAreSound_89 : decode cX7_queuesAreSound 89 = .ok (.iconst 0, 1) := by decide +kernel
theorem dX7_queuesAreSound_90 : decode cX7_queuesAreSound 90 = .ok (.ireturn, 1) := by decide +kernel
theorem dX7_queuesAreSound_91 : decode cX7_queuesAreSound 91 = .ok (.iinc 3 1, 3) := by decide +kernel
theorem dX7_queuesAreSound_94 : decode cX7_queuesAreSound 94 = .ok (.goto (-53), 3) := by decide +kernel
theorem dX7_queuesAreSound_97 : decode cX7_queuesAreSound 97 = .ok (.iinc 1 1, 3) := by decide +kernel
theorem dX7_queuesAreSound_100 : decode cX7_queuesAreSound 100 = .ok (.goto (-98), 3) := by decide +kernel
theorem dX7_queuesAreSound_103 : decode cX7_queuesAreSound 103 = .ok (.iconst 1, 1) := by decide +kernel
theorem dX7_queuesAreSound_104 : decode cX7_queuesAreSound 104 = .ok (.ireturn, 1) := by decide +kernel
theorem dX7_visitorsAreSound_0 : decode cX7_visitorsAreSound 0 = .ok (.iconst 0, 1) := by decide +kernel
theorem dX7_visitorsAreSound_1 : decode cX7_visitorsAreSound 1 = .ok (.istore_n 1, 1) := by decide +kernel
theorem dX7_visitorsAreSound_2 : decode cX7_visitorsAreSound 2 = .ok (.iload_n 1, 1) := by decide +kernel
theorem dX7_visitorsAreSound_3 : decode cX7_visitorsAreSound 3 = .ok (.aload_n 0, 1) := by decide +kernel
theorem dX7_visitorsAreSound_4 : decode cX7_visitorsAreSound 4 = .ok (.getfield 208, 3) := by decide +kernel
theorem dX7_visitorsAreSound_7 : decode cX7_visitorsAreSound 7 = .ok (.if_icmp .ge 52, 3) := by decide +kernel
theorem dX7_visitorsAreSound_10 : decode cX7_visitorsAreSound 10 = .ok (.iconst 0, 1) := by decide +kernel
theorem dX7_visitorsAreSound_11 : decode cX7_visitorsAreSound 11 = .ok (.istore_n 2, 1) := by decide +kernel
theorem dX7_visitorsAreSound_12 : decode cX7_visitorsAreSound 12 = .ok (.iload_n 2, 1) := by decide +kernel
theorem dX7_visitorsAreSound_13 : decode cX7_visitorsAreSound 13 = .ok (.bipush 100, 2) := by decide +kernel
theorem dX7_visitorsAreSound_15 : decode cX7_visitorsAreSound 15 = .ok (.if_icmp .ge 38, 3) := by decide +kernel
theorem dX7_visitorsAreSound_18 : decode cX7_visitorsAreSound 18 = .ok (.aload_n 0, 1) := by decide +kernel
theorem dX7_visitorsAreSound_19 : decode cX7_visitorsAreSound 19 = .ok (.getfield 35, 3) := by decide +kernel
theorem dX7_visitorsAreSound_22 : decode cX7_visitorsAreSound 22 = .ok (.iload_n 1, 1) := by decide +kernel
theorem dX7_visitorsAreSound_23 : decode cX7_visitorsAreSound 23 = .ok (.aaload, 1) := by decide +kernel
theorem dX7_visitorsAreSound_24 : decode cX7_visitorsAreSound 24 = .ok (.getfield 227, 3) := by decide +kernel
theorem dX7_visitorsAreSound_27 : decode cX7_visitorsAreSound 27 = .ok (.iload_n 2, 1) := by decide +kernel
theorem dX7_visitorsAreSound_28 : decode cX7_visitorsAreSound 28 = .ok (.iaload, 1) := by decide +kernel
theorem dX7_visitorsAreSound_29 : decode cX7_visitorsAreSound 29 = .ok (.iconst 1, 1) := by decide +kernel
theorem dX7_visitorsAreSound_30 : decode cX7_visitorsAreSound 30 = .ok (.aload_n 0, 1) := by decide +kernel
theorem dX7_visitorsAreSound_31 : decode cX7_visitorsAreSound 31 = .ok (.getfield 35, 3) := by decide +kernel
theorem dX7_visitorsAreSound_34 : decode cX7_visitorsAreSound 34 = .ok (.iload_n 1, 1) := by decide +kernel
theorem dX7_visitorsAreSound_35 : decode cX7_visitorsAreSound 35 = .ok (.aaload, 1) := by decide +kernel
theorem dX7_visitorsAreSound_36 : decode cX7_visitorsAreSound 36 = .ok (.getfield 224, 3) := by decide +kernel
theorem dX7_visitorsAreSound_39 : decode cX7_visitorsAreSound 39 = .ok (.iload_n 2, 1) := by decide +kernel
theorem dX7_visitorsAreSound_40 : decode cX7_visitorsAreSound 40 = .ok (.iaload, 1) := by decide +kernel
theorem dX7_visitorsAreSound_41 : decode cX7_visitorsAreSound 41 = .ok (.iadd, 1) := by decide +kernel
theorem dX7_visitorsAreSound_42 : decode cX7_visitorsAreSound 42 = .ok (.if_icmp .le 5, 3) := by decide +kernel
theorem dX7_visitorsAreSound_45 : decode cX7_visitorsAreSound 45 = .ok (.iconst 0, 1) := by decide +kernel
theorem dX7_visitorsAreSound_46 : decode cX7_visitorsAreSound 46 = .ok (.ireturn, 1) := by decide +kernel
theorem dX7_visitorsAreSound_47 : decode cX7_visitorsAreSound 47 = .ok (.iinc 2 1, 3) := by decide +kernel
theorem dX7_visitorsAreSound_50 : decode cX7_visitorsAreSound 50 = .ok (.goto (-38), 3) := by decide +kernel
theorem dX7_visitorsAreSound_53 : decode cX7_visitorsAreSound 53 = .ok (.iinc 1 1, 3) := by decide +kernel
theorem dX7_visitorsAreSound_56 : decode cX7_visitorsAreSound 56 = .ok (.goto (-54), 3) := by decide +kernel
theorem dX7_visitorsAreSound_59 : decode cX7_visitorsAreSound 59 = .ok (.iconst 1, 1) := by decide +kernel
theorem dX7_visitorsAreSound_60 : decode cX7_visitorsAreSound 60 = .ok (.ireturn, 1) := by decide +kernel
theorem dJx00060_init_a7421_0 : decode cJx00060_init_a7421 0 = .ok (.aload_n 0, 1) := by decide +kernel
theorem dJx00060_init_a7421_1 : decode cJx00060_init_a7421 1 = .ok (.aload_n 1, 1) := by decide +kernel
theorem dJx00060_init_a7421_2 : decode cJx00060_init_a7421 2 = .ok (.invokespecial 7, 3) := by decide +kernel
theorem dJx00060_init_a7421_5 : decode cJx00060_init_a7421 5 = .ok (.return_, 1) := by decide +kernel
set_option maxRecDepth 20000 in
theorem ggJ0_charAt_5068e_J0_isLatin1_aae02 : GoodIn wsJ0_charAt_5068e wsJ0_isLatin1_aae02 := goodIn_r _ [6, 7, 8, 38, 39] (by decide +kernel) (by decide +kernel)
set_option maxRecDepth 20000 in
theorem gJ0_charAt_5068e_J0_isLatin1_aae02 : GoodIn wsJ0_charAt_5068e (wsV RJ0 492 RJ0 yJ0_isLatin1_aae02 wsJ0_isLatin1_aae02) := goodIn_app (goodIn_of _ (by decide +kernel)) ggJ0_charAt_5068e_J0_isLatin1_aae02
set_option maxRecDepth 20000 in
theorem ggJ0_charAt_5068e_J1_charAt_3b067 : GoodIn wsJ0_charAt_5068e wsJ1_charAt_3b067 := goodIn_r _ [12, 13, 14, 5, 15, 16, 17, 18, 19, 20] (by decide +kernel) (by decide +kernel)
set_option maxRecDepth 20000 in
theorem gJ0_charAt_5068e_J1_charAt_3b067 : GoodIn wsJ0_charAt_5068e (va_wsS RJ0 495 yJ1_charAt_3b067 wsJ1_charAt_3b067) := goodIn_app (goodIn_of _ (by decide +kernel)) ggJ0_charAt_5068e_J1_charAt_3b067
set_option maxRecDepth 20000 in
theorem ggJ0_charAt_5068e_J2_charAt_3b067 : GoodIn wsJ0_charAt_5068e wsJ2_charAt_3b067 := goodIn_r _ [24, 25, 26, 23, 27, 28, 29, 30, 31, 14, 5, 15, 16, 17, 18, 19, 20, 32, 33, 34, 35, 36, 37] (by decide +kernel) (by decide +kernel)
set_option maxRecDepth 20000 in
theorem gJ0_charAt_5068e_J2_charAt_3b067 : GoodIn wsJ0_charAt_5068e (va_wsS RJ0 498 yJ2_charAt_3b067 wsJ2_charAt_3b067) := goodIn_app (goodIn_of _ (by decide +kernel)) ggJ0_charAt_5068e_J2_charAt_3b067
theorem dJ0_charAt_5068e_0 : decode cJ0_charAt_5068e 0 = .ok (.aload_n 0, 1) := by decide +kernel
theorem dJ0_charAt_5068e_1 : decode cJ0_charAt_5068e 1 = .ok (.invokevirtual 492, 3) := by decide +kernel
theorem dJ0_charAt_5068e_4 : decode cJ0_charAt_5068e 4 = .ok (.ifCond .eq 12, 3) := by decide +kernel
theorem dJ0_charAt_5068e_7 : decode cJ0_charAt_5068e 7 = .ok (.aload_n 0, 1) := by decide +kernel
theorem dJ0_charAt_5068e_8 : decode cJ0_charAt_5068e 8 = .ok (.getfield 9, 3) := by decide +kernel
theorem dJ0_charAt_5068e_11 : decode cJ0_charAt_5068e 11 = .ok (.iload_n 1, 1) := by decide +kernel
theorem dJ0_charAt_5068e_12 : decode cJ0_charAt_5068e 12 = .ok (.invokestatic 495, 3) := by decide +kernel
theorem dJ0_charAt_5068e_15 : decode cJ0_charAt_5068e 15 = .ok (.ireturn, 1) := by decide +kernel
theorem dJ0_charAt_5068e_16 : decode cJ0_charAt_5068e 16 = .ok (.aload_n 0, 1) := by decide +kernel
theorem dJ0_charAt_5068e_17 : decode cJ0_charAt_5068e 17 = .ok (.getfield 9, 3) := by decide +kernel
theorem dJ0_charAt_5068e_20 : decode cJ0_charAt_5068e 20 = .ok (.iload_n 1, 1) := by decide +kernel
theorem dJ0_charAt_5068e_21 : decode cJ0_charAt_5068e 21 = .ok (.invokestatic 498, 3) := by decide +kernel
theorem dJ0_charAt_5068e_24 : decode cJ0_charAt_5068e 24 = .ok (.ireturn, 1) := by decide +kernel
theorem dJ0_isLatin1_aae02_0 : decode cJ0_isLatin1_aae02 0 = .ok (.getstatic 38, 3) := by decide +kernel
theorem dJ0_isLatin1_aae02_3 : decode cJ0_isLatin1_aae02 3 = .ok (.ifCond .eq 14, 3) := by decide +kernel
theorem dJ0_isLatin1_aae02_6 : decode cJ0_isLatin1_aae02 6 = .ok (.aload_n 0, 1) := by decide +kernel
theorem dJ0_isLatin1_aae02_7 : decode cJ0_isLatin1_aae02 7 = .ok (.getfield 15, 3) := by decide +kernel
theorem dJ0_isLatin1_aae02_10 : decode cJ0_isLatin1_aae02 10 = .ok (.ifCond .ne 7, 3) := by decide +kernel
theorem dJ0_isLatin1_aae02_13 : decode cJ0_isLatin1_aae02 13 = .ok (.iconst 1, 1) := by decide +kernel
theorem dJ0_isLatin1_aae02_14 : decode cJ0_isLatin1_aae02 14 = .ok (.goto 4, 3) := by decide +kernel
theorem dJ0_isLatin1_aae02_17 : decode cJ0_isLatin1_aae02 17 = .ok (.iconst 0, 1) := by decide +kernel
theorem dJ0_isLatin1_aae02_18 : decode cJ0_isLatin1_aae02 18 = .ok (.ireturn, 1) := by decide +kernel
set_option maxRecDepth 20000 in
theorem ggJ0_checkIndex_df160_J3_checkIndex_8e157 : GoodIn wsJ0_checkIndex_df160 wsJ3_checkIndex_8e157 := goodIn_r _ [5] (by decide +kernel) (by decide +kernel)
set_option maxRecDepth 20000 in
theorem gJ0_checkIndex_df160_J3_checkIndex_8e157 : GoodIn wsJ0_checkIndex_df160 (va_wsS RJ0 1059 yJ3_checkIndex_8e157 wsJ3_checkIndex_8e157) := goodIn_app (goodIn_of _ (by decide +kernel)) ggJ0_checkIndex_df160_J3_checkIndex_8e157
theorem dJ0_checkIndex_df160_0 : decode cJ0_checkIndex_df160 0 = .ok (.iload_n 0, 1) := by decide +kernel
theorem dJ0_checkIndex_df160_1 : decode cJ0_checkIndex_df160 1 = .ok (.iload_n 1, 1) := by decide +kernel
theorem dJ0_checkIndex_df160_2 : decode cJ0_checkIndex_df160 2 = .ok (.getstatic 1053, 3) := by decide +kernel
theorem dJ0_checkIndex_df160_5 : decode cJ0_checkIndex_df160 5 = .ok (.invokestatic 1059, 3) := by decide +kernel
theorem dJ0_checkIndex_df160_8 : decode cJ0_checkIndex_df160 8 = .ok (.pop, 1) := by decide +kernel
theorem dJ0_checkIndex_df160_9 : decode cJ0_checkIndex_df160 9 = .ok (.return_, 1) := by decide +kernel
set_option maxRecDepth 20000 in
theorem ggJ1_charAt_3b067_J0_checkIndex_df160 : GoodIn wsJ1_charAt_3b067 wsJ0_checkIndex_df160 := goodIn_r _ [4, 5, 6, 7, 8, 9] (by decide +kernel) (by decide +kernel)
set_option maxRecDepth 20000 in
theorem gJ1_charAt_3b067_J0_checkIndex_df160 : GoodIn wsJ1_charAt_3b067 (va_wsS RJ1 9 yJ0_checkIndex_df160 wsJ0_checkIndex_df160) := goodIn_app (goodIn_of _ (by decide +kernel)) ggJ1_charAt_3b067_J0_checkIndex_df160
theorem dJ1_charAt_3b067_0 : decode cJ1_charAt_3b067 0 = .ok (.iload_n 1, 1) := by decide +kernel
theorem dJ1_charAt_3b067_1 : decode cJ1_charAt_3b067 1 = .ok (.aload_n 0, 1) := by decide +kernel
theorem dJ1_charAt_3b067_2 : decode cJ1_charAt_3b067 2 = .ok (.arraylength, 1) := by decide +kernel
theorem dJ1_charAt_3b067_3 : decode cJ1_charAt_3b067 3 = .ok (.invokestatic 9, 3) := by decide +kernel
theorem dJ1_charAt_3b067_6 : decode cJ1_charAt_3b067 6 = .ok (.aload_n 0, 1) := by decide +kernel
theorem dJ1_charAt_3b067_7 : decode cJ1_charAt_3b067 7 = .ok (.iload_n 1, 1) := by decide +kernel
theorem dJ1_charAt_3b067_8 : decode cJ1_charAt_3b067 8 = .ok (.baload, 1) := by decide +kernel
theorem dJ1_charAt_3b067_9 : decode cJ1_charAt_3b067 9 = .ok (.sipush 255, 3) := by decide +kernel
theorem dJ1_charAt_3b067_12 : decode cJ1_charAt_3b067 12 = .ok (.iand, 1) := by decide +kernel
theorem dJ1_charAt_3b067_13 : decode cJ1_charAt_3b067 13 = .ok (.i2c, 1) := by decide +kernel
theorem dJ1_charAt_3b067_14 : decode cJ1_charAt_3b067 14 = .ok (.ireturn, 1) := by decide +kernel
set_option maxRecDepth 20000 in
theorem ggJ2_getChar_3b067_J2_length_9d52b : GoodIn wsJ2_getChar_3b067 wsJ2_length_9d52b := goodIn_r _ [7] (by decide +kernel) (by decide +kernel)
set_option maxRecDepth 20000 in
theorem gJ2_getChar_3b067_J2_length_9d52b : GoodIn wsJ2_getChar_3b067 (va_wsS RJ2 48 yJ2_length_9d52b wsJ2_length_9d52b) := goodIn_app (goodIn_of _ (by decide +kernel)) ggJ2_getChar_3b067_J2_length_9d52b
theorem dJ2_getChar_3b067_0 : decode cJ2_getChar_3b067 0 = .ok (.getstatic 44, 3) := by decide +kernel
theorem dJ2_getChar_3b067_3 : decode cJ2_getChar_3b067 3 = .ok (.ifCond .ne 25, 3) := by decide +kernel
theorem dJ2_getChar_3b067_6 : decode cJ2_getChar_3b067 6 = .ok (.iload_n 1, 1) := by decide +kernel
theorem dJ2_getChar_3b067_7 : decode cJ2_getChar_3b067 7 = .ok (.ifCond .lt 11, 3) := by decide +kernel
theorem dJ2_getChar_3b067_10 : decode cJ2_getChar_3b067 10 = .ok (.iload_n 1, 1) := by decide +kernel
theorem dJ2_getChar_3b067_11 : decode cJ2_getChar_3b067 11 = .ok (.aload_n 0, 1) := by decide +kernel
theorem dJ2_getChar_3b067_12 : decode cJ2_getChar_3b067 12 = .ok (.invokestatic 48, 3) := by decide +kernel
theorem dJ2_getChar_3b067_15 : decode cJ2_getChar_3b067 15 = .ok (.if_icmp .lt 13, 3) := by decide +kernel
theorem dJ2_getChar_3b067_18 : decode cJ2_getChar_3b067 18 = .ok (.new 52, 3) := by decide +kernel
theorem dJ2_getChar_3b067_21 : decode cJ2_getChar_3b067 21 = .ok (.dup, 1) := by decide +kernel
theorem dJ2_getChar_3b067_22 : decode cJ2_getChar_3b067 22 = .ok (.ldc 54, 2) := by decide +kernel
theorem dJ2_getChar_3b067_24 : decode cJ2_getChar_3b067 24 = .ok (.invokespecial 56, 3) := by decide +kernel
theorem dJ2_getChar_3b067_27 : decode cJ2_getChar_3b067 27 = .ok (.athrow, 1) := by decide +kernel
theorem dJ2_getChar_3b067_28 : decode cJ2_getChar_3b067 28 = .ok (.iload_n 1, 1) := by decide +kernel
theorem dJ2_getChar_3b067_29 : decode cJ2_getChar_3b067 29 = .ok (.iconst 1, 1) := by decide +kernel
theorem dJ2_getChar_3b067_30 : decode cJ2_getChar_3b067 30 = .ok (.ishl, 1) := by decide +kernel
theorem dJ2_getChar_3b067_31 : decode cJ2_getChar_3b067 31 = .ok (.istore_n 1, 1) := by decide +kernel
theorem dJ2_getChar_3b067_32 : decode cJ2_getChar_3b067 32 = .ok (.aload_n 0, 1) := by decide +kernel
theorem dJ2_getChar_3b067_33 : decode cJ2_getChar_3b067 33 = .ok (.iload_n 1, 1) := by decide +kernel
theorem dJ2_getChar_3b067_34 : decode cJ2_getChar_3b067 34 = .ok (.iinc 1 1, 3) := by decide +kernel
theorem dJ2_getChar_3b067_37 : decode cJ2_getChar_3b067 37 = .ok (.baload, 1) := by decide +kernel
theorem dJ2_getChar_3b067_38 : decode cJ2_getChar_3b067 38 = .ok (.sipush 255, 3) := by decide +kernel
theorem dJ2_getChar_3b067_41 : decode cJ2_getChar_3b067 41 = .ok (.iand, 1) := by decide +kernel
theorem dJ2_getChar_3b067_42 : decode cJ2_getChar_3b067 42 = .ok (.getstatic 59, 3) := by decide +kernel
theorem dJ2_getChar_3b067_45 : decode cJ2_getChar_3b067 45 = .ok (.ishl, 1) := by decide +kernel
theorem dJ2_getChar_3b067_46 : decode cJ2_getChar_3b067 46 = .ok (.aload_n 0, 1) := by decide +kernel
theorem dJ2_getChar_3b067_47 : decode cJ2_getChar_3b067 47 = .ok (.iload_n 1, 1) := by decide +kernel
theorem dJ2_getChar_3b067_48 : decode cJ2_getChar_3b067 48 = .ok (.baload, 1) := by decide +kernel
theorem dJ2_getChar_3b067_49 : decode cJ2_getChar_3b067 49 = .ok (.sipush 255, 3) := by decide +kernel
theorem dJ2_getChar_3b067_52 : decode cJ2_getChar_3b067 52 = .ok (.iand, 1) := by decide +kernel
theorem dJ2_getChar_3b067_53 : decode cJ2_getChar_3b067 53 = .ok (.getstatic 63, 3) := by decide +kernel
theorem dJ2_getChar_3b067_56 : decode cJ2_getChar_3b067 56 = .ok (.ishl, 1) := by decide +kernel
theorem dJ2_getChar_3b067_57 : decode cJ2_getChar_3b067 57 = .ok (.ior, 1) := by decide +kernel
theorem dJ2_getChar_3b067_58 : decode cJ2_getChar_3b067 58 = .ok (.i2c, 1) := by decide +kernel
theorem dJ2_getChar_3b067_59 : decode cJ2_getChar_3b067 59 = .ok (.ireturn, 1) := by decide +kernel
theorem dJ2_length_9d52b_0 : decode cJ2_length_9d52b 0 = .ok (.aload_n 0, 1) := by decide +kernel
theorem dJ2_length_9d52b_1 : decode cJ2_length_9d52b 1 = .ok (.arraylength, 1) := by decide +kernel
theorem dJ2_length_9d52b_2 : decode cJ2_length_9d52b 2 = .ok (.iconst 1, 1) := by decide +kernel
theorem dJ2_length_9d52b_3 : decode cJ2_length_9d52b 3 = .ok (.ishr, 1) := by decide +kernel
theorem dJ2_length_9d52b_4 : decode cJ2_length_9d52b 4 = .ok (.ireturn, 1) := by decide +kernel
set_option maxRecDepth 20000 in
theorem ggJ2_charAt_3b067_J2_checkIndex_2214a : GoodIn wsJ2_charAt_3b067 wsJ2_checkIndex_2214a := goodIn_r _ [4, 5, 6, 3, 7, 8, 9, 10, 11, 12, 13, 14, 15, 16] (by decide +kernel) (by decide +kernel)
set_option maxRecDepth 20000 in
theorem gJ2_charAt_3b067_J2_checkIndex_2214a : GoodIn wsJ2_charAt_3b067 (va_wsS RJ2 67 yJ2_checkIndex_2214a wsJ2_checkIndex_2214a) := goodIn_app (goodIn_of _ (by decide +kernel)) ggJ2_charAt_3b067_J2_checkIndex_2214a
set_option maxRecDepth 20000 in
theorem ggJ2_charAt_3b067_J2_getChar_3b067 : GoodIn wsJ2_charAt_3b067 wsJ2_getChar_3b067 := goodIn_r _ [19, 20, 21, 22, 5, 6, 3, 7] (by decide +kernel) (by decide +kernel)
set_option maxRecDepth 20000 in
theorem gJ2_charAt_3b067_J2_getChar_3b067 : GoodIn wsJ2_charAt_3b067 (va_wsS RJ2 71 yJ2_getChar_3b067 wsJ2_getChar_3b067) := goodIn_app (goodIn_of _ (by decide +kernel)) ggJ2_charAt_3b067_J2_getChar_3b067
theorem dJ2_charAt_3b067_0 : decode cJ2_charAt_3b067 0 = .ok (.iload_n 1, 1) := by decide +kernel
theorem dJ2_charAt_3b067_1 : decode cJ2_charAt_3b067 1 = .ok (.aload_n 0, 1) := by decide +kernel
theorem dJ2_charAt_3b067_2 : decode cJ2_charAt_3b067 2 = .ok (.invokestatic 67, 3) := by decide +kernel
theorem dJ2_charAt_3b067_5 : decode cJ2_charAt_3b067 5 = .ok (.aload_n 0, 1) := by decide +kernel
theorem dJ2_charAt_3b067_6 : decode cJ2_charAt_3b067 6 = .ok (.iload_n 1, 1) := by decide +kernel
theorem dJ2_charAt_3b067_7 : decode cJ2_charAt_3b067 7 = .ok (.invokestatic 71, 3) := by decide +kernel
theorem dJ2_charAt_3b067_10 : decode cJ2_charAt_3b067 10 = .ok (.ireturn, 1) := by decide +kernel
set_option maxRecDepth 20000 in
theorem ggJ2_checkIndex_2214a_J2_length_9d52b : GoodIn wsJ2_checkIndex_2214a wsJ2_length_9d52b := goodIn_r _ [4] (by decide +kernel) (by decide +kernel)
set_option maxRecDepth 20000 in
theorem gJ2_checkIndex_2214a_J2_length_9d52b : GoodIn wsJ2_checkIndex_2214a (va_wsS RJ2 48 yJ2_length_9d52b wsJ2_length_9d52b) := goodIn_app (goodIn_of _ (by decide +kernel)) ggJ2_checkIndex_2214a_J2_length_9d52b
set_option maxRecDepth 20000 in
theorem ggJ2_checkIndex_2214a_J0_checkIndex_df160 : GoodIn wsJ2_checkIndex_2214a wsJ0_checkIndex_df160 := goodIn_r _ [8, 9, 10, 11, 12, 13] (by decide +kernel) (by decide +kernel)
set_option maxRecDepth 20000 in
theorem gJ2_checkIndex_2214a_J0_checkIndex_df160 : GoodIn wsJ2_checkIndex_2214a (va_wsS RJ2 414 yJ0_checkIndex_df160 wsJ0_checkIndex_df160) := goodIn_app (goodIn_of _ (by decide +kernel)) ggJ2_checkIndex_2214a_J0_checkIndex_df160
theorem dJ2_checkIndex_2214a_0 : decode cJ2_checkIndex_2214a 0 = .ok (.iload_n 0, 1) := by decide +kernel
theorem dJ2_checkIndex_2214a_1 : decode cJ2_checkIndex_2214a 1 = .ok (.aload_n 1, 1) := by decide +kernel
theorem dJ2_checkIndex_2214a_2 : decode cJ2_checkIndex_2214a 2 = .ok (.invokestatic 48, 3) := by decide +kernel
theorem dJ2_checkIndex_2214a_5 : decode cJ2_checkIndex_2214a 5 = .ok (.invokestatic 414, 3) := by decide +kernel
theorem dJ2_checkIndex_2214a_8 : decode cJ2_checkIndex_2214a 8 = .ok (.return_, 1) := by decide +kernel
theorem dJ3_checkIndex_8e157_0 : decode cJ3_checkIndex_8e157 0 = .ok (.iload_n 0, 1) := by decide +kernel
theorem dJ3_checkIndex_8e157_1 : decode cJ3_checkIndex_8e157 1 = .ok (.ifCond .lt 8, 3) := by decide +kernel
theorem dJ3_checkIndex_8e157_4 : decode cJ3_checkIndex_8e157 4 = .ok (.iload_n 0, 1) := by decide +kernel
theorem dJ3_checkIndex_8e157_5 : decode cJ3_checkIndex_8e157 5 = .ok (.iload_n 1, 1) := by decide +kernel
theorem dJ3_checkIndex_8e157_6 : decode cJ3_checkIndex_8e157 6 = .ok (.if_icmp .lt 10, 3) := by decide +kernel
theorem dJ3_checkIndex_8e157_9 : decode cJ3_checkIndex_8e157 9 = .ok (.aload_n 2, 1) := by decide +kernel
theorem dJ3_checkIndex_8e157_10 : decode cJ3_checkIndex_8e157 10 = .ok (.iload_n 0, 1) := by decide +kernel
theorem dJ3_checkIndex_8e157_11 : decode cJ3_checkIndex_8e157 11 = .ok (.iload_n 1, 1) := by decide +kernel
theorem dJ3_checkIndex_8e157_12 : decode cJ3_checkIndex_8e157 12 = .ok (.invokestatic 95, 3) := by decide +kernel
theorem dJ3_checkIndex_8e157_15 : decode cJ3_checkIndex_8e157 15 = .ok (.athrow, 1) := by decide +kernel
theorem dJ3_checkIndex_8e157_16 : decode cJ3_checkIndex_8e157 16 = .ok (.iload_n 0, 1) := by decide +kernel
theorem dJ3_checkIndex_8e157_17 : decode cJ3_checkIndex_8e157 17 = .ok (.ireturn, 1) := by decide +kernel
