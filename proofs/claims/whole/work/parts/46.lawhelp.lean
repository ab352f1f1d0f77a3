/-! The helpers of the law: rows. -/
set_option maxRecDepth 20000 in
theorem ggL_addLane_X4_addLane : GoodIn wsL_addLane wsX4_addLane := goodIn_ca (goodIn_ca (goodIn_r _ [7, 8, 9, 10, 11, 12, 13, 14, 15, 6, 16, 17, 18, 19, 20, 21, 22, 23, 24, 25, 26, 27, 28, 29, 30, 31, 32, 33, 34, 35, 36, 37, 38, 39, 40, 41, 42, 43, 44, 45, 46, 47, 48, 49, 50, 51, 52, 53, 54, 55, 56, 57] (by decide +kernel) (by decide +kernel)) (goodIn_sub (fun _ h => List.mem_cons_of_mem _ (List.mem_append_left _ (List.mem_append_right _ h))) (by decide +kernel))) (goodIn_sub (fun _ h => List.mem_cons_of_mem _ (List.mem_append_right _ h)) (by decide +kernel))
set_option maxRecDepth 20000 in
theorem gL_addLane_X4_addLane : GoodIn wsL_addLane (wsV RL 7 RX4 yX4_addLane wsX4_addLane) := goodIn_app (goodIn_of _ (by decide +kernel)) ggL_addLane_X4_addLane
theorem dL_addLane_0 : decode cL_addLane 0 = .ok (.aload_n 3, 1) := by decide +kernel
theorem dL_addLane_1 : decode cL_addLane 1 = .ok (.iconst 0, 1) := by decide +kernel
theorem dL_addLane_2 : decode cL_addLane 2 = .ok (.aload_n 0, 1) := by decide +kernel
theorem dL_addLane_3 : decode cL_addLane 3 = .ok (.iload_n 1, 1) := by decide +kernel
theorem dL_addLane_4 : decode cL_addLane 4 = .ok (.iload_n 2, 1) := by decide +kernel
theorem dL_addLane_5 : decode cL_addLane 5 = .ok (.invokevirtual 7, 3) := by decide +kernel
theorem dL_addLane_8 : decode cL_addLane 8 = .ok (.i2l, 1) := by decide +kernel
theorem dL_addLane_9 : decode cL_addLane 9 = .ok (.lastore, 1) := by decide +kernel
theorem dL_addLane_10 : decode cL_addLane 10 = .ok (.goto 11, 3) := by decide +kernel
theorem dL_addLane_13 : decode cL_addLane 13 = .ok (.astore 4, 2) := by decide +kernel
theorem dL_addLane_15 : decode cL_addLane 15 = .ok (.iconst 1, 1) := by decide +kernel
theorem dL_addLane_16 : decode cL_addLane 16 = .ok (.ireturn, 1) := by decide +kernel
theorem dL_addLane_17 : decode cL_addLane 17 = .ok (.astore 4, 2) := by decide +kernel
theorem dL_addLane_19 : decode cL_addLane 19 = .ok (.iconst 2, 1) := by decide +kernel
theorem dL_addLane_20 : decode cL_addLane 20 = .ok (.ireturn, 1) := by decide +kernel
theorem dL_addLane_21 : decode cL_addLane 21 = .ok (.iconst 0, 1) := by decide +kernel
theorem dL_addLane_22 : decode cL_addLane 22 = .ok (.ireturn, 1) := by decide +kernel
set_option maxRecDepth 20000 in
theorem ggL_addDoor_X4_addDoor : GoodIn wsL_addDoor wsX4_addDoor := goodIn_ca (goodIn_ca (goodIn_r _ [7, 8, 9, 10, 11, 12, 13, 14, 15, 16, 17, 18, 19, 20, 21, 22, 23, 24, 25, 26, 27, 28, 29, 30, 31, 32, 33, 34, 35, 36, 37, 38] (by decide +kernel) (by decide +kernel)) (goodIn_sub (fun _ h => List.mem_cons_of_mem _ (List.mem_append_left _ (List.mem_append_right _ h))) (by decide +kernel))) (goodIn_sub (fun _ h => List.mem_cons_of_mem _ (List.mem_append_right _ h)) (by decide +kernel))
set_option maxRecDepth 20000 in
theorem gL_addDoor_X4_addDoor : GoodIn wsL_addDoor (wsV RL 17 RX4 yX4_addDoor wsX4_addDoor) := goodIn_app (goodIn_of _ (by decide +kernel)) ggL_addDoor_X4_addDoor
theorem dL_addDoor_0 : decode cL_addDoor 0 = .ok (.aload_n 2, 1) := by decide +kernel
theorem dL_addDoor_1 : decode cL_addDoor 1 = .ok (.iconst 0, 1) := by decide +kernel
theorem dL_addDoor_2 : decode cL_addDoor 2 = .ok (.aload_n 0, 1) := by decide +kernel
theorem dL_addDoor_3 : decode cL_addDoor 3 = .ok (.iload_n 1, 1) := by decide +kernel
theorem dL_addDoor_4 : decode cL_addDoor 4 = .ok (.invokevirtual 17, 3) := by decide +kernel
theorem dL_addDoor_7 : decode cL_addDoor 7 = .ok (.i2l, 1) := by decide +kernel
theorem dL_addDoor_8 : decode cL_addDoor 8 = .ok (.lastore, 1) := by decide +kernel
theorem dL_addDoor_9 : decode cL_addDoor 9 = .ok (.goto 9, 3) := by decide +kernel
theorem dL_addDoor_12 : decode cL_addDoor 12 = .ok (.astore_n 3, 1) := by decide +kernel
theorem dL_addDoor_13 : decode cL_addDoor 13 = .ok (.iconst 1, 1) := by decide +kernel
theorem dL_addDoor_14 : decode cL_addDoor 14 = .ok (.ireturn, 1) := by decide +kernel
theorem dL_addDoor_15 : decode cL_addDoor 15 = .ok (.astore_n 3, 1) := by decide +kernel
theorem dL_addDoor_16 : decode cL_addDoor 16 = .ok (.iconst 2, 1) := by decide +kernel
theorem dL_addDoor_17 : decode cL_addDoor 17 = .ok (.ireturn, 1) := by decide +kernel
theorem dL_addDoor_18 : decode cL_addDoor 18 = .ok (.iconst 0, 1) := by decide +kernel
theorem dL_addDoor_19 : decode cL_addDoor 19 = .ok (.ireturn, 1) := by decide +kernel
set_option maxRecDepth 20000 in
theorem ggL_setTolerance_X4_setTolerance : GoodIn wsL_setTolerance wsX4_setTolerance := goodIn_ca (goodIn_r _ [6, 7, 8, 9, 10, 11, 5, 12, 13, 14, 15, 16, 17, 18, 19, 20, 21, 22, 23, 24, 25] (by decide +kernel) (by decide +kernel)) (goodIn_sub (fun _ h => List.mem_cons_of_mem _ (List.mem_append_right _ h)) (by decide +kernel))
set_option maxRecDepth 20000 in
theorem gL_setTolerance_X4_setTolerance : GoodIn wsL_setTolerance (wsV RL 21 RX4 yX4_setTolerance wsX4_setTolerance) := goodIn_app (goodIn_of _ (by decide +kernel)) ggL_setTolerance_X4_setTolerance
theorem dL_setTolerance_0 : decode cL_setTolerance 0 = .ok (.aload_n 2, 1) := by decide +kernel
theorem dL_setTolerance_1 : decode cL_setTolerance 1 = .ok (.iconst 0, 1) := by decide +kernel
theorem dL_setTolerance_2 : decode cL_setTolerance 2 = .ok (.aload_n 0, 1) := by decide +kernel
theorem dL_setTolerance_3 : decode cL_setTolerance 3 = .ok (.iload_n 1, 1) := by decide +kernel
theorem dL_setTolerance_4 : decode cL_setTolerance 4 = .ok (.invokevirtual 21, 3) := by decide +kernel
theorem dL_setTolerance_7 : decode cL_setTolerance 7 = .ok (.i2l, 1) := by decide +kernel
theorem dL_setTolerance_8 : decode cL_setTolerance 8 = .ok (.lastore, 1) := by decide +kernel
theorem dL_setTolerance_9 : decode cL_setTolerance 9 = .ok (.goto 6, 3) := by decide +kernel
theorem dL_setTolerance_12 : decode cL_setTolerance 12 = .ok (.astore_n 3, 1) := by decide +kernel
theorem dL_setTolerance_13 : decode cL_setTolerance 13 = .ok (.iconst 1, 1) := by decide +kernel
theorem dL_setTolerance_14 : decode cL_setTolerance 14 = .ok (.ireturn, 1) := by decide +kernel
theorem dL_setTolerance_15 : decode cL_setTolerance 15 = .ok (.iconst 0, 1) := by decide +kernel
theorem dL_setTolerance_16 : decode cL_setTolerance 16 = .ok (.ireturn, 1) := by decide +kernel
set_option maxRecDepth 20000 in
theorem ggL_setCharges_X4_setCharges : GoodIn wsL_setCharges wsX4_setCharges := goodIn_ca (goodIn_r _ [6, 7, 8, 9, 10, 11, 12, 13, 14, 5, 15, 16, 17, 18, 19, 20, 21, 22, 23, 24, 25, 26, 27, 28] (by decide +kernel) (by decide +kernel)) (goodIn_sub (fun _ h => List.mem_cons_of_mem _ (List.mem_append_right _ h)) (by decide +kernel))
set_option maxRecDepth 20000 in
theorem gL_setCharges_X4_setCharges : GoodIn wsL_setCharges (wsV RL 25 RX4 yX4_setCharges wsX4_setCharges) := goodIn_app (goodIn_of _ (by decide +kernel)) ggL_setCharges_X4_setCharges
theorem dL_setCharges_0 : decode cL_setCharges 0 = .ok (.aload 5, 2) := by decide +kernel
theorem dL_setCharges_2 : decode cL_setCharges 2 = .ok (.iconst 0, 1) := by decide +kernel
theorem dL_setCharges_3 : decode cL_setCharges 3 = .ok (.aload_n 0, 1) := by decide +kernel
theorem dL_setCharges_4 : decode cL_setCharges 4 = .ok (.iload_n 1, 1) := by decide +kernel
theorem dL_setCharges_5 : decode cL_setCharges 5 = .ok (.iload_n 2, 1) := by decide +kernel
theorem dL_setCharges_6 : decode cL_setCharges 6 = .ok (.iload_n 3, 1) := by decide +kernel
theorem dL_setCharges_7 : decode cL_setCharges 7 = .ok (.iload 4, 2) := by decide +kernel
theorem dL_setCharges_9 : decode cL_setCharges 9 = .ok (.invokevirtual 25, 3) := by decide +kernel
theorem dL_setCharges_12 : decode cL_setCharges 12 = .ok (.i2l, 1) := by decide +kernel
theorem dL_setCharges_13 : decode cL_setCharges 13 = .ok (.lastore, 1) := by decide +kernel
theorem dL_setCharges_14 : decode cL_setCharges 14 = .ok (.goto 7, 3) := by decide +kernel
theorem dL_setCharges_17 : decode cL_setCharges 17 = .ok (.astore 6, 2) := by decide +kernel
theorem dL_setCharges_19 : decode cL_setCharges 19 = .ok (.iconst 1, 1) := by decide +kernel
theorem dL_setCharges_20 : decode cL_setCharges 20 = .ok (.ireturn, 1) := by decide +kernel
theorem dL_setCharges_21 : decode cL_setCharges 21 = .ok (.iconst 0, 1) := by decide +kernel
theorem dL_setCharges_22 : decode cL_setCharges 22 = .ok (.ireturn, 1) := by decide +kernel
set_option maxRecDepth 20000 in
theorem ggL_book_X4_book : GoodIn wsL_book wsX4_book := goodIn_ca (goodIn_ca (goodIn_r _ [7, 8, 9, 10, 11, 12, 13, 14, 15, 16, 17, 18, 19, 6, 20, 21, 22, 23, 24, 25, 26, 27, 28, 29, 30, 31, 32, 33, 34, 35, 36, 37, 38, 39, 40, 41, 42, 43, 44, 45, 46, 47, 48, 49, 50, 51, 52, 53, 54] (by decide +kernel) (by decide +kernel)) (goodIn_sub (fun _ h => List.mem_cons_of_mem _ (List.mem_append_left _ (List.mem_append_right _ h))) (by decide +kernel))) (goodIn_sub (fun _ h => List.mem_cons_of_mem _ (List.mem_append_right _ h)) (by decide +kernel))
set_option maxRecDepth 20000 in
theorem gL_book_X4_book : GoodIn wsL_book (wsV RL 29 RX4 yX4_book wsX4_book) := goodIn_app (goodIn_of _ (by decide +kernel)) ggL_book_X4_book
theorem dL_book_0 : decode cL_book 0 = .ok (.aload 4, 2) := by decide +kernel
theorem dL_book_2 : decode cL_book 2 = .ok (.iconst 0, 1) := by decide +kernel
theorem dL_book_3 : decode cL_book 3 = .ok (.aload_n 0, 1) := by decide +kernel
theorem dL_book_4 : decode cL_book 4 = .ok (.iload_n 1, 1) := by decide +kernel
theorem dL_book_5 : decode cL_book 5 = .ok (.iload_n 2, 1) := by decide +kernel
theorem dL_book_6 : decode cL_book 6 = .ok (.iload_n 3, 1) := by decide +kernel
theorem dL_book_7 : decode cL_book 7 = .ok (.invokevirtual 29, 3) := by decide +kernel
theorem dL_book_10 : decode cL_book 10 = .ok (.i2l, 1) := by decide +kernel
theorem dL_book_11 : decode cL_book 11 = .ok (.lastore, 1) := by decide +kernel
theorem dL_book_12 : decode cL_book 12 = .ok (.goto 11, 3) := by decide +kernel
theorem dL_book_15 : decode cL_book 15 = .ok (.astore 5, 2) := by decide +kernel
theorem dL_book_17 : decode cL_book 17 = .ok (.iconst 1, 1) := by decide +kernel
theorem dL_book_18 : decode cL_book 18 = .ok (.ireturn, 1) := by decide +kernel
theorem dL_book_19 : decode cL_book 19 = .ok (.astore 5, 2) := by decide +kernel
theorem dL_book_21 : decode cL_book 21 = .ok (.iconst 2, 1) := by decide +kernel
theorem dL_book_22 : decode cL_book 22 = .ok (.ireturn, 1) := by decide +kernel
theorem dL_book_23 : decode cL_book 23 = .ok (.iconst 0, 1) := by decide +kernel
theorem dL_book_24 : decode cL_book 24 = .ok (.ireturn, 1) := by decide +kernel
set_option maxRecDepth 20000 in
theorem ggL_arrive_X4_arrive : GoodIn wsL_arrive wsX4_arrive := goodIn_ca (goodIn_ca (goodIn_ca (goodIn_ca (goodIn_r _ [9, 10, 11, 12, 13, 14, 15, 16, 17, 18, 19, 20, 8, 21, 22, 23, 24, 25, 26, 27, 28, 29, 30, 31, 32, 33, 34, 35, 36, 37, 38, 39, 40, 41, 42, 43, 44, 45, 46, 47, 48, 49, 50, 51, 52, 53, 54, 55, 56, 57, 58, 59, 60, 61, 62, 63, 64, 65, 66, 67, 68, 69, 70, 71, 72, 73, 74, 75, 76, 77, 78, 79, 80, 81, 82, 83, 84, 85, 86, 87, 88, 89, 90, 91, 92, 93, 94, 95, 96] (by decide +kernel) (by decide +kernel)) (goodIn_sub (fun _ h => List.mem_cons_of_mem _ (List.mem_append_left _ (List.mem_append_left _ (List.mem_append_left _ (List.mem_append_right _ h))))) (by decide +kernel))) (goodIn_sub (fun _ h => List.mem_cons_of_mem _ (List.mem_append_left _ (List.mem_append_left _ (List.mem_append_right _ h)))) (by decide +kernel))) (goodIn_sub (fun _ h => List.mem_cons_of_mem _ (List.mem_append_left _ (List.mem_append_right _ h))) (by decide +kernel))) (goodIn_sub (fun _ h => List.mem_cons_of_mem _ (List.mem_append_right _ h)) (by decide +kernel))
set_option maxRecDepth 20000 in
theorem gL_arrive_X4_arrive : GoodIn wsL_arrive (wsV RL 33 RX4 yX4_arrive wsX4_arrive) := goodIn_app (goodIn_of _ (by decide +kernel)) ggL_arrive_X4_arrive
theorem dL_arrive_0 : decode cL_arrive 0 = .ok (.aload_n 3, 1) := by decide +kernel
theorem dL_arrive_1 : decode cL_arrive 1 = .ok (.iconst 0, 1) := by decide +kernel
theorem dL_arrive_2 : decode cL_arrive 2 = .ok (.aload_n 0, 1) := by decide +kernel
theorem dL_arrive_3 : decode cL_arrive 3 = .ok (.iload_n 1, 1) := by decide +kernel
theorem dL_arrive_4 : decode cL_arrive 4 = .ok (.iload_n 2, 1) := by decide +kernel
theorem dL_arrive_5 : decode cL_arrive 5 = .ok (.invokevirtual 33, 3) := by decide +kernel
theorem dL_arrive_8 : decode cL_arrive 8 = .ok (.i2l, 1) := by decide +kernel
theorem dL_arrive_9 : decode cL_arrive 9 = .ok (.lastore, 1) := by decide +kernel
theorem dL_arrive_10 : decode cL_arrive 10 = .ok (.goto 19, 3) := by decide +kernel
theorem dL_arrive_13 : decode cL_arrive 13 = .ok (.astore 4, 2) := by decide +kernel
theorem dL_arrive_15 : decode cL_arrive 15 = .ok (.iconst 1, 1) := by decide +kernel
theorem dL_arrive_16 : decode cL_arrive 16 = .ok (.ireturn, 1) := by decide +kernel
theorem dL_arrive_17 : decode cL_arrive 17 = .ok (.astore 4, 2) := by decide +kernel
theorem dL_arrive_19 : decode cL_arrive 19 = .ok (.iconst 2, 1) := by decide +kernel
theorem dL_arrive_20 : decode cL_arrive 20 = .ok (.ireturn, 1) := by decide +kernel
theorem dL_arrive_21 : decode cL_arrive 21 = .ok (.astore 4, 2) := by decide +kernel
theorem dL_arrive_23 : decode cL_arrive 23 = .ok (.iconst 3, 1) := by decide +kernel
theorem dL_arrive_24 : decode cL_arrive 24 = .ok (.ireturn, 1) := by decide +kernel
theorem dL_arrive_25 : decode cL_arrive 25 = .ok (.astore 4, 2) := by decide +kernel
theorem dL_arrive_27 : decode cL_arrive 27 = .ok (.iconst 4, 1) := by decide +kernel
theorem dL_arrive_28 : decode cL_arrive 28 = .ok (.ireturn, 1) := by decide +kernel
theorem dL_arrive_29 : decode cL_arrive 29 = .ok (.iconst 0, 1) := by decide +kernel
theorem dL_arrive_30 : decode cL_arrive 30 = .ok (.ireturn, 1) := by decide +kernel
set_option maxRecDepth 20000 in
theorem ggL_state_X4_state : GoodIn wsL_state wsX4_state := goodIn_ca (goodIn_r _ [6, 7, 8, 9, 10, 5, 11, 12, 13, 14, 15, 16, 17, 18, 19, 20, 21, 22, 23, 24, 25, 26, 27, 28, 29, 30, 31, 32, 33, 34, 35, 36, 37, 38] (by decide +kernel) (by decide +kernel)) (goodIn_sub (fun _ h => List.mem_cons_of_mem _ (List.mem_append_right _ h)) (by decide +kernel))
set_option maxRecDepth 20000 in
theorem gL_state_X4_state : GoodIn wsL_state (wsV RL 43 RX4 yX4_state wsX4_state) := goodIn_app (goodIn_of _ (by decide +kernel)) ggL_state_X4_state
theorem dL_state_0 : decode cL_state 0 = .ok (.aload_n 2, 1) := by decide +kernel
theorem dL_state_1 : decode cL_state 1 = .ok (.iconst 0, 1) := by decide +kernel
theorem dL_state_2 : decode cL_state 2 = .ok (.aload_n 0, 1) := by decide +kernel
theorem dL_state_3 : decode cL_state 3 = .ok (.iload_n 1, 1) := by decide +kernel
theorem dL_state_4 : decode cL_state 4 = .ok (.invokevirtual 43, 3) := by decide +kernel
theorem dL_state_7 : decode cL_state 7 = .ok (.i2l, 1) := by decide +kernel
theorem dL_state_8 : decode cL_state 8 = .ok (.lastore, 1) := by decide +kernel
theorem dL_state_9 : decode cL_state 9 = .ok (.goto 6, 3) := by decide +kernel
theorem dL_state_12 : decode cL_state 12 = .ok (.astore_n 3, 1) := by decide +kernel
theorem dL_state_13 : decode cL_state 13 = .ok (.iconst 1, 1) := by decide +kernel
theorem dL_state_14 : decode cL_state 14 = .ok (.ireturn, 1) := by decide +kernel
theorem dL_state_15 : decode cL_state 15 = .ok (.iconst 0, 1) := by decide +kernel
theorem dL_state_16 : decode cL_state 16 = .ok (.ireturn, 1) := by decide +kernel
set_option maxRecDepth 20000 in
theorem ggL_punctuality_X4_punctuality : GoodIn wsL_punctuality wsX4_punctuality := goodIn_ca (goodIn_ca (goodIn_r _ [7, 8, 9, 10, 6, 11, 12, 13, 14, 15, 16, 17, 18, 19, 20, 21, 22, 23, 24, 25, 26, 27, 28, 29, 30, 31, 32, 33, 34, 35, 36, 37, 38, 39, 40, 41, 42, 43, 44, 45, 46, 47, 48, 49, 50, 51, 52, 53, 54, 55, 56, 57] (by decide +kernel) (by decide +kernel)) (goodIn_sub (fun _ h => List.mem_cons_of_mem _ (List.mem_append_left _ (List.mem_append_right _ h))) (by decide +kernel))) (goodIn_sub (fun _ h => List.mem_cons_of_mem _ (List.mem_append_right _ h)) (by decide +kernel))
set_option maxRecDepth 20000 in
theorem gL_punctuality_X4_punctuality : GoodIn wsL_punctuality (wsV RL 47 RX4 yX4_punctuality wsX4_punctuality) := goodIn_app (goodIn_of _ (by decide +kernel)) ggL_punctuality_X4_punctuality
theorem dL_punctuality_0 : decode cL_punctuality 0 = .ok (.aload_n 2, 1) := by decide +kernel
theorem dL_punctuality_1 : decode cL_punctuality 1 = .ok (.iconst 0, 1) := by decide +kernel
theorem dL_punctuality_2 : decode cL_punctuality 2 = .ok (.aload_n 0, 1) := by decide +kernel
theorem dL_punctuality_3 : decode cL_punctuality 3 = .ok (.iload_n 1, 1) := by decide +kernel
theorem dL_punctuality_4 : decode cL_punctuality 4 = .ok (.invokevirtual 47, 3) := by decide +kernel
theorem dL_punctuality_7 : decode cL_punctuality 7 = .ok (.i2l, 1) := by decide +kernel
theorem dL_punctuality_8 : decode cL_punctuality 8 = .ok (.lastore, 1) := by decide +kernel
theorem dL_punctuality_9 : decode cL_punctuality 9 = .ok (.goto 9, 3) := by decide +kernel
theorem dL_punctuality_12 : decode cL_punctuality 12 = .ok (.astore_n 3, 1) := by decide +kernel
theorem dL_punctuality_13 : decode cL_punctuality 13 = .ok (.iconst 1, 1) := by decide +kernel
theorem dL_punctuality_14 : decode cL_punctuality 14 = .ok (.ireturn, 1) := by decide +kernel
theorem dL_punctuality_15 : decode cL_punctuality 15 = .ok (.astore_n 3, 1) := by decide +kernel
theorem dL_punctuality_16 : decode cL_punctuality 16 = .ok (.iconst 2, 1) := by decide +kernel
theorem dL_punctuality_17 : decode cL_punctuality 17 = .ok (.ireturn, 1) := by decide +kernel
theorem dL_punctuality_18 : decode cL_punctuality 18 = .ok (.iconst 0, 1) := by decide +kernel
theorem dL_punctuality_19 : decode cL_punctuality 19 = .ok (.ireturn, 1) := by decide +kernel
set_option maxRecDepth 20000 in
theorem ggL_nextBooked_X4_nextBooked : GoodIn wsL_nextBooked wsX4_nextBooked := goodIn_ca (goodIn_r _ [6, 7, 8, 9, 10, 11, 12, 13, 14, 15, 16, 17, 18, 19, 20, 21, 22, 23, 24, 25, 26, 27, 28, 29, 30, 31, 32, 33, 34, 35, 36] (by decide +kernel) (by decide +kernel)) (goodIn_sub (fun _ h => List.mem_cons_of_mem _ (List.mem_append_right _ h)) (by decide +kernel))
set_option maxRecDepth 20000 in
theorem gL_nextBooked_X4_nextBooked : GoodIn wsL_nextBooked (wsV RL 50 RX4 yX4_nextBooked wsX4_nextBooked) := goodIn_app (goodIn_of _ (by decide +kernel)) ggL_nextBooked_X4_nextBooked
theorem dL_nextBooked_0 : decode cL_nextBooked 0 = .ok (.aload_n 1, 1) := by decide +kernel
theorem dL_nextBooked_1 : decode cL_nextBooked 1 = .ok (.iconst 0, 1) := by decide +kernel
theorem dL_nextBooked_2 : decode cL_nextBooked 2 = .ok (.aload_n 0, 1) := by decide +kernel
theorem dL_nextBooked_3 : decode cL_nextBooked 3 = .ok (.invokevirtual 50, 3) := by decide +kernel
theorem dL_nextBooked_6 : decode cL_nextBooked 6 = .ok (.i2l, 1) := by decide +kernel
theorem dL_nextBooked_7 : decode cL_nextBooked 7 = .ok (.lastore, 1) := by decide +kernel
theorem dL_nextBooked_8 : decode cL_nextBooked 8 = .ok (.goto 6, 3) := by decide +kernel
theorem dL_nextBooked_11 : decode cL_nextBooked 11 = .ok (.astore_n 2, 1) := by decide +kernel
theorem dL_nextBooked_12 : decode cL_nextBooked 12 = .ok (.iconst 1, 1) := by decide +kernel
theorem dL_nextBooked_13 : decode cL_nextBooked 13 = .ok (.ireturn, 1) := by decide +kernel
theorem dL_nextBooked_14 : decode cL_nextBooked 14 = .ok (.iconst 0, 1) := by decide +kernel
theorem dL_nextBooked_15 : decode cL_nextBooked 15 = .ok (.ireturn, 1) := by decide +kernel
set_option maxRecDepth 20000 in
theorem ggL_shift_X4_shift : GoodIn wsL_shift wsX4_shift := goodIn_ca (goodIn_ca (goodIn_ca (goodIn_ca (goodIn_r _ [9, 10, 11, 12, 13, 14, 15, 16, 8, 17, 18, 19, 20, 21, 22, 23, 24, 25, 26, 27, 28, 29, 30, 31, 32, 33, 34, 35, 36, 37, 38, 39, 40, 41, 42, 43, 44, 45, 46, 47, 48, 49, 50, 51, 52, 53, 54, 55, 56, 57, 58, 59, 60, 61, 62, 63, 64, 65, 66, 67, 68, 69, 70, 71, 72, 73, 74, 75, 76, 77, 78, 79, 80, 81, 82, 83, 84, 85, 86, 87, 88, 89, 90, 91, 92, 93, 94, 95, 96, 97, 98, 99, 100, 101, 102] (by decide +kernel) (by decide +kernel)) (goodIn_sub (fun _ h => List.mem_cons_of_mem _ (List.mem_append_left _ (List.mem_append_left _ (List.mem_append_left _ (List.mem_append_right _ h))))) (by decide +kernel))) (goodIn_sub (fun _ h => List.mem_cons_of_mem _ (List.mem_append_left _ (List.mem_append_left _ (List.mem_append_right _ h)))) (by decide +kernel))) (goodIn_sub (fun _ h => List.mem_cons_of_mem _ (List.mem_append_left _ (List.mem_append_right _ h))) (by decide +kernel))) (goodIn_sub (fun _ h => List.mem_cons_of_mem _ (List.mem_append_right _ h)) (by decide +kernel))
set_option maxRecDepth 20000 in
theorem gL_shift_X4_shift : GoodIn wsL_shift (wsV RL 54 RX4 yX4_shift wsX4_shift) := goodIn_app (goodIn_of _ (by decide +kernel)) ggL_shift_X4_shift
theorem dL_shift_0 : decode cL_shift 0 = .ok (.aload_n 3, 1) := by decide +kernel
theorem dL_shift_1 : decode cL_shift 1 = .ok (.iconst 0, 1) := by decide +kernel
theorem dL_shift_2 : decode cL_shift 2 = .ok (.aload_n 0, 1) := by decide +kernel
theorem dL_shift_3 : decode cL_shift 3 = .ok (.iload_n 1, 1) := by decide +kernel
theorem dL_shift_4 : decode cL_shift 4 = .ok (.iload_n 2, 1) := by decide +kernel
theorem dL_shift_5 : decode cL_shift 5 = .ok (.invokevirtual 54, 3) := by decide +kernel
theorem dL_shift_8 : decode cL_shift 8 = .ok (.i2l, 1) := by decide +kernel
theorem dL_shift_9 : decode cL_shift 9 = .ok (.lastore, 1) := by decide +kernel
theorem dL_shift_10 : decode cL_shift 10 = .ok (.goto 19, 3) := by decide +kernel
theorem dL_shift_13 : decode cL_shift 13 = .ok (.astore 4, 2) := by decide +kernel
theorem dL_shift_15 : decode cL_shift 15 = .ok (.iconst 1, 1) := by decide +kernel
theorem dL_shift_16 : decode cL_shift 16 = .ok (.ireturn, 1) := by decide +kernel
theorem dL_shift_17 : decode cL_shift 17 = .ok (.astore 4, 2) := by decide +kernel
theorem dL_shift_19 : decode cL_shift 19 = .ok (.iconst 2, 1) := by decide +kernel
theorem dL_shift_20 : decode cL_shift 20 = .ok (.ireturn, 1) := by decide +kernel
theorem dL_shift_21 : decode cL_shift 21 = .ok (.astore 4, 2) := by decide +kernel
theorem dL_shift_23 : decode cL_shift 23 = .ok (.iconst 3, 1) := by decide +kernel
theorem dL_shift_24 : decode cL_shift 24 = .ok (.ireturn, 1) := by decide +kernel
theorem dL_shift_25 : decode cL_shift 25 = .ok (.astore 4, 2) := by decide +kernel
theorem dL_shift_27 : decode cL_shift 27 = .ok (.iconst 4, 1) := by decide +kernel
theorem dL_shift_28 : decode cL_shift 28 = .ok (.ireturn, 1) := by decide +kernel
theorem dL_shift_29 : decode cL_shift 29 = .ok (.iconst 0, 1) := by decide +kernel
theorem dL_shift_30 : decode cL_shift 30 = .ok (.ireturn, 1) := by decide +kernel
set_option maxRecDepth 20000 in
theorem ggL_dock_X4_dock : GoodIn wsL_dock wsX4_dock := goodIn_ca (goodIn_ca (goodIn_ca (goodIn_ca (goodIn_r _ [9, 10, 11, 12, 13, 14, 15, 16, 17, 18, 19, 20, 21, 22, 8, 23, 24, 25, 26, 27, 28, 29, 30, 31, 32, 33, 34, 35, 36, 37, 38, 39, 40, 41, 42, 43, 44, 45, 46, 47, 48, 49, 50, 51, 52, 53, 54, 55, 56, 57, 58, 59, 60, 61, 62, 63, 64, 65, 66, 67, 68, 69, 70, 71, 72, 73, 74, 75, 76, 77, 78, 79, 80, 81, 82, 83, 84, 85, 86, 87, 88, 89, 90, 91, 92, 93, 94, 95, 96, 97, 98, 99, 100, 101, 102, 103, 104] (by decide +kernel) (by decide +kernel)) (goodIn_sub (fun _ h => List.mem_cons_of_mem _ (List.mem_append_left _ (List.mem_append_left _ (List.mem_append_left _ (List.mem_append_right _ h))))) (by decide +kernel))) (goodIn_sub (fun _ h => List.mem_cons_of_mem _ (List.mem_append_left _ (List.mem_append_left _ (List.mem_append_right _ h)))) (by decide +kernel))) (goodIn_sub (fun _ h => List.mem_cons_of_mem _ (List.mem_append_left _ (List.mem_append_right _ h))) (by decide +kernel))) (goodIn_sub (fun _ h => List.mem_cons_of_mem _ (List.mem_append_right _ h)) (by decide +kernel))
set_option maxRecDepth 20000 in
theorem gL_dock_X4_dock : GoodIn wsL_dock (wsV RL 58 RX4 yX4_dock wsX4_dock) := goodIn_app (goodIn_of _ (by decide +kernel)) ggL_dock_X4_dock
theorem dL_dock_0 : decode cL_dock 0 = .ok (.aload_n 3, 1) := by decide +kernel
theorem dL_dock_1 : decode cL_dock 1 = .ok (.iconst 0, 1) := by decide +kernel
theorem dL_dock_2 : decode cL_dock 2 = .ok (.aload_n 0, 1) := by decide +kernel
theorem dL_dock_3 : decode cL_dock 3 = .ok (.iload_n 1, 1) := by decide +kernel
theorem dL_dock_4 : decode cL_dock 4 = .ok (.iload_n 2, 1) := by decide +kernel
theorem dL_dock_5 : decode cL_dock 5 = .ok (.invokevirtual 58, 3) := by decide +kernel
theorem dL_dock_8 : decode cL_dock 8 = .ok (.i2l, 1) := by decide +kernel
theorem dL_dock_9 : decode cL_dock 9 = .ok (.lastore, 1) := by decide +kernel
theorem dL_dock_10 : decode cL_dock 10 = .ok (.goto 19, 3) := by decide +kernel
theorem dL_dock_13 : decode cL_dock 13 = .ok (.astore 4, 2) := by decide +kernel
theorem dL_dock_15 : decode cL_dock 15 = .ok (.iconst 1, 1) := by decide +kernel
theorem dL_dock_16 : decode cL_dock 16 = .ok (.ireturn, 1) := by decide +kernel
theorem dL_dock_17 : decode cL_dock 17 = .ok (.astore 4, 2) := by decide +kernel
theorem dL_dock_19 : decode cL_dock 19 = .ok (.iconst 2, 1) := by decide +kernel
theorem dL_dock_20 : decode cL_dock 20 = .ok (.ireturn, 1) := by decide +kernel
theorem dL_dock_21 : decode cL_dock 21 = .ok (.astore 4, 2) := by decide +kernel
theorem dL_dock_23 : decode cL_dock 23 = .ok (.iconst 3, 1) := by decide +kernel
theorem dL_dock_24 : decode cL_dock 24 = .ok (.ireturn, 1) := by decide +kernel
theorem dL_dock_25 : decode cL_dock 25 = .ok (.astore 4, 2) := by decide +kernel
theorem dL_dock_27 : decode cL_dock 27 = .ok (.iconst 4, 1) := by decide +kernel
theorem dL_dock_28 : decode cL_dock 28 = .ok (.ireturn, 1) := by decide +kernel
theorem dL_dock_29 : decode cL_dock 29 = .ok (.iconst 0, 1) := by decide +kernel
theorem dL_dock_30 : decode cL_dock 30 = .ok (.ireturn, 1) := by decide +kernel
set_option maxRecDepth 20000 in
theorem ggL_leave_X4_leave : GoodIn wsL_leave wsX4_leave := goodIn_ca (goodIn_ca (goodIn_ca (goodIn_r _ [8, 9, 10, 11, 12, 13, 14, 15, 16, 17, 18, 19, 20, 7, 21, 22, 23, 24, 25, 26, 27, 28, 29, 30, 31, 32, 33, 34, 35, 36, 37, 38, 39, 40, 41, 42, 43, 44, 45, 46, 47, 48, 49, 50, 51, 52, 53, 54, 55, 56, 57, 58, 59, 60, 61, 62, 63, 64, 65, 66, 67, 68, 69, 70, 71, 72, 73, 74, 75, 76, 77, 78, 79, 80, 81, 82, 83, 84] (by decide +kernel) (by decide +kernel)) (goodIn_sub (fun _ h => List.mem_cons_of_mem _ (List.mem_append_left _ (List.mem_append_left _ (List.mem_append_right _ h)))) (by decide +kernel))) (goodIn_sub (fun _ h => List.mem_cons_of_mem _ (List.mem_append_left _ (List.mem_append_right _ h))) (by decide +kernel))) (goodIn_sub (fun _ h => List.mem_cons_of_mem _ (List.mem_append_right _ h)) (by decide +kernel))
set_option maxRecDepth 20000 in
theorem gL_leave_X4_leave : GoodIn wsL_leave (wsV RL 61 RX4 yX4_leave wsX4_leave) := goodIn_app (goodIn_of _ (by decide +kernel)) ggL_leave_X4_leave
theorem dL_leave_0 : decode cL_leave 0 = .ok (.aload_n 2, 1) := by decide +kernel
theorem dL_leave_1 : decode cL_leave 1 = .ok (.iconst 0, 1) := by decide +kernel
theorem dL_leave_2 : decode cL_leave 2 = .ok (.aload_n 0, 1) := by decide +kernel
theorem dL_leave_3 : decode cL_leave 3 = .ok (.iload_n 1, 1) := by decide +kernel
theorem dL_leave_4 : decode cL_leave 4 = .ok (.invokevirtual 61, 3) := by decide +kernel
theorem dL_leave_7 : decode cL_leave 7 = .ok (.i2l, 1) := by decide +kernel
theorem dL_leave_8 : decode cL_leave 8 = .ok (.lastore, 1) := by decide +kernel
theorem dL_leave_9 : decode cL_leave 9 = .ok (.goto 12, 3) := by decide +kernel
theorem dL_leave_12 : decode cL_leave 12 = .ok (.astore_n 3, 1) := by decide +kernel
theorem dL_leave_13 : decode cL_leave 13 = .ok (.iconst 1, 1) := by decide +kernel
theorem dL_leave_14 : decode cL_leave 14 = .ok (.ireturn, 1) := by decide +kernel
theorem dL_leave_15 : decode cL_leave 15 = .ok (.astore_n 3, 1) := by decide +kernel
theorem dL_leave_16 : decode cL_leave 16 = .ok (.iconst 2, 1) := by decide +kernel
theorem dL_leave_17 : decode cL_leave 17 = .ok (.ireturn, 1) := by decide +kernel
theorem dL_leave_18 : decode cL_leave 18 = .ok (.astore_n 3, 1) := by decide +kernel
theorem dL_leave_19 : decode cL_leave 19 = .ok (.iconst 3, 1) := by decide +kernel
theorem dL_leave_20 : decode cL_leave 20 = .ok (.ireturn, 1) := by decide +kernel
theorem dL_leave_21 : decode cL_leave 21 = .ok (.iconst 0, 1) := by decide +kernel
theorem dL_leave_22 : decode cL_leave 22 = .ok (.ireturn, 1) := by decide +kernel
set_option maxRecDepth 20000 in
theorem ggL_laneOf_X4_laneOf : GoodIn wsL_laneOf wsX4_laneOf := goodIn_ca (goodIn_ca (goodIn_r _ [7, 8, 9, 10, 11, 6, 12, 13, 14, 15, 16, 17, 18, 19, 20, 21, 22, 23, 24, 25, 26, 27, 28, 29, 30, 31, 32, 33, 34, 35, 36, 37, 38, 39, 40, 41, 42, 43, 44, 45, 46, 47, 48, 49, 50] (by decide +kernel) (by decide +kernel)) (goodIn_sub (fun _ h => List.mem_cons_of_mem _ (List.mem_append_left _ (List.mem_append_right _ h))) (by decide +kernel))) (goodIn_sub (fun _ h => List.mem_cons_of_mem _ (List.mem_append_right _ h)) (by decide +kernel))
set_option maxRecDepth 20000 in
theorem gL_laneOf_X4_laneOf : GoodIn wsL_laneOf (wsV RL 64 RX4 yX4_laneOf wsX4_laneOf) := goodIn_app (goodIn_of _ (by decide +kernel)) ggL_laneOf_X4_laneOf
theorem dL_laneOf_0 : decode cL_laneOf 0 = .ok (.aload_n 2, 1) := by decide +kernel
theorem dL_laneOf_1 : decode cL_laneOf 1 = .ok (.iconst 0, 1) := by decide +kernel
theorem dL_laneOf_2 : decode cL_laneOf 2 = .ok (.aload_n 0, 1) := by decide +kernel
theorem dL_laneOf_3 : decode cL_laneOf 3 = .ok (.iload_n 1, 1) := by decide +kernel
theorem dL_laneOf_4 : decode cL_laneOf 4 = .ok (.invokevirtual 64, 3) := by decide +kernel
theorem dL_laneOf_7 : decode cL_laneOf 7 = .ok (.i2l, 1) := by decide +kernel
theorem dL_laneOf_8 : decode cL_laneOf 8 = .ok (.lastore, 1) := by decide +kernel
theorem dL_laneOf_9 : decode cL_laneOf 9 = .ok (.goto 9, 3) := by decide +kernel
theorem dL_laneOf_12 : decode cL_laneOf 12 = .ok (.astore_n 3, 1) := by decide +kernel
theorem dL_laneOf_13 : decode cL_laneOf 13 = .ok (.iconst 1, 1) := by decide +kernel
theorem dL_laneOf_14 : decode cL_laneOf 14 = .ok (.ireturn, 1) := by decide +kernel
theorem dL_laneOf_15 : decode cL_laneOf 15 = .ok (.astore_n 3, 1) := by decide +kernel
theorem dL_laneOf_16 : decode cL_laneOf 16 = .ok (.iconst 2, 1) := by decide +kernel
theorem dL_laneOf_17 : decode cL_laneOf 17 = .ok (.ireturn, 1) := by decide +kernel
theorem dL_laneOf_18 : decode cL_laneOf 18 = .ok (.iconst 0, 1) := by decide +kernel
theorem dL_laneOf_19 : decode cL_laneOf 19 = .ok (.ireturn, 1) := by decide +kernel
set_option maxRecDepth 20000 in
theorem ggL_blockers_X4_blockers : GoodIn wsL_blockers wsX4_blockers := goodIn_ca (goodIn_ca (goodIn_r _ [7, 8, 9, 10, 6, 11, 12, 13, 14, 15, 16, 17, 18, 19, 20, 21, 22, 23, 24, 25, 26, 27, 28, 29, 30, 31, 32, 33, 34, 35, 36, 37, 38, 39, 40, 41, 42, 43, 44, 45, 46, 47, 48, 49, 50, 51, 52, 53, 54, 55, 56] (by decide +kernel) (by decide +kernel)) (goodIn_sub (fun _ h => List.mem_cons_of_mem _ (List.mem_append_left _ (List.mem_append_right _ h))) (by decide +kernel))) (goodIn_sub (fun _ h => List.mem_cons_of_mem _ (List.mem_append_right _ h)) (by decide +kernel))
set_option maxRecDepth 20000 in
theorem gL_blockers_X4_blockers : GoodIn wsL_blockers (wsV RL 67 RX4 yX4_blockers wsX4_blockers) := goodIn_app (goodIn_of _ (by decide +kernel)) ggL_blockers_X4_blockers
theorem dL_blockers_0 : decode cL_blockers 0 = .ok (.aload_n 2, 1) := by decide +kernel
theorem dL_blockers_1 : decode cL_blockers 1 = .ok (.iconst 0, 1) := by decide +kernel
theorem dL_blockers_2 : decode cL_blockers 2 = .ok (.aload_n 0, 1) := by decide +kernel
theorem dL_blockers_3 : decode cL_blockers 3 = .ok (.iload_n 1, 1) := by decide +kernel
theorem dL_blockers_4 : decode cL_blockers 4 = .ok (.invokevirtual 67, 3) := by decide +kernel
theorem dL_blockers_7 : decode cL_blockers 7 = .ok (.i2l, 1) := by decide +kernel
theorem dL_blockers_8 : decode cL_blockers 8 = .ok (.lastore, 1) := by decide +kernel
theorem dL_blockers_9 : decode cL_blockers 9 = .ok (.goto 9, 3) := by decide +kernel
theorem dL_blockers_12 : decode cL_blockers 12 = .ok (.astore_n 3, 1) := by decide +kernel
theorem dL_blockers_13 : decode cL_blockers 13 = .ok (.iconst 1, 1) := by decide +kernel
theorem dL_blockers_14 : decode cL_blockers 14 = .ok (.ireturn, 1) := by decide +kernel
theorem dL_blockers_15 : decode cL_blockers 15 = .ok (.astore_n 3, 1) := by decide +kernel
theorem dL_blockers_16 : decode cL_blockers 16 = .ok (.iconst 2, 1) := by decide +kernel
theorem dL_blockers_17 : decode cL_blockers 17 = .ok (.ireturn, 1) := by decide +kernel
theorem dL_blockers_18 : decode cL_blockers 18 = .ok (.iconst 0, 1) := by decide +kernel
theorem dL_blockers_19 : decode cL_blockers 19 = .ok (.ireturn, 1) := by decide +kernel
set_option maxRecDepth 20000 in
theorem ggL_trailerAt_X4_trailerAt : GoodIn wsL_trailerAt wsX4_trailerAt := goodIn_ca (goodIn_ca (goodIn_r _ [7, 8, 9, 10, 11, 12, 13, 6, 14, 15, 16, 17, 18, 19, 20, 21, 22, 23, 24, 25, 26, 27, 28, 29, 30, 31, 32, 33, 34, 35, 36, 37, 38, 39, 40, 41, 42, 43, 44, 45, 46, 47, 48, 49, 50, 51, 52, 53, 54, 55, 56, 57, 58, 59, 60, 61] (by decide +kernel) (by decide +kernel)) (goodIn_sub (fun _ h => List.mem_cons_of_mem _ (List.mem_append_left _ (List.mem_append_right _ h))) (by decide +kernel))) (goodIn_sub (fun _ h => List.mem_cons_of_mem _ (List.mem_append_right _ h)) (by decide +kernel))
set_option maxRecDepth 20000 in
theorem gL_trailerAt_X4_trailerAt : GoodIn wsL_trailerAt (wsV RL 70 RX4 yX4_trailerAt wsX4_trailerAt) := goodIn_app (goodIn_of _ (by decide +kernel)) ggL_trailerAt_X4_trailerAt
theorem dL_trailerAt_0 : decode cL_trailerAt 0 = .ok (.aload_n 3, 1) := by decide +kernel
theorem dL_trailerAt_1 : decode cL_trailerAt 1 = .ok (.iconst 0, 1) := by decide +kernel
theorem dL_trailerAt_2 : decode cL_trailerAt 2 = .ok (.aload_n 0, 1) := by decide +kernel
theorem dL_trailerAt_3 : decode cL_trailerAt 3 = .ok (.iload_n 1, 1) := by decide +kernel
theorem dL_trailerAt_4 : decode cL_trailerAt 4 = .ok (.iload_n 2, 1) := by decide +kernel
theorem dL_trailerAt_5 : decode cL_trailerAt 5 = .ok (.invokevirtual 70, 3) := by decide +kernel
theorem dL_trailerAt_8 : decode cL_trailerAt 8 = .ok (.i2l, 1) := by decide +kernel
theorem dL_trailerAt_9 : decode cL_trailerAt 9 = .ok (.lastore, 1) := by decide +kernel
theorem dL_trailerAt_10 : decode cL_trailerAt 10 = .ok (.goto 11, 3) := by decide +kernel
theorem dL_trailerAt_13 : decode cL_trailerAt 13 = .ok (.astore 4, 2) := by decide +kernel
theorem dL_trailerAt_15 : decode cL_trailerAt 15 = .ok (.iconst 1, 1) := by decide +kernel
theorem dL_trailerAt_16 : decode cL_trailerAt 16 = .ok (.ireturn, 1) := by decide +kernel
theorem dL_trailerAt_17 : decode cL_trailerAt 17 = .ok (.astore 4, 2) := by decide +kernel
theorem dL_trailerAt_19 : decode cL_trailerAt 19 = .ok (.iconst 2, 1) := by decide +kernel
theorem dL_trailerAt_20 : decode cL_trailerAt 20 = .ok (.ireturn, 1) := by decide +kernel
theorem dL_trailerAt_21 : decode cL_trailerAt 21 = .ok (.iconst 0, 1) := by decide +kernel
theorem dL_trailerAt_22 : decode cL_trailerAt 22 = .ok (.ireturn, 1) := by decide +kernel
set_option maxRecDepth 20000 in
theorem ggL_freeDoor_X4_freeDoor : GoodIn wsL_freeDoor wsX4_freeDoor := goodIn_ca (goodIn_ca (goodIn_r _ [7, 8, 9, 10, 11, 12, 13, 6, 14, 15, 16, 17, 18, 19, 20, 21, 22, 23, 24, 25, 26, 27, 28, 29, 30, 31, 32, 33, 34, 35, 36, 37, 38, 39, 40, 41, 42, 43, 44, 45, 46, 47, 48, 49, 50, 51, 52, 53, 54, 55, 56] (by decide +kernel) (by decide +kernel)) (goodIn_sub (fun _ h => List.mem_cons_of_mem _ (List.mem_append_left _ (List.mem_append_right _ h))) (by decide +kernel))) (goodIn_sub (fun _ h => List.mem_cons_of_mem _ (List.mem_append_right _ h)) (by decide +kernel))
set_option maxRecDepth 20000 in
theorem gL_freeDoor_X4_freeDoor : GoodIn wsL_freeDoor (wsV RL 73 RX4 yX4_freeDoor wsX4_freeDoor) := goodIn_app (goodIn_of _ (by decide +kernel)) ggL_freeDoor_X4_freeDoor
theorem dL_freeDoor_0 : decode cL_freeDoor 0 = .ok (.aload_n 2, 1) := by decide +kernel
theorem dL_freeDoor_1 : decode cL_freeDoor 1 = .ok (.iconst 0, 1) := by decide +kernel
theorem dL_freeDoor_2 : decode cL_freeDoor 2 = .ok (.aload_n 0, 1) := by decide +kernel
theorem dL_freeDoor_3 : decode cL_freeDoor 3 = .ok (.iload_n 1, 1) := by decide +kernel
theorem dL_freeDoor_4 : decode cL_freeDoor 4 = .ok (.invokevirtual 73, 3) := by decide +kernel
theorem dL_freeDoor_7 : decode cL_freeDoor 7 = .ok (.i2l, 1) := by decide +kernel
theorem dL_freeDoor_8 : decode cL_freeDoor 8 = .ok (.lastore, 1) := by decide +kernel
theorem dL_freeDoor_9 : decode cL_freeDoor 9 = .ok (.goto 9, 3) := by decide +kernel
theorem dL_freeDoor_12 : decode cL_freeDoor 12 = .ok (.astore_n 3, 1) := by decide +kernel
theorem dL_freeDoor_13 : decode cL_freeDoor 13 = .ok (.iconst 1, 1) := by decide +kernel
theorem dL_freeDoor_14 : decode cL_freeDoor 14 = .ok (.ireturn, 1) := by decide +kernel
theorem dL_freeDoor_15 : decode cL_freeDoor 15 = .ok (.astore_n 3, 1) := by decide +kernel
theorem dL_freeDoor_16 : decode cL_freeDoor 16 = .ok (.iconst 2, 1) := by decide +kernel
theorem dL_freeDoor_17 : decode cL_freeDoor 17 = .ok (.ireturn, 1) := by decide +kernel
theorem dL_freeDoor_18 : decode cL_freeDoor 18 = .ok (.iconst 0, 1) := by decide +kernel
theorem dL_freeDoor_19 : decode cL_freeDoor 19 = .ok (.ireturn, 1) := by decide +kernel
set_option maxRecDepth 20000 in
theorem ggL_fewestMoves_X4_fewestMoves : GoodIn wsL_fewestMoves wsX4_fewestMoves := goodIn_ca (goodIn_ca (goodIn_ca (goodIn_r _ [8, 9, 10, 11, 12, 13, 14, 7, 15, 16, 17, 18, 19, 20, 21, 22, 23, 24, 25, 26, 27, 28, 29, 30, 31, 32, 33, 34, 35, 36, 37, 38, 39, 40, 41, 42, 43, 44, 45, 46, 47, 48, 49, 50, 51, 52, 53, 54, 55, 56, 57, 58, 59, 60, 61, 62, 63, 64, 65, 66, 67, 68, 69, 70, 71, 72, 73, 74, 75, 76, 77, 78, 79, 80, 81, 82, 83, 84, 85, 86, 87, 88, 89, 90, 91, 92, 93, 94, 95, 96, 97, 98, 99, 100, 101, 102, 103] (by decide +kernel) (by decide +kernel)) (goodIn_sub (fun _ h => List.mem_cons_of_mem _ (List.mem_append_left _ (List.mem_append_left _ (List.mem_append_right _ h)))) (by decide +kernel))) (goodIn_sub (fun _ h => List.mem_cons_of_mem _ (List.mem_append_left _ (List.mem_append_right _ h))) (by decide +kernel))) (goodIn_sub (fun _ h => List.mem_cons_of_mem _ (List.mem_append_right _ h)) (by decide +kernel))
set_option maxRecDepth 20000 in
theorem gL_fewestMoves_X4_fewestMoves : GoodIn wsL_fewestMoves (wsV RL 76 RX4 yX4_fewestMoves wsX4_fewestMoves) := goodIn_app (goodIn_of _ (by decide +kernel)) ggL_fewestMoves_X4_fewestMoves
theorem dL_fewestMoves_0 : decode cL_fewestMoves 0 = .ok (.aload_n 2, 1) := by decide +kernel
theorem dL_fewestMoves_1 : decode cL_fewestMoves 1 = .ok (.iconst 0, 1) := by decide +kernel
theorem dL_fewestMoves_2 : decode cL_fewestMoves 2 = .ok (.aload_n 0, 1) := by decide +kernel
theorem dL_fewestMoves_3 : decode cL_fewestMoves 3 = .ok (.iload_n 1, 1) := by decide +kernel
theorem dL_fewestMoves_4 : decode cL_fewestMoves 4 = .ok (.invokevirtual 76, 3) := by decide +kernel
theorem dL_fewestMoves_7 : decode cL_fewestMoves 7 = .ok (.i2l, 1) := by decide +kernel
theorem dL_fewestMoves_8 : decode cL_fewestMoves 8 = .ok (.lastore, 1) := by decide +kernel
theorem dL_fewestMoves_9 : decode cL_fewestMoves 9 = .ok (.goto 12, 3) := by decide +kernel
theorem dL_fewestMoves_12 : decode cL_fewestMoves 12 = .ok (.astore_n 3, 1) := by decide +kernel
theorem dL_fewestMoves_13 : decode cL_fewestMoves 13 = .ok (.iconst 1, 1) := by decide +kernel
theorem dL_fewestMoves_14 : decode cL_fewestMoves 14 = .ok (.ireturn, 1) := by decide +kernel
theorem dL_fewestMoves_15 : decode cL_fewestMoves 15 = .ok (.astore_n 3, 1) := by decide +kernel
theorem dL_fewestMoves_16 : decode cL_fewestMoves 16 = .ok (.iconst 2, 1) := by decide +kernel
theorem dL_fewestMoves_17 : decode cL_fewestMoves 17 = .ok (.ireturn, 1) := by decide +kernel
theorem dL_fewestMoves_18 : decode cL_fewestMoves 18 = .ok (.astore_n 3, 1) := by decide +kernel
theorem dL_fewestMoves_19 : decode cL_fewestMoves 19 = .ok (.iconst 3, 1) := by decide +kernel
theorem dL_fewestMoves_20 : decode cL_fewestMoves 20 = .ok (.ireturn, 1) := by decide +kernel
theorem dL_fewestMoves_21 : decode cL_fewestMoves 21 = .ok (.iconst 0, 1) := by decide +kernel
theorem dL_fewestMoves_22 : decode cL_fewestMoves 22 = .ok (.ireturn, 1) := by decide +kernel
set_option maxRecDepth 20000 in
theorem ggL_fewestByOrders_X4_fewestByOrders : GoodIn wsL_fewestByOrders wsX4_fewestByOrders := goodIn_ca (goodIn_ca (goodIn_ca (goodIn_r _ [8, 9, 10, 11, 12, 13, 14, 7, 15, 16, 17, 18, 19, 20, 21, 22, 23, 24, 25, 26, 27, 28, 29, 30, 31, 32, 33, 34, 35, 36, 37, 38, 39, 40, 41, 42, 43, 44, 45, 46, 47, 48, 49, 50, 51, 52, 53, 54, 55, 56, 57, 58, 59, 60, 61, 62, 63, 64, 65, 66, 67, 68, 69, 70, 71, 72, 73, 74, 75, 76, 77, 78, 79, 80, 81, 82, 83, 84, 85, 86, 87, 88, 89, 90, 91, 92, 93, 94, 95, 96, 97, 98, 99, 100, 101, 102, 103, 104, 105, 106, 107] (by decide +kernel) (by decide +kernel)) (goodIn_sub (fun _ h => List.mem_cons_of_mem _ (List.mem_append_left _ (List.mem_append_left _ (List.mem_append_right _ h)))) (by decide +kernel))) (goodIn_sub (fun _ h => List.mem_cons_of_mem _ (List.mem_append_left _ (List.mem_append_right _ h))) (by decide +kernel))) (goodIn_sub (fun _ h => List.mem_cons_of_mem _ (List.mem_append_right _ h)) (by decide +kernel))
set_option maxRecDepth 20000 in
theorem gL_fewestByOrders_X4_fewestByOrders : GoodIn wsL_fewestByOrders (wsV RL 79 RX4 yX4_fewestByOrders wsX4_fewestByOrders) := goodIn_app (goodIn_of _ (by decide +kernel)) ggL_fewestByOrders_X4_fewestByOrders
theorem dL_fewestByOrders_0 : decode cL_fewestByOrders 0 = .ok (.aload_n 2, 1) := by decide +kernel
theorem dL_fewestByOrders_1 : decode cL_fewestByOrders 1 = .ok (.iconst 0, 1) := by decide +kernel
theorem dL_fewestByOrders_2 : decode cL_fewestByOrders 2 = .ok (.aload_n 0, 1) := by decide +kernel
theorem dL_fewestByOrders_3 : decode cL_fewestByOrders 3 = .ok (.iload_n 1, 1) := by decide +kernel
theorem dL_fewestByOrders_4 : decode cL_fewestByOrders 4 = .ok (.invokevirtual 79, 3) := by decide +kernel
theorem dL_fewestByOrders_7 : decode cL_fewestByOrders 7 = .ok (.i2l, 1) := by decide +kernel
theorem dL_fewestByOrders_8 : decode cL_fewestByOrders 8 = .ok (.lastore, 1) := by decide +kernel
theorem dL_fewestByOrders_9 : decode cL_fewestByOrders 9 = .ok (.goto 12, 3) := by decide +kernel
theorem dL_fewestByOrders_12 : decode cL_fewestByOrders 12 = .ok (.astore_n 3, 1) := by decide +kernel
theorem dL_fewestByOrders_13 : decode cL_fewestByOrders 13 = .ok (.iconst 1, 1) := by decide +kernel
theorem dL_fewestByOrders_14 : decode cL_fewestByOrders 14 = .ok (.ireturn, 1) := by decide +kernel
theorem dL_fewestByOrders_15 : decode cL_fewestByOrders 15 = .ok (.astore_n 3, 1) := by decide +kernel
theorem dL_fewestByOrders_16 : decode cL_fewestByOrders 16 = .ok (.iconst 2, 1) := by decide +kernel
theorem dL_fewestByOrders_17 : decode cL_fewestByOrders 17 = .ok (.ireturn, 1) := by decide +kernel
theorem dL_fewestByOrders_18 : decode cL_fewestByOrders 18 = .ok (.astore_n 3, 1) := by decide +kernel
theorem dL_fewestByOrders_19 : decode cL_fewestByOrders 19 = .ok (.iconst 3, 1) := by decide +kernel
theorem dL_fewestByOrders_20 : decode cL_fewestByOrders 20 = .ok (.ireturn, 1) := by decide +kernel
theorem dL_fewestByOrders_21 : decode cL_fewestByOrders 21 = .ok (.iconst 0, 1) := by decide +kernel
theorem dL_fewestByOrders_22 : decode cL_fewestByOrders 22 = .ok (.ireturn, 1) := by decide +kernel
set_option maxRecDepth 20000 in
theorem ggL_pass_X4_pass : GoodIn wsL_pass wsX4_pass := goodIn_ca (goodIn_r _ [6, 7, 8, 9, 10, 11, 12, 13, 14, 15, 5, 16, 17, 18, 19, 20, 21, 22, 23, 24, 25, 26, 27, 28, 29, 30, 31, 32, 33, 34, 35, 36, 37, 38, 39] (by decide +kernel) (by decide +kernel)) (goodIn_sub (fun _ h => List.mem_cons_of_mem _ (List.mem_append_right _ h)) (by decide +kernel))
set_option maxRecDepth 20000 in
theorem gL_pass_X4_pass : GoodIn wsL_pass (wsV RL 82 RX4 yX4_pass wsX4_pass) := goodIn_app (goodIn_of _ (by decide +kernel)) ggL_pass_X4_pass
theorem dL_pass_0 : decode cL_pass 0 = .ok (.aload_n 2, 1) := by decide +kernel
theorem dL_pass_1 : decode cL_pass 1 = .ok (.iconst 0, 1) := by decide +kernel
theorem dL_pass_2 : decode cL_pass 2 = .ok (.aload_n 0, 1) := by decide +kernel
theorem dL_pass_3 : decode cL_pass 3 = .ok (.iload_n 1, 1) := by decide +kernel
theorem dL_pass_4 : decode cL_pass 4 = .ok (.invokevirtual 82, 3) := by decide +kernel
theorem dL_pass_7 : decode cL_pass 7 = .ok (.i2l, 1) := by decide +kernel
theorem dL_pass_8 : decode cL_pass 8 = .ok (.lastore, 1) := by decide +kernel
theorem dL_pass_9 : decode cL_pass 9 = .ok (.goto 6, 3) := by decide +kernel
theorem dL_pass_12 : decode cL_pass 12 = .ok (.astore_n 3, 1) := by decide +kernel
theorem dL_pass_13 : decode cL_pass 13 = .ok (.iconst 1, 1) := by decide +kernel
theorem dL_pass_14 : decode cL_pass 14 = .ok (.ireturn, 1) := by decide +kernel
theorem dL_pass_15 : decode cL_pass 15 = .ok (.iconst 0, 1) := by decide +kernel
theorem dL_pass_16 : decode cL_pass 16 = .ok (.ireturn, 1) := by decide +kernel
set_option maxRecDepth 20000 in
theorem ggL_waited_X4_waited : GoodIn wsL_waited wsX4_waited := goodIn_ca (goodIn_ca (goodIn_r _ [7, 8, 9, 10, 6, 11, 12, 13, 14, 15, 16, 17, 18, 19, 20, 21, 22, 23, 24, 25, 26, 27, 28, 29, 30, 31, 32, 33, 34, 35, 36, 37, 38, 39, 40, 41, 42, 43, 44, 45, 46, 47, 48, 49, 50, 51, 52, 53, 54, 55, 56, 57, 58, 59, 60, 61, 62, 63] (by decide +kernel) (by decide +kernel)) (goodIn_sub (fun _ h => List.mem_cons_of_mem _ (List.mem_append_left _ (List.mem_append_right _ h))) (by decide +kernel))) (goodIn_sub (fun _ h => List.mem_cons_of_mem _ (List.mem_append_right _ h)) (by decide +kernel))
set_option maxRecDepth 20000 in
theorem gL_waited_X4_waited : GoodIn wsL_waited (wsV RL 85 RX4 yX4_waited wsX4_waited) := goodIn_app (goodIn_of _ (by decide +kernel)) ggL_waited_X4_waited
theorem dL_waited_0 : decode cL_waited 0 = .ok (.aload_n 2, 1) := by decide +kernel
theorem dL_waited_1 : decode cL_waited 1 = .ok (.iconst 0, 1) := by decide +kernel
theorem dL_waited_2 : decode cL_waited 2 = .ok (.aload_n 0, 1) := by decide +kernel
theorem dL_waited_3 : decode cL_waited 3 = .ok (.iload_n 1, 1) := by decide +kernel
theorem dL_waited_4 : decode cL_waited 4 = .ok (.invokevirtual 85, 3) := by decide +kernel
theorem dL_waited_7 : decode cL_waited 7 = .ok (.i2l, 1) := by decide +kernel
theorem dL_waited_8 : decode cL_waited 8 = .ok (.lastore, 1) := by decide +kernel
theorem dL_waited_9 : decode cL_waited 9 = .ok (.goto 9, 3) := by decide +kernel
theorem dL_waited_12 : decode cL_waited 12 = .ok (.astore_n 3, 1) := by decide +kernel
theorem dL_waited_13 : decode cL_waited 13 = .ok (.iconst 1, 1) := by decide +kernel
theorem dL_waited_14 : decode cL_waited 14 = .ok (.ireturn, 1) := by decide +kernel
theorem dL_waited_15 : decode cL_waited 15 = .ok (.astore_n 3, 1) := by decide +kernel
theorem dL_waited_16 : decode cL_waited 16 = .ok (.iconst 2, 1) := by decide +kernel
theorem dL_waited_17 : decode cL_waited 17 = .ok (.ireturn, 1) := by decide +kernel
theorem dL_waited_18 : decode cL_waited 18 = .ok (.iconst 0, 1) := by decide +kernel
theorem dL_waited_19 : decode cL_waited 19 = .ok (.ireturn, 1) := by decide +kernel
set_option maxRecDepth 20000 in
theorem ggL_charge_X4_charge : GoodIn wsL_charge wsX4_charge := goodIn_ca (goodIn_ca (goodIn_r _ [7, 8, 9, 10, 6, 11, 12, 13, 14, 15, 16, 17, 18, 19, 20, 21, 22, 23, 24, 25, 26, 27, 28, 29, 30, 31, 32, 33, 34, 35, 36, 37, 38, 39, 40, 41, 42, 43, 44, 45, 46, 47, 48, 49, 50, 51, 52, 53, 54, 55, 56, 57, 58, 59, 60, 61, 62, 63, 64, 65, 66, 67, 68, 69, 70, 71, 72, 73, 74, 75, 76, 77, 78, 79] (by decide +kernel) (by decide +kernel)) (goodIn_sub (fun _ h => List.mem_cons_of_mem _ (List.mem_append_left _ (List.mem_append_right _ h))) (by decide +kernel))) (goodIn_sub (fun _ h => List.mem_cons_of_mem _ (List.mem_append_right _ h)) (by decide +kernel))
set_option maxRecDepth 20000 in
theorem gL_charge_X4_charge : GoodIn wsL_charge (wsV RL 88 RX4 yX4_charge wsX4_charge) := goodIn_app (goodIn_of _ (by decide +kernel)) ggL_charge_X4_charge
theorem dL_charge_0 : decode cL_charge 0 = .ok (.aload_n 2, 1) := by decide +kernel
theorem dL_charge_1 : decode cL_charge 1 = .ok (.iconst 0, 1) := by decide +kernel
theorem dL_charge_2 : decode cL_charge 2 = .ok (.aload_n 0, 1) := by decide +kernel
theorem dL_charge_3 : decode cL_charge 3 = .ok (.iload_n 1, 1) := by decide +kernel
theorem dL_charge_4 : decode cL_charge 4 = .ok (.invokevirtual 88, 3) := by decide +kernel
theorem dL_charge_7 : decode cL_charge 7 = .ok (.i2l, 1) := by decide +kernel
theorem dL_charge_8 : decode cL_charge 8 = .ok (.lastore, 1) := by decide +kernel
theorem dL_charge_9 : decode cL_charge 9 = .ok (.goto 9, 3) := by decide +kernel
theorem dL_charge_12 : decode cL_charge 12 = .ok (.astore_n 3, 1) := by decide +kernel
theorem dL_charge_13 : decode cL_charge 13 = .ok (.iconst 1, 1) := by decide +kernel
theorem dL_charge_14 : decode cL_charge 14 = .ok (.ireturn, 1) := by decide +kernel
theorem dL_charge_15 : decode cL_charge 15 = .ok (.astore_n 3, 1) := by decide +kernel
theorem dL_charge_16 : decode cL_charge 16 = .ok (.iconst 2, 1) := by decide +kernel
theorem dL_charge_17 : decode cL_charge 17 = .ok (.ireturn, 1) := by decide +kernel
theorem dL_charge_18 : decode cL_charge 18 = .ok (.iconst 0, 1) := by decide +kernel
theorem dL_charge_19 : decode cL_charge 19 = .ok (.ireturn, 1) := by decide +kernel
set_option maxRecDepth 20000 in
theorem ggL_chargeByHours_X4_chargeByHours : GoodIn wsL_chargeByHours wsX4_chargeByHours := goodIn_ca (goodIn_ca (goodIn_r _ [7, 8, 9, 10, 6, 11, 12, 13, 14, 15, 16, 17, 18, 19, 20, 21, 22, 23, 24, 25, 26, 27, 28, 29, 30, 31, 32, 33, 34, 35, 36, 37, 38, 39, 40, 41, 42, 43, 44, 45, 46, 47, 48, 49, 50, 51, 52, 53, 54, 55, 56, 57, 58, 59, 60, 61, 62, 63, 64, 65, 66, 67, 68, 69, 70, 71, 72, 73, 74, 75, 76] (by decide +kernel) (by decide +kernel)) (goodIn_sub (fun _ h => List.mem_cons_of_mem _ (List.mem_append_left _ (List.mem_append_right _ h))) (by decide +kernel))) (goodIn_sub (fun _ h => List.mem_cons_of_mem _ (List.mem_append_right _ h)) (by decide +kernel))
set_option maxRecDepth 20000 in
theorem gL_chargeByHours_X4_chargeByHours : GoodIn wsL_chargeByHours (wsV RL 91 RX4 yX4_chargeByHours wsX4_chargeByHours) := goodIn_app (goodIn_of _ (by decide +kernel)) ggL_chargeByHours_X4_chargeByHours
theorem dL_chargeByHours_0 : decode cL_chargeByHours 0 = .ok (.aload_n 2, 1) := by decide +kernel
theorem dL_chargeByHours_1 : decode cL_chargeByHours 1 = .ok (.iconst 0, 1) := by decide +kernel
theorem dL_chargeByHours_2 : decode cL_chargeByHours 2 = .ok (.aload_n 0, 1) := by decide +kernel
theorem dL_chargeByHours_3 : decode cL_chargeByHours 3 = .ok (.iload_n 1, 1) := by decide +kernel
theorem dL_chargeByHours_4 : decode cL_chargeByHours 4 = .ok (.invokevirtual 91, 3) := by decide +kernel
theorem dL_chargeByHours_7 : decode cL_chargeByHours 7 = .ok (.i2l, 1) := by decide +kernel
theorem dL_chargeByHours_8 : decode cL_chargeByHours 8 = .ok (.lastore, 1) := by decide +kernel
theorem dL_chargeByHours_9 : decode cL_chargeByHours 9 = .ok (.goto 9, 3) := by decide +kernel
theorem dL_chargeByHours_12 : decode cL_chargeByHours 12 = .ok (.astore_n 3, 1) := by decide +kernel
theorem dL_chargeByHours_13 : decode cL_chargeByHours 13 = .ok (.iconst 1, 1) := by decide +kernel
theorem dL_chargeByHours_14 : decode cL_chargeByHours 14 = .ok (.ireturn, 1) := by decide +kernel
theorem dL_chargeByHours_15 : decode cL_chargeByHours 15 = .ok (.astore_n 3, 1) := by decide +kernel
theorem dL_chargeByHours_16 : decode cL_chargeByHours 16 = .ok (.iconst 2, 1) := by decide +kernel
theorem dL_chargeByHours_17 : decode cL_chargeByHours 17 = .ok (.ireturn, 1) := by decide +kernel
theorem dL_chargeByHours_18 : decode cL_chargeByHours 18 = .ok (.iconst 0, 1) := by decide +kernel
theorem dL_chargeByHours_19 : decode cL_chargeByHours 19 = .ok (.ireturn, 1) := by decide +kernel
set_option maxRecDepth 20000 in
theorem ggL_usedShare_X4_usedShare : GoodIn wsL_usedShare wsX4_usedShare := goodIn_ca (goodIn_r _ [6, 7, 8, 9, 10, 11, 12, 13, 5, 14, 15, 16, 17, 18, 19, 20, 21, 22, 23, 24, 25, 26, 27, 28, 29, 30] (by decide +kernel) (by decide +kernel)) (goodIn_sub (fun _ h => List.mem_cons_of_mem _ (List.mem_append_right _ h)) (by decide +kernel))
set_option maxRecDepth 20000 in
theorem gL_usedShare_X4_usedShare : GoodIn wsL_usedShare (wsV RL 94 RX4 yX4_usedShare wsX4_usedShare) := goodIn_app (goodIn_of _ (by decide +kernel)) ggL_usedShare_X4_usedShare
theorem dL_usedShare_0 : decode cL_usedShare 0 = .ok (.aload_n 1, 1) := by decide +kernel
theorem dL_usedShare_1 : decode cL_usedShare 1 = .ok (.iconst 0, 1) := by decide +kernel
theorem dL_usedShare_2 : decode cL_usedShare 2 = .ok (.aload_n 0, 1) := by decide +kernel
theorem dL_usedShare_3 : decode cL_usedShare 3 = .ok (.invokevirtual 94, 3) := by decide +kernel
theorem dL_usedShare_6 : decode cL_usedShare 6 = .ok (.f2d, 1) := by decide +kernel
theorem dL_usedShare_7 : decode cL_usedShare 7 = .ok (.dastore, 1) := by decide +kernel
theorem dL_usedShare_8 : decode cL_usedShare 8 = .ok (.goto 6, 3) := by decide +kernel
theorem dL_usedShare_11 : decode cL_usedShare 11 = .ok (.astore_n 2, 1) := by decide +kernel
theorem dL_usedShare_12 : decode cL_usedShare 12 = .ok (.iconst 1, 1) := by decide +kernel
theorem dL_usedShare_13 : decode cL_usedShare 13 = .ok (.ireturn, 1) := by decide +kernel
theorem dL_usedShare_14 : decode cL_usedShare 14 = .ok (.iconst 0, 1) := by decide +kernel
theorem dL_usedShare_15 : decode cL_usedShare 15 = .ok (.ireturn, 1) := by decide +kernel
set_option maxRecDepth 20000 in
theorem ggL_meanWaiting_X4_meanWaiting : GoodIn wsL_meanWaiting wsX4_meanWaiting := goodIn_ca (goodIn_r _ [6, 7, 8, 9, 10, 11, 12, 13, 14, 15, 16, 17, 18, 19, 5, 20, 21, 22, 23, 24, 25, 26, 27, 28, 29, 30, 31, 32, 33, 34, 35, 36, 37, 38, 39, 40, 41, 42, 43, 44, 45, 46, 47, 48, 49, 50, 51, 52] (by decide +kernel) (by decide +kernel)) (goodIn_sub (fun _ h => List.mem_cons_of_mem _ (List.mem_append_right _ h)) (by decide +kernel))
set_option maxRecDepth 20000 in
theorem gL_meanWaiting_X4_meanWaiting : GoodIn wsL_meanWaiting (wsV RL 100 RX4 yX4_meanWaiting wsX4_meanWaiting) := goodIn_app (goodIn_of _ (by decide +kernel)) ggL_meanWaiting_X4_meanWaiting
theorem dL_meanWaiting_0 : decode cL_meanWaiting 0 = .ok (.aload_n 1, 1) := by decide +kernel
theorem dL_meanWaiting_1 : decode cL_meanWaiting 1 = .ok (.iconst 0, 1) := by decide +kernel
theorem dL_meanWaiting_2 : decode cL_meanWaiting 2 = .ok (.aload_n 0, 1) := by decide +kernel
theorem dL_meanWaiting_3 : decode cL_meanWaiting 3 = .ok (.invokevirtual 100, 3) := by decide +kernel
theorem dL_meanWaiting_6 : decode cL_meanWaiting 6 = .ok (.dastore, 1) := by decide +kernel
theorem dL_meanWaiting_7 : decode cL_meanWaiting 7 = .ok (.goto 6, 3) := by decide +kernel
theorem dL_meanWaiting_10 : decode cL_meanWaiting 10 = .ok (.astore_n 2, 1) := by decide +kernel
theorem dL_meanWaiting_11 : decode cL_meanWaiting 11 = .ok (.iconst 1, 1) := by decide +kernel
theorem dL_meanWaiting_12 : decode cL_meanWaiting 12 = .ok (.ireturn, 1) := by decide +kernel
theorem dL_meanWaiting_13 : decode cL_meanWaiting 13 = .ok (.iconst 0, 1) := by decide +kernel
theorem dL_meanWaiting_14 : decode cL_meanWaiting 14 = .ok (.ireturn, 1) := by decide +kernel
