set_option maxRecDepth 20000 in
theorem ggX4_init_X3_init : GoodIn wsX4_init wsX3_init := goodIn_r _ [19, 20, 2, 3, 21, 22, 23, 24] (by decide +kernel) (by decide +kernel)
set_option maxRecDepth 20000 in
theorem gX4_init_X3_init : GoodIn wsX4_init (wsX3_init) := ggX4_init_X3_init
theorem dX4_init_0 : decode cX4_init 0 = .ok (.aload_n 0, 1) := by decide +kernel
theorem dX4_init_1 : decode cX4_init 1 = .ok (.invokespecial 1, 3) := by decide +kernel
theorem dX4_init_4 : decode cX4_init 4 = .ok (.aload_n 0, 1) := by decide +kernel
theorem dX4_init_5 : decode cX4_init 5 = .ok (.new 7, 3) := by decide +kernel
theorem dX4_init_8 : decode cX4_init 8 = .ok (.dup, 1) := by decide +kernel
theorem dX4_init_9 : decode cX4_init 9 = .ok (.invokespecial 9, 3) := by decide +kernel
theorem dX4_init_12 : decode cX4_init 12 = .ok (.putfield 10, 3) := by decide +kernel
theorem dX4_init_15 : decode cX4_init 15 = .ok (.aload_n 0, 1) := by decide +kernel
theorem dX4_init_16 : decode cX4_init 16 = .ok (.iconst 4, 1) := by decide +kernel
theorem dX4_init_17 : decode cX4_init 17 = .ok (.anewarray 16, 3) := by decide +kernel
theorem dX4_init_20 : decode cX4_init 20 = .ok (.putfield 18, 3) := by decide +kernel
theorem dX4_init_23 : decode cX4_init 23 = .ok (.aload_n 0, 1) := by decide +kernel
theorem dX4_init_24 : decode cX4_init 24 = .ok (.bipush 40, 2) := by decide +kernel
theorem dX4_init_26 : decode cX4_init 26 = .ok (.anewarray 22, 3) := by decide +kernel
theorem dX4_init_29 : decode cX4_init 29 = .ok (.putfield 24, 3) := by decide +kernel
theorem dX4_init_32 : decode cX4_init 32 = .ok (.aload_n 0, 1) := by decide +kernel
theorem dX4_init_33 : decode cX4_init 33 = .ok (.iconst 1, 1) := by decide +kernel
theorem dX4_init_34 : decode cX4_init 34 = .ok (.putfield 28, 3) := by decide +kernel
theorem dX4_init_37 : decode cX4_init 37 = .ok (.aload_n 0, 1) := by decide +kernel
theorem dX4_init_38 : decode cX4_init 38 = .ok (.iconst 2, 1) := by decide +kernel
theorem dX4_init_39 : decode cX4_init 39 = .ok (.putfield 32, 3) := by decide +kernel
theorem dX4_init_42 : decode cX4_init 42 = .ok (.aload_n 0, 1) := by decide +kernel
theorem dX4_init_43 : decode cX4_init 43 = .ok (.bipush 30, 2) := by decide +kernel
theorem dX4_init_45 : decode cX4_init 45 = .ok (.putfield 35, 3) := by decide +kernel
theorem dX4_init_48 : decode cX4_init 48 = .ok (.aload_n 0, 1) := by decide +kernel
theorem dX4_init_49 : decode cX4_init 49 = .ok (.iconst 4, 1) := by decide +kernel
theorem dX4_init_50 : decode cX4_init 50 = .ok (.putfield 38, 3) := by decide +kernel
theorem dX4_init_53 : decode cX4_init 53 = .ok (.aload_n 0, 1) := by decide +kernel
theorem dX4_init_54 : decode cX4_init 54 = .ok (.bipush 50, 2) := by decide +kernel
theorem dX4_init_56 : decode cX4_init 56 = .ok (.putfield 41, 3) := by decide +kernel
theorem dX4_init_59 : decode cX4_init 59 = .ok (.return_, 1) := by decide +kernel
set_option maxRecDepth 20000 in
theorem ggX4_addLane_X4_isOutside : GoodIn wsX4_addLane wsX4_isOutside := goodIn_r _ [10] (by decide +kernel) (by decide +kernel)
set_option maxRecDepth 20000 in
theorem gX4_addLane_X4_isOutside : GoodIn wsX4_addLane (va_wsS RX4 44 yX4_isOutside wsX4_isOutside) := goodIn_app (goodIn_of _ (by decide +kernel)) ggX4_addLane_X4_isOutside
set_option maxRecDepth 20000 in
theorem ggX4_addLane_X3_append : GoodIn wsX4_addLane wsX3_append := goodIn_r _ [15, 16, 17, 18, 19, 20, 21, 22, 23, 24, 25, 26, 27, 28, 29, 30, 31, 45, 46, 47, 48, 49, 50, 51] (by decide +kernel) (by decide +kernel)
set_option maxRecDepth 20000 in
theorem gX4_addLane_X3_append : GoodIn wsX4_addLane (wsV RX4 63 RX3 yX3_append wsX3_append) := goodIn_app (goodIn_of _ (by decide +kernel)) ggX4_addLane_X3_append
theorem dX4_addLane_0 : decode cX4_addLane 0 = .ok (.iload_n 1, 1) := by decide +kernel
theorem dX4_addLane_1 : decode cX4_addLane 1 = .ok (.iconst 1, 1) := by decide +kernel
theorem dX4_addLane_2 : decode cX4_addLane 2 = .ok (.iconst 3, 1) := by decide +kernel
theorem dX4_addLane_3 : decode cX4_addLane 3 = .ok (.invokestatic 44, 3) := by decide +kernel
theorem dX4_addLane_6 : decode cX4_addLane 6 = .ok (.ifCond .eq 13, 3) := by decide +kernel
theorem dX4_addLane_9 : decode cX4_addLane 9 = .ok (.new 48, 3) := by decide +kernel
theorem dX4_addLane_12 : decode cX4_addLane 12 = .ok (.dup, 1) := by decide +kernel
theorem dX4_addLane_13 : decode cX4_addLane 13 = .ok (.ldc 50, 2) := by decide +kernel
theorem dX4_addLane_15 : decode cX4_addLane 15 = .ok (.invokespecial 52, 3) := by decide +kernel
theorem dX4_addLane_18 : decode cX4_addLane 18 = .ok (.athrow, 1) := by decide +kernel
theorem dX4_addLane_19 : decode cX4_addLane 19 = .ok (.aload_n 0, 1) := by decide +kernel
theorem dX4_addLane_20 : decode cX4_addLane 20 = .ok (.getfield 10, 3) := by decide +kernel
theorem dX4_addLane_23 : decode cX4_addLane 23 = .ok (.getfield 55, 3) := by decide +kernel
theorem dX4_addLane_26 : decode cX4_addLane 26 = .ok (.iconst 4, 1) := by decide +kernel
theorem dX4_addLane_27 : decode cX4_addLane 27 = .ok (.if_icmp .lt 13, 3) := by decide +kernel
theorem dX4_addLane_30 : decode cX4_addLane 30 = .ok (.new 58, 3) := by decide +kernel
theorem dX4_addLane_33 : decode cX4_addLane 33 = .ok (.dup, 1) := by decide +kernel
theorem dX4_addLane_34 : decode cX4_addLane 34 = .ok (.ldc 60, 2) := by decide +kernel
theorem dX4_addLane_36 : decode cX4_addLane 36 = .ok (.invokespecial 62, 3) := by decide +kernel
theorem dX4_addLane_39 : decode cX4_addLane 39 = .ok (.athrow, 1) := by decide +kernel
theorem dX4_addLane_40 : decode cX4_addLane 40 = .ok (.aload_n 0, 1) := by decide +kernel
theorem dX4_addLane_41 : decode cX4_addLane 41 = .ok (.getfield 10, 3) := by decide +kernel
theorem dX4_addLane_44 : decode cX4_addLane 44 = .ok (.iload_n 1, 1) := by decide +kernel
theorem dX4_addLane_45 : decode cX4_addLane 45 = .ok (.iload_n 2, 1) := by decide +kernel
theorem dX4_addLane_46 : decode cX4_addLane 46 = .ok (.invokevirtual 63, 3) := by decide +kernel
theorem dX4_addLane_49 : decode cX4_addLane 49 = .ok (.ireturn, 1) := by decide +kernel
set_option maxRecDepth 20000 in
theorem ggX4_addDoor_X1_init : GoodIn wsX4_addDoor wsX1_init := goodIn_r _ [12, 13, 14, 15, 16, 30, 31] (by decide +kernel) (by decide +kernel)
set_option maxRecDepth 20000 in
theorem gX4_addDoor_X1_init : GoodIn wsX4_addDoor (wsX1_init) := ggX4_addDoor_X1_init
theorem dX4_addDoor_0 : decode cX4_addDoor 0 = .ok (.iload_n 1, 1) := by decide +kernel
theorem dX4_addDoor_1 : decode cX4_addDoor 1 = .ok (.bipush 100, 2) := by decide +kernel
theorem dX4_addDoor_3 : decode cX4_addDoor 3 = .ok (.if_icmp .eq 25, 3) := by decide +kernel
theorem dX4_addDoor_6 : decode cX4_addDoor 6 = .ok (.iload_n 1, 1) := by decide +kernel
theorem dX4_addDoor_7 : decode cX4_addDoor 7 = .ok (.bipush 99, 2) := by decide +kernel
theorem dX4_addDoor_9 : decode cX4_addDoor 9 = .ok (.if_icmp .eq 19, 3) := by decide +kernel
theorem dX4_addDoor_12 : decode cX4_addDoor 12 = .ok (.iload_n 1, 1) := by decide +kernel
theorem dX4_addDoor_13 : decode cX4_addDoor 13 = .ok (.bipush 98, 2) := by decide +kernel
theorem dX4_addDoor_15 : decode cX4_addDoor 15 = .ok (.if_icmp .eq 13, 3) := by decide +kernel
theorem dX4_addDoor_18 : decode cX4_addDoor 18 = .ok (.new 48, 3) := by decide +kernel
theorem dX4_addDoor_21 : decode cX4_addDoor 21 = .ok (.dup, 1) := by decide +kernel
theorem dX4_addDoor_22 : decode cX4_addDoor 22 = .ok (.ldc 67, 2) := by decide +kernel
theorem dX4_addDoor_24 : decode cX4_addDoor 24 = .ok (.invokespecial 52, 3) := by decide +kernel
theorem dX4_addDoor_27 : decode cX4_addDoor 27 = .ok (.athrow, 1) := by decide +kernel
theorem dX4_addDoor_28 : decode cX4_addDoor 28 = .ok (.aload_n 0, 1) := by decide +kernel
theorem dX4_addDoor_29 : decode cX4_addDoor 29 = .ok (.getfield 69, 3) := by decide +kernel
theorem dX4_addDoor_32 : decode cX4_addDoor 32 = .ok (.ifCond .lt 15, 3) := by decide +kernel
theorem dX4_addDoor_35 : decode cX4_addDoor 35 = .ok (.aload_n 0, 1) := by decide +kernel
theorem dX4_addDoor_36 : decode cX4_addDoor 36 = .ok (.getfield 69, 3) := by decide +kernel
theorem dX4_addDoor_39 : decode cX4_addDoor 39 = .ok (.aload_n 0, 1) := by decide +kernel
theorem dX4_addDoor_40 : decode cX4_addDoor 40 = .ok (.getfield 18, 3) := by decide +kernel
theorem dX4_addDoor_43 : decode cX4_addDoor 43 = .ok (.arraylength, 1) := by decide +kernel
theorem dX4_addDoor_44 : decode cX4_addDoor 44 = .ok (.if_icmp .lt 13, 3) := by decide +kernel
theorem dX4_addDoor_47 : decode cX4_addDoor 47 = .ok (.new 58, 3) := by decide +kernel
theorem dX4_addDoor_50 : decode cX4_addDoor 50 = .ok (.dup, 1) := by decide +kernel
theorem dX4_addDoor_51 : decode cX4_addDoor 51 = .ok (.ldc 72, 2) := by decide +kernel
theorem dX4_addDoor_53 : decode cX4_addDoor 53 = .ok (.invokespecial 62, 3) := by decide +kernel
theorem dX4_addDoor_56 : decode cX4_addDoor 56 = .ok (.athrow, 1) := by decide +kernel
theorem dX4_addDoor_57 : decode cX4_addDoor 57 = .ok (.aload_n 0, 1) := by decide +kernel
theorem dX4_addDoor_58 : decode cX4_addDoor 58 = .ok (.getfield 69, 3) := by decide +kernel
theorem dX4_addDoor_61 : decode cX4_addDoor 61 = .ok (.istore_n 2, 1) := by decide +kernel
theorem dX4_addDoor_62 : decode cX4_addDoor 62 = .ok (.aload_n 0, 1) := by decide +kernel
theorem dX4_addDoor_63 : decode cX4_addDoor 63 = .ok (.getfield 18, 3) := by decide +kernel
theorem dX4_addDoor_66 : decode cX4_addDoor 66 = .ok (.iload_n 2, 1) := by decide +kernel
theorem dX4_addDoor_67 : decode cX4_addDoor 67 = .ok (.new 16, 3) := by decide +kernel
theorem dX4_addDoor_70 : decode cX4_addDoor 70 = .ok (.dup, 1) := by decide +kernel
theorem dX4_addDoor_71 : decode cX4_addDoor 71 = .ok (.iload_n 1, 1) := by decide +kernel
theorem dX4_addDoor_72 : decode cX4_addDoor 72 = .ok (.invokespecial 74, 3) := by decide +kernel
theorem dX4_addDoor_75 : decode cX4_addDoor 75 = .ok (.aastore, 1) := by decide +kernel
theorem dX4_addDoor_76 : decode cX4_addDoor 76 = .ok (.aload_n 0, 1) := by decide +kernel
theorem dX4_addDoor_77 : decode cX4_addDoor 77 = .ok (.dup, 1) := by decide +kernel
theorem dX4_addDoor_78 : decode cX4_addDoor 78 = .ok (.getfield 69, 3) := by decide +kernel
theorem dX4_addDoor_81 : decode cX4_addDoor 81 = .ok (.iconst 1, 1) := by decide +kernel
theorem dX4_addDoor_82 : decode cX4_addDoor 82 = .ok (.iadd, 1) := by decide +kernel
theorem dX4_addDoor_83 : decode cX4_addDoor 83 = .ok (.putfield 69, 3) := by decide +kernel
theorem dX4_addDoor_86 : decode cX4_addDoor 86 = .ok (.iload_n 2, 1) := by decide +kernel
theorem dX4_addDoor_87 : decode cX4_addDoor 87 = .ok (.ireturn, 1) := by decide +kernel
set_option maxRecDepth 20000 in
theorem ggX4_setTolerance_X4_isOutside : GoodIn wsX4_setTolerance wsX4_isOutside := goodIn_r _ [7] (by decide +kernel) (by decide +kernel)
set_option maxRecDepth 20000 in
theorem gX4_setTolerance_X4_isOutside : GoodIn wsX4_setTolerance (va_wsS RX4 44 yX4_isOutside wsX4_isOutside) := goodIn_app (goodIn_of _ (by decide +kernel)) ggX4_setTolerance_X4_isOutside
theorem dX4_setTolerance_0 : decode cX4_setTolerance 0 = .ok (.iload_n 1, 1) := by decide +kernel
theorem dX4_setTolerance_1 : decode cX4_setTolerance 1 = .ok (.iconst 0, 1) := by decide +kernel
theorem dX4_setTolerance_2 : decode cX4_setTolerance 2 = .ok (.bipush 9, 2) := by decide +kernel
theorem dX4_setTolerance_4 : decode cX4_setTolerance 4 = .ok (.invokestatic 44, 3) := by decide +kernel
theorem dX4_setTolerance_7 : decode cX4_setTolerance 7 = .ok (.ifCond .eq 13, 3) := by decide +kernel
theorem dX4_setTolerance_10 : decode cX4_setTolerance 10 = .ok (.new 48, 3) := by decide +kernel
theorem dX4_setTolerance_13 : decode cX4_setTolerance 13 = .ok (.dup, 1) := by decide +kernel
theorem dX4_setTolerance_14 : decode cX4_setTolerance 14 = .ok (.ldc 77, 2) := by decide +kernel
theorem dX4_setTolerance_16 : decode cX4_setTolerance 16 = .ok (.invokespecial 52, 3) := by decide +kernel
theorem dX4_setTolerance_19 : decode cX4_setTolerance 19 = .ok (.athrow, 1) := by decide +kernel
theorem dX4_setTolerance_20 : decode cX4_setTolerance 20 = .ok (.aload_n 0, 1) := by decide +kernel
theorem dX4_setTolerance_21 : decode cX4_setTolerance 21 = .ok (.getfield 28, 3) := by decide +kernel
theorem dX4_setTolerance_24 : decode cX4_setTolerance 24 = .ok (.istore_n 2, 1) := by decide +kernel
theorem dX4_setTolerance_25 : decode cX4_setTolerance 25 = .ok (.aload_n 0, 1) := by decide +kernel
theorem dX4_setTolerance_26 : decode cX4_setTolerance 26 = .ok (.iload_n 1, 1) := by decide +kernel
theorem dX4_setTolerance_27 : decode cX4_setTolerance 27 = .ok (.putfield 28, 3) := by decide +kernel
theorem dX4_setTolerance_30 : decode cX4_setTolerance 30 = .ok (.iload_n 2, 1) := by decide +kernel
theorem dX4_setTolerance_31 : decode cX4_setTolerance 31 = .ok (.ireturn, 1) := by decide +kernel
set_option maxRecDepth 20000 in
theorem ggX4_setCharges_X4_isOutside : GoodIn wsX4_setCharges wsX4_isOutside := goodIn_r _ [10] (by decide +kernel) (by decide +kernel)
set_option maxRecDepth 20000 in
theorem gX4_setCharges_X4_isOutside : GoodIn wsX4_setCharges (va_wsS RX4 44 yX4_isOutside wsX4_isOutside) := goodIn_app (goodIn_of _ (by decide +kernel)) ggX4_setCharges_X4_isOutside
theorem dX4_setCharges_0 : decode cX4_setCharges 0 = .ok (.iload_n 1, 1) := by decide +kernel
theorem dX4_setCharges_1 : decode cX4_setCharges 1 = .ok (.iconst 0, 1) := by decide +kernel
theorem dX4_setCharges_2 : decode cX4_setCharges 2 = .ok (.bipush 24, 2) := by decide +kernel
theorem dX4_setCharges_4 : decode cX4_setCharges 4 = .ok (.invokestatic 44, 3) := by decide +kernel
theorem dX4_setCharges_7 : decode cX4_setCharges 7 = .ok (.ifCond .ne 34, 3) := by decide +kernel
theorem dX4_setCharges_10 : decode cX4_setCharges 10 = .ok (.iload_n 2, 1) := by decide +kernel
theorem dX4_setCharges_11 : decode cX4_setCharges 11 = .ok (.iconst 0, 1) := by decide +kernel
theorem dX4_setCharges_12 : decode cX4_setCharges 12 = .ok (.bipush 99, 2) := by decide +kernel
theorem dX4_setCharges_14 : decode cX4_setCharges 14 = .ok (.invokestatic 44, 3) := by decide +kernel
theorem dX4_setCharges_17 : decode cX4_setCharges 17 = .ok (.ifCond .ne 24, 3) := by decide +kernel
theorem dX4_setCharges_20 : decode cX4_setCharges 20 = .ok (.iload_n 3, 1) := by decide +kernel
theorem dX4_setCharges_21 : decode cX4_setCharges 21 = .ok (.iconst 0, 1) := by decide +kernel
theorem dX4_setCharges_22 : decode cX4_setCharges 22 = .ok (.bipush 24, 2) := by decide +kernel
theorem dX4_setCharges_24 : decode cX4_setCharges 24 = .ok (.invokestatic 44, 3) := by decide +kernel
theorem dX4_setCharges_27 : decode cX4_setCharges 27 = .ok (.ifCond .ne 14, 3) := by decide +kernel
theorem dX4_setCharges_30 : decode cX4_setCharges 30 = .ok (.iload 4, 2) := by decide +kernel
theorem dX4_setCharges_32 : decode cX4_setCharges 32 = .ok (.iconst 0, 1) := by decide +kernel
theorem dX4_setCharges_33 : decode cX4_setCharges 33 = .ok (.bipush 99, 2) := by decide +kernel
theorem dX4_setCharges_35 : decode cX4_setCharges 35 = .ok (.invokestatic 44, 3) := by decide +kernel
theorem dX4_setCharges_38 : decode cX4_setCharges 38 = .ok (.ifCond .eq 13, 3) := by decide +kernel
theorem dX4_setCharges_41 : decode cX4_setCharges 41 = .ok (.new 48, 3) := by decide +kernel
theorem dX4_setCharges_44 : decode cX4_setCharges 44 = .ok (.dup, 1) := by decide +kernel
theorem dX4_setCharges_45 : decode cX4_setCharges 45 = .ok (.ldc 79, 2) := by decide +kernel
theorem dX4_setCharges_47 : decode cX4_setCharges 47 = .ok (.invokespecial 52, 3) := by decide +kernel
theorem dX4_setCharges_50 : decode cX4_setCharges 50 = .ok (.athrow, 1) := by decide +kernel
theorem dX4_setCharges_51 : decode cX4_setCharges 51 = .ok (.aload_n 0, 1) := by decide +kernel
theorem dX4_setCharges_52 : decode cX4_setCharges 52 = .ok (.getfield 32, 3) := by decide +kernel
theorem dX4_setCharges_55 : decode cX4_setCharges 55 = .ok (.istore 5, 2) := by decide +kernel
theorem dX4_setCharges_57 : decode cX4_setCharges 57 = .ok (.aload_n 0, 1) := by decide +kernel
theorem dX4_setCharges_58 : decode cX4_setCharges 58 = .ok (.iload_n 1, 1) := by decide +kernel
theorem dX4_setCharges_59 : decode cX4_setCharges 59 = .ok (.putfield 32, 3) := by decide +kernel
theorem dX4_setCharges_62 : decode cX4_setCharges 62 = .ok (.aload_n 0, 1) := by decide +kernel
theorem dX4_setCharges_63 : decode cX4_setCharges 63 = .ok (.iload_n 2, 1) := by decide +kernel
theorem dX4_setCharges_64 : decode cX4_setCharges 64 = .ok (.putfield 35, 3) := by decide +kernel
theorem dX4_setCharges_67 : decode cX4_setCharges 67 = .ok (.aload_n 0, 1) := by decide +kernel
theorem dX4_setCharges_68 : decode cX4_setCharges 68 = .ok (.iload_n 3, 1) := by decide +kernel
theorem dX4_setCharges_69 : decode cX4_setCharges 69 = .ok (.putfield 38, 3) := by decide +kernel
theorem dX4_setCharges_72 : decode cX4_setCharges 72 = .ok (.aload_n 0, 1) := by decide +kernel
theorem dX4_setCharges_73 : decode cX4_setCharges 73 = .ok (.iload 4, 2) := by decide +kernel
theorem dX4_setCharges_75 : decode cX4_setCharges 75 = .ok (.putfield 41, 3) := by decide +kernel
theorem dX4_setCharges_78 : decode cX4_setCharges 78 = .ok (.iload 5, 2) := by decide +kernel
theorem dX4_setCharges_80 : decode cX4_setCharges 80 = .ok (.ireturn, 1) := by decide +kernel
set_option maxRecDepth 20000 in
theorem ggX4_book_X4_isOutside : GoodIn wsX4_book wsX4_isOutside := goodIn_r _ [14] (by decide +kernel) (by decide +kernel)
set_option maxRecDepth 20000 in
theorem gX4_book_X4_isOutside : GoodIn wsX4_book (va_wsS RX4 44 yX4_isOutside wsX4_isOutside) := goodIn_app (goodIn_of _ (by decide +kernel)) ggX4_book_X4_isOutside
set_option maxRecDepth 20000 in
theorem ggX4_book_X0_init : GoodIn wsX4_book wsX0_init := goodIn_r _ [17, 18, 19, 20, 21, 22, 23, 24, 25, 39, 40, 41, 42, 43, 44, 45, 46, 47, 48] (by decide +kernel) (by decide +kernel)
set_option maxRecDepth 20000 in
theorem gX4_book_X0_init : GoodIn wsX4_book (wsX0_init) := ggX4_book_X0_init
theorem dX4_book_0 : decode cX4_book 0 = .ok (.iload_n 1, 1) := by decide +kernel
theorem dX4_book_1 : decode cX4_book 1 = .ok (.aload_n 0, 1) := by decide +kernel
theorem dX4_book_2 : decode cX4_book 2 = .ok (.getfield 81, 3) := by decide +kernel
theorem dX4_book_5 : decode cX4_book 5 = .ok (.sipush 999, 3) := by decide +kernel
theorem dX4_book_8 : decode cX4_book 8 = .ok (.invokestatic 44, 3) := by decide +kernel
theorem dX4_book_11 : decode cX4_book 11 = .ok (.ifCond .ne 13, 3) := by decide +kernel
theorem dX4_book_14 : decode cX4_book 14 = .ok (.iload_n 3, 1) := by decide +kernel
theorem dX4_book_15 : decode cX4_book 15 = .ok (.iconst 1, 1) := by decide +kernel
theorem dX4_book_16 : decode cX4_book 16 = .ok (.bipush 9, 2) := by decide +kernel
theorem dX4_book_18 : decode cX4_book 18 = .ok (.invokestatic 44, 3) := by decide +kernel
theorem dX4_book_21 : decode cX4_book 21 = .ok (.ifCond .eq 13, 3) := by decide +kernel
theorem dX4_book_24 : decode cX4_book 24 = .ok (.new 48, 3) := by decide +kernel
theorem dX4_book_27 : decode cX4_book 27 = .ok (.dup, 1) := by decide +kernel
theorem dX4_book_28 : decode cX4_book 28 = .ok (.ldc 84, 2) := by decide +kernel
theorem dX4_book_30 : decode cX4_book 30 = .ok (.invokespecial 52, 3) := by decide +kernel
theorem dX4_book_33 : decode cX4_book 33 = .ok (.athrow, 1) := by decide +kernel
theorem dX4_book_34 : decode cX4_book 34 = .ok (.iload_n 2, 1) := by decide +kernel
theorem dX4_book_35 : decode cX4_book 35 = .ok (.bipush 100, 2) := by decide +kernel
theorem dX4_book_37 : decode cX4_book 37 = .ok (.if_icmp .eq 19, 3) := by decide +kernel
theorem dX4_book_40 : decode cX4_book 40 = .ok (.iload_n 2, 1) := by decide +kernel
theorem dX4_book_41 : decode cX4_book 41 = .ok (.bipush 99, 2) := by decide +kernel
theorem dX4_book_43 : decode cX4_book 43 = .ok (.if_icmp .eq 13, 3) := by decide +kernel
theorem dX4_book_46 : decode cX4_book 46 = .ok (.new 48, 3) := by decide +kernel
theorem dX4_book_49 : decode cX4_book 49 = .ok (.dup, 1) := by decide +kernel
theorem dX4_book_50 : decode cX4_book 50 = .ok (.ldc 67, 2) := by decide +kernel
theorem dX4_book_52 : decode cX4_book 52 = .ok (.invokespecial 52, 3) := by decide +kernel
theorem dX4_book_55 : decode cX4_book 55 = .ok (.athrow, 1) := by decide +kernel
theorem dX4_book_56 : decode cX4_book 56 = .ok (.aload_n 0, 1) := by decide +kernel
theorem dX4_book_57 : decode cX4_book 57 = .ok (.getfield 86, 3) := by decide +kernel
theorem dX4_book_60 : decode cX4_book 60 = .ok (.ifCond .lt 15, 3) := by decide +kernel
theorem dX4_book_63 : decode cX4_book 63 = .ok (.aload_n 0, 1) := by decide +kernel
theorem dX4_book_64 : decode cX4_book 64 = .ok (.getfield 86, 3) := by decide +kernel
theorem dX4_book_67 : decode cX4_book 67 = .ok (.aload_n 0, 1) := by decide +kernel
theorem dX4_book_68 : decode cX4_book 68 = .ok (.getfield 24, 3) := by decide +kernel
theorem dX4_book_71 : decode cX4_book 71 = .ok (.arraylength, 1) := by decide +kernel
theorem dX4_book_72 : decode cX4_book 72 = .ok (.if_icmp .lt 13, 3) := by decide +kernel
theorem dX4_book_75 : decode cX4_book 75 = .ok (.new 58, 3) := by decide +kernel
theorem dX4_book_78 : decode cX4_book 78 = .ok (.dup, 1) := by decide +kernel
theorem dX4_book_79 : decode cX4_book 79 = .ok (.ldc 89, 2) := by decide +kernel
theorem dX4_book_81 : decode cX4_book 81 = .ok (.invokespecial 62, 3) := by decide +kernel
theorem dX4_book_84 : decode cX4_book 84 = .ok (.athrow, 1) := by decide +kernel
theorem dX4_book_85 : decode cX4_book 85 = .ok (.aload_n 0, 1) := by decide +kernel
theorem dX4_book_86 : decode cX4_book 86 = .ok (.getfield 86, 3) := by decide +kernel
theorem dX4_book_89 : decode cX4_book 89 = .ok (.istore 4, 2) := by decide +kernel
theorem dX4_book_91 : decode cX4_book 91 = .ok (.aload_n 0, 1) := by decide +kernel
theorem dX4_book_92 : decode cX4_book 92 = .ok (.getfield 24, 3) := by decide +kernel
theorem dX4_book_95 : decode cX4_book 95 = .ok (.iload 4, 2) := by decide +kernel
theorem dX4_book_97 : decode cX4_book 97 = .ok (.new 22, 3) := by decide +kernel
theorem dX4_book_100 : decode cX4_book 100 = .ok (.dup, 1) := by decide +kernel
theorem dX4_book_101 : decode cX4_book 101 = .ok (.iload 4, 2) := by decide +kernel
theorem dX4_book_103 : decode cX4_book 103 = .ok (.iload_n 1, 1) := by decide +kernel
theorem dX4_book_104 : decode cX4_book 104 = .ok (.iload_n 2, 1) := by decide +kernel
theorem dX4_book_105 : decode cX4_book 105 = .ok (.iload_n 3, 1) := by decide +kernel
theorem dX4_book_106 : decode cX4_book 106 = .ok (.invokespecial 91, 3) := by decide +kernel
theorem dX4_book_109 : decode cX4_book 109 = .ok (.aastore, 1) := by decide +kernel
theorem dX4_book_110 : decode cX4_book 110 = .ok (.aload_n 0, 1) := by decide +kernel
theorem dX4_book_111 : decode cX4_book 111 = .ok (.dup, 1) := by decide +kernel
theorem dX4_book_112 : decode cX4_book 112 = .ok (.getfield 86, 3) := by decide +kernel
theorem dX4_book_115 : decode cX4_book 115 = .ok (.iconst 1, 1) := by decide +kernel
theorem dX4_book_116 : decode cX4_book 116 = .ok (.iadd, 1) := by decide +kernel
theorem dX4_book_117 : decode cX4_book 117 = .ok (.putfield 86, 3) := by decide +kernel
theorem dX4_book_120 : decode cX4_book 120 = .ok (.iload 4, 2) := by decide +kernel
theorem dX4_book_122 : decode cX4_book 122 = .ok (.ireturn, 1) := by decide +kernel
set_option maxRecDepth 20000 in
theorem ggX4_arrive_X4_appointmentOrThrow : GoodIn wsX4_arrive wsX4_appointmentOrThrow := goodIn_ca (goodIn_r _ [13, 14, 15, 16, 17, 69, 70, 71, 72, 73, 74, 75, 76, 77, 78, 79, 80, 81] (by decide +kernel) (by decide +kernel)) (goodIn_sub (fun _ h => List.mem_cons_of_mem _ (List.mem_append_left _ (List.mem_append_right _ h))) (by decide +kernel))
set_option maxRecDepth 20000 in
theorem gX4_arrive_X4_appointmentOrThrow : GoodIn wsX4_arrive (wsV RX4 94 RX4 yX4_appointmentOrThrow wsX4_appointmentOrThrow) := goodIn_app (goodIn_of _ (by decide +kernel)) ggX4_arrive_X4_appointmentOrThrow
set_option maxRecDepth 20000 in
theorem ggX4_arrive_X4_laneOrThrow : GoodIn wsX4_arrive wsX4_laneOrThrow := goodIn_ca (goodIn_r _ [21, 22, 23, 6, 24, 25, 26, 27, 28, 29, 30, 69, 70, 71, 72, 73, 74, 75, 76, 77, 78, 79, 80, 81, 82, 83] (by decide +kernel) (by decide +kernel)) (goodIn_sub (fun _ h => List.mem_cons_of_mem _ (List.mem_append_right _ h)) (by decide +kernel))
set_option maxRecDepth 20000 in
theorem gX4_arrive_X4_laneOrThrow : GoodIn wsX4_arrive (wsV RX4 98 RX4 yX4_laneOrThrow wsX4_laneOrThrow) := goodIn_app (goodIn_of _ (by decide +kernel)) ggX4_arrive_X4_laneOrThrow
set_option maxRecDepth 20000 in
theorem ggX4_arrive_X3_trailerCount : GoodIn wsX4_arrive wsX3_trailerCount := goodIn_r _ [34, 29, 35, 36, 25, 26, 27, 28, 30, 82, 83, 84, 85, 86, 87, 88] (by decide +kernel) (by decide +kernel)
set_option maxRecDepth 20000 in
theorem gX4_arrive_X3_trailerCount : GoodIn wsX4_arrive (wsV RX4 108 RX3 yX3_trailerCount wsX3_trailerCount) := goodIn_app (goodIn_of _ (by decide +kernel)) ggX4_arrive_X3_trailerCount
set_option maxRecDepth 20000 in
theorem ggX4_arrive_X2_canTake : GoodIn wsX4_arrive wsX2_canTake := goodIn_r _ [41, 42, 43, 44, 45, 84, 85, 86, 87, 88, 59, 60, 61, 62, 63, 64, 65, 66, 67, 68] (by decide +kernel) (by decide +kernel)
set_option maxRecDepth 20000 in
theorem gX4_arrive_X2_canTake : GoodIn wsX4_arrive (wsV RX4 114 RX2 yX2_canTake wsX2_canTake) := goodIn_app (goodIn_of _ (by decide +kernel)) ggX4_arrive_X2_canTake
set_option maxRecDepth 20000 in
theorem ggX4_arrive_X2_bringIn : GoodIn wsX4_arrive wsX2_bringIn := goodIn_r _ [49, 42, 50, 51, 52, 84, 85, 86, 87, 88, 59, 60, 61, 62, 63, 64, 65, 66, 67, 68] (by decide +kernel) (by decide +kernel)
set_option maxRecDepth 20000 in
theorem gX4_arrive_X2_bringIn : GoodIn wsX4_arrive (wsV RX4 125 RX2 yX2_bringIn wsX2_bringIn) := goodIn_app (goodIn_of _ (by decide +kernel)) ggX4_arrive_X2_bringIn
set_option maxRecDepth 20000 in
theorem ggX4_arrive_X4_punctualityOf : GoodIn wsX4_arrive wsX4_punctualityOf := goodIn_r _ [56, 8, 57, 58, 59, 60, 61, 62, 63, 64, 65, 66, 67, 68, 69, 70, 71, 72, 73, 74, 75, 76, 77, 78, 79, 80, 81] (by decide +kernel) (by decide +kernel)
set_option maxRecDepth 20000 in
theorem gX4_arrive_X4_punctualityOf : GoodIn wsX4_arrive (wsV RX4 132 RX4 yX4_punctualityOf wsX4_punctualityOf) := goodIn_app (goodIn_of _ (by decide +kernel)) ggX4_arrive_X4_punctualityOf
theorem dX4_arrive_0 : decode cX4_arrive 0 = .ok (.aload_n 0, 1) := by decide +kernel
theorem dX4_arrive_1 : decode cX4_arrive 1 = .ok (.iload_n 1, 1) := by decide +kernel
theorem dX4_arrive_2 : decode cX4_arrive 2 = .ok (.invokevirtual 94, 3) := by decide +kernel
theorem dX4_arrive_5 : decode cX4_arrive 5 = .ok (.astore_n 3, 1) := by decide +kernel
theorem dX4_arrive_6 : decode cX4_arrive 6 = .ok (.aload_n 0, 1) := by decide +kernel
theorem dX4_arrive_7 : decode cX4_arrive 7 = .ok (.iload_n 2, 1) := by decide +kernel
theorem dX4_arrive_8 : decode cX4_arrive 8 = .ok (.invokevirtual 98, 3) := by decide +kernel
theorem dX4_arrive_11 : decode cX4_arrive 11 = .ok (.astore 4, 2) := by decide +kernel
theorem dX4_arrive_13 : decode cX4_arrive 13 = .ok (.aload_n 3, 1) := by decide +kernel
theorem dX4_arrive_14 : decode cX4_arrive 14 = .ok (.getfield 102, 3) := by decide +kernel
theorem dX4_arrive_17 : decode cX4_arrive 17 = .ok (.bipush 98, 2) := by decide +kernel
theorem dX4_arrive_19 : decode cX4_arrive 19 = .ok (.if_icmp .eq 13, 3) := by decide +kernel
theorem dX4_arrive_22 : decode cX4_arrive 22 = .ok (.new 58, 3) := by decide +kernel
theorem dX4_arrive_25 : decode cX4_arrive 25 = .ok (.dup, 1) := by decide +kernel
theorem dX4_arrive_26 : decode cX4_arrive 26 = .ok (.ldc 106, 2) := by decide +kernel
theorem dX4_arrive_28 : decode cX4_arrive 28 = .ok (.invokespecial 62, 3) := by decide +kernel
theorem dX4_arrive_31 : decode cX4_arrive 31 = .ok (.athrow, 1) := by decide +kernel
theorem dX4_arrive_32 : decode cX4_arrive 32 = .ok (.aload_n 0, 1) := by decide +kernel
theorem dX4_arrive_33 : decode cX4_arrive 33 = .ok (.getfield 10, 3) := by decide +kernel
theorem dX4_arrive_36 : decode cX4_arrive 36 = .ok (.invokevirtual 108, 3) := by decide +kernel
theorem dX4_arrive_39 : decode cX4_arrive 39 = .ok (.bipush 6, 2) := by decide +kernel
theorem dX4_arrive_41 : decode cX4_arrive 41 = .ok (.if_icmp .lt 13, 3) := by decide +kernel
theorem dX4_arrive_44 : decode cX4_arrive 44 = .ok (.new 58, 3) := by decide +kernel
theorem dX4_arrive_47 : decode cX4_arrive 47 = .ok (.dup, 1) := by decide +kernel
theorem dX4_arrive_48 : decode cX4_arrive 48 = .ok (.ldc 112, 2) := by decide +kernel
theorem dX4_arrive_50 : decode cX4_arrive 50 = .ok (.invokespecial 62, 3) := by decide +kernel
theorem dX4_arrive_53 : decode cX4_arrive 53 = .ok (.athrow, 1) := by decide +kernel
theorem dX4_arrive_54 : decode cX4_arrive 54 = .ok (.aload 4, 2) := by decide +kernel
theorem dX4_arrive_56 : decode cX4_arrive 56 = .ok (.aload_n 3, 1) := by decide +kernel
theorem dX4_arrive_57 : decode cX4_arrive 57 = .ok (.invokevirtual 114, 3) := by decide +kernel
theorem dX4_arrive_60 : decode cX4_arrive 60 = .ok (.ifCond .ne 13, 3) := by decide +kernel
theorem dX4_arrive_63 : decode cX4_arrive 63 = .ok (.new 120, 3) := by decide +kernel
theorem dX4_arrive_66 : decode cX4_arrive 66 = .ok (.dup, 1) := by decide +kernel
theorem dX4_arrive_67 : decode cX4_arrive 67 = .ok (.ldc 122, 2) := by decide +kernel
theorem dX4_arrive_69 : decode cX4_arrive 69 = .ok (.invokespecial 124, 3) := by decide +kernel
theorem dX4_arrive_72 : decode cX4_arrive 72 = .ok (.athrow, 1) := by decide +kernel
theorem dX4_arrive_73 : decode cX4_arrive 73 = .ok (.aload 4, 2) := by decide +kernel
theorem dX4_arrive_75 : decode cX4_arrive 75 = .ok (.aload_n 3, 1) := by decide +kernel
theorem dX4_arrive_76 : decode cX4_arrive 76 = .ok (.invokevirtual 125, 3) := by decide +kernel
theorem dX4_arrive_79 : decode cX4_arrive 79 = .ok (.aload_n 3, 1) := by decide +kernel
theorem dX4_arrive_80 : decode cX4_arrive 80 = .ok (.bipush 121, 2) := by decide +kernel
theorem dX4_arrive_82 : decode cX4_arrive 82 = .ok (.putfield 102, 3) := by decide +kernel
theorem dX4_arrive_85 : decode cX4_arrive 85 = .ok (.aload_n 3, 1) := by decide +kernel
theorem dX4_arrive_86 : decode cX4_arrive 86 = .ok (.aload_n 0, 1) := by decide +kernel
theorem dX4_arrive_87 : decode cX4_arrive 87 = .ok (.getfield 81, 3) := by decide +kernel
theorem dX4_arrive_90 : decode cX4_arrive 90 = .ok (.putfield 129, 3) := by decide +kernel
theorem dX4_arrive_93 : decode cX4_arrive 93 = .ok (.aload_n 0, 1) := by decide +kernel
theorem dX4_arrive_94 : decode cX4_arrive 94 = .ok (.aload_n 3, 1) := by decide +kernel
theorem dX4_arrive_95 : decode cX4_arrive 95 = .ok (.invokevirtual 132, 3) := by decide +kernel
theorem dX4_arrive_98 : decode cX4_arrive 98 = .ok (.ireturn, 1) := by decide +kernel
set_option maxRecDepth 20000 in
theorem ggX4_state_X4_appointmentOrThrow : GoodIn wsX4_state wsX4_appointmentOrThrow := goodIn_ca (goodIn_r _ [6, 7, 8, 9, 10, 21, 22, 23, 24, 25, 26, 27, 28, 29, 30, 31, 32, 33] (by decide +kernel) (by decide +kernel)) (goodIn_sub (fun _ h => List.mem_cons_of_mem _ (List.mem_append_right _ h)) (by decide +kernel))
set_option maxRecDepth 20000 in
theorem gX4_state_X4_appointmentOrThrow : GoodIn wsX4_state (wsV RX4 94 RX4 yX4_appointmentOrThrow wsX4_appointmentOrThrow) := goodIn_app (goodIn_of _ (by decide +kernel)) ggX4_state_X4_appointmentOrThrow
theorem dX4_state_0 : decode cX4_state 0 = .ok (.aload_n 0, 1) := by decide +kernel
theorem dX4_state_1 : decode cX4_state 1 = .ok (.iload_n 1, 1) := by decide +kernel
theorem dX4_state_2 : decode cX4_state 2 = .ok (.invokevirtual 94, 3) := by decide +kernel
theorem dX4_state_5 : decode cX4_state 5 = .ok (.getfield 102, 3) := by decide +kernel
theorem dX4_state_8 : decode cX4_state 8 = .ok (.ireturn, 1) := by decide +kernel
set_option maxRecDepth 20000 in
theorem ggX4_punctuality_X4_arrivedOrThrow : GoodIn wsX4_punctuality wsX4_arrivedOrThrow := goodIn_ca (goodIn_ca (goodIn_r _ [5, 6, 7, 8, 9, 10, 4, 11, 12, 13, 14, 15, 16, 17, 18, 19, 20, 21, 29, 30, 31, 32, 33, 34, 35, 36, 37, 38, 39, 40, 41, 42, 43, 44, 45, 46, 47, 48, 49, 50, 51] (by decide +kernel) (by decide +kernel)) (goodIn_sub (fun _ h => List.mem_cons_of_mem _ (List.mem_append_left _ (List.mem_append_right _ h))) (by decide +kernel))) (goodIn_sub (fun _ h => List.mem_cons_of_mem _ (List.mem_append_right _ h)) (by decide +kernel))
set_option maxRecDepth 20000 in
theorem gX4_punctuality_X4_arrivedOrThrow : GoodIn wsX4_punctuality (wsV RX4 136 RX4 yX4_arrivedOrThrow wsX4_arrivedOrThrow) := goodIn_app (goodIn_of _ (by decide +kernel)) ggX4_punctuality_X4_arrivedOrThrow
set_option maxRecDepth 20000 in
theorem ggX4_punctuality_X4_punctualityOf : GoodIn wsX4_punctuality wsX4_punctualityOf := goodIn_r _ [25, 26, 27, 28, 42, 43, 44, 45, 46, 47, 48, 49, 50, 51, 29, 30, 31, 32, 33, 34, 35, 36, 37, 38, 39, 40, 41] (by decide +kernel) (by decide +kernel)
set_option maxRecDepth 20000 in
theorem gX4_punctuality_X4_punctualityOf : GoodIn wsX4_punctuality (wsV RX4 132 RX4 yX4_punctualityOf wsX4_punctualityOf) := goodIn_app (goodIn_of _ (by decide +kernel)) ggX4_punctuality_X4_punctualityOf
theorem dX4_punctuality_0 : decode cX4_punctuality 0 = .ok (.aload_n 0, 1) := by decide +kernel
theorem dX4_punctuality_1 : decode cX4_punctuality 1 = .ok (.aload_n 0, 1) := by decide +kernel
theorem dX4_punctuality_2 : decode cX4_punctuality 2 = .ok (.iload_n 1, 1) := by decide +kernel
theorem dX4_punctuality_3 : decode cX4_punctuality 3 = .ok (.invokevirtual 136, 3) := by decide +kernel
theorem dX4_punctuality_6 : decode cX4_punctuality 6 = .ok (.invokevirtual 132, 3) := by decide +kernel
theorem dX4_punctuality_9 : decode cX4_punctuality 9 = .ok (.ireturn, 1) := by decide +kernel
theorem dX4_nextBooked_0 : decode cX4_nextBooked 0 = .ok (.aconst_null, 1) := by decide +kernel
theorem dX4_nextBooked_1 : decode cX4_nextBooked 1 = .ok (.astore_n 1, 1) := by decide +kernel
theorem dX4_nextBooked_2 : decode cX4_nextBooked 2 = .ok (.iconst 0, 1) := by decide +kernel
theorem dX4_nextBooked_3 : decode cX4_nextBooked 3 = .ok (.istore_n 2, 1) := by decide +kernel
theorem dX4_nextBooked_4 : decode cX4_nextBooked 4 = .ok (.iload_n 2, 1) := by decide +kernel
theorem dX4_nextBooked_5 : decode cX4_nextBooked 5 = .ok (.aload_n 0, 1) := by decide +kernel
theorem dX4_nextBooked_6 : decode cX4_nextBooked 6 = .ok (.getfield 86, 3) := by decide +kernel
theorem dX4_nextBooked_9 : decode cX4_nextBooked 9 = .ok (.if_icmp .ge 55, 3) := by decide +kernel
theorem dX4_nextBooked_12 : decode cX4_nextBooked 12 = .ok (.iload_n 2, 1) := by decide +kernel
theorem dX4_nextBooked_13 : decode cX4_nextBooked 13 = .ok (.aload_n 0, 1) := by decide +kernel
theorem dX4_nextBooked_14 : decode cX4_nextBooked 14 = .ok (.getfield 24, 3) := by decide +kernel
theorem dX4_nextBooked_17 : decode cX4_nextBooked 17 = .ok (.arraylength, 1) := by decide +kernel
theorem dX4_nextBooked_18 : decode cX4_nextBooked 18 = .ok (.if_icmp .ge 46, 3) := by decide +kernel
theorem dX4_nextBooked_21 : decode cX4_nextBooked 21 = .ok (.aload_n 0, 1) := by decide +kernel
theorem dX4_nextBooked_22 : decode cX4_nextBooked 22 = .ok (.getfield 24, 3) := by decide +kernel
theorem dX4_nextBooked_25 : decode cX4_nextBooked 25 = .ok (.iload_n 2, 1) := by decide +kernel
theorem dX4_nextBooked_26 : decode cX4_nextBooked 26 = .ok (.aaload, 1) := by decide +kernel
theorem dX4_nextBooked_27 : decode cX4_nextBooked 27 = .ok (.astore_n 3, 1) := by decide +kernel
theorem dX4_nextBooked_28 : decode cX4_nextBooked 28 = .ok (.aload_n 3, 1) := by decide +kernel
theorem dX4_nextBooked_29 : decode cX4_nextBooked 29 = .ok (.ifnull 29, 3) := by decide +kernel
theorem dX4_nextBooked_32 : decode cX4_nextBooked 32 = .ok (.aload_n 3, 1) := by decide +kernel
theorem dX4_nextBooked_33 : decode cX4_nextBooked 33 = .ok (.getfield 102, 3) := by decide +kernel
theorem dX4_nextBooked_36 : decode cX4_nextBooked 36 = .ok (.bipush 98, 2) := by decide +kernel
theorem dX4_nextBooked_38 : decode cX4_nextBooked 38 = .ok (.if_icmp .ne 20, 3) := by decide +kernel
theorem dX4_nextBooked_41 : decode cX4_nextBooked 41 = .ok (.aload_n 1, 1) := by decide +kernel
theorem dX4_nextBooked_42 : decode cX4_nextBooked 42 = .ok (.ifnull 14, 3) := by decide +kernel
theorem dX4_nextBooked_45 : decode cX4_nextBooked 45 = .ok (.aload_n 3, 1) := by decide +kernel
theorem dX4_nextBooked_46 : decode cX4_nextBooked 46 = .ok (.getfield 139, 3) := by decide +kernel
theorem dX4_nextBooked_49 : decode cX4_nextBooked 49 = .ok (.aload_n 1, 1) := by decide +kernel
theorem dX4_nextBooked_50 : decode cX4_nextBooked 50 = .ok (.getfield 139, 3) := by decide +kernel
theorem dX4_nextBooked_53 : decode cX4_nextBooked 53 = .ok (.if_icmp .ge 5, 3) := by decide +kernel
theorem dX4_nextBooked_56 : decode cX4_nextBooked 56 = .ok (.aload_n 3, 1) := by decide +kernel
theorem dX4_nextBooked_57 : decode cX4_nextBooked 57 = .ok (.astore_n 1, 1) := by decide +kernel
theorem dX4_nextBooked_58 : decode cX4_nextBooked 58 = .ok (.iinc 2 1, 3) := by decide +kernel
theorem dX4_nextBooked_61 : decode cX4_nextBooked 61 = .ok (.goto (-57), 3) := by decide +kernel
theorem dX4_nextBooked_64 : decode cX4_nextBooked 64 = .ok (.aload_n 1, 1) := by decide +kernel
theorem dX4_nextBooked_65 : decode cX4_nextBooked 65 = .ok (.ifnonnull 13, 3) := by decide +kernel
theorem dX4_nextBooked_68 : decode cX4_nextBooked 68 = .ok (.new 142, 3) := by decide +kernel
theorem dX4_nextBooked_71 : decode cX4_nextBooked 71 = .ok (.dup, 1) := by decide +kernel
theorem dX4_nextBooked_72 : decode cX4_nextBooked 72 = .ok (.ldc 144, 2) := by decide +kernel
theorem dX4_nextBooked_74 : decode cX4_nextBooked 74 = .ok (.invokespecial 146, 3) := by decide +kernel
theorem dX4_nextBooked_77 : decode cX4_nextBooked 77 = .ok (.athrow, 1) := by decide +kernel
theorem dX4_nextBooked_78 : decode cX4_nextBooked 78 = .ok (.aload_n 1, 1) := by decide +kernel
theorem dX4_nextBooked_79 : decode cX4_nextBooked 79 = .ok (.getfield 147, 3) := by decide +kernel
theorem dX4_nextBooked_82 : decode cX4_nextBooked 82 = .ok (.ireturn, 1) := by decide +kernel
set_option maxRecDepth 20000 in
theorem ggX4_shift_X4_appointmentOrThrow : GoodIn wsX4_shift wsX4_appointmentOrThrow := goodIn_ca (goodIn_r _ [9, 10, 11, 12, 13, 70, 71, 72, 73, 74, 75, 76, 77, 78, 79, 80, 81, 82] (by decide +kernel) (by decide +kernel)) (goodIn_sub (fun _ h => List.mem_cons_of_mem _ (List.mem_append_left _ (List.mem_append_left _ (List.mem_append_right _ h)))) (by decide +kernel))
set_option maxRecDepth 20000 in
theorem gX4_shift_X4_appointmentOrThrow : GoodIn wsX4_shift (wsV RX4 94 RX4 yX4_appointmentOrThrow wsX4_appointmentOrThrow) := goodIn_app (goodIn_of _ (by decide +kernel)) ggX4_shift_X4_appointmentOrThrow
set_option maxRecDepth 20000 in
theorem ggX4_shift_X4_laneOrThrow : GoodIn wsX4_shift wsX4_laneOrThrow := goodIn_ca (goodIn_r _ [17, 18, 19, 20, 21, 22, 23, 24, 25, 26, 27, 70, 71, 72, 73, 74, 75, 76, 77, 78, 79, 80, 81, 82, 83, 84] (by decide +kernel) (by decide +kernel)) (goodIn_sub (fun _ h => List.mem_cons_of_mem _ (List.mem_append_left _ (List.mem_append_right _ h))) (by decide +kernel))
set_option maxRecDepth 20000 in
theorem gX4_shift_X4_laneOrThrow : GoodIn wsX4_shift (wsV RX4 98 RX4 yX4_laneOrThrow wsX4_laneOrThrow) := goodIn_app (goodIn_of _ (by decide +kernel)) ggX4_shift_X4_laneOrThrow
set_option maxRecDepth 20000 in
theorem ggX4_shift_X4_homeOfReachedOrThrow : GoodIn wsX4_shift wsX4_homeOfReachedOrThrow := goodIn_ca (goodIn_r _ [30, 31, 32, 33, 34, 8, 35, 36, 37, 38, 39, 40, 41, 42, 43, 85, 86, 87, 88, 89, 90, 91, 92, 93, 94, 65, 66, 67, 68, 69] (by decide +kernel) (by decide +kernel)) (goodIn_sub (fun _ h => List.mem_cons_of_mem _ (List.mem_append_right _ h)) (by decide +kernel))
set_option maxRecDepth 20000 in
theorem gX4_shift_X4_homeOfReachedOrThrow : GoodIn wsX4_shift (va_wsS RX4 150 yX4_homeOfReachedOrThrow wsX4_homeOfReachedOrThrow) := goodIn_app (goodIn_of _ (by decide +kernel)) ggX4_shift_X4_homeOfReachedOrThrow
set_option maxRecDepth 20000 in
theorem ggX4_shift_X2_canTake : GoodIn wsX4_shift wsX2_canTake := goodIn_r _ [47, 42, 48, 49, 50, 65, 66, 67, 68, 69, 85, 86, 87, 88, 89, 90, 91, 92, 93, 94] (by decide +kernel) (by decide +kernel)
set_option maxRecDepth 20000 in
theorem gX4_shift_X2_canTake : GoodIn wsX4_shift (wsV RX4 114 RX2 yX2_canTake wsX2_canTake) := goodIn_app (goodIn_of _ (by decide +kernel)) ggX4_shift_X2_canTake
set_option maxRecDepth 20000 in
theorem ggX4_shift_X2_takeOut : GoodIn wsX4_shift wsX2_takeOut := goodIn_r _ [54, 42, 55, 56, 57, 58, 40, 59, 60, 65, 66, 67, 68, 69, 85, 86, 87, 88, 89, 90, 91, 92, 93, 94] (by decide +kernel) (by decide +kernel)
set_option maxRecDepth 20000 in
theorem gX4_shift_X2_takeOut : GoodIn wsX4_shift (wsV RX4 157 RX2 yX2_takeOut wsX2_takeOut) := goodIn_app (goodIn_of _ (by decide +kernel)) ggX4_shift_X2_takeOut
set_option maxRecDepth 20000 in
theorem ggX4_shift_X2_bringIn : GoodIn wsX4_shift wsX2_bringIn := goodIn_r _ [64, 42, 60, 55, 43, 65, 66, 67, 68, 69, 85, 86, 87, 88, 89, 90, 91, 92, 93, 94] (by decide +kernel) (by decide +kernel)
set_option maxRecDepth 20000 in
theorem gX4_shift_X2_bringIn : GoodIn wsX4_shift (wsV RX4 125 RX2 yX2_bringIn wsX2_bringIn) := goodIn_app (goodIn_of _ (by decide +kernel)) ggX4_shift_X2_bringIn
theorem dX4_shift_0 : decode cX4_shift 0 = .ok (.aload_n 0, 1) := by decide +kernel
theorem dX4_shift_1 : decode cX4_shift 1 = .ok (.iload_n 1, 1) := by decide +kernel
theorem dX4_shift_2 : decode cX4_shift 2 = .ok (.invokevirtual 94, 3) := by decide +kernel
theorem dX4_shift_5 : decode cX4_shift 5 = .ok (.astore_n 3, 1) := by decide +kernel
theorem dX4_shift_6 : decode cX4_shift 6 = .ok (.aload_n 0, 1) := by decide +kernel
theorem dX4_shift_7 : decode cX4_shift 7 = .ok (.iload_n 2, 1) := by decide +kernel
theorem dX4_shift_8 : decode cX4_shift 8 = .ok (.invokevirtual 98, 3) := by decide +kernel
theorem dX4_shift_11 : decode cX4_shift 11 = .ok (.astore 4, 2) := by decide +kernel
theorem dX4_shift_13 : decode cX4_shift 13 = .ok (.aload_n 3, 1) := by decide +kernel
theorem dX4_shift_14 : decode cX4_shift 14 = .ok (.invokestatic 150, 3) := by decide +kernel
theorem dX4_shift_17 : decode cX4_shift 17 = .ok (.astore 5, 2) := by decide +kernel
theorem dX4_shift_19 : decode cX4_shift 19 = .ok (.aload 5, 2) := by decide +kernel
theorem dX4_shift_21 : decode cX4_shift 21 = .ok (.getfield 154, 3) := by decide +kernel
theorem dX4_shift_24 : decode cX4_shift 24 = .ok (.aload 4, 2) := by decide +kernel
theorem dX4_shift_26 : decode cX4_shift 26 = .ok (.getfield 154, 3) := by decide +kernel
theorem dX4_shift_29 : decode cX4_shift 29 = .ok (.if_icmp .ne 13, 3) := by decide +kernel
theorem dX4_shift_32 : decode cX4_shift 32 = .ok (.new 120, 3) := by decide +kernel
theorem dX4_shift_35 : decode cX4_shift 35 = .ok (.dup, 1) := by decide +kernel
theorem dX4_shift_36 : decode cX4_shift 36 = .ok (.ldc 155, 2) := by decide +kernel
theorem dX4_shift_38 : decode cX4_shift 38 = .ok (.invokespecial 124, 3) := by decide +kernel
theorem dX4_shift_41 : decode cX4_shift 41 = .ok (.athrow, 1) := by decide +kernel
theorem dX4_shift_42 : decode cX4_shift 42 = .ok (.aload 4, 2) := by decide +kernel
theorem dX4_shift_44 : decode cX4_shift 44 = .ok (.aload_n 3, 1) := by decide +kernel
theorem dX4_shift_45 : decode cX4_shift 45 = .ok (.invokevirtual 114, 3) := by decide +kernel
theorem dX4_shift_48 : decode cX4_shift 48 = .ok (.ifCond .ne 13, 3) := by decide +kernel
theorem dX4_shift_51 : decode cX4_shift 51 = .ok (.new 120, 3) := by decide +kernel
theorem dX4_shift_54 : decode cX4_shift 54 = .ok (.dup, 1) := by decide +kernel
theorem dX4_shift_55 : decode cX4_shift 55 = .ok (.ldc 122, 2) := by decide +kernel
theorem dX4_shift_57 : decode cX4_shift 57 = .ok (.invokespecial 124, 3) := by decide +kernel
theorem dX4_shift_60 : decode cX4_shift 60 = .ok (.athrow, 1) := by decide +kernel
theorem dX4_shift_61 : decode cX4_shift 61 = .ok (.aload 5, 2) := by decide +kernel
theorem dX4_shift_63 : decode cX4_shift 63 = .ok (.invokevirtual 157, 3) := by decide +kernel
theorem dX4_shift_66 : decode cX4_shift 66 = .ok (.pop, 1) := by decide +kernel
theorem dX4_shift_67 : decode cX4_shift 67 = .ok (.aload 4, 2) := by decide +kernel
theorem dX4_shift_69 : decode cX4_shift 69 = .ok (.aload_n 3, 1) := by decide +kernel
theorem dX4_shift_70 : decode cX4_shift 70 = .ok (.invokevirtual 125, 3) := by decide +kernel
theorem dX4_shift_73 : decode cX4_shift 73 = .ok (.aload_n 0, 1) := by decide +kernel
theorem dX4_shift_74 : decode cX4_shift 74 = .ok (.dup, 1) := by decide +kernel
theorem dX4_shift_75 : decode cX4_shift 75 = .ok (.getfield 161, 3) := by decide +kernel
theorem dX4_shift_78 : decode cX4_shift 78 = .ok (.iconst 1, 1) := by decide +kernel
theorem dX4_shift_79 : decode cX4_shift 79 = .ok (.iadd, 1) := by decide +kernel
theorem dX4_shift_80 : decode cX4_shift 80 = .ok (.putfield 161, 3) := by decide +kernel
theorem dX4_shift_83 : decode cX4_shift 83 = .ok (.aload_n 0, 1) := by decide +kernel
theorem dX4_shift_84 : decode cX4_shift 84 = .ok (.getfield 161, 3) := by decide +kernel
theorem dX4_shift_87 : decode cX4_shift 87 = .ok (.ireturn, 1) := by decide +kernel
set_option maxRecDepth 20000 in
theorem ggX4_dock_X4_appointmentOrThrow : GoodIn wsX4_dock wsX4_appointmentOrThrow := goodIn_ca (goodIn_r _ [15, 16, 17, 18, 19, 79, 80, 81, 82, 83, 84, 85, 86, 87, 88, 89, 90, 91] (by decide +kernel) (by decide +kernel)) (goodIn_sub (fun _ h => List.mem_cons_of_mem _ (List.mem_append_left _ (List.mem_append_right _ h))) (by decide +kernel))
set_option maxRecDepth 20000 in
theorem gX4_dock_X4_appointmentOrThrow : GoodIn wsX4_dock (wsV RX4 94 RX4 yX4_appointmentOrThrow wsX4_appointmentOrThrow) := goodIn_app (goodIn_of _ (by decide +kernel)) ggX4_dock_X4_appointmentOrThrow
set_option maxRecDepth 20000 in
theorem ggX4_dock_X4_doorAt : GoodIn wsX4_dock wsX4_doorAt := goodIn_r _ [23, 24, 25, 79, 80, 81, 82, 83, 84, 85, 86, 87, 88, 89, 90, 91] (by decide +kernel) (by decide +kernel)
set_option maxRecDepth 20000 in
theorem gX4_dock_X4_doorAt : GoodIn wsX4_dock (wsV RX4 164 RX4 yX4_doorAt wsX4_doorAt) := goodIn_app (goodIn_of _ (by decide +kernel)) ggX4_dock_X4_doorAt
set_option maxRecDepth 20000 in
theorem ggX4_dock_X4_homeOfReachedOrThrow : GoodIn wsX4_dock wsX4_homeOfReachedOrThrow := goodIn_ca (goodIn_r _ [28, 29, 30, 31, 32, 14, 33, 34, 35, 36, 37, 38, 39, 40, 41, 69, 70, 71, 72, 73, 74, 75, 76, 77, 78, 92, 93, 94, 95, 96] (by decide +kernel) (by decide +kernel)) (goodIn_sub (fun _ h => List.mem_cons_of_mem _ (List.mem_append_right _ h)) (by decide +kernel))
set_option maxRecDepth 20000 in
theorem gX4_dock_X4_homeOfReachedOrThrow : GoodIn wsX4_dock (va_wsS RX4 150 yX4_homeOfReachedOrThrow wsX4_homeOfReachedOrThrow) := goodIn_app (goodIn_of _ (by decide +kernel)) ggX4_dock_X4_homeOfReachedOrThrow
set_option maxRecDepth 20000 in
theorem ggX4_dock_X1_canTake : GoodIn wsX4_dock wsX1_canTake := goodIn_r _ [46, 47, 48, 49, 67, 68, 69, 70, 71, 72, 73, 74, 75, 76, 77, 78] (by decide +kernel) (by decide +kernel)
set_option maxRecDepth 20000 in
theorem gX4_dock_X1_canTake : GoodIn wsX4_dock (wsV RX4 173 RX1 yX1_canTake wsX1_canTake) := goodIn_app (goodIn_of _ (by decide +kernel)) ggX4_dock_X1_canTake
set_option maxRecDepth 20000 in
theorem ggX4_dock_X2_takeOut : GoodIn wsX4_dock wsX2_takeOut := goodIn_r _ [53, 40, 54, 55, 56, 57, 38, 58, 59, 92, 93, 94, 95, 96, 69, 70, 71, 72, 73, 74, 75, 76, 77, 78] (by decide +kernel) (by decide +kernel)
set_option maxRecDepth 20000 in
theorem gX4_dock_X2_takeOut : GoodIn wsX4_dock (wsV RX4 157 RX2 yX2_takeOut wsX2_takeOut) := goodIn_app (goodIn_of _ (by decide +kernel)) ggX4_dock_X2_takeOut
set_option maxRecDepth 20000 in
theorem ggX4_dock_X0_doneAt : GoodIn wsX4_dock wsX0_doneAt := goodIn_r _ [64, 65, 66, 69, 70, 71, 72, 73, 74, 75, 76, 77, 78] (by decide +kernel) (by decide +kernel)
set_option maxRecDepth 20000 in
theorem gX4_dock_X0_doneAt : GoodIn wsX4_dock (wsV RX4 187 RX0 yX0_doneAt wsX0_doneAt) := goodIn_app (goodIn_of _ (by decide +kernel)) ggX4_dock_X0_doneAt
theorem dX4_dock_0 : decode cX4_dock 0 = .ok (.aload_n 0, 1) := by decide +kernel
theorem dX4_dock_1 : decode cX4_dock 1 = .ok (.iload_n 1, 1) := by decide +kernel
theorem dX4_dock_2 : decode cX4_dock 2 = .ok (.invokevirtual 94, 3) := by decide +kernel
theorem dX4_dock_5 : decode cX4_dock 5 = .ok (.astore_n 3, 1) := by decide +kernel
theorem dX4_dock_6 : decode cX4_dock 6 = .ok (.aload_n 0, 1) := by decide +kernel
theorem dX4_dock_7 : decode cX4_dock 7 = .ok (.iload_n 2, 1) := by decide +kernel
theorem dX4_dock_8 : decode cX4_dock 8 = .ok (.invokevirtual 164, 3) := by decide +kernel
theorem dX4_dock_11 : decode cX4_dock 11 = .ok (.astore 4, 2) := by decide +kernel
theorem dX4_dock_13 : decode cX4_dock 13 = .ok (.aload 4, 2) := by decide +kernel
theorem dX4_dock_15 : decode cX4_dock 15 = .ok (.ifnonnull 13, 3) := by decide +kernel
theorem dX4_dock_18 : decode cX4_dock 18 = .ok (.new 168, 3) := by decide +kernel
theorem dX4_dock_21 : decode cX4_dock 21 = .ok (.dup, 1) := by decide +kernel
theorem dX4_dock_22 : decode cX4_dock 22 = .ok (.ldc 170, 2) := by decide +kernel
theorem dX4_dock_24 : decode cX4_dock 24 = .ok (.invokespecial 172, 3) := by decide +kernel
theorem dX4_dock_27 : decode cX4_dock 27 = .ok (.athrow, 1) := by decide +kernel
theorem dX4_dock_28 : decode cX4_dock 28 = .ok (.aload_n 3, 1) := by decide +kernel
theorem dX4_dock_29 : decode cX4_dock 29 = .ok (.invokestatic 150, 3) := by decide +kernel
theorem dX4_dock_32 : decode cX4_dock 32 = .ok (.astore 5, 2) := by decide +kernel
theorem dX4_dock_34 : decode cX4_dock 34 = .ok (.aload 4, 2) := by decide +kernel
theorem dX4_dock_36 : decode cX4_dock 36 = .ok (.aload_n 3, 1) := by decide +kernel
theorem dX4_dock_37 : decode cX4_dock 37 = .ok (.invokevirtual 173, 3) := by decide +kernel
theorem dX4_dock_40 : decode cX4_dock 40 = .ok (.ifCond .ne 13, 3) := by decide +kernel
theorem dX4_dock_43 : decode cX4_dock 43 = .ok (.new 120, 3) := by decide +kernel
theorem dX4_dock_46 : decode cX4_dock 46 = .ok (.dup, 1) := by decide +kernel
theorem dX4_dock_47 : decode cX4_dock 47 = .ok (.ldc 174, 2) := by decide +kernel
theorem dX4_dock_49 : decode cX4_dock 49 = .ok (.invokespecial 124, 3) := by decide +kernel
theorem dX4_dock_52 : decode cX4_dock 52 = .ok (.athrow, 1) := by decide +kernel
theorem dX4_dock_53 : decode cX4_dock 53 = .ok (.aload 5, 2) := by decide +kernel
theorem dX4_dock_55 : decode cX4_dock 55 = .ok (.invokevirtual 157, 3) := by decide +kernel
theorem dX4_dock_58 : decode cX4_dock 58 = .ok (.pop, 1) := by decide +kernel
theorem dX4_dock_59 : decode cX4_dock 59 = .ok (.aload 4, 2) := by decide +kernel
theorem dX4_dock_61 : decode cX4_dock 61 = .ok (.iconst 1, 1) := by decide +kernel
theorem dX4_dock_62 : decode cX4_dock 62 = .ok (.putfield 176, 3) := by decide +kernel
theorem dX4_dock_65 : decode cX4_dock 65 = .ok (.aload_n 3, 1) := by decide +kernel
theorem dX4_dock_66 : decode cX4_dock 66 = .ok (.aload 4, 2) := by decide +kernel
theorem dX4_dock_68 : decode cX4_dock 68 = .ok (.putfield 180, 3) := by decide +kernel
theorem dX4_dock_71 : decode cX4_dock 71 = .ok (.aload_n 3, 1) := by decide +kernel
theorem dX4_dock_72 : decode cX4_dock 72 = .ok (.bipush 119, 2) := by decide +kernel
theorem dX4_dock_74 : decode cX4_dock 74 = .ok (.putfield 102, 3) := by decide +kernel
theorem dX4_dock_77 : decode cX4_dock 77 = .ok (.aload_n 3, 1) := by decide +kernel
theorem dX4_dock_78 : decode cX4_dock 78 = .ok (.aload_n 0, 1) := by decide +kernel
theorem dX4_dock_79 : decode cX4_dock 79 = .ok (.getfield 81, 3) := by decide +kernel
theorem dX4_dock_82 : decode cX4_dock 82 = .ok (.putfield 184, 3) := by decide +kernel
theorem dX4_dock_85 : decode cX4_dock 85 = .ok (.aload_n 0, 1) := by decide +kernel
theorem dX4_dock_86 : decode cX4_dock 86 = .ok (.dup, 1) := by decide +kernel
theorem dX4_dock_87 : decode cX4_dock 87 = .ok (.getfield 161, 3) := by decide +kernel
theorem dX4_dock_90 : decode cX4_dock 90 = .ok (.iconst 1, 1) := by decide +kernel
theorem dX4_dock_91 : decode cX4_dock 91 = .ok (.iadd, 1) := by decide +kernel
theorem dX4_dock_92 : decode cX4_dock 92 = .ok (.putfield 161, 3) := by decide +kernel
theorem dX4_dock_95 : decode cX4_dock 95 = .ok (.aload_n 3, 1) := by decide +kernel
theorem dX4_dock_96 : decode cX4_dock 96 = .ok (.invokevirtual 187, 3) := by decide +kernel
theorem dX4_dock_99 : decode cX4_dock 99 = .ok (.ireturn, 1) := by decide +kernel
set_option maxRecDepth 20000 in
theorem ggX4_leave_X4_appointmentOrThrow : GoodIn wsX4_leave wsX4_appointmentOrThrow := goodIn_ca (goodIn_r _ [14, 15, 16, 17, 18, 63, 64, 65, 66, 67, 68, 69, 70, 71, 72, 73, 74, 75] (by decide +kernel) (by decide +kernel)) (goodIn_sub (fun _ h => List.mem_cons_of_mem _ (List.mem_append_right _ h)) (by decide +kernel))
set_option maxRecDepth 20000 in
theorem gX4_leave_X4_appointmentOrThrow : GoodIn wsX4_leave (wsV RX4 94 RX4 yX4_appointmentOrThrow wsX4_appointmentOrThrow) := goodIn_app (goodIn_of _ (by decide +kernel)) ggX4_leave_X4_appointmentOrThrow
set_option maxRecDepth 20000 in
theorem ggX4_leave_X0_doneAt : GoodIn wsX4_leave wsX0_doneAt := goodIn_r _ [23, 24, 25, 53, 54, 55, 56, 57, 58, 59, 60, 61, 62] (by decide +kernel) (by decide +kernel)
set_option maxRecDepth 20000 in
theorem gX4_leave_X0_doneAt : GoodIn wsX4_leave (wsV RX4 187 RX0 yX0_doneAt wsX0_doneAt) := goodIn_app (goodIn_of _ (by decide +kernel)) ggX4_leave_X0_doneAt
set_option maxRecDepth 20000 in
theorem ggX4_leave_X4_chargeInSteps : GoodIn wsX4_leave wsX4_chargeInSteps := goodIn_r _ [29, 30, 31, 32, 33, 34, 35, 36, 37, 38, 39, 40, 41, 42, 43, 13, 44, 45, 46, 47, 48, 49, 50, 51, 8, 6, 52, 63, 64, 65, 66, 67, 68, 69, 70, 71, 72, 73, 74, 75, 53, 54, 55, 56, 57, 58, 59, 60, 61, 62] (by decide +kernel) (by decide +kernel)
set_option maxRecDepth 20000 in
theorem gX4_leave_X4_chargeInSteps : GoodIn wsX4_leave (wsV RX4 194 RX4 yX4_chargeInSteps wsX4_chargeInSteps) := goodIn_app (goodIn_of _ (by decide +kernel)) ggX4_leave_X4_chargeInSteps
theorem dX4_leave_0 : decode cX4_leave 0 = .ok (.aload_n 0, 1) := by decide +kernel
theorem dX4_leave_1 : decode cX4_leave 1 = .ok (.iload_n 1, 1) := by decide +kernel
theorem dX4_leave_2 : decode cX4_leave 2 = .ok (.invokevirtual 94, 3) := by decide +kernel
theorem dX4_leave_5 : decode cX4_leave 5 = .ok (.astore_n 2, 1) := by decide +kernel
theorem dX4_leave_6 : decode cX4_leave 6 = .ok (.aload_n 2, 1) := by decide +kernel
theorem dX4_leave_7 : decode cX4_leave 7 = .ok (.getfield 180, 3) := by decide +kernel
theorem dX4_leave_10 : decode cX4_leave 10 = .ok (.astore_n 3, 1) := by decide +kernel
theorem dX4_leave_11 : decode cX4_leave 11 = .ok (.aload_n 3, 1) := by decide +kernel
theorem dX4_leave_12 : decode cX4_leave 12 = .ok (.ifnonnull 13, 3) := by decide +kernel
theorem dX4_leave_15 : decode cX4_leave 15 = .ok (.new 58, 3) := by decide +kernel
theorem dX4_leave_18 : decode cX4_leave 18 = .ok (.dup, 1) := by decide +kernel
theorem dX4_leave_19 : decode cX4_leave 19 = .ok (.ldc 190, 2) := by decide +kernel
theorem dX4_leave_21 : decode cX4_leave 21 = .ok (.invokespecial 62, 3) := by decide +kernel
theorem dX4_leave_24 : decode cX4_leave 24 = .ok (.athrow, 1) := by decide +kernel
theorem dX4_leave_25 : decode cX4_leave 25 = .ok (.aload_n 0, 1) := by decide +kernel
theorem dX4_leave_26 : decode cX4_leave 26 = .ok (.getfield 81, 3) := by decide +kernel
theorem dX4_leave_29 : decode cX4_leave 29 = .ok (.aload_n 2, 1) := by decide +kernel
theorem dX4_leave_30 : decode cX4_leave 30 = .ok (.invokevirtual 187, 3) := by decide +kernel
theorem dX4_leave_33 : decode cX4_leave 33 = .ok (.if_icmp .ge 13, 3) := by decide +kernel
theorem dX4_leave_36 : decode cX4_leave 36 = .ok (.new 120, 3) := by decide +kernel
theorem dX4_leave_39 : decode cX4_leave 39 = .ok (.dup, 1) := by decide +kernel
theorem dX4_leave_40 : decode cX4_leave 40 = .ok (.ldc 192, 2) := by decide +kernel
theorem dX4_leave_42 : decode cX4_leave 42 = .ok (.invokespecial 124, 3) := by decide +kernel
theorem dX4_leave_45 : decode cX4_leave 45 = .ok (.athrow, 1) := by decide +kernel
theorem dX4_leave_46 : decode cX4_leave 46 = .ok (.aload_n 3, 1) := by decide +kernel
theorem dX4_leave_47 : decode cX4_leave 47 = .ok (.iconst 0, 1) := by decide +kernel
theorem dX4_leave_48 : decode cX4_leave 48 = .ok (.putfield 176, 3) := by decide +kernel
theorem dX4_leave_51 : decode cX4_leave 51 = .ok (.aload_n 2, 1) := by decide +kernel
theorem dX4_leave_52 : decode cX4_leave 52 = .ok (.aconst_null, 1) := by decide +kernel
theorem dX4_leave_53 : decode cX4_leave 53 = .ok (.putfield 180, 3) := by decide +kernel
theorem dX4_leave_56 : decode cX4_leave 56 = .ok (.aload_n 2, 1) := by decide +kernel
theorem dX4_leave_57 : decode cX4_leave 57 = .ok (.bipush 103, 2) := by decide +kernel
theorem dX4_leave_59 : decode cX4_leave 59 = .ok (.putfield 102, 3) := by decide +kernel
theorem dX4_leave_62 : decode cX4_leave 62 = .ok (.aload_n 0, 1) := by decide +kernel
theorem dX4_leave_63 : decode cX4_leave 63 = .ok (.aload_n 2, 1) := by decide +kernel
theorem dX4_leave_64 : decode cX4_leave 64 = .ok (.invokevirtual 194, 3) := by decide +kernel
theorem dX4_leave_67 : decode cX4_leave 67 = .ok (.istore 4, 2) := by decide +kernel
theorem dX4_leave_69 : decode cX4_leave 69 = .ok (.aload_n 0, 1) := by decide +kernel
theorem dX4_leave_70 : decode cX4_leave 70 = .ok (.dup, 1) := by decide +kernel
theorem dX4_leave_71 : decode cX4_leave 71 = .ok (.getfield 198, 3) := by decide +kernel
theorem dX4_leave_74 : decode cX4_leave 74 = .ok (.iload 4, 2) := by decide +kernel
theorem dX4_leave_76 : decode cX4_leave 76 = .ok (.i2l, 1) := by decide +kernel
theorem dX4_leave_77 : decode cX4_leave 77 = .ok (.ladd, 1) := by decide +kernel
theorem dX4_leave_78 : decode cX4_leave 78 = .ok (.putfield 198, 3) := by decide +kernel
theorem dX4_leave_81 : decode cX4_leave 81 = .ok (.iload 4, 2) := by decide +kernel
theorem dX4_leave_83 : decode cX4_leave 83 = .ok (.ireturn, 1) := by decide +kernel
set_option maxRecDepth 20000 in
theorem ggX4_laneOf_X4_appointmentOrThrow : GoodIn wsX4_laneOf wsX4_appointmentOrThrow := goodIn_ca (goodIn_r _ [6, 7, 8, 9, 10, 22, 23, 24, 25, 26, 27, 28, 29, 30, 31, 32, 33, 34] (by decide +kernel) (by decide +kernel)) (goodIn_sub (fun _ h => List.mem_cons_of_mem _ (List.mem_append_left _ (List.mem_append_right _ h))) (by decide +kernel))
set_option maxRecDepth 20000 in
theorem gX4_laneOf_X4_appointmentOrThrow : GoodIn wsX4_laneOf (wsV RX4 94 RX4 yX4_appointmentOrThrow wsX4_appointmentOrThrow) := goodIn_app (goodIn_of _ (by decide +kernel)) ggX4_laneOf_X4_appointmentOrThrow
set_option maxRecDepth 20000 in
theorem ggX4_laneOf_X4_homeOrThrow : GoodIn wsX4_laneOf wsX4_homeOrThrow := goodIn_ca (goodIn_r _ [13, 14, 15, 16, 35, 36, 37, 38, 39, 40, 41, 42, 43, 44] (by decide +kernel) (by decide +kernel)) (goodIn_sub (fun _ h => List.mem_cons_of_mem _ (List.mem_append_right _ h)) (by decide +kernel))
set_option maxRecDepth 20000 in
theorem gX4_laneOf_X4_homeOrThrow : GoodIn wsX4_laneOf (va_wsS RX4 202 yX4_homeOrThrow wsX4_homeOrThrow) := goodIn_app (goodIn_of _ (by decide +kernel)) ggX4_laneOf_X4_homeOrThrow
theorem dX4_laneOf_0 : decode cX4_laneOf 0 = .ok (.aload_n 0, 1) := by decide +kernel
theorem dX4_laneOf_1 : decode cX4_laneOf 1 = .ok (.iload_n 1, 1) := by decide +kernel
theorem dX4_laneOf_2 : decode cX4_laneOf 2 = .ok (.invokevirtual 94, 3) := by decide +kernel
theorem dX4_laneOf_5 : decode cX4_laneOf 5 = .ok (.invokestatic 202, 3) := by decide +kernel
theorem dX4_laneOf_8 : decode cX4_laneOf 8 = .ok (.getfield 154, 3) := by decide +kernel
theorem dX4_laneOf_11 : decode cX4_laneOf 11 = .ok (.ireturn, 1) := by decide +kernel
set_option maxRecDepth 20000 in
theorem ggX4_blockers_X4_appointmentOrThrow : GoodIn wsX4_blockers wsX4_appointmentOrThrow := goodIn_ca (goodIn_r _ [5, 6, 7, 8, 9, 23, 24, 25, 26, 27, 28, 29, 30, 31, 32, 33, 34, 35] (by decide +kernel) (by decide +kernel)) (goodIn_sub (fun _ h => List.mem_cons_of_mem _ (List.mem_append_left _ (List.mem_append_right _ h))) (by decide +kernel))
set_option maxRecDepth 20000 in
theorem gX4_blockers_X4_appointmentOrThrow : GoodIn wsX4_blockers (wsV RX4 94 RX4 yX4_appointmentOrThrow wsX4_appointmentOrThrow) := goodIn_app (goodIn_of _ (by decide +kernel)) ggX4_blockers_X4_appointmentOrThrow
set_option maxRecDepth 20000 in
theorem ggX4_blockers_X4_homeOrThrow : GoodIn wsX4_blockers wsX4_homeOrThrow := goodIn_ca (goodIn_r _ [12, 13, 14, 15, 36, 37, 38, 39, 40, 41, 42, 43, 44, 45] (by decide +kernel) (by decide +kernel)) (goodIn_sub (fun _ h => List.mem_cons_of_mem _ (List.mem_append_right _ h)) (by decide +kernel))
set_option maxRecDepth 20000 in
theorem gX4_blockers_X4_homeOrThrow : GoodIn wsX4_blockers (va_wsS RX4 202 yX4_homeOrThrow wsX4_homeOrThrow) := goodIn_app (goodIn_of _ (by decide +kernel)) ggX4_blockers_X4_homeOrThrow
set_option maxRecDepth 20000 in
theorem ggX4_blockers_X2_countBefore : GoodIn wsX4_blockers wsX2_countBefore := goodIn_r _ [20, 21, 22, 46, 47, 48, 49, 50, 36, 37, 38, 39, 40, 41, 42, 43, 44, 45] (by decide +kernel) (by decide +kernel)
set_option maxRecDepth 20000 in
theorem gX4_blockers_X2_countBefore : GoodIn wsX4_blockers (wsV RX4 205 RX2 yX2_countBefore wsX2_countBefore) := goodIn_app (goodIn_of _ (by decide +kernel)) ggX4_blockers_X2_countBefore
theorem dX4_blockers_0 : decode cX4_blockers 0 = .ok (.aload_n 0, 1) := by decide +kernel
theorem dX4_blockers_1 : decode cX4_blockers 1 = .ok (.iload_n 1, 1) := by decide +kernel
theorem dX4_blockers_2 : decode cX4_blockers 2 = .ok (.invokevirtual 94, 3) := by decide +kernel
theorem dX4_blockers_5 : decode cX4_blockers 5 = .ok (.astore_n 2, 1) := by decide +kernel
theorem dX4_blockers_6 : decode cX4_blockers 6 = .ok (.aload_n 2, 1) := by decide +kernel
theorem dX4_blockers_7 : decode cX4_blockers 7 = .ok (.invokestatic 202, 3) := by decide +kernel
theorem dX4_blockers_10 : decode cX4_blockers 10 = .ok (.aload_n 2, 1) := by decide +kernel
theorem dX4_blockers_11 : decode cX4_blockers 11 = .ok (.invokevirtual 205, 3) := by decide +kernel
theorem dX4_blockers_14 : decode cX4_blockers 14 = .ok (.ireturn, 1) := by decide +kernel
set_option maxRecDepth 20000 in
theorem ggX4_trailerAt_X4_laneOrThrow : GoodIn wsX4_trailerAt wsX4_laneOrThrow := goodIn_ca (goodIn_r _ [8, 9, 10, 11, 12, 13, 14, 15, 16, 17, 18, 36, 37, 38, 39, 40, 41, 42, 43, 44, 45, 46, 47, 48, 49, 50] (by decide +kernel) (by decide +kernel)) (goodIn_sub (fun _ h => List.mem_cons_of_mem _ (List.mem_append_right _ h)) (by decide +kernel))
set_option maxRecDepth 20000 in
theorem gX4_trailerAt_X4_laneOrThrow : GoodIn wsX4_trailerAt (wsV RX4 98 RX4 yX4_laneOrThrow wsX4_laneOrThrow) := goodIn_app (goodIn_of _ (by decide +kernel)) ggX4_trailerAt_X4_laneOrThrow
set_option maxRecDepth 20000 in
theorem ggX4_trailerAt_X2_fromExit : GoodIn wsX4_trailerAt wsX2_fromExit := goodIn_r _ [23, 24, 25, 51, 52, 53, 54, 55] (by decide +kernel) (by decide +kernel)
set_option maxRecDepth 20000 in
theorem gX4_trailerAt_X2_fromExit : GoodIn wsX4_trailerAt (wsV RX4 208 RX2 yX2_fromExit wsX2_fromExit) := goodIn_app (goodIn_of _ (by decide +kernel)) ggX4_trailerAt_X2_fromExit
theorem dX4_trailerAt_0 : decode cX4_trailerAt 0 = .ok (.aload_n 0, 1) := by decide +kernel
theorem dX4_trailerAt_1 : decode cX4_trailerAt 1 = .ok (.iload_n 1, 1) := by decide +kernel
theorem dX4_trailerAt_2 : decode cX4_trailerAt 2 = .ok (.invokevirtual 98, 3) := by decide +kernel
theorem dX4_trailerAt_5 : decode cX4_trailerAt 5 = .ok (.iload_n 2, 1) := by decide +kernel
theorem dX4_trailerAt_6 : decode cX4_trailerAt 6 = .ok (.invokevirtual 208, 3) := by decide +kernel
theorem dX4_trailerAt_9 : decode cX4_trailerAt 9 = .ok (.astore_n 3, 1) := by decide +kernel
theorem dX4_trailerAt_10 : decode cX4_trailerAt 10 = .ok (.aload_n 3, 1) := by decide +kernel
theorem dX4_trailerAt_11 : decode cX4_trailerAt 11 = .ok (.ifnonnull 13, 3) := by decide +kernel
theorem dX4_trailerAt_14 : decode cX4_trailerAt 14 = .ok (.new 142, 3) := by decide +kernel
theorem dX4_trailerAt_17 : decode cX4_trailerAt 17 = .ok (.dup, 1) := by decide +kernel
theorem dX4_trailerAt_18 : decode cX4_trailerAt 18 = .ok (.ldc 211, 2) := by decide +kernel
theorem dX4_trailerAt_20 : decode cX4_trailerAt 20 = .ok (.invokespecial 146, 3) := by decide +kernel
theorem dX4_trailerAt_23 : decode cX4_trailerAt 23 = .ok (.athrow, 1) := by decide +kernel
theorem dX4_trailerAt_24 : decode cX4_trailerAt 24 = .ok (.aload_n 3, 1) := by decide +kernel
theorem dX4_trailerAt_25 : decode cX4_trailerAt 25 = .ok (.getfield 147, 3) := by decide +kernel
theorem dX4_trailerAt_28 : decode cX4_trailerAt 28 = .ok (.ireturn, 1) := by decide +kernel
set_option maxRecDepth 20000 in
theorem ggX4_freeDoor_X4_appointmentOrThrow : GoodIn wsX4_freeDoor wsX4_appointmentOrThrow := goodIn_ca (goodIn_r _ [8, 9, 10, 11, 12, 26, 27, 28, 29, 30, 31, 32, 33, 34, 35, 36, 37, 38] (by decide +kernel) (by decide +kernel)) (goodIn_sub (fun _ h => List.mem_cons_of_mem _ (List.mem_append_right _ h)) (by decide +kernel))
set_option maxRecDepth 20000 in
theorem gX4_freeDoor_X4_appointmentOrThrow : GoodIn wsX4_freeDoor (wsV RX4 94 RX4 yX4_appointmentOrThrow wsX4_appointmentOrThrow) := goodIn_app (goodIn_of _ (by decide +kernel)) ggX4_freeDoor_X4_appointmentOrThrow
set_option maxRecDepth 20000 in
theorem ggX4_freeDoor_X4_doorAt : GoodIn wsX4_freeDoor wsX4_doorAt := goodIn_r _ [16, 3, 17, 26, 27, 28, 29, 30, 31, 32, 33, 34, 35, 36, 37, 38] (by decide +kernel) (by decide +kernel)
set_option maxRecDepth 20000 in
theorem gX4_freeDoor_X4_doorAt : GoodIn wsX4_freeDoor (wsV RX4 164 RX4 yX4_doorAt wsX4_doorAt) := goodIn_app (goodIn_of _ (by decide +kernel)) ggX4_freeDoor_X4_doorAt
set_option maxRecDepth 20000 in
theorem ggX4_freeDoor_X1_canTake : GoodIn wsX4_freeDoor wsX1_canTake := goodIn_r _ [22, 23, 24, 25, 39, 40, 41, 42, 43, 44, 45, 46, 47, 48, 49, 50] (by decide +kernel) (by decide +kernel)
set_option maxRecDepth 20000 in
theorem gX4_freeDoor_X1_canTake : GoodIn wsX4_freeDoor (wsV RX4 173 RX1 yX1_canTake wsX1_canTake) := goodIn_app (goodIn_of _ (by decide +kernel)) ggX4_freeDoor_X1_canTake
theorem dX4_freeDoor_0 : decode cX4_freeDoor 0 = .ok (.aload_n 0, 1) := by decide +kernel
theorem dX4_freeDoor_1 : decode cX4_freeDoor 1 = .ok (.iload_n 1, 1) := by decide +kernel
theorem dX4_freeDoor_2 : decode cX4_freeDoor 2 = .ok (.invokevirtual 94, 3) := by decide +kernel
theorem dX4_freeDoor_5 : decode cX4_freeDoor 5 = .ok (.astore_n 2, 1) := by decide +kernel
theorem dX4_freeDoor_6 : decode cX4_freeDoor 6 = .ok (.iconst (-1), 1) := by decide +kernel
theorem dX4_freeDoor_7 : decode cX4_freeDoor 7 = .ok (.istore_n 3, 1) := by decide +kernel
theorem dX4_freeDoor_8 : decode cX4_freeDoor 8 = .ok (.iconst 0, 1) := by decide +kernel
theorem dX4_freeDoor_9 : decode cX4_freeDoor 9 = .ok (.istore 4, 2) := by decide +kernel
theorem dX4_freeDoor_11 : decode cX4_freeDoor 11 = .ok (.iload 4, 2) := by decide +kernel
theorem dX4_freeDoor_13 : decode cX4_freeDoor 13 = .ok (.aload_n 0, 1) := by decide +kernel
theorem dX4_freeDoor_14 : decode cX4_freeDoor 14 = .ok (.getfield 69, 3) := by decide +kernel
theorem dX4_freeDoor_17 : decode cX4_freeDoor 17 = .ok (.if_icmp .ge 38, 3) := by decide +kernel
theorem dX4_freeDoor_20 : decode cX4_freeDoor 20 = .ok (.iload_n 3, 1) := by decide +kernel
theorem dX4_freeDoor_21 : decode cX4_freeDoor 21 = .ok (.ifCond .ge 34, 3) := by decide +kernel
theorem dX4_freeDoor_24 : decode cX4_freeDoor 24 = .ok (.aload_n 0, 1) := by decide +kernel
theorem dX4_freeDoor_25 : decode cX4_freeDoor 25 = .ok (.iload 4, 2) := by decide +kernel
theorem dX4_freeDoor_27 : decode cX4_freeDoor 27 = .ok (.invokevirtual 164, 3) := by decide +kernel
theorem dX4_freeDoor_30 : decode cX4_freeDoor 30 = .ok (.astore 5, 2) := by decide +kernel
theorem dX4_freeDoor_32 : decode cX4_freeDoor 32 = .ok (.aload 5, 2) := by decide +kernel
theorem dX4_freeDoor_34 : decode cX4_freeDoor 34 = .ok (.ifnull 15, 3) := by decide +kernel
theorem dX4_freeDoor_37 : decode cX4_freeDoor 37 = .ok (.aload 5, 2) := by decide +kernel
theorem dX4_freeDoor_39 : decode cX4_freeDoor 39 = .ok (.aload_n 2, 1) := by decide +kernel
theorem dX4_freeDoor_40 : decode cX4_freeDoor 40 = .ok (.invokevirtual 173, 3) := by decide +kernel
theorem dX4_freeDoor_43 : decode cX4_freeDoor 43 = .ok (.ifCond .eq 6, 3) := by decide +kernel
theorem dX4_freeDoor_46 : decode cX4_freeDoor 46 = .ok (.iload 4, 2) := by decide +kernel
theorem dX4_freeDoor_48 : decode cX4_freeDoor 48 = .ok (.istore_n 3, 1) := by decide +kernel
theorem dX4_freeDoor_49 : decode cX4_freeDoor 49 = .ok (.iinc 4 1, 3) := by decide +kernel
theorem dX4_freeDoor_52 : decode cX4_freeDoor 52 = .ok (.goto (-41), 3) := by decide +kernel
theorem dX4_freeDoor_55 : decode cX4_freeDoor 55 = .ok (.iload_n 3, 1) := by decide +kernel
theorem dX4_freeDoor_56 : decode cX4_freeDoor 56 = .ok (.ifCond .ge 13, 3) := by decide +kernel
theorem dX4_freeDoor_59 : decode cX4_freeDoor 59 = .ok (.new 58, 3) := by decide +kernel
theorem dX4_freeDoor_62 : decode cX4_freeDoor 62 = .ok (.dup, 1) := by decide +kernel
theorem dX4_freeDoor_63 : decode cX4_freeDoor 63 = .ok (.ldc 170, 2) := by decide +kernel
theorem dX4_freeDoor_65 : decode cX4_freeDoor 65 = .ok (.invokespecial 62, 3) := by decide +kernel
theorem dX4_freeDoor_68 : decode cX4_freeDoor 68 = .ok (.athrow, 1) := by decide +kernel
theorem dX4_freeDoor_69 : decode cX4_freeDoor 69 = .ok (.iload_n 3, 1) := by decide +kernel
theorem dX4_freeDoor_70 : decode cX4_freeDoor 70 = .ok (.ireturn, 1) := by decide +kernel
set_option maxRecDepth 20000 in
theorem ggX4_fewestMoves_X4_appointmentOrThrow : GoodIn wsX4_fewestMoves wsX4_appointmentOrThrow := goodIn_ca (goodIn_r _ [8, 9, 10, 11, 12, 67, 68, 69, 70, 71, 72, 73, 74, 75, 76, 77, 78, 79] (by decide +kernel) (by decide +kernel)) (goodIn_sub (fun _ h => List.mem_cons_of_mem _ (List.mem_append_left _ (List.mem_append_right _ h))) (by decide +kernel))
set_option maxRecDepth 20000 in
theorem gX4_fewestMoves_X4_appointmentOrThrow : GoodIn wsX4_fewestMoves (wsV RX4 94 RX4 yX4_appointmentOrThrow wsX4_appointmentOrThrow) := goodIn_app (goodIn_of _ (by decide +kernel)) ggX4_fewestMoves_X4_appointmentOrThrow
set_option maxRecDepth 20000 in
theorem ggX4_fewestMoves_X4_homeOrThrow : GoodIn wsX4_fewestMoves wsX4_homeOrThrow := goodIn_ca (goodIn_r _ [15, 16, 17, 18, 80, 81, 82, 83, 84, 85, 86, 87, 88, 89] (by decide +kernel) (by decide +kernel)) (goodIn_sub (fun _ h => List.mem_cons_of_mem _ (List.mem_append_right _ h)) (by decide +kernel))
set_option maxRecDepth 20000 in
theorem gX4_fewestMoves_X4_homeOrThrow : GoodIn wsX4_fewestMoves (va_wsS RX4 202 yX4_homeOrThrow wsX4_homeOrThrow) := goodIn_app (goodIn_of _ (by decide +kernel)) ggX4_fewestMoves_X4_homeOrThrow
set_option maxRecDepth 20000 in
theorem ggX4_fewestMoves_X4_isReachedWithin : GoodIn wsX4_fewestMoves wsX4_isReachedWithin := goodIn_r _ [21, 22, 23, 24, 25, 26, 27, 28, 29, 30, 31, 32, 33, 34, 35, 36, 37, 38, 39, 40, 41, 42, 43, 44, 45, 46, 47, 48, 49, 50, 51, 52, 53, 54, 55, 56, 57, 58, 59, 60, 61, 62, 63, 64, 65, 66, 19, 20, 7, 90, 91, 92, 93, 94, 95, 96, 80, 81, 82, 83, 84, 85, 86, 87, 88, 89] (by decide +kernel) (by decide +kernel)
set_option maxRecDepth 20000 in
theorem gX4_fewestMoves_X4_isReachedWithin : GoodIn wsX4_fewestMoves (va_wsS RX4 213 yX4_isReachedWithin wsX4_isReachedWithin) := goodIn_app (goodIn_of _ (by decide +kernel)) ggX4_fewestMoves_X4_isReachedWithin
theorem dX4_fewestMoves_0 : decode cX4_fewestMoves 0 = .ok (.aload_n 0, 1) := by decide +kernel
theorem dX4_fewestMoves_1 : decode cX4_fewestMoves 1 = .ok (.iload_n 1, 1) := by decide +kernel
theorem dX4_fewestMoves_2 : decode cX4_fewestMoves 2 = .ok (.invokevirtual 94, 3) := by decide +kernel
theorem dX4_fewestMoves_5 : decode cX4_fewestMoves 5 = .ok (.astore_n 2, 1) := by decide +kernel
theorem dX4_fewestMoves_6 : decode cX4_fewestMoves 6 = .ok (.aload_n 2, 1) := by decide +kernel
theorem dX4_fewestMoves_7 : decode cX4_fewestMoves 7 = .ok (.invokestatic 202, 3) := by decide +kernel
theorem dX4_fewestMoves_10 : decode cX4_fewestMoves 10 = .ok (.astore_n 3, 1) := by decide +kernel
theorem dX4_fewestMoves_11 : decode cX4_fewestMoves 11 = .ok (.iconst 0, 1) := by decide +kernel
theorem dX4_fewestMoves_12 : decode cX4_fewestMoves 12 = .ok (.istore 4, 2) := by decide +kernel
theorem dX4_fewestMoves_14 : decode cX4_fewestMoves 14 = .ok (.iload 4, 2) := by decide +kernel
theorem dX4_fewestMoves_16 : decode cX4_fewestMoves 16 = .ok (.iconst 4, 1) := by decide +kernel
theorem dX4_fewestMoves_17 : decode cX4_fewestMoves 17 = .ok (.if_icmp .gt 23, 3) := by decide +kernel
theorem dX4_fewestMoves_20 : decode cX4_fewestMoves 20 = .ok (.aload_n 0, 1) := by decide +kernel
theorem dX4_fewestMoves_21 : decode cX4_fewestMoves 21 = .ok (.getfield 10, 3) := by decide +kernel
theorem dX4_fewestMoves_24 : decode cX4_fewestMoves 24 = .ok (.aload_n 3, 1) := by decide +kernel
theorem dX4_fewestMoves_25 : decode cX4_fewestMoves 25 = .ok (.aload_n 2, 1) := by decide +kernel
theorem dX4_fewestMoves_26 : decode cX4_fewestMoves 26 = .ok (.iload 4, 2) := by decide +kernel
theorem dX4_fewestMoves_28 : decode cX4_fewestMoves 28 = .ok (.invokestatic 213, 3) := by decide +kernel
theorem dX4_fewestMoves_31 : decode cX4_fewestMoves 31 = .ok (.ifCond .ne 9, 3) := by decide +kernel
theorem dX4_fewestMoves_34 : decode cX4_fewestMoves 34 = .ok (.iinc 4 1, 3) := by decide +kernel
theorem dX4_fewestMoves_37 : decode cX4_fewestMoves 37 = .ok (.goto (-23), 3) := by decide +kernel
theorem dX4_fewestMoves_40 : decode cX4_fewestMoves 40 = .ok (.iload 4, 2) := by decide +kernel
theorem dX4_fewestMoves_42 : decode cX4_fewestMoves 42 = .ok (.iconst 4, 1) := by decide +kernel
theorem dX4_fewestMoves_43 : decode cX4_fewestMoves 43 = .ok (.if_icmp .le 13, 3) := by decide +kernel
theorem dX4_fewestMoves_46 : decode cX4_fewestMoves 46 = .ok (.new 120, 3) := by decide +kernel
theorem dX4_fewestMoves_49 : decode cX4_fewestMoves 49 = .ok (.dup, 1) := by decide +kernel
theorem dX4_fewestMoves_50 : decode cX4_fewestMoves 50 = .ok (.ldc 217, 2) := by decide +kernel
theorem dX4_fewestMoves_52 : decode cX4_fewestMoves 52 = .ok (.invokespecial 124, 3) := by decide +kernel
theorem dX4_fewestMoves_55 : decode cX4_fewestMoves 55 = .ok (.athrow, 1) := by decide +kernel
theorem dX4_fewestMoves_56 : decode cX4_fewestMoves 56 = .ok (.iload 4, 2) := by decide +kernel
theorem dX4_fewestMoves_58 : decode cX4_fewestMoves 58 = .ok (.ireturn, 1) := by decide +kernel
set_option maxRecDepth 20000 in
theorem ggX4_fewestByOrders_X4_appointmentOrThrow : GoodIn wsX4_fewestByOrders wsX4_appointmentOrThrow := goodIn_ca (goodIn_r _ [8, 9, 10, 11, 12, 71, 72, 73, 74, 75, 76, 77, 78, 79, 80, 81, 82, 83] (by decide +kernel) (by decide +kernel)) (goodIn_sub (fun _ h => List.mem_cons_of_mem _ (List.mem_append_left _ (List.mem_append_right _ h))) (by decide +kernel))
set_option maxRecDepth 20000 in
theorem gX4_fewestByOrders_X4_appointmentOrThrow : GoodIn wsX4_fewestByOrders (wsV RX4 94 RX4 yX4_appointmentOrThrow wsX4_appointmentOrThrow) := goodIn_app (goodIn_of _ (by decide +kernel)) ggX4_fewestByOrders_X4_appointmentOrThrow
set_option maxRecDepth 20000 in
theorem ggX4_fewestByOrders_X4_homeOrThrow : GoodIn wsX4_fewestByOrders wsX4_homeOrThrow := goodIn_ca (goodIn_r _ [15, 16, 17, 18, 84, 85, 86, 87, 88, 89, 90, 91, 92, 93] (by decide +kernel) (by decide +kernel)) (goodIn_sub (fun _ h => List.mem_cons_of_mem _ (List.mem_append_right _ h)) (by decide +kernel))
set_option maxRecDepth 20000 in
theorem gX4_fewestByOrders_X4_homeOrThrow : GoodIn wsX4_fewestByOrders (va_wsS RX4 202 yX4_homeOrThrow wsX4_homeOrThrow) := goodIn_app (goodIn_of _ (by decide +kernel)) ggX4_fewestByOrders_X4_homeOrThrow
set_option maxRecDepth 20000 in
theorem ggX4_fewestByOrders_X4_bestOfOrders : GoodIn wsX4_fewestByOrders wsX4_bestOfOrders := goodIn_r _ [21, 22, 23, 24, 25, 26, 27, 28, 29, 30, 31, 32, 33, 34, 35, 36, 37, 38, 39, 40, 41, 42, 43, 44, 45, 46, 47, 48, 49, 50, 51, 52, 53, 54, 55, 56, 57, 58, 59, 60, 61, 62, 63, 64, 65, 66, 67, 68, 69, 70, 19, 20, 7, 94, 95, 96, 97, 98, 99, 100, 84, 85, 86, 87, 88, 89, 90, 91, 92, 93] (by decide +kernel) (by decide +kernel)
set_option maxRecDepth 20000 in
theorem gX4_fewestByOrders_X4_bestOfOrders : GoodIn wsX4_fewestByOrders (va_wsS RX4 219 yX4_bestOfOrders wsX4_bestOfOrders) := goodIn_app (goodIn_of _ (by decide +kernel)) ggX4_fewestByOrders_X4_bestOfOrders
theorem dX4_fewestByOrders_0 : decode cX4_fewestByOrders 0 = .ok (.aload_n 0, 1) := by decide +kernel
theorem dX4_fewestByOrders_1 : decode cX4_fewestByOrders 1 = .ok (.iload_n 1, 1) := by decide +kernel
theorem dX4_fewestByOrders_2 : decode cX4_fewestByOrders 2 = .ok (.invokevirtual 94, 3) := by decide +kernel
theorem dX4_fewestByOrders_5 : decode cX4_fewestByOrders 5 = .ok (.astore_n 2, 1) := by decide +kernel
theorem dX4_fewestByOrders_6 : decode cX4_fewestByOrders 6 = .ok (.aload_n 2, 1) := by decide +kernel
theorem dX4_fewestByOrders_7 : decode cX4_fewestByOrders 7 = .ok (.invokestatic 202, 3) := by decide +kernel
theorem dX4_fewestByOrders_10 : decode cX4_fewestByOrders 10 = .ok (.astore_n 3, 1) := by decide +kernel
theorem dX4_fewestByOrders_11 : decode cX4_fewestByOrders 11 = .ok (.aload_n 0, 1) := by decide +kernel
theorem dX4_fewestByOrders_12 : decode cX4_fewestByOrders 12 = .ok (.getfield 10, 3) := by decide +kernel
theorem dX4_fewestByOrders_15 : decode cX4_fewestByOrders 15 = .ok (.aload_n 3, 1) := by decide +kernel
theorem dX4_fewestByOrders_16 : decode cX4_fewestByOrders 16 = .ok (.aload_n 2, 1) := by decide +kernel
theorem dX4_fewestByOrders_17 : decode cX4_fewestByOrders 17 = .ok (.iconst 0, 1) := by decide +kernel
theorem dX4_fewestByOrders_18 : decode cX4_fewestByOrders 18 = .ok (.iconst 5, 1) := by decide +kernel
theorem dX4_fewestByOrders_19 : decode cX4_fewestByOrders 19 = .ok (.invokestatic 219, 3) := by decide +kernel
theorem dX4_fewestByOrders_22 : decode cX4_fewestByOrders 22 = .ok (.istore 4, 2) := by decide +kernel
theorem dX4_fewestByOrders_24 : decode cX4_fewestByOrders 24 = .ok (.iload 4, 2) := by decide +kernel
theorem dX4_fewestByOrders_26 : decode cX4_fewestByOrders 26 = .ok (.iconst 4, 1) := by decide +kernel
theorem dX4_fewestByOrders_27 : decode cX4_fewestByOrders 27 = .ok (.if_icmp .le 13, 3) := by decide +kernel
theorem dX4_fewestByOrders_30 : decode cX4_fewestByOrders 30 = .ok (.new 120, 3) := by decide +kernel
theorem dX4_fewestByOrders_33 : decode cX4_fewestByOrders 33 = .ok (.dup, 1) := by decide +kernel
theorem dX4_fewestByOrders_34 : decode cX4_fewestByOrders 34 = .ok (.ldc 217, 2) := by decide +kernel
theorem dX4_fewestByOrders_36 : decode cX4_fewestByOrders 36 = .ok (.invokespecial 124, 3) := by decide +kernel
theorem dX4_fewestByOrders_39 : decode cX4_fewestByOrders 39 = .ok (.athrow, 1) := by decide +kernel
theorem dX4_fewestByOrders_40 : decode cX4_fewestByOrders 40 = .ok (.iload 4, 2) := by decide +kernel
theorem dX4_fewestByOrders_42 : decode cX4_fewestByOrders 42 = .ok (.ireturn, 1) := by decide +kernel
set_option maxRecDepth 20000 in
theorem ggX4_pass_X4_isOutside : GoodIn wsX4_pass wsX4_isOutside := goodIn_r _ [11] (by decide +kernel) (by decide +kernel)
set_option maxRecDepth 20000 in
theorem gX4_pass_X4_isOutside : GoodIn wsX4_pass (va_wsS RX4 44 yX4_isOutside wsX4_isOutside) := goodIn_app (goodIn_of _ (by decide +kernel)) ggX4_pass_X4_isOutside
theorem dX4_pass_0 : decode cX4_pass 0 = .ok (.iload_n 1, 1) := by decide +kernel
theorem dX4_pass_1 : decode cX4_pass 1 = .ok (.iconst 1, 1) := by decide +kernel
theorem dX4_pass_2 : decode cX4_pass 2 = .ok (.bipush 99, 2) := by decide +kernel
theorem dX4_pass_4 : decode cX4_pass 4 = .ok (.invokestatic 44, 3) := by decide +kernel
theorem dX4_pass_7 : decode cX4_pass 7 = .ok (.ifCond .eq 13, 3) := by decide +kernel
theorem dX4_pass_10 : decode cX4_pass 10 = .ok (.new 48, 3) := by decide +kernel
theorem dX4_pass_13 : decode cX4_pass 13 = .ok (.dup, 1) := by decide +kernel
theorem dX4_pass_14 : decode cX4_pass 14 = .ok (.ldc 223, 2) := by decide +kernel
theorem dX4_pass_16 : decode cX4_pass 16 = .ok (.invokespecial 52, 3) := by decide +kernel
theorem dX4_pass_19 : decode cX4_pass 19 = .ok (.athrow, 1) := by decide +kernel
theorem dX4_pass_20 : decode cX4_pass 20 = .ok (.aload_n 0, 1) := by decide +kernel
theorem dX4_pass_21 : decode cX4_pass 21 = .ok (.dup, 1) := by decide +kernel
theorem dX4_pass_22 : decode cX4_pass 22 = .ok (.getfield 81, 3) := by decide +kernel
theorem dX4_pass_25 : decode cX4_pass 25 = .ok (.iload_n 1, 1) := by decide +kernel
theorem dX4_pass_26 : decode cX4_pass 26 = .ok (.iadd, 1) := by decide +kernel
theorem dX4_pass_27 : decode cX4_pass 27 = .ok (.putfield 81, 3) := by decide +kernel
theorem dX4_pass_30 : decode cX4_pass 30 = .ok (.iconst 0, 1) := by decide +kernel
theorem dX4_pass_31 : decode cX4_pass 31 = .ok (.istore_n 2, 1) := by decide +kernel
theorem dX4_pass_32 : decode cX4_pass 32 = .ok (.iconst 0, 1) := by decide +kernel
theorem dX4_pass_33 : decode cX4_pass 33 = .ok (.istore_n 3, 1) := by decide +kernel
theorem dX4_pass_34 : decode cX4_pass 34 = .ok (.iload_n 3, 1) := by decide +kernel
theorem dX4_pass_35 : decode cX4_pass 35 = .ok (.aload_n 0, 1) := by decide +kernel
theorem dX4_pass_36 : decode cX4_pass 36 = .ok (.getfield 86, 3) := by decide +kernel
theorem dX4_pass_39 : decode cX4_pass 39 = .ok (.if_icmp .ge 66, 3) := by decide +kernel
theorem dX4_pass_42 : decode cX4_pass 42 = .ok (.iload_n 3, 1) := by decide +kernel
theorem dX4_pass_43 : decode cX4_pass 43 = .ok (.aload_n 0, 1) := by decide +kernel
theorem dX4_pass_44 : decode cX4_pass 44 = .ok (.getfield 24, 3) := by decide +kernel
theorem dX4_pass_47 : decode cX4_pass 47 = .ok (.arraylength, 1) := by decide +kernel
theorem dX4_pass_48 : decode cX4_pass 48 = .ok (.if_icmp .ge 57, 3) := by decide +kernel
theorem dX4_pass_51 : decode cX4_pass 51 = .ok (.aload_n 0, 1) := by decide +kernel
theorem dX4_pass_52 : decode cX4_pass 52 = .ok (.getfield 24, 3) := by decide +kernel
theorem dX4_pass_55 : decode cX4_pass 55 = .ok (.iload_n 3, 1) := by decide +kernel
theorem dX4_pass_56 : decode cX4_pass 56 = .ok (.aaload, 1) := by decide +kernel
theorem dX4_pass_57 : decode cX4_pass 57 = .ok (.astore 4, 2) := by decide +kernel
theorem dX4_pass_59 : decode cX4_pass 59 = .ok (.aload 4, 2) := by decide +kernel
theorem dX4_pass_61 : decode cX4_pass 61 = .ok (.ifnull 38, 3) := by decide +kernel
theorem dX4_pass_64 : decode cX4_pass 64 = .ok (.aload 4, 2) := by decide +kernel
theorem dX4_pass_66 : decode cX4_pass 66 = .ok (.getfield 102, 3) := by decide +kernel
theorem dX4_pass_69 : decode cX4_pass 69 = .ok (.bipush 98, 2) := by decide +kernel
theorem dX4_pass_71 : decode cX4_pass 71 = .ok (.if_icmp .ne 28, 3) := by decide +kernel
theorem dX4_pass_74 : decode cX4_pass 74 = .ok (.aload_n 0, 1) := by decide +kernel
theorem dX4_pass_75 : decode cX4_pass 75 = .ok (.getfield 81, 3) := by decide +kernel
theorem dX4_pass_78 : decode cX4_pass 78 = .ok (.aload 4, 2) := by decide +kernel
theorem dX4_pass_80 : decode cX4_pass 80 = .ok (.getfield 139, 3) := by decide +kernel
theorem dX4_pass_83 : decode cX4_pass 83 = .ok (.isub, 1) := by decide +kernel
theorem dX4_pass_84 : decode cX4_pass 84 = .ok (.bipush 24, 2) := by decide +kernel
theorem dX4_pass_86 : decode cX4_pass 86 = .ok (.if_icmp .le 13, 3) := by decide +kernel
theorem dX4_pass_89 : decode cX4_pass 89 = .ok (.aload 4, 2) := by decide +kernel
theorem dX4_pass_91 : decode cX4_pass 91 = .ok (.bipush 110, 2) := by decide +kernel
theorem dX4_pass_93 : decode cX4_pass 93 = .ok (.putfield 102, 3) := by decide +kernel
theorem dX4_pass_96 : decode cX4_pass 96 = .ok (.iinc 2 1, 3) := by decide +kernel
theorem dX4_pass_99 : decode cX4_pass 99 = .ok (.iinc 3 1, 3) := by decide +kernel
theorem dX4_pass_102 : decode cX4_pass 102 = .ok (.goto (-68), 3) := by decide +kernel
theorem dX4_pass_105 : decode cX4_pass 105 = .ok (.iload_n 2, 1) := by decide +kernel
theorem dX4_pass_106 : decode cX4_pass 106 = .ok (.ireturn, 1) := by decide +kernel
theorem dX4_time_0 : decode cX4_time 0 = .ok (.aload_n 0, 1) := by decide +kernel
theorem dX4_time_1 : decode cX4_time 1 = .ok (.getfield 81, 3) := by decide +kernel
theorem dX4_time_4 : decode cX4_time 4 = .ok (.ireturn, 1) := by decide +kernel
set_option maxRecDepth 20000 in
theorem ggX4_waited_X4_arrivedOrThrow : GoodIn wsX4_waited wsX4_arrivedOrThrow := goodIn_ca (goodIn_ca (goodIn_r _ [5, 6, 7, 8, 9, 10, 4, 11, 12, 13, 14, 15, 16, 17, 18, 19, 20, 21, 35, 36, 37, 38, 39, 40, 41, 42, 43, 44, 45, 46, 47, 48, 49, 50, 51, 52, 53, 54, 55, 56, 57] (by decide +kernel) (by decide +kernel)) (goodIn_sub (fun _ h => List.mem_cons_of_mem _ (List.mem_append_left _ (List.mem_append_right _ h))) (by decide +kernel))) (goodIn_sub (fun _ h => List.mem_cons_of_mem _ (List.mem_append_right _ h)) (by decide +kernel))
set_option maxRecDepth 20000 in
theorem gX4_waited_X4_arrivedOrThrow : GoodIn wsX4_waited (wsV RX4 136 RX4 yX4_arrivedOrThrow wsX4_arrivedOrThrow) := goodIn_app (goodIn_of _ (by decide +kernel)) ggX4_waited_X4_arrivedOrThrow
set_option maxRecDepth 20000 in
theorem ggX4_waited_X4_waitingHours : GoodIn wsX4_waited wsX4_waitingHours := goodIn_r _ [25, 26, 27, 28, 29, 30, 31, 32, 33, 34, 48, 49, 50, 51, 52, 53, 54, 55, 56, 57, 35, 36, 37, 38, 39, 40, 41, 42, 43, 44, 45, 46, 47] (by decide +kernel) (by decide +kernel)
set_option maxRecDepth 20000 in
theorem gX4_waited_X4_waitingHours : GoodIn wsX4_waited (wsV RX4 225 RX4 yX4_waitingHours wsX4_waitingHours) := goodIn_app (goodIn_of _ (by decide +kernel)) ggX4_waited_X4_waitingHours
theorem dX4_waited_0 : decode cX4_waited 0 = .ok (.aload_n 0, 1) := by decide +kernel
theorem dX4_waited_1 : decode cX4_waited 1 = .ok (.aload_n 0, 1) := by decide +kernel
theorem dX4_waited_2 : decode cX4_waited 2 = .ok (.iload_n 1, 1) := by decide +kernel
theorem dX4_waited_3 : decode cX4_waited 3 = .ok (.invokevirtual 136, 3) := by decide +kernel
theorem dX4_waited_6 : decode cX4_waited 6 = .ok (.invokevirtual 225, 3) := by decide +kernel
theorem dX4_waited_9 : decode cX4_waited 9 = .ok (.ireturn, 1) := by decide +kernel
set_option maxRecDepth 20000 in
theorem ggX4_charge_X4_arrivedOrThrow : GoodIn wsX4_charge wsX4_arrivedOrThrow := goodIn_ca (goodIn_ca (goodIn_r _ [5, 6, 7, 8, 9, 10, 4, 11, 12, 13, 14, 15, 16, 17, 18, 19, 20, 21, 51, 52, 53, 54, 55, 56, 57, 58, 59, 60, 61, 62, 63, 64, 65, 66, 67, 68, 69, 70, 71, 72, 73] (by decide +kernel) (by decide +kernel)) (goodIn_sub (fun _ h => List.mem_cons_of_mem _ (List.mem_append_left _ (List.mem_append_right _ h))) (by decide +kernel))) (goodIn_sub (fun _ h => List.mem_cons_of_mem _ (List.mem_append_right _ h)) (by decide +kernel))
set_option maxRecDepth 20000 in
theorem gX4_charge_X4_arrivedOrThrow : GoodIn wsX4_charge (wsV RX4 136 RX4 yX4_arrivedOrThrow wsX4_arrivedOrThrow) := goodIn_app (goodIn_of _ (by decide +kernel)) ggX4_charge_X4_arrivedOrThrow
set_option maxRecDepth 20000 in
theorem ggX4_charge_X4_chargeInSteps : GoodIn wsX4_charge wsX4_chargeInSteps := goodIn_r _ [25, 26, 27, 28, 29, 30, 31, 32, 33, 34, 35, 36, 37, 38, 39, 4, 40, 41, 42, 43, 44, 45, 46, 47, 48, 49, 50, 51, 52, 53, 54, 55, 56, 57, 58, 59, 60, 61, 62, 63, 64, 65, 66, 67, 68, 69, 70, 71, 72, 73] (by decide +kernel) (by decide +kernel)
set_option maxRecDepth 20000 in
theorem gX4_charge_X4_chargeInSteps : GoodIn wsX4_charge (wsV RX4 194 RX4 yX4_chargeInSteps wsX4_chargeInSteps) := goodIn_app (goodIn_of _ (by decide +kernel)) ggX4_charge_X4_chargeInSteps
theorem dX4_charge_0 : decode cX4_charge 0 = .ok (.aload_n 0, 1) := by decide +kernel
theorem dX4_charge_1 : decode cX4_charge 1 = .ok (.aload_n 0, 1) := by decide +kernel
theorem dX4_charge_2 : decode cX4_charge 2 = .ok (.iload_n 1, 1) := by decide +kernel
theorem dX4_charge_3 : decode cX4_charge 3 = .ok (.invokevirtual 136, 3) := by decide +kernel
theorem dX4_charge_6 : decode cX4_charge 6 = .ok (.invokevirtual 194, 3) := by decide +kernel
theorem dX4_charge_9 : decode cX4_charge 9 = .ok (.ireturn, 1) := by decide +kernel
set_option maxRecDepth 20000 in
theorem ggX4_chargeByHours_X4_arrivedOrThrow : GoodIn wsX4_chargeByHours wsX4_arrivedOrThrow := goodIn_ca (goodIn_ca (goodIn_r _ [5, 6, 7, 8, 9, 10, 4, 11, 12, 13, 14, 15, 16, 17, 18, 19, 20, 21, 48, 49, 50, 51, 52, 53, 54, 55, 56, 57, 58, 59, 60, 61, 62, 63, 64, 65, 66, 67, 68, 69, 70] (by decide +kernel) (by decide +kernel)) (goodIn_sub (fun _ h => List.mem_cons_of_mem _ (List.mem_append_left _ (List.mem_append_right _ h))) (by decide +kernel))) (goodIn_sub (fun _ h => List.mem_cons_of_mem _ (List.mem_append_right _ h)) (by decide +kernel))
set_option maxRecDepth 20000 in
theorem gX4_chargeByHours_X4_arrivedOrThrow : GoodIn wsX4_chargeByHours (wsV RX4 136 RX4 yX4_arrivedOrThrow wsX4_arrivedOrThrow) := goodIn_app (goodIn_of _ (by decide +kernel)) ggX4_chargeByHours_X4_arrivedOrThrow
set_option maxRecDepth 20000 in
theorem ggX4_chargeByHours_X4_punctualityOf : GoodIn wsX4_chargeByHours wsX4_punctualityOf := goodIn_r _ [25, 26, 27, 28, 61, 62, 63, 64, 65, 66, 67, 68, 69, 70, 48, 49, 50, 51, 52, 53, 54, 55, 56, 57, 58, 59, 60] (by decide +kernel) (by decide +kernel)
set_option maxRecDepth 20000 in
theorem gX4_chargeByHours_X4_punctualityOf : GoodIn wsX4_chargeByHours (wsV RX4 132 RX4 yX4_punctualityOf wsX4_punctualityOf) := goodIn_app (goodIn_of _ (by decide +kernel)) ggX4_chargeByHours_X4_punctualityOf
set_option maxRecDepth 20000 in
theorem ggX4_chargeByHours_X4_waitingHours : GoodIn wsX4_chargeByHours wsX4_waitingHours := goodIn_r _ [32, 26, 27, 33, 34, 35, 36, 37, 38, 39, 61, 62, 63, 64, 65, 66, 67, 68, 69, 70, 48, 49, 50, 51, 52, 53, 54, 55, 56, 57, 58, 59, 60] (by decide +kernel) (by decide +kernel)
set_option maxRecDepth 20000 in
theorem gX4_chargeByHours_X4_waitingHours : GoodIn wsX4_chargeByHours (wsV RX4 225 RX4 yX4_waitingHours wsX4_waitingHours) := goodIn_app (goodIn_of _ (by decide +kernel)) ggX4_chargeByHours_X4_waitingHours
set_option maxRecDepth 20000 in
theorem ggX4_chargeByHours_X4_rateOfHour : GoodIn wsX4_chargeByHours wsX4_rateOfHour := goodIn_r _ [43, 44, 45, 46, 47, 48, 49, 50, 51, 52, 53, 54, 55, 56, 57, 58, 59, 60] (by decide +kernel) (by decide +kernel)
set_option maxRecDepth 20000 in
theorem gX4_chargeByHours_X4_rateOfHour : GoodIn wsX4_chargeByHours (wsV RX4 228 RX4 yX4_rateOfHour wsX4_rateOfHour) := goodIn_app (goodIn_of _ (by decide +kernel)) ggX4_chargeByHours_X4_rateOfHour
theorem dX4_chargeByHours_0 : decode cX4_chargeByHours 0 = .ok (.aload_n 0, 1) := by decide +kernel
theorem dX4_chargeByHours_1 : decode cX4_chargeByHours 1 = .ok (.iload_n 1, 1) := by decide +kernel
theorem dX4_chargeByHours_2 : decode cX4_chargeByHours 2 = .ok (.invokevirtual 136, 3) := by decide +kernel
theorem dX4_chargeByHours_5 : decode cX4_chargeByHours 5 = .ok (.astore_n 2, 1) := by decide +kernel
theorem dX4_chargeByHours_6 : decode cX4_chargeByHours 6 = .ok (.aload_n 0, 1) := by decide +kernel
theorem dX4_chargeByHours_7 : decode cX4_chargeByHours 7 = .ok (.aload_n 2, 1) := by decide +kernel
theorem dX4_chargeByHours_8 : decode cX4_chargeByHours 8 = .ok (.invokevirtual 132, 3) := by decide +kernel
theorem dX4_chargeByHours_11 : decode cX4_chargeByHours 11 = .ok (.bipush 108, 2) := by decide +kernel
theorem dX4_chargeByHours_13 : decode cX4_chargeByHours 13 = .ok (.if_icmp .ne 5, 3) := by decide +kernel
theorem dX4_chargeByHours_16 : decode cX4_chargeByHours 16 = .ok (.iconst 0, 1) := by decide +kernel
theorem dX4_chargeByHours_17 : decode cX4_chargeByHours 17 = .ok (.ireturn, 1) := by decide +kernel
theorem dX4_chargeByHours_18 : decode cX4_chargeByHours 18 = .ok (.aload_n 0, 1) := by decide +kernel
theorem dX4_chargeByHours_19 : decode cX4_chargeByHours 19 = .ok (.aload_n 2, 1) := by decide +kernel
theorem dX4_chargeByHours_20 : decode cX4_chargeByHours 20 = .ok (.invokevirtual 225, 3) := by decide +kernel
theorem dX4_chargeByHours_23 : decode cX4_chargeByHours 23 = .ok (.istore_n 3, 1) := by decide +kernel
theorem dX4_chargeByHours_24 : decode cX4_chargeByHours 24 = .ok (.iconst 0, 1) := by decide +kernel
theorem dX4_chargeByHours_25 : decode cX4_chargeByHours 25 = .ok (.istore 4, 2) := by decide +kernel
theorem dX4_chargeByHours_27 : decode cX4_chargeByHours 27 = .ok (.iconst 0, 1) := by decide +kernel
theorem dX4_chargeByHours_28 : decode cX4_chargeByHours 28 = .ok (.istore 5, 2) := by decide +kernel
theorem dX4_chargeByHours_30 : decode cX4_chargeByHours 30 = .ok (.iload 5, 2) := by decide +kernel
theorem dX4_chargeByHours_32 : decode cX4_chargeByHours 32 = .ok (.iload_n 3, 1) := by decide +kernel
theorem dX4_chargeByHours_33 : decode cX4_chargeByHours 33 = .ok (.if_icmp .ge 20, 3) := by decide +kernel
theorem dX4_chargeByHours_36 : decode cX4_chargeByHours 36 = .ok (.iload 4, 2) := by decide +kernel
theorem dX4_chargeByHours_38 : decode cX4_chargeByHours 38 = .ok (.aload_n 0, 1) := by decide +kernel
theorem dX4_chargeByHours_39 : decode cX4_chargeByHours 39 = .ok (.iload 5, 2) := by decide +kernel
theorem dX4_chargeByHours_41 : decode cX4_chargeByHours 41 = .ok (.invokevirtual 228, 3) := by decide +kernel
theorem dX4_chargeByHours_44 : decode cX4_chargeByHours 44 = .ok (.iadd, 1) := by decide +kernel
theorem dX4_chargeByHours_45 : decode cX4_chargeByHours 45 = .ok (.istore 4, 2) := by decide +kernel
theorem dX4_chargeByHours_47 : decode cX4_chargeByHours 47 = .ok (.iinc 5 1, 3) := by decide +kernel
theorem dX4_chargeByHours_50 : decode cX4_chargeByHours 50 = .ok (.goto (-20), 3) := by decide +kernel
theorem dX4_chargeByHours_53 : decode cX4_chargeByHours 53 = .ok (.iload 4, 2) := by decide +kernel
theorem dX4_chargeByHours_55 : decode cX4_chargeByHours 55 = .ok (.ireturn, 1) := by decide +kernel
theorem dX4_moves_0 : decode cX4_moves 0 = .ok (.aload_n 0, 1) := by decide +kernel
theorem dX4_moves_1 : decode cX4_moves 1 = .ok (.getfield 161, 3) := by decide +kernel
theorem dX4_moves_4 : decode cX4_moves 4 = .ok (.ireturn, 1) := by decide +kernel
theorem dX4_charged_0 : decode cX4_charged 0 = .ok (.aload_n 0, 1) := by decide +kernel
theorem dX4_charged_1 : decode cX4_charged 1 = .ok (.getfield 198, 3) := by decide +kernel
theorem dX4_charged_4 : decode cX4_charged 4 = .ok (.lreturn, 1) := by decide +kernel
set_option maxRecDepth 20000 in
theorem ggX4_usedShare_X4_doorAt : GoodIn wsX4_usedShare wsX4_doorAt := goodIn_r _ [9, 3, 10, 11, 12, 13, 14, 15, 16, 17, 18, 19, 20, 21, 22, 23] (by decide +kernel) (by decide +kernel)
set_option maxRecDepth 20000 in
theorem gX4_usedShare_X4_doorAt : GoodIn wsX4_usedShare (wsV RX4 164 RX4 yX4_doorAt wsX4_doorAt) := goodIn_app (goodIn_of _ (by decide +kernel)) ggX4_usedShare_X4_doorAt
theorem dX4_usedShare_0 : decode cX4_usedShare 0 = .ok (.aload_n 0, 1) := by decide +kernel
theorem dX4_usedShare_1 : decode cX4_usedShare 1 = .ok (.getfield 69, 3) := by decide +kernel
theorem dX4_usedShare_4 : decode cX4_usedShare 4 = .ok (.ifCond .gt 13, 3) := by decide +kernel
theorem dX4_usedShare_7 : decode cX4_usedShare 7 = .ok (.new 232, 3) := by decide +kernel
theorem dX4_usedShare_10 : decode cX4_usedShare 10 = .ok (.dup, 1) := by decide +kernel
theorem dX4_usedShare_11 : decode cX4_usedShare 11 = .ok (.ldc 234, 2) := by decide +kernel
theorem dX4_usedShare_13 : decode cX4_usedShare 13 = .ok (.invokespecial 236, 3) := by decide +kernel
theorem dX4_usedShare_16 : decode cX4_usedShare 16 = .ok (.athrow, 1) := by decide +kernel
theorem dX4_usedShare_17 : decode cX4_usedShare 17 = .ok (.iconst 0, 1) := by decide +kernel
theorem dX4_usedShare_18 : decode cX4_usedShare 18 = .ok (.istore_n 1, 1) := by decide +kernel
theorem dX4_usedShare_19 : decode cX4_usedShare 19 = .ok (.iconst 0, 1) := by decide +kernel
theorem dX4_usedShare_20 : decode cX4_usedShare 20 = .ok (.istore_n 2, 1) := by decide +kernel
theorem dX4_usedShare_21 : decode cX4_usedShare 21 = .ok (.iload_n 2, 1) := by decide +kernel
theorem dX4_usedShare_22 : decode cX4_usedShare 22 = .ok (.aload_n 0, 1) := by decide +kernel
theorem dX4_usedShare_23 : decode cX4_usedShare 23 = .ok (.getfield 69, 3) := by decide +kernel
theorem dX4_usedShare_26 : decode cX4_usedShare 26 = .ok (.if_icmp .ge 29, 3) := by decide +kernel
theorem dX4_usedShare_29 : decode cX4_usedShare 29 = .ok (.aload_n 0, 1) := by decide +kernel
theorem dX4_usedShare_30 : decode cX4_usedShare 30 = .ok (.iload_n 2, 1) := by decide +kernel
theorem dX4_usedShare_31 : decode cX4_usedShare 31 = .ok (.invokevirtual 164, 3) := by decide +kernel
theorem dX4_usedShare_34 : decode cX4_usedShare 34 = .ok (.astore_n 3, 1) := by decide +kernel
theorem dX4_usedShare_35 : decode cX4_usedShare 35 = .ok (.aload_n 3, 1) := by decide +kernel
theorem dX4_usedShare_36 : decode cX4_usedShare 36 = .ok (.ifnull 13, 3) := by decide +kernel
theorem dX4_usedShare_39 : decode cX4_usedShare 39 = .ok (.aload_n 3, 1) := by decide +kernel
theorem dX4_usedShare_40 : decode cX4_usedShare 40 = .ok (.getfield 176, 3) := by decide +kernel
theorem dX4_usedShare_43 : decode cX4_usedShare 43 = .ok (.ifCond .eq 6, 3) := by decide +kernel
theorem dX4_usedShare_46 : decode cX4_usedShare 46 = .ok (.iinc 1 1, 3) := by decide +kernel
theorem dX4_usedShare_49 : decode cX4_usedShare 49 = .ok (.iinc 2 1, 3) := by decide +kernel
theorem dX4_usedShare_52 : decode cX4_usedShare 52 = .ok (.goto (-31), 3) := by decide +kernel
theorem dX4_usedShare_55 : decode cX4_usedShare 55 = .ok (.iload_n 1, 1) := by decide +kernel
theorem dX4_usedShare_56 : decode cX4_usedShare 56 = .ok (.i2f, 1) := by decide +kernel
theorem dX4_usedShare_57 : decode cX4_usedShare 57 = .ok (.aload_n 0, 1) := by decide +kernel
theorem dX4_usedShare_58 : decode cX4_usedShare 58 = .ok (.getfield 69, 3) := by decide +kernel
theorem dX4_usedShare_61 : decode cX4_usedShare 61 = .ok (.i2f, 1) := by decide +kernel
theorem dX4_usedShare_62 : decode cX4_usedShare 62 = .ok (.fdiv, 1) := by decide +kernel
theorem dX4_usedShare_63 : decode cX4_usedShare 63 = .ok (.freturn, 1) := by decide +kernel
set_option maxRecDepth 20000 in
theorem ggX4_meanWaiting_X0_hasArrived : GoodIn wsX4_meanWaiting wsX0_hasArrived := goodIn_r _ [9, 10, 38, 39, 40, 41, 42, 43, 44, 45, 46, 47] (by decide +kernel) (by decide +kernel)
set_option maxRecDepth 20000 in
theorem gX4_meanWaiting_X0_hasArrived : GoodIn wsX4_meanWaiting (wsV RX4 237 RX0 yX0_hasArrived wsX0_hasArrived) := goodIn_app (goodIn_of _ (by decide +kernel)) ggX4_meanWaiting_X0_hasArrived
set_option maxRecDepth 20000 in
theorem ggX4_meanWaiting_X4_waitingHours : GoodIn wsX4_meanWaiting wsX4_waitingHours := goodIn_r _ [15, 16, 17, 18, 19, 20, 21, 22, 23, 24, 38, 39, 40, 41, 42, 43, 44, 45, 46, 47, 25, 26, 27, 28, 29, 30, 31, 32, 33, 34, 35, 36, 37] (by decide +kernel) (by decide +kernel)
set_option maxRecDepth 20000 in
theorem gX4_meanWaiting_X4_waitingHours : GoodIn wsX4_meanWaiting (wsV RX4 225 RX4 yX4_waitingHours wsX4_waitingHours) := goodIn_app (goodIn_of _ (by decide +kernel)) ggX4_meanWaiting_X4_waitingHours
theorem dX4_meanWaiting_0 : decode cX4_meanWaiting 0 = .ok (.iconst 0, 1) := by decide +kernel
theorem dX4_meanWaiting_1 : decode cX4_meanWaiting 1 = .ok (.istore_n 1, 1) := by decide +kernel
theorem dX4_meanWaiting_2 : decode cX4_meanWaiting 2 = .ok (.iconst 0, 1) := by decide +kernel
theorem dX4_meanWaiting_3 : decode cX4_meanWaiting 3 = .ok (.istore_n 2, 1) := by decide +kernel
theorem dX4_meanWaiting_4 : decode cX4_meanWaiting 4 = .ok (.iconst 0, 1) := by decide +kernel
theorem dX4_meanWaiting_5 : decode cX4_meanWaiting 5 = .ok (.istore_n 3, 1) := by decide +kernel
theorem dX4_meanWaiting_6 : decode cX4_meanWaiting 6 = .ok (.iload_n 3, 1) := by decide +kernel
theorem dX4_meanWaiting_7 : decode cX4_meanWaiting 7 = .ok (.aload_n 0, 1) := by decide +kernel
theorem dX4_meanWaiting_8 : decode cX4_meanWaiting 8 = .ok (.getfield 86, 3) := by decide +kernel
theorem dX4_meanWaiting_11 : decode cX4_meanWaiting 11 = .ok (.if_icmp .ge 51, 3) := by decide +kernel
theorem dX4_meanWaiting_14 : decode cX4_meanWaiting 14 = .ok (.iload_n 3, 1) := by decide +kernel
theorem dX4_meanWaiting_15 : decode cX4_meanWaiting 15 = .ok (.aload_n 0, 1) := by decide +kernel
theorem dX4_meanWaiting_16 : decode cX4_meanWaiting 16 = .ok (.getfield 24, 3) := by decide +kernel
theorem dX4_meanWaiting_19 : decode cX4_meanWaiting 19 = .ok (.arraylength, 1) := by decide +kernel
theorem dX4_meanWaiting_20 : decode cX4_meanWaiting 20 = .ok (.if_icmp .ge 42, 3) := by decide +kernel
theorem dX4_meanWaiting_23 : decode cX4_meanWaiting 23 = .ok (.aload_n 0, 1) := by decide +kernel
theorem dX4_meanWaiting_24 : decode cX4_meanWaiting 24 = .ok (.getfield 24, 3) := by decide +kernel
theorem dX4_meanWaiting_27 : decode cX4_meanWaiting 27 = .ok (.iload_n 3, 1) := by decide +kernel
theorem dX4_meanWaiting_28 : decode cX4_meanWaiting 28 = .ok (.aaload, 1) := by decide +kernel
theorem dX4_meanWaiting_29 : decode cX4_meanWaiting 29 = .ok (.astore 4, 2) := by decide +kernel
theorem dX4_meanWaiting_31 : decode cX4_meanWaiting 31 = .ok (.aload 4, 2) := by decide +kernel
theorem dX4_meanWaiting_33 : decode cX4_meanWaiting 33 = .ok (.ifnull 23, 3) := by decide +kernel
theorem dX4_meanWaiting_36 : decode cX4_meanWaiting 36 = .ok (.aload 4, 2) := by decide +kernel
theorem dX4_meanWaiting_38 : decode cX4_meanWaiting 38 = .ok (.invokevirtual 237, 3) := by decide +kernel
theorem dX4_meanWaiting_41 : decode cX4_meanWaiting 41 = .ok (.ifCond .eq 15, 3) := by decide +kernel
theorem dX4_meanWaiting_44 : decode cX4_meanWaiting 44 = .ok (.iload_n 1, 1) := by decide +kernel
theorem dX4_meanWaiting_45 : decode cX4_meanWaiting 45 = .ok (.aload_n 0, 1) := by decide +kernel
theorem dX4_meanWaiting_46 : decode cX4_meanWaiting 46 = .ok (.aload 4, 2) := by decide +kernel
theorem dX4_meanWaiting_48 : decode cX4_meanWaiting 48 = .ok (.invokevirtual 225, 3) := by decide +kernel
theorem dX4_meanWaiting_51 : decode cX4_meanWaiting 51 = .ok (.iadd, 1) := by decide +kernel
theorem dX4_meanWaiting_52 : decode cX4_meanWaiting 52 = .ok (.istore_n 1, 1) := by decide +kernel
theorem dX4_meanWaiting_53 : decode cX4_meanWaiting 53 = .ok (.iinc 2 1, 3) := by decide +kernel
theorem dX4_meanWaiting_56 : decode cX4_meanWaiting 56 = .ok (.iinc 3 1, 3) := by decide +kernel
theorem dX4_meanWaiting_59 : decode cX4_meanWaiting 59 = .ok (.goto (-53), 3) := by decide +kernel
theorem dX4_meanWaiting_62 : decode cX4_meanWaiting 62 = .ok (.iload_n 2, 1) := by decide +kernel
theorem dX4_meanWaiting_63 : decode cX4_meanWaiting 63 = .ok (.ifCond .gt 13, 3) := by decide +kernel
theorem dX4_meanWaiting_66 : decode cX4_meanWaiting 66 = .ok (.new 232, 3) := by decide +kernel
theorem dX4_meanWaiting_69 : decode cX4_meanWaiting 69 = .ok (.dup, 1) := by decide +kernel
theorem dX4_meanWaiting_70 : decode cX4_meanWaiting 70 = .ok (.ldc 241, 2) := by decide +kernel
theorem dX4_meanWaiting_72 : decode cX4_meanWaiting 72 = .ok (.invokespecial 236, 3) := by decide +kernel
theorem dX4_meanWaiting_75 : decode cX4_meanWaiting 75 = .ok (.athrow, 1) := by decide +kernel
theorem dX4_meanWaiting_76 : decode cX4_meanWaiting 76 = .ok (.iload_n 1, 1) := by decide +kernel
theorem dX4_meanWaiting_77 : decode cX4_meanWaiting 77 = .ok (.i2d, 1) := by decide +kernel
theorem dX4_meanWaiting_78 : decode cX4_meanWaiting 78 = .ok (.iload_n 2, 1) := by decide +kernel
theorem dX4_meanWaiting_79 : decode cX4_meanWaiting 79 = .ok (.i2d, 1) := by decide +kernel
theorem dX4_meanWaiting_80 : decode cX4_meanWaiting 80 = .ok (.ddiv, 1) := by decide +kernel
theorem dX4_meanWaiting_81 : decode cX4_meanWaiting 81 = .ok (.dreturn, 1) := by decide +kernel
theorem dX4_isOutside_0 : decode cX4_isOutside 0 = .ok (.iload_n 0, 1) := by decide +kernel
theorem dX4_isOutside_1 : decode cX4_isOutside 1 = .ok (.iload_n 1, 1) := by decide +kernel
theorem dX4_isOutside_2 : decode cX4_isOutside 2 = .ok (.if_icmp .lt 8, 3) := by decide +kernel
theorem dX4_isOutside_5 : decode cX4_isOutside 5 = .ok (.iload_n 0, 1) := by decide +kernel
theorem dX4_isOutside_6 : decode cX4_isOutside 6 = .ok (.iload_n 2, 1) := by decide +kernel
theorem dX4_isOutside_7 : decode cX4_isOutside 7 = .ok (.if_icmp .le 7, 3) := by decide +kernel
theorem dX4_isOutside_10 : decode cX4_isOutside 10 = .ok (.iconst 1, 1) := by decide +kernel
theorem dX4_isOutside_11 : decode cX4_isOutside 11 = .ok (.goto 4, 3) := by decide +kernel
theorem dX4_isOutside_14 : decode cX4_isOutside 14 = .ok (.iconst 0, 1) := by decide +kernel
theorem dX4_isOutside_15 : decode cX4_isOutside 15 = .ok (.ireturn, 1) := by decide +kernel
theorem dX4_appointmentOrThrow_0 : decode cX4_appointmentOrThrow 0 = .ok (.iload_n 1, 1) := by decide +kernel
theorem dX4_appointmentOrThrow_1 : decode cX4_appointmentOrThrow 1 = .ok (.ifCond .lt 20, 3) := by decide +kernel
theorem dX4_appointmentOrThrow_4 : decode cX4_appointmentOrThrow 4 = .ok (.iload_n 1, 1) := by decide +kernel
theorem dX4_appointmentOrThrow_5 : decode cX4_appointmentOrThrow 5 = .ok (.aload_n 0, 1) := by decide +kernel
theorem dX4_appointmentOrThrow_6 : decode cX4_appointmentOrThrow 6 = .ok (.getfield 86, 3) := by decide +kernel
theorem dX4_appointmentOrThrow_9 : decode cX4_appointmentOrThrow 9 = .ok (.if_icmp .ge 12, 3) := by decide +kernel
theorem dX4_appointmentOrThrow_12 : decode cX4_appointmentOrThrow 12 = .ok (.iload_n 1, 1) := by decide +kernel
theorem dX4_appointmentOrThrow_13 : decode cX4_appointmentOrThrow 13 = .ok (.aload_n 0, 1) := by decide +kernel
theorem dX4_appointmentOrThrow_14 : decode cX4_appointmentOrThrow 14 = .ok (.getfield 24, 3) := by decide +kernel
theorem dX4_appointmentOrThrow_17 : decode cX4_appointmentOrThrow 17 = .ok (.arraylength, 1) := by decide +kernel
theorem dX4_appointmentOrThrow_18 : decode cX4_appointmentOrThrow 18 = .ok (.if_icmp .lt 13, 3) := by decide +kernel
theorem dX4_appointmentOrThrow_21 : decode cX4_appointmentOrThrow 21 = .ok (.new 142, 3) := by decide +kernel
theorem dX4_appointmentOrThrow_24 : decode cX4_appointmentOrThrow 24 = .ok (.dup, 1) := by decide +kernel
theorem dX4_appointmentOrThrow_25 : decode cX4_appointmentOrThrow 25 = .ok (.ldc 243, 2) := by decide +kernel
theorem dX4_appointmentOrThrow_27 : decode cX4_appointmentOrThrow 27 = .ok (.invokespecial 146, 3) := by decide +kernel
theorem dX4_appointmentOrThrow_30 : decode cX4_appointmentOrThrow 30 = .ok (.athrow, 1) := by decide +kernel
theorem dX4_appointmentOrThrow_31 : decode cX4_appointmentOrThrow 31 = .ok (.aload_n 0, 1) := by decide +kernel
theorem dX4_appointmentOrThrow_32 : decode cX4_appointmentOrThrow 32 = .ok (.getfield 24, 3) := by decide +kernel
theorem dX4_appointmentOrThrow_35 : decode cX4_appointmentOrThrow 35 = .ok (.iload_n 1, 1) := by decide +kernel
theorem dX4_appointmentOrThrow_36 : decode cX4_appointmentOrThrow 36 = .ok (.aaload, 1) := by decide +kernel
theorem dX4_appointmentOrThrow_37 : decode cX4_appointmentOrThrow 37 = .ok (.astore_n 2, 1) := by decide +kernel
theorem dX4_appointmentOrThrow_38 : decode cX4_appointmentOrThrow 38 = .ok (.aload_n 2, 1) := by decide +kernel
theorem dX4_appointmentOrThrow_39 : decode cX4_appointmentOrThrow 39 = .ok (.ifnonnull 13, 3) := by decide +kernel
theorem dX4_appointmentOrThrow_42 : decode cX4_appointmentOrThrow 42 = .ok (.new 142, 3) := by decide +kernel
theorem dX4_appointmentOrThrow_45 : decode cX4_appointmentOrThrow 45 = .ok (.dup, 1) := by decide +kernel
theorem dX4_appointmentOrThrow_46 : decode cX4_appointmentOrThrow 46 = .ok (.ldc 243, 2) := by decide +kernel
theorem dX4_appointmentOrThrow_48 : decode cX4_appointmentOrThrow 48 = .ok (.invokespecial 146, 3) := by decide +kernel
theorem dX4_appointmentOrThrow_51 : decode cX4_appointmentOrThrow 51 = .ok (.athrow, 1) := by decide +kernel
theorem dX4_appointmentOrThrow_52 : decode cX4_appointmentOrThrow 52 = .ok (.aload_n 2, 1) := by decide +kernel
theorem dX4_appointmentOrThrow_53 : decode cX4_appointmentOrThrow 53 = .ok (.areturn, 1) := by decide +kernel
set_option maxRecDepth 20000 in
theorem ggX4_arrivedOrThrow_X4_appointmentOrThrow : GoodIn wsX4_arrivedOrThrow wsX4_appointmentOrThrow := goodIn_ca (goodIn_r _ [7, 8, 9, 10, 11, 18, 19, 20, 21, 22, 23, 24, 25, 26, 27, 28, 29, 30] (by decide +kernel) (by decide +kernel)) (goodIn_sub (fun _ h => List.mem_cons_of_mem _ (List.mem_append_right _ h)) (by decide +kernel))
set_option maxRecDepth 20000 in
theorem gX4_arrivedOrThrow_X4_appointmentOrThrow : GoodIn wsX4_arrivedOrThrow (wsV RX4 94 RX4 yX4_appointmentOrThrow wsX4_appointmentOrThrow) := goodIn_app (goodIn_of _ (by decide +kernel)) ggX4_arrivedOrThrow_X4_appointmentOrThrow
set_option maxRecDepth 20000 in
theorem ggX4_arrivedOrThrow_X0_hasArrived : GoodIn wsX4_arrivedOrThrow wsX0_hasArrived := goodIn_r _ [16, 17, 31, 32, 33, 34, 35, 36, 37, 38, 39, 40] (by decide +kernel) (by decide +kernel)
set_option maxRecDepth 20000 in
theorem gX4_arrivedOrThrow_X0_hasArrived : GoodIn wsX4_arrivedOrThrow (wsV RX4 237 RX0 yX0_hasArrived wsX0_hasArrived) := goodIn_app (goodIn_of _ (by decide +kernel)) ggX4_arrivedOrThrow_X0_hasArrived
theorem dX4_arrivedOrThrow_0 : decode cX4_arrivedOrThrow 0 = .ok (.aload_n 0, 1) := by decide +kernel
theorem dX4_arrivedOrThrow_1 : decode cX4_arrivedOrThrow 1 = .ok (.iload_n 1, 1) := by decide +kernel
theorem dX4_arrivedOrThrow_2 : decode cX4_arrivedOrThrow 2 = .ok (.invokevirtual 94, 3) := by decide +kernel
theorem dX4_arrivedOrThrow_5 : decode cX4_arrivedOrThrow 5 = .ok (.astore_n 2, 1) := by decide +kernel
theorem dX4_arrivedOrThrow_6 : decode cX4_arrivedOrThrow 6 = .ok (.aload_n 2, 1) := by decide +kernel
theorem dX4_arrivedOrThrow_7 : decode cX4_arrivedOrThrow 7 = .ok (.invokevirtual 237, 3) := by decide +kernel
theorem dX4_arrivedOrThrow_10 : decode cX4_arrivedOrThrow 10 = .ok (.ifCond .ne 13, 3) := by decide +kernel
theorem dX4_arrivedOrThrow_13 : decode cX4_arrivedOrThrow 13 = .ok (.new 58, 3) := by decide +kernel
theorem dX4_arrivedOrThrow_16 : decode cX4_arrivedOrThrow 16 = .ok (.dup, 1) := by decide +kernel
theorem dX4_arrivedOrThrow_17 : decode cX4_arrivedOrThrow 17 = .ok (.ldc 245, 2) := by decide +kernel
theorem dX4_arrivedOrThrow_19 : decode cX4_arrivedOrThrow 19 = .ok (.invokespecial 62, 3) := by decide +kernel
theorem dX4_arrivedOrThrow_22 : decode cX4_arrivedOrThrow 22 = .ok (.athrow, 1) := by decide +kernel
theorem dX4_arrivedOrThrow_23 : decode cX4_arrivedOrThrow 23 = .ok (.aload_n 2, 1) := by decide +kernel
theorem dX4_arrivedOrThrow_24 : decode cX4_arrivedOrThrow 24 = .ok (.areturn, 1) := by decide +kernel
set_option maxRecDepth 20000 in
theorem ggX4_laneOrThrow_X3_laneAt : GoodIn wsX4_laneOrThrow wsX3_laneAt := goodIn_r _ [8, 9, 10, 24, 25] (by decide +kernel) (by decide +kernel)
set_option maxRecDepth 20000 in
theorem gX4_laneOrThrow_X3_laneAt : GoodIn wsX4_laneOrThrow (wsV RX4 247 RX3 yX3_laneAt wsX3_laneAt) := goodIn_app (goodIn_of _ (by decide +kernel)) ggX4_laneOrThrow_X3_laneAt
theorem dX4_laneOrThrow_0 : decode cX4_laneOrThrow 0 = .ok (.aload_n 0, 1) := by decide +kernel
theorem dX4_laneOrThrow_1 : decode cX4_laneOrThrow 1 = .ok (.getfield 10, 3) := by decide +kernel
theorem dX4_laneOrThrow_4 : decode cX4_laneOrThrow 4 = .ok (.iload_n 1, 1) := by decide +kernel
theorem dX4_laneOrThrow_5 : decode cX4_laneOrThrow 5 = .ok (.invokevirtual 247, 3) := by decide +kernel
theorem dX4_laneOrThrow_8 : decode cX4_laneOrThrow 8 = .ok (.astore_n 2, 1) := by decide +kernel
theorem dX4_laneOrThrow_9 : decode cX4_laneOrThrow 9 = .ok (.aload_n 2, 1) := by decide +kernel
theorem dX4_laneOrThrow_10 : decode cX4_laneOrThrow 10 = .ok (.ifnonnull 13, 3) := by decide +kernel
theorem dX4_laneOrThrow_13 : decode cX4_laneOrThrow 13 = .ok (.new 168, 3) := by decide +kernel
theorem dX4_laneOrThrow_16 : decode cX4_laneOrThrow 16 = .ok (.dup, 1) := by decide +kernel
theorem dX4_laneOrThrow_17 : decode cX4_laneOrThrow 17 = .ok (.ldc 250, 2) := by decide +kernel
theorem dX4_laneOrThrow_19 : decode cX4_laneOrThrow 19 = .ok (.invokespecial 172, 3) := by decide +kernel
theorem dX4_laneOrThrow_22 : decode cX4_laneOrThrow 22 = .ok (.athrow, 1) := by decide +kernel
theorem dX4_laneOrThrow_23 : decode cX4_laneOrThrow 23 = .ok (.aload_n 2, 1) := by decide +kernel
theorem dX4_laneOrThrow_24 : decode cX4_laneOrThrow 24 = .ok (.areturn, 1) := by decide +kernel
theorem dX4_homeOrThrow_0 : decode cX4_homeOrThrow 0 = .ok (.aload_n 0, 1) := by decide +kernel
theorem dX4_homeOrThrow_1 : decode cX4_homeOrThrow 1 = .ok (.getfield 252, 3) := by decide +kernel
theorem dX4_homeOrThrow_4 : decode cX4_homeOrThrow 4 = .ok (.astore_n 1, 1) := by decide +kernel
theorem dX4_homeOrThrow_5 : decode cX4_homeOrThrow 5 = .ok (.aload_n 1, 1) := by decide +kernel
theorem dX4_homeOrThrow_6 : decode cX4_homeOrThrow 6 = .ok (.ifnonnull 14, 3) := by decide +kernel
theorem dX4_homeOrThrow_9 : decode cX4_homeOrThrow 9 = .ok (.new 58, 3) := by decide +kernel
theorem dX4_homeOrThrow_12 : decode cX4_homeOrThrow 12 = .ok (.dup, 1) := by decide +kernel
theorem dX4_homeOrThrow_13 : decode cX4_homeOrThrow 13 = .ok (.ldc_w 256, 3) := by decide +kernel
theorem dX4_homeOrThrow_16 : decode cX4_homeOrThrow 16 = .ok (.invokespecial 62, 3) := by decide +kernel
theorem dX4_homeOrThrow_19 : decode cX4_homeOrThrow 19 = .ok (.athrow, 1) := by decide +kernel
theorem dX4_homeOrThrow_20 : decode cX4_homeOrThrow 20 = .ok (.aload_n 1, 1) := by decide +kernel
theorem dX4_homeOrThrow_21 : decode cX4_homeOrThrow 21 = .ok (.areturn, 1) := by decide +kernel
set_option maxRecDepth 20000 in
theorem ggX4_homeOfReachedOrThrow_X4_homeOrThrow : GoodIn wsX4_homeOfReachedOrThrow wsX4_homeOrThrow := goodIn_ca (goodIn_r _ [6, 1, 2, 7, 15, 16, 17, 18, 19, 20, 21, 22, 23, 24] (by decide +kernel) (by decide +kernel)) (goodIn_sub (fun _ h => List.mem_cons_of_mem _ (List.mem_append_right _ h)) (by decide +kernel))
set_option maxRecDepth 20000 in
theorem gX4_homeOfReachedOrThrow_X4_homeOrThrow : GoodIn wsX4_homeOfReachedOrThrow (va_wsS RX4 202 yX4_homeOrThrow wsX4_homeOrThrow) := goodIn_app (goodIn_of _ (by decide +kernel)) ggX4_homeOfReachedOrThrow_X4_homeOrThrow
set_option maxRecDepth 20000 in
theorem ggX4_homeOfReachedOrThrow_X2_countBefore : GoodIn wsX4_homeOfReachedOrThrow wsX2_countBefore := goodIn_r _ [12, 13, 14, 25, 26, 27, 28, 29, 15, 16, 17, 18, 19, 20, 21, 22, 23, 24] (by decide +kernel) (by decide +kernel)
set_option maxRecDepth 20000 in
theorem gX4_homeOfReachedOrThrow_X2_countBefore : GoodIn wsX4_homeOfReachedOrThrow (wsV RX4 205 RX2 yX2_countBefore wsX2_countBefore) := goodIn_app (goodIn_of _ (by decide +kernel)) ggX4_homeOfReachedOrThrow_X2_countBefore
theorem dX4_homeOfReachedOrThrow_0 : decode cX4_homeOfReachedOrThrow 0 = .ok (.aload_n 0, 1) := by decide +kernel
theorem dX4_homeOfReachedOrThrow_1 : decode cX4_homeOfReachedOrThrow 1 = .ok (.invokestatic 202, 3) := by decide +kernel
theorem dX4_homeOfReachedOrThrow_4 : decode cX4_homeOfReachedOrThrow 4 = .ok (.astore_n 1, 1) := by decide +kernel
theorem dX4_homeOfReachedOrThrow_5 : decode cX4_homeOfReachedOrThrow 5 = .ok (.aload_n 1, 1) := by decide +kernel
theorem dX4_homeOfReachedOrThrow_6 : decode cX4_homeOfReachedOrThrow 6 = .ok (.aload_n 0, 1) := by decide +kernel
theorem dX4_homeOfReachedOrThrow_7 : decode cX4_homeOfReachedOrThrow 7 = .ok (.invokevirtual 205, 3) := by decide +kernel
theorem dX4_homeOfReachedOrThrow_10 : decode cX4_homeOfReachedOrThrow 10 = .ok (.ifCond .eq 14, 3) := by decide +kernel
theorem dX4_homeOfReachedOrThrow_13 : decode cX4_homeOfReachedOrThrow 13 = .ok (.new 58, 3) := by decide +kernel
theorem dX4_homeOfReachedOrThrow_16 : decode cX4_homeOfReachedOrThrow 16 = .ok (.dup, 1) := by decide +kernel
theorem dX4_homeOfReachedOrThrow_17 : decode cX4_homeOfReachedOrThrow 17 = .ok (.ldc_w 258, 3) := by decide +kernel
theorem dX4_homeOfReachedOrThrow_20 : decode cX4_homeOfReachedOrThrow 20 = .ok (.invokespecial 62, 3) := by decide +kernel
theorem dX4_homeOfReachedOrThrow_23 : decode cX4_homeOfReachedOrThrow 23 = .ok (.athrow, 1) := by decide +kernel
theorem dX4_homeOfReachedOrThrow_24 : decode cX4_homeOfReachedOrThrow 24 = .ok (.aload_n 1, 1) := by decide +kernel
theorem dX4_homeOfReachedOrThrow_25 : decode cX4_homeOfReachedOrThrow 25 = .ok (.areturn, 1) := by decide +kernel
theorem dX4_doorAt_0 : decode cX4_doorAt 0 = .ok (.iload_n 1, 1) := by decide +kernel
theorem dX4_doorAt_1 : decode cX4_doorAt 1 = .ok (.ifCond .lt 20, 3) := by decide +kernel
theorem dX4_doorAt_4 : decode cX4_doorAt 4 = .ok (.iload_n 1, 1) := by decide +kernel
theorem dX4_doorAt_5 : decode cX4_doorAt 5 = .ok (.aload_n 0, 1) := by decide +kernel
theorem dX4_doorAt_6 : decode cX4_doorAt 6 = .ok (.getfield 69, 3) := by decide +kernel
theorem dX4_doorAt_9 : decode cX4_doorAt 9 = .ok (.if_icmp .ge 12, 3) := by decide +kernel
theorem dX4_doorAt_12 : decode cX4_doorAt 12 = .ok (.iload_n 1, 1) := by decide +kernel
theorem dX4_doorAt_13 : decode cX4_doorAt 13 = .ok (.aload_n 0, 1) := by decide +kernel
theorem dX4_doorAt_14 : decode cX4_doorAt 14 = .ok (.getfield 18, 3) := by decide +kernel
theorem dX4_doorAt_17 : decode cX4_doorAt 17 = .ok (.arraylength, 1) := by decide +kernel
theorem dX4_doorAt_18 : decode cX4_doorAt 18 = .ok (.if_icmp .lt 5, 3) := by decide +kernel
theorem dX4_doorAt_21 : decode cX4_doorAt 21 = .ok (.aconst_null, 1) := by decide +kernel
theorem dX4_doorAt_22 : decode cX4_doorAt 22 = .ok (.areturn, 1) := by decide +kernel
theorem dX4_doorAt_23 : decode cX4_doorAt 23 = .ok (.aload_n 0, 1) := by decide +kernel
theorem dX4_doorAt_24 : decode cX4_doorAt 24 = .ok (.getfield 18, 3) := by decide +kernel
theorem dX4_doorAt_27 : decode cX4_doorAt 27 = .ok (.iload_n 1, 1) := by decide +kernel
theorem dX4_doorAt_28 : decode cX4_doorAt 28 = .ok (.aaload, 1) := by decide +kernel
theorem dX4_doorAt_29 : decode cX4_doorAt 29 = .ok (.areturn, 1) := by decide +kernel
set_option maxRecDepth 20000 in
theorem ggX4_isReachedWithin_X2_countBefore : GoodIn wsX4_isReachedWithin wsX2_countBefore := goodIn_r _ [6, 7, 8, 51, 52, 53, 54, 55, 56, 57, 58, 59, 60, 61, 62, 63, 64, 65] (by decide +kernel) (by decide +kernel)
set_option maxRecDepth 20000 in
theorem gX4_isReachedWithin_X2_countBefore : GoodIn wsX4_isReachedWithin (wsV RX4 205 RX2 yX2_countBefore wsX2_countBefore) := goodIn_app (goodIn_of _ (by decide +kernel)) ggX4_isReachedWithin_X2_countBefore
set_option maxRecDepth 20000 in
theorem ggX4_isReachedWithin_X3_allowMove : GoodIn wsX4_isReachedWithin wsX3_allowMove := goodIn_r _ [13, 14, 15, 16, 12, 17, 18, 19, 20, 21, 22, 5, 23, 7, 24, 25, 26, 27, 28, 29, 30, 31, 49, 50, 51, 52, 53, 54, 55, 56, 57, 58, 59, 60, 61, 62, 63, 64, 65] (by decide +kernel) (by decide +kernel)
set_option maxRecDepth 20000 in
theorem gX4_isReachedWithin_X3_allowMove : GoodIn wsX4_isReachedWithin (wsV RX4 260 RX3 yX3_allowMove wsX3_allowMove) := goodIn_app (goodIn_of _ (by decide +kernel)) ggX4_isReachedWithin_X3_allowMove
set_option maxRecDepth 20000 in
theorem ggX4_isReachedWithin_X3_moveNearest : GoodIn wsX4_isReachedWithin wsX3_moveNearest := goodIn_r _ [35, 14, 15, 16, 12, 17, 18, 19, 36, 37, 38, 5, 39, 7, 40, 41, 21, 22, 23, 24, 42, 43, 44, 45, 8, 49, 50, 51, 52, 53, 54, 55, 56, 57, 58, 59, 60, 61, 62, 63, 64, 65] (by decide +kernel) (by decide +kernel)
set_option maxRecDepth 20000 in
theorem gX4_isReachedWithin_X3_moveNearest : GoodIn wsX4_isReachedWithin (wsV RX4 264 RX3 yX3_moveNearest wsX3_moveNearest) := goodIn_app (goodIn_of _ (by decide +kernel)) ggX4_isReachedWithin_X3_moveNearest
set_option maxRecDepth 20000 in
theorem ggX4_isReachedWithin_X4_isReachedWithin : GoodIn wsX4_isReachedWithin wsX4_isReachedWithin := goodIn_r _ [0, 1, 2, 3, 4, 5, 6, 7, 8, 9, 10, 11, 12, 13, 14, 15, 16, 17, 18, 19, 20, 21, 22, 23, 24, 25, 26, 27, 28, 29, 30, 31, 32, 33, 34, 35, 36, 37, 38, 39, 40, 41, 42, 43, 44, 45, 46, 47, 48, 49, 50, 51, 52, 53, 54, 55, 56, 57, 58, 59, 60, 61, 62, 63, 64, 65] (by decide +kernel) (by decide +kernel)
set_option maxRecDepth 20000 in
theorem gX4_isReachedWithin_X4_isReachedWithin : GoodIn wsX4_isReachedWithin (va_wsS RX4 213 yX4_isReachedWithin wsX4_isReachedWithin) := goodIn_app (goodIn_of _ (by decide +kernel)) ggX4_isReachedWithin_X4_isReachedWithin
theorem dX4_isReachedWithin_0 : decode cX4_isReachedWithin 0 = .ok (.aload_n 1, 1) := by decide +kernel
theorem dX4_isReachedWithin_1 : decode cX4_isReachedWithin 1 = .ok (.aload_n 2, 1) := by decide +kernel
theorem dX4_isReachedWithin_2 : decode cX4_isReachedWithin 2 = .ok (.invokevirtual 205, 3) := by decide +kernel
theorem dX4_isReachedWithin_5 : decode cX4_isReachedWithin 5 = .ok (.istore 4, 2) := by decide +kernel
theorem dX4_isReachedWithin_7 : decode cX4_isReachedWithin 7 = .ok (.iload 4, 2) := by decide +kernel
theorem dX4_isReachedWithin_9 : decode cX4_isReachedWithin 9 = .ok (.ifCond .ne 5, 3) := by decide +kernel
theorem dX4_isReachedWithin_12 : decode cX4_isReachedWithin 12 = .ok (.iconst 1, 1) := by decide +kernel
theorem dX4_isReachedWithin_13 : decode cX4_isReachedWithin 13 = .ok (.ireturn, 1) := by decide +kernel
theorem dX4_isReachedWithin_14 : decode cX4_isReachedWithin 14 = .ok (.iload_n 3, 1) := by decide +kernel
theorem dX4_isReachedWithin_15 : decode cX4_isReachedWithin 15 = .ok (.ifCond .le 9, 3) := by decide +kernel
theorem dX4_isReachedWithin_18 : decode cX4_isReachedWithin 18 = .ok (.iload 4, 2) := by decide +kernel
theorem dX4_isReachedWithin_20 : decode cX4_isReachedWithin 20 = .ok (.iload_n 3, 1) := by decide +kernel
theorem dX4_isReachedWithin_21 : decode cX4_isReachedWithin 21 = .ok (.if_icmp .le 5, 3) := by decide +kernel
theorem dX4_isReachedWithin_24 : decode cX4_isReachedWithin 24 = .ok (.iconst 0, 1) := by decide +kernel
theorem dX4_isReachedWithin_25 : decode cX4_isReachedWithin 25 = .ok (.ireturn, 1) := by decide +kernel
theorem dX4_isReachedWithin_26 : decode cX4_isReachedWithin 26 = .ok (.iconst 0, 1) := by decide +kernel
theorem dX4_isReachedWithin_27 : decode cX4_isReachedWithin 27 = .ok (.istore 5, 2) := by decide +kernel
theorem dX4_isReachedWithin_29 : decode cX4_isReachedWithin 29 = .ok (.iconst 0, 1) := by decide +kernel
theorem dX4_isReachedWithin_30 : decode cX4_isReachedWithin 30 = .ok (.istore 6, 2) := by decide +kernel
theorem dX4_isReachedWithin_32 : decode cX4_isReachedWithin 32 = .ok (.iload 6, 2) := by decide +kernel
theorem dX4_isReachedWithin_34 : decode cX4_isReachedWithin 34 = .ok (.aload_n 0, 1) := by decide +kernel
theorem dX4_isReachedWithin_35 : decode cX4_isReachedWithin 35 = .ok (.getfield 55, 3) := by decide +kernel
theorem dX4_isReachedWithin_38 : decode cX4_isReachedWithin 38 = .ok (.if_icmp .ge 75, 3) := by decide +kernel
theorem dX4_isReachedWithin_41 : decode cX4_isReachedWithin 41 = .ok (.iload 5, 2) := by decide +kernel
theorem dX4_isReachedWithin_43 : decode cX4_isReachedWithin 43 = .ok (.ifCond .ne 70, 3) := by decide +kernel
theorem dX4_isReachedWithin_46 : decode cX4_isReachedWithin 46 = .ok (.iconst 0, 1) := by decide +kernel
theorem dX4_isReachedWithin_47 : decode cX4_isReachedWithin 47 = .ok (.istore 7, 2) := by decide +kernel
theorem dX4_isReachedWithin_49 : decode cX4_isReachedWithin 49 = .ok (.iload 7, 2) := by decide +kernel
theorem dX4_isReachedWithin_51 : decode cX4_isReachedWithin 51 = .ok (.aload_n 0, 1) := by decide +kernel
theorem dX4_isReachedWithin_52 : decode cX4_isReachedWithin 52 = .ok (.getfield 55, 3) := by decide +kernel
theorem dX4_isReachedWithin_55 : decode cX4_isReachedWithin 55 = .ok (.if_icmp .ge 52, 3) := by decide +kernel
theorem dX4_isReachedWithin_58 : decode cX4_isReachedWithin 58 = .ok (.iload 5, 2) := by decide +kernel
theorem dX4_isReachedWithin_60 : decode cX4_isReachedWithin 60 = .ok (.ifCond .ne 47, 3) := by decide +kernel
theorem dX4_isReachedWithin_63 : decode cX4_isReachedWithin 63 = .ok (.aload_n 0, 1) := by decide +kernel
theorem dX4_isReachedWithin_64 : decode cX4_isReachedWithin 64 = .ok (.iload 6, 2) := by decide +kernel
theorem dX4_isReachedWithin_66 : decode cX4_isReachedWithin 66 = .ok (.iload 7, 2) := by decide +kernel
theorem dX4_isReachedWithin_68 : decode cX4_isReachedWithin 68 = .ok (.invokevirtual 260, 3) := by decide +kernel
theorem dX4_isReachedWithin_71 : decode cX4_isReachedWithin 71 = .ok (.ifCond .eq 30, 3) := by decide +kernel
theorem dX4_isReachedWithin_74 : decode cX4_isReachedWithin 74 = .ok (.aload_n 0, 1) := by decide +kernel
theorem dX4_isReachedWithin_75 : decode cX4_isReachedWithin 75 = .ok (.iload 6, 2) := by decide +kernel
theorem dX4_isReachedWithin_77 : decode cX4_isReachedWithin 77 = .ok (.iload 7, 2) := by decide +kernel
theorem dX4_isReachedWithin_79 : decode cX4_isReachedWithin 79 = .ok (.invokevirtual 264, 3) := by decide +kernel
theorem dX4_isReachedWithin_82 : decode cX4_isReachedWithin 82 = .ok (.aload_n 0, 1) := by decide +kernel
theorem dX4_isReachedWithin_83 : decode cX4_isReachedWithin 83 = .ok (.aload_n 1, 1) := by decide +kernel
theorem dX4_isReachedWithin_84 : decode cX4_isReachedWithin 84 = .ok (.aload_n 2, 1) := by decide +kernel
theorem dX4_isReachedWithin_85 : decode cX4_isReachedWithin 85 = .ok (.iload_n 3, 1) := by decide +kernel
theorem dX4_isReachedWithin_86 : decode cX4_isReachedWithin 86 = .ok (.iconst 1, 1) := by decide +kernel
theorem dX4_isReachedWithin_87 : decode cX4_isReachedWithin 87 = .ok (.isub, 1) := by decide +kernel
theorem dX4_isReachedWithin_88 : decode cX4_isReachedWithin 88 = .ok (.invokestatic 213, 3) := by decide +kernel
theorem dX4_isReachedWithin_91 : decode cX4_isReachedWithin 91 = .ok (.istore 5, 2) := by decide +kernel
theorem dX4_isReachedWithin_93 : decode cX4_isReachedWithin 93 = .ok (.aload_n 0, 1) := by decide +kernel
theorem dX4_isReachedWithin_94 : decode cX4_isReachedWithin 94 = .ok (.iload 7, 2) := by decide +kernel
theorem dX4_isReachedWithin_96 : decode cX4_isReachedWithin 96 = .ok (.iload 6, 2) := by decide +kernel
theorem dX4_isReachedWithin_98 : decode cX4_isReachedWithin 98 = .ok (.invokevirtual 264, 3) := by decide +kernel
theorem dX4_isReachedWithin_101 : decode cX4_isReachedWithin 101 = .ok (.iinc 7 1, 3) := by decide +kernel
theorem dX4_isReachedWithin_104 : decode cX4_isReachedWithin 104 = .ok (.goto (-55), 3) := by decide +kernel
theorem dX4_isReachedWithin_107 : decode cX4_isReachedWithin 107 = .ok (.iinc 6 1, 3) := by decide +kernel
theorem dX4_isReachedWithin_110 : decode cX4_isReachedWithin 110 = .ok (.goto (-78), 3) := by decide +kernel
theorem dX4_isReachedWithin_113 : decode cX4_isReachedWithin 113 = .ok (.iload 5, 2) := by decide +kernel
theorem dX4_isReachedWithin_115 : decode cX4_isReachedWithin 115 = .ok (.ireturn, 1) := by decide +kernel
set_option maxRecDepth 20000 in
theorem ggX4_bestOfOrders_X2_countBefore : GoodIn wsX4_bestOfOrders wsX2_countBefore := goodIn_r _ [10, 11, 12, 55, 56, 57, 58, 59, 60, 61, 62, 63, 64, 65, 66, 67, 68, 69] (by decide +kernel) (by decide +kernel)
set_option maxRecDepth 20000 in
theorem gX4_bestOfOrders_X2_countBefore : GoodIn wsX4_bestOfOrders (wsV RX4 205 RX2 yX2_countBefore wsX2_countBefore) := goodIn_app (goodIn_of _ (by decide +kernel)) ggX4_bestOfOrders_X2_countBefore
set_option maxRecDepth 20000 in
theorem ggX4_bestOfOrders_X3_allowMove : GoodIn wsX4_bestOfOrders wsX3_allowMove := goodIn_r _ [17, 18, 19, 20, 16, 21, 22, 23, 24, 25, 26, 9, 27, 11, 28, 29, 30, 31, 32, 33, 34, 35, 53, 54, 55, 56, 57, 58, 59, 60, 61, 62, 63, 64, 65, 66, 67, 68, 69] (by decide +kernel) (by decide +kernel)
set_option maxRecDepth 20000 in
theorem gX4_bestOfOrders_X3_allowMove : GoodIn wsX4_bestOfOrders (wsV RX4 260 RX3 yX3_allowMove wsX3_allowMove) := goodIn_app (goodIn_of _ (by decide +kernel)) ggX4_bestOfOrders_X3_allowMove
set_option maxRecDepth 20000 in
theorem ggX4_bestOfOrders_X3_moveNearest : GoodIn wsX4_bestOfOrders wsX3_moveNearest := goodIn_r _ [39, 18, 19, 20, 16, 21, 22, 23, 40, 41, 42, 9, 43, 11, 44, 45, 25, 26, 27, 28, 46, 47, 48, 49, 12, 53, 54, 55, 56, 57, 58, 59, 60, 61, 62, 63, 64, 65, 66, 67, 68, 69] (by decide +kernel) (by decide +kernel)
set_option maxRecDepth 20000 in
theorem gX4_bestOfOrders_X3_moveNearest : GoodIn wsX4_bestOfOrders (wsV RX4 264 RX3 yX3_moveNearest wsX3_moveNearest) := goodIn_app (goodIn_of _ (by decide +kernel)) ggX4_bestOfOrders_X3_moveNearest
set_option maxRecDepth 20000 in
theorem ggX4_bestOfOrders_X4_bestOfOrders : GoodIn wsX4_bestOfOrders wsX4_bestOfOrders := goodIn_r _ [0, 1, 2, 3, 4, 5, 6, 7, 8, 9, 10, 11, 12, 13, 14, 15, 16, 17, 18, 19, 20, 21, 22, 23, 24, 25, 26, 27, 28, 29, 30, 31, 32, 33, 34, 35, 36, 37, 38, 39, 40, 41, 42, 43, 44, 45, 46, 47, 48, 49, 50, 51, 52, 53, 54, 55, 56, 57, 58, 59, 60, 61, 62, 63, 64, 65, 66, 67, 68, 69] (by decide +kernel) (by decide +kernel)
set_option maxRecDepth 20000 in
theorem gX4_bestOfOrders_X4_bestOfOrders : GoodIn wsX4_bestOfOrders (va_wsS RX4 219 yX4_bestOfOrders wsX4_bestOfOrders) := goodIn_app (goodIn_of _ (by decide +kernel)) ggX4_bestOfOrders_X4_bestOfOrders
theorem dX4_bestOfOrders_0 : decode cX4_bestOfOrders 0 = .ok (.aload_n 1, 1) := by decide +kernel
theorem dX4_bestOfOrders_1 : decode cX4_bestOfOrders 1 = .ok (.aload_n 2, 1) := by decide +kernel
theorem dX4_bestOfOrders_2 : decode cX4_bestOfOrders 2 = .ok (.invokevirtual 205, 3) := by decide +kernel
theorem dX4_bestOfOrders_5 : decode cX4_bestOfOrders 5 = .ok (.ifCond .ne 10, 3) := by decide +kernel
theorem dX4_bestOfOrders_8 : decode cX4_bestOfOrders 8 = .ok (.iload_n 3, 1) := by decide +kernel
theorem dX4_bestOfOrders_9 : decode cX4_bestOfOrders 9 = .ok (.iload 4, 2) := by decide +kernel
theorem dX4_bestOfOrders_11 : decode cX4_bestOfOrders 11 = .ok (.invokestatic 268, 3) := by decide +kernel
theorem dX4_bestOfOrders_14 : decode cX4_bestOfOrders 14 = .ok (.ireturn, 1) := by decide +kernel
theorem dX4_bestOfOrders_15 : decode cX4_bestOfOrders 15 = .ok (.iload_n 3, 1) := by decide +kernel
theorem dX4_bestOfOrders_16 : decode cX4_bestOfOrders 16 = .ok (.iconst 4, 1) := by decide +kernel
theorem dX4_bestOfOrders_17 : decode cX4_bestOfOrders 17 = .ok (.if_icmp .ge 11, 3) := by decide +kernel
theorem dX4_bestOfOrders_20 : decode cX4_bestOfOrders 20 = .ok (.iload_n 3, 1) := by decide +kernel
theorem dX4_bestOfOrders_21 : decode cX4_bestOfOrders 21 = .ok (.iconst 1, 1) := by decide +kernel
theorem dX4_bestOfOrders_22 : decode cX4_bestOfOrders 22 = .ok (.iadd, 1) := by decide +kernel
theorem dX4_bestOfOrders_23 : decode cX4_bestOfOrders 23 = .ok (.iload 4, 2) := by decide +kernel
theorem dX4_bestOfOrders_25 : decode cX4_bestOfOrders 25 = .ok (.if_icmp .lt 6, 3) := by decide +kernel
theorem dX4_bestOfOrders_28 : decode cX4_bestOfOrders 28 = .ok (.iload 4, 2) := by decide +kernel
theorem dX4_bestOfOrders_30 : decode cX4_bestOfOrders 30 = .ok (.ireturn, 1) := by decide +kernel
theorem dX4_bestOfOrders_31 : decode cX4_bestOfOrders 31 = .ok (.iload 4, 2) := by decide +kernel
theorem dX4_bestOfOrders_33 : decode cX4_bestOfOrders 33 = .ok (.istore 5, 2) := by decide +kernel
theorem dX4_bestOfOrders_35 : decode cX4_bestOfOrders 35 = .ok (.iconst 0, 1) := by decide +kernel
theorem dX4_bestOfOrders_36 : decode cX4_bestOfOrders 36 = .ok (.istore 6, 2) := by decide +kernel
theorem dX4_bestOfOrders_38 : decode cX4_bestOfOrders 38 = .ok (.iload 6, 2) := by decide +kernel
theorem dX4_bestOfOrders_40 : decode cX4_bestOfOrders 40 = .ok (.aload_n 0, 1) := by decide +kernel
theorem dX4_bestOfOrders_41 : decode cX4_bestOfOrders 41 = .ok (.getfield 55, 3) := by decide +kernel
theorem dX4_bestOfOrders_44 : decode cX4_bestOfOrders 44 = .ok (.if_icmp .ge 67, 3) := by decide +kernel
theorem dX4_bestOfOrders_47 : decode cX4_bestOfOrders 47 = .ok (.iconst 0, 1) := by decide +kernel
theorem dX4_bestOfOrders_48 : decode cX4_bestOfOrders 48 = .ok (.istore 7, 2) := by decide +kernel
theorem dX4_bestOfOrders_50 : decode cX4_bestOfOrders 50 = .ok (.iload 7, 2) := by decide +kernel
theorem dX4_bestOfOrders_52 : decode cX4_bestOfOrders 52 = .ok (.aload_n 0, 1) := by decide +kernel
theorem dX4_bestOfOrders_53 : decode cX4_bestOfOrders 53 = .ok (.getfield 55, 3) := by decide +kernel
theorem dX4_bestOfOrders_56 : decode cX4_bestOfOrders 56 = .ok (.if_icmp .ge 49, 3) := by decide +kernel
theorem dX4_bestOfOrders_59 : decode cX4_bestOfOrders 59 = .ok (.aload_n 0, 1) := by decide +kernel
theorem dX4_bestOfOrders_60 : decode cX4_bestOfOrders 60 = .ok (.iload 6, 2) := by decide +kernel
theorem dX4_bestOfOrders_62 : decode cX4_bestOfOrders 62 = .ok (.iload 7, 2) := by decide +kernel
theorem dX4_bestOfOrders_64 : decode cX4_bestOfOrders 64 = .ok (.invokevirtual 260, 3) := by decide +kernel
theorem dX4_bestOfOrders_67 : decode cX4_bestOfOrders 67 = .ok (.ifCond .eq 32, 3) := by decide +kernel
theorem dX4_bestOfOrders_70 : decode cX4_bestOfOrders 70 = .ok (.aload_n 0, 1) := by decide +kernel
theorem dX4_bestOfOrders_71 : decode cX4_bestOfOrders 71 = .ok (.iload 6, 2) := by decide +kernel
theorem dX4_bestOfOrders_73 : decode cX4_bestOfOrders 73 = .ok (.iload 7, 2) := by decide +kernel
theorem dX4_bestOfOrders_75 : decode cX4_bestOfOrders 75 = .ok (.invokevirtual 264, 3) := by decide +kernel
theorem dX4_bestOfOrders_78 : decode cX4_bestOfOrders 78 = .ok (.aload_n 0, 1) := by decide +kernel
theorem dX4_bestOfOrders_79 : decode cX4_bestOfOrders 79 = .ok (.aload_n 1, 1) := by decide +kernel
theorem dX4_bestOfOrders_80 : decode cX4_bestOfOrders 80 = .ok (.aload_n 2, 1) := by decide +kernel
theorem dX4_bestOfOrders_81 : decode cX4_bestOfOrders 81 = .ok (.iload_n 3, 1) := by decide +kernel
theorem dX4_bestOfOrders_82 : decode cX4_bestOfOrders 82 = .ok (.iconst 1, 1) := by decide +kernel
theorem dX4_bestOfOrders_83 : decode cX4_bestOfOrders 83 = .ok (.iadd, 1) := by decide +kernel
theorem dX4_bestOfOrders_84 : decode cX4_bestOfOrders 84 = .ok (.iload 5, 2) := by decide +kernel
theorem dX4_bestOfOrders_86 : decode cX4_bestOfOrders 86 = .ok (.invokestatic 219, 3) := by decide +kernel
theorem dX4_bestOfOrders_89 : decode cX4_bestOfOrders 89 = .ok (.istore 5, 2) := by decide +kernel
theorem dX4_bestOfOrders_91 : decode cX4_bestOfOrders 91 = .ok (.aload_n 0, 1) := by decide +kernel
theorem dX4_bestOfOrders_92 : decode cX4_bestOfOrders 92 = .ok (.iload 7, 2) := by decide +kernel
theorem dX4_bestOfOrders_94 : decode cX4_bestOfOrders 94 = .ok (.iload 6, 2) := by decide +kernel
theorem dX4_bestOfOrders_96 : decode cX4_bestOfOrders 96 = .ok (.invokevirtual 264, 3) := by decide +kernel
theorem dX4_bestOfOrders_99 : decode cX4_bestOfOrders 99 = .ok (.iinc 7 1, 3) := by decide +kernel
theorem dX4_bestOfOrders_102 : decode cX4_bestOfOrders 102 = .ok (.goto (-52), 3) := by decide +kernel
theorem dX4_bestOfOrders_105 : decode cX4_bestOfOrders 105 = .ok (.iinc 6 1, 3) := by decide +kernel
theorem dX4_bestOfOrders_108 : decode cX4_bestOfOrders 108 = .ok (.goto (-70), 3) := by decide +kernel
theorem dX4_bestOfOrders_111 : decode cX4_bestOfOrders 111 = .ok (.iload 5, 2) := by decide +kernel
theorem dX4_bestOfOrders_113 : decode cX4_bestOfOrders 113 = .ok (.ireturn, 1) := by decide +kernel
theorem dX4_punctualityOf_0 : decode cX4_punctualityOf 0 = .ok (.aload_n 1, 1) := by decide +kernel
theorem dX4_punctualityOf_1 : decode cX4_punctualityOf 1 = .ok (.getfield 129, 3) := by decide +kernel
theorem dX4_punctualityOf_4 : decode cX4_punctualityOf 4 = .ok (.aload_n 1, 1) := by decide +kernel
theorem dX4_punctualityOf_5 : decode cX4_punctualityOf 5 = .ok (.getfield 139, 3) := by decide +kernel
theorem dX4_punctualityOf_8 : decode cX4_punctualityOf 8 = .ok (.isub, 1) := by decide +kernel
theorem dX4_punctualityOf_9 : decode cX4_punctualityOf 9 = .ok (.istore_n 2, 1) := by decide +kernel
theorem dX4_punctualityOf_10 : decode cX4_punctualityOf 10 = .ok (.iload_n 2, 1) := by decide +kernel
theorem dX4_punctualityOf_11 : decode cX4_punctualityOf 11 = .ok (.aload_n 0, 1) := by decide +kernel
theorem dX4_punctualityOf_12 : decode cX4_punctualityOf 12 = .ok (.getfield 28, 3) := by decide +kernel
theorem dX4_punctualityOf_15 : decode cX4_punctualityOf 15 = .ok (.if_icmp .le 6, 3) := by decide +kernel
theorem dX4_punctualityOf_18 : decode cX4_punctualityOf 18 = .ok (.bipush 108, 2) := by decide +kernel
theorem dX4_punctualityOf_20 : decode cX4_punctualityOf 20 = .ok (.ireturn, 1) := by decide +kernel
theorem dX4_punctualityOf_21 : decode cX4_punctualityOf 21 = .ok (.iload_n 2, 1) := by decide +kernel
theorem dX4_punctualityOf_22 : decode cX4_punctualityOf 22 = .ok (.ineg, 1) := by decide +kernel
theorem dX4_punctualityOf_23 : decode cX4_punctualityOf 23 = .ok (.aload_n 0, 1) := by decide +kernel
theorem dX4_punctualityOf_24 : decode cX4_punctualityOf 24 = .ok (.getfield 28, 3) := by decide +kernel
theorem dX4_punctualityOf_27 : decode cX4_punctualityOf 27 = .ok (.if_icmp .le 8, 3) := by decide +kernel
theorem dX4_punctualityOf_30 : decode cX4_punctualityOf 30 = .ok (.bipush 101, 2) := by decide +kernel
theorem dX4_punctualityOf_32 : decode cX4_punctualityOf 32 = .ok (.goto 5, 3) := by decide +kernel
theorem dX4_punctualityOf_35 : decode cX4_punctualityOf 35 = .ok (.bipush 111, 2) := by decide +kernel
theorem dX4_punctualityOf_37 : decode cX4_punctualityOf 37 = .ok (.ireturn, 1) := by decide +kernel
theorem dX4_waitingHours_0 : decode cX4_waitingHours 0 = .ok (.aload_n 1, 1) := by decide +kernel
theorem dX4_waitingHours_1 : decode cX4_waitingHours 1 = .ok (.getfield 129, 3) := by decide +kernel
theorem dX4_waitingHours_4 : decode cX4_waitingHours 4 = .ok (.aload_n 1, 1) := by decide +kernel
theorem dX4_waitingHours_5 : decode cX4_waitingHours 5 = .ok (.getfield 139, 3) := by decide +kernel
theorem dX4_waitingHours_8 : decode cX4_waitingHours 8 = .ok (.invokestatic 274, 3) := by decide +kernel
theorem dX4_waitingHours_11 : decode cX4_waitingHours 11 = .ok (.istore_n 2, 1) := by decide +kernel
theorem dX4_waitingHours_12 : decode cX4_waitingHours 12 = .ok (.aload_n 1, 1) := by decide +kernel
theorem dX4_waitingHours_13 : decode cX4_waitingHours 13 = .ok (.getfield 102, 3) := by decide +kernel
theorem dX4_waitingHours_16 : decode cX4_waitingHours 16 = .ok (.bipush 121, 2) := by decide +kernel
theorem dX4_waitingHours_18 : decode cX4_waitingHours 18 = .ok (.if_icmp .ne 10, 3) := by decide +kernel
theorem dX4_waitingHours_21 : decode cX4_waitingHours 21 = .ok (.aload_n 0, 1) := by decide +kernel
theorem dX4_waitingHours_22 : decode cX4_waitingHours 22 = .ok (.getfield 81, 3) := by decide +kernel
theorem dX4_waitingHours_25 : decode cX4_waitingHours 25 = .ok (.goto 7, 3) := by decide +kernel
theorem dX4_waitingHours_28 : decode cX4_waitingHours 28 = .ok (.aload_n 1, 1) := by decide +kernel
theorem dX4_waitingHours_29 : decode cX4_waitingHours 29 = .ok (.getfield 184, 3) := by decide +kernel
theorem dX4_waitingHours_32 : decode cX4_waitingHours 32 = .ok (.istore_n 3, 1) := by decide +kernel
theorem dX4_waitingHours_33 : decode cX4_waitingHours 33 = .ok (.iconst 0, 1) := by decide +kernel
theorem dX4_waitingHours_34 : decode cX4_waitingHours 34 = .ok (.iload_n 3, 1) := by decide +kernel
theorem dX4_waitingHours_35 : decode cX4_waitingHours 35 = .ok (.iload_n 2, 1) := by decide +kernel
theorem dX4_waitingHours_36 : decode cX4_waitingHours 36 = .ok (.isub, 1) := by decide +kernel
theorem dX4_waitingHours_37 : decode cX4_waitingHours 37 = .ok (.invokestatic 274, 3) := by decide +kernel
theorem dX4_waitingHours_40 : decode cX4_waitingHours 40 = .ok (.ireturn, 1) := by decide +kernel
set_option maxRecDepth 20000 in
theorem ggX4_chargeInSteps_X4_punctualityOf : GoodIn wsX4_chargeInSteps wsX4_punctualityOf := goodIn_r _ [16, 17, 18, 19, 40, 41, 42, 43, 44, 45, 46, 47, 48, 49, 27, 28, 29, 30, 31, 32, 33, 34, 35, 36, 37, 38, 39] (by decide +kernel) (by decide +kernel)
set_option maxRecDepth 20000 in
theorem gX4_chargeInSteps_X4_punctualityOf : GoodIn wsX4_chargeInSteps (wsV RX4 132 RX4 yX4_punctualityOf wsX4_punctualityOf) := goodIn_app (goodIn_of _ (by decide +kernel)) ggX4_chargeInSteps_X4_punctualityOf
set_option maxRecDepth 20000 in
theorem ggX4_chargeInSteps_X4_waitingHours : GoodIn wsX4_chargeInSteps wsX4_waitingHours := goodIn_r _ [23, 17, 18, 2, 3, 4, 5, 24, 25, 26, 40, 41, 42, 43, 44, 45, 46, 47, 48, 49, 27, 28, 29, 30, 31, 32, 33, 34, 35, 36, 37, 38, 39] (by decide +kernel) (by decide +kernel)
set_option maxRecDepth 20000 in
theorem gX4_chargeInSteps_X4_waitingHours : GoodIn wsX4_chargeInSteps (wsV RX4 225 RX4 yX4_waitingHours wsX4_waitingHours) := goodIn_app (goodIn_of _ (by decide +kernel)) ggX4_chargeInSteps_X4_waitingHours
theorem dX4_chargeInSteps_0 : decode cX4_chargeInSteps 0 = .ok (.aload_n 0, 1) := by decide +kernel
theorem dX4_chargeInSteps_1 : decode cX4_chargeInSteps 1 = .ok (.aload_n 1, 1) := by decide +kernel
theorem dX4_chargeInSteps_2 : decode cX4_chargeInSteps 2 = .ok (.invokevirtual 132, 3) := by decide +kernel
theorem dX4_chargeInSteps_5 : decode cX4_chargeInSteps 5 = .ok (.bipush 108, 2) := by decide +kernel
theorem dX4_chargeInSteps_7 : decode cX4_chargeInSteps 7 = .ok (.if_icmp .ne 5, 3) := by decide +kernel
theorem dX4_chargeInSteps_10 : decode cX4_chargeInSteps 10 = .ok (.iconst 0, 1) := by decide +kernel
theorem dX4_chargeInSteps_11 : decode cX4_chargeInSteps 11 = .ok (.ireturn, 1) := by decide +kernel
theorem dX4_chargeInSteps_12 : decode cX4_chargeInSteps 12 = .ok (.iconst 0, 1) := by decide +kernel
theorem dX4_chargeInSteps_13 : decode cX4_chargeInSteps 13 = .ok (.aload_n 0, 1) := by decide +kernel
theorem dX4_chargeInSteps_14 : decode cX4_chargeInSteps 14 = .ok (.aload_n 1, 1) := by decide +kernel
theorem dX4_chargeInSteps_15 : decode cX4_chargeInSteps 15 = .ok (.invokevirtual 225, 3) := by decide +kernel
theorem dX4_chargeInSteps_18 : decode cX4_chargeInSteps 18 = .ok (.aload_n 0, 1) := by decide +kernel
theorem dX4_chargeInSteps_19 : decode cX4_chargeInSteps 19 = .ok (.getfield 32, 3) := by decide +kernel
theorem dX4_chargeInSteps_22 : decode cX4_chargeInSteps 22 = .ok (.isub, 1) := by decide +kernel
theorem dX4_chargeInSteps_23 : decode cX4_chargeInSteps 23 = .ok (.invokestatic 274, 3) := by decide +kernel
theorem dX4_chargeInSteps_26 : decode cX4_chargeInSteps 26 = .ok (.istore_n 2, 1) := by decide +kernel
theorem dX4_chargeInSteps_27 : decode cX4_chargeInSteps 27 = .ok (.iload_n 2, 1) := by decide +kernel
theorem dX4_chargeInSteps_28 : decode cX4_chargeInSteps 28 = .ok (.aload_n 0, 1) := by decide +kernel
theorem dX4_chargeInSteps_29 : decode cX4_chargeInSteps 29 = .ok (.getfield 38, 3) := by decide +kernel
theorem dX4_chargeInSteps_32 : decode cX4_chargeInSteps 32 = .ok (.invokestatic 268, 3) := by decide +kernel
theorem dX4_chargeInSteps_35 : decode cX4_chargeInSteps 35 = .ok (.istore_n 3, 1) := by decide +kernel
theorem dX4_chargeInSteps_36 : decode cX4_chargeInSteps 36 = .ok (.iload_n 3, 1) := by decide +kernel
theorem dX4_chargeInSteps_37 : decode cX4_chargeInSteps 37 = .ok (.aload_n 0, 1) := by decide +kernel
theorem dX4_chargeInSteps_38 : decode cX4_chargeInSteps 38 = .ok (.getfield 35, 3) := by decide +kernel
theorem dX4_chargeInSteps_41 : decode cX4_chargeInSteps 41 = .ok (.imul, 1) := by decide +kernel
theorem dX4_chargeInSteps_42 : decode cX4_chargeInSteps 42 = .ok (.iload_n 2, 1) := by decide +kernel
theorem dX4_chargeInSteps_43 : decode cX4_chargeInSteps 43 = .ok (.iload_n 3, 1) := by decide +kernel
theorem dX4_chargeInSteps_44 : decode cX4_chargeInSteps 44 = .ok (.isub, 1) := by decide +kernel
theorem dX4_chargeInSteps_45 : decode cX4_chargeInSteps 45 = .ok (.aload_n 0, 1) := by decide +kernel
theorem dX4_chargeInSteps_46 : decode cX4_chargeInSteps 46 = .ok (.getfield 41, 3) := by decide +kernel
theorem dX4_chargeInSteps_49 : decode cX4_chargeInSteps 49 = .ok (.imul, 1) := by decide +kernel
theorem dX4_chargeInSteps_50 : decode cX4_chargeInSteps 50 = .ok (.iadd, 1) := by decide +kernel
theorem dX4_chargeInSteps_51 : decode cX4_chargeInSteps 51 = .ok (.ireturn, 1) := by decide +kernel
theorem dX4_rateOfHour_0 : decode cX4_rateOfHour 0 = .ok (.iload_n 1, 1) := by decide +kernel
theorem dX4_rateOfHour_1 : decode cX4_rateOfHour 1 = .ok (.aload_n 0, 1) := by decide +kernel
theorem dX4_rateOfHour_2 : decode cX4_rateOfHour 2 = .ok (.getfield 32, 3) := by decide +kernel
theorem dX4_rateOfHour_5 : decode cX4_rateOfHour 5 = .ok (.if_icmp .ge 5, 3) := by decide +kernel
theorem dX4_rateOfHour_8 : decode cX4_rateOfHour 8 = .ok (.iconst 0, 1) := by decide +kernel
theorem dX4_rateOfHour_9 : decode cX4_rateOfHour 9 = .ok (.ireturn, 1) := by decide +kernel
theorem dX4_rateOfHour_10 : decode cX4_rateOfHour 10 = .ok (.iload_n 1, 1) := by decide +kernel
theorem dX4_rateOfHour_11 : decode cX4_rateOfHour 11 = .ok (.aload_n 0, 1) := by decide +kernel
theorem dX4_rateOfHour_12 : decode cX4_rateOfHour 12 = .ok (.getfield 32, 3) := by decide +kernel
theorem dX4_rateOfHour_15 : decode cX4_rateOfHour 15 = .ok (.aload_n 0, 1) := by decide +kernel
theorem dX4_rateOfHour_16 : decode cX4_rateOfHour 16 = .ok (.getfield 38, 3) := by decide +kernel
theorem dX4_rateOfHour_19 : decode cX4_rateOfHour 19 = .ok (.iadd, 1) := by decide +kernel
theorem dX4_rateOfHour_20 : decode cX4_rateOfHour 20 = .ok (.if_icmp .ge 10, 3) := by decide +kernel
theorem dX4_rateOfHour_23 : decode cX4_rateOfHour 23 = .ok (.aload_n 0, 1) := by decide +kernel
theorem dX4_rateOfHour_24 : decode cX4_rateOfHour 24 = .ok (.getfield 35, 3) := by decide +kernel
theorem dX4_rateOfHour_27 : decode cX4_rateOfHour 27 = .ok (.goto 7, 3) := by decide +kernel
theorem dX4_rateOfHour_30 : decode cX4_rateOfHour 30 = .ok (.aload_n 0, 1) := by decide +kernel
theorem dX4_rateOfHour_31 : decode cX4_rateOfHour 31 = .ok (.getfield 41, 3) := by decide +kernel
theorem dX4_rateOfHour_34 : decode cX4_rateOfHour 34 = .ok (.ireturn, 1) := by decide +kernel
