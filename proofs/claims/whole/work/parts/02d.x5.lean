theorem dX5_init_0 : decode cX5_init 0 = .ok (.aload_n 0, 1) := by decide +kernel
theorem dX5_init_1 : decode cX5_init 1 = .ok (.invokespecial 1, 3) := by decide +kernel
theorem dX5_init_4 : decode cX5_init 4 = .ok (.aload_n 0, 1) := by decide +kernel
theorem dX5_init_5 : decode cX5_init 5 = .ok (.iconst 4, 1) := by decide +kernel
theorem dX5_init_6 : decode cX5_init 6 = .ok (.newarray .int, 2) := by decide +kernel
theorem dX5_init_8 : decode cX5_init 8 = .ok (.putfield 7, 3) := by decide +kernel
theorem dX5_init_11 : decode cX5_init 11 = .ok (.aload_n 0, 1) := by decide +kernel
theorem dX5_init_12 : decode cX5_init 12 = .ok (.iconst 4, 1) := by decide +kernel
theorem dX5_init_13 : decode cX5_init 13 = .ok (.newarray .boolean, 2) := by decide +kernel
theorem dX5_init_15 : decode cX5_init 15 = .ok (.putfield 13, 3) := by decide +kernel
theorem dX5_init_18 : decode cX5_init 18 = .ok (.aload_n 0, 1) := by decide +kernel
theorem dX5_init_19 : decode cX5_init 19 = .ok (.iconst 4, 1) := by decide +kernel
theorem dX5_init_20 : decode cX5_init 20 = .ok (.newarray .int, 2) := by decide +kernel
theorem dX5_init_22 : decode cX5_init 22 = .ok (.putfield 17, 3) := by decide +kernel
theorem dX5_init_25 : decode cX5_init 25 = .ok (.aload_n 0, 1) := by decide +kernel
theorem dX5_init_26 : decode cX5_init 26 = .ok (.bipush 12, 2) := by decide +kernel
theorem dX5_init_28 : decode cX5_init 28 = .ok (.newarray .int, 2) := by decide +kernel
theorem dX5_init_30 : decode cX5_init 30 = .ok (.putfield 20, 3) := by decide +kernel
theorem dX5_init_33 : decode cX5_init 33 = .ok (.aload_n 0, 1) := by decide +kernel
theorem dX5_init_34 : decode cX5_init 34 = .ok (.iconst 4, 1) := by decide +kernel
theorem dX5_init_35 : decode cX5_init 35 = .ok (.newarray .char, 2) := by decide +kernel
theorem dX5_init_37 : decode cX5_init 37 = .ok (.putfield 23, 3) := by decide +kernel
theorem dX5_init_40 : decode cX5_init 40 = .ok (.aload_n 0, 1) := by decide +kernel
theorem dX5_init_41 : decode cX5_init 41 = .ok (.iconst 4, 1) := by decide +kernel
theorem dX5_init_42 : decode cX5_init 42 = .ok (.newarray .int, 2) := by decide +kernel
theorem dX5_init_44 : decode cX5_init 44 = .ok (.putfield 27, 3) := by decide +kernel
theorem dX5_init_47 : decode cX5_init 47 = .ok (.aload_n 0, 1) := by decide +kernel
theorem dX5_init_48 : decode cX5_init 48 = .ok (.bipush 40, 2) := by decide +kernel
theorem dX5_init_50 : decode cX5_init 50 = .ok (.newarray .int, 2) := by decide +kernel
theorem dX5_init_52 : decode cX5_init 52 = .ok (.putfield 30, 3) := by decide +kernel
theorem dX5_init_55 : decode cX5_init 55 = .ok (.aload_n 0, 1) := by decide +kernel
theorem dX5_init_56 : decode cX5_init 56 = .ok (.bipush 40, 2) := by decide +kernel
theorem dX5_init_58 : decode cX5_init 58 = .ok (.newarray .char, 2) := by decide +kernel
theorem dX5_init_60 : decode cX5_init 60 = .ok (.putfield 33, 3) := by decide +kernel
theorem dX5_init_63 : decode cX5_init 63 = .ok (.aload_n 0, 1) := by decide +kernel
theorem dX5_init_64 : decode cX5_init 64 = .ok (.bipush 40, 2) := by decide +kernel
theorem dX5_init_66 : decode cX5_init 66 = .ok (.newarray .int, 2) := by decide +kernel
theorem dX5_init_68 : decode cX5_init 68 = .ok (.putfield 36, 3) := by decide +kernel
theorem dX5_init_71 : decode cX5_init 71 = .ok (.aload_n 0, 1) := by decide +kernel
theorem dX5_init_72 : decode cX5_init 72 = .ok (.bipush 40, 2) := by decide +kernel
theorem dX5_init_74 : decode cX5_init 74 = .ok (.newarray .char, 2) := by decide +kernel
theorem dX5_init_76 : decode cX5_init 76 = .ok (.putfield 39, 3) := by decide +kernel
theorem dX5_init_79 : decode cX5_init 79 = .ok (.aload_n 0, 1) := by decide +kernel
theorem dX5_init_80 : decode cX5_init 80 = .ok (.bipush 40, 2) := by decide +kernel
theorem dX5_init_82 : decode cX5_init 82 = .ok (.newarray .int, 2) := by decide +kernel
theorem dX5_init_84 : decode cX5_init 84 = .ok (.putfield 42, 3) := by decide +kernel
theorem dX5_init_87 : decode cX5_init 87 = .ok (.aload_n 0, 1) := by decide +kernel
theorem dX5_init_88 : decode cX5_init 88 = .ok (.bipush 40, 2) := by decide +kernel
theorem dX5_init_90 : decode cX5_init 90 = .ok (.newarray .int, 2) := by decide +kernel
theorem dX5_init_92 : decode cX5_init 92 = .ok (.putfield 45, 3) := by decide +kernel
theorem dX5_init_95 : decode cX5_init 95 = .ok (.aload_n 0, 1) := by decide +kernel
theorem dX5_init_96 : decode cX5_init 96 = .ok (.bipush 40, 2) := by decide +kernel
theorem dX5_init_98 : decode cX5_init 98 = .ok (.newarray .int, 2) := by decide +kernel
theorem dX5_init_100 : decode cX5_init 100 = .ok (.putfield 48, 3) := by decide +kernel
theorem dX5_init_103 : decode cX5_init 103 = .ok (.aload_n 0, 1) := by decide +kernel
theorem dX5_init_104 : decode cX5_init 104 = .ok (.iconst 1, 1) := by decide +kernel
theorem dX5_init_105 : decode cX5_init 105 = .ok (.putfield 51, 3) := by decide +kernel
theorem dX5_init_108 : decode cX5_init 108 = .ok (.aload_n 0, 1) := by decide +kernel
theorem dX5_init_109 : decode cX5_init 109 = .ok (.iconst 2, 1) := by decide +kernel
theorem dX5_init_110 : decode cX5_init 110 = .ok (.putfield 55, 3) := by decide +kernel
theorem dX5_init_113 : decode cX5_init 113 = .ok (.aload_n 0, 1) := by decide +kernel
theorem dX5_init_114 : decode cX5_init 114 = .ok (.bipush 30, 2) := by decide +kernel
theorem dX5_init_116 : decode cX5_init 116 = .ok (.putfield 58, 3) := by decide +kernel
theorem dX5_init_119 : decode cX5_init 119 = .ok (.aload_n 0, 1) := by decide +kernel
theorem dX5_init_120 : decode cX5_init 120 = .ok (.iconst 4, 1) := by decide +kernel
theorem dX5_init_121 : decode cX5_init 121 = .ok (.putfield 61, 3) := by decide +kernel
theorem dX5_init_124 : decode cX5_init 124 = .ok (.aload_n 0, 1) := by decide +kernel
theorem dX5_init_125 : decode cX5_init 125 = .ok (.bipush 50, 2) := by decide +kernel
theorem dX5_init_127 : decode cX5_init 127 = .ok (.putfield 64, 3) := by decide +kernel
theorem dX5_init_130 : decode cX5_init 130 = .ok (.return_, 1) := by decide +kernel
theorem dX5_thrown_0 : decode cX5_thrown 0 = .ok (.aload_n 0, 1) := by decide +kernel
theorem dX5_thrown_1 : decode cX5_thrown 1 = .ok (.getfield 67, 3) := by decide +kernel
theorem dX5_thrown_4 : decode cX5_thrown 4 = .ok (.ireturn, 1) := by decide +kernel
theorem dX5_fails_0 : decode cX5_fails 0 = .ok (.aload_n 0, 1) := by decide +kernel
theorem dX5_fails_1 : decode cX5_fails 1 = .ok (.iload_n 1, 1) := by decide +kernel
theorem dX5_fails_2 : decode cX5_fails 2 = .ok (.putfield 67, 3) := by decide +kernel
theorem dX5_fails_5 : decode cX5_fails 5 = .ok (.iload_n 1, 1) := by decide +kernel
theorem dX5_fails_6 : decode cX5_fails 6 = .ok (.ifCond .le 7, 3) := by decide +kernel
theorem dX5_fails_9 : decode cX5_fails 9 = .ok (.iconst 1, 1) := by decide +kernel
theorem dX5_fails_10 : decode cX5_fails 10 = .ok (.goto 4, 3) := by decide +kernel
theorem dX5_fails_13 : decode cX5_fails 13 = .ok (.iconst 0, 1) := by decide +kernel
theorem dX5_fails_14 : decode cX5_fails 14 = .ok (.ireturn, 1) := by decide +kernel
theorem dX5_tells_0 : decode cX5_tells 0 = .ok (.aload_n 0, 1) := by decide +kernel
theorem dX5_tells_1 : decode cX5_tells 1 = .ok (.iconst 0, 1) := by decide +kernel
theorem dX5_tells_2 : decode cX5_tells 2 = .ok (.putfield 67, 3) := by decide +kernel
theorem dX5_tells_5 : decode cX5_tells 5 = .ok (.iload_n 1, 1) := by decide +kernel
theorem dX5_tells_6 : decode cX5_tells 6 = .ok (.ireturn, 1) := by decide +kernel
theorem dX5_in_0 : decode cX5_in 0 = .ok (.iload_n 0, 1) := by decide +kernel
theorem dX5_in_1 : decode cX5_in 1 = .ok (.iload_n 1, 1) := by decide +kernel
theorem dX5_in_2 : decode cX5_in 2 = .ok (.if_icmp .lt 12, 3) := by decide +kernel
theorem dX5_in_5 : decode cX5_in 5 = .ok (.iload_n 0, 1) := by decide +kernel
theorem dX5_in_6 : decode cX5_in 6 = .ok (.iload_n 2, 1) := by decide +kernel
theorem dX5_in_7 : decode cX5_in 7 = .ok (.if_icmp .gt 7, 3) := by decide +kernel
theorem dX5_in_10 : decode cX5_in 10 = .ok (.iconst 1, 1) := by decide +kernel
theorem dX5_in_11 : decode cX5_in 11 = .ok (.goto 4, 3) := by decide +kernel
theorem dX5_in_14 : decode cX5_in 14 = .ok (.iconst 0, 1) := by decide +kernel
theorem dX5_in_15 : decode cX5_in 15 = .ok (.ireturn, 1) := by decide +kernel
set_option maxRecDepth 20000 in
theorem ggX5_isNoLane_X5_in : GoodIn wsX5_isNoLane wsX5_in := goodIn_r _ [5] (by decide +kernel) (by decide +kernel)
set_option maxRecDepth 20000 in
theorem gX5_isNoLane_X5_in : GoodIn wsX5_isNoLane (va_wsS RX5 73 yX5_in wsX5_in) := goodIn_app (goodIn_of _ (by decide +kernel)) ggX5_isNoLane_X5_in
theorem dX5_isNoLane_0 : decode cX5_isNoLane 0 = .ok (.iload_n 1, 1) := by decide +kernel
theorem dX5_isNoLane_1 : decode cX5_isNoLane 1 = .ok (.iconst 0, 1) := by decide +kernel
theorem dX5_isNoLane_2 : decode cX5_isNoLane 2 = .ok (.aload_n 0, 1) := by decide +kernel
theorem dX5_isNoLane_3 : decode cX5_isNoLane 3 = .ok (.getfield 70, 3) := by decide +kernel
theorem dX5_isNoLane_6 : decode cX5_isNoLane 6 = .ok (.iconst 1, 1) := by decide +kernel
theorem dX5_isNoLane_7 : decode cX5_isNoLane 7 = .ok (.isub, 1) := by decide +kernel
theorem dX5_isNoLane_8 : decode cX5_isNoLane 8 = .ok (.invokestatic 73, 3) := by decide +kernel
theorem dX5_isNoLane_11 : decode cX5_isNoLane 11 = .ok (.ifCond .ne 7, 3) := by decide +kernel
theorem dX5_isNoLane_14 : decode cX5_isNoLane 14 = .ok (.iconst 1, 1) := by decide +kernel
theorem dX5_isNoLane_15 : decode cX5_isNoLane 15 = .ok (.goto 4, 3) := by decide +kernel
theorem dX5_isNoLane_18 : decode cX5_isNoLane 18 = .ok (.iconst 0, 1) := by decide +kernel
theorem dX5_isNoLane_19 : decode cX5_isNoLane 19 = .ok (.ireturn, 1) := by decide +kernel
set_option maxRecDepth 20000 in
theorem ggX5_isNone_X5_in : GoodIn wsX5_isNone wsX5_in := goodIn_r _ [5] (by decide +kernel) (by decide +kernel)
set_option maxRecDepth 20000 in
theorem gX5_isNone_X5_in : GoodIn wsX5_isNone (va_wsS RX5 73 yX5_in wsX5_in) := goodIn_app (goodIn_of _ (by decide +kernel)) ggX5_isNone_X5_in
theorem dX5_isNone_0 : decode cX5_isNone 0 = .ok (.iload_n 1, 1) := by decide +kernel
theorem dX5_isNone_1 : decode cX5_isNone 1 = .ok (.iconst 0, 1) := by decide +kernel
theorem dX5_isNone_2 : decode cX5_isNone 2 = .ok (.aload_n 0, 1) := by decide +kernel
theorem dX5_isNone_3 : decode cX5_isNone 3 = .ok (.getfield 77, 3) := by decide +kernel
theorem dX5_isNone_6 : decode cX5_isNone 6 = .ok (.iconst 1, 1) := by decide +kernel
theorem dX5_isNone_7 : decode cX5_isNone 7 = .ok (.isub, 1) := by decide +kernel
theorem dX5_isNone_8 : decode cX5_isNone 8 = .ok (.invokestatic 73, 3) := by decide +kernel
theorem dX5_isNone_11 : decode cX5_isNone 11 = .ok (.ifCond .ne 7, 3) := by decide +kernel
theorem dX5_isNone_14 : decode cX5_isNone 14 = .ok (.iconst 1, 1) := by decide +kernel
theorem dX5_isNone_15 : decode cX5_isNone 15 = .ok (.goto 4, 3) := by decide +kernel
theorem dX5_isNone_18 : decode cX5_isNone 18 = .ok (.iconst 0, 1) := by decide +kernel
theorem dX5_isNone_19 : decode cX5_isNone 19 = .ok (.ireturn, 1) := by decide +kernel
set_option maxRecDepth 20000 in
theorem ggX5_addLane_X5_in : GoodIn wsX5_addLane wsX5_in := goodIn_r _ [7] (by decide +kernel) (by decide +kernel)
set_option maxRecDepth 20000 in
theorem gX5_addLane_X5_in : GoodIn wsX5_addLane (va_wsS RX5 73 yX5_in wsX5_in) := goodIn_app (goodIn_of _ (by decide +kernel)) ggX5_addLane_X5_in
set_option maxRecDepth 20000 in
theorem ggX5_addLane_X5_fails : GoodIn wsX5_addLane wsX5_fails := goodIn_r _ [11, 12, 13, 14, 15, 16, 17, 18, 19, 20, 21, 22, 23, 24, 25, 26, 27, 28, 29, 30, 31, 32, 33, 34, 35, 36, 37] (by decide +kernel) (by decide +kernel)
set_option maxRecDepth 20000 in
theorem gX5_addLane_X5_fails : GoodIn wsX5_addLane (wsV RX5 80 RX5 yX5_fails wsX5_fails) := goodIn_app (goodIn_of _ (by decide +kernel)) ggX5_addLane_X5_fails
theorem dX5_addLane_0 : decode cX5_addLane 0 = .ok (.aload_n 0, 1) := by decide +kernel
theorem dX5_addLane_1 : decode cX5_addLane 1 = .ok (.iload_n 1, 1) := by decide +kernel
theorem dX5_addLane_2 : decode cX5_addLane 2 = .ok (.iconst 1, 1) := by decide +kernel
theorem dX5_addLane_3 : decode cX5_addLane 3 = .ok (.iconst 3, 1) := by decide +kernel
theorem dX5_addLane_4 : decode cX5_addLane 4 = .ok (.invokestatic 73, 3) := by decide +kernel
theorem dX5_addLane_7 : decode cX5_addLane 7 = .ok (.ifCond .ne 7, 3) := by decide +kernel
theorem dX5_addLane_10 : decode cX5_addLane 10 = .ok (.iconst 1, 1) := by decide +kernel
theorem dX5_addLane_11 : decode cX5_addLane 11 = .ok (.goto 16, 3) := by decide +kernel
theorem dX5_addLane_14 : decode cX5_addLane 14 = .ok (.aload_n 0, 1) := by decide +kernel
theorem dX5_addLane_15 : decode cX5_addLane 15 = .ok (.getfield 70, 3) := by decide +kernel
theorem dX5_addLane_18 : decode cX5_addLane 18 = .ok (.iconst 4, 1) := by decide +kernel
theorem dX5_addLane_19 : decode cX5_addLane 19 = .ok (.if_icmp .ne 7, 3) := by decide +kernel
theorem dX5_addLane_22 : decode cX5_addLane 22 = .ok (.iconst 2, 1) := by decide +kernel
theorem dX5_addLane_23 : decode cX5_addLane 23 = .ok (.goto 4, 3) := by decide +kernel
theorem dX5_addLane_26 : decode cX5_addLane 26 = .ok (.iconst 0, 1) := by decide +kernel
theorem dX5_addLane_27 : decode cX5_addLane 27 = .ok (.invokevirtual 80, 3) := by decide +kernel
theorem dX5_addLane_30 : decode cX5_addLane 30 = .ok (.ifCond .eq 5, 3) := by decide +kernel
theorem dX5_addLane_33 : decode cX5_addLane 33 = .ok (.iconst 0, 1) := by decide +kernel
theorem dX5_addLane_34 : decode cX5_addLane 34 = .ok (.ireturn, 1) := by decide +kernel
theorem dX5_addLane_35 : decode cX5_addLane 35 = .ok (.aload_n 0, 1) := by decide +kernel
theorem dX5_addLane_36 : decode cX5_addLane 36 = .ok (.getfield 7, 3) := by decide +kernel
theorem dX5_addLane_39 : decode cX5_addLane 39 = .ok (.aload_n 0, 1) := by decide +kernel
theorem dX5_addLane_40 : decode cX5_addLane 40 = .ok (.getfield 70, 3) := by decide +kernel
theorem dX5_addLane_43 : decode cX5_addLane 43 = .ok (.iload_n 1, 1) := by decide +kernel
theorem dX5_addLane_44 : decode cX5_addLane 44 = .ok (.iastore, 1) := by decide +kernel
theorem dX5_addLane_45 : decode cX5_addLane 45 = .ok (.aload_n 0, 1) := by decide +kernel
theorem dX5_addLane_46 : decode cX5_addLane 46 = .ok (.getfield 13, 3) := by decide +kernel
theorem dX5_addLane_49 : decode cX5_addLane 49 = .ok (.aload_n 0, 1) := by decide +kernel
theorem dX5_addLane_50 : decode cX5_addLane 50 = .ok (.getfield 70, 3) := by decide +kernel
theorem dX5_addLane_53 : decode cX5_addLane 53 = .ok (.iload_n 2, 1) := by decide +kernel
theorem dX5_addLane_54 : decode cX5_addLane 54 = .ok (.bastore, 1) := by decide +kernel
theorem dX5_addLane_55 : decode cX5_addLane 55 = .ok (.aload_n 0, 1) := by decide +kernel
theorem dX5_addLane_56 : decode cX5_addLane 56 = .ok (.dup, 1) := by decide +kernel
theorem dX5_addLane_57 : decode cX5_addLane 57 = .ok (.getfield 70, 3) := by decide +kernel
theorem dX5_addLane_60 : decode cX5_addLane 60 = .ok (.iconst 1, 1) := by decide +kernel
theorem dX5_addLane_61 : decode cX5_addLane 61 = .ok (.iadd, 1) := by decide +kernel
theorem dX5_addLane_62 : decode cX5_addLane 62 = .ok (.putfield 70, 3) := by decide +kernel
theorem dX5_addLane_65 : decode cX5_addLane 65 = .ok (.aload_n 0, 1) := by decide +kernel
theorem dX5_addLane_66 : decode cX5_addLane 66 = .ok (.getfield 70, 3) := by decide +kernel
theorem dX5_addLane_69 : decode cX5_addLane 69 = .ok (.iconst 1, 1) := by decide +kernel
theorem dX5_addLane_70 : decode cX5_addLane 70 = .ok (.isub, 1) := by decide +kernel
theorem dX5_addLane_71 : decode cX5_addLane 71 = .ok (.ireturn, 1) := by decide +kernel
set_option maxRecDepth 20000 in
theorem ggX5_addDoor_X5_fails : GoodIn wsX5_addDoor wsX5_fails := goodIn_r _ [8, 9, 10, 11, 12, 13, 14, 15, 16, 17, 18, 19, 20, 21, 22, 23, 24, 25, 26, 27, 28, 29, 30, 31, 32, 33, 34] (by decide +kernel) (by decide +kernel)
set_option maxRecDepth 20000 in
theorem gX5_addDoor_X5_fails : GoodIn wsX5_addDoor (wsV RX5 80 RX5 yX5_fails wsX5_fails) := goodIn_app (goodIn_of _ (by decide +kernel)) ggX5_addDoor_X5_fails
theorem dX5_addDoor_0 : decode cX5_addDoor 0 = .ok (.aload_n 0, 1) := by decide +kernel
theorem dX5_addDoor_1 : decode cX5_addDoor 1 = .ok (.iload_n 1, 1) := by decide +kernel
theorem dX5_addDoor_2 : decode cX5_addDoor 2 = .ok (.bipush 100, 2) := by decide +kernel
theorem dX5_addDoor_4 : decode cX5_addDoor 4 = .ok (.if_icmp .eq 19, 3) := by decide +kernel
theorem dX5_addDoor_7 : decode cX5_addDoor 7 = .ok (.iload_n 1, 1) := by decide +kernel
theorem dX5_addDoor_8 : decode cX5_addDoor 8 = .ok (.bipush 99, 2) := by decide +kernel
theorem dX5_addDoor_10 : decode cX5_addDoor 10 = .ok (.if_icmp .eq 13, 3) := by decide +kernel
theorem dX5_addDoor_13 : decode cX5_addDoor 13 = .ok (.iload_n 1, 1) := by decide +kernel
theorem dX5_addDoor_14 : decode cX5_addDoor 14 = .ok (.bipush 98, 2) := by decide +kernel
theorem dX5_addDoor_16 : decode cX5_addDoor 16 = .ok (.if_icmp .eq 7, 3) := by decide +kernel
theorem dX5_addDoor_19 : decode cX5_addDoor 19 = .ok (.iconst 1, 1) := by decide +kernel
theorem dX5_addDoor_20 : decode cX5_addDoor 20 = .ok (.goto 16, 3) := by decide +kernel
theorem dX5_addDoor_23 : decode cX5_addDoor 23 = .ok (.aload_n 0, 1) := by decide +kernel
theorem dX5_addDoor_24 : decode cX5_addDoor 24 = .ok (.getfield 84, 3) := by decide +kernel
theorem dX5_addDoor_27 : decode cX5_addDoor 27 = .ok (.iconst 4, 1) := by decide +kernel
theorem dX5_addDoor_28 : decode cX5_addDoor 28 = .ok (.if_icmp .ne 7, 3) := by decide +kernel
theorem dX5_addDoor_31 : decode cX5_addDoor 31 = .ok (.iconst 2, 1) := by decide +kernel
theorem dX5_addDoor_32 : decode cX5_addDoor 32 = .ok (.goto 4, 3) := by decide +kernel
theorem dX5_addDoor_35 : decode cX5_addDoor 35 = .ok (.iconst 0, 1) := by decide +kernel
theorem dX5_addDoor_36 : decode cX5_addDoor 36 = .ok (.invokevirtual 80, 3) := by decide +kernel
theorem dX5_addDoor_39 : decode cX5_addDoor 39 = .ok (.ifCond .eq 5, 3) := by decide +kernel
theorem dX5_addDoor_42 : decode cX5_addDoor 42 = .ok (.iconst 0, 1) := by decide +kernel
theorem dX5_addDoor_43 : decode cX5_addDoor 43 = .ok (.ireturn, 1) := by decide +kernel
theorem dX5_addDoor_44 : decode cX5_addDoor 44 = .ok (.aload_n 0, 1) := by decide +kernel
theorem dX5_addDoor_45 : decode cX5_addDoor 45 = .ok (.getfield 23, 3) := by decide +kernel
theorem dX5_addDoor_48 : decode cX5_addDoor 48 = .ok (.aload_n 0, 1) := by decide +kernel
theorem dX5_addDoor_49 : decode cX5_addDoor 49 = .ok (.getfield 84, 3) := by decide +kernel
theorem dX5_addDoor_52 : decode cX5_addDoor 52 = .ok (.iload_n 1, 1) := by decide +kernel
theorem dX5_addDoor_53 : decode cX5_addDoor 53 = .ok (.castore, 1) := by decide +kernel
theorem dX5_addDoor_54 : decode cX5_addDoor 54 = .ok (.aload_n 0, 1) := by decide +kernel
theorem dX5_addDoor_55 : decode cX5_addDoor 55 = .ok (.getfield 27, 3) := by decide +kernel
theorem dX5_addDoor_58 : decode cX5_addDoor 58 = .ok (.aload_n 0, 1) := by decide +kernel
theorem dX5_addDoor_59 : decode cX5_addDoor 59 = .ok (.getfield 84, 3) := by decide +kernel
theorem dX5_addDoor_62 : decode cX5_addDoor 62 = .ok (.iconst (-1), 1) := by decide +kernel
theorem dX5_addDoor_63 : decode cX5_addDoor 63 = .ok (.iastore, 1) := by decide +kernel
theorem dX5_addDoor_64 : decode cX5_addDoor 64 = .ok (.aload_n 0, 1) := by decide +kernel
theorem dX5_addDoor_65 : decode cX5_addDoor 65 = .ok (.dup, 1) := by decide +kernel
theorem dX5_addDoor_66 : decode cX5_addDoor 66 = .ok (.getfield 84, 3) := by decide +kernel
theorem dX5_addDoor_69 : decode cX5_addDoor 69 = .ok (.iconst 1, 1) := by decide +kernel
theorem dX5_addDoor_70 : decode cX5_addDoor 70 = .ok (.iadd, 1) := by decide +kernel
theorem dX5_addDoor_71 : decode cX5_addDoor 71 = .ok (.putfield 84, 3) := by decide +kernel
theorem dX5_addDoor_74 : decode cX5_addDoor 74 = .ok (.aload_n 0, 1) := by decide +kernel
theorem dX5_addDoor_75 : decode cX5_addDoor 75 = .ok (.getfield 84, 3) := by decide +kernel
theorem dX5_addDoor_78 : decode cX5_addDoor 78 = .ok (.iconst 1, 1) := by decide +kernel
theorem dX5_addDoor_79 : decode cX5_addDoor 79 = .ok (.isub, 1) := by decide +kernel
theorem dX5_addDoor_80 : decode cX5_addDoor 80 = .ok (.ireturn, 1) := by decide +kernel
set_option maxRecDepth 20000 in
theorem ggX5_setTolerance_X5_in : GoodIn wsX5_setTolerance wsX5_in := goodIn_r _ [5] (by decide +kernel) (by decide +kernel)
set_option maxRecDepth 20000 in
theorem gX5_setTolerance_X5_in : GoodIn wsX5_setTolerance (va_wsS RX5 73 yX5_in wsX5_in) := goodIn_app (goodIn_of _ (by decide +kernel)) ggX5_setTolerance_X5_in
set_option maxRecDepth 20000 in
theorem ggX5_setTolerance_X5_fails : GoodIn wsX5_setTolerance wsX5_fails := goodIn_r _ [9, 10, 11, 12, 13, 14, 15, 16, 17, 18, 19, 20, 21, 22, 23, 24, 25, 26, 27, 28, 29, 30, 31, 32, 33, 34, 35] (by decide +kernel) (by decide +kernel)
set_option maxRecDepth 20000 in
theorem gX5_setTolerance_X5_fails : GoodIn wsX5_setTolerance (wsV RX5 80 RX5 yX5_fails wsX5_fails) := goodIn_app (goodIn_of _ (by decide +kernel)) ggX5_setTolerance_X5_fails
theorem dX5_setTolerance_0 : decode cX5_setTolerance 0 = .ok (.aload_n 0, 1) := by decide +kernel
theorem dX5_setTolerance_1 : decode cX5_setTolerance 1 = .ok (.iload_n 1, 1) := by decide +kernel
theorem dX5_setTolerance_2 : decode cX5_setTolerance 2 = .ok (.iconst 0, 1) := by decide +kernel
theorem dX5_setTolerance_3 : decode cX5_setTolerance 3 = .ok (.bipush 9, 2) := by decide +kernel
theorem dX5_setTolerance_5 : decode cX5_setTolerance 5 = .ok (.invokestatic 73, 3) := by decide +kernel
theorem dX5_setTolerance_8 : decode cX5_setTolerance 8 = .ok (.ifCond .eq 7, 3) := by decide +kernel
theorem dX5_setTolerance_11 : decode cX5_setTolerance 11 = .ok (.iconst 0, 1) := by decide +kernel
theorem dX5_setTolerance_12 : decode cX5_setTolerance 12 = .ok (.goto 4, 3) := by decide +kernel
theorem dX5_setTolerance_15 : decode cX5_setTolerance 15 = .ok (.iconst 1, 1) := by decide +kernel
theorem dX5_setTolerance_16 : decode cX5_setTolerance 16 = .ok (.invokevirtual 80, 3) := by decide +kernel
theorem dX5_setTolerance_19 : decode cX5_setTolerance 19 = .ok (.ifCond .eq 5, 3) := by decide +kernel
theorem dX5_setTolerance_22 : decode cX5_setTolerance 22 = .ok (.iconst 0, 1) := by decide +kernel
theorem dX5_setTolerance_23 : decode cX5_setTolerance 23 = .ok (.ireturn, 1) := by decide +kernel
theorem dX5_setTolerance_24 : decode cX5_setTolerance 24 = .ok (.aload_n 0, 1) := by decide +kernel
theorem dX5_setTolerance_25 : decode cX5_setTolerance 25 = .ok (.getfield 51, 3) := by decide +kernel
theorem dX5_setTolerance_28 : decode cX5_setTolerance 28 = .ok (.istore_n 2, 1) := by decide +kernel
theorem dX5_setTolerance_29 : decode cX5_setTolerance 29 = .ok (.aload_n 0, 1) := by decide +kernel
theorem dX5_setTolerance_30 : decode cX5_setTolerance 30 = .ok (.iload_n 1, 1) := by decide +kernel
theorem dX5_setTolerance_31 : decode cX5_setTolerance 31 = .ok (.putfield 51, 3) := by decide +kernel
theorem dX5_setTolerance_34 : decode cX5_setTolerance 34 = .ok (.iload_n 2, 1) := by decide +kernel
theorem dX5_setTolerance_35 : decode cX5_setTolerance 35 = .ok (.ireturn, 1) := by decide +kernel
set_option maxRecDepth 20000 in
theorem ggX5_setCharges_X5_in : GoodIn wsX5_setCharges wsX5_in := goodIn_r _ [8] (by decide +kernel) (by decide +kernel)
set_option maxRecDepth 20000 in
theorem gX5_setCharges_X5_in : GoodIn wsX5_setCharges (va_wsS RX5 73 yX5_in wsX5_in) := goodIn_app (goodIn_of _ (by decide +kernel)) ggX5_setCharges_X5_in
set_option maxRecDepth 20000 in
theorem ggX5_setCharges_X5_fails : GoodIn wsX5_setCharges wsX5_fails := goodIn_r _ [12, 13, 14, 15, 16, 17, 18, 19, 20, 21, 22, 23, 24, 25, 26, 27, 28, 29, 30, 31, 32, 33, 34, 35, 36, 37, 38] (by decide +kernel) (by decide +kernel)
set_option maxRecDepth 20000 in
theorem gX5_setCharges_X5_fails : GoodIn wsX5_setCharges (wsV RX5 80 RX5 yX5_fails wsX5_fails) := goodIn_app (goodIn_of _ (by decide +kernel)) ggX5_setCharges_X5_fails
theorem dX5_setCharges_0 : decode cX5_setCharges 0 = .ok (.aload_n 0, 1) := by decide +kernel
theorem dX5_setCharges_1 : decode cX5_setCharges 1 = .ok (.iload_n 1, 1) := by decide +kernel
theorem dX5_setCharges_2 : decode cX5_setCharges 2 = .ok (.iconst 0, 1) := by decide +kernel
theorem dX5_setCharges_3 : decode cX5_setCharges 3 = .ok (.bipush 24, 2) := by decide +kernel
theorem dX5_setCharges_5 : decode cX5_setCharges 5 = .ok (.invokestatic 73, 3) := by decide +kernel
theorem dX5_setCharges_8 : decode cX5_setCharges 8 = .ok (.ifCond .eq 38, 3) := by decide +kernel
theorem dX5_setCharges_11 : decode cX5_setCharges 11 = .ok (.iload_n 2, 1) := by decide +kernel
theorem dX5_setCharges_12 : decode cX5_setCharges 12 = .ok (.iconst 0, 1) := by decide +kernel
theorem dX5_setCharges_13 : decode cX5_setCharges 13 = .ok (.bipush 99, 2) := by decide +kernel
theorem dX5_setCharges_15 : decode cX5_setCharges 15 = .ok (.invokestatic 73, 3) := by decide +kernel
theorem dX5_setCharges_18 : decode cX5_setCharges 18 = .ok (.ifCond .eq 28, 3) := by decide +kernel
theorem dX5_setCharges_21 : decode cX5_setCharges 21 = .ok (.iload_n 3, 1) := by decide +kernel
theorem dX5_setCharges_22 : decode cX5_setCharges 22 = .ok (.iconst 0, 1) := by decide +kernel
theorem dX5_setCharges_23 : decode cX5_setCharges 23 = .ok (.bipush 24, 2) := by decide +kernel
theorem dX5_setCharges_25 : decode cX5_setCharges 25 = .ok (.invokestatic 73, 3) := by decide +kernel
theorem dX5_setCharges_28 : decode cX5_setCharges 28 = .ok (.ifCond .eq 18, 3) := by decide +kernel
theorem dX5_setCharges_31 : decode cX5_setCharges 31 = .ok (.iload 4, 2) := by decide +kernel
theorem dX5_setCharges_33 : decode cX5_setCharges 33 = .ok (.iconst 0, 1) := by decide +kernel
theorem dX5_setCharges_34 : decode cX5_setCharges 34 = .ok (.bipush 99, 2) := by decide +kernel
theorem dX5_setCharges_36 : decode cX5_setCharges 36 = .ok (.invokestatic 73, 3) := by decide +kernel
theorem dX5_setCharges_39 : decode cX5_setCharges 39 = .ok (.ifCond .eq 7, 3) := by decide +kernel
theorem dX5_setCharges_42 : decode cX5_setCharges 42 = .ok (.iconst 0, 1) := by decide +kernel
theorem dX5_setCharges_43 : decode cX5_setCharges 43 = .ok (.goto 4, 3) := by decide +kernel
theorem dX5_setCharges_46 : decode cX5_setCharges 46 = .ok (.iconst 1, 1) := by decide +kernel
theorem dX5_setCharges_47 : decode cX5_setCharges 47 = .ok (.invokevirtual 80, 3) := by decide +kernel
theorem dX5_setCharges_50 : decode cX5_setCharges 50 = .ok (.ifCond .eq 5, 3) := by decide +kernel
theorem dX5_setCharges_53 : decode cX5_setCharges 53 = .ok (.iconst 0, 1) := by decide +kernel
theorem dX5_setCharges_54 : decode cX5_setCharges 54 = .ok (.ireturn, 1) := by decide +kernel
theorem dX5_setCharges_55 : decode cX5_setCharges 55 = .ok (.aload_n 0, 1) := by decide +kernel
theorem dX5_setCharges_56 : decode cX5_setCharges 56 = .ok (.getfield 55, 3) := by decide +kernel
theorem dX5_setCharges_59 : decode cX5_setCharges 59 = .ok (.istore 5, 2) := by decide +kernel
theorem dX5_setCharges_61 : decode cX5_setCharges 61 = .ok (.aload_n 0, 1) := by decide +kernel
theorem dX5_setCharges_62 : decode cX5_setCharges 62 = .ok (.iload_n 1, 1) := by decide +kernel
theorem dX5_setCharges_63 : decode cX5_setCharges 63 = .ok (.putfield 55, 3) := by decide +kernel
theorem dX5_setCharges_66 : decode cX5_setCharges 66 = .ok (.aload_n 0, 1) := by decide +kernel
theorem dX5_setCharges_67 : decode cX5_setCharges 67 = .ok (.iload_n 2, 1) := by decide +kernel
theorem dX5_setCharges_68 : decode cX5_setCharges 68 = .ok (.putfield 58, 3) := by decide +kernel
theorem dX5_setCharges_71 : decode cX5_setCharges 71 = .ok (.aload_n 0, 1) := by decide +kernel
theorem dX5_setCharges_72 : decode cX5_setCharges 72 = .ok (.iload_n 3, 1) := by decide +kernel
theorem dX5_setCharges_73 : decode cX5_setCharges 73 = .ok (.putfield 61, 3) := by decide +kernel
theorem dX5_setCharges_76 : decode cX5_setCharges 76 = .ok (.aload_n 0, 1) := by decide +kernel
theorem dX5_setCharges_77 : decode cX5_setCharges 77 = .ok (.iload 4, 2) := by decide +kernel
theorem dX5_setCharges_79 : decode cX5_setCharges 79 = .ok (.putfield 64, 3) := by decide +kernel
theorem dX5_setCharges_82 : decode cX5_setCharges 82 = .ok (.iload 5, 2) := by decide +kernel
theorem dX5_setCharges_84 : decode cX5_setCharges 84 = .ok (.ireturn, 1) := by decide +kernel
set_option maxRecDepth 20000 in
theorem ggX5_book_X5_in : GoodIn wsX5_book wsX5_in := goodIn_r _ [10] (by decide +kernel) (by decide +kernel)
set_option maxRecDepth 20000 in
theorem gX5_book_X5_in : GoodIn wsX5_book (va_wsS RX5 73 yX5_in wsX5_in) := goodIn_app (goodIn_of _ (by decide +kernel)) ggX5_book_X5_in
set_option maxRecDepth 20000 in
theorem ggX5_book_X5_fails : GoodIn wsX5_book wsX5_fails := goodIn_r _ [14, 15, 16, 17, 18, 19, 20, 21, 22, 23, 24, 25, 26, 27, 28, 29, 30, 31, 32, 33, 34, 35, 36, 37, 38, 39, 40] (by decide +kernel) (by decide +kernel)
set_option maxRecDepth 20000 in
theorem gX5_book_X5_fails : GoodIn wsX5_book (wsV RX5 80 RX5 yX5_fails wsX5_fails) := goodIn_app (goodIn_of _ (by decide +kernel)) ggX5_book_X5_fails
theorem dX5_book_0 : decode cX5_book 0 = .ok (.aload_n 0, 1) := by decide +kernel
theorem dX5_book_1 : decode cX5_book 1 = .ok (.iload_n 1, 1) := by decide +kernel
theorem dX5_book_2 : decode cX5_book 2 = .ok (.aload_n 0, 1) := by decide +kernel
theorem dX5_book_3 : decode cX5_book 3 = .ok (.getfield 87, 3) := by decide +kernel
theorem dX5_book_6 : decode cX5_book 6 = .ok (.sipush 999, 3) := by decide +kernel
theorem dX5_book_9 : decode cX5_book 9 = .ok (.invokestatic 73, 3) := by decide +kernel
theorem dX5_book_12 : decode cX5_book 12 = .ok (.ifCond .eq 25, 3) := by decide +kernel
theorem dX5_book_15 : decode cX5_book 15 = .ok (.iload_n 2, 1) := by decide +kernel
theorem dX5_book_16 : decode cX5_book 16 = .ok (.bipush 100, 2) := by decide +kernel
theorem dX5_book_18 : decode cX5_book 18 = .ok (.if_icmp .eq 9, 3) := by decide +kernel
theorem dX5_book_21 : decode cX5_book 21 = .ok (.iload_n 2, 1) := by decide +kernel
theorem dX5_book_22 : decode cX5_book 22 = .ok (.bipush 99, 2) := by decide +kernel
theorem dX5_book_24 : decode cX5_book 24 = .ok (.if_icmp .ne 13, 3) := by decide +kernel
theorem dX5_book_27 : decode cX5_book 27 = .ok (.iload_n 3, 1) := by decide +kernel
theorem dX5_book_28 : decode cX5_book 28 = .ok (.iconst 1, 1) := by decide +kernel
theorem dX5_book_29 : decode cX5_book 29 = .ok (.bipush 9, 2) := by decide +kernel
theorem dX5_book_31 : decode cX5_book 31 = .ok (.invokestatic 73, 3) := by decide +kernel
theorem dX5_book_34 : decode cX5_book 34 = .ok (.ifCond .ne 7, 3) := by decide +kernel
theorem dX5_book_37 : decode cX5_book 37 = .ok (.iconst 1, 1) := by decide +kernel
theorem dX5_book_38 : decode cX5_book 38 = .ok (.goto 17, 3) := by decide +kernel
theorem dX5_book_41 : decode cX5_book 41 = .ok (.aload_n 0, 1) := by decide +kernel
theorem dX5_book_42 : decode cX5_book 42 = .ok (.getfield 77, 3) := by decide +kernel
theorem dX5_book_45 : decode cX5_book 45 = .ok (.bipush 40, 2) := by decide +kernel
theorem dX5_book_47 : decode cX5_book 47 = .ok (.if_icmp .ne 7, 3) := by decide +kernel
theorem dX5_book_50 : decode cX5_book 50 = .ok (.iconst 2, 1) := by decide +kernel
theorem dX5_book_51 : decode cX5_book 51 = .ok (.goto 4, 3) := by decide +kernel
theorem dX5_book_54 : decode cX5_book 54 = .ok (.iconst 0, 1) := by decide +kernel
theorem dX5_book_55 : decode cX5_book 55 = .ok (.invokevirtual 80, 3) := by decide +kernel
theorem dX5_book_58 : decode cX5_book 58 = .ok (.ifCond .eq 5, 3) := by decide +kernel
theorem dX5_book_61 : decode cX5_book 61 = .ok (.iconst 0, 1) := by decide +kernel
theorem dX5_book_62 : decode cX5_book 62 = .ok (.ireturn, 1) := by decide +kernel
theorem dX5_book_63 : decode cX5_book 63 = .ok (.aload_n 0, 1) := by decide +kernel
theorem dX5_book_64 : decode cX5_book 64 = .ok (.getfield 30, 3) := by decide +kernel
theorem dX5_book_67 : decode cX5_book 67 = .ok (.aload_n 0, 1) := by decide +kernel
theorem dX5_book_68 : decode cX5_book 68 = .ok (.getfield 77, 3) := by decide +kernel
theorem dX5_book_71 : decode cX5_book 71 = .ok (.iload_n 1, 1) := by decide +kernel
theorem dX5_book_72 : decode cX5_book 72 = .ok (.iastore, 1) := by decide +kernel
theorem dX5_book_73 : decode cX5_book 73 = .ok (.aload_n 0, 1) := by decide +kernel
theorem dX5_book_74 : decode cX5_book 74 = .ok (.getfield 33, 3) := by decide +kernel
theorem dX5_book_77 : decode cX5_book 77 = .ok (.aload_n 0, 1) := by decide +kernel
theorem dX5_book_78 : decode cX5_book 78 = .ok (.getfield 77, 3) := by decide +kernel
theorem dX5_book_81 : decode cX5_book 81 = .ok (.iload_n 2, 1) := by decide +kernel
theorem dX5_book_82 : decode cX5_book 82 = .ok (.castore, 1) := by decide +kernel
theorem dX5_book_83 : decode cX5_book 83 = .ok (.aload_n 0, 1) := by decide +kernel
theorem dX5_book_84 : decode cX5_book 84 = .ok (.getfield 36, 3) := by decide +kernel
theorem dX5_book_87 : decode cX5_book 87 = .ok (.aload_n 0, 1) := by decide +kernel
theorem dX5_book_88 : decode cX5_book 88 = .ok (.getfield 77, 3) := by decide +kernel
theorem dX5_book_91 : decode cX5_book 91 = .ok (.iload_n 3, 1) := by decide +kernel
theorem dX5_book_92 : decode cX5_book 92 = .ok (.iastore, 1) := by decide +kernel
theorem dX5_book_93 : decode cX5_book 93 = .ok (.aload_n 0, 1) := by decide +kernel
theorem dX5_book_94 : decode cX5_book 94 = .ok (.getfield 39, 3) := by decide +kernel
theorem dX5_book_97 : decode cX5_book 97 = .ok (.aload_n 0, 1) := by decide +kernel
theorem dX5_book_98 : decode cX5_book 98 = .ok (.getfield 77, 3) := by decide +kernel
theorem dX5_book_101 : decode cX5_book 101 = .ok (.bipush 98, 2) := by decide +kernel
theorem dX5_book_103 : decode cX5_book 103 = .ok (.castore, 1) := by decide +kernel
theorem dX5_book_104 : decode cX5_book 104 = .ok (.aload_n 0, 1) := by decide +kernel
theorem dX5_book_105 : decode cX5_book 105 = .ok (.dup, 1) := by decide +kernel
theorem dX5_book_106 : decode cX5_book 106 = .ok (.getfield 77, 3) := by decide +kernel
theorem dX5_book_109 : decode cX5_book 109 = .ok (.iconst 1, 1) := by decide +kernel
theorem dX5_book_110 : decode cX5_book 110 = .ok (.iadd, 1) := by decide +kernel
theorem dX5_book_111 : decode cX5_book 111 = .ok (.putfield 77, 3) := by decide +kernel
theorem dX5_book_114 : decode cX5_book 114 = .ok (.aload_n 0, 1) := by decide +kernel
theorem dX5_book_115 : decode cX5_book 115 = .ok (.getfield 77, 3) := by decide +kernel
theorem dX5_book_118 : decode cX5_book 118 = .ok (.iconst 1, 1) := by decide +kernel
theorem dX5_book_119 : decode cX5_book 119 = .ok (.isub, 1) := by decide +kernel
theorem dX5_book_120 : decode cX5_book 120 = .ok (.ireturn, 1) := by decide +kernel
theorem dX5_canCome_0 : decode cX5_canCome 0 = .ok (.aload_n 0, 1) := by decide +kernel
theorem dX5_canCome_1 : decode cX5_canCome 1 = .ok (.getfield 17, 3) := by decide +kernel
theorem dX5_canCome_4 : decode cX5_canCome 4 = .ok (.iload_n 2, 1) := by decide +kernel
theorem dX5_canCome_5 : decode cX5_canCome 5 = .ok (.iaload, 1) := by decide +kernel
theorem dX5_canCome_6 : decode cX5_canCome 6 = .ok (.aload_n 0, 1) := by decide +kernel
theorem dX5_canCome_7 : decode cX5_canCome 7 = .ok (.getfield 7, 3) := by decide +kernel
theorem dX5_canCome_10 : decode cX5_canCome 10 = .ok (.iload_n 2, 1) := by decide +kernel
theorem dX5_canCome_11 : decode cX5_canCome 11 = .ok (.iaload, 1) := by decide +kernel
theorem dX5_canCome_12 : decode cX5_canCome 12 = .ok (.if_icmp .ge 27, 3) := by decide +kernel
theorem dX5_canCome_15 : decode cX5_canCome 15 = .ok (.aload_n 0, 1) := by decide +kernel
theorem dX5_canCome_16 : decode cX5_canCome 16 = .ok (.getfield 33, 3) := by decide +kernel
theorem dX5_canCome_19 : decode cX5_canCome 19 = .ok (.iload_n 1, 1) := by decide +kernel
theorem dX5_canCome_20 : decode cX5_canCome 20 = .ok (.caload, 1) := by decide +kernel
theorem dX5_canCome_21 : decode cX5_canCome 21 = .ok (.bipush 100, 2) := by decide +kernel
theorem dX5_canCome_23 : decode cX5_canCome 23 = .ok (.if_icmp .eq 12, 3) := by decide +kernel
theorem dX5_canCome_26 : decode cX5_canCome 26 = .ok (.aload_n 0, 1) := by decide +kernel
theorem dX5_canCome_27 : decode cX5_canCome 27 = .ok (.getfield 13, 3) := by decide +kernel
theorem dX5_canCome_30 : decode cX5_canCome 30 = .ok (.iload_n 2, 1) := by decide +kernel
theorem dX5_canCome_31 : decode cX5_canCome 31 = .ok (.baload, 1) := by decide +kernel
theorem dX5_canCome_32 : decode cX5_canCome 32 = .ok (.ifCond .eq 7, 3) := by decide +kernel
theorem dX5_canCome_35 : decode cX5_canCome 35 = .ok (.iconst 1, 1) := by decide +kernel
theorem dX5_canCome_36 : decode cX5_canCome 36 = .ok (.goto 4, 3) := by decide +kernel
theorem dX5_canCome_39 : decode cX5_canCome 39 = .ok (.iconst 0, 1) := by decide +kernel
theorem dX5_canCome_40 : decode cX5_canCome 40 = .ok (.ireturn, 1) := by decide +kernel
theorem dX5_comes_0 : decode cX5_comes 0 = .ok (.aload_n 0, 1) := by decide +kernel
theorem dX5_comes_1 : decode cX5_comes 1 = .ok (.getfield 20, 3) := by decide +kernel
theorem dX5_comes_4 : decode cX5_comes 4 = .ok (.iconst 3, 1) := by decide +kernel
theorem dX5_comes_5 : decode cX5_comes 5 = .ok (.iload_n 2, 1) := by decide +kernel
theorem dX5_comes_6 : decode cX5_comes 6 = .ok (.imul, 1) := by decide +kernel
theorem dX5_comes_7 : decode cX5_comes 7 = .ok (.aload_n 0, 1) := by decide +kernel
theorem dX5_comes_8 : decode cX5_comes 8 = .ok (.getfield 17, 3) := by decide +kernel
theorem dX5_comes_11 : decode cX5_comes 11 = .ok (.iload_n 2, 1) := by decide +kernel
theorem dX5_comes_12 : decode cX5_comes 12 = .ok (.iaload, 1) := by decide +kernel
theorem dX5_comes_13 : decode cX5_comes 13 = .ok (.iadd, 1) := by decide +kernel
theorem dX5_comes_14 : decode cX5_comes 14 = .ok (.iload_n 1, 1) := by decide +kernel
theorem dX5_comes_15 : decode cX5_comes 15 = .ok (.iastore, 1) := by decide +kernel
theorem dX5_comes_16 : decode cX5_comes 16 = .ok (.aload_n 0, 1) := by decide +kernel
theorem dX5_comes_17 : decode cX5_comes 17 = .ok (.getfield 17, 3) := by decide +kernel
theorem dX5_comes_20 : decode cX5_comes 20 = .ok (.iload_n 2, 1) := by decide +kernel
theorem dX5_comes_21 : decode cX5_comes 21 = .ok (.dup2, 1) := by decide +kernel
theorem dX5_comes_22 : decode cX5_comes 22 = .ok (.iaload, 1) := by decide +kernel
theorem dX5_comes_23 : decode cX5_comes 23 = .ok (.iconst 1, 1) := by decide +kernel
theorem dX5_comes_24 : decode cX5_comes 24 = .ok (.iadd, 1) := by decide +kernel
theorem dX5_comes_25 : decode cX5_comes 25 = .ok (.iastore, 1) := by decide +kernel
theorem dX5_comes_26 : decode cX5_comes 26 = .ok (.return_, 1) := by decide +kernel
theorem dX5_inLanes_0 : decode cX5_inLanes 0 = .ok (.iconst 0, 1) := by decide +kernel
theorem dX5_inLanes_1 : decode cX5_inLanes 1 = .ok (.istore_n 1, 1) := by decide +kernel
theorem dX5_inLanes_2 : decode cX5_inLanes 2 = .ok (.iconst 0, 1) := by decide +kernel
theorem dX5_inLanes_3 : decode cX5_inLanes 3 = .ok (.istore_n 2, 1) := by decide +kernel
theorem dX5_inLanes_4 : decode cX5_inLanes 4 = .ok (.iload_n 2, 1) := by decide +kernel
theorem dX5_inLanes_5 : decode cX5_inLanes 5 = .ok (.aload_n 0, 1) := by decide +kernel
theorem dX5_inLanes_6 : decode cX5_inLanes 6 = .ok (.getfield 70, 3) := by decide +kernel
theorem dX5_inLanes_9 : decode cX5_inLanes 9 = .ok (.if_icmp .ge 18, 3) := by decide +kernel
theorem dX5_inLanes_12 : decode cX5_inLanes 12 = .ok (.iload_n 1, 1) := by decide +kernel
theorem dX5_inLanes_13 : decode cX5_inLanes 13 = .ok (.aload_n 0, 1) := by decide +kernel
theorem dX5_inLanes_14 : decode cX5_inLanes 14 = .ok (.getfield 17, 3) := by decide +kernel
theorem dX5_inLanes_17 : decode cX5_inLanes 17 = .ok (.iload_n 2, 1) := by decide +kernel
theorem dX5_inLanes_18 : decode cX5_inLanes 18 = .ok (.iaload, 1) := by decide +kernel
theorem dX5_inLanes_19 : decode cX5_inLanes 19 = .ok (.iadd, 1) := by decide +kernel
theorem dX5_inLanes_20 : decode cX5_inLanes 20 = .ok (.istore_n 1, 1) := by decide +kernel
theorem dX5_inLanes_21 : decode cX5_inLanes 21 = .ok (.iinc 2 1, 3) := by decide +kernel
theorem dX5_inLanes_24 : decode cX5_inLanes 24 = .ok (.goto (-20), 3) := by decide +kernel
theorem dX5_inLanes_27 : decode cX5_inLanes 27 = .ok (.iload_n 1, 1) := by decide +kernel
theorem dX5_inLanes_28 : decode cX5_inLanes 28 = .ok (.ireturn, 1) := by decide +kernel
theorem dX5_punctual_0 : decode cX5_punctual 0 = .ok (.aload_n 0, 1) := by decide +kernel
theorem dX5_punctual_1 : decode cX5_punctual 1 = .ok (.getfield 42, 3) := by decide +kernel
theorem dX5_punctual_4 : decode cX5_punctual 4 = .ok (.iload_n 1, 1) := by decide +kernel
theorem dX5_punctual_5 : decode cX5_punctual 5 = .ok (.iaload, 1) := by decide +kernel
theorem dX5_punctual_6 : decode cX5_punctual 6 = .ok (.aload_n 0, 1) := by decide +kernel
theorem dX5_punctual_7 : decode cX5_punctual 7 = .ok (.getfield 30, 3) := by decide +kernel
theorem dX5_punctual_10 : decode cX5_punctual 10 = .ok (.iload_n 1, 1) := by decide +kernel
theorem dX5_punctual_11 : decode cX5_punctual 11 = .ok (.iaload, 1) := by decide +kernel
theorem dX5_punctual_12 : decode cX5_punctual 12 = .ok (.aload_n 0, 1) := by decide +kernel
theorem dX5_punctual_13 : decode cX5_punctual 13 = .ok (.getfield 51, 3) := by decide +kernel
theorem dX5_punctual_16 : decode cX5_punctual 16 = .ok (.isub, 1) := by decide +kernel
theorem dX5_punctual_17 : decode cX5_punctual 17 = .ok (.if_icmp .ge 8, 3) := by decide +kernel
theorem dX5_punctual_20 : decode cX5_punctual 20 = .ok (.bipush 101, 2) := by decide +kernel
theorem dX5_punctual_22 : decode cX5_punctual 22 = .ok (.goto 30, 3) := by decide +kernel
theorem dX5_punctual_25 : decode cX5_punctual 25 = .ok (.aload_n 0, 1) := by decide +kernel
theorem dX5_punctual_26 : decode cX5_punctual 26 = .ok (.getfield 42, 3) := by decide +kernel
theorem dX5_punctual_29 : decode cX5_punctual 29 = .ok (.iload_n 1, 1) := by decide +kernel
theorem dX5_punctual_30 : decode cX5_punctual 30 = .ok (.iaload, 1) := by decide +kernel
theorem dX5_punctual_31 : decode cX5_punctual 31 = .ok (.aload_n 0, 1) := by decide +kernel
theorem dX5_punctual_32 : decode cX5_punctual 32 = .ok (.getfield 30, 3) := by decide +kernel
theorem dX5_punctual_35 : decode cX5_punctual 35 = .ok (.iload_n 1, 1) := by decide +kernel
theorem dX5_punctual_36 : decode cX5_punctual 36 = .ok (.iaload, 1) := by decide +kernel
theorem dX5_punctual_37 : decode cX5_punctual 37 = .ok (.aload_n 0, 1) := by decide +kernel
theorem dX5_punctual_38 : decode cX5_punctual 38 = .ok (.getfield 51, 3) := by decide +kernel
theorem dX5_punctual_41 : decode cX5_punctual 41 = .ok (.iadd, 1) := by decide +kernel
theorem dX5_punctual_42 : decode cX5_punctual 42 = .ok (.if_icmp .le 8, 3) := by decide +kernel
theorem dX5_punctual_45 : decode cX5_punctual 45 = .ok (.bipush 108, 2) := by decide +kernel
theorem dX5_punctual_47 : decode cX5_punctual 47 = .ok (.goto 5, 3) := by decide +kernel
theorem dX5_punctual_50 : decode cX5_punctual 50 = .ok (.bipush 111, 2) := by decide +kernel
theorem dX5_punctual_52 : decode cX5_punctual 52 = .ok (.ireturn, 1) := by decide +kernel
set_option maxRecDepth 20000 in
theorem ggX5_arrive_X5_isNone : GoodIn wsX5_arrive wsX5_isNone := goodIn_r _ [8, 9, 10, 11, 7, 12, 46, 47, 48, 49, 50, 51, 52, 53, 54, 55, 56, 57, 58, 59, 60, 61, 62, 63, 64, 65, 66, 67, 68, 69, 70] (by decide +kernel) (by decide +kernel)
set_option maxRecDepth 20000 in
theorem gX5_arrive_X5_isNone : GoodIn wsX5_arrive (wsV RX5 90 RX5 yX5_isNone wsX5_isNone) := goodIn_app (goodIn_of _ (by decide +kernel)) ggX5_arrive_X5_isNone
set_option maxRecDepth 20000 in
theorem ggX5_arrive_X5_isNoLane : GoodIn wsX5_arrive wsX5_isNoLane := goodIn_r _ [16, 17, 10, 11, 7, 12, 46, 47, 48, 49, 50, 51, 52, 53, 54, 55, 56, 57, 58, 59, 60, 61, 62, 63, 64, 65, 66, 67, 68, 69, 70] (by decide +kernel) (by decide +kernel)
set_option maxRecDepth 20000 in
theorem gX5_arrive_X5_isNoLane : GoodIn wsX5_arrive (wsV RX5 93 RX5 yX5_isNoLane wsX5_isNoLane) := goodIn_app (goodIn_of _ (by decide +kernel)) ggX5_arrive_X5_isNoLane
set_option maxRecDepth 20000 in
theorem ggX5_arrive_X5_inLanes : GoodIn wsX5_arrive wsX5_inLanes := goodIn_ca (goodIn_r _ [21, 17, 22, 46, 47, 48, 49, 50, 51, 52, 53, 54, 55, 56, 57, 58, 59, 60, 61, 62, 63, 64, 65, 66, 67, 68, 69, 70] (by decide +kernel) (by decide +kernel)) (goodIn_sub (fun _ h => List.mem_cons_of_mem _ (List.mem_append_right _ h)) (by decide +kernel))
set_option maxRecDepth 20000 in
theorem gX5_arrive_X5_inLanes : GoodIn wsX5_arrive (wsV RX5 96 RX5 yX5_inLanes wsX5_inLanes) := goodIn_app (goodIn_of _ (by decide +kernel)) ggX5_arrive_X5_inLanes
set_option maxRecDepth 20000 in
theorem ggX5_arrive_X5_canCome : GoodIn wsX5_arrive wsX5_canCome := goodIn_ca (goodIn_r _ [26, 22, 27, 28, 29, 46, 47, 48, 49, 50, 51, 52, 53, 54, 55, 56, 57, 58, 59, 60, 61, 62, 63, 64, 65, 66, 67, 68, 69, 70] (by decide +kernel) (by decide +kernel)) (goodIn_sub (fun _ h => List.mem_cons_of_mem _ (List.mem_append_right _ h)) (by decide +kernel))
set_option maxRecDepth 20000 in
theorem gX5_arrive_X5_canCome : GoodIn wsX5_arrive (wsV RX5 100 RX5 yX5_canCome wsX5_canCome) := goodIn_app (goodIn_of _ (by decide +kernel)) ggX5_arrive_X5_canCome
set_option maxRecDepth 20000 in
theorem ggX5_arrive_X5_fails : GoodIn wsX5_arrive wsX5_fails := goodIn_r _ [33, 34, 46, 47, 48, 49, 50, 51, 52, 53, 54, 55, 56, 57, 58, 59, 60, 61, 62, 63, 64, 65, 66, 67, 68, 69, 70] (by decide +kernel) (by decide +kernel)
set_option maxRecDepth 20000 in
theorem gX5_arrive_X5_fails : GoodIn wsX5_arrive (wsV RX5 80 RX5 yX5_fails wsX5_fails) := goodIn_app (goodIn_of _ (by decide +kernel)) ggX5_arrive_X5_fails
set_option maxRecDepth 20000 in
theorem ggX5_arrive_X5_comes : GoodIn wsX5_arrive wsX5_comes := goodIn_ca (goodIn_r _ [38, 39, 22, 46, 47, 48, 49, 50, 51, 52, 53, 54, 55, 56, 57, 58, 59, 60, 61, 62, 63, 64, 65, 66, 67, 68, 69, 70] (by decide +kernel) (by decide +kernel)) (goodIn_sub (fun _ h => List.mem_cons_of_mem _ (List.mem_append_right _ h)) (by decide +kernel))
set_option maxRecDepth 20000 in
theorem gX5_arrive_X5_comes : GoodIn wsX5_arrive (wsV RX5 104 RX5 yX5_comes wsX5_comes) := goodIn_app (goodIn_of _ (by decide +kernel)) ggX5_arrive_X5_comes
set_option maxRecDepth 20000 in
theorem ggX5_arrive_X5_punctual : GoodIn wsX5_arrive wsX5_punctual := goodIn_ca (goodIn_r _ [43, 2, 44, 45, 46, 47, 48, 49, 50, 51, 52, 53, 54, 55, 56, 57, 58, 59, 60, 61, 62, 63, 64, 65, 66, 67, 68, 69, 70] (by decide +kernel) (by decide +kernel)) (goodIn_sub (fun _ h => List.mem_cons_of_mem _ (List.mem_append_right _ h)) (by decide +kernel))
set_option maxRecDepth 20000 in
theorem gX5_arrive_X5_punctual : GoodIn wsX5_arrive (wsV RX5 108 RX5 yX5_punctual wsX5_punctual) := goodIn_app (goodIn_of _ (by decide +kernel)) ggX5_arrive_X5_punctual
theorem dX5_arrive_0 : decode cX5_arrive 0 = .ok (.aload_n 0, 1) := by decide +kernel
theorem dX5_arrive_1 : decode cX5_arrive 1 = .ok (.aload_n 0, 1) := by decide +kernel
theorem dX5_arrive_2 : decode cX5_arrive 2 = .ok (.iload_n 1, 1) := by decide +kernel
theorem dX5_arrive_3 : decode cX5_arrive 3 = .ok (.invokevirtual 90, 3) := by decide +kernel
theorem dX5_arrive_6 : decode cX5_arrive 6 = .ok (.ifCond .eq 7, 3) := by decide +kernel
theorem dX5_arrive_9 : decode cX5_arrive 9 = .ok (.iconst 1, 1) := by decide +kernel
theorem dX5_arrive_10 : decode cX5_arrive 10 = .ok (.goto 53, 3) := by decide +kernel
theorem dX5_arrive_13 : decode cX5_arrive 13 = .ok (.aload_n 0, 1) := by decide +kernel
theorem dX5_arrive_14 : decode cX5_arrive 14 = .ok (.iload_n 2, 1) := by decide +kernel
theorem dX5_arrive_15 : decode cX5_arrive 15 = .ok (.invokevirtual 93, 3) := by decide +kernel
theorem dX5_arrive_18 : decode cX5_arrive 18 = .ok (.ifCond .eq 7, 3) := by decide +kernel
theorem dX5_arrive_21 : decode cX5_arrive 21 = .ok (.iconst 2, 1) := by decide +kernel
theorem dX5_arrive_22 : decode cX5_arrive 22 = .ok (.goto 41, 3) := by decide +kernel
theorem dX5_arrive_25 : decode cX5_arrive 25 = .ok (.aload_n 0, 1) := by decide +kernel
theorem dX5_arrive_26 : decode cX5_arrive 26 = .ok (.getfield 39, 3) := by decide +kernel
theorem dX5_arrive_29 : decode cX5_arrive 29 = .ok (.iload_n 1, 1) := by decide +kernel
theorem dX5_arrive_30 : decode cX5_arrive 30 = .ok (.caload, 1) := by decide +kernel
theorem dX5_arrive_31 : decode cX5_arrive 31 = .ok (.bipush 98, 2) := by decide +kernel
theorem dX5_arrive_33 : decode cX5_arrive 33 = .ok (.if_icmp .ne 12, 3) := by decide +kernel
theorem dX5_arrive_36 : decode cX5_arrive 36 = .ok (.aload_n 0, 1) := by decide +kernel
theorem dX5_arrive_37 : decode cX5_arrive 37 = .ok (.invokevirtual 96, 3) := by decide +kernel
theorem dX5_arrive_40 : decode cX5_arrive 40 = .ok (.bipush 6, 2) := by decide +kernel
theorem dX5_arrive_42 : decode cX5_arrive 42 = .ok (.if_icmp .ne 7, 3) := by decide +kernel
theorem dX5_arrive_45 : decode cX5_arrive 45 = .ok (.iconst 3, 1) := by decide +kernel
theorem dX5_arrive_46 : decode cX5_arrive 46 = .ok (.goto 17, 3) := by decide +kernel
theorem dX5_arrive_49 : decode cX5_arrive 49 = .ok (.aload_n 0, 1) := by decide +kernel
theorem dX5_arrive_50 : decode cX5_arrive 50 = .ok (.iload_n 1, 1) := by decide +kernel
theorem dX5_arrive_51 : decode cX5_arrive 51 = .ok (.iload_n 2, 1) := by decide +kernel
theorem dX5_arrive_52 : decode cX5_arrive 52 = .ok (.invokevirtual 100, 3) := by decide +kernel
theorem dX5_arrive_55 : decode cX5_arrive 55 = .ok (.ifCond .eq 7, 3) := by decide +kernel
theorem dX5_arrive_58 : decode cX5_arrive 58 = .ok (.iconst 0, 1) := by decide +kernel
theorem dX5_arrive_59 : decode cX5_arrive 59 = .ok (.goto 4, 3) := by decide +kernel
theorem dX5_arrive_62 : decode cX5_arrive 62 = .ok (.iconst 4, 1) := by decide +kernel
theorem dX5_arrive_63 : decode cX5_arrive 63 = .ok (.invokevirtual 80, 3) := by decide +kernel
theorem dX5_arrive_66 : decode cX5_arrive 66 = .ok (.ifCond .eq 6, 3) := by decide +kernel
theorem dX5_arrive_69 : decode cX5_arrive 69 = .ok (.bipush 97, 2) := by decide +kernel
theorem dX5_arrive_71 : decode cX5_arrive 71 = .ok (.ireturn, 1) := by decide +kernel
theorem dX5_arrive_72 : decode cX5_arrive 72 = .ok (.aload_n 0, 1) := by decide +kernel
theorem dX5_arrive_73 : decode cX5_arrive 73 = .ok (.getfield 39, 3) := by decide +kernel
theorem dX5_arrive_76 : decode cX5_arrive 76 = .ok (.iload_n 1, 1) := by decide +kernel
theorem dX5_arrive_77 : decode cX5_arrive 77 = .ok (.bipush 121, 2) := by decide +kernel
theorem dX5_arrive_79 : decode cX5_arrive 79 = .ok (.castore, 1) := by decide +kernel
theorem dX5_arrive_80 : decode cX5_arrive 80 = .ok (.aload_n 0, 1) := by decide +kernel
theorem dX5_arrive_81 : decode cX5_arrive 81 = .ok (.getfield 42, 3) := by decide +kernel
theorem dX5_arrive_84 : decode cX5_arrive 84 = .ok (.iload_n 1, 1) := by decide +kernel
theorem dX5_arrive_85 : decode cX5_arrive 85 = .ok (.aload_n 0, 1) := by decide +kernel
theorem dX5_arrive_86 : decode cX5_arrive 86 = .ok (.getfield 87, 3) := by decide +kernel
theorem dX5_arrive_89 : decode cX5_arrive 89 = .ok (.iastore, 1) := by decide +kernel
theorem dX5_arrive_90 : decode cX5_arrive 90 = .ok (.aload_n 0, 1) := by decide +kernel
theorem dX5_arrive_91 : decode cX5_arrive 91 = .ok (.iload_n 1, 1) := by decide +kernel
theorem dX5_arrive_92 : decode cX5_arrive 92 = .ok (.iload_n 2, 1) := by decide +kernel
theorem dX5_arrive_93 : decode cX5_arrive 93 = .ok (.invokevirtual 104, 3) := by decide +kernel
theorem dX5_arrive_96 : decode cX5_arrive 96 = .ok (.aload_n 0, 1) := by decide +kernel
theorem dX5_arrive_97 : decode cX5_arrive 97 = .ok (.iload_n 1, 1) := by decide +kernel
theorem dX5_arrive_98 : decode cX5_arrive 98 = .ok (.invokevirtual 108, 3) := by decide +kernel
theorem dX5_arrive_101 : decode cX5_arrive 101 = .ok (.ireturn, 1) := by decide +kernel
set_option maxRecDepth 20000 in
theorem ggX5_state_X5_isNone : GoodIn wsX5_state wsX5_isNone := goodIn_r _ [6, 7, 8, 9, 5, 10, 16, 17, 18, 19, 20, 21, 22, 23, 24, 25, 26, 27, 28, 29, 30, 31, 32, 33, 34, 35, 36, 37, 38, 39, 40] (by decide +kernel) (by decide +kernel)
set_option maxRecDepth 20000 in
theorem gX5_state_X5_isNone : GoodIn wsX5_state (wsV RX5 90 RX5 yX5_isNone wsX5_isNone) := goodIn_app (goodIn_of _ (by decide +kernel)) ggX5_state_X5_isNone
set_option maxRecDepth 20000 in
theorem ggX5_state_X5_fails : GoodIn wsX5_state wsX5_fails := goodIn_r _ [14, 15, 16, 17, 18, 19, 20, 21, 22, 23, 24, 25, 26, 27, 28, 29, 30, 31, 32, 33, 34, 35, 36, 37, 38, 39, 40] (by decide +kernel) (by decide +kernel)
set_option maxRecDepth 20000 in
theorem gX5_state_X5_fails : GoodIn wsX5_state (wsV RX5 80 RX5 yX5_fails wsX5_fails) := goodIn_app (goodIn_of _ (by decide +kernel)) ggX5_state_X5_fails
theorem dX5_state_0 : decode cX5_state 0 = .ok (.aload_n 0, 1) := by decide +kernel
theorem dX5_state_1 : decode cX5_state 1 = .ok (.aload_n 0, 1) := by decide +kernel
theorem dX5_state_2 : decode cX5_state 2 = .ok (.iload_n 1, 1) := by decide +kernel
theorem dX5_state_3 : decode cX5_state 3 = .ok (.invokevirtual 90, 3) := by decide +kernel
theorem dX5_state_6 : decode cX5_state 6 = .ok (.ifCond .eq 7, 3) := by decide +kernel
theorem dX5_state_9 : decode cX5_state 9 = .ok (.iconst 1, 1) := by decide +kernel
theorem dX5_state_10 : decode cX5_state 10 = .ok (.goto 4, 3) := by decide +kernel
theorem dX5_state_13 : decode cX5_state 13 = .ok (.iconst 0, 1) := by decide +kernel
theorem dX5_state_14 : decode cX5_state 14 = .ok (.invokevirtual 80, 3) := by decide +kernel
theorem dX5_state_17 : decode cX5_state 17 = .ok (.ifCond .eq 8, 3) := by decide +kernel
theorem dX5_state_20 : decode cX5_state 20 = .ok (.bipush 97, 2) := by decide +kernel
theorem dX5_state_22 : decode cX5_state 22 = .ok (.goto 9, 3) := by decide +kernel
theorem dX5_state_25 : decode cX5_state 25 = .ok (.aload_n 0, 1) := by decide +kernel
theorem dX5_state_26 : decode cX5_state 26 = .ok (.getfield 39, 3) := by decide +kernel
theorem dX5_state_29 : decode cX5_state 29 = .ok (.iload_n 1, 1) := by decide +kernel
theorem dX5_state_30 : decode cX5_state 30 = .ok (.caload, 1) := by decide +kernel
theorem dX5_state_31 : decode cX5_state 31 = .ok (.ireturn, 1) := by decide +kernel
set_option maxRecDepth 20000 in
theorem ggX5_hasNotCome_X5_isNone : GoodIn wsX5_hasNotCome wsX5_isNone := goodIn_r _ [6, 7, 8, 9, 5, 10, 16, 17, 18, 19, 20, 21, 22, 23, 24, 25, 26, 27, 28, 29, 30, 31, 32, 33, 34, 35, 36, 37, 38, 39, 40] (by decide +kernel) (by decide +kernel)
set_option maxRecDepth 20000 in
theorem gX5_hasNotCome_X5_isNone : GoodIn wsX5_hasNotCome (wsV RX5 90 RX5 yX5_isNone wsX5_isNone) := goodIn_app (goodIn_of _ (by decide +kernel)) ggX5_hasNotCome_X5_isNone
set_option maxRecDepth 20000 in
theorem ggX5_hasNotCome_X5_fails : GoodIn wsX5_hasNotCome wsX5_fails := goodIn_r _ [14, 15, 16, 17, 18, 19, 20, 21, 22, 23, 24, 25, 26, 27, 28, 29, 30, 31, 32, 33, 34, 35, 36, 37, 38, 39, 40] (by decide +kernel) (by decide +kernel)
set_option maxRecDepth 20000 in
theorem gX5_hasNotCome_X5_fails : GoodIn wsX5_hasNotCome (wsV RX5 80 RX5 yX5_fails wsX5_fails) := goodIn_app (goodIn_of _ (by decide +kernel)) ggX5_hasNotCome_X5_fails
theorem dX5_hasNotCome_0 : decode cX5_hasNotCome 0 = .ok (.aload_n 0, 1) := by decide +kernel
theorem dX5_hasNotCome_1 : decode cX5_hasNotCome 1 = .ok (.aload_n 0, 1) := by decide +kernel
theorem dX5_hasNotCome_2 : decode cX5_hasNotCome 2 = .ok (.iload_n 1, 1) := by decide +kernel
theorem dX5_hasNotCome_3 : decode cX5_hasNotCome 3 = .ok (.invokevirtual 90, 3) := by decide +kernel
theorem dX5_hasNotCome_6 : decode cX5_hasNotCome 6 = .ok (.ifCond .eq 7, 3) := by decide +kernel
theorem dX5_hasNotCome_9 : decode cX5_hasNotCome 9 = .ok (.iconst 1, 1) := by decide +kernel
theorem dX5_hasNotCome_10 : decode cX5_hasNotCome 10 = .ok (.goto 30, 3) := by decide +kernel
theorem dX5_hasNotCome_13 : decode cX5_hasNotCome 13 = .ok (.aload_n 0, 1) := by decide +kernel
theorem dX5_hasNotCome_14 : decode cX5_hasNotCome 14 = .ok (.getfield 39, 3) := by decide +kernel
theorem dX5_hasNotCome_17 : decode cX5_hasNotCome 17 = .ok (.iload_n 1, 1) := by decide +kernel
theorem dX5_hasNotCome_18 : decode cX5_hasNotCome 18 = .ok (.caload, 1) := by decide +kernel
theorem dX5_hasNotCome_19 : decode cX5_hasNotCome 19 = .ok (.bipush 98, 2) := by decide +kernel
theorem dX5_hasNotCome_21 : decode cX5_hasNotCome 21 = .ok (.if_icmp .eq 14, 3) := by decide +kernel
theorem dX5_hasNotCome_24 : decode cX5_hasNotCome 24 = .ok (.aload_n 0, 1) := by decide +kernel
theorem dX5_hasNotCome_25 : decode cX5_hasNotCome 25 = .ok (.getfield 39, 3) := by decide +kernel
theorem dX5_hasNotCome_28 : decode cX5_hasNotCome 28 = .ok (.iload_n 1, 1) := by decide +kernel
theorem dX5_hasNotCome_29 : decode cX5_hasNotCome 29 = .ok (.caload, 1) := by decide +kernel
theorem dX5_hasNotCome_30 : decode cX5_hasNotCome 30 = .ok (.bipush 110, 2) := by decide +kernel
theorem dX5_hasNotCome_32 : decode cX5_hasNotCome 32 = .ok (.if_icmp .ne 7, 3) := by decide +kernel
theorem dX5_hasNotCome_35 : decode cX5_hasNotCome 35 = .ok (.iconst 2, 1) := by decide +kernel
theorem dX5_hasNotCome_36 : decode cX5_hasNotCome 36 = .ok (.goto 4, 3) := by decide +kernel
theorem dX5_hasNotCome_39 : decode cX5_hasNotCome 39 = .ok (.iconst 0, 1) := by decide +kernel
theorem dX5_hasNotCome_40 : decode cX5_hasNotCome 40 = .ok (.invokevirtual 80, 3) := by decide +kernel
theorem dX5_hasNotCome_43 : decode cX5_hasNotCome 43 = .ok (.ireturn, 1) := by decide +kernel
set_option maxRecDepth 20000 in
theorem ggX5_punctuality_X5_hasNotCome : GoodIn wsX5_punctuality wsX5_hasNotCome := goodIn_ca (goodIn_r _ [5, 6, 7, 8, 9, 4, 10, 11, 12, 13, 14, 15, 16, 17, 18, 19, 27, 28, 29, 30, 31, 32, 33, 34, 35, 36, 37, 38, 39, 40, 41, 42, 43, 44, 45, 46, 47, 48, 49, 50, 51] (by decide +kernel) (by decide +kernel)) (goodIn_sub (fun _ h => List.mem_cons_of_mem _ (List.mem_append_right _ h)) (by decide +kernel))
set_option maxRecDepth 20000 in
theorem gX5_punctuality_X5_hasNotCome : GoodIn wsX5_punctuality (wsV RX5 112 RX5 yX5_hasNotCome wsX5_hasNotCome) := goodIn_app (goodIn_of _ (by decide +kernel)) ggX5_punctuality_X5_hasNotCome
set_option maxRecDepth 20000 in
theorem ggX5_punctuality_X5_punctual : GoodIn wsX5_punctuality wsX5_punctual := goodIn_ca (goodIn_r _ [23, 24, 25, 26, 27, 28, 29, 30, 31, 32, 33, 34, 35, 36, 37, 38, 39, 40, 41, 42, 43, 44, 45, 46, 47, 48, 49, 50, 51] (by decide +kernel) (by decide +kernel)) (goodIn_sub (fun _ h => List.mem_cons_of_mem _ (List.mem_append_right _ h)) (by decide +kernel))
set_option maxRecDepth 20000 in
theorem gX5_punctuality_X5_punctual : GoodIn wsX5_punctuality (wsV RX5 108 RX5 yX5_punctual wsX5_punctual) := goodIn_app (goodIn_of _ (by decide +kernel)) ggX5_punctuality_X5_punctual
theorem dX5_punctuality_0 : decode cX5_punctuality 0 = .ok (.aload_n 0, 1) := by decide +kernel
theorem dX5_punctuality_1 : decode cX5_punctuality 1 = .ok (.iload_n 1, 1) := by decide +kernel
theorem dX5_punctuality_2 : decode cX5_punctuality 2 = .ok (.invokevirtual 112, 3) := by decide +kernel
theorem dX5_punctuality_5 : decode cX5_punctuality 5 = .ok (.ifCond .eq 8, 3) := by decide +kernel
theorem dX5_punctuality_8 : decode cX5_punctuality 8 = .ok (.bipush 97, 2) := by decide +kernel
theorem dX5_punctuality_10 : decode cX5_punctuality 10 = .ok (.goto 8, 3) := by decide +kernel
theorem dX5_punctuality_13 : decode cX5_punctuality 13 = .ok (.aload_n 0, 1) := by decide +kernel
theorem dX5_punctuality_14 : decode cX5_punctuality 14 = .ok (.iload_n 1, 1) := by decide +kernel
theorem dX5_punctuality_15 : decode cX5_punctuality 15 = .ok (.invokevirtual 108, 3) := by decide +kernel
theorem dX5_punctuality_18 : decode cX5_punctuality 18 = .ok (.ireturn, 1) := by decide +kernel
set_option maxRecDepth 20000 in
theorem ggX5_nextBooked_X5_fails : GoodIn wsX5_nextBooked wsX5_fails := goodIn_r _ [8, 9, 10, 11, 12, 13, 14, 15, 16, 17, 18, 19, 20, 21, 22, 23, 24, 25, 26, 27, 28, 29, 30, 31, 32, 33, 34] (by decide +kernel) (by decide +kernel)
set_option maxRecDepth 20000 in
theorem gX5_nextBooked_X5_fails : GoodIn wsX5_nextBooked (wsV RX5 80 RX5 yX5_fails wsX5_fails) := goodIn_app (goodIn_of _ (by decide +kernel)) ggX5_nextBooked_X5_fails
theorem dX5_nextBooked_0 : decode cX5_nextBooked 0 = .ok (.iconst (-1), 1) := by decide +kernel
theorem dX5_nextBooked_1 : decode cX5_nextBooked 1 = .ok (.istore_n 1, 1) := by decide +kernel
theorem dX5_nextBooked_2 : decode cX5_nextBooked 2 = .ok (.iconst 0, 1) := by decide +kernel
theorem dX5_nextBooked_3 : decode cX5_nextBooked 3 = .ok (.istore_n 2, 1) := by decide +kernel
theorem dX5_nextBooked_4 : decode cX5_nextBooked 4 = .ok (.iload_n 2, 1) := by decide +kernel
theorem dX5_nextBooked_5 : decode cX5_nextBooked 5 = .ok (.aload_n 0, 1) := by decide +kernel
theorem dX5_nextBooked_6 : decode cX5_nextBooked 6 = .ok (.getfield 77, 3) := by decide +kernel
theorem dX5_nextBooked_9 : decode cX5_nextBooked 9 = .ok (.if_icmp .ge 41, 3) := by decide +kernel
theorem dX5_nextBooked_12 : decode cX5_nextBooked 12 = .ok (.aload_n 0, 1) := by decide +kernel
theorem dX5_nextBooked_13 : decode cX5_nextBooked 13 = .ok (.getfield 39, 3) := by decide +kernel
theorem dX5_nextBooked_16 : decode cX5_nextBooked 16 = .ok (.iload_n 2, 1) := by decide +kernel
theorem dX5_nextBooked_17 : decode cX5_nextBooked 17 = .ok (.caload, 1) := by decide +kernel
theorem dX5_nextBooked_18 : decode cX5_nextBooked 18 = .ok (.bipush 98, 2) := by decide +kernel
theorem dX5_nextBooked_20 : decode cX5_nextBooked 20 = .ok (.if_icmp .ne 24, 3) := by decide +kernel
theorem dX5_nextBooked_23 : decode cX5_nextBooked 23 = .ok (.iload_n 1, 1) := by decide +kernel
theorem dX5_nextBooked_24 : decode cX5_nextBooked 24 = .ok (.ifCond .lt 18, 3) := by decide +kernel
theorem dX5_nextBooked_27 : decode cX5_nextBooked 27 = .ok (.aload_n 0, 1) := by decide +kernel
theorem dX5_nextBooked_28 : decode cX5_nextBooked 28 = .ok (.getfield 30, 3) := by decide +kernel
theorem dX5_nextBooked_31 : decode cX5_nextBooked 31 = .ok (.iload_n 2, 1) := by decide +kernel
theorem dX5_nextBooked_32 : decode cX5_nextBooked 32 = .ok (.iaload, 1) := by decide +kernel
theorem dX5_nextBooked_33 : decode cX5_nextBooked 33 = .ok (.aload_n 0, 1) := by decide +kernel
theorem dX5_nextBooked_34 : decode cX5_nextBooked 34 = .ok (.getfield 30, 3) := by decide +kernel
theorem dX5_nextBooked_37 : decode cX5_nextBooked 37 = .ok (.iload_n 1, 1) := by decide +kernel
theorem dX5_nextBooked_38 : decode cX5_nextBooked 38 = .ok (.iaload, 1) := by decide +kernel
theorem dX5_nextBooked_39 : decode cX5_nextBooked 39 = .ok (.if_icmp .ge 5, 3) := by decide +kernel
theorem dX5_nextBooked_42 : decode cX5_nextBooked 42 = .ok (.iload_n 2, 1) := by decide +kernel
theorem dX5_nextBooked_43 : decode cX5_nextBooked 43 = .ok (.istore_n 1, 1) := by decide +kernel
theorem dX5_nextBooked_44 : decode cX5_nextBooked 44 = .ok (.iinc 2 1, 3) := by decide +kernel
theorem dX5_nextBooked_47 : decode cX5_nextBooked 47 = .ok (.goto (-43), 3) := by decide +kernel
theorem dX5_nextBooked_50 : decode cX5_nextBooked 50 = .ok (.aload_n 0, 1) := by decide +kernel
theorem dX5_nextBooked_51 : decode cX5_nextBooked 51 = .ok (.iload_n 1, 1) := by decide +kernel
theorem dX5_nextBooked_52 : decode cX5_nextBooked 52 = .ok (.ifCond .ge 7, 3) := by decide +kernel
theorem dX5_nextBooked_55 : decode cX5_nextBooked 55 = .ok (.iconst 1, 1) := by decide +kernel
theorem dX5_nextBooked_56 : decode cX5_nextBooked 56 = .ok (.goto 4, 3) := by decide +kernel
theorem dX5_nextBooked_59 : decode cX5_nextBooked 59 = .ok (.iconst 0, 1) := by decide +kernel
theorem dX5_nextBooked_60 : decode cX5_nextBooked 60 = .ok (.invokevirtual 80, 3) := by decide +kernel
theorem dX5_nextBooked_63 : decode cX5_nextBooked 63 = .ok (.ifCond .eq 7, 3) := by decide +kernel
theorem dX5_nextBooked_66 : decode cX5_nextBooked 66 = .ok (.iconst 0, 1) := by decide +kernel
theorem dX5_nextBooked_67 : decode cX5_nextBooked 67 = .ok (.goto 4, 3) := by decide +kernel
theorem dX5_nextBooked_70 : decode cX5_nextBooked 70 = .ok (.iload_n 1, 1) := by decide +kernel
theorem dX5_nextBooked_71 : decode cX5_nextBooked 71 = .ok (.ireturn, 1) := by decide +kernel
theorem dX5_slotOf_0 : decode cX5_slotOf 0 = .ok (.iconst 0, 1) := by decide +kernel
theorem dX5_slotOf_1 : decode cX5_slotOf 1 = .ok (.istore_n 2, 1) := by decide +kernel
theorem dX5_slotOf_2 : decode cX5_slotOf 2 = .ok (.iload_n 2, 1) := by decide +kernel
theorem dX5_slotOf_3 : decode cX5_slotOf 3 = .ok (.aload_n 0, 1) := by decide +kernel
theorem dX5_slotOf_4 : decode cX5_slotOf 4 = .ok (.getfield 70, 3) := by decide +kernel
theorem dX5_slotOf_7 : decode cX5_slotOf 7 = .ok (.if_icmp .ge 47, 3) := by decide +kernel
theorem dX5_slotOf_10 : decode cX5_slotOf 10 = .ok (.iconst 0, 1) := by decide +kernel
theorem dX5_slotOf_11 : decode cX5_slotOf 11 = .ok (.istore_n 3, 1) := by decide +kernel
theorem dX5_slotOf_12 : decode cX5_slotOf 12 = .ok (.iload_n 3, 1) := by decide +kernel
theorem dX5_slotOf_13 : decode cX5_slotOf 13 = .ok (.aload_n 0, 1) := by decide +kernel
theorem dX5_slotOf_14 : decode cX5_slotOf 14 = .ok (.getfield 17, 3) := by decide +kernel
theorem dX5_slotOf_17 : decode cX5_slotOf 17 = .ok (.iload_n 2, 1) := by decide +kernel
theorem dX5_slotOf_18 : decode cX5_slotOf 18 = .ok (.iaload, 1) := by decide +kernel
theorem dX5_slotOf_19 : decode cX5_slotOf 19 = .ok (.if_icmp .ge 29, 3) := by decide +kernel
theorem dX5_slotOf_22 : decode cX5_slotOf 22 = .ok (.aload_n 0, 1) := by decide +kernel
theorem dX5_slotOf_23 : decode cX5_slotOf 23 = .ok (.getfield 20, 3) := by decide +kernel
theorem dX5_slotOf_26 : decode cX5_slotOf 26 = .ok (.iconst 3, 1) := by decide +kernel
theorem dX5_slotOf_27 : decode cX5_slotOf 27 = .ok (.iload_n 2, 1) := by decide +kernel
theorem dX5_slotOf_28 : decode cX5_slotOf 28 = .ok (.imul, 1) := by decide +kernel
theorem dX5_slotOf_29 : decode cX5_slotOf 29 = .ok (.iload_n 3, 1) := by decide +kernel
theorem dX5_slotOf_30 : decode cX5_slotOf 30 = .ok (.iadd, 1) := by decide +kernel
theorem dX5_slotOf_31 : decode cX5_slotOf 31 = .ok (.iaload, 1) := by decide +kernel
theorem dX5_slotOf_32 : decode cX5_slotOf 32 = .ok (.iload_n 1, 1) := by decide +kernel
theorem dX5_slotOf_33 : decode cX5_slotOf 33 = .ok (.if_icmp .ne 9, 3) := by decide +kernel
theorem dX5_slotOf_36 : decode cX5_slotOf 36 = .ok (.iconst 3, 1) := by decide +kernel
theorem dX5_slotOf_37 : decode cX5_slotOf 37 = .ok (.iload_n 2, 1) := by decide +kernel
theorem dX5_slotOf_38 : decode cX5_slotOf 38 = .ok (.imul, 1) := by decide +kernel
theorem dX5_slotOf_39 : decode cX5_slotOf 39 = .ok (.iload_n 3, 1) := by decide +kernel
theorem dX5_slotOf_40 : decode cX5_slotOf 40 = .ok (.iadd, 1) := by decide +kernel
theorem dX5_slotOf_41 : decode cX5_slotOf 41 = .ok (.ireturn, 1) := by decide +kernel
theorem dX5_slotOf_42 : decode cX5_slotOf 42 = .ok (.iinc 3 1, 3) := by decide +kernel
theorem dX5_slotOf_45 : decode cX5_slotOf 45 = .ok (.goto (-33), 3) := by decide +kernel
theorem dX5_slotOf_48 : decode cX5_slotOf 48 = .ok (.iinc 2 1, 3) := by decide +kernel
theorem dX5_slotOf_51 : decode cX5_slotOf 51 = .ok (.goto (-49), 3) := by decide +kernel
theorem dX5_slotOf_54 : decode cX5_slotOf 54 = .ok (.iconst (-1), 1) := by decide +kernel
theorem dX5_slotOf_55 : decode cX5_slotOf 55 = .ok (.ireturn, 1) := by decide +kernel
set_option maxRecDepth 20000 in
theorem ggX5_ahead_X5_slotOf : GoodIn wsX5_ahead wsX5_slotOf := goodIn_ca (goodIn_r _ [6, 7, 1, 8, 9, 10, 11, 12, 13, 14, 15, 16, 17, 18, 19, 20, 21, 22, 23, 24, 25, 26, 27, 28, 29, 30, 31, 32, 33] (by decide +kernel) (by decide +kernel)) (goodIn_sub (fun _ h => List.mem_cons_of_mem _ (List.mem_append_right _ h)) (by decide +kernel))
set_option maxRecDepth 20000 in
theorem gX5_ahead_X5_slotOf : GoodIn wsX5_ahead (wsV RX5 115 RX5 yX5_slotOf wsX5_slotOf) := goodIn_app (goodIn_of _ (by decide +kernel)) ggX5_ahead_X5_slotOf
theorem dX5_ahead_0 : decode cX5_ahead 0 = .ok (.aload_n 0, 1) := by decide +kernel
theorem dX5_ahead_1 : decode cX5_ahead 1 = .ok (.iload_n 1, 1) := by decide +kernel
theorem dX5_ahead_2 : decode cX5_ahead 2 = .ok (.invokevirtual 115, 3) := by decide +kernel
theorem dX5_ahead_5 : decode cX5_ahead 5 = .ok (.istore_n 2, 1) := by decide +kernel
theorem dX5_ahead_6 : decode cX5_ahead 6 = .ok (.aload_n 0, 1) := by decide +kernel
theorem dX5_ahead_7 : decode cX5_ahead 7 = .ok (.getfield 17, 3) := by decide +kernel
theorem dX5_ahead_10 : decode cX5_ahead 10 = .ok (.iload_n 2, 1) := by decide +kernel
theorem dX5_ahead_11 : decode cX5_ahead 11 = .ok (.iconst 3, 1) := by decide +kernel
theorem dX5_ahead_12 : decode cX5_ahead 12 = .ok (.idiv, 1) := by decide +kernel
theorem dX5_ahead_13 : decode cX5_ahead 13 = .ok (.iaload, 1) := by decide +kernel
theorem dX5_ahead_14 : decode cX5_ahead 14 = .ok (.iconst 1, 1) := by decide +kernel
theorem dX5_ahead_15 : decode cX5_ahead 15 = .ok (.isub, 1) := by decide +kernel
theorem dX5_ahead_16 : decode cX5_ahead 16 = .ok (.iload_n 2, 1) := by decide +kernel
theorem dX5_ahead_17 : decode cX5_ahead 17 = .ok (.iconst 3, 1) := by decide +kernel
theorem dX5_ahead_18 : decode cX5_ahead 18 = .ok (.irem, 1) := by decide +kernel
theorem dX5_ahead_19 : decode cX5_ahead 19 = .ok (.isub, 1) := by decide +kernel
theorem dX5_ahead_20 : decode cX5_ahead 20 = .ok (.ireturn, 1) := by decide +kernel
set_option maxRecDepth 20000 in
theorem ggX5_isReached_X5_slotOf : GoodIn wsX5_isReached wsX5_slotOf := goodIn_ca (goodIn_r _ [5, 6, 7, 8, 13, 14, 15, 16, 17, 18, 19, 20, 21, 22, 23, 24, 25, 26, 27, 28, 29, 30, 31, 32, 33, 34, 35, 36, 37] (by decide +kernel) (by decide +kernel)) (goodIn_sub (fun _ h => List.mem_cons_of_mem _ (List.mem_append_right _ h)) (by decide +kernel))
set_option maxRecDepth 20000 in
theorem gX5_isReached_X5_slotOf : GoodIn wsX5_isReached (wsV RX5 115 RX5 yX5_slotOf wsX5_slotOf) := goodIn_app (goodIn_of _ (by decide +kernel)) ggX5_isReached_X5_slotOf
set_option maxRecDepth 20000 in
theorem ggX5_isReached_X5_ahead : GoodIn wsX5_isReached wsX5_ahead := goodIn_ca (goodIn_r _ [12, 7, 1, 2, 3, 4, 5, 6, 8, 13, 14, 15, 16, 17, 18, 19, 20, 21, 22, 23, 24, 25, 26, 27, 28, 29, 30, 31, 32, 33, 34, 35, 36, 37] (by decide +kernel) (by decide +kernel)) (goodIn_sub (fun _ h => List.mem_cons_of_mem _ (List.mem_append_right _ h)) (by decide +kernel))
set_option maxRecDepth 20000 in
theorem gX5_isReached_X5_ahead : GoodIn wsX5_isReached (wsV RX5 119 RX5 yX5_ahead wsX5_ahead) := goodIn_app (goodIn_of _ (by decide +kernel)) ggX5_isReached_X5_ahead
theorem dX5_isReached_0 : decode cX5_isReached 0 = .ok (.aload_n 0, 1) := by decide +kernel
theorem dX5_isReached_1 : decode cX5_isReached 1 = .ok (.iload_n 1, 1) := by decide +kernel
theorem dX5_isReached_2 : decode cX5_isReached 2 = .ok (.invokevirtual 115, 3) := by decide +kernel
theorem dX5_isReached_5 : decode cX5_isReached 5 = .ok (.ifCond .lt 15, 3) := by decide +kernel
theorem dX5_isReached_8 : decode cX5_isReached 8 = .ok (.aload_n 0, 1) := by decide +kernel
theorem dX5_isReached_9 : decode cX5_isReached 9 = .ok (.iload_n 1, 1) := by decide +kernel
theorem dX5_isReached_10 : decode cX5_isReached 10 = .ok (.invokevirtual 119, 3) := by decide +kernel
theorem dX5_isReached_13 : decode cX5_isReached 13 = .ok (.ifCond .ne 7, 3) := by decide +kernel
theorem dX5_isReached_16 : decode cX5_isReached 16 = .ok (.iconst 1, 1) := by decide +kernel
theorem dX5_isReached_17 : decode cX5_isReached 17 = .ok (.goto 4, 3) := by decide +kernel
theorem dX5_isReached_20 : decode cX5_isReached 20 = .ok (.iconst 0, 1) := by decide +kernel
theorem dX5_isReached_21 : decode cX5_isReached 21 = .ok (.ireturn, 1) := by decide +kernel
set_option maxRecDepth 20000 in
theorem ggX5_shift_X5_isNone : GoodIn wsX5_shift wsX5_isNone := goodIn_r _ [7, 8, 9, 10, 6, 11, 46, 47, 48, 49, 50, 51, 52, 53, 54, 55, 56, 57, 58, 59, 60, 61, 62, 63, 64, 65, 66, 67, 68, 69, 70] (by decide +kernel) (by decide +kernel)
set_option maxRecDepth 20000 in
theorem gX5_shift_X5_isNone : GoodIn wsX5_shift (wsV RX5 90 RX5 yX5_isNone wsX5_isNone) := goodIn_app (goodIn_of _ (by decide +kernel)) ggX5_shift_X5_isNone
set_option maxRecDepth 20000 in
theorem ggX5_shift_X5_isNoLane : GoodIn wsX5_shift wsX5_isNoLane := goodIn_r _ [15, 16, 9, 10, 6, 11, 46, 47, 48, 49, 50, 51, 52, 53, 54, 55, 56, 57, 58, 59, 60, 61, 62, 63, 64, 65, 66, 67, 68, 69, 70] (by decide +kernel) (by decide +kernel)
set_option maxRecDepth 20000 in
theorem gX5_shift_X5_isNoLane : GoodIn wsX5_shift (wsV RX5 93 RX5 yX5_isNoLane wsX5_isNoLane) := goodIn_app (goodIn_of _ (by decide +kernel)) ggX5_shift_X5_isNoLane
set_option maxRecDepth 20000 in
theorem ggX5_shift_X5_isReached : GoodIn wsX5_shift wsX5_isReached := goodIn_ca (goodIn_r _ [20, 21, 22, 23, 6, 24, 16, 1, 25, 26, 27, 28, 29, 46, 47, 48, 49, 50, 51, 52, 53, 54, 55, 56, 57, 58, 59, 60, 61, 62, 63, 64, 65, 66, 67, 68, 69, 70] (by decide +kernel) (by decide +kernel)) (goodIn_sub (fun _ h => List.mem_cons_of_mem _ (List.mem_append_right _ h)) (by decide +kernel))
set_option maxRecDepth 20000 in
theorem gX5_shift_X5_isReached : GoodIn wsX5_shift (wsV RX5 122 RX5 yX5_isReached wsX5_isReached) := goodIn_app (goodIn_of _ (by decide +kernel)) ggX5_shift_X5_isReached
set_option maxRecDepth 20000 in
theorem ggX5_shift_X5_slotOf : GoodIn wsX5_shift wsX5_slotOf := goodIn_ca (goodIn_r _ [24, 16, 1, 25, 46, 47, 48, 49, 50, 51, 52, 53, 54, 55, 56, 57, 58, 59, 60, 61, 62, 63, 64, 65, 66, 67, 68, 69, 70] (by decide +kernel) (by decide +kernel)) (goodIn_sub (fun _ h => List.mem_cons_of_mem _ (List.mem_append_right _ h)) (by decide +kernel))
set_option maxRecDepth 20000 in
theorem gX5_shift_X5_slotOf : GoodIn wsX5_shift (wsV RX5 115 RX5 yX5_slotOf wsX5_slotOf) := goodIn_app (goodIn_of _ (by decide +kernel)) ggX5_shift_X5_slotOf
set_option maxRecDepth 20000 in
theorem ggX5_shift_X5_canCome : GoodIn wsX5_shift wsX5_canCome := goodIn_ca (goodIn_r _ [33, 1, 34, 35, 36, 46, 47, 48, 49, 50, 51, 52, 53, 54, 55, 56, 57, 58, 59, 60, 61, 62, 63, 64, 65, 66, 67, 68, 69, 70] (by decide +kernel) (by decide +kernel)) (goodIn_sub (fun _ h => List.mem_cons_of_mem _ (List.mem_append_right _ h)) (by decide +kernel))
set_option maxRecDepth 20000 in
theorem gX5_shift_X5_canCome : GoodIn wsX5_shift (wsV RX5 100 RX5 yX5_canCome wsX5_canCome) := goodIn_app (goodIn_of _ (by decide +kernel)) ggX5_shift_X5_canCome
set_option maxRecDepth 20000 in
theorem ggX5_shift_X5_fails : GoodIn wsX5_shift wsX5_fails := goodIn_r _ [40, 41, 46, 47, 48, 49, 50, 51, 52, 53, 54, 55, 56, 57, 58, 59, 60, 61, 62, 63, 64, 65, 66, 67, 68, 69, 70] (by decide +kernel) (by decide +kernel)
set_option maxRecDepth 20000 in
theorem gX5_shift_X5_fails : GoodIn wsX5_shift (wsV RX5 80 RX5 yX5_fails wsX5_fails) := goodIn_app (goodIn_of _ (by decide +kernel)) ggX5_shift_X5_fails
set_option maxRecDepth 20000 in
theorem ggX5_shift_X5_comes : GoodIn wsX5_shift wsX5_comes := goodIn_ca (goodIn_r _ [45, 25, 1, 46, 47, 48, 49, 50, 51, 52, 53, 54, 55, 56, 57, 58, 59, 60, 61, 62, 63, 64, 65, 66, 67, 68, 69, 70] (by decide +kernel) (by decide +kernel)) (goodIn_sub (fun _ h => List.mem_cons_of_mem _ (List.mem_append_right _ h)) (by decide +kernel))
set_option maxRecDepth 20000 in
theorem gX5_shift_X5_comes : GoodIn wsX5_shift (wsV RX5 104 RX5 yX5_comes wsX5_comes) := goodIn_app (goodIn_of _ (by decide +kernel)) ggX5_shift_X5_comes
theorem dX5_shift_0 : decode cX5_shift 0 = .ok (.aload_n 0, 1) := by decide +kernel
theorem dX5_shift_1 : decode cX5_shift 1 = .ok (.aload_n 0, 1) := by decide +kernel
theorem dX5_shift_2 : decode cX5_shift 2 = .ok (.iload_n 1, 1) := by decide +kernel
theorem dX5_shift_3 : decode cX5_shift 3 = .ok (.invokevirtual 90, 3) := by decide +kernel
theorem dX5_shift_6 : decode cX5_shift 6 = .ok (.ifCond .eq 7, 3) := by decide +kernel
theorem dX5_shift_9 : decode cX5_shift 9 = .ok (.iconst 1, 1) := by decide +kernel
theorem dX5_shift_10 : decode cX5_shift 10 = .ok (.goto 52, 3) := by decide +kernel
theorem dX5_shift_13 : decode cX5_shift 13 = .ok (.aload_n 0, 1) := by decide +kernel
theorem dX5_shift_14 : decode cX5_shift 14 = .ok (.iload_n 2, 1) := by decide +kernel
theorem dX5_shift_15 : decode cX5_shift 15 = .ok (.invokevirtual 93, 3) := by decide +kernel
theorem dX5_shift_18 : decode cX5_shift 18 = .ok (.ifCond .eq 7, 3) := by decide +kernel
theorem dX5_shift_21 : decode cX5_shift 21 = .ok (.iconst 2, 1) := by decide +kernel
theorem dX5_shift_22 : decode cX5_shift 22 = .ok (.goto 40, 3) := by decide +kernel
theorem dX5_shift_25 : decode cX5_shift 25 = .ok (.aload_n 0, 1) := by decide +kernel
theorem dX5_shift_26 : decode cX5_shift 26 = .ok (.iload_n 1, 1) := by decide +kernel
theorem dX5_shift_27 : decode cX5_shift 27 = .ok (.invokevirtual 122, 3) := by decide +kernel
theorem dX5_shift_30 : decode cX5_shift 30 = .ok (.ifCond .ne 7, 3) := by decide +kernel
theorem dX5_shift_33 : decode cX5_shift 33 = .ok (.iconst 3, 1) := by decide +kernel
theorem dX5_shift_34 : decode cX5_shift 34 = .ok (.goto 28, 3) := by decide +kernel
theorem dX5_shift_37 : decode cX5_shift 37 = .ok (.aload_n 0, 1) := by decide +kernel
theorem dX5_shift_38 : decode cX5_shift 38 = .ok (.iload_n 1, 1) := by decide +kernel
theorem dX5_shift_39 : decode cX5_shift 39 = .ok (.invokevirtual 115, 3) := by decide +kernel
theorem dX5_shift_42 : decode cX5_shift 42 = .ok (.iconst 3, 1) := by decide +kernel
theorem dX5_shift_43 : decode cX5_shift 43 = .ok (.idiv, 1) := by decide +kernel
theorem dX5_shift_44 : decode cX5_shift 44 = .ok (.iload_n 2, 1) := by decide +kernel
theorem dX5_shift_45 : decode cX5_shift 45 = .ok (.if_icmp .eq 12, 3) := by decide +kernel
theorem dX5_shift_48 : decode cX5_shift 48 = .ok (.aload_n 0, 1) := by decide +kernel
theorem dX5_shift_49 : decode cX5_shift 49 = .ok (.iload_n 1, 1) := by decide +kernel
theorem dX5_shift_50 : decode cX5_shift 50 = .ok (.iload_n 2, 1) := by decide +kernel
theorem dX5_shift_51 : decode cX5_shift 51 = .ok (.invokevirtual 100, 3) := by decide +kernel
theorem dX5_shift_54 : decode cX5_shift 54 = .ok (.ifCond .ne 7, 3) := by decide +kernel
theorem dX5_shift_57 : decode cX5_shift 57 = .ok (.iconst 4, 1) := by decide +kernel
theorem dX5_shift_58 : decode cX5_shift 58 = .ok (.goto 4, 3) := by decide +kernel
theorem dX5_shift_61 : decode cX5_shift 61 = .ok (.iconst 0, 1) := by decide +kernel
theorem dX5_shift_62 : decode cX5_shift 62 = .ok (.invokevirtual 80, 3) := by decide +kernel
theorem dX5_shift_65 : decode cX5_shift 65 = .ok (.ifCond .eq 5, 3) := by decide +kernel
theorem dX5_shift_68 : decode cX5_shift 68 = .ok (.iconst 0, 1) := by decide +kernel
theorem dX5_shift_69 : decode cX5_shift 69 = .ok (.ireturn, 1) := by decide +kernel
theorem dX5_shift_70 : decode cX5_shift 70 = .ok (.aload_n 0, 1) := by decide +kernel
theorem dX5_shift_71 : decode cX5_shift 71 = .ok (.getfield 17, 3) := by decide +kernel
theorem dX5_shift_74 : decode cX5_shift 74 = .ok (.aload_n 0, 1) := by decide +kernel
theorem dX5_shift_75 : decode cX5_shift 75 = .ok (.iload_n 1, 1) := by decide +kernel
theorem dX5_shift_76 : decode cX5_shift 76 = .ok (.invokevirtual 115, 3) := by decide +kernel
theorem dX5_shift_79 : decode cX5_shift 79 = .ok (.iconst 3, 1) := by decide +kernel
theorem dX5_shift_80 : decode cX5_shift 80 = .ok (.idiv, 1) := by decide +kernel
theorem dX5_shift_81 : decode cX5_shift 81 = .ok (.dup2, 1) := by decide +kernel
theorem dX5_shift_82 : decode cX5_shift 82 = .ok (.iaload, 1) := by decide +kernel
theorem dX5_shift_83 : decode cX5_shift 83 = .ok (.iconst 1, 1) := by decide +kernel
theorem dX5_shift_84 : decode cX5_shift 84 = .ok (.isub, 1) := by decide +kernel
theorem dX5_shift_85 : decode cX5_shift 85 = .ok (.iastore, 1) := by decide +kernel
theorem dX5_shift_86 : decode cX5_shift 86 = .ok (.aload_n 0, 1) := by decide +kernel
theorem dX5_shift_87 : decode cX5_shift 87 = .ok (.iload_n 1, 1) := by decide +kernel
theorem dX5_shift_88 : decode cX5_shift 88 = .ok (.iload_n 2, 1) := by decide +kernel
theorem dX5_shift_89 : decode cX5_shift 89 = .ok (.invokevirtual 104, 3) := by decide +kernel
theorem dX5_shift_92 : decode cX5_shift 92 = .ok (.aload_n 0, 1) := by decide +kernel
theorem dX5_shift_93 : decode cX5_shift 93 = .ok (.dup, 1) := by decide +kernel
theorem dX5_shift_94 : decode cX5_shift 94 = .ok (.getfield 125, 3) := by decide +kernel
theorem dX5_shift_97 : decode cX5_shift 97 = .ok (.iconst 1, 1) := by decide +kernel
theorem dX5_shift_98 : decode cX5_shift 98 = .ok (.iadd, 1) := by decide +kernel
theorem dX5_shift_99 : decode cX5_shift 99 = .ok (.putfield 125, 3) := by decide +kernel
theorem dX5_shift_102 : decode cX5_shift 102 = .ok (.aload_n 0, 1) := by decide +kernel
theorem dX5_shift_103 : decode cX5_shift 103 = .ok (.getfield 125, 3) := by decide +kernel
theorem dX5_shift_106 : decode cX5_shift 106 = .ok (.ireturn, 1) := by decide +kernel
theorem dX5_canServe_0 : decode cX5_canServe 0 = .ok (.aload_n 0, 1) := by decide +kernel
theorem dX5_canServe_1 : decode cX5_canServe 1 = .ok (.getfield 27, 3) := by decide +kernel
theorem dX5_canServe_4 : decode cX5_canServe 4 = .ok (.iload_n 1, 1) := by decide +kernel
theorem dX5_canServe_5 : decode cX5_canServe 5 = .ok (.iaload, 1) := by decide +kernel
theorem dX5_canServe_6 : decode cX5_canServe 6 = .ok (.ifCond .ge 33, 3) := by decide +kernel
theorem dX5_canServe_9 : decode cX5_canServe 9 = .ok (.aload_n 0, 1) := by decide +kernel
theorem dX5_canServe_10 : decode cX5_canServe 10 = .ok (.getfield 23, 3) := by decide +kernel
theorem dX5_canServe_13 : decode cX5_canServe 13 = .ok (.iload_n 1, 1) := by decide +kernel
theorem dX5_canServe_14 : decode cX5_canServe 14 = .ok (.caload, 1) := by decide +kernel
theorem dX5_canServe_15 : decode cX5_canServe 15 = .ok (.bipush 98, 2) := by decide +kernel
theorem dX5_canServe_17 : decode cX5_canServe 17 = .ok (.if_icmp .eq 18, 3) := by decide +kernel
theorem dX5_canServe_20 : decode cX5_canServe 20 = .ok (.aload_n 0, 1) := by decide +kernel
theorem dX5_canServe_21 : decode cX5_canServe 21 = .ok (.getfield 23, 3) := by decide +kernel
theorem dX5_canServe_24 : decode cX5_canServe 24 = .ok (.iload_n 1, 1) := by decide +kernel
theorem dX5_canServe_25 : decode cX5_canServe 25 = .ok (.caload, 1) := by decide +kernel
theorem dX5_canServe_26 : decode cX5_canServe 26 = .ok (.aload_n 0, 1) := by decide +kernel
theorem dX5_canServe_27 : decode cX5_canServe 27 = .ok (.getfield 33, 3) := by decide +kernel
theorem dX5_canServe_30 : decode cX5_canServe 30 = .ok (.iload_n 2, 1) := by decide +kernel
theorem dX5_canServe_31 : decode cX5_canServe 31 = .ok (.caload, 1) := by decide +kernel
theorem dX5_canServe_32 : decode cX5_canServe 32 = .ok (.if_icmp .ne 7, 3) := by decide +kernel
theorem dX5_canServe_35 : decode cX5_canServe 35 = .ok (.iconst 1, 1) := by decide +kernel
theorem dX5_canServe_36 : decode cX5_canServe 36 = .ok (.goto 4, 3) := by decide +kernel
theorem dX5_canServe_39 : decode cX5_canServe 39 = .ok (.iconst 0, 1) := by decide +kernel
theorem dX5_canServe_40 : decode cX5_canServe 40 = .ok (.ireturn, 1) := by decide +kernel
set_option maxRecDepth 20000 in
theorem ggX5_dock_X5_isNone : GoodIn wsX5_dock wsX5_isNone := goodIn_r _ [14, 15, 16, 17, 13, 18, 44, 45, 46, 47, 48, 49, 50, 51, 52, 53, 54, 55, 56, 57, 58, 59, 60, 61, 62, 63, 64, 65, 66, 67, 68] (by decide +kernel) (by decide +kernel)
set_option maxRecDepth 20000 in
theorem gX5_dock_X5_isNone : GoodIn wsX5_dock (wsV RX5 90 RX5 yX5_isNone wsX5_isNone) := goodIn_app (goodIn_of _ (by decide +kernel)) ggX5_dock_X5_isNone
set_option maxRecDepth 20000 in
theorem ggX5_dock_X5_in : GoodIn wsX5_dock wsX5_in := goodIn_r _ [18] (by decide +kernel) (by decide +kernel)
set_option maxRecDepth 20000 in
theorem gX5_dock_X5_in : GoodIn wsX5_dock (va_wsS RX5 73 yX5_in wsX5_in) := goodIn_app (goodIn_of _ (by decide +kernel)) ggX5_dock_X5_in
set_option maxRecDepth 20000 in
theorem ggX5_dock_X5_isReached : GoodIn wsX5_dock wsX5_isReached := goodIn_ca (goodIn_r _ [22, 23, 24, 25, 13, 26, 27, 2, 28, 29, 30, 31, 32, 44, 45, 46, 47, 48, 49, 50, 51, 52, 53, 54, 55, 56, 57, 58, 59, 60, 61, 62, 63, 64, 65, 66, 67, 68] (by decide +kernel) (by decide +kernel)) (goodIn_sub (fun _ h => List.mem_cons_of_mem _ (List.mem_append_right _ h)) (by decide +kernel))
set_option maxRecDepth 20000 in
theorem gX5_dock_X5_isReached : GoodIn wsX5_dock (wsV RX5 122 RX5 yX5_isReached wsX5_isReached) := goodIn_app (goodIn_of _ (by decide +kernel)) ggX5_dock_X5_isReached
set_option maxRecDepth 20000 in
theorem ggX5_dock_X5_canServe : GoodIn wsX5_dock wsX5_canServe := goodIn_ca (goodIn_r _ [36, 3, 37, 38, 44, 45, 46, 47, 48, 49, 50, 51, 52, 53, 54, 55, 56, 57, 58, 59, 60, 61, 62, 63, 64, 65, 66, 67, 68] (by decide +kernel) (by decide +kernel)) (goodIn_sub (fun _ h => List.mem_cons_of_mem _ (List.mem_append_right _ h)) (by decide +kernel))
set_option maxRecDepth 20000 in
theorem gX5_dock_X5_canServe : GoodIn wsX5_dock (wsV RX5 128 RX5 yX5_canServe wsX5_canServe) := goodIn_app (goodIn_of _ (by decide +kernel)) ggX5_dock_X5_canServe
set_option maxRecDepth 20000 in
theorem ggX5_dock_X5_fails : GoodIn wsX5_dock wsX5_fails := goodIn_r _ [42, 43, 44, 45, 46, 47, 48, 49, 50, 51, 52, 53, 54, 55, 56, 57, 58, 59, 60, 61, 62, 63, 64, 65, 66, 67, 68] (by decide +kernel) (by decide +kernel)
set_option maxRecDepth 20000 in
theorem gX5_dock_X5_fails : GoodIn wsX5_dock (wsV RX5 80 RX5 yX5_fails wsX5_fails) := goodIn_app (goodIn_of _ (by decide +kernel)) ggX5_dock_X5_fails
set_option maxRecDepth 20000 in
theorem ggX5_dock_X5_slotOf : GoodIn wsX5_dock wsX5_slotOf := goodIn_ca (goodIn_r _ [26, 27, 2, 28, 44, 45, 46, 47, 48, 49, 50, 51, 52, 53, 54, 55, 56, 57, 58, 59, 60, 61, 62, 63, 64, 65, 66, 67, 68] (by decide +kernel) (by decide +kernel)) (goodIn_sub (fun _ h => List.mem_cons_of_mem _ (List.mem_append_right _ h)) (by decide +kernel))
set_option maxRecDepth 20000 in
theorem gX5_dock_X5_slotOf : GoodIn wsX5_dock (wsV RX5 115 RX5 yX5_slotOf wsX5_slotOf) := goodIn_app (goodIn_of _ (by decide +kernel)) ggX5_dock_X5_slotOf
theorem dX5_dock_0 : decode cX5_dock 0 = .ok (.aload_n 0, 1) := by decide +kernel
theorem dX5_dock_1 : decode cX5_dock 1 = .ok (.aload_n 0, 1) := by decide +kernel
theorem dX5_dock_2 : decode cX5_dock 2 = .ok (.iload_n 1, 1) := by decide +kernel
theorem dX5_dock_3 : decode cX5_dock 3 = .ok (.invokevirtual 90, 3) := by decide +kernel
theorem dX5_dock_6 : decode cX5_dock 6 = .ok (.ifCond .eq 7, 3) := by decide +kernel
theorem dX5_dock_9 : decode cX5_dock 9 = .ok (.iconst 1, 1) := by decide +kernel
theorem dX5_dock_10 : decode cX5_dock 10 = .ok (.goto 47, 3) := by decide +kernel
theorem dX5_dock_13 : decode cX5_dock 13 = .ok (.iload_n 2, 1) := by decide +kernel
theorem dX5_dock_14 : decode cX5_dock 14 = .ok (.iconst 0, 1) := by decide +kernel
theorem dX5_dock_15 : decode cX5_dock 15 = .ok (.aload_n 0, 1) := by decide +kernel
theorem dX5_dock_16 : decode cX5_dock 16 = .ok (.getfield 84, 3) := by decide +kernel
theorem dX5_dock_19 : decode cX5_dock 19 = .ok (.iconst 1, 1) := by decide +kernel
theorem dX5_dock_20 : decode cX5_dock 20 = .ok (.isub, 1) := by decide +kernel
theorem dX5_dock_21 : decode cX5_dock 21 = .ok (.invokestatic 73, 3) := by decide +kernel
theorem dX5_dock_24 : decode cX5_dock 24 = .ok (.ifCond .ne 7, 3) := by decide +kernel
theorem dX5_dock_27 : decode cX5_dock 27 = .ok (.iconst 2, 1) := by decide +kernel
theorem dX5_dock_28 : decode cX5_dock 28 = .ok (.goto 29, 3) := by decide +kernel
theorem dX5_dock_31 : decode cX5_dock 31 = .ok (.aload_n 0, 1) := by decide +kernel
theorem dX5_dock_32 : decode cX5_dock 32 = .ok (.iload_n 1, 1) := by decide +kernel
theorem dX5_dock_33 : decode cX5_dock 33 = .ok (.invokevirtual 122, 3) := by decide +kernel
theorem dX5_dock_36 : decode cX5_dock 36 = .ok (.ifCond .ne 7, 3) := by decide +kernel
theorem dX5_dock_39 : decode cX5_dock 39 = .ok (.iconst 3, 1) := by decide +kernel
theorem dX5_dock_40 : decode cX5_dock 40 = .ok (.goto 17, 3) := by decide +kernel
theorem dX5_dock_43 : decode cX5_dock 43 = .ok (.aload_n 0, 1) := by decide +kernel
theorem dX5_dock_44 : decode cX5_dock 44 = .ok (.iload_n 2, 1) := by decide +kernel
theorem dX5_dock_45 : decode cX5_dock 45 = .ok (.iload_n 1, 1) := by decide +kernel
theorem dX5_dock_46 : decode cX5_dock 46 = .ok (.invokevirtual 128, 3) := by decide +kernel
theorem dX5_dock_49 : decode cX5_dock 49 = .ok (.ifCond .eq 7, 3) := by decide +kernel
theorem dX5_dock_52 : decode cX5_dock 52 = .ok (.iconst 0, 1) := by decide +kernel
theorem dX5_dock_53 : decode cX5_dock 53 = .ok (.goto 4, 3) := by decide +kernel
theorem dX5_dock_56 : decode cX5_dock 56 = .ok (.iconst 4, 1) := by decide +kernel
theorem dX5_dock_57 : decode cX5_dock 57 = .ok (.invokevirtual 80, 3) := by decide +kernel
theorem dX5_dock_60 : decode cX5_dock 60 = .ok (.ifCond .eq 5, 3) := by decide +kernel
theorem dX5_dock_63 : decode cX5_dock 63 = .ok (.iconst 0, 1) := by decide +kernel
theorem dX5_dock_64 : decode cX5_dock 64 = .ok (.ireturn, 1) := by decide +kernel
theorem dX5_dock_65 : decode cX5_dock 65 = .ok (.aload_n 0, 1) := by decide +kernel
theorem dX5_dock_66 : decode cX5_dock 66 = .ok (.getfield 17, 3) := by decide +kernel
theorem dX5_dock_69 : decode cX5_dock 69 = .ok (.aload_n 0, 1) := by decide +kernel
theorem dX5_dock_70 : decode cX5_dock 70 = .ok (.iload_n 1, 1) := by decide +kernel
theorem dX5_dock_71 : decode cX5_dock 71 = .ok (.invokevirtual 115, 3) := by decide +kernel
theorem dX5_dock_74 : decode cX5_dock 74 = .ok (.iconst 3, 1) := by decide +kernel
theorem dX5_dock_75 : decode cX5_dock 75 = .ok (.idiv, 1) := by decide +kernel
theorem dX5_dock_76 : decode cX5_dock 76 = .ok (.dup2, 1) := by decide +kernel
theorem dX5_dock_77 : decode cX5_dock 77 = .ok (.iaload, 1) := by decide +kernel
theorem dX5_dock_78 : decode cX5_dock 78 = .ok (.iconst 1, 1) := by decide +kernel
theorem dX5_dock_79 : decode cX5_dock 79 = .ok (.isub, 1) := by decide +kernel
theorem dX5_dock_80 : decode cX5_dock 80 = .ok (.iastore, 1) := by decide +kernel
theorem dX5_dock_81 : decode cX5_dock 81 = .ok (.aload_n 0, 1) := by decide +kernel
theorem dX5_dock_82 : decode cX5_dock 82 = .ok (.getfield 27, 3) := by decide +kernel
theorem dX5_dock_85 : decode cX5_dock 85 = .ok (.iload_n 2, 1) := by decide +kernel
theorem dX5_dock_86 : decode cX5_dock 86 = .ok (.iload_n 1, 1) := by decide +kernel
theorem dX5_dock_87 : decode cX5_dock 87 = .ok (.iastore, 1) := by decide +kernel
theorem dX5_dock_88 : decode cX5_dock 88 = .ok (.aload_n 0, 1) := by decide +kernel
theorem dX5_dock_89 : decode cX5_dock 89 = .ok (.getfield 48, 3) := by decide +kernel
theorem dX5_dock_92 : decode cX5_dock 92 = .ok (.iload_n 1, 1) := by decide +kernel
theorem dX5_dock_93 : decode cX5_dock 93 = .ok (.iload_n 2, 1) := by decide +kernel
theorem dX5_dock_94 : decode cX5_dock 94 = .ok (.iastore, 1) := by decide +kernel
theorem dX5_dock_95 : decode cX5_dock 95 = .ok (.aload_n 0, 1) := by decide +kernel
theorem dX5_dock_96 : decode cX5_dock 96 = .ok (.getfield 45, 3) := by decide +kernel
theorem dX5_dock_99 : decode cX5_dock 99 = .ok (.iload_n 1, 1) := by decide +kernel
theorem dX5_dock_100 : decode cX5_dock 100 = .ok (.aload_n 0, 1) := by decide +kernel
theorem dX5_dock_101 : decode cX5_dock 101 = .ok (.getfield 87, 3) := by decide +kernel
theorem dX5_dock_104 : decode cX5_dock 104 = .ok (.iastore, 1) := by decide +kernel
theorem dX5_dock_105 : decode cX5_dock 105 = .ok (.aload_n 0, 1) := by decide +kernel
theorem dX5_dock_106 : decode cX5_dock 106 = .ok (.getfield 39, 3) := by decide +kernel
theorem dX5_dock_109 : decode cX5_dock 109 = .ok (.iload_n 1, 1) := by decide +kernel
theorem dX5_dock_110 : decode cX5_dock 110 = .ok (.bipush 119, 2) := by decide +kernel
theorem dX5_dock_112 : decode cX5_dock 112 = .ok (.castore, 1) := by decide +kernel
theorem dX5_dock_113 : decode cX5_dock 113 = .ok (.aload_n 0, 1) := by decide +kernel
theorem dX5_dock_114 : decode cX5_dock 114 = .ok (.dup, 1) := by decide +kernel
theorem dX5_dock_115 : decode cX5_dock 115 = .ok (.getfield 125, 3) := by decide +kernel
theorem dX5_dock_118 : decode cX5_dock 118 = .ok (.iconst 1, 1) := by decide +kernel
theorem dX5_dock_119 : decode cX5_dock 119 = .ok (.iadd, 1) := by decide +kernel
theorem dX5_dock_120 : decode cX5_dock 120 = .ok (.putfield 125, 3) := by decide +kernel
theorem dX5_dock_123 : decode cX5_dock 123 = .ok (.aload_n 0, 1) := by decide +kernel
theorem dX5_dock_124 : decode cX5_dock 124 = .ok (.getfield 87, 3) := by decide +kernel
theorem dX5_dock_127 : decode cX5_dock 127 = .ok (.aload_n 0, 1) := by decide +kernel
theorem dX5_dock_128 : decode cX5_dock 128 = .ok (.getfield 36, 3) := by decide +kernel
theorem dX5_dock_131 : decode cX5_dock 131 = .ok (.iload_n 1, 1) := by decide +kernel
theorem dX5_dock_132 : decode cX5_dock 132 = .ok (.iaload, 1) := by decide +kernel
theorem dX5_dock_133 : decode cX5_dock 133 = .ok (.iadd, 1) := by decide +kernel
theorem dX5_dock_134 : decode cX5_dock 134 = .ok (.ireturn, 1) := by decide +kernel
theorem dX5_waits_0 : decode cX5_waits 0 = .ok (.aload_n 0, 1) := by decide +kernel
theorem dX5_waits_1 : decode cX5_waits 1 = .ok (.getfield 42, 3) := by decide +kernel
theorem dX5_waits_4 : decode cX5_waits 4 = .ok (.iload_n 1, 1) := by decide +kernel
theorem dX5_waits_5 : decode cX5_waits 5 = .ok (.iaload, 1) := by decide +kernel
theorem dX5_waits_6 : decode cX5_waits 6 = .ok (.aload_n 0, 1) := by decide +kernel
theorem dX5_waits_7 : decode cX5_waits 7 = .ok (.getfield 30, 3) := by decide +kernel
theorem dX5_waits_10 : decode cX5_waits 10 = .ok (.iload_n 1, 1) := by decide +kernel
theorem dX5_waits_11 : decode cX5_waits 11 = .ok (.iaload, 1) := by decide +kernel
theorem dX5_waits_12 : decode cX5_waits 12 = .ok (.if_icmp .le 12, 3) := by decide +kernel
theorem dX5_waits_15 : decode cX5_waits 15 = .ok (.aload_n 0, 1) := by decide +kernel
theorem dX5_waits_16 : decode cX5_waits 16 = .ok (.getfield 42, 3) := by decide +kernel
theorem dX5_waits_19 : decode cX5_waits 19 = .ok (.iload_n 1, 1) := by decide +kernel
theorem dX5_waits_20 : decode cX5_waits 20 = .ok (.iaload, 1) := by decide +kernel
theorem dX5_waits_21 : decode cX5_waits 21 = .ok (.goto 9, 3) := by decide +kernel
theorem dX5_waits_24 : decode cX5_waits 24 = .ok (.aload_n 0, 1) := by decide +kernel
theorem dX5_waits_25 : decode cX5_waits 25 = .ok (.getfield 30, 3) := by decide +kernel
theorem dX5_waits_28 : decode cX5_waits 28 = .ok (.iload_n 1, 1) := by decide +kernel
theorem dX5_waits_29 : decode cX5_waits 29 = .ok (.iaload, 1) := by decide +kernel
theorem dX5_waits_30 : decode cX5_waits 30 = .ok (.istore_n 2, 1) := by decide +kernel
theorem dX5_waits_31 : decode cX5_waits 31 = .ok (.aload_n 0, 1) := by decide +kernel
theorem dX5_waits_32 : decode cX5_waits 32 = .ok (.getfield 39, 3) := by decide +kernel
theorem dX5_waits_35 : decode cX5_waits 35 = .ok (.iload_n 1, 1) := by decide +kernel
theorem dX5_waits_36 : decode cX5_waits 36 = .ok (.caload, 1) := by decide +kernel
theorem dX5_waits_37 : decode cX5_waits 37 = .ok (.bipush 121, 2) := by decide +kernel
theorem dX5_waits_39 : decode cX5_waits 39 = .ok (.if_icmp .ne 10, 3) := by decide +kernel
theorem dX5_waits_42 : decode cX5_waits 42 = .ok (.aload_n 0, 1) := by decide +kernel
theorem dX5_waits_43 : decode cX5_waits 43 = .ok (.getfield 87, 3) := by decide +kernel
theorem dX5_waits_46 : decode cX5_waits 46 = .ok (.goto 9, 3) := by decide +kernel
theorem dX5_waits_49 : decode cX5_waits 49 = .ok (.aload_n 0, 1) := by decide +kernel
theorem dX5_waits_50 : decode cX5_waits 50 = .ok (.getfield 45, 3) := by decide +kernel
theorem dX5_waits_53 : decode cX5_waits 53 = .ok (.iload_n 1, 1) := by decide +kernel
theorem dX5_waits_54 : decode cX5_waits 54 = .ok (.iaload, 1) := by decide +kernel
theorem dX5_waits_55 : decode cX5_waits 55 = .ok (.istore_n 3, 1) := by decide +kernel
theorem dX5_waits_56 : decode cX5_waits 56 = .ok (.iload_n 3, 1) := by decide +kernel
theorem dX5_waits_57 : decode cX5_waits 57 = .ok (.iload_n 2, 1) := by decide +kernel
theorem dX5_waits_58 : decode cX5_waits 58 = .ok (.if_icmp .le 9, 3) := by decide +kernel
theorem dX5_waits_61 : decode cX5_waits 61 = .ok (.iload_n 3, 1) := by decide +kernel
theorem dX5_waits_62 : decode cX5_waits 62 = .ok (.iload_n 2, 1) := by decide +kernel
theorem dX5_waits_63 : decode cX5_waits 63 = .ok (.isub, 1) := by decide +kernel
theorem dX5_waits_64 : decode cX5_waits 64 = .ok (.goto 4, 3) := by decide +kernel
theorem dX5_waits_67 : decode cX5_waits 67 = .ok (.iconst 0, 1) := by decide +kernel
theorem dX5_waits_68 : decode cX5_waits 68 = .ok (.ireturn, 1) := by decide +kernel
set_option maxRecDepth 20000 in
theorem ggX5_costs_X5_waits : GoodIn wsX5_costs wsX5_waits := goodIn_ca (goodIn_r _ [9, 10, 11, 12, 13, 14, 20, 21, 22, 23, 24, 25, 26, 27, 28, 29, 30, 31, 32, 33, 34, 35, 36, 37, 38, 39, 40, 41, 42, 43, 44] (by decide +kernel) (by decide +kernel)) (goodIn_sub (fun _ h => List.mem_cons_of_mem _ (List.mem_append_right _ h)) (by decide +kernel))
set_option maxRecDepth 20000 in
theorem gX5_costs_X5_waits : GoodIn wsX5_costs (wsV RX5 131 RX5 yX5_waits wsX5_waits) := goodIn_app (goodIn_of _ (by decide +kernel)) ggX5_costs_X5_waits
set_option maxRecDepth 20000 in
theorem ggX5_costs_X5_punctual : GoodIn wsX5_costs wsX5_punctual := goodIn_ca (goodIn_r _ [18, 10, 11, 19, 20, 21, 22, 23, 24, 25, 26, 27, 28, 29, 30, 31, 32, 33, 34, 35, 36, 37, 38, 39, 40, 41, 42, 43, 44] (by decide +kernel) (by decide +kernel)) (goodIn_sub (fun _ h => List.mem_cons_of_mem _ (List.mem_append_right _ h)) (by decide +kernel))
set_option maxRecDepth 20000 in
theorem gX5_costs_X5_punctual : GoodIn wsX5_costs (wsV RX5 108 RX5 yX5_punctual wsX5_punctual) := goodIn_app (goodIn_of _ (by decide +kernel)) ggX5_costs_X5_punctual
theorem dX5_costs_0 : decode cX5_costs 0 = .ok (.aload_n 0, 1) := by decide +kernel
theorem dX5_costs_1 : decode cX5_costs 1 = .ok (.iload_n 1, 1) := by decide +kernel
theorem dX5_costs_2 : decode cX5_costs 2 = .ok (.invokevirtual 131, 3) := by decide +kernel
theorem dX5_costs_5 : decode cX5_costs 5 = .ok (.aload_n 0, 1) := by decide +kernel
theorem dX5_costs_6 : decode cX5_costs 6 = .ok (.getfield 55, 3) := by decide +kernel
theorem dX5_costs_9 : decode cX5_costs 9 = .ok (.isub, 1) := by decide +kernel
theorem dX5_costs_10 : decode cX5_costs 10 = .ok (.istore_n 2, 1) := by decide +kernel
theorem dX5_costs_11 : decode cX5_costs 11 = .ok (.aload_n 0, 1) := by decide +kernel
theorem dX5_costs_12 : decode cX5_costs 12 = .ok (.iload_n 1, 1) := by decide +kernel
theorem dX5_costs_13 : decode cX5_costs 13 = .ok (.invokevirtual 108, 3) := by decide +kernel
theorem dX5_costs_16 : decode cX5_costs 16 = .ok (.bipush 108, 2) := by decide +kernel
theorem dX5_costs_18 : decode cX5_costs 18 = .ok (.if_icmp .eq 7, 3) := by decide +kernel
theorem dX5_costs_21 : decode cX5_costs 21 = .ok (.iload_n 2, 1) := by decide +kernel
theorem dX5_costs_22 : decode cX5_costs 22 = .ok (.ifCond .gt 5, 3) := by decide +kernel
theorem dX5_costs_25 : decode cX5_costs 25 = .ok (.iconst 0, 1) := by decide +kernel
theorem dX5_costs_26 : decode cX5_costs 26 = .ok (.ireturn, 1) := by decide +kernel
theorem dX5_costs_27 : decode cX5_costs 27 = .ok (.iload_n 2, 1) := by decide +kernel
theorem dX5_costs_28 : decode cX5_costs 28 = .ok (.aload_n 0, 1) := by decide +kernel
theorem dX5_costs_29 : decode cX5_costs 29 = .ok (.getfield 61, 3) := by decide +kernel
theorem dX5_costs_32 : decode cX5_costs 32 = .ok (.if_icmp .gt 12, 3) := by decide +kernel
theorem dX5_costs_35 : decode cX5_costs 35 = .ok (.iload_n 2, 1) := by decide +kernel
theorem dX5_costs_36 : decode cX5_costs 36 = .ok (.aload_n 0, 1) := by decide +kernel
theorem dX5_costs_37 : decode cX5_costs 37 = .ok (.getfield 58, 3) := by decide +kernel
theorem dX5_costs_40 : decode cX5_costs 40 = .ok (.imul, 1) := by decide +kernel
theorem dX5_costs_41 : decode cX5_costs 41 = .ok (.goto 24, 3) := by decide +kernel
theorem dX5_costs_44 : decode cX5_costs 44 = .ok (.aload_n 0, 1) := by decide +kernel
theorem dX5_costs_45 : decode cX5_costs 45 = .ok (.getfield 61, 3) := by decide +kernel
theorem dX5_costs_48 : decode cX5_costs 48 = .ok (.aload_n 0, 1) := by decide +kernel
theorem dX5_costs_49 : decode cX5_costs 49 = .ok (.getfield 58, 3) := by decide +kernel
theorem dX5_costs_52 : decode cX5_costs 52 = .ok (.imul, 1) := by decide +kernel
theorem dX5_costs_53 : decode cX5_costs 53 = .ok (.iload_n 2, 1) := by decide +kernel
theorem dX5_costs_54 : decode cX5_costs 54 = .ok (.aload_n 0, 1) := by decide +kernel
theorem dX5_costs_55 : decode cX5_costs 55 = .ok (.getfield 61, 3) := by decide +kernel
theorem dX5_costs_58 : decode cX5_costs 58 = .ok (.isub, 1) := by decide +kernel
theorem dX5_costs_59 : decode cX5_costs 59 = .ok (.aload_n 0, 1) := by decide +kernel
theorem dX5_costs_60 : decode cX5_costs 60 = .ok (.getfield 64, 3) := by decide +kernel
theorem dX5_costs_63 : decode cX5_costs 63 = .ok (.imul, 1) := by decide +kernel
theorem dX5_costs_64 : decode cX5_costs 64 = .ok (.iadd, 1) := by decide +kernel
theorem dX5_costs_65 : decode cX5_costs 65 = .ok (.ireturn, 1) := by decide +kernel
set_option maxRecDepth 20000 in
theorem ggX5_leave_X5_isNone : GoodIn wsX5_leave wsX5_isNone := goodIn_r _ [12, 13, 14, 15, 11, 16, 41, 42, 43, 44, 45, 46, 47, 48, 49, 50, 51, 52, 53, 54, 55, 56, 57, 58, 59, 60, 61, 62, 63, 64, 65] (by decide +kernel) (by decide +kernel)
set_option maxRecDepth 20000 in
theorem gX5_leave_X5_isNone : GoodIn wsX5_leave (wsV RX5 90 RX5 yX5_isNone wsX5_isNone) := goodIn_app (goodIn_of _ (by decide +kernel)) ggX5_leave_X5_isNone
set_option maxRecDepth 20000 in
theorem ggX5_leave_X5_fails : GoodIn wsX5_leave wsX5_fails := goodIn_r _ [20, 21, 41, 42, 43, 44, 45, 46, 47, 48, 49, 50, 51, 52, 53, 54, 55, 56, 57, 58, 59, 60, 61, 62, 63, 64, 65] (by decide +kernel) (by decide +kernel)
set_option maxRecDepth 20000 in
theorem gX5_leave_X5_fails : GoodIn wsX5_leave (wsV RX5 80 RX5 yX5_fails wsX5_fails) := goodIn_app (goodIn_of _ (by decide +kernel)) ggX5_leave_X5_fails
set_option maxRecDepth 20000 in
theorem ggX5_leave_X5_costs : GoodIn wsX5_leave wsX5_costs := goodIn_ca (goodIn_r _ [25, 26, 27, 28, 29, 30, 31, 32, 11, 33, 34, 35, 1, 2, 3, 36, 37, 38, 39, 40, 41, 42, 43, 44, 45, 46, 47, 48, 49, 50, 51, 52, 53, 54, 55, 56, 57, 58, 59, 60, 61, 62, 63, 64, 65] (by decide +kernel) (by decide +kernel)) (goodIn_sub (fun _ h => List.mem_cons_of_mem _ (List.mem_append_right _ h)) (by decide +kernel))
set_option maxRecDepth 20000 in
theorem gX5_leave_X5_costs : GoodIn wsX5_leave (wsV RX5 138 RX5 yX5_costs wsX5_costs) := goodIn_app (goodIn_of _ (by decide +kernel)) ggX5_leave_X5_costs
theorem dX5_leave_0 : decode cX5_leave 0 = .ok (.aload_n 0, 1) := by decide +kernel
theorem dX5_leave_1 : decode cX5_leave 1 = .ok (.aload_n 0, 1) := by decide +kernel
theorem dX5_leave_2 : decode cX5_leave 2 = .ok (.iload_n 1, 1) := by decide +kernel
theorem dX5_leave_3 : decode cX5_leave 3 = .ok (.invokevirtual 90, 3) := by decide +kernel
theorem dX5_leave_6 : decode cX5_leave 6 = .ok (.ifCond .eq 7, 3) := by decide +kernel
theorem dX5_leave_9 : decode cX5_leave 9 = .ok (.iconst 1, 1) := by decide +kernel
theorem dX5_leave_10 : decode cX5_leave 10 = .ok (.goto 43, 3) := by decide +kernel
theorem dX5_leave_13 : decode cX5_leave 13 = .ok (.aload_n 0, 1) := by decide +kernel
theorem dX5_leave_14 : decode cX5_leave 14 = .ok (.getfield 39, 3) := by decide +kernel
theorem dX5_leave_17 : decode cX5_leave 17 = .ok (.iload_n 1, 1) := by decide +kernel
theorem dX5_leave_18 : decode cX5_leave 18 = .ok (.caload, 1) := by decide +kernel
theorem dX5_leave_19 : decode cX5_leave 19 = .ok (.bipush 119, 2) := by decide +kernel
theorem dX5_leave_21 : decode cX5_leave 21 = .ok (.if_icmp .eq 7, 3) := by decide +kernel
theorem dX5_leave_24 : decode cX5_leave 24 = .ok (.iconst 2, 1) := by decide +kernel
theorem dX5_leave_25 : decode cX5_leave 25 = .ok (.goto 28, 3) := by decide +kernel
theorem dX5_leave_28 : decode cX5_leave 28 = .ok (.aload_n 0, 1) := by decide +kernel
theorem dX5_leave_29 : decode cX5_leave 29 = .ok (.getfield 87, 3) := by decide +kernel
theorem dX5_leave_32 : decode cX5_leave 32 = .ok (.aload_n 0, 1) := by decide +kernel
theorem dX5_leave_33 : decode cX5_leave 33 = .ok (.getfield 45, 3) := by decide +kernel
theorem dX5_leave_36 : decode cX5_leave 36 = .ok (.iload_n 1, 1) := by decide +kernel
theorem dX5_leave_37 : decode cX5_leave 37 = .ok (.iaload, 1) := by decide +kernel
theorem dX5_leave_38 : decode cX5_leave 38 = .ok (.aload_n 0, 1) := by decide +kernel
theorem dX5_leave_39 : decode cX5_leave 39 = .ok (.getfield 36, 3) := by decide +kernel
theorem dX5_leave_42 : decode cX5_leave 42 = .ok (.iload_n 1, 1) := by decide +kernel
theorem dX5_leave_43 : decode cX5_leave 43 = .ok (.iaload, 1) := by decide +kernel
theorem dX5_leave_44 : decode cX5_leave 44 = .ok (.iadd, 1) := by decide +kernel
theorem dX5_leave_45 : decode cX5_leave 45 = .ok (.if_icmp .ge 7, 3) := by decide +kernel
theorem dX5_leave_48 : decode cX5_leave 48 = .ok (.iconst 3, 1) := by decide +kernel
theorem dX5_leave_49 : decode cX5_leave 49 = .ok (.goto 4, 3) := by decide +kernel
theorem dX5_leave_52 : decode cX5_leave 52 = .ok (.iconst 0, 1) := by decide +kernel
theorem dX5_leave_53 : decode cX5_leave 53 = .ok (.invokevirtual 80, 3) := by decide +kernel
theorem dX5_leave_56 : decode cX5_leave 56 = .ok (.ifCond .eq 5, 3) := by decide +kernel
theorem dX5_leave_59 : decode cX5_leave 59 = .ok (.iconst 0, 1) := by decide +kernel
theorem dX5_leave_60 : decode cX5_leave 60 = .ok (.ireturn, 1) := by decide +kernel
theorem dX5_leave_61 : decode cX5_leave 61 = .ok (.aload_n 0, 1) := by decide +kernel
theorem dX5_leave_62 : decode cX5_leave 62 = .ok (.getfield 39, 3) := by decide +kernel
theorem dX5_leave_65 : decode cX5_leave 65 = .ok (.iload_n 1, 1) := by decide +kernel
theorem dX5_leave_66 : decode cX5_leave 66 = .ok (.bipush 103, 2) := by decide +kernel
theorem dX5_leave_68 : decode cX5_leave 68 = .ok (.castore, 1) := by decide +kernel
theorem dX5_leave_69 : decode cX5_leave 69 = .ok (.aload_n 0, 1) := by decide +kernel
theorem dX5_leave_70 : decode cX5_leave 70 = .ok (.getfield 27, 3) := by decide +kernel
theorem dX5_leave_73 : decode cX5_leave 73 = .ok (.aload_n 0, 1) := by decide +kernel
theorem dX5_leave_74 : decode cX5_leave 74 = .ok (.getfield 48, 3) := by decide +kernel
theorem dX5_leave_77 : decode cX5_leave 77 = .ok (.iload_n 1, 1) := by decide +kernel
theorem dX5_leave_78 : decode cX5_leave 78 = .ok (.iaload, 1) := by decide +kernel
theorem dX5_leave_79 : decode cX5_leave 79 = .ok (.iconst (-1), 1) := by decide +kernel
theorem dX5_leave_80 : decode cX5_leave 80 = .ok (.iastore, 1) := by decide +kernel
theorem dX5_leave_81 : decode cX5_leave 81 = .ok (.aload_n 0, 1) := by decide +kernel
theorem dX5_leave_82 : decode cX5_leave 82 = .ok (.dup, 1) := by decide +kernel
theorem dX5_leave_83 : decode cX5_leave 83 = .ok (.getfield 134, 3) := by decide +kernel
theorem dX5_leave_86 : decode cX5_leave 86 = .ok (.aload_n 0, 1) := by decide +kernel
theorem dX5_leave_87 : decode cX5_leave 87 = .ok (.iload_n 1, 1) := by decide +kernel
theorem dX5_leave_88 : decode cX5_leave 88 = .ok (.invokevirtual 138, 3) := by decide +kernel
theorem dX5_leave_91 : decode cX5_leave 91 = .ok (.i2l, 1) := by decide +kernel
theorem dX5_leave_92 : decode cX5_leave 92 = .ok (.ladd, 1) := by decide +kernel
theorem dX5_leave_93 : decode cX5_leave 93 = .ok (.putfield 134, 3) := by decide +kernel
theorem dX5_leave_96 : decode cX5_leave 96 = .ok (.aload_n 0, 1) := by decide +kernel
theorem dX5_leave_97 : decode cX5_leave 97 = .ok (.iload_n 1, 1) := by decide +kernel
theorem dX5_leave_98 : decode cX5_leave 98 = .ok (.invokevirtual 138, 3) := by decide +kernel
theorem dX5_leave_101 : decode cX5_leave 101 = .ok (.ireturn, 1) := by decide +kernel
set_option maxRecDepth 20000 in
theorem ggX5_isElsewhere_X5_isNone : GoodIn wsX5_isElsewhere wsX5_isNone := goodIn_r _ [6, 7, 8, 9, 5, 10, 16, 17, 18, 19, 20, 21, 22, 23, 24, 25, 26, 27, 28, 29, 30, 31, 32, 33, 34, 35, 36, 37, 38, 39, 40] (by decide +kernel) (by decide +kernel)
set_option maxRecDepth 20000 in
theorem gX5_isElsewhere_X5_isNone : GoodIn wsX5_isElsewhere (wsV RX5 90 RX5 yX5_isNone wsX5_isNone) := goodIn_app (goodIn_of _ (by decide +kernel)) ggX5_isElsewhere_X5_isNone
set_option maxRecDepth 20000 in
theorem ggX5_isElsewhere_X5_fails : GoodIn wsX5_isElsewhere wsX5_fails := goodIn_r _ [14, 15, 16, 17, 18, 19, 20, 21, 22, 23, 24, 25, 26, 27, 28, 29, 30, 31, 32, 33, 34, 35, 36, 37, 38, 39, 40] (by decide +kernel) (by decide +kernel)
set_option maxRecDepth 20000 in
theorem gX5_isElsewhere_X5_fails : GoodIn wsX5_isElsewhere (wsV RX5 80 RX5 yX5_fails wsX5_fails) := goodIn_app (goodIn_of _ (by decide +kernel)) ggX5_isElsewhere_X5_fails
theorem dX5_isElsewhere_0 : decode cX5_isElsewhere 0 = .ok (.aload_n 0, 1) := by decide +kernel
theorem dX5_isElsewhere_1 : decode cX5_isElsewhere 1 = .ok (.aload_n 0, 1) := by decide +kernel
theorem dX5_isElsewhere_2 : decode cX5_isElsewhere 2 = .ok (.iload_n 1, 1) := by decide +kernel
theorem dX5_isElsewhere_3 : decode cX5_isElsewhere 3 = .ok (.invokevirtual 90, 3) := by decide +kernel
theorem dX5_isElsewhere_6 : decode cX5_isElsewhere 6 = .ok (.ifCond .eq 7, 3) := by decide +kernel
theorem dX5_isElsewhere_9 : decode cX5_isElsewhere 9 = .ok (.iconst 1, 1) := by decide +kernel
theorem dX5_isElsewhere_10 : decode cX5_isElsewhere 10 = .ok (.goto 19, 3) := by decide +kernel
theorem dX5_isElsewhere_13 : decode cX5_isElsewhere 13 = .ok (.aload_n 0, 1) := by decide +kernel
theorem dX5_isElsewhere_14 : decode cX5_isElsewhere 14 = .ok (.getfield 39, 3) := by decide +kernel
theorem dX5_isElsewhere_17 : decode cX5_isElsewhere 17 = .ok (.iload_n 1, 1) := by decide +kernel
theorem dX5_isElsewhere_18 : decode cX5_isElsewhere 18 = .ok (.caload, 1) := by decide +kernel
theorem dX5_isElsewhere_19 : decode cX5_isElsewhere 19 = .ok (.bipush 121, 2) := by decide +kernel
theorem dX5_isElsewhere_21 : decode cX5_isElsewhere 21 = .ok (.if_icmp .eq 7, 3) := by decide +kernel
theorem dX5_isElsewhere_24 : decode cX5_isElsewhere 24 = .ok (.iconst 2, 1) := by decide +kernel
theorem dX5_isElsewhere_25 : decode cX5_isElsewhere 25 = .ok (.goto 4, 3) := by decide +kernel
theorem dX5_isElsewhere_28 : decode cX5_isElsewhere 28 = .ok (.iconst 0, 1) := by decide +kernel
theorem dX5_isElsewhere_29 : decode cX5_isElsewhere 29 = .ok (.invokevirtual 80, 3) := by decide +kernel
theorem dX5_isElsewhere_32 : decode cX5_isElsewhere 32 = .ok (.ireturn, 1) := by decide +kernel
set_option maxRecDepth 20000 in
theorem ggX5_laneOf_X5_isElsewhere : GoodIn wsX5_laneOf wsX5_isElsewhere := goodIn_ca (goodIn_r _ [5, 6, 7, 8, 9, 4, 10, 11, 12, 13, 14, 15, 16, 17, 18, 19, 27, 28, 29, 30, 31, 32, 33, 34, 35, 36, 37, 38, 39, 40, 41, 42, 43, 44, 45, 46, 47, 48, 49, 50, 51] (by decide +kernel) (by decide +kernel)) (goodIn_sub (fun _ h => List.mem_cons_of_mem _ (List.mem_append_right _ h)) (by decide +kernel))
set_option maxRecDepth 20000 in
theorem gX5_laneOf_X5_isElsewhere : GoodIn wsX5_laneOf (wsV RX5 141 RX5 yX5_isElsewhere wsX5_isElsewhere) := goodIn_app (goodIn_of _ (by decide +kernel)) ggX5_laneOf_X5_isElsewhere
set_option maxRecDepth 20000 in
theorem ggX5_laneOf_X5_slotOf : GoodIn wsX5_laneOf wsX5_slotOf := goodIn_ca (goodIn_r _ [23, 24, 25, 26, 27, 28, 29, 30, 31, 32, 33, 34, 35, 36, 37, 38, 39, 40, 41, 42, 43, 44, 45, 46, 47, 48, 49, 50, 51] (by decide +kernel) (by decide +kernel)) (goodIn_sub (fun _ h => List.mem_cons_of_mem _ (List.mem_append_right _ h)) (by decide +kernel))
set_option maxRecDepth 20000 in
theorem gX5_laneOf_X5_slotOf : GoodIn wsX5_laneOf (wsV RX5 115 RX5 yX5_slotOf wsX5_slotOf) := goodIn_app (goodIn_of _ (by decide +kernel)) ggX5_laneOf_X5_slotOf
theorem dX5_laneOf_0 : decode cX5_laneOf 0 = .ok (.aload_n 0, 1) := by decide +kernel
theorem dX5_laneOf_1 : decode cX5_laneOf 1 = .ok (.iload_n 1, 1) := by decide +kernel
theorem dX5_laneOf_2 : decode cX5_laneOf 2 = .ok (.invokevirtual 141, 3) := by decide +kernel
theorem dX5_laneOf_5 : decode cX5_laneOf 5 = .ok (.ifCond .eq 7, 3) := by decide +kernel
theorem dX5_laneOf_8 : decode cX5_laneOf 8 = .ok (.iconst 0, 1) := by decide +kernel
theorem dX5_laneOf_9 : decode cX5_laneOf 9 = .ok (.goto 10, 3) := by decide +kernel
theorem dX5_laneOf_12 : decode cX5_laneOf 12 = .ok (.aload_n 0, 1) := by decide +kernel
theorem dX5_laneOf_13 : decode cX5_laneOf 13 = .ok (.iload_n 1, 1) := by decide +kernel
theorem dX5_laneOf_14 : decode cX5_laneOf 14 = .ok (.invokevirtual 115, 3) := by decide +kernel
theorem dX5_laneOf_17 : decode cX5_laneOf 17 = .ok (.iconst 3, 1) := by decide +kernel
theorem dX5_laneOf_18 : decode cX5_laneOf 18 = .ok (.idiv, 1) := by decide +kernel
theorem dX5_laneOf_19 : decode cX5_laneOf 19 = .ok (.ireturn, 1) := by decide +kernel
set_option maxRecDepth 20000 in
theorem ggX5_blockers_X5_isElsewhere : GoodIn wsX5_blockers wsX5_isElsewhere := goodIn_ca (goodIn_r _ [5, 6, 7, 8, 9, 4, 10, 11, 12, 13, 14, 15, 16, 17, 18, 19, 31, 32, 33, 34, 35, 36, 37, 38, 39, 40, 41, 42, 43, 44, 45, 46, 47, 48, 49, 50, 51, 52, 53, 54, 55] (by decide +kernel) (by decide +kernel)) (goodIn_sub (fun _ h => List.mem_cons_of_mem _ (List.mem_append_right _ h)) (by decide +kernel))
set_option maxRecDepth 20000 in
theorem gX5_blockers_X5_isElsewhere : GoodIn wsX5_blockers (wsV RX5 141 RX5 yX5_isElsewhere wsX5_isElsewhere) := goodIn_app (goodIn_of _ (by decide +kernel)) ggX5_blockers_X5_isElsewhere
set_option maxRecDepth 20000 in
theorem ggX5_blockers_X5_ahead : GoodIn wsX5_blockers wsX5_ahead := goodIn_ca (goodIn_r _ [23, 24, 25, 26, 27, 4, 28, 29, 30, 31, 32, 33, 34, 35, 36, 37, 38, 39, 40, 41, 42, 43, 44, 45, 46, 47, 48, 49, 50, 51, 52, 53, 54, 55] (by decide +kernel) (by decide +kernel)) (goodIn_sub (fun _ h => List.mem_cons_of_mem _ (List.mem_append_right _ h)) (by decide +kernel))
set_option maxRecDepth 20000 in
theorem gX5_blockers_X5_ahead : GoodIn wsX5_blockers (wsV RX5 119 RX5 yX5_ahead wsX5_ahead) := goodIn_app (goodIn_of _ (by decide +kernel)) ggX5_blockers_X5_ahead
theorem dX5_blockers_0 : decode cX5_blockers 0 = .ok (.aload_n 0, 1) := by decide +kernel
theorem dX5_blockers_1 : decode cX5_blockers 1 = .ok (.iload_n 1, 1) := by decide +kernel
theorem dX5_blockers_2 : decode cX5_blockers 2 = .ok (.invokevirtual 141, 3) := by decide +kernel
theorem dX5_blockers_5 : decode cX5_blockers 5 = .ok (.ifCond .eq 7, 3) := by decide +kernel
theorem dX5_blockers_8 : decode cX5_blockers 8 = .ok (.iconst 0, 1) := by decide +kernel
theorem dX5_blockers_9 : decode cX5_blockers 9 = .ok (.goto 8, 3) := by decide +kernel
theorem dX5_blockers_12 : decode cX5_blockers 12 = .ok (.aload_n 0, 1) := by decide +kernel
theorem dX5_blockers_13 : decode cX5_blockers 13 = .ok (.iload_n 1, 1) := by decide +kernel
theorem dX5_blockers_14 : decode cX5_blockers 14 = .ok (.invokevirtual 119, 3) := by decide +kernel
theorem dX5_blockers_17 : decode cX5_blockers 17 = .ok (.ireturn, 1) := by decide +kernel
set_option maxRecDepth 20000 in
theorem ggX5_trailerAt_X5_isNoLane : GoodIn wsX5_trailerAt wsX5_isNoLane := goodIn_r _ [7, 8, 9, 10, 6, 11, 17, 18, 19, 20, 21, 22, 23, 24, 25, 26, 27, 28, 29, 30, 31, 32, 33, 34, 35, 36, 37, 38, 39, 40, 41] (by decide +kernel) (by decide +kernel)
set_option maxRecDepth 20000 in
theorem gX5_trailerAt_X5_isNoLane : GoodIn wsX5_trailerAt (wsV RX5 93 RX5 yX5_isNoLane wsX5_isNoLane) := goodIn_app (goodIn_of _ (by decide +kernel)) ggX5_trailerAt_X5_isNoLane
set_option maxRecDepth 20000 in
theorem ggX5_trailerAt_X5_in : GoodIn wsX5_trailerAt wsX5_in := goodIn_r _ [11] (by decide +kernel) (by decide +kernel)
set_option maxRecDepth 20000 in
theorem gX5_trailerAt_X5_in : GoodIn wsX5_trailerAt (va_wsS RX5 73 yX5_in wsX5_in) := goodIn_app (goodIn_of _ (by decide +kernel)) ggX5_trailerAt_X5_in
set_option maxRecDepth 20000 in
theorem ggX5_trailerAt_X5_fails : GoodIn wsX5_trailerAt wsX5_fails := goodIn_r _ [15, 16, 17, 18, 19, 20, 21, 22, 23, 24, 25, 26, 27, 28, 29, 30, 31, 32, 33, 34, 35, 36, 37, 38, 39, 40, 41] (by decide +kernel) (by decide +kernel)
set_option maxRecDepth 20000 in
theorem gX5_trailerAt_X5_fails : GoodIn wsX5_trailerAt (wsV RX5 80 RX5 yX5_fails wsX5_fails) := goodIn_app (goodIn_of _ (by decide +kernel)) ggX5_trailerAt_X5_fails
theorem dX5_trailerAt_0 : decode cX5_trailerAt 0 = .ok (.aload_n 0, 1) := by decide +kernel
theorem dX5_trailerAt_1 : decode cX5_trailerAt 1 = .ok (.aload_n 0, 1) := by decide +kernel
theorem dX5_trailerAt_2 : decode cX5_trailerAt 2 = .ok (.iload_n 1, 1) := by decide +kernel
theorem dX5_trailerAt_3 : decode cX5_trailerAt 3 = .ok (.invokevirtual 93, 3) := by decide +kernel
theorem dX5_trailerAt_6 : decode cX5_trailerAt 6 = .ok (.ifCond .eq 7, 3) := by decide +kernel
theorem dX5_trailerAt_9 : decode cX5_trailerAt 9 = .ok (.iconst 1, 1) := by decide +kernel
theorem dX5_trailerAt_10 : decode cX5_trailerAt 10 = .ok (.goto 24, 3) := by decide +kernel
theorem dX5_trailerAt_13 : decode cX5_trailerAt 13 = .ok (.iload_n 2, 1) := by decide +kernel
theorem dX5_trailerAt_14 : decode cX5_trailerAt 14 = .ok (.iconst 0, 1) := by decide +kernel
theorem dX5_trailerAt_15 : decode cX5_trailerAt 15 = .ok (.aload_n 0, 1) := by decide +kernel
theorem dX5_trailerAt_16 : decode cX5_trailerAt 16 = .ok (.getfield 17, 3) := by decide +kernel
theorem dX5_trailerAt_19 : decode cX5_trailerAt 19 = .ok (.iload_n 1, 1) := by decide +kernel
theorem dX5_trailerAt_20 : decode cX5_trailerAt 20 = .ok (.iaload, 1) := by decide +kernel
theorem dX5_trailerAt_21 : decode cX5_trailerAt 21 = .ok (.iconst 1, 1) := by decide +kernel
theorem dX5_trailerAt_22 : decode cX5_trailerAt 22 = .ok (.isub, 1) := by decide +kernel
theorem dX5_trailerAt_23 : decode cX5_trailerAt 23 = .ok (.invokestatic 73, 3) := by decide +kernel
theorem dX5_trailerAt_26 : decode cX5_trailerAt 26 = .ok (.ifCond .eq 7, 3) := by decide +kernel
theorem dX5_trailerAt_29 : decode cX5_trailerAt 29 = .ok (.iconst 0, 1) := by decide +kernel
theorem dX5_trailerAt_30 : decode cX5_trailerAt 30 = .ok (.goto 4, 3) := by decide +kernel
theorem dX5_trailerAt_33 : decode cX5_trailerAt 33 = .ok (.iconst 2, 1) := by decide +kernel
theorem dX5_trailerAt_34 : decode cX5_trailerAt 34 = .ok (.invokevirtual 80, 3) := by decide +kernel
theorem dX5_trailerAt_37 : decode cX5_trailerAt 37 = .ok (.ifCond .eq 7, 3) := by decide +kernel
theorem dX5_trailerAt_40 : decode cX5_trailerAt 40 = .ok (.iconst 0, 1) := by decide +kernel
theorem dX5_trailerAt_41 : decode cX5_trailerAt 41 = .ok (.goto 22, 3) := by decide +kernel
theorem dX5_trailerAt_44 : decode cX5_trailerAt 44 = .ok (.aload_n 0, 1) := by decide +kernel
theorem dX5_trailerAt_45 : decode cX5_trailerAt 45 = .ok (.getfield 20, 3) := by decide +kernel
theorem dX5_trailerAt_48 : decode cX5_trailerAt 48 = .ok (.iconst 3, 1) := by decide +kernel
theorem dX5_trailerAt_49 : decode cX5_trailerAt 49 = .ok (.iload_n 1, 1) := by decide +kernel
theorem dX5_trailerAt_50 : decode cX5_trailerAt 50 = .ok (.imul, 1) := by decide +kernel
theorem dX5_trailerAt_51 : decode cX5_trailerAt 51 = .ok (.aload_n 0, 1) := by decide +kernel
theorem dX5_trailerAt_52 : decode cX5_trailerAt 52 = .ok (.getfield 17, 3) := by decide +kernel
theorem dX5_trailerAt_55 : decode cX5_trailerAt 55 = .ok (.iload_n 1, 1) := by decide +kernel
theorem dX5_trailerAt_56 : decode cX5_trailerAt 56 = .ok (.iaload, 1) := by decide +kernel
theorem dX5_trailerAt_57 : decode cX5_trailerAt 57 = .ok (.iadd, 1) := by decide +kernel
theorem dX5_trailerAt_58 : decode cX5_trailerAt 58 = .ok (.iconst 1, 1) := by decide +kernel
theorem dX5_trailerAt_59 : decode cX5_trailerAt 59 = .ok (.isub, 1) := by decide +kernel
theorem dX5_trailerAt_60 : decode cX5_trailerAt 60 = .ok (.iload_n 2, 1) := by decide +kernel
theorem dX5_trailerAt_61 : decode cX5_trailerAt 61 = .ok (.isub, 1) := by decide +kernel
theorem dX5_trailerAt_62 : decode cX5_trailerAt 62 = .ok (.iaload, 1) := by decide +kernel
theorem dX5_trailerAt_63 : decode cX5_trailerAt 63 = .ok (.ireturn, 1) := by decide +kernel
set_option maxRecDepth 20000 in
theorem ggX5_freeDoor_X5_isNone : GoodIn wsX5_freeDoor wsX5_isNone := goodIn_r _ [7, 8, 9, 10, 6, 11, 23, 24, 25, 26, 27, 28, 29, 30, 31, 32, 33, 34, 35, 36, 37, 38, 39, 40, 41, 42, 43, 44, 45, 46, 47] (by decide +kernel) (by decide +kernel)
set_option maxRecDepth 20000 in
theorem gX5_freeDoor_X5_isNone : GoodIn wsX5_freeDoor (wsV RX5 90 RX5 yX5_isNone wsX5_isNone) := goodIn_app (goodIn_of _ (by decide +kernel)) ggX5_freeDoor_X5_isNone
set_option maxRecDepth 20000 in
theorem ggX5_freeDoor_X5_fails : GoodIn wsX5_freeDoor wsX5_fails := goodIn_r _ [15, 2, 23, 24, 25, 26, 27, 28, 29, 30, 31, 32, 33, 34, 35, 36, 37, 38, 39, 40, 41, 42, 43, 44, 45, 46, 47] (by decide +kernel) (by decide +kernel)
set_option maxRecDepth 20000 in
theorem gX5_freeDoor_X5_fails : GoodIn wsX5_freeDoor (wsV RX5 80 RX5 yX5_fails wsX5_fails) := goodIn_app (goodIn_of _ (by decide +kernel)) ggX5_freeDoor_X5_fails
set_option maxRecDepth 20000 in
theorem ggX5_freeDoor_X5_canServe : GoodIn wsX5_freeDoor wsX5_canServe := goodIn_ca (goodIn_r _ [19, 20, 21, 22, 23, 24, 25, 26, 27, 28, 29, 30, 31, 32, 33, 34, 35, 36, 37, 38, 39, 40, 41, 42, 43, 44, 45, 46, 47] (by decide +kernel) (by decide +kernel)) (goodIn_sub (fun _ h => List.mem_cons_of_mem _ (List.mem_append_right _ h)) (by decide +kernel))
set_option maxRecDepth 20000 in
theorem gX5_freeDoor_X5_canServe : GoodIn wsX5_freeDoor (wsV RX5 128 RX5 yX5_canServe wsX5_canServe) := goodIn_app (goodIn_of _ (by decide +kernel)) ggX5_freeDoor_X5_canServe
theorem dX5_freeDoor_0 : decode cX5_freeDoor 0 = .ok (.aload_n 0, 1) := by decide +kernel
theorem dX5_freeDoor_1 : decode cX5_freeDoor 1 = .ok (.aload_n 0, 1) := by decide +kernel
theorem dX5_freeDoor_2 : decode cX5_freeDoor 2 = .ok (.iload_n 1, 1) := by decide +kernel
theorem dX5_freeDoor_3 : decode cX5_freeDoor 3 = .ok (.invokevirtual 90, 3) := by decide +kernel
theorem dX5_freeDoor_6 : decode cX5_freeDoor 6 = .ok (.ifCond .eq 7, 3) := by decide +kernel
theorem dX5_freeDoor_9 : decode cX5_freeDoor 9 = .ok (.iconst 1, 1) := by decide +kernel
theorem dX5_freeDoor_10 : decode cX5_freeDoor 10 = .ok (.goto 4, 3) := by decide +kernel
theorem dX5_freeDoor_13 : decode cX5_freeDoor 13 = .ok (.iconst 0, 1) := by decide +kernel
theorem dX5_freeDoor_14 : decode cX5_freeDoor 14 = .ok (.invokevirtual 80, 3) := by decide +kernel
theorem dX5_freeDoor_17 : decode cX5_freeDoor 17 = .ok (.ifCond .eq 5, 3) := by decide +kernel
theorem dX5_freeDoor_20 : decode cX5_freeDoor 20 = .ok (.iconst 0, 1) := by decide +kernel
theorem dX5_freeDoor_21 : decode cX5_freeDoor 21 = .ok (.ireturn, 1) := by decide +kernel
theorem dX5_freeDoor_22 : decode cX5_freeDoor 22 = .ok (.iconst 0, 1) := by decide +kernel
theorem dX5_freeDoor_23 : decode cX5_freeDoor 23 = .ok (.istore_n 2, 1) := by decide +kernel
theorem dX5_freeDoor_24 : decode cX5_freeDoor 24 = .ok (.iload_n 2, 1) := by decide +kernel
theorem dX5_freeDoor_25 : decode cX5_freeDoor 25 = .ok (.aload_n 0, 1) := by decide +kernel
theorem dX5_freeDoor_26 : decode cX5_freeDoor 26 = .ok (.getfield 84, 3) := by decide +kernel
theorem dX5_freeDoor_29 : decode cX5_freeDoor 29 = .ok (.if_icmp .ge 20, 3) := by decide +kernel
theorem dX5_freeDoor_32 : decode cX5_freeDoor 32 = .ok (.aload_n 0, 1) := by decide +kernel
theorem dX5_freeDoor_33 : decode cX5_freeDoor 33 = .ok (.iload_n 2, 1) := by decide +kernel
theorem dX5_freeDoor_34 : decode cX5_freeDoor 34 = .ok (.iload_n 1, 1) := by decide +kernel
theorem dX5_freeDoor_35 : decode cX5_freeDoor 35 = .ok (.invokevirtual 128, 3) := by decide +kernel
theorem dX5_freeDoor_38 : decode cX5_freeDoor 38 = .ok (.ifCond .eq 5, 3) := by decide +kernel
theorem dX5_freeDoor_41 : decode cX5_freeDoor 41 = .ok (.iload_n 2, 1) := by decide +kernel
theorem dX5_freeDoor_42 : decode cX5_freeDoor 42 = .ok (.ireturn, 1) := by decide +kernel
theorem dX5_freeDoor_43 : decode cX5_freeDoor 43 = .ok (.iinc 2 1, 3) := by decide +kernel
theorem dX5_freeDoor_46 : decode cX5_freeDoor 46 = .ok (.goto (-22), 3) := by decide +kernel
theorem dX5_freeDoor_49 : decode cX5_freeDoor 49 = .ok (.aload_n 0, 1) := by decide +kernel
theorem dX5_freeDoor_50 : decode cX5_freeDoor 50 = .ok (.iconst 2, 1) := by decide +kernel
theorem dX5_freeDoor_51 : decode cX5_freeDoor 51 = .ok (.putfield 67, 3) := by decide +kernel
theorem dX5_freeDoor_54 : decode cX5_freeDoor 54 = .ok (.iconst 0, 1) := by decide +kernel
theorem dX5_freeDoor_55 : decode cX5_freeDoor 55 = .ok (.ireturn, 1) := by decide +kernel
set_option maxRecDepth 20000 in
theorem ggX5_isReachedWith_X5_ahead : GoodIn wsX5_isReachedWith wsX5_ahead := goodIn_ca (goodIn_r _ [6, 7, 8, 9, 10, 5, 11, 1, 12, 31, 32, 33, 34, 35, 36, 37, 38, 39, 40, 41, 42, 43, 44, 45, 46, 47, 48, 49, 50, 51, 52, 53, 54, 55] (by decide +kernel) (by decide +kernel)) (goodIn_sub (fun _ h => List.mem_cons_of_mem _ (List.mem_append_right _ h)) (by decide +kernel))
set_option maxRecDepth 20000 in
theorem gX5_isReachedWith_X5_ahead : GoodIn wsX5_isReachedWith (wsV RX5 119 RX5 yX5_ahead wsX5_ahead) := goodIn_app (goodIn_of _ (by decide +kernel)) ggX5_isReachedWith_X5_ahead
set_option maxRecDepth 20000 in
theorem ggX5_isReachedWith_X5_isReachedBehind : GoodIn wsX5_isReachedWith wsX5_isReachedBehind := goodIn_ca (goodIn_r _ [16, 7, 12, 17, 18, 19, 5, 20, 21, 22, 23, 24, 25, 26, 27, 28, 29, 30, 0, 1, 2, 3, 4, 6, 8, 9, 10, 11, 13, 14, 15, 31, 32, 33, 34, 35, 36, 37, 38, 39, 40, 41, 42, 43, 44, 45, 46, 47, 48, 49, 50, 51, 52, 53, 54, 55] (by decide +kernel) (by decide +kernel)) (goodIn_sub (fun _ h => List.mem_cons_of_mem _ (List.mem_append_right _ h)) (by decide +kernel))
set_option maxRecDepth 20000 in
theorem gX5_isReachedWith_X5_isReachedBehind : GoodIn wsX5_isReachedWith (wsV RX5 144 RX5 yX5_isReachedBehind wsX5_isReachedBehind) := goodIn_app (goodIn_of _ (by decide +kernel)) ggX5_isReachedWith_X5_isReachedBehind
theorem dX5_isReachedWith_0 : decode cX5_isReachedWith 0 = .ok (.aload_n 0, 1) := by decide +kernel
theorem dX5_isReachedWith_1 : decode cX5_isReachedWith 1 = .ok (.iload_n 1, 1) := by decide +kernel
theorem dX5_isReachedWith_2 : decode cX5_isReachedWith 2 = .ok (.invokevirtual 119, 3) := by decide +kernel
theorem dX5_isReachedWith_5 : decode cX5_isReachedWith 5 = .ok (.ifCond .ne 5, 3) := by decide +kernel
theorem dX5_isReachedWith_8 : decode cX5_isReachedWith 8 = .ok (.iconst 1, 1) := by decide +kernel
theorem dX5_isReachedWith_9 : decode cX5_isReachedWith 9 = .ok (.ireturn, 1) := by decide +kernel
theorem dX5_isReachedWith_10 : decode cX5_isReachedWith 10 = .ok (.aload_n 0, 1) := by decide +kernel
theorem dX5_isReachedWith_11 : decode cX5_isReachedWith 11 = .ok (.iload_n 1, 1) := by decide +kernel
theorem dX5_isReachedWith_12 : decode cX5_isReachedWith 12 = .ok (.invokevirtual 119, 3) := by decide +kernel
theorem dX5_isReachedWith_15 : decode cX5_isReachedWith 15 = .ok (.iload_n 2, 1) := by decide +kernel
theorem dX5_isReachedWith_16 : decode cX5_isReachedWith 16 = .ok (.if_icmp .le 5, 3) := by decide +kernel
theorem dX5_isReachedWith_19 : decode cX5_isReachedWith 19 = .ok (.iconst 0, 1) := by decide +kernel
theorem dX5_isReachedWith_20 : decode cX5_isReachedWith 20 = .ok (.ireturn, 1) := by decide +kernel
theorem dX5_isReachedWith_21 : decode cX5_isReachedWith 21 = .ok (.iconst 0, 1) := by decide +kernel
theorem dX5_isReachedWith_22 : decode cX5_isReachedWith 22 = .ok (.istore_n 3, 1) := by decide +kernel
theorem dX5_isReachedWith_23 : decode cX5_isReachedWith 23 = .ok (.iconst 0, 1) := by decide +kernel
theorem dX5_isReachedWith_24 : decode cX5_isReachedWith 24 = .ok (.istore 4, 2) := by decide +kernel
theorem dX5_isReachedWith_26 : decode cX5_isReachedWith 26 = .ok (.iload_n 3, 1) := by decide +kernel
theorem dX5_isReachedWith_27 : decode cX5_isReachedWith 27 = .ok (.ifCond .ne 51, 3) := by decide +kernel
theorem dX5_isReachedWith_30 : decode cX5_isReachedWith 30 = .ok (.iload 4, 2) := by decide +kernel
theorem dX5_isReachedWith_32 : decode cX5_isReachedWith 32 = .ok (.aload_n 0, 1) := by decide +kernel
theorem dX5_isReachedWith_33 : decode cX5_isReachedWith 33 = .ok (.getfield 70, 3) := by decide +kernel
theorem dX5_isReachedWith_36 : decode cX5_isReachedWith 36 = .ok (.if_icmp .ge 42, 3) := by decide +kernel
theorem dX5_isReachedWith_39 : decode cX5_isReachedWith 39 = .ok (.iconst 0, 1) := by decide +kernel
theorem dX5_isReachedWith_40 : decode cX5_isReachedWith 40 = .ok (.istore 5, 2) := by decide +kernel
theorem dX5_isReachedWith_42 : decode cX5_isReachedWith 42 = .ok (.iload_n 3, 1) := by decide +kernel
theorem dX5_isReachedWith_43 : decode cX5_isReachedWith 43 = .ok (.ifCond .ne 29, 3) := by decide +kernel
theorem dX5_isReachedWith_46 : decode cX5_isReachedWith 46 = .ok (.iload 5, 2) := by decide +kernel
theorem dX5_isReachedWith_48 : decode cX5_isReachedWith 48 = .ok (.aload_n 0, 1) := by decide +kernel
theorem dX5_isReachedWith_49 : decode cX5_isReachedWith 49 = .ok (.getfield 70, 3) := by decide +kernel
theorem dX5_isReachedWith_52 : decode cX5_isReachedWith 52 = .ok (.if_icmp .ge 20, 3) := by decide +kernel
theorem dX5_isReachedWith_55 : decode cX5_isReachedWith 55 = .ok (.aload_n 0, 1) := by decide +kernel
theorem dX5_isReachedWith_56 : decode cX5_isReachedWith 56 = .ok (.iload_n 1, 1) := by decide +kernel
theorem dX5_isReachedWith_57 : decode cX5_isReachedWith 57 = .ok (.iload 4, 2) := by decide +kernel
theorem dX5_isReachedWith_59 : decode cX5_isReachedWith 59 = .ok (.iload 5, 2) := by decide +kernel
theorem dX5_isReachedWith_61 : decode cX5_isReachedWith 61 = .ok (.iload_n 2, 1) := by decide +kernel
theorem dX5_isReachedWith_62 : decode cX5_isReachedWith 62 = .ok (.invokevirtual 144, 3) := by decide +kernel
theorem dX5_isReachedWith_65 : decode cX5_isReachedWith 65 = .ok (.istore_n 3, 1) := by decide +kernel
theorem dX5_isReachedWith_66 : decode cX5_isReachedWith 66 = .ok (.iinc 5 1, 3) := by decide +kernel
theorem dX5_isReachedWith_69 : decode cX5_isReachedWith 69 = .ok (.goto (-27), 3) := by decide +kernel
theorem dX5_isReachedWith_72 : decode cX5_isReachedWith 72 = .ok (.iinc 4 1, 3) := by decide +kernel
theorem dX5_isReachedWith_75 : decode cX5_isReachedWith 75 = .ok (.goto (-49), 3) := by decide +kernel
theorem dX5_isReachedWith_78 : decode cX5_isReachedWith 78 = .ok (.iload_n 3, 1) := by decide +kernel
theorem dX5_isReachedWith_79 : decode cX5_isReachedWith 79 = .ok (.ireturn, 1) := by decide +kernel
set_option maxRecDepth 20000 in
theorem ggX5_isReachedBehind_X5_canCome : GoodIn wsX5_isReachedBehind wsX5_canCome := goodIn_ca (goodIn_r _ [7, 1, 8, 9, 10, 31, 32, 33, 34, 35, 36, 37, 38, 39, 40, 41, 42, 43, 44, 45, 46, 47, 48, 49, 50, 51, 52, 53, 54, 55] (by decide +kernel) (by decide +kernel)) (goodIn_sub (fun _ h => List.mem_cons_of_mem _ (List.mem_append_right _ h)) (by decide +kernel))
set_option maxRecDepth 20000 in
theorem gX5_isReachedBehind_X5_canCome : GoodIn wsX5_isReachedBehind (wsV RX5 100 RX5 yX5_canCome wsX5_canCome) := goodIn_app (goodIn_of _ (by decide +kernel)) ggX5_isReachedBehind_X5_canCome
set_option maxRecDepth 20000 in
theorem ggX5_isReachedBehind_X5_comes : GoodIn wsX5_isReachedBehind wsX5_comes := goodIn_ca (goodIn_r _ [14, 2, 1, 31, 32, 33, 34, 35, 36, 37, 38, 39, 40, 41, 42, 43, 44, 45, 46, 47, 48, 49, 50, 51, 52, 53, 54, 55] (by decide +kernel) (by decide +kernel)) (goodIn_sub (fun _ h => List.mem_cons_of_mem _ (List.mem_append_right _ h)) (by decide +kernel))
set_option maxRecDepth 20000 in
theorem gX5_isReachedBehind_X5_comes : GoodIn wsX5_isReachedBehind (wsV RX5 104 RX5 yX5_comes wsX5_comes) := goodIn_app (goodIn_of _ (by decide +kernel)) ggX5_isReachedBehind_X5_comes
set_option maxRecDepth 20000 in
theorem ggX5_isReachedBehind_X5_isReachedWith : GoodIn wsX5_isReachedBehind wsX5_isReachedWith := goodIn_ca (goodIn_r _ [18, 19, 20, 21, 22, 6, 23, 1, 24, 25, 26, 27, 2, 28, 29, 30, 0, 3, 4, 5, 7, 8, 9, 10, 11, 12, 13, 14, 15, 16, 17, 31, 32, 33, 34, 35, 36, 37, 38, 39, 40, 41, 42, 43, 44, 45, 46, 47, 48, 49, 50, 51, 52, 53, 54, 55] (by decide +kernel) (by decide +kernel)) (goodIn_sub (fun _ h => List.mem_cons_of_mem _ (List.mem_append_right _ h)) (by decide +kernel))
set_option maxRecDepth 20000 in
theorem gX5_isReachedBehind_X5_isReachedWith : GoodIn wsX5_isReachedBehind (wsV RX5 148 RX5 yX5_isReachedWith wsX5_isReachedWith) := goodIn_app (goodIn_of _ (by decide +kernel)) ggX5_isReachedBehind_X5_isReachedWith
theorem dX5_isReachedBehind_0 : decode cX5_isReachedBehind 0 = .ok (.iload_n 2, 1) := by decide +kernel
theorem dX5_isReachedBehind_1 : decode cX5_isReachedBehind 1 = .ok (.iload_n 3, 1) := by decide +kernel
theorem dX5_isReachedBehind_2 : decode cX5_isReachedBehind 2 = .ok (.if_icmp .eq 12, 3) := by decide +kernel
theorem dX5_isReachedBehind_5 : decode cX5_isReachedBehind 5 = .ok (.aload_n 0, 1) := by decide +kernel
theorem dX5_isReachedBehind_6 : decode cX5_isReachedBehind 6 = .ok (.getfield 17, 3) := by decide +kernel
theorem dX5_isReachedBehind_9 : decode cX5_isReachedBehind 9 = .ok (.iload_n 2, 1) := by decide +kernel
theorem dX5_isReachedBehind_10 : decode cX5_isReachedBehind 10 = .ok (.iaload, 1) := by decide +kernel
theorem dX5_isReachedBehind_11 : decode cX5_isReachedBehind 11 = .ok (.ifCond .ne 5, 3) := by decide +kernel
theorem dX5_isReachedBehind_14 : decode cX5_isReachedBehind 14 = .ok (.iconst 0, 1) := by decide +kernel
theorem dX5_isReachedBehind_15 : decode cX5_isReachedBehind 15 = .ok (.ireturn, 1) := by decide +kernel
theorem dX5_isReachedBehind_16 : decode cX5_isReachedBehind 16 = .ok (.aload_n 0, 1) := by decide +kernel
theorem dX5_isReachedBehind_17 : decode cX5_isReachedBehind 17 = .ok (.getfield 20, 3) := by decide +kernel
theorem dX5_isReachedBehind_20 : decode cX5_isReachedBehind 20 = .ok (.iconst 3, 1) := by decide +kernel
theorem dX5_isReachedBehind_21 : decode cX5_isReachedBehind 21 = .ok (.iload_n 2, 1) := by decide +kernel
theorem dX5_isReachedBehind_22 : decode cX5_isReachedBehind 22 = .ok (.imul, 1) := by decide +kernel
theorem dX5_isReachedBehind_23 : decode cX5_isReachedBehind 23 = .ok (.aload_n 0, 1) := by decide +kernel
theorem dX5_isReachedBehind_24 : decode cX5_isReachedBehind 24 = .ok (.getfield 17, 3) := by decide +kernel
theorem dX5_isReachedBehind_27 : decode cX5_isReachedBehind 27 = .ok (.iload_n 2, 1) := by decide +kernel
theorem dX5_isReachedBehind_28 : decode cX5_isReachedBehind 28 = .ok (.iaload, 1) := by decide +kernel
theorem dX5_isReachedBehind_29 : decode cX5_isReachedBehind 29 = .ok (.iadd, 1) := by decide +kernel
theorem dX5_isReachedBehind_30 : decode cX5_isReachedBehind 30 = .ok (.iconst 1, 1) := by decide +kernel
theorem dX5_isReachedBehind_31 : decode cX5_isReachedBehind 31 = .ok (.isub, 1) := by decide +kernel
theorem dX5_isReachedBehind_32 : decode cX5_isReachedBehind 32 = .ok (.iaload, 1) := by decide +kernel
theorem dX5_isReachedBehind_33 : decode cX5_isReachedBehind 33 = .ok (.istore 5, 2) := by decide +kernel
theorem dX5_isReachedBehind_35 : decode cX5_isReachedBehind 35 = .ok (.iload 5, 2) := by decide +kernel
theorem dX5_isReachedBehind_37 : decode cX5_isReachedBehind 37 = .ok (.iload_n 1, 1) := by decide +kernel
theorem dX5_isReachedBehind_38 : decode cX5_isReachedBehind 38 = .ok (.if_icmp .eq 13, 3) := by decide +kernel
theorem dX5_isReachedBehind_41 : decode cX5_isReachedBehind 41 = .ok (.aload_n 0, 1) := by decide +kernel
theorem dX5_isReachedBehind_42 : decode cX5_isReachedBehind 42 = .ok (.iload 5, 2) := by decide +kernel
theorem dX5_isReachedBehind_44 : decode cX5_isReachedBehind 44 = .ok (.iload_n 3, 1) := by decide +kernel
theorem dX5_isReachedBehind_45 : decode cX5_isReachedBehind 45 = .ok (.invokevirtual 100, 3) := by decide +kernel
theorem dX5_isReachedBehind_48 : decode cX5_isReachedBehind 48 = .ok (.ifCond .ne 5, 3) := by decide +kernel
theorem dX5_isReachedBehind_51 : decode cX5_isReachedBehind 51 = .ok (.iconst 0, 1) := by decide +kernel
theorem dX5_isReachedBehind_52 : decode cX5_isReachedBehind 52 = .ok (.ireturn, 1) := by decide +kernel
theorem dX5_isReachedBehind_53 : decode cX5_isReachedBehind 53 = .ok (.aload_n 0, 1) := by decide +kernel
theorem dX5_isReachedBehind_54 : decode cX5_isReachedBehind 54 = .ok (.getfield 17, 3) := by decide +kernel
theorem dX5_isReachedBehind_57 : decode cX5_isReachedBehind 57 = .ok (.iload_n 2, 1) := by decide +kernel
theorem dX5_isReachedBehind_58 : decode cX5_isReachedBehind 58 = .ok (.dup2, 1) := by decide +kernel
theorem dX5_isReachedBehind_59 : decode cX5_isReachedBehind 59 = .ok (.iaload, 1) := by decide +kernel
theorem dX5_isReachedBehind_60 : decode cX5_isReachedBehind 60 = .ok (.iconst 1, 1) := by decide +kernel
theorem dX5_isReachedBehind_61 : decode cX5_isReachedBehind 61 = .ok (.isub, 1) := by decide +kernel
theorem dX5_isReachedBehind_62 : decode cX5_isReachedBehind 62 = .ok (.iastore, 1) := by decide +kernel
theorem dX5_isReachedBehind_63 : decode cX5_isReachedBehind 63 = .ok (.aload_n 0, 1) := by decide +kernel
theorem dX5_isReachedBehind_64 : decode cX5_isReachedBehind 64 = .ok (.iload 5, 2) := by decide +kernel
theorem dX5_isReachedBehind_66 : decode cX5_isReachedBehind 66 = .ok (.iload_n 3, 1) := by decide +kernel
theorem dX5_isReachedBehind_67 : decode cX5_isReachedBehind 67 = .ok (.invokevirtual 104, 3) := by decide +kernel
theorem dX5_isReachedBehind_70 : decode cX5_isReachedBehind 70 = .ok (.aload_n 0, 1) := by decide +kernel
theorem dX5_isReachedBehind_71 : decode cX5_isReachedBehind 71 = .ok (.iload_n 1, 1) := by decide +kernel
theorem dX5_isReachedBehind_72 : decode cX5_isReachedBehind 72 = .ok (.iload 4, 2) := by decide +kernel
theorem dX5_isReachedBehind_74 : decode cX5_isReachedBehind 74 = .ok (.iconst 1, 1) := by decide +kernel
theorem dX5_isReachedBehind_75 : decode cX5_isReachedBehind 75 = .ok (.isub, 1) := by decide +kernel
theorem dX5_isReachedBehind_76 : decode cX5_isReachedBehind 76 = .ok (.invokevirtual 148, 3) := by decide +kernel
theorem dX5_isReachedBehind_79 : decode cX5_isReachedBehind 79 = .ok (.istore 6, 2) := by decide +kernel
theorem dX5_isReachedBehind_81 : decode cX5_isReachedBehind 81 = .ok (.aload_n 0, 1) := by decide +kernel
theorem dX5_isReachedBehind_82 : decode cX5_isReachedBehind 82 = .ok (.getfield 17, 3) := by decide +kernel
theorem dX5_isReachedBehind_85 : decode cX5_isReachedBehind 85 = .ok (.iload_n 3, 1) := by decide +kernel
theorem dX5_isReachedBehind_86 : decode cX5_isReachedBehind 86 = .ok (.dup2, 1) := by decide +kernel
theorem dX5_isReachedBehind_87 : decode cX5_isReachedBehind 87 = .ok (.iaload, 1) := by decide +kernel
theorem dX5_isReachedBehind_88 : decode cX5_isReachedBehind 88 = .ok (.iconst 1, 1) := by decide +kernel
theorem dX5_isReachedBehind_89 : decode cX5_isReachedBehind 89 = .ok (.isub, 1) := by decide +kernel
theorem dX5_isReachedBehind_90 : decode cX5_isReachedBehind 90 = .ok (.iastore, 1) := by decide +kernel
theorem dX5_isReachedBehind_91 : decode cX5_isReachedBehind 91 = .ok (.aload_n 0, 1) := by decide +kernel
theorem dX5_isReachedBehind_92 : decode cX5_isReachedBehind 92 = .ok (.iload 5, 2) := by decide +kernel
theorem dX5_isReachedBehind_94 : decode cX5_isReachedBehind 94 = .ok (.iload_n 2, 1) := by decide +kernel
theorem dX5_isReachedBehind_95 : decode cX5_isReachedBehind 95 = .ok (.invokevirtual 104, 3) := by decide +kernel
theorem dX5_isReachedBehind_98 : decode cX5_isReachedBehind 98 = .ok (.iload 6, 2) := by decide +kernel
theorem dX5_isReachedBehind_100 : decode cX5_isReachedBehind 100 = .ok (.ireturn, 1) := by decide +kernel
set_option maxRecDepth 20000 in
theorem ggX5_fewest_X5_isElsewhere : GoodIn wsX5_fewest wsX5_isElsewhere := goodIn_ca (goodIn_r _ [6, 7, 8, 9, 10, 5, 11, 12, 13, 14, 15, 16, 17, 18, 19, 1, 50, 51, 52, 53, 54, 55, 56, 57, 58, 59, 60, 61, 62, 63, 64, 65, 66, 67, 68, 69, 70, 71, 72, 73, 74] (by decide +kernel) (by decide +kernel)) (goodIn_sub (fun _ h => List.mem_cons_of_mem _ (List.mem_append_right _ h)) (by decide +kernel))
set_option maxRecDepth 20000 in
theorem gX5_fewest_X5_isElsewhere : GoodIn wsX5_fewest (wsV RX5 141 RX5 yX5_isElsewhere wsX5_isElsewhere) := goodIn_app (goodIn_of _ (by decide +kernel)) ggX5_fewest_X5_isElsewhere
set_option maxRecDepth 20000 in
theorem ggX5_fewest_X5_isReachedWith : GoodIn wsX5_fewest wsX5_isReachedWith := goodIn_ca (goodIn_r _ [23, 24, 25, 26, 27, 5, 28, 29, 30, 31, 32, 33, 34, 35, 36, 37, 38, 39, 40, 41, 42, 43, 44, 45, 46, 47, 48, 49, 20, 21, 22, 50, 51, 52, 53, 54, 55, 56, 57, 58, 59, 60, 61, 62, 63, 64, 65, 66, 67, 68, 69, 70, 71, 72, 73, 74] (by decide +kernel) (by decide +kernel)) (goodIn_sub (fun _ h => List.mem_cons_of_mem _ (List.mem_append_right _ h)) (by decide +kernel))
set_option maxRecDepth 20000 in
theorem gX5_fewest_X5_isReachedWith : GoodIn wsX5_fewest (wsV RX5 148 RX5 yX5_isReachedWith wsX5_isReachedWith) := goodIn_app (goodIn_of _ (by decide +kernel)) ggX5_fewest_X5_isReachedWith
theorem dX5_fewest_0 : decode cX5_fewest 0 = .ok (.aload_n 0, 1) := by decide +kernel
theorem dX5_fewest_1 : decode cX5_fewest 1 = .ok (.iload_n 1, 1) := by decide +kernel
theorem dX5_fewest_2 : decode cX5_fewest 2 = .ok (.invokevirtual 141, 3) := by decide +kernel
theorem dX5_fewest_5 : decode cX5_fewest 5 = .ok (.ifCond .eq 5, 3) := by decide +kernel
theorem dX5_fewest_8 : decode cX5_fewest 8 = .ok (.iconst 0, 1) := by decide +kernel
theorem dX5_fewest_9 : decode cX5_fewest 9 = .ok (.ireturn, 1) := by decide +kernel
theorem dX5_fewest_10 : decode cX5_fewest 10 = .ok (.iconst 0, 1) := by decide +kernel
theorem dX5_fewest_11 : decode cX5_fewest 11 = .ok (.istore_n 2, 1) := by decide +kernel
theorem dX5_fewest_12 : decode cX5_fewest 12 = .ok (.iload_n 2, 1) := by decide +kernel
theorem dX5_fewest_13 : decode cX5_fewest 13 = .ok (.iconst 4, 1) := by decide +kernel
theorem dX5_fewest_14 : decode cX5_fewest 14 = .ok (.if_icmp .gt 20, 3) := by decide +kernel
theorem dX5_fewest_17 : decode cX5_fewest 17 = .ok (.aload_n 0, 1) := by decide +kernel
theorem dX5_fewest_18 : decode cX5_fewest 18 = .ok (.iload_n 1, 1) := by decide +kernel
theorem dX5_fewest_19 : decode cX5_fewest 19 = .ok (.iload_n 2, 1) := by decide +kernel
theorem dX5_fewest_20 : decode cX5_fewest 20 = .ok (.invokevirtual 148, 3) := by decide +kernel
theorem dX5_fewest_23 : decode cX5_fewest 23 = .ok (.ifCond .eq 5, 3) := by decide +kernel
theorem dX5_fewest_26 : decode cX5_fewest 26 = .ok (.iload_n 2, 1) := by decide +kernel
theorem dX5_fewest_27 : decode cX5_fewest 27 = .ok (.ireturn, 1) := by decide +kernel
theorem dX5_fewest_28 : decode cX5_fewest 28 = .ok (.iinc 2 1, 3) := by decide +kernel
theorem dX5_fewest_31 : decode cX5_fewest 31 = .ok (.goto (-19), 3) := by decide +kernel
theorem dX5_fewest_34 : decode cX5_fewest 34 = .ok (.aload_n 0, 1) := by decide +kernel
theorem dX5_fewest_35 : decode cX5_fewest 35 = .ok (.iconst 3, 1) := by decide +kernel
theorem dX5_fewest_36 : decode cX5_fewest 36 = .ok (.putfield 67, 3) := by decide +kernel
theorem dX5_fewest_39 : decode cX5_fewest 39 = .ok (.iconst 0, 1) := by decide +kernel
theorem dX5_fewest_40 : decode cX5_fewest 40 = .ok (.ireturn, 1) := by decide +kernel
set_option maxRecDepth 20000 in
theorem ggX5_fewestMoves_X5_fewest : GoodIn wsX5_fewestMoves wsX5_fewest := goodIn_ca (goodIn_r _ [5, 6, 7, 8, 9, 4, 10, 11, 12, 13, 14, 15, 16, 17, 18, 19, 20, 21, 22, 23, 24, 25, 26, 27, 28, 29, 30, 31, 32, 33, 34, 35, 36, 37, 38, 39, 40, 41, 42, 43, 44, 45, 46, 47, 48, 49, 50, 51, 52, 53, 54, 55, 56, 57, 58, 59, 60, 61, 62, 63, 64, 65, 66, 67, 68, 69, 70, 71, 72, 73, 74, 75, 76, 77, 78] (by decide +kernel) (by decide +kernel)) (goodIn_sub (fun _ h => List.mem_cons_of_mem _ (List.mem_append_right _ h)) (by decide +kernel))
set_option maxRecDepth 20000 in
theorem gX5_fewestMoves_X5_fewest : GoodIn wsX5_fewestMoves (wsV RX5 151 RX5 yX5_fewest wsX5_fewest) := goodIn_app (goodIn_of _ (by decide +kernel)) ggX5_fewestMoves_X5_fewest
theorem dX5_fewestMoves_0 : decode cX5_fewestMoves 0 = .ok (.aload_n 0, 1) := by decide +kernel
theorem dX5_fewestMoves_1 : decode cX5_fewestMoves 1 = .ok (.iload_n 1, 1) := by decide +kernel
theorem dX5_fewestMoves_2 : decode cX5_fewestMoves 2 = .ok (.invokevirtual 151, 3) := by decide +kernel
theorem dX5_fewestMoves_5 : decode cX5_fewestMoves 5 = .ok (.ireturn, 1) := by decide +kernel
set_option maxRecDepth 20000 in
theorem ggX5_fewestByOrders_X5_fewest : GoodIn wsX5_fewestByOrders wsX5_fewest := goodIn_ca (goodIn_r _ [5, 6, 7, 8, 9, 4, 10, 11, 12, 13, 14, 15, 16, 17, 18, 19, 20, 21, 22, 23, 24, 25, 26, 27, 28, 29, 30, 31, 32, 33, 34, 35, 36, 37, 38, 39, 40, 41, 42, 43, 44, 45, 46, 47, 48, 49, 50, 51, 52, 53, 54, 55, 56, 57, 58, 59, 60, 61, 62, 63, 64, 65, 66, 67, 68, 69, 70, 71, 72, 73, 74, 75, 76, 77, 78] (by decide +kernel) (by decide +kernel)) (goodIn_sub (fun _ h => List.mem_cons_of_mem _ (List.mem_append_right _ h)) (by decide +kernel))
set_option maxRecDepth 20000 in
theorem gX5_fewestByOrders_X5_fewest : GoodIn wsX5_fewestByOrders (wsV RX5 151 RX5 yX5_fewest wsX5_fewest) := goodIn_app (goodIn_of _ (by decide +kernel)) ggX5_fewestByOrders_X5_fewest
theorem dX5_fewestByOrders_0 : decode cX5_fewestByOrders 0 = .ok (.aload_n 0, 1) := by decide +kernel
theorem dX5_fewestByOrders_1 : decode cX5_fewestByOrders 1 = .ok (.iload_n 1, 1) := by decide +kernel
theorem dX5_fewestByOrders_2 : decode cX5_fewestByOrders 2 = .ok (.invokevirtual 151, 3) := by decide +kernel
theorem dX5_fewestByOrders_5 : decode cX5_fewestByOrders 5 = .ok (.ireturn, 1) := by decide +kernel
set_option maxRecDepth 20000 in
theorem ggX5_pass_X5_in : GoodIn wsX5_pass wsX5_in := goodIn_r _ [8] (by decide +kernel) (by decide +kernel)
set_option maxRecDepth 20000 in
theorem gX5_pass_X5_in : GoodIn wsX5_pass (va_wsS RX5 73 yX5_in wsX5_in) := goodIn_app (goodIn_of _ (by decide +kernel)) ggX5_pass_X5_in
set_option maxRecDepth 20000 in
theorem ggX5_pass_X5_fails : GoodIn wsX5_pass wsX5_fails := goodIn_r _ [12, 13, 14, 15, 16, 17, 18, 19, 20, 21, 22, 23, 24, 25, 26, 27, 28, 29, 30, 31, 32, 33, 34, 35, 36, 37, 38] (by decide +kernel) (by decide +kernel)
set_option maxRecDepth 20000 in
theorem gX5_pass_X5_fails : GoodIn wsX5_pass (wsV RX5 80 RX5 yX5_fails wsX5_fails) := goodIn_app (goodIn_of _ (by decide +kernel)) ggX5_pass_X5_fails
theorem dX5_pass_0 : decode cX5_pass 0 = .ok (.aload_n 0, 1) := by decide +kernel
theorem dX5_pass_1 : decode cX5_pass 1 = .ok (.iload_n 1, 1) := by decide +kernel
theorem dX5_pass_2 : decode cX5_pass 2 = .ok (.iconst 1, 1) := by decide +kernel
theorem dX5_pass_3 : decode cX5_pass 3 = .ok (.bipush 99, 2) := by decide +kernel
theorem dX5_pass_5 : decode cX5_pass 5 = .ok (.invokestatic 73, 3) := by decide +kernel
theorem dX5_pass_8 : decode cX5_pass 8 = .ok (.ifCond .eq 7, 3) := by decide +kernel
theorem dX5_pass_11 : decode cX5_pass 11 = .ok (.iconst 0, 1) := by decide +kernel
theorem dX5_pass_12 : decode cX5_pass 12 = .ok (.goto 4, 3) := by decide +kernel
theorem dX5_pass_15 : decode cX5_pass 15 = .ok (.iconst 1, 1) := by decide +kernel
theorem dX5_pass_16 : decode cX5_pass 16 = .ok (.invokevirtual 80, 3) := by decide +kernel
theorem dX5_pass_19 : decode cX5_pass 19 = .ok (.ifCond .eq 5, 3) := by decide +kernel
theorem dX5_pass_22 : decode cX5_pass 22 = .ok (.iconst 0, 1) := by decide +kernel
theorem dX5_pass_23 : decode cX5_pass 23 = .ok (.ireturn, 1) := by decide +kernel
theorem dX5_pass_24 : decode cX5_pass 24 = .ok (.iconst 0, 1) := by decide +kernel
theorem dX5_pass_25 : decode cX5_pass 25 = .ok (.istore_n 2, 1) := by decide +kernel
theorem dX5_pass_26 : decode cX5_pass 26 = .ok (.iconst 0, 1) := by decide +kernel
theorem dX5_pass_27 : decode cX5_pass 27 = .ok (.istore_n 3, 1) := by decide +kernel
theorem dX5_pass_28 : decode cX5_pass 28 = .ok (.iload_n 3, 1) := by decide +kernel
theorem dX5_pass_29 : decode cX5_pass 29 = .ok (.iload_n 1, 1) := by decide +kernel
theorem dX5_pass_30 : decode cX5_pass 30 = .ok (.if_icmp .ge 81, 3) := by decide +kernel
theorem dX5_pass_33 : decode cX5_pass 33 = .ok (.aload_n 0, 1) := by decide +kernel
theorem dX5_pass_34 : decode cX5_pass 34 = .ok (.dup, 1) := by decide +kernel
theorem dX5_pass_35 : decode cX5_pass 35 = .ok (.getfield 87, 3) := by decide +kernel
theorem dX5_pass_38 : decode cX5_pass 38 = .ok (.iconst 1, 1) := by decide +kernel
theorem dX5_pass_39 : decode cX5_pass 39 = .ok (.iadd, 1) := by decide +kernel
theorem dX5_pass_40 : decode cX5_pass 40 = .ok (.putfield 87, 3) := by decide +kernel
theorem dX5_pass_43 : decode cX5_pass 43 = .ok (.iconst 0, 1) := by decide +kernel
theorem dX5_pass_44 : decode cX5_pass 44 = .ok (.istore 4, 2) := by decide +kernel
theorem dX5_pass_46 : decode cX5_pass 46 = .ok (.iload 4, 2) := by decide +kernel
theorem dX5_pass_48 : decode cX5_pass 48 = .ok (.aload_n 0, 1) := by decide +kernel
theorem dX5_pass_49 : decode cX5_pass 49 = .ok (.getfield 77, 3) := by decide +kernel
theorem dX5_pass_52 : decode cX5_pass 52 = .ok (.if_icmp .ge 53, 3) := by decide +kernel
theorem dX5_pass_55 : decode cX5_pass 55 = .ok (.aload_n 0, 1) := by decide +kernel
theorem dX5_pass_56 : decode cX5_pass 56 = .ok (.getfield 39, 3) := by decide +kernel
theorem dX5_pass_59 : decode cX5_pass 59 = .ok (.iload 4, 2) := by decide +kernel
theorem dX5_pass_61 : decode cX5_pass 61 = .ok (.caload, 1) := by decide +kernel
theorem dX5_pass_62 : decode cX5_pass 62 = .ok (.bipush 98, 2) := by decide +kernel
theorem dX5_pass_64 : decode cX5_pass 64 = .ok (.if_icmp .ne 35, 3) := by decide +kernel
theorem dX5_pass_67 : decode cX5_pass 67 = .ok (.aload_n 0, 1) := by decide +kernel
theorem dX5_pass_68 : decode cX5_pass 68 = .ok (.getfield 87, 3) := by decide +kernel
theorem dX5_pass_71 : decode cX5_pass 71 = .ok (.aload_n 0, 1) := by decide +kernel
theorem dX5_pass_72 : decode cX5_pass 72 = .ok (.getfield 30, 3) := by decide +kernel
theorem dX5_pass_75 : decode cX5_pass 75 = .ok (.iload 4, 2) := by decide +kernel
theorem dX5_pass_77 : decode cX5_pass 77 = .ok (.iaload, 1) := by decide +kernel
theorem dX5_pass_78 : decode cX5_pass 78 = .ok (.isub, 1) := by decide +kernel
theorem dX5_pass_79 : decode cX5_pass 79 = .ok (.bipush 24, 2) := by decide +kernel
theorem dX5_pass_81 : decode cX5_pass 81 = .ok (.if_icmp .gt 6, 3) := by decide +kernel
theorem dX5_pass_84 : decode cX5_pass 84 = .ok (.goto 15, 3) := by decide +kernel
theorem dX5_pass_87 : decode cX5_pass 87 = .ok (.aload_n 0, 1) := by decide +kernel
theorem dX5_pass_88 : decode cX5_pass 88 = .ok (.getfield 39, 3) := by decide +kernel
theorem dX5_pass_91 : decode cX5_pass 91 = .ok (.iload 4, 2) := by decide +kernel
theorem dX5_pass_93 : decode cX5_pass 93 = .ok (.bipush 110, 2) := by decide +kernel
theorem dX5_pass_95 : decode cX5_pass 95 = .ok (.castore, 1) := by decide +kernel
theorem dX5_pass_96 : decode cX5_pass 96 = .ok (.iinc 2 1, 3) := by decide +kernel
theorem dX5_pass_99 : decode cX5_pass 99 = .ok (.iinc 4 1, 3) := by decide +kernel
theorem dX5_pass_102 : decode cX5_pass 102 = .ok (.goto (-56), 3) := by decide +kernel
theorem dX5_pass_105 : decode cX5_pass 105 = .ok (.iinc 3 1, 3) := by decide +kernel
theorem dX5_pass_108 : decode cX5_pass 108 = .ok (.goto (-80), 3) := by decide +kernel
theorem dX5_pass_111 : decode cX5_pass 111 = .ok (.iload_n 2, 1) := by decide +kernel
theorem dX5_pass_112 : decode cX5_pass 112 = .ok (.ireturn, 1) := by decide +kernel
set_option maxRecDepth 20000 in
theorem ggX5_time_X5_tells : GoodIn wsX5_time wsX5_tells := goodIn_r _ [6, 7, 8, 9, 10, 11, 12, 13, 14, 15, 16, 17, 18, 19, 20, 21, 22, 23, 24, 25, 26, 27, 28, 29, 30, 31, 32] (by decide +kernel) (by decide +kernel)
set_option maxRecDepth 20000 in
theorem gX5_time_X5_tells : GoodIn wsX5_time (wsV RX5 154 RX5 yX5_tells wsX5_tells) := goodIn_app (goodIn_of _ (by decide +kernel)) ggX5_time_X5_tells
theorem dX5_time_0 : decode cX5_time 0 = .ok (.aload_n 0, 1) := by decide +kernel
theorem dX5_time_1 : decode cX5_time 1 = .ok (.aload_n 0, 1) := by decide +kernel
theorem dX5_time_2 : decode cX5_time 2 = .ok (.getfield 87, 3) := by decide +kernel
theorem dX5_time_5 : decode cX5_time 5 = .ok (.invokevirtual 154, 3) := by decide +kernel
theorem dX5_time_8 : decode cX5_time 8 = .ok (.ireturn, 1) := by decide +kernel
set_option maxRecDepth 20000 in
theorem ggX5_waited_X5_hasNotCome : GoodIn wsX5_waited wsX5_hasNotCome := goodIn_ca (goodIn_r _ [5, 6, 7, 8, 9, 4, 10, 11, 12, 13, 14, 15, 16, 17, 18, 19, 28, 29, 30, 31, 32, 33, 34, 35, 36, 37, 38, 39, 40, 41, 42, 43, 44, 45, 46, 47, 48, 49, 50, 51, 52] (by decide +kernel) (by decide +kernel)) (goodIn_sub (fun _ h => List.mem_cons_of_mem _ (List.mem_append_right _ h)) (by decide +kernel))
set_option maxRecDepth 20000 in
theorem gX5_waited_X5_hasNotCome : GoodIn wsX5_waited (wsV RX5 112 RX5 yX5_hasNotCome wsX5_hasNotCome) := goodIn_app (goodIn_of _ (by decide +kernel)) ggX5_waited_X5_hasNotCome
set_option maxRecDepth 20000 in
theorem ggX5_waited_X5_waits : GoodIn wsX5_waited wsX5_waits := goodIn_ca (goodIn_r _ [23, 24, 25, 6, 26, 27, 28, 29, 30, 31, 32, 33, 34, 35, 36, 37, 38, 39, 40, 41, 42, 43, 44, 45, 46, 47, 48, 49, 50, 51, 52] (by decide +kernel) (by decide +kernel)) (goodIn_sub (fun _ h => List.mem_cons_of_mem _ (List.mem_append_right _ h)) (by decide +kernel))
set_option maxRecDepth 20000 in
theorem gX5_waited_X5_waits : GoodIn wsX5_waited (wsV RX5 131 RX5 yX5_waits wsX5_waits) := goodIn_app (goodIn_of _ (by decide +kernel)) ggX5_waited_X5_waits
theorem dX5_waited_0 : decode cX5_waited 0 = .ok (.aload_n 0, 1) := by decide +kernel
theorem dX5_waited_1 : decode cX5_waited 1 = .ok (.iload_n 1, 1) := by decide +kernel
theorem dX5_waited_2 : decode cX5_waited 2 = .ok (.invokevirtual 112, 3) := by decide +kernel
theorem dX5_waited_5 : decode cX5_waited 5 = .ok (.ifCond .eq 7, 3) := by decide +kernel
theorem dX5_waited_8 : decode cX5_waited 8 = .ok (.iconst 0, 1) := by decide +kernel
theorem dX5_waited_9 : decode cX5_waited 9 = .ok (.goto 8, 3) := by decide +kernel
theorem dX5_waited_12 : decode cX5_waited 12 = .ok (.aload_n 0, 1) := by decide +kernel
theorem dX5_waited_13 : decode cX5_waited 13 = .ok (.iload_n 1, 1) := by decide +kernel
theorem dX5_waited_14 : decode cX5_waited 14 = .ok (.invokevirtual 131, 3) := by decide +kernel
theorem dX5_waited_17 : decode cX5_waited 17 = .ok (.ireturn, 1) := by decide +kernel
set_option maxRecDepth 20000 in
theorem ggX5_charge_X5_hasNotCome : GoodIn wsX5_charge wsX5_hasNotCome := goodIn_ca (goodIn_r _ [5, 6, 7, 8, 9, 4, 10, 11, 12, 13, 14, 15, 16, 17, 18, 19, 41, 42, 43, 44, 45, 46, 47, 48, 49, 50, 51, 52, 53, 54, 55, 56, 57, 58, 59, 60, 61, 62, 63, 64, 65] (by decide +kernel) (by decide +kernel)) (goodIn_sub (fun _ h => List.mem_cons_of_mem _ (List.mem_append_right _ h)) (by decide +kernel))
set_option maxRecDepth 20000 in
theorem gX5_charge_X5_hasNotCome : GoodIn wsX5_charge (wsV RX5 112 RX5 yX5_hasNotCome wsX5_hasNotCome) := goodIn_app (goodIn_of _ (by decide +kernel)) ggX5_charge_X5_hasNotCome
set_option maxRecDepth 20000 in
theorem ggX5_charge_X5_costs : GoodIn wsX5_charge wsX5_costs := goodIn_ca (goodIn_r _ [23, 24, 25, 26, 27, 28, 29, 30, 4, 31, 32, 33, 6, 34, 35, 36, 37, 38, 39, 40, 41, 42, 43, 44, 45, 46, 47, 48, 49, 50, 51, 52, 53, 54, 55, 56, 57, 58, 59, 60, 61, 62, 63, 64, 65] (by decide +kernel) (by decide +kernel)) (goodIn_sub (fun _ h => List.mem_cons_of_mem _ (List.mem_append_right _ h)) (by decide +kernel))
set_option maxRecDepth 20000 in
theorem gX5_charge_X5_costs : GoodIn wsX5_charge (wsV RX5 138 RX5 yX5_costs wsX5_costs) := goodIn_app (goodIn_of _ (by decide +kernel)) ggX5_charge_X5_costs
theorem dX5_charge_0 : decode cX5_charge 0 = .ok (.aload_n 0, 1) := by decide +kernel
theorem dX5_charge_1 : decode cX5_charge 1 = .ok (.iload_n 1, 1) := by decide +kernel
theorem dX5_charge_2 : decode cX5_charge 2 = .ok (.invokevirtual 112, 3) := by decide +kernel
theorem dX5_charge_5 : decode cX5_charge 5 = .ok (.ifCond .eq 7, 3) := by decide +kernel
theorem dX5_charge_8 : decode cX5_charge 8 = .ok (.iconst 0, 1) := by decide +kernel
theorem dX5_charge_9 : decode cX5_charge 9 = .ok (.goto 8, 3) := by decide +kernel
theorem dX5_charge_12 : decode cX5_charge 12 = .ok (.aload_n 0, 1) := by decide +kernel
theorem dX5_charge_13 : decode cX5_charge 13 = .ok (.iload_n 1, 1) := by decide +kernel
theorem dX5_charge_14 : decode cX5_charge 14 = .ok (.invokevirtual 138, 3) := by decide +kernel
theorem dX5_charge_17 : decode cX5_charge 17 = .ok (.ireturn, 1) := by decide +kernel
set_option maxRecDepth 20000 in
theorem ggX5_chargeByHours_X5_hasNotCome : GoodIn wsX5_chargeByHours wsX5_hasNotCome := goodIn_ca (goodIn_r _ [5, 6, 7, 8, 9, 4, 10, 11, 12, 13, 14, 15, 16, 17, 18, 19, 41, 42, 43, 44, 45, 46, 47, 48, 49, 50, 51, 52, 53, 54, 55, 56, 57, 58, 59, 60, 61, 62, 63, 64, 65] (by decide +kernel) (by decide +kernel)) (goodIn_sub (fun _ h => List.mem_cons_of_mem _ (List.mem_append_right _ h)) (by decide +kernel))
set_option maxRecDepth 20000 in
theorem gX5_chargeByHours_X5_hasNotCome : GoodIn wsX5_chargeByHours (wsV RX5 112 RX5 yX5_hasNotCome wsX5_hasNotCome) := goodIn_app (goodIn_of _ (by decide +kernel)) ggX5_chargeByHours_X5_hasNotCome
set_option maxRecDepth 20000 in
theorem ggX5_chargeByHours_X5_costs : GoodIn wsX5_chargeByHours wsX5_costs := goodIn_ca (goodIn_r _ [23, 24, 25, 26, 27, 28, 29, 30, 4, 31, 32, 33, 6, 34, 35, 36, 37, 38, 39, 40, 41, 42, 43, 44, 45, 46, 47, 48, 49, 50, 51, 52, 53, 54, 55, 56, 57, 58, 59, 60, 61, 62, 63, 64, 65] (by decide +kernel) (by decide +kernel)) (goodIn_sub (fun _ h => List.mem_cons_of_mem _ (List.mem_append_right _ h)) (by decide +kernel))
set_option maxRecDepth 20000 in
theorem gX5_chargeByHours_X5_costs : GoodIn wsX5_chargeByHours (wsV RX5 138 RX5 yX5_costs wsX5_costs) := goodIn_app (goodIn_of _ (by decide +kernel)) ggX5_chargeByHours_X5_costs
theorem dX5_chargeByHours_0 : decode cX5_chargeByHours 0 = .ok (.aload_n 0, 1) := by decide +kernel
theorem dX5_chargeByHours_1 : decode cX5_chargeByHours 1 = .ok (.iload_n 1, 1) := by decide +kernel
theorem dX5_chargeByHours_2 : decode cX5_chargeByHours 2 = .ok (.invokevirtual 112, 3) := by decide +kernel
theorem dX5_chargeByHours_5 : decode cX5_chargeByHours 5 = .ok (.ifCond .eq 7, 3) := by decide +kernel
theorem dX5_chargeByHours_8 : decode cX5_chargeByHours 8 = .ok (.iconst 0, 1) := by decide +kernel
theorem dX5_chargeByHours_9 : decode cX5_chargeByHours 9 = .ok (.goto 8, 3) := by decide +kernel
theorem dX5_chargeByHours_12 : decode cX5_chargeByHours 12 = .ok (.aload_n 0, 1) := by decide +kernel
theorem dX5_chargeByHours_13 : decode cX5_chargeByHours 13 = .ok (.iload_n 1, 1) := by decide +kernel
theorem dX5_chargeByHours_14 : decode cX5_chargeByHours 14 = .ok (.invokevirtual 138, 3) := by decide +kernel
theorem dX5_chargeByHours_17 : decode cX5_chargeByHours 17 = .ok (.ireturn, 1) := by decide +kernel
set_option maxRecDepth 20000 in
theorem ggX5_moves_X5_tells : GoodIn wsX5_moves wsX5_tells := goodIn_r _ [6, 7, 8, 9, 10, 11, 12, 13, 14, 15, 16, 17, 18, 19, 20, 21, 22, 23, 24, 25, 26, 27, 28, 29, 30, 31, 32] (by decide +kernel) (by decide +kernel)
set_option maxRecDepth 20000 in
theorem gX5_moves_X5_tells : GoodIn wsX5_moves (wsV RX5 154 RX5 yX5_tells wsX5_tells) := goodIn_app (goodIn_of _ (by decide +kernel)) ggX5_moves_X5_tells
theorem dX5_moves_0 : decode cX5_moves 0 = .ok (.aload_n 0, 1) := by decide +kernel
theorem dX5_moves_1 : decode cX5_moves 1 = .ok (.aload_n 0, 1) := by decide +kernel
theorem dX5_moves_2 : decode cX5_moves 2 = .ok (.getfield 125, 3) := by decide +kernel
theorem dX5_moves_5 : decode cX5_moves 5 = .ok (.invokevirtual 154, 3) := by decide +kernel
theorem dX5_moves_8 : decode cX5_moves 8 = .ok (.ireturn, 1) := by decide +kernel
theorem dX5_charged_0 : decode cX5_charged 0 = .ok (.aload_n 0, 1) := by decide +kernel
theorem dX5_charged_1 : decode cX5_charged 1 = .ok (.iconst 0, 1) := by decide +kernel
theorem dX5_charged_2 : decode cX5_charged 2 = .ok (.putfield 67, 3) := by decide +kernel
theorem dX5_charged_5 : decode cX5_charged 5 = .ok (.aload_n 0, 1) := by decide +kernel
theorem dX5_charged_6 : decode cX5_charged 6 = .ok (.getfield 134, 3) := by decide +kernel
theorem dX5_charged_9 : decode cX5_charged 9 = .ok (.lreturn, 1) := by decide +kernel
set_option maxRecDepth 20000 in
theorem ggX5_usedShare_X5_fails : GoodIn wsX5_usedShare wsX5_fails := goodIn_r _ [7, 8, 9, 10, 11, 12, 13, 14, 15, 16, 17, 18, 19, 20, 21, 22, 23, 24, 25, 26, 27, 28, 29, 30, 31, 32, 33] (by decide +kernel) (by decide +kernel)
set_option maxRecDepth 20000 in
theorem gX5_usedShare_X5_fails : GoodIn wsX5_usedShare (wsV RX5 80 RX5 yX5_fails wsX5_fails) := goodIn_app (goodIn_of _ (by decide +kernel)) ggX5_usedShare_X5_fails
theorem dX5_usedShare_0 : decode cX5_usedShare 0 = .ok (.aload_n 0, 1) := by decide +kernel
theorem dX5_usedShare_1 : decode cX5_usedShare 1 = .ok (.aload_n 0, 1) := by decide +kernel
theorem dX5_usedShare_2 : decode cX5_usedShare 2 = .ok (.getfield 84, 3) := by decide +kernel
theorem dX5_usedShare_5 : decode cX5_usedShare 5 = .ok (.ifCond .ne 7, 3) := by decide +kernel
theorem dX5_usedShare_8 : decode cX5_usedShare 8 = .ok (.iconst 1, 1) := by decide +kernel
theorem dX5_usedShare_9 : decode cX5_usedShare 9 = .ok (.goto 4, 3) := by decide +kernel
theorem dX5_usedShare_12 : decode cX5_usedShare 12 = .ok (.iconst 0, 1) := by decide +kernel
theorem dX5_usedShare_13 : decode cX5_usedShare 13 = .ok (.invokevirtual 80, 3) := by decide +kernel
theorem dX5_usedShare_16 : decode cX5_usedShare 16 = .ok (.ifCond .eq 5, 3) := by decide +kernel
theorem dX5_usedShare_19 : decode cX5_usedShare 19 = .ok (.fconst 0, 1) := by decide +kernel
theorem dX5_usedShare_20 : decode cX5_usedShare 20 = .ok (.freturn, 1) := by decide +kernel
theorem dX5_usedShare_21 : decode cX5_usedShare 21 = .ok (.iconst 0, 1) := by decide +kernel
theorem dX5_usedShare_22 : decode cX5_usedShare 22 = .ok (.istore_n 1, 1) := by decide +kernel
theorem dX5_usedShare_23 : decode cX5_usedShare 23 = .ok (.iconst 0, 1) := by decide +kernel
theorem dX5_usedShare_24 : decode cX5_usedShare 24 = .ok (.istore_n 2, 1) := by decide +kernel
theorem dX5_usedShare_25 : decode cX5_usedShare 25 = .ok (.iload_n 2, 1) := by decide +kernel
theorem dX5_usedShare_26 : decode cX5_usedShare 26 = .ok (.aload_n 0, 1) := by decide +kernel
theorem dX5_usedShare_27 : decode cX5_usedShare 27 = .ok (.getfield 84, 3) := by decide +kernel
theorem dX5_usedShare_30 : decode cX5_usedShare 30 = .ok (.if_icmp .ge 26, 3) := by decide +kernel
theorem dX5_usedShare_33 : decode cX5_usedShare 33 = .ok (.iload_n 1, 1) := by decide +kernel
theorem dX5_usedShare_34 : decode cX5_usedShare 34 = .ok (.aload_n 0, 1) := by decide +kernel
theorem dX5_usedShare_35 : decode cX5_usedShare 35 = .ok (.getfield 27, 3) := by decide +kernel
theorem dX5_usedShare_38 : decode cX5_usedShare 38 = .ok (.iload_n 2, 1) := by decide +kernel
theorem dX5_usedShare_39 : decode cX5_usedShare 39 = .ok (.iaload, 1) := by decide +kernel
theorem dX5_usedShare_40 : decode cX5_usedShare 40 = .ok (.ifCond .ge 7, 3) := by decide +kernel
theorem dX5_usedShare_43 : decode cX5_usedShare 43 = .ok (.iconst 0, 1) := by decide +kernel
theorem dX5_usedShare_44 : decode cX5_usedShare 44 = .ok (.goto 4, 3) := by decide +kernel
theorem dX5_usedShare_47 : decode cX5_usedShare 47 = .ok (.iconst 1, 1) := by decide +kernel
theorem dX5_usedShare_48 : decode cX5_usedShare 48 = .ok (.iadd, 1) := by decide +kernel
theorem dX5_usedShare_49 : decode cX5_usedShare 49 = .ok (.istore_n 1, 1) := by decide +kernel
theorem dX5_usedShare_50 : decode cX5_usedShare 50 = .ok (.iinc 2 1, 3) := by decide +kernel
theorem dX5_usedShare_53 : decode cX5_usedShare 53 = .ok (.goto (-28), 3) := by decide +kernel
theorem dX5_usedShare_56 : decode cX5_usedShare 56 = .ok (.iload_n 1, 1) := by decide +kernel
theorem dX5_usedShare_57 : decode cX5_usedShare 57 = .ok (.i2f, 1) := by decide +kernel
theorem dX5_usedShare_58 : decode cX5_usedShare 58 = .ok (.aload_n 0, 1) := by decide +kernel
theorem dX5_usedShare_59 : decode cX5_usedShare 59 = .ok (.getfield 84, 3) := by decide +kernel
theorem dX5_usedShare_62 : decode cX5_usedShare 62 = .ok (.i2f, 1) := by decide +kernel
theorem dX5_usedShare_63 : decode cX5_usedShare 63 = .ok (.fdiv, 1) := by decide +kernel
theorem dX5_usedShare_64 : decode cX5_usedShare 64 = .ok (.freturn, 1) := by decide +kernel
set_option maxRecDepth 20000 in
theorem ggX5_meanWaiting_X5_waits : GoodIn wsX5_meanWaiting wsX5_waits := goodIn_ca (goodIn_r _ [7, 8, 9, 2, 10, 11, 17, 18, 19, 20, 21, 22, 23, 24, 25, 26, 27, 28, 29, 30, 31, 32, 33, 34, 35, 36, 37, 38, 39, 40, 41] (by decide +kernel) (by decide +kernel)) (goodIn_sub (fun _ h => List.mem_cons_of_mem _ (List.mem_append_right _ h)) (by decide +kernel))
set_option maxRecDepth 20000 in
theorem gX5_meanWaiting_X5_waits : GoodIn wsX5_meanWaiting (wsV RX5 131 RX5 yX5_waits wsX5_waits) := goodIn_app (goodIn_of _ (by decide +kernel)) ggX5_meanWaiting_X5_waits
set_option maxRecDepth 20000 in
theorem ggX5_meanWaiting_X5_fails : GoodIn wsX5_meanWaiting wsX5_fails := goodIn_r _ [15, 16, 17, 18, 19, 20, 21, 22, 23, 24, 25, 26, 27, 28, 29, 30, 31, 32, 33, 34, 35, 36, 37, 38, 39, 40, 41] (by decide +kernel) (by decide +kernel)
set_option maxRecDepth 20000 in
theorem gX5_meanWaiting_X5_fails : GoodIn wsX5_meanWaiting (wsV RX5 80 RX5 yX5_fails wsX5_fails) := goodIn_app (goodIn_of _ (by decide +kernel)) ggX5_meanWaiting_X5_fails
theorem dX5_meanWaiting_0 : decode cX5_meanWaiting 0 = .ok (.iconst 0, 1) := by decide +kernel
theorem dX5_meanWaiting_1 : decode cX5_meanWaiting 1 = .ok (.istore_n 1, 1) := by decide +kernel
theorem dX5_meanWaiting_2 : decode cX5_meanWaiting 2 = .ok (.iconst 0, 1) := by decide +kernel
theorem dX5_meanWaiting_3 : decode cX5_meanWaiting 3 = .ok (.istore_n 2, 1) := by decide +kernel
theorem dX5_meanWaiting_4 : decode cX5_meanWaiting 4 = .ok (.iconst 0, 1) := by decide +kernel
theorem dX5_meanWaiting_5 : decode cX5_meanWaiting 5 = .ok (.istore_n 3, 1) := by decide +kernel
theorem dX5_meanWaiting_6 : decode cX5_meanWaiting 6 = .ok (.iload_n 3, 1) := by decide +kernel
theorem dX5_meanWaiting_7 : decode cX5_meanWaiting 7 = .ok (.aload_n 0, 1) := by decide +kernel
theorem dX5_meanWaiting_8 : decode cX5_meanWaiting 8 = .ok (.getfield 77, 3) := by decide +kernel
theorem dX5_meanWaiting_11 : decode cX5_meanWaiting 11 = .ok (.if_icmp .ge 45, 3) := by decide +kernel
theorem dX5_meanWaiting_14 : decode cX5_meanWaiting 14 = .ok (.aload_n 0, 1) := by decide +kernel
theorem dX5_meanWaiting_15 : decode cX5_meanWaiting 15 = .ok (.getfield 39, 3) := by decide +kernel
theorem dX5_meanWaiting_18 : decode cX5_meanWaiting 18 = .ok (.iload_n 3, 1) := by decide +kernel
theorem dX5_meanWaiting_19 : decode cX5_meanWaiting 19 = .ok (.caload, 1) := by decide +kernel
theorem dX5_meanWaiting_20 : decode cX5_meanWaiting 20 = .ok (.bipush 98, 2) := by decide +kernel
theorem dX5_meanWaiting_22 : decode cX5_meanWaiting 22 = .ok (.if_icmp .eq 28, 3) := by decide +kernel
theorem dX5_meanWaiting_25 : decode cX5_meanWaiting 25 = .ok (.aload_n 0, 1) := by decide +kernel
theorem dX5_meanWaiting_26 : decode cX5_meanWaiting 26 = .ok (.getfield 39, 3) := by decide +kernel
theorem dX5_meanWaiting_29 : decode cX5_meanWaiting 29 = .ok (.iload_n 3, 1) := by decide +kernel
theorem dX5_meanWaiting_30 : decode cX5_meanWaiting 30 = .ok (.caload, 1) := by decide +kernel
theorem dX5_meanWaiting_31 : decode cX5_meanWaiting 31 = .ok (.bipush 110, 2) := by decide +kernel
theorem dX5_meanWaiting_33 : decode cX5_meanWaiting 33 = .ok (.if_icmp .ne 6, 3) := by decide +kernel
theorem dX5_meanWaiting_36 : decode cX5_meanWaiting 36 = .ok (.goto 14, 3) := by decide +kernel
theorem dX5_meanWaiting_39 : decode cX5_meanWaiting 39 = .ok (.iload_n 1, 1) := by decide +kernel
theorem dX5_meanWaiting_40 : decode cX5_meanWaiting 40 = .ok (.aload_n 0, 1) := by decide +kernel
theorem dX5_meanWaiting_41 : decode cX5_meanWaiting 41 = .ok (.iload_n 3, 1) := by decide +kernel
theorem dX5_meanWaiting_42 : decode cX5_meanWaiting 42 = .ok (.invokevirtual 131, 3) := by decide +kernel
theorem dX5_meanWaiting_45 : decode cX5_meanWaiting 45 = .ok (.iadd, 1) := by decide +kernel
theorem dX5_meanWaiting_46 : decode cX5_meanWaiting 46 = .ok (.istore_n 1, 1) := by decide +kernel
theorem dX5_meanWaiting_47 : decode cX5_meanWaiting 47 = .ok (.iinc 2 1, 3) := by decide +kernel
theorem dX5_meanWaiting_50 : decode cX5_meanWaiting 50 = .ok (.iinc 3 1, 3) := by decide +kernel
theorem dX5_meanWaiting_53 : decode cX5_meanWaiting 53 = .ok (.goto (-47), 3) := by decide +kernel
theorem dX5_meanWaiting_56 : decode cX5_meanWaiting 56 = .ok (.aload_n 0, 1) := by decide +kernel
theorem dX5_meanWaiting_57 : decode cX5_meanWaiting 57 = .ok (.iload_n 2, 1) := by decide +kernel
theorem dX5_meanWaiting_58 : decode cX5_meanWaiting 58 = .ok (.ifCond .ne 7, 3) := by decide +kernel
theorem dX5_meanWaiting_61 : decode cX5_meanWaiting 61 = .ok (.iconst 1, 1) := by decide +kernel
theorem dX5_meanWaiting_62 : decode cX5_meanWaiting 62 = .ok (.goto 4, 3) := by decide +kernel
theorem dX5_meanWaiting_65 : decode cX5_meanWaiting 65 = .ok (.iconst 0, 1) := by decide +kernel
theorem dX5_meanWaiting_66 : decode cX5_meanWaiting 66 = .ok (.invokevirtual 80, 3) := by decide +kernel
theorem dX5_meanWaiting_69 : decode cX5_meanWaiting 69 = .ok (.ifCond .eq 7, 3) := by decide +kernel
theorem dX5_meanWaiting_72 : decode cX5_meanWaiting 72 = .ok (.dconst 0, 1) := by decide +kernel
theorem dX5_meanWaiting_73 : decode cX5_meanWaiting 73 = .ok (.goto 8, 3) := by decide +kernel
theorem dX5_meanWaiting_76 : decode cX5_meanWaiting 76 = .ok (.iload_n 1, 1) := by decide +kernel
theorem dX5_meanWaiting_77 : decode cX5_meanWaiting 77 = .ok (.i2d, 1) := by decide +kernel
theorem dX5_meanWaiting_78 : decode cX5_meanWaiting 78 = .ok (.iload_n 2, 1) := by decide +kernel
theorem dX5_meanWaiting_79 : decode cX5_meanWaiting 79 = .ok (.i2d, 1) := by decide +kernel
theorem dX5_meanWaiting_80 : decode cX5_meanWaiting 80 = .ok (.ddiv, 1) := by decide +kernel
theorem dX5_meanWaiting_81 : decode cX5_meanWaiting 81 = .ok (.dreturn, 1) := by decide +kernel
