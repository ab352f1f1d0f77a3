theorem dX0_init_0 : decode cX0_init 0 = .ok (.aload_n 0, 1) := by decide +kernel
theorem dX0_init_1 : decode cX0_init 1 = .ok (.invokespecial 3, 3) := by decide +kernel
theorem dX0_init_4 : decode cX0_init 4 = .ok (.aload_n 0, 1) := by decide +kernel
theorem dX0_init_5 : decode cX0_init 5 = .ok (.iload_n 1, 1) := by decide +kernel
theorem dX0_init_6 : decode cX0_init 6 = .ok (.putfield 9, 3) := by decide +kernel
theorem dX0_init_9 : decode cX0_init 9 = .ok (.aload_n 0, 1) := by decide +kernel
theorem dX0_init_10 : decode cX0_init 10 = .ok (.iload_n 2, 1) := by decide +kernel
theorem dX0_init_11 : decode cX0_init 11 = .ok (.putfield 15, 3) := by decide +kernel
theorem dX0_init_14 : decode cX0_init 14 = .ok (.aload_n 0, 1) := by decide +kernel
theorem dX0_init_15 : decode cX0_init 15 = .ok (.iload_n 3, 1) := by decide +kernel
theorem dX0_init_16 : decode cX0_init 16 = .ok (.putfield 18, 3) := by decide +kernel
theorem dX0_init_19 : decode cX0_init 19 = .ok (.aload_n 0, 1) := by decide +kernel
theorem dX0_init_20 : decode cX0_init 20 = .ok (.iload 4, 2) := by decide +kernel
theorem dX0_init_22 : decode cX0_init 22 = .ok (.putfield 22, 3) := by decide +kernel
theorem dX0_init_25 : decode cX0_init 25 = .ok (.aload_n 0, 1) := by decide +kernel
theorem dX0_init_26 : decode cX0_init 26 = .ok (.bipush 98, 2) := by decide +kernel
theorem dX0_init_28 : decode cX0_init 28 = .ok (.putfield 25, 3) := by decide +kernel
theorem dX0_init_31 : decode cX0_init 31 = .ok (.return_, 1) := by decide +kernel
theorem dX0_hasArrived_0 : decode cX0_hasArrived 0 = .ok (.aload_n 0, 1) := by decide +kernel
theorem dX0_hasArrived_1 : decode cX0_hasArrived 1 = .ok (.getfield 25, 3) := by decide +kernel
theorem dX0_hasArrived_4 : decode cX0_hasArrived 4 = .ok (.bipush 98, 2) := by decide +kernel
theorem dX0_hasArrived_6 : decode cX0_hasArrived 6 = .ok (.if_icmp .eq 16, 3) := by decide +kernel
theorem dX0_hasArrived_9 : decode cX0_hasArrived 9 = .ok (.aload_n 0, 1) := by decide +kernel
theorem dX0_hasArrived_10 : decode cX0_hasArrived 10 = .ok (.getfield 25, 3) := by decide +kernel
theorem dX0_hasArrived_13 : decode cX0_hasArrived 13 = .ok (.bipush 110, 2) := by decide +kernel
theorem dX0_hasArrived_15 : decode cX0_hasArrived 15 = .ok (.if_icmp .eq 7, 3) := by decide +kernel
theorem dX0_hasArrived_18 : decode cX0_hasArrived 18 = .ok (.iconst 1, 1) := by decide +kernel
theorem dX0_hasArrived_19 : decode cX0_hasArrived 19 = .ok (.goto 4, 3) := by decide +kernel
theorem dX0_hasArrived_22 : decode cX0_hasArrived 22 = .ok (.iconst 0, 1) := by decide +kernel
theorem dX0_hasArrived_23 : decode cX0_hasArrived 23 = .ok (.ireturn, 1) := by decide +kernel
theorem dX0_doneAt_0 : decode cX0_doneAt 0 = .ok (.aload_n 0, 1) := by decide +kernel
theorem dX0_doneAt_1 : decode cX0_doneAt 1 = .ok (.getfield 28, 3) := by decide +kernel
theorem dX0_doneAt_4 : decode cX0_doneAt 4 = .ok (.aload_n 0, 1) := by decide +kernel
theorem dX0_doneAt_5 : decode cX0_doneAt 5 = .ok (.getfield 22, 3) := by decide +kernel
theorem dX0_doneAt_8 : decode cX0_doneAt 8 = .ok (.iadd, 1) := by decide +kernel
theorem dX0_doneAt_9 : decode cX0_doneAt 9 = .ok (.ireturn, 1) := by decide +kernel
theorem dX1_init_0 : decode cX1_init 0 = .ok (.aload_n 0, 1) := by decide +kernel
theorem dX1_init_1 : decode cX1_init 1 = .ok (.invokespecial 3, 3) := by decide +kernel
theorem dX1_init_4 : decode cX1_init 4 = .ok (.aload_n 0, 1) := by decide +kernel
theorem dX1_init_5 : decode cX1_init 5 = .ok (.iload_n 1, 1) := by decide +kernel
theorem dX1_init_6 : decode cX1_init 6 = .ok (.putfield 9, 3) := by decide +kernel
theorem dX1_init_9 : decode cX1_init 9 = .ok (.return_, 1) := by decide +kernel
theorem dX1_canTake_0 : decode cX1_canTake 0 = .ok (.aload_n 0, 1) := by decide +kernel
theorem dX1_canTake_1 : decode cX1_canTake 1 = .ok (.getfield 15, 3) := by decide +kernel
theorem dX1_canTake_4 : decode cX1_canTake 4 = .ok (.ifCond .ne 27, 3) := by decide +kernel
theorem dX1_canTake_7 : decode cX1_canTake 7 = .ok (.aload_n 0, 1) := by decide +kernel
theorem dX1_canTake_8 : decode cX1_canTake 8 = .ok (.getfield 9, 3) := by decide +kernel
theorem dX1_canTake_11 : decode cX1_canTake 11 = .ok (.bipush 98, 2) := by decide +kernel
theorem dX1_canTake_13 : decode cX1_canTake 13 = .ok (.if_icmp .eq 14, 3) := by decide +kernel
theorem dX1_canTake_16 : decode cX1_canTake 16 = .ok (.aload_n 0, 1) := by decide +kernel
theorem dX1_canTake_17 : decode cX1_canTake 17 = .ok (.getfield 9, 3) := by decide +kernel
theorem dX1_canTake_20 : decode cX1_canTake 20 = .ok (.aload_n 1, 1) := by decide +kernel
theorem dX1_canTake_21 : decode cX1_canTake 21 = .ok (.getfield 19, 3) := by decide +kernel
theorem dX1_canTake_24 : decode cX1_canTake 24 = .ok (.if_icmp .ne 7, 3) := by decide +kernel
theorem dX1_canTake_27 : decode cX1_canTake 27 = .ok (.iconst 1, 1) := by decide +kernel
theorem dX1_canTake_28 : decode cX1_canTake 28 = .ok (.goto 4, 3) := by decide +kernel
theorem dX1_canTake_31 : decode cX1_canTake 31 = .ok (.iconst 0, 1) := by decide +kernel
theorem dX1_canTake_32 : decode cX1_canTake 32 = .ok (.ireturn, 1) := by decide +kernel
theorem dX2_init_0 : decode cX2_init 0 = .ok (.aload_n 0, 1) := by decide +kernel
theorem dX2_init_1 : decode cX2_init 1 = .ok (.invokespecial 3, 3) := by decide +kernel
theorem dX2_init_4 : decode cX2_init 4 = .ok (.aload_n 0, 1) := by decide +kernel
theorem dX2_init_5 : decode cX2_init 5 = .ok (.iload_n 1, 1) := by decide +kernel
theorem dX2_init_6 : decode cX2_init 6 = .ok (.putfield 9, 3) := by decide +kernel
theorem dX2_init_9 : decode cX2_init 9 = .ok (.aload_n 0, 1) := by decide +kernel
theorem dX2_init_10 : decode cX2_init 10 = .ok (.iload_n 2, 1) := by decide +kernel
theorem dX2_init_11 : decode cX2_init 11 = .ok (.putfield 15, 3) := by decide +kernel
theorem dX2_init_14 : decode cX2_init 14 = .ok (.aload_n 0, 1) := by decide +kernel
theorem dX2_init_15 : decode cX2_init 15 = .ok (.iload_n 3, 1) := by decide +kernel
theorem dX2_init_16 : decode cX2_init 16 = .ok (.putfield 18, 3) := by decide +kernel
theorem dX2_init_19 : decode cX2_init 19 = .ok (.aload_n 0, 1) := by decide +kernel
theorem dX2_init_20 : decode cX2_init 20 = .ok (.iconst 3, 1) := by decide +kernel
theorem dX2_init_21 : decode cX2_init 21 = .ok (.anewarray 22, 3) := by decide +kernel
theorem dX2_init_24 : decode cX2_init 24 = .ok (.putfield 24, 3) := by decide +kernel
theorem dX2_init_27 : decode cX2_init 27 = .ok (.return_, 1) := by decide +kernel
theorem dX2_canTake_0 : decode cX2_canTake 0 = .ok (.aload_n 0, 1) := by decide +kernel
theorem dX2_canTake_1 : decode cX2_canTake 1 = .ok (.getfield 28, 3) := by decide +kernel
theorem dX2_canTake_4 : decode cX2_canTake 4 = .ok (.aload_n 0, 1) := by decide +kernel
theorem dX2_canTake_5 : decode cX2_canTake 5 = .ok (.getfield 15, 3) := by decide +kernel
theorem dX2_canTake_8 : decode cX2_canTake 8 = .ok (.if_icmp .ge 23, 3) := by decide +kernel
theorem dX2_canTake_11 : decode cX2_canTake 11 = .ok (.aload_n 0, 1) := by decide +kernel
theorem dX2_canTake_12 : decode cX2_canTake 12 = .ok (.getfield 18, 3) := by decide +kernel
theorem dX2_canTake_15 : decode cX2_canTake 15 = .ok (.ifCond .ne 12, 3) := by decide +kernel
theorem dX2_canTake_18 : decode cX2_canTake 18 = .ok (.aload_n 1, 1) := by decide +kernel
theorem dX2_canTake_19 : decode cX2_canTake 19 = .ok (.getfield 31, 3) := by decide +kernel
theorem dX2_canTake_22 : decode cX2_canTake 22 = .ok (.bipush 99, 2) := by decide +kernel
theorem dX2_canTake_24 : decode cX2_canTake 24 = .ok (.if_icmp .eq 7, 3) := by decide +kernel
theorem dX2_canTake_27 : decode cX2_canTake 27 = .ok (.iconst 1, 1) := by decide +kernel
theorem dX2_canTake_28 : decode cX2_canTake 28 = .ok (.goto 4, 3) := by decide +kernel
theorem dX2_canTake_31 : decode cX2_canTake 31 = .ok (.iconst 0, 1) := by decide +kernel
theorem dX2_canTake_32 : decode cX2_canTake 32 = .ok (.ireturn, 1) := by decide +kernel
theorem dX2_bringIn_0 : decode cX2_bringIn 0 = .ok (.aload_n 0, 1) := by decide +kernel
theorem dX2_bringIn_1 : decode cX2_bringIn 1 = .ok (.getfield 28, 3) := by decide +kernel
theorem dX2_bringIn_4 : decode cX2_bringIn 4 = .ok (.ifCond .lt 48, 3) := by decide +kernel
theorem dX2_bringIn_7 : decode cX2_bringIn 7 = .ok (.aload_n 0, 1) := by decide +kernel
theorem dX2_bringIn_8 : decode cX2_bringIn 8 = .ok (.getfield 28, 3) := by decide +kernel
theorem dX2_bringIn_11 : decode cX2_bringIn 11 = .ok (.aload_n 0, 1) := by decide +kernel
theorem dX2_bringIn_12 : decode cX2_bringIn 12 = .ok (.getfield 24, 3) := by decide +kernel
theorem dX2_bringIn_15 : decode cX2_bringIn 15 = .ok (.arraylength, 1) := by decide +kernel
theorem dX2_bringIn_16 : decode cX2_bringIn 16 = .ok (.if_icmp .ge 36, 3) := by decide +kernel
theorem dX2_bringIn_19 : decode cX2_bringIn 19 = .ok (.aload_n 0, 1) := by decide +kernel
theorem dX2_bringIn_20 : decode cX2_bringIn 20 = .ok (.getfield 24, 3) := by decide +kernel
theorem dX2_bringIn_23 : decode cX2_bringIn 23 = .ok (.aload_n 0, 1) := by decide +kernel
theorem dX2_bringIn_24 : decode cX2_bringIn 24 = .ok (.getfield 28, 3) := by decide +kernel
theorem dX2_bringIn_27 : decode cX2_bringIn 27 = .ok (.aload_n 1, 1) := by decide +kernel
theorem dX2_bringIn_28 : decode cX2_bringIn 28 = .ok (.aastore, 1) := by decide +kernel
theorem dX2_bringIn_29 : decode cX2_bringIn 29 = .ok (.aload_n 1, 1) := by decide +kernel
theorem dX2_bringIn_30 : decode cX2_bringIn 30 = .ok (.aload_n 0, 1) := by decide +kernel
theorem dX2_bringIn_31 : decode cX2_bringIn 31 = .ok (.putfield 35, 3) := by decide +kernel
theorem dX2_bringIn_34 : decode cX2_bringIn 34 = .ok (.aload_n 1, 1) := by decide +kernel
theorem dX2_bringIn_35 : decode cX2_bringIn 35 = .ok (.aload_n 0, 1) := by decide +kernel
theorem dX2_bringIn_36 : decode cX2_bringIn 36 = .ok (.getfield 28, 3) := by decide +kernel
theorem dX2_bringIn_39 : decode cX2_bringIn 39 = .ok (.putfield 39, 3) := by decide +kernel
theorem dX2_bringIn_42 : decode cX2_bringIn 42 = .ok (.aload_n 0, 1) := by decide +kernel
theorem dX2_bringIn_43 : decode cX2_bringIn 43 = .ok (.dup, 1) := by decide +kernel
theorem dX2_bringIn_44 : decode cX2_bringIn 44 = .ok (.getfield 28, 3) := by decide +kernel
theorem dX2_bringIn_47 : decode cX2_bringIn 47 = .ok (.iconst 1, 1) := by decide +kernel
theorem dX2_bringIn_48 : decode cX2_bringIn 48 = .ok (.iadd, 1) := by decide +kernel
theorem dX2_bringIn_49 : decode cX2_bringIn 49 = .ok (.putfield 28, 3) := by decide +kernel
theorem dX2_bringIn_52 : decode cX2_bringIn 52 = .ok (.return_, 1) := by decide +kernel
set_option maxRecDepth 20000 in
theorem ggX2_takeOut_X2_fromExit : GoodIn wsX2_takeOut wsX2_fromExit := goodIn_r _ [7, 1, 8, 9, 10, 11, 12, 13] (by decide +kernel) (by decide +kernel)
set_option maxRecDepth 20000 in
theorem gX2_takeOut_X2_fromExit : GoodIn wsX2_takeOut (wsV RX2 42 RX2 yX2_fromExit wsX2_fromExit) := goodIn_app (goodIn_of _ (by decide +kernel)) ggX2_takeOut_X2_fromExit
theorem dX2_takeOut_0 : decode cX2_takeOut 0 = .ok (.aload_n 0, 1) := by decide +kernel
theorem dX2_takeOut_1 : decode cX2_takeOut 1 = .ok (.iconst 0, 1) := by decide +kernel
theorem dX2_takeOut_2 : decode cX2_takeOut 2 = .ok (.invokevirtual 42, 3) := by decide +kernel
theorem dX2_takeOut_5 : decode cX2_takeOut 5 = .ok (.astore_n 1, 1) := by decide +kernel
theorem dX2_takeOut_6 : decode cX2_takeOut 6 = .ok (.aload_n 1, 1) := by decide +kernel
theorem dX2_takeOut_7 : decode cX2_takeOut 7 = .ok (.ifnull 18, 3) := by decide +kernel
theorem dX2_takeOut_10 : decode cX2_takeOut 10 = .ok (.aload_n 0, 1) := by decide +kernel
theorem dX2_takeOut_11 : decode cX2_takeOut 11 = .ok (.dup, 1) := by decide +kernel
theorem dX2_takeOut_12 : decode cX2_takeOut 12 = .ok (.getfield 28, 3) := by decide +kernel
theorem dX2_takeOut_15 : decode cX2_takeOut 15 = .ok (.iconst 1, 1) := by decide +kernel
theorem dX2_takeOut_16 : decode cX2_takeOut 16 = .ok (.isub, 1) := by decide +kernel
theorem dX2_takeOut_17 : decode cX2_takeOut 17 = .ok (.putfield 28, 3) := by decide +kernel
theorem dX2_takeOut_20 : decode cX2_takeOut 20 = .ok (.aload_n 1, 1) := by decide +kernel
theorem dX2_takeOut_21 : decode cX2_takeOut 21 = .ok (.aconst_null, 1) := by decide +kernel
theorem dX2_takeOut_22 : decode cX2_takeOut 22 = .ok (.putfield 35, 3) := by decide +kernel
theorem dX2_takeOut_25 : decode cX2_takeOut 25 = .ok (.aload_n 1, 1) := by decide +kernel
theorem dX2_takeOut_26 : decode cX2_takeOut 26 = .ok (.areturn, 1) := by decide +kernel
theorem dX2_fromExit_0 : decode cX2_fromExit 0 = .ok (.iload_n 1, 1) := by decide +kernel
theorem dX2_fromExit_1 : decode cX2_fromExit 1 = .ok (.ifCond .lt 23, 3) := by decide +kernel
theorem dX2_fromExit_4 : decode cX2_fromExit 4 = .ok (.iload_n 1, 1) := by decide +kernel
theorem dX2_fromExit_5 : decode cX2_fromExit 5 = .ok (.aload_n 0, 1) := by decide +kernel
theorem dX2_fromExit_6 : decode cX2_fromExit 6 = .ok (.getfield 28, 3) := by decide +kernel
theorem dX2_fromExit_9 : decode cX2_fromExit 9 = .ok (.if_icmp .ge 15, 3) := by decide +kernel
theorem dX2_fromExit_12 : decode cX2_fromExit 12 = .ok (.aload_n 0, 1) := by decide +kernel
theorem dX2_fromExit_13 : decode cX2_fromExit 13 = .ok (.getfield 28, 3) := by decide +kernel
theorem dX2_fromExit_16 : decode cX2_fromExit 16 = .ok (.aload_n 0, 1) := by decide +kernel
theorem dX2_fromExit_17 : decode cX2_fromExit 17 = .ok (.getfield 24, 3) := by decide +kernel
theorem dX2_fromExit_20 : decode cX2_fromExit 20 = .ok (.arraylength, 1) := by decide +kernel
theorem dX2_fromExit_21 : decode cX2_fromExit 21 = .ok (.if_icmp .le 5, 3) := by decide +kernel
theorem dX2_fromExit_24 : decode cX2_fromExit 24 = .ok (.aconst_null, 1) := by decide +kernel
theorem dX2_fromExit_25 : decode cX2_fromExit 25 = .ok (.areturn, 1) := by decide +kernel
theorem dX2_fromExit_26 : decode cX2_fromExit 26 = .ok (.aload_n 0, 1) := by decide +kernel
theorem dX2_fromExit_27 : decode cX2_fromExit 27 = .ok (.getfield 24, 3) := by decide +kernel
theorem dX2_fromExit_30 : decode cX2_fromExit 30 = .ok (.aload_n 0, 1) := by decide +kernel
theorem dX2_fromExit_31 : decode cX2_fromExit 31 = .ok (.getfield 28, 3) := by decide +kernel
theorem dX2_fromExit_34 : decode cX2_fromExit 34 = .ok (.iconst 1, 1) := by decide +kernel
theorem dX2_fromExit_35 : decode cX2_fromExit 35 = .ok (.isub, 1) := by decide +kernel
theorem dX2_fromExit_36 : decode cX2_fromExit 36 = .ok (.iload_n 1, 1) := by decide +kernel
theorem dX2_fromExit_37 : decode cX2_fromExit 37 = .ok (.isub, 1) := by decide +kernel
theorem dX2_fromExit_38 : decode cX2_fromExit 38 = .ok (.aaload, 1) := by decide +kernel
theorem dX2_fromExit_39 : decode cX2_fromExit 39 = .ok (.areturn, 1) := by decide +kernel
theorem dX2_countBefore_0 : decode cX2_countBefore 0 = .ok (.aload_n 0, 1) := by decide +kernel
theorem dX2_countBefore_1 : decode cX2_countBefore 1 = .ok (.getfield 28, 3) := by decide +kernel
theorem dX2_countBefore_4 : decode cX2_countBefore 4 = .ok (.iconst 1, 1) := by decide +kernel
theorem dX2_countBefore_5 : decode cX2_countBefore 5 = .ok (.isub, 1) := by decide +kernel
theorem dX2_countBefore_6 : decode cX2_countBefore 6 = .ok (.aload_n 1, 1) := by decide +kernel
theorem dX2_countBefore_7 : decode cX2_countBefore 7 = .ok (.getfield 39, 3) := by decide +kernel
theorem dX2_countBefore_10 : decode cX2_countBefore 10 = .ok (.isub, 1) := by decide +kernel
theorem dX2_countBefore_11 : decode cX2_countBefore 11 = .ok (.ireturn, 1) := by decide +kernel
theorem dX3_init_0 : decode cX3_init 0 = .ok (.aload_n 0, 1) := by decide +kernel
theorem dX3_init_1 : decode cX3_init 1 = .ok (.invokespecial 3, 3) := by decide +kernel
theorem dX3_init_4 : decode cX3_init 4 = .ok (.aload_n 0, 1) := by decide +kernel
theorem dX3_init_5 : decode cX3_init 5 = .ok (.iconst 4, 1) := by decide +kernel
theorem dX3_init_6 : decode cX3_init 6 = .ok (.anewarray 9, 3) := by decide +kernel
theorem dX3_init_9 : decode cX3_init 9 = .ok (.putfield 11, 3) := by decide +kernel
theorem dX3_init_12 : decode cX3_init 12 = .ok (.return_, 1) := by decide +kernel
set_option maxRecDepth 20000 in
theorem ggX3_append_X2_init : GoodIn wsX3_append wsX2_init := goodIn_r _ [8, 9, 10, 11, 12, 13, 14, 15, 16, 19, 20, 21, 22, 23] (by decide +kernel) (by decide +kernel)
set_option maxRecDepth 20000 in
theorem gX3_append_X2_init : GoodIn wsX3_append (wsX2_init) := ggX3_append_X2_init
theorem dX3_append_0 : decode cX3_append 0 = .ok (.aload_n 0, 1) := by decide +kernel
theorem dX3_append_1 : decode cX3_append 1 = .ok (.getfield 17, 3) := by decide +kernel
theorem dX3_append_4 : decode cX3_append 4 = .ok (.istore_n 3, 1) := by decide +kernel
theorem dX3_append_5 : decode cX3_append 5 = .ok (.iload_n 3, 1) := by decide +kernel
theorem dX3_append_6 : decode cX3_append 6 = .ok (.ifCond .lt 38, 3) := by decide +kernel
theorem dX3_append_9 : decode cX3_append 9 = .ok (.iload_n 3, 1) := by decide +kernel
theorem dX3_append_10 : decode cX3_append 10 = .ok (.aload_n 0, 1) := by decide +kernel
theorem dX3_append_11 : decode cX3_append 11 = .ok (.getfield 11, 3) := by decide +kernel
theorem dX3_append_14 : decode cX3_append 14 = .ok (.arraylength, 1) := by decide +kernel
theorem dX3_append_15 : decode cX3_append 15 = .ok (.if_icmp .ge 29, 3) := by decide +kernel
theorem dX3_append_18 : decode cX3_append 18 = .ok (.aload_n 0, 1) := by decide +kernel
theorem dX3_append_19 : decode cX3_append 19 = .ok (.getfield 11, 3) := by decide +kernel
theorem dX3_append_22 : decode cX3_append 22 = .ok (.iload_n 3, 1) := by decide +kernel
theorem dX3_append_23 : decode cX3_append 23 = .ok (.new 9, 3) := by decide +kernel
theorem dX3_append_26 : decode cX3_append 26 = .ok (.dup, 1) := by decide +kernel
theorem dX3_append_27 : decode cX3_append 27 = .ok (.iload_n 3, 1) := by decide +kernel
theorem dX3_append_28 : decode cX3_append 28 = .ok (.iload_n 1, 1) := by decide +kernel
theorem dX3_append_29 : decode cX3_append 29 = .ok (.iload_n 2, 1) := by decide +kernel
theorem dX3_append_30 : decode cX3_append 30 = .ok (.invokespecial 21, 3) := by decide +kernel
theorem dX3_append_33 : decode cX3_append 33 = .ok (.aastore, 1) := by decide +kernel
theorem dX3_append_34 : decode cX3_append 34 = .ok (.aload_n 0, 1) := by decide +kernel
theorem dX3_append_35 : decode cX3_append 35 = .ok (.dup, 1) := by decide +kernel
theorem dX3_append_36 : decode cX3_append 36 = .ok (.getfield 17, 3) := by decide +kernel
theorem dX3_append_39 : decode cX3_append 39 = .ok (.iconst 1, 1) := by decide +kernel
theorem dX3_append_40 : decode cX3_append 40 = .ok (.iadd, 1) := by decide +kernel
theorem dX3_append_41 : decode cX3_append 41 = .ok (.putfield 17, 3) := by decide +kernel
theorem dX3_append_44 : decode cX3_append 44 = .ok (.iload_n 3, 1) := by decide +kernel
theorem dX3_append_45 : decode cX3_append 45 = .ok (.ireturn, 1) := by decide +kernel
theorem dX3_laneAt_0 : decode cX3_laneAt 0 = .ok (.iload_n 1, 1) := by decide +kernel
theorem dX3_laneAt_1 : decode cX3_laneAt 1 = .ok (.ifCond .lt 20, 3) := by decide +kernel
theorem dX3_laneAt_4 : decode cX3_laneAt 4 = .ok (.iload_n 1, 1) := by decide +kernel
theorem dX3_laneAt_5 : decode cX3_laneAt 5 = .ok (.aload_n 0, 1) := by decide +kernel
theorem dX3_laneAt_6 : decode cX3_laneAt 6 = .ok (.getfield 17, 3) := by decide +kernel
theorem dX3_laneAt_9 : decode cX3_laneAt 9 = .ok (.if_icmp .ge 12, 3) := by decide +kernel
theorem dX3_laneAt_12 : decode cX3_laneAt 12 = .ok (.iload_n 1, 1) := by decide +kernel
theorem dX3_laneAt_13 : decode cX3_laneAt 13 = .ok (.aload_n 0, 1) := by decide +kernel
theorem dX3_laneAt_14 : decode cX3_laneAt 14 = .ok (.getfield 11, 3) := by decide +kernel
theorem dX3_laneAt_17 : decode cX3_laneAt 17 = .ok (.arraylength, 1) := by decide +kernel
theorem dX3_laneAt_18 : decode cX3_laneAt 18 = .ok (.if_icmp .lt 5, 3) := by decide +kernel
theorem dX3_laneAt_21 : decode cX3_laneAt 21 = .ok (.aconst_null, 1) := by decide +kernel
theorem dX3_laneAt_22 : decode cX3_laneAt 22 = .ok (.areturn, 1) := by decide +kernel
theorem dX3_laneAt_23 : decode cX3_laneAt 23 = .ok (.aload_n 0, 1) := by decide +kernel
theorem dX3_laneAt_24 : decode cX3_laneAt 24 = .ok (.getfield 11, 3) := by decide +kernel
theorem dX3_laneAt_27 : decode cX3_laneAt 27 = .ok (.iload_n 1, 1) := by decide +kernel
theorem dX3_laneAt_28 : decode cX3_laneAt 28 = .ok (.aaload, 1) := by decide +kernel
theorem dX3_laneAt_29 : decode cX3_laneAt 29 = .ok (.areturn, 1) := by decide +kernel
set_option maxRecDepth 20000 in
theorem ggX3_trailerCount_X3_laneAt : GoodIn wsX3_trailerCount wsX3_laneAt := goodIn_r _ [7, 1, 8, 9, 10] (by decide +kernel) (by decide +kernel)
set_option maxRecDepth 20000 in
theorem gX3_trailerCount_X3_laneAt : GoodIn wsX3_trailerCount (wsV RX3 24 RX3 yX3_laneAt wsX3_laneAt) := goodIn_app (goodIn_of _ (by decide +kernel)) ggX3_trailerCount_X3_laneAt
theorem dX3_trailerCount_0 : decode cX3_trailerCount 0 = .ok (.iconst 0, 1) := by decide +kernel
theorem dX3_trailerCount_1 : decode cX3_trailerCount 1 = .ok (.istore_n 1, 1) := by decide +kernel
theorem dX3_trailerCount_2 : decode cX3_trailerCount 2 = .ok (.iconst 0, 1) := by decide +kernel
theorem dX3_trailerCount_3 : decode cX3_trailerCount 3 = .ok (.istore_n 2, 1) := by decide +kernel
theorem dX3_trailerCount_4 : decode cX3_trailerCount 4 = .ok (.iload_n 2, 1) := by decide +kernel
theorem dX3_trailerCount_5 : decode cX3_trailerCount 5 = .ok (.aload_n 0, 1) := by decide +kernel
theorem dX3_trailerCount_6 : decode cX3_trailerCount 6 = .ok (.getfield 17, 3) := by decide +kernel
theorem dX3_trailerCount_9 : decode cX3_trailerCount 9 = .ok (.if_icmp .ge 26, 3) := by decide +kernel
theorem dX3_trailerCount_12 : decode cX3_trailerCount 12 = .ok (.aload_n 0, 1) := by decide +kernel
theorem dX3_trailerCount_13 : decode cX3_trailerCount 13 = .ok (.iload_n 2, 1) := by decide +kernel
theorem dX3_trailerCount_14 : decode cX3_trailerCount 14 = .ok (.invokevirtual 24, 3) := by decide +kernel
theorem dX3_trailerCount_17 : decode cX3_trailerCount 17 = .ok (.astore_n 3, 1) := by decide +kernel
theorem dX3_trailerCount_18 : decode cX3_trailerCount 18 = .ok (.aload_n 3, 1) := by decide +kernel
theorem dX3_trailerCount_19 : decode cX3_trailerCount 19 = .ok (.ifnull 10, 3) := by decide +kernel
theorem dX3_trailerCount_22 : decode cX3_trailerCount 22 = .ok (.iload_n 1, 1) := by decide +kernel
theorem dX3_trailerCount_23 : decode cX3_trailerCount 23 = .ok (.aload_n 3, 1) := by decide +kernel
theorem dX3_trailerCount_24 : decode cX3_trailerCount 24 = .ok (.getfield 28, 3) := by decide +kernel
theorem dX3_trailerCount_27 : decode cX3_trailerCount 27 = .ok (.iadd, 1) := by decide +kernel
theorem dX3_trailerCount_28 : decode cX3_trailerCount 28 = .ok (.istore_n 1, 1) := by decide +kernel
theorem dX3_trailerCount_29 : decode cX3_trailerCount 29 = .ok (.iinc 2 1, 3) := by decide +kernel
theorem dX3_trailerCount_32 : decode cX3_trailerCount 32 = .ok (.goto (-28), 3) := by decide +kernel
theorem dX3_trailerCount_35 : decode cX3_trailerCount 35 = .ok (.iload_n 1, 1) := by decide +kernel
theorem dX3_trailerCount_36 : decode cX3_trailerCount 36 = .ok (.ireturn, 1) := by decide +kernel
set_option maxRecDepth 20000 in
theorem ggX3_allowMove_X3_laneAt : GoodIn wsX3_allowMove wsX3_laneAt := goodIn_r _ [5, 6, 7, 22, 23] (by decide +kernel) (by decide +kernel)
set_option maxRecDepth 20000 in
theorem gX3_allowMove_X3_laneAt : GoodIn wsX3_allowMove (wsV RX3 24 RX3 yX3_laneAt wsX3_laneAt) := goodIn_app (goodIn_of _ (by decide +kernel)) ggX3_allowMove_X3_laneAt
set_option maxRecDepth 20000 in
theorem ggX3_allowMove_X2_fromExit : GoodIn wsX3_allowMove wsX2_fromExit := goodIn_r _ [12, 13, 14, 24, 25, 26, 27, 28] (by decide +kernel) (by decide +kernel)
set_option maxRecDepth 20000 in
theorem gX3_allowMove_X2_fromExit : GoodIn wsX3_allowMove (wsV RX3 29 RX2 yX2_fromExit wsX2_fromExit) := goodIn_app (goodIn_of _ (by decide +kernel)) ggX3_allowMove_X2_fromExit
set_option maxRecDepth 20000 in
theorem ggX3_allowMove_X2_canTake : GoodIn wsX3_allowMove wsX2_canTake := goodIn_r _ [18, 13, 19, 20, 21, 24, 25, 26, 27, 28, 29, 30, 31, 32, 33, 34, 35, 36, 37, 38] (by decide +kernel) (by decide +kernel)
set_option maxRecDepth 20000 in
theorem gX3_allowMove_X2_canTake : GoodIn wsX3_allowMove (wsV RX3 33 RX2 yX2_canTake wsX2_canTake) := goodIn_app (goodIn_of _ (by decide +kernel)) ggX3_allowMove_X2_canTake
theorem dX3_allowMove_0 : decode cX3_allowMove 0 = .ok (.aload_n 0, 1) := by decide +kernel
theorem dX3_allowMove_1 : decode cX3_allowMove 1 = .ok (.iload_n 1, 1) := by decide +kernel
theorem dX3_allowMove_2 : decode cX3_allowMove 2 = .ok (.invokevirtual 24, 3) := by decide +kernel
theorem dX3_allowMove_5 : decode cX3_allowMove 5 = .ok (.astore_n 3, 1) := by decide +kernel
theorem dX3_allowMove_6 : decode cX3_allowMove 6 = .ok (.aload_n 0, 1) := by decide +kernel
theorem dX3_allowMove_7 : decode cX3_allowMove 7 = .ok (.iload_n 2, 1) := by decide +kernel
theorem dX3_allowMove_8 : decode cX3_allowMove 8 = .ok (.invokevirtual 24, 3) := by decide +kernel
theorem dX3_allowMove_11 : decode cX3_allowMove 11 = .ok (.astore 4, 2) := by decide +kernel
theorem dX3_allowMove_13 : decode cX3_allowMove 13 = .ok (.iload_n 1, 1) := by decide +kernel
theorem dX3_allowMove_14 : decode cX3_allowMove 14 = .ok (.iload_n 2, 1) := by decide +kernel
theorem dX3_allowMove_15 : decode cX3_allowMove 15 = .ok (.if_icmp .eq 12, 3) := by decide +kernel
theorem dX3_allowMove_18 : decode cX3_allowMove 18 = .ok (.aload_n 3, 1) := by decide +kernel
theorem dX3_allowMove_19 : decode cX3_allowMove 19 = .ok (.ifnull 8, 3) := by decide +kernel
theorem dX3_allowMove_22 : decode cX3_allowMove 22 = .ok (.aload 4, 2) := by decide +kernel
theorem dX3_allowMove_24 : decode cX3_allowMove 24 = .ok (.ifnonnull 5, 3) := by decide +kernel
theorem dX3_allowMove_27 : decode cX3_allowMove 27 = .ok (.iconst 0, 1) := by decide +kernel
theorem dX3_allowMove_28 : decode cX3_allowMove 28 = .ok (.ireturn, 1) := by decide +kernel
theorem dX3_allowMove_29 : decode cX3_allowMove 29 = .ok (.aload_n 3, 1) := by decide +kernel
theorem dX3_allowMove_30 : decode cX3_allowMove 30 = .ok (.iconst 0, 1) := by decide +kernel
theorem dX3_allowMove_31 : decode cX3_allowMove 31 = .ok (.invokevirtual 29, 3) := by decide +kernel
theorem dX3_allowMove_34 : decode cX3_allowMove 34 = .ok (.astore 5, 2) := by decide +kernel
theorem dX3_allowMove_36 : decode cX3_allowMove 36 = .ok (.aload 5, 2) := by decide +kernel
theorem dX3_allowMove_38 : decode cX3_allowMove 38 = .ok (.ifnull 17, 3) := by decide +kernel
theorem dX3_allowMove_41 : decode cX3_allowMove 41 = .ok (.aload 4, 2) := by decide +kernel
theorem dX3_allowMove_43 : decode cX3_allowMove 43 = .ok (.aload 5, 2) := by decide +kernel
theorem dX3_allowMove_45 : decode cX3_allowMove 45 = .ok (.invokevirtual 33, 3) := by decide +kernel
theorem dX3_allowMove_48 : decode cX3_allowMove 48 = .ok (.ifCond .eq 7, 3) := by decide +kernel
theorem dX3_allowMove_51 : decode cX3_allowMove 51 = .ok (.iconst 1, 1) := by decide +kernel
theorem dX3_allowMove_52 : decode cX3_allowMove 52 = .ok (.goto 4, 3) := by decide +kernel
theorem dX3_allowMove_55 : decode cX3_allowMove 55 = .ok (.iconst 0, 1) := by decide +kernel
theorem dX3_allowMove_56 : decode cX3_allowMove 56 = .ok (.ireturn, 1) := by decide +kernel
set_option maxRecDepth 20000 in
theorem ggX3_moveNearest_X3_laneAt : GoodIn wsX3_moveNearest wsX3_laneAt := goodIn_r _ [5, 6, 7, 25, 26] (by decide +kernel) (by decide +kernel)
set_option maxRecDepth 20000 in
theorem gX3_moveNearest_X3_laneAt : GoodIn wsX3_moveNearest (wsV RX3 24 RX3 yX3_laneAt wsX3_laneAt) := goodIn_app (goodIn_of _ (by decide +kernel)) ggX3_moveNearest_X3_laneAt
set_option maxRecDepth 20000 in
theorem ggX3_moveNearest_X2_takeOut : GoodIn wsX3_moveNearest wsX2_takeOut := goodIn_r _ [12, 13, 14, 15, 16, 17, 11, 18, 19, 27, 28, 29, 30, 31, 32, 33, 34, 35, 36, 37, 38, 39, 40, 41] (by decide +kernel) (by decide +kernel)
set_option maxRecDepth 20000 in
theorem gX3_moveNearest_X2_takeOut : GoodIn wsX3_moveNearest (wsV RX3 37 RX2 yX2_takeOut wsX2_takeOut) := goodIn_app (goodIn_of _ (by decide +kernel)) ggX3_moveNearest_X2_takeOut
set_option maxRecDepth 20000 in
theorem ggX3_moveNearest_X2_bringIn : GoodIn wsX3_moveNearest wsX2_bringIn := goodIn_r _ [23, 13, 19, 14, 24, 27, 28, 29, 30, 31, 32, 33, 34, 35, 36, 37, 38, 39, 40, 41] (by decide +kernel) (by decide +kernel)
set_option maxRecDepth 20000 in
theorem gX3_moveNearest_X2_bringIn : GoodIn wsX3_moveNearest (wsV RX3 41 RX2 yX2_bringIn wsX2_bringIn) := goodIn_app (goodIn_of _ (by decide +kernel)) ggX3_moveNearest_X2_bringIn
theorem dX3_moveNearest_0 : decode cX3_moveNearest 0 = .ok (.aload_n 0, 1) := by decide +kernel
theorem dX3_moveNearest_1 : decode cX3_moveNearest 1 = .ok (.iload_n 1, 1) := by decide +kernel
theorem dX3_moveNearest_2 : decode cX3_moveNearest 2 = .ok (.invokevirtual 24, 3) := by decide +kernel
theorem dX3_moveNearest_5 : decode cX3_moveNearest 5 = .ok (.astore_n 3, 1) := by decide +kernel
theorem dX3_moveNearest_6 : decode cX3_moveNearest 6 = .ok (.aload_n 0, 1) := by decide +kernel
theorem dX3_moveNearest_7 : decode cX3_moveNearest 7 = .ok (.iload_n 2, 1) := by decide +kernel
theorem dX3_moveNearest_8 : decode cX3_moveNearest 8 = .ok (.invokevirtual 24, 3) := by decide +kernel
theorem dX3_moveNearest_11 : decode cX3_moveNearest 11 = .ok (.astore 4, 2) := by decide +kernel
theorem dX3_moveNearest_13 : decode cX3_moveNearest 13 = .ok (.aload_n 3, 1) := by decide +kernel
theorem dX3_moveNearest_14 : decode cX3_moveNearest 14 = .ok (.ifnull 26, 3) := by decide +kernel
theorem dX3_moveNearest_17 : decode cX3_moveNearest 17 = .ok (.aload 4, 2) := by decide +kernel
theorem dX3_moveNearest_19 : decode cX3_moveNearest 19 = .ok (.ifnull 21, 3) := by decide +kernel
theorem dX3_moveNearest_22 : decode cX3_moveNearest 22 = .ok (.aload_n 3, 1) := by decide +kernel
theorem dX3_moveNearest_23 : decode cX3_moveNearest 23 = .ok (.invokevirtual 37, 3) := by decide +kernel
theorem dX3_moveNearest_26 : decode cX3_moveNearest 26 = .ok (.astore 5, 2) := by decide +kernel
theorem dX3_moveNearest_28 : decode cX3_moveNearest 28 = .ok (.aload 5, 2) := by decide +kernel
theorem dX3_moveNearest_30 : decode cX3_moveNearest 30 = .ok (.ifnull 10, 3) := by decide +kernel
theorem dX3_moveNearest_33 : decode cX3_moveNearest 33 = .ok (.aload 4, 2) := by decide +kernel
theorem dX3_moveNearest_35 : decode cX3_moveNearest 35 = .ok (.aload 5, 2) := by decide +kernel
theorem dX3_moveNearest_37 : decode cX3_moveNearest 37 = .ok (.invokevirtual 41, 3) := by decide +kernel
theorem dX3_moveNearest_40 : decode cX3_moveNearest 40 = .ok (.return_, 1) := by decide +kernel
theorem dJx00060_init_a7421_0 : decode cJx00060_init_a7421 0 = .ok (.aload_n 0, 1) := by decide +kernel
theorem dJx00060_init_a7421_1 : decode cJx00060_init_a7421 1 = .ok (.aload_n 1, 1) := by decide +kernel
theorem dJx00060_init_a7421_2 : decode cJx00060_init_a7421 2 = .ok (.invokespecial 7, 3) := by decide +kernel
theorem dJx00060_init_a7421_5 : decode cJx00060_init_a7421 5 = .ok (.return_, 1) := by decide +kernel
theorem dJ9_max_7cf53_0 : decode cJ9_max_7cf53 0 = .ok (.iload_n 0, 1) := by decide +kernel
theorem dJ9_max_7cf53_1 : decode cJ9_max_7cf53 1 = .ok (.iload_n 1, 1) := by decide +kernel
theorem dJ9_max_7cf53_2 : decode cJ9_max_7cf53 2 = .ok (.if_icmp .lt 7, 3) := by decide +kernel
theorem dJ9_max_7cf53_5 : decode cJ9_max_7cf53 5 = .ok (.iload_n 0, 1) := by decide +kernel
theorem dJ9_max_7cf53_6 : decode cJ9_max_7cf53 6 = .ok (.goto 4, 3) := by decide +kernel
theorem dJ9_max_7cf53_9 : decode cJ9_max_7cf53 9 = .ok (.iload_n 1, 1) := by decide +kernel
theorem dJ9_max_7cf53_10 : decode cJ9_max_7cf53 10 = .ok (.ireturn, 1) := by decide +kernel
theorem dJ9_min_7cf53_0 : decode cJ9_min_7cf53 0 = .ok (.iload_n 0, 1) := by decide +kernel
theorem dJ9_min_7cf53_1 : decode cJ9_min_7cf53 1 = .ok (.iload_n 1, 1) := by decide +kernel
theorem dJ9_min_7cf53_2 : decode cJ9_min_7cf53 2 = .ok (.if_icmp .gt 7, 3) := by decide +kernel
theorem dJ9_min_7cf53_5 : decode cJ9_min_7cf53 5 = .ok (.iload_n 0, 1) := by decide +kernel
theorem dJ9_min_7cf53_6 : decode cJ9_min_7cf53 6 = .ok (.goto 4, 3) := by decide +kernel
theorem dJ9_min_7cf53_9 : decode cJ9_min_7cf53 9 = .ok (.iload_n 1, 1) := by decide +kernel
theorem dJ9_min_7cf53_10 : decode cJ9_min_7cf53 10 = .ok (.ireturn, 1) := by decide +kernel
