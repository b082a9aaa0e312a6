theorem dX0_init_0 : decode cX0_init 0 = .ok (.aload_n 0, 1) := by decide +kernel
theorem dX0_init_1 : decode cX0_init 1 = .ok (.invokespecial 5, 3) := by decide +kernel
theorem dX0_init_4 : decode cX0_init 4 = .ok (.aload_n 0, 1) := by decide +kernel
theorem dX0_init_5 : decode cX0_init 5 = .ok (.sipush 3600, 3) := by decide +kernel
theorem dX0_init_8 : decode cX0_init 8 = .ok (.newarray .int, 2) := by decide +kernel
theorem dX0_init_10 : decode cX0_init 10 = .ok (.putfield 11, 3) := by decide +kernel
theorem dX0_init_13 : decode cX0_init 13 = .ok (.aload_n 0, 1) := by decide +kernel
theorem dX0_init_14 : decode cX0_init 14 = .ok (.bipush 13, 2) := by decide +kernel
theorem dX0_init_16 : decode cX0_init 16 = .ok (.newarray .int, 2) := by decide +kernel
theorem dX0_init_18 : decode cX0_init 18 = .ok (.putfield 15, 3) := by decide +kernel
theorem dX0_init_21 : decode cX0_init 21 = .ok (.aload_n 0, 1) := by decide +kernel
theorem dX0_init_22 : decode cX0_init 22 = .ok (.bipush 6, 2) := by decide +kernel
theorem dX0_init_24 : decode cX0_init 24 = .ok (.newarray .long, 2) := by decide +kernel
theorem dX0_init_26 : decode cX0_init 26 = .ok (.putfield 18, 3) := by decide +kernel
theorem dX0_init_29 : decode cX0_init 29 = .ok (.aload_n 0, 1) := by decide +kernel
theorem dX0_init_30 : decode cX0_init 30 = .ok (.aload_n 1, 1) := by decide +kernel
theorem dX0_init_31 : decode cX0_init 31 = .ok (.putfield 22, 3) := by decide +kernel
theorem dX0_init_34 : decode cX0_init 34 = .ok (.aload_n 0, 1) := by decide +kernel
theorem dX0_init_35 : decode cX0_init 35 = .ok (.getfield 15, 3) := by decide +kernel
theorem dX0_init_38 : decode cX0_init 38 = .ok (.iconst 0, 1) := by decide +kernel
theorem dX0_init_39 : decode cX0_init 39 = .ok (.iconst 1, 1) := by decide +kernel
theorem dX0_init_40 : decode cX0_init 40 = .ok (.iastore, 1) := by decide +kernel
theorem dX0_init_41 : decode cX0_init 41 = .ok (.return_, 1) := by decide +kernel
theorem dX0_forget_0 : decode cX0_forget 0 = .ok (.aload_n 0, 1) := by decide +kernel
theorem dX0_forget_1 : decode cX0_forget 1 = .ok (.iconst 0, 1) := by decide +kernel
theorem dX0_forget_2 : decode cX0_forget 2 = .ok (.putfield 26, 3) := by decide +kernel
theorem dX0_forget_5 : decode cX0_forget 5 = .ok (.aload_n 0, 1) := by decide +kernel
theorem dX0_forget_6 : decode cX0_forget 6 = .ok (.iconst 0, 1) := by decide +kernel
theorem dX0_forget_7 : decode cX0_forget 7 = .ok (.putfield 30, 3) := by decide +kernel
theorem dX0_forget_10 : decode cX0_forget 10 = .ok (.return_, 1) := by decide +kernel
set_option maxRecDepth 20000 in
theorem ggX1_init_X3_init : GoodIn wsX1_init wsX3_init := goodIn_r _ [9, 10, 2, 3, 11, 12, 13, 17, 18, 19] rfl (by decide +kernel)
set_option maxRecDepth 20000 in
theorem gX1_init_X3_init_n17 : GoodIn wsX1_init (wsX3_init) := ggX1_init_X3_init
theorem dX1_init_0 : decode cX1_init 0 = .ok (.aload_n 0, 1) := by decide +kernel
theorem dX1_init_1 : decode cX1_init 1 = .ok (.invokespecial 3, 3) := by decide +kernel
theorem dX1_init_4 : decode cX1_init 4 = .ok (.aload_n 0, 1) := by decide +kernel
theorem dX1_init_5 : decode cX1_init 5 = .ok (.bipush 16, 2) := by decide +kernel
theorem dX1_init_7 : decode cX1_init 7 = .ok (.anewarray 9, 3) := by decide +kernel
theorem dX1_init_10 : decode cX1_init 10 = .ok (.putfield 11, 3) := by decide +kernel
theorem dX1_init_13 : decode cX1_init 13 = .ok (.iconst 0, 1) := by decide +kernel
theorem dX1_init_14 : decode cX1_init 14 = .ok (.istore_n 1, 1) := by decide +kernel
theorem dX1_init_15 : decode cX1_init 15 = .ok (.iload_n 1, 1) := by decide +kernel
theorem dX1_init_16 : decode cX1_init 16 = .ok (.bipush 16, 2) := by decide +kernel
theorem dX1_init_18 : decode cX1_init 18 = .ok (.if_icmp .ge 22, 3) := by decide +kernel
theorem dX1_init_21 : decode cX1_init 21 = .ok (.aload_n 0, 1) := by decide +kernel
theorem dX1_init_22 : decode cX1_init 22 = .ok (.getfield 11, 3) := by decide +kernel
theorem dX1_init_25 : decode cX1_init 25 = .ok (.iload_n 1, 1) := by decide +kernel
theorem dX1_init_26 : decode cX1_init 26 = .ok (.new 9, 3) := by decide +kernel
theorem dX1_init_29 : decode cX1_init 29 = .ok (.dup, 1) := by decide +kernel
theorem dX1_init_30 : decode cX1_init 30 = .ok (.invokespecial 17, 3) := by decide +kernel
theorem dX1_init_33 : decode cX1_init 33 = .ok (.aastore, 1) := by decide +kernel
theorem dX1_init_34 : decode cX1_init 34 = .ok (.iinc 1 1, 3) := by decide +kernel
theorem dX1_init_37 : decode cX1_init 37 = .ok (.goto (-22), 3) := by decide +kernel
theorem dX1_init_40 : decode cX1_init 40 = .ok (.return_, 1) := by decide +kernel
set_option maxRecDepth 20000 in
theorem ggX1_keep_X3_take : GoodIn wsX1_keep wsX3_take := goodIn_r _ [8, 9, 10, 11, 12, 13, 14, 15, 19, 20, 21] rfl (by decide +kernel)
set_option maxRecDepth 20000 in
theorem gX1_keep_X3_take : GoodIn wsX1_keep (wsV RX1 22 RX3 yX3_take wsX3_take) := goodIn_app (goodIn_of _ (by decide +kernel)) ggX1_keep_X3_take
theorem dX1_keep_0 : decode cX1_keep 0 = .ok (.aload_n 0, 1) := by decide +kernel
theorem dX1_keep_1 : decode cX1_keep 1 = .ok (.getfield 11, 3) := by decide +kernel
theorem dX1_keep_4 : decode cX1_keep 4 = .ok (.aload_n 0, 1) := by decide +kernel
theorem dX1_keep_5 : decode cX1_keep 5 = .ok (.getfield 18, 3) := by decide +kernel
theorem dX1_keep_8 : decode cX1_keep 8 = .ok (.aaload, 1) := by decide +kernel
theorem dX1_keep_9 : decode cX1_keep 9 = .ok (.aload_n 1, 1) := by decide +kernel
theorem dX1_keep_10 : decode cX1_keep 10 = .ok (.invokevirtual 22, 3) := by decide +kernel
theorem dX1_keep_13 : decode cX1_keep 13 = .ok (.aload_n 0, 1) := by decide +kernel
theorem dX1_keep_14 : decode cX1_keep 14 = .ok (.aload_n 0, 1) := by decide +kernel
theorem dX1_keep_15 : decode cX1_keep 15 = .ok (.getfield 18, 3) := by decide +kernel
theorem dX1_keep_18 : decode cX1_keep 18 = .ok (.iconst 1, 1) := by decide +kernel
theorem dX1_keep_19 : decode cX1_keep 19 = .ok (.iadd, 1) := by decide +kernel
theorem dX1_keep_20 : decode cX1_keep 20 = .ok (.bipush 16, 2) := by decide +kernel
theorem dX1_keep_22 : decode cX1_keep 22 = .ok (.irem, 1) := by decide +kernel
theorem dX1_keep_23 : decode cX1_keep 23 = .ok (.putfield 18, 3) := by decide +kernel
theorem dX1_keep_26 : decode cX1_keep 26 = .ok (.aload_n 0, 1) := by decide +kernel
theorem dX1_keep_27 : decode cX1_keep 27 = .ok (.getfield 26, 3) := by decide +kernel
theorem dX1_keep_30 : decode cX1_keep 30 = .ok (.bipush 16, 2) := by decide +kernel
theorem dX1_keep_32 : decode cX1_keep 32 = .ok (.if_icmp .ge 13, 3) := by decide +kernel
theorem dX1_keep_35 : decode cX1_keep 35 = .ok (.aload_n 0, 1) := by decide +kernel
theorem dX1_keep_36 : decode cX1_keep 36 = .ok (.dup, 1) := by decide +kernel
theorem dX1_keep_37 : decode cX1_keep 37 = .ok (.getfield 26, 3) := by decide +kernel
theorem dX1_keep_40 : decode cX1_keep 40 = .ok (.iconst 1, 1) := by decide +kernel
theorem dX1_keep_41 : decode cX1_keep 41 = .ok (.iadd, 1) := by decide +kernel
theorem dX1_keep_42 : decode cX1_keep 42 = .ok (.putfield 26, 3) := by decide +kernel
theorem dX1_keep_45 : decode cX1_keep 45 = .ok (.return_, 1) := by decide +kernel
theorem dX2_init_0 : decode cX2_init 0 = .ok (.aload_n 0, 1) := by decide +kernel
theorem dX2_init_1 : decode cX2_init 1 = .ok (.invokespecial 3, 3) := by decide +kernel
theorem dX2_init_4 : decode cX2_init 4 = .ok (.aload_n 0, 1) := by decide +kernel
theorem dX2_init_5 : decode cX2_init 5 = .ok (.bipush 40, 2) := by decide +kernel
theorem dX2_init_7 : decode cX2_init 7 = .ok (.newarray .long, 2) := by decide +kernel
theorem dX2_init_9 : decode cX2_init 9 = .ok (.putfield 9, 3) := by decide +kernel
theorem dX2_init_12 : decode cX2_init 12 = .ok (.return_, 1) := by decide +kernel
theorem dX3_init_0 : decode cX3_init 0 = .ok (.aload_n 0, 1) := by decide +kernel
theorem dX3_init_1 : decode cX3_init 1 = .ok (.invokespecial 3, 3) := by decide +kernel
theorem dX3_init_4 : decode cX3_init 4 = .ok (.aload_n 0, 1) := by decide +kernel
theorem dX3_init_5 : decode cX3_init 5 = .ok (.bipush 6, 2) := by decide +kernel
theorem dX3_init_7 : decode cX3_init 7 = .ok (.newarray .int, 2) := by decide +kernel
theorem dX3_init_9 : decode cX3_init 9 = .ok (.putfield 9, 3) := by decide +kernel
theorem dX3_init_12 : decode cX3_init 12 = .ok (.aload_n 0, 1) := by decide +kernel
theorem dX3_init_13 : decode cX3_init 13 = .ok (.bipush 36, 2) := by decide +kernel
theorem dX3_init_15 : decode cX3_init 15 = .ok (.newarray .int, 2) := by decide +kernel
theorem dX3_init_17 : decode cX3_init 17 = .ok (.putfield 15, 3) := by decide +kernel
theorem dX3_init_20 : decode cX3_init 20 = .ok (.return_, 1) := by decide +kernel
theorem dX3_has_0 : decode cX3_has 0 = .ok (.iload_n 1, 1) := by decide +kernel
theorem dX3_has_1 : decode cX3_has 1 = .ok (.ifCond .lt 15, 3) := by decide +kernel
theorem dX3_has_4 : decode cX3_has 4 = .ok (.iload_n 1, 1) := by decide +kernel
theorem dX3_has_5 : decode cX3_has 5 = .ok (.aload_n 0, 1) := by decide +kernel
theorem dX3_has_6 : decode cX3_has 6 = .ok (.getfield 18, 3) := by decide +kernel
theorem dX3_has_9 : decode cX3_has 9 = .ok (.if_icmp .ge 7, 3) := by decide +kernel
theorem dX3_has_12 : decode cX3_has 12 = .ok (.iconst 1, 1) := by decide +kernel
theorem dX3_has_13 : decode cX3_has 13 = .ok (.goto 4, 3) := by decide +kernel
theorem dX3_has_16 : decode cX3_has 16 = .ok (.iconst 0, 1) := by decide +kernel
theorem dX3_has_17 : decode cX3_has 17 = .ok (.ireturn, 1) := by decide +kernel
theorem dX3_number_0 : decode cX3_number 0 = .ok (.aload_n 0, 1) := by decide +kernel
theorem dX3_number_1 : decode cX3_number 1 = .ok (.getfield 15, 3) := by decide +kernel
theorem dX3_number_4 : decode cX3_number 4 = .ok (.iload_n 1, 1) := by decide +kernel
theorem dX3_number_5 : decode cX3_number 5 = .ok (.bipush 6, 2) := by decide +kernel
theorem dX3_number_7 : decode cX3_number 7 = .ok (.imul, 1) := by decide +kernel
theorem dX3_number_8 : decode cX3_number 8 = .ok (.iload_n 2, 1) := by decide +kernel
theorem dX3_number_9 : decode cX3_number 9 = .ok (.iadd, 1) := by decide +kernel
theorem dX3_number_10 : decode cX3_number 10 = .ok (.iaload, 1) := by decide +kernel
theorem dX3_number_11 : decode cX3_number 11 = .ok (.ireturn, 1) := by decide +kernel
theorem dX3_setNumbers_0 : decode cX3_setNumbers 0 = .ok (.aload_n 0, 1) := by decide +kernel
theorem dX3_setNumbers_1 : decode cX3_setNumbers 1 = .ok (.getfield 15, 3) := by decide +kernel
theorem dX3_setNumbers_4 : decode cX3_setNumbers 4 = .ok (.iload_n 1, 1) := by decide +kernel
theorem dX3_setNumbers_5 : decode cX3_setNumbers 5 = .ok (.bipush 6, 2) := by decide +kernel
theorem dX3_setNumbers_7 : decode cX3_setNumbers 7 = .ok (.imul, 1) := by decide +kernel
theorem dX3_setNumbers_8 : decode cX3_setNumbers 8 = .ok (.iload_n 2, 1) := by decide +kernel
theorem dX3_setNumbers_9 : decode cX3_setNumbers 9 = .ok (.iadd, 1) := by decide +kernel
theorem dX3_setNumbers_10 : decode cX3_setNumbers 10 = .ok (.iload_n 3, 1) := by decide +kernel
theorem dX3_setNumbers_11 : decode cX3_setNumbers 11 = .ok (.iastore, 1) := by decide +kernel
theorem dX3_setNumbers_12 : decode cX3_setNumbers 12 = .ok (.aload_n 0, 1) := by decide +kernel
theorem dX3_setNumbers_13 : decode cX3_setNumbers 13 = .ok (.getfield 15, 3) := by decide +kernel
theorem dX3_setNumbers_16 : decode cX3_setNumbers 16 = .ok (.iload_n 2, 1) := by decide +kernel
theorem dX3_setNumbers_17 : decode cX3_setNumbers 17 = .ok (.bipush 6, 2) := by decide +kernel
theorem dX3_setNumbers_19 : decode cX3_setNumbers 19 = .ok (.imul, 1) := by decide +kernel
theorem dX3_setNumbers_20 : decode cX3_setNumbers 20 = .ok (.iload_n 1, 1) := by decide +kernel
theorem dX3_setNumbers_21 : decode cX3_setNumbers 21 = .ok (.iadd, 1) := by decide +kernel
theorem dX3_setNumbers_22 : decode cX3_setNumbers 22 = .ok (.iload 4, 2) := by decide +kernel
theorem dX3_setNumbers_24 : decode cX3_setNumbers 24 = .ok (.iastore, 1) := by decide +kernel
theorem dX3_setNumbers_25 : decode cX3_setNumbers 25 = .ok (.return_, 1) := by decide +kernel
theorem dX3_addMirror_0 : decode cX3_addMirror 0 = .ok (.aload_n 0, 1) := by decide +kernel
theorem dX3_addMirror_1 : decode cX3_addMirror 1 = .ok (.getfield 9, 3) := by decide +kernel
theorem dX3_addMirror_4 : decode cX3_addMirror 4 = .ok (.aload_n 0, 1) := by decide +kernel
theorem dX3_addMirror_5 : decode cX3_addMirror 5 = .ok (.getfield 18, 3) := by decide +kernel
theorem dX3_addMirror_8 : decode cX3_addMirror 8 = .ok (.iload_n 1, 1) := by decide +kernel
theorem dX3_addMirror_9 : decode cX3_addMirror 9 = .ok (.iastore, 1) := by decide +kernel
theorem dX3_addMirror_10 : decode cX3_addMirror 10 = .ok (.aload_n 0, 1) := by decide +kernel
theorem dX3_addMirror_11 : decode cX3_addMirror 11 = .ok (.dup, 1) := by decide +kernel
theorem dX3_addMirror_12 : decode cX3_addMirror 12 = .ok (.getfield 18, 3) := by decide +kernel
theorem dX3_addMirror_15 : decode cX3_addMirror 15 = .ok (.iconst 1, 1) := by decide +kernel
theorem dX3_addMirror_16 : decode cX3_addMirror 16 = .ok (.iadd, 1) := by decide +kernel
theorem dX3_addMirror_17 : decode cX3_addMirror 17 = .ok (.putfield 18, 3) := by decide +kernel
theorem dX3_addMirror_20 : decode cX3_addMirror 20 = .ok (.aload_n 0, 1) := by decide +kernel
theorem dX3_addMirror_21 : decode cX3_addMirror 21 = .ok (.getfield 18, 3) := by decide +kernel
theorem dX3_addMirror_24 : decode cX3_addMirror 24 = .ok (.iconst 1, 1) := by decide +kernel
theorem dX3_addMirror_25 : decode cX3_addMirror 25 = .ok (.isub, 1) := by decide +kernel
theorem dX3_addMirror_26 : decode cX3_addMirror 26 = .ok (.ireturn, 1) := by decide +kernel
theorem dX3_take_0 : decode cX3_take 0 = .ok (.aload_n 1, 1) := by decide +kernel
theorem dX3_take_1 : decode cX3_take 1 = .ok (.getfield 9, 3) := by decide +kernel
theorem dX3_take_4 : decode cX3_take 4 = .ok (.iconst 0, 1) := by decide +kernel
theorem dX3_take_5 : decode cX3_take 5 = .ok (.aload_n 0, 1) := by decide +kernel
theorem dX3_take_6 : decode cX3_take 6 = .ok (.getfield 9, 3) := by decide +kernel
theorem dX3_take_9 : decode cX3_take 9 = .ok (.iconst 0, 1) := by decide +kernel
theorem dX3_take_10 : decode cX3_take 10 = .ok (.bipush 6, 2) := by decide +kernel
theorem dX3_take_12 : decode cX3_take 12 = .ok (.invokestatic 26, 3) := by decide +kernel
theorem dX3_take_15 : decode cX3_take 15 = .ok (.aload_n 1, 1) := by decide +kernel
theorem dX3_take_16 : decode cX3_take 16 = .ok (.getfield 15, 3) := by decide +kernel
theorem dX3_take_19 : decode cX3_take 19 = .ok (.iconst 0, 1) := by decide +kernel
theorem dX3_take_20 : decode cX3_take 20 = .ok (.aload_n 0, 1) := by decide +kernel
theorem dX3_take_21 : decode cX3_take 21 = .ok (.getfield 15, 3) := by decide +kernel
theorem dX3_take_24 : decode cX3_take 24 = .ok (.iconst 0, 1) := by decide +kernel
theorem dX3_take_25 : decode cX3_take 25 = .ok (.bipush 36, 2) := by decide +kernel
theorem dX3_take_27 : decode cX3_take 27 = .ok (.invokestatic 26, 3) := by decide +kernel
theorem dX3_take_30 : decode cX3_take 30 = .ok (.aload_n 0, 1) := by decide +kernel
theorem dX3_take_31 : decode cX3_take 31 = .ok (.aload_n 1, 1) := by decide +kernel
theorem dX3_take_32 : decode cX3_take 32 = .ok (.getfield 18, 3) := by decide +kernel
theorem dX3_take_35 : decode cX3_take 35 = .ok (.putfield 18, 3) := by decide +kernel
theorem dX3_take_38 : decode cX3_take 38 = .ok (.return_, 1) := by decide +kernel
set_option maxRecDepth 20000 in
theorem ggX3_meetsAt_X3_number : GoodIn wsX3_meetsAt wsX3_number := goodIn_r _ [5, 6, 7, 8, 9] rfl (by decide +kernel)
set_option maxRecDepth 20000 in
theorem gX3_meetsAt_X3_number : GoodIn wsX3_meetsAt (wsV RX3 32 RX3 yX3_number wsX3_number) := goodIn_app (goodIn_of _ (by decide +kernel)) ggX3_meetsAt_X3_number
theorem dX3_meetsAt_0 : decode cX3_meetsAt 0 = .ok (.iload_n 1, 1) := by decide +kernel
theorem dX3_meetsAt_1 : decode cX3_meetsAt 1 = .ok (.iload_n 2, 1) := by decide +kernel
theorem dX3_meetsAt_2 : decode cX3_meetsAt 2 = .ok (.if_icmp .ne 5, 3) := by decide +kernel
theorem dX3_meetsAt_5 : decode cX3_meetsAt 5 = .ok (.iconst 1, 1) := by decide +kernel
theorem dX3_meetsAt_6 : decode cX3_meetsAt 6 = .ok (.ireturn, 1) := by decide +kernel
theorem dX3_meetsAt_7 : decode cX3_meetsAt 7 = .ok (.aload_n 0, 1) := by decide +kernel
theorem dX3_meetsAt_8 : decode cX3_meetsAt 8 = .ok (.iload_n 1, 1) := by decide +kernel
theorem dX3_meetsAt_9 : decode cX3_meetsAt 9 = .ok (.iload_n 2, 1) := by decide +kernel
theorem dX3_meetsAt_10 : decode cX3_meetsAt 10 = .ok (.invokevirtual 32, 3) := by decide +kernel
theorem dX3_meetsAt_13 : decode cX3_meetsAt 13 = .ok (.aload_n 0, 1) := by decide +kernel
theorem dX3_meetsAt_14 : decode cX3_meetsAt 14 = .ok (.iload_n 2, 1) := by decide +kernel
theorem dX3_meetsAt_15 : decode cX3_meetsAt 15 = .ok (.iload_n 1, 1) := by decide +kernel
theorem dX3_meetsAt_16 : decode cX3_meetsAt 16 = .ok (.invokevirtual 32, 3) := by decide +kernel
theorem dX3_meetsAt_19 : decode cX3_meetsAt 19 = .ok (.imul, 1) := by decide +kernel
theorem dX3_meetsAt_20 : decode cX3_meetsAt 20 = .ok (.tableswitch 41 0 3 #[32, 34, 36, 38], 32) := by decide +kernel
theorem dX3_meetsAt_52 : decode cX3_meetsAt 52 = .ok (.iconst 2, 1) := by decide +kernel
theorem dX3_meetsAt_53 : decode cX3_meetsAt 53 = .ok (.ireturn, 1) := by decide +kernel
theorem dX3_meetsAt_54 : decode cX3_meetsAt 54 = .ok (.iconst 3, 1) := by decide +kernel
theorem dX3_meetsAt_55 : decode cX3_meetsAt 55 = .ok (.ireturn, 1) := by decide +kernel
theorem dX3_meetsAt_56 : decode cX3_meetsAt 56 = .ok (.iconst 4, 1) := by decide +kernel
theorem dX3_meetsAt_57 : decode cX3_meetsAt 57 = .ok (.ireturn, 1) := by decide +kernel
theorem dX3_meetsAt_58 : decode cX3_meetsAt 58 = .ok (.bipush 6, 2) := by decide +kernel
theorem dX3_meetsAt_60 : decode cX3_meetsAt 60 = .ok (.ireturn, 1) := by decide +kernel
theorem dX3_meetsAt_61 : decode cX3_meetsAt 61 = .ok (.iconst 0, 1) := by decide +kernel
theorem dX3_meetsAt_62 : decode cX3_meetsAt 62 = .ok (.ireturn, 1) := by decide +kernel
theorem dX3_turnedNumber_0 : decode cX3_turnedNumber 0 = .ok (.aload_n 1, 1) := by decide +kernel
theorem dX3_turnedNumber_1 : decode cX3_turnedNumber 1 = .ok (.iload_n 2, 1) := by decide +kernel
theorem dX3_turnedNumber_2 : decode cX3_turnedNumber 2 = .ok (.laload, 1) := by decide +kernel
theorem dX3_turnedNumber_3 : decode cX3_turnedNumber 3 = .ok (.lneg, 1) := by decide +kernel
theorem dX3_turnedNumber_4 : decode cX3_turnedNumber 4 = .ok (.lstore_n 3, 1) := by decide +kernel
theorem dX3_turnedNumber_5 : decode cX3_turnedNumber 5 = .ok (.iconst 0, 1) := by decide +kernel
theorem dX3_turnedNumber_6 : decode cX3_turnedNumber 6 = .ok (.istore 5, 2) := by decide +kernel
theorem dX3_turnedNumber_8 : decode cX3_turnedNumber 8 = .ok (.iload 5, 2) := by decide +kernel
theorem dX3_turnedNumber_10 : decode cX3_turnedNumber 10 = .ok (.aload_n 0, 1) := by decide +kernel
theorem dX3_turnedNumber_11 : decode cX3_turnedNumber 11 = .ok (.getfield 18, 3) := by decide +kernel
theorem dX3_turnedNumber_14 : decode cX3_turnedNumber 14 = .ok (.if_icmp .ge 30, 3) := by decide +kernel
theorem dX3_turnedNumber_17 : decode cX3_turnedNumber 17 = .ok (.lload_n 3, 1) := by decide +kernel
theorem dX3_turnedNumber_18 : decode cX3_turnedNumber 18 = .ok (.aload_n 0, 1) := by decide +kernel
theorem dX3_turnedNumber_19 : decode cX3_turnedNumber 19 = .ok (.getfield 15, 3) := by decide +kernel
theorem dX3_turnedNumber_22 : decode cX3_turnedNumber 22 = .ok (.iload_n 2, 1) := by decide +kernel
theorem dX3_turnedNumber_23 : decode cX3_turnedNumber 23 = .ok (.bipush 6, 2) := by decide +kernel
theorem dX3_turnedNumber_25 : decode cX3_turnedNumber 25 = .ok (.imul, 1) := by decide +kernel
theorem dX3_turnedNumber_26 : decode cX3_turnedNumber 26 = .ok (.iload 5, 2) := by decide +kernel
theorem dX3_turnedNumber_28 : decode cX3_turnedNumber 28 = .ok (.iadd, 1) := by decide +kernel
theorem dX3_turnedNumber_29 : decode cX3_turnedNumber 29 = .ok (.iaload, 1) := by decide +kernel
theorem dX3_turnedNumber_30 : decode cX3_turnedNumber 30 = .ok (.i2l, 1) := by decide +kernel
theorem dX3_turnedNumber_31 : decode cX3_turnedNumber 31 = .ok (.aload_n 1, 1) := by decide +kernel
theorem dX3_turnedNumber_32 : decode cX3_turnedNumber 32 = .ok (.iload 5, 2) := by decide +kernel
theorem dX3_turnedNumber_34 : decode cX3_turnedNumber 34 = .ok (.laload, 1) := by decide +kernel
theorem dX3_turnedNumber_35 : decode cX3_turnedNumber 35 = .ok (.lmul, 1) := by decide +kernel
theorem dX3_turnedNumber_36 : decode cX3_turnedNumber 36 = .ok (.ladd, 1) := by decide +kernel
theorem dX3_turnedNumber_37 : decode cX3_turnedNumber 37 = .ok (.lstore_n 3, 1) := by decide +kernel
theorem dX3_turnedNumber_38 : decode cX3_turnedNumber 38 = .ok (.iinc 5 1, 3) := by decide +kernel
theorem dX3_turnedNumber_41 : decode cX3_turnedNumber 41 = .ok (.goto (-33), 3) := by decide +kernel
theorem dX3_turnedNumber_44 : decode cX3_turnedNumber 44 = .ok (.lload_n 3, 1) := by decide +kernel
theorem dX3_turnedNumber_45 : decode cX3_turnedNumber 45 = .ok (.lreturn, 1) := by decide +kernel
set_option maxRecDepth 20000 in
theorem ggX3_turn_X3_turnedNumber : GoodIn wsX3_turn wsX3_turnedNumber := goodIn_r _ [7, 8, 9, 10, 11, 12] rfl (by decide +kernel)
set_option maxRecDepth 20000 in
theorem gX3_turn_X3_turnedNumber : GoodIn wsX3_turn (wsV RX3 36 RX3 yX3_turnedNumber wsX3_turnedNumber) := goodIn_app (goodIn_of _ (by decide +kernel)) ggX3_turn_X3_turnedNumber
theorem dX3_turn_0 : decode cX3_turn 0 = .ok (.aload_n 0, 1) := by decide +kernel
theorem dX3_turn_1 : decode cX3_turn 1 = .ok (.aload_n 1, 1) := by decide +kernel
theorem dX3_turn_2 : decode cX3_turn 2 = .ok (.iload_n 2, 1) := by decide +kernel
theorem dX3_turn_3 : decode cX3_turn 3 = .ok (.invokevirtual 36, 3) := by decide +kernel
theorem dX3_turn_6 : decode cX3_turn 6 = .ok (.lstore_n 3, 1) := by decide +kernel
theorem dX3_turn_7 : decode cX3_turn 7 = .ok (.aload_n 1, 1) := by decide +kernel
theorem dX3_turn_8 : decode cX3_turn 8 = .ok (.iload_n 2, 1) := by decide +kernel
theorem dX3_turn_9 : decode cX3_turn 9 = .ok (.lload_n 3, 1) := by decide +kernel
theorem dX3_turn_10 : decode cX3_turn 10 = .ok (.lastore, 1) := by decide +kernel
theorem dX3_turn_11 : decode cX3_turn 11 = .ok (.lload_n 3, 1) := by decide +kernel
theorem dX3_turn_12 : decode cX3_turn 12 = .ok (.ldc2_w 40, 3) := by decide +kernel
theorem dX3_turn_15 : decode cX3_turn 15 = .ok (.lcmp, 1) := by decide +kernel
theorem dX3_turn_16 : decode cX3_turn 16 = .ok (.ifCond .gt 15, 3) := by decide +kernel
theorem dX3_turn_19 : decode cX3_turn 19 = .ok (.lload_n 3, 1) := by decide +kernel
theorem dX3_turn_20 : decode cX3_turn 20 = .ok (.ldc2_w 42, 3) := by decide +kernel
theorem dX3_turn_23 : decode cX3_turn 23 = .ok (.lcmp, 1) := by decide +kernel
theorem dX3_turn_24 : decode cX3_turn 24 = .ok (.ifCond .lt 7, 3) := by decide +kernel
theorem dX3_turn_27 : decode cX3_turn 27 = .ok (.iconst 1, 1) := by decide +kernel
theorem dX3_turn_28 : decode cX3_turn 28 = .ok (.goto 4, 3) := by decide +kernel
theorem dX3_turn_31 : decode cX3_turn 31 = .ok (.iconst 0, 1) := by decide +kernel
theorem dX3_turn_32 : decode cX3_turn 32 = .ok (.ireturn, 1) := by decide +kernel
set_option maxRecDepth 20000 in
theorem ggX3_turnBy_X3_turn : GoodIn wsX3_turnBy wsX3_turn := goodIn_r _ [6, 7, 8, 9, 10, 11, 5, 12, 13, 14, 17, 18, 19] rfl (by decide +kernel)
set_option maxRecDepth 20000 in
theorem gX3_turnBy_X3_turn : GoodIn wsX3_turnBy (wsV RX3 49 RX3 yX3_turn wsX3_turn) := goodIn_app (goodIn_of _ (by decide +kernel)) ggX3_turnBy_X3_turn
theorem dX3_turnBy_0 : decode cX3_turnBy 0 = .ok (.iload_n 2, 1) := by decide +kernel
theorem dX3_turnBy_1 : decode cX3_turnBy 1 = .ok (.iconst 1, 1) := by decide +kernel
theorem dX3_turnBy_2 : decode cX3_turnBy 2 = .ok (.isub, 1) := by decide +kernel
theorem dX3_turnBy_3 : decode cX3_turnBy 3 = .ok (.istore 4, 2) := by decide +kernel
theorem dX3_turnBy_5 : decode cX3_turnBy 5 = .ok (.iload 4, 2) := by decide +kernel
theorem dX3_turnBy_7 : decode cX3_turnBy 7 = .ok (.ifCond .lt 26, 3) := by decide +kernel
theorem dX3_turnBy_10 : decode cX3_turnBy 10 = .ok (.aload_n 0, 1) := by decide +kernel
theorem dX3_turnBy_11 : decode cX3_turnBy 11 = .ok (.aload_n 3, 1) := by decide +kernel
theorem dX3_turnBy_12 : decode cX3_turnBy 12 = .ok (.aload_n 1, 1) := by decide +kernel
theorem dX3_turnBy_13 : decode cX3_turnBy 13 = .ok (.getfield 44, 3) := by decide +kernel
theorem dX3_turnBy_16 : decode cX3_turnBy 16 = .ok (.iload 4, 2) := by decide +kernel
theorem dX3_turnBy_18 : decode cX3_turnBy 18 = .ok (.iaload, 1) := by decide +kernel
theorem dX3_turnBy_19 : decode cX3_turnBy 19 = .ok (.invokevirtual 49, 3) := by decide +kernel
theorem dX3_turnBy_22 : decode cX3_turnBy 22 = .ok (.ifCond .ne 5, 3) := by decide +kernel
theorem dX3_turnBy_25 : decode cX3_turnBy 25 = .ok (.iconst 0, 1) := by decide +kernel
theorem dX3_turnBy_26 : decode cX3_turnBy 26 = .ok (.ireturn, 1) := by decide +kernel
theorem dX3_turnBy_27 : decode cX3_turnBy 27 = .ok (.iinc 4 (-1), 3) := by decide +kernel
theorem dX3_turnBy_30 : decode cX3_turnBy 30 = .ok (.goto (-25), 3) := by decide +kernel
theorem dX3_turnBy_33 : decode cX3_turnBy 33 = .ok (.iconst 1, 1) := by decide +kernel
theorem dX3_turnBy_34 : decode cX3_turnBy 34 = .ok (.ireturn, 1) := by decide +kernel
theorem dX4_init_0 : decode cX4_init 0 = .ok (.aload_n 0, 1) := by decide +kernel
theorem dX4_init_1 : decode cX4_init 1 = .ok (.invokespecial 5, 3) := by decide +kernel
theorem dX4_init_4 : decode cX4_init 4 = .ok (.aload_n 0, 1) := by decide +kernel
theorem dX4_init_5 : decode cX4_init 5 = .ok (.sipush 400, 3) := by decide +kernel
theorem dX4_init_8 : decode cX4_init 8 = .ok (.newarray .long, 2) := by decide +kernel
theorem dX4_init_10 : decode cX4_init 10 = .ok (.putfield 11, 3) := by decide +kernel
theorem dX4_init_13 : decode cX4_init 13 = .ok (.aload_n 0, 1) := by decide +kernel
theorem dX4_init_14 : decode cX4_init 14 = .ok (.sipush 400, 3) := by decide +kernel
theorem dX4_init_17 : decode cX4_init 17 = .ok (.newarray .long, 2) := by decide +kernel
theorem dX4_init_19 : decode cX4_init 19 = .ok (.putfield 15, 3) := by decide +kernel
theorem dX4_init_22 : decode cX4_init 22 = .ok (.aload_n 0, 1) := by decide +kernel
theorem dX4_init_23 : decode cX4_init 23 = .ok (.bipush 42, 2) := by decide +kernel
theorem dX4_init_25 : decode cX4_init 25 = .ok (.newarray .int, 2) := by decide +kernel
theorem dX4_init_27 : decode cX4_init 27 = .ok (.putfield 18, 3) := by decide +kernel
theorem dX4_init_30 : decode cX4_init 30 = .ok (.aload_n 0, 1) := by decide +kernel
theorem dX4_init_31 : decode cX4_init 31 = .ok (.aload_n 1, 1) := by decide +kernel
theorem dX4_init_32 : decode cX4_init 32 = .ok (.putfield 22, 3) := by decide +kernel
theorem dX4_init_35 : decode cX4_init 35 = .ok (.return_, 1) := by decide +kernel
theorem dX4_forget_0 : decode cX4_forget 0 = .ok (.aload_n 0, 1) := by decide +kernel
theorem dX4_forget_1 : decode cX4_forget 1 = .ok (.iconst 0, 1) := by decide +kernel
theorem dX4_forget_2 : decode cX4_forget 2 = .ok (.putfield 26, 3) := by decide +kernel
theorem dX4_forget_5 : decode cX4_forget 5 = .ok (.aload_n 0, 1) := by decide +kernel
theorem dX4_forget_6 : decode cX4_forget 6 = .ok (.iconst 0, 1) := by decide +kernel
theorem dX4_forget_7 : decode cX4_forget 7 = .ok (.putfield 30, 3) := by decide +kernel
theorem dX4_forget_10 : decode cX4_forget 10 = .ok (.return_, 1) := by decide +kernel
set_option maxRecDepth 20000 in
theorem ggX5_init_X6_init : GoodIn wsX5_init wsX6_init := goodIn_r _ [12, 13, 2, 3, 14, 15, 19, 20] rfl (by decide +kernel)
set_option maxRecDepth 20000 in
theorem gX5_init_X6_init_n17 : GoodIn wsX5_init (wsX6_init) := ggX5_init_X6_init
theorem dX5_init_0 : decode cX5_init 0 = .ok (.aload_n 0, 1) := by decide +kernel
theorem dX5_init_1 : decode cX5_init 1 = .ok (.invokespecial 3, 3) := by decide +kernel
theorem dX5_init_4 : decode cX5_init 4 = .ok (.aload_n 0, 1) := by decide +kernel
theorem dX5_init_5 : decode cX5_init 5 = .ok (.bipush 6, 2) := by decide +kernel
theorem dX5_init_7 : decode cX5_init 7 = .ok (.newarray .long, 2) := by decide +kernel
theorem dX5_init_9 : decode cX5_init 9 = .ok (.putfield 9, 3) := by decide +kernel
theorem dX5_init_12 : decode cX5_init 12 = .ok (.aload_n 0, 1) := by decide +kernel
theorem dX5_init_13 : decode cX5_init 13 = .ok (.new 15, 3) := by decide +kernel
theorem dX5_init_16 : decode cX5_init 16 = .ok (.dup, 1) := by decide +kernel
theorem dX5_init_17 : decode cX5_init 17 = .ok (.invokespecial 17, 3) := by decide +kernel
theorem dX5_init_20 : decode cX5_init 20 = .ok (.putfield 18, 3) := by decide +kernel
theorem dX5_init_23 : decode cX5_init 23 = .ok (.aload_n 0, 1) := by decide +kernel
theorem dX5_init_24 : decode cX5_init 24 = .ok (.aload_n 1, 1) := by decide +kernel
theorem dX5_init_25 : decode cX5_init 25 = .ok (.putfield 22, 3) := by decide +kernel
theorem dX5_init_28 : decode cX5_init 28 = .ok (.return_, 1) := by decide +kernel
set_option maxRecDepth 20000 in
theorem ggX5_goesBehind_X7_setOwn : GoodIn wsX5_goesBehind wsX7_setOwn := goodIn_r _ [7, 8, 9, 10, 11] rfl (by decide +kernel)
set_option maxRecDepth 20000 in
theorem gX5_goesBehind_X7_setOwn_n26 : GoodIn wsX5_goesBehind (wsX7_setOwn) := ggX5_goesBehind_X7_setOwn
set_option maxRecDepth 20000 in
theorem ggX5_goesBehind_X7_isOwn : GoodIn wsX5_goesBehind wsX7_isOwn := goodIn_r _ [13] rfl (by decide +kernel)
set_option maxRecDepth 20000 in
theorem gX5_goesBehind_X7_isOwn_n38 : GoodIn wsX5_goesBehind (wsX7_isOwn) := ggX5_goesBehind_X7_isOwn
set_option maxRecDepth 20000 in
theorem ggX5_goesBehind_X3_turn : GoodIn wsX5_goesBehind wsX3_turn := goodIn_r _ [18, 19, 20, 21, 22, 23, 17, 24, 25, 26, 32, 33, 34] rfl (by decide +kernel)
set_option maxRecDepth 20000 in
theorem gX5_goesBehind_X3_turn : GoodIn wsX5_goesBehind (wsV RX5 42 RX3 yX3_turn wsX3_turn) := goodIn_app (goodIn_of _ (by decide +kernel)) ggX5_goesBehind_X3_turn
theorem dX5_goesBehind_0 : decode cX5_goesBehind 0 = .ok (.aload_n 0, 1) := by decide +kernel
theorem dX5_goesBehind_1 : decode cX5_goesBehind 1 = .ok (.getfield 9, 3) := by decide +kernel
theorem dX5_goesBehind_4 : decode cX5_goesBehind 4 = .ok (.iload_n 2, 1) := by decide +kernel
theorem dX5_goesBehind_5 : decode cX5_goesBehind 5 = .ok (.invokestatic 26, 3) := by decide +kernel
theorem dX5_goesBehind_8 : decode cX5_goesBehind 8 = .ok (.aload_n 1, 1) := by decide +kernel
theorem dX5_goesBehind_9 : decode cX5_goesBehind 9 = .ok (.getfield 30, 3) := by decide +kernel
theorem dX5_goesBehind_12 : decode cX5_goesBehind 12 = .ok (.iconst 1, 1) := by decide +kernel
theorem dX5_goesBehind_13 : decode cX5_goesBehind 13 = .ok (.isub, 1) := by decide +kernel
theorem dX5_goesBehind_14 : decode cX5_goesBehind 14 = .ok (.istore_n 3, 1) := by decide +kernel
theorem dX5_goesBehind_15 : decode cX5_goesBehind 15 = .ok (.iload_n 3, 1) := by decide +kernel
theorem dX5_goesBehind_16 : decode cX5_goesBehind 16 = .ok (.ifCond .lt 50, 3) := by decide +kernel
theorem dX5_goesBehind_19 : decode cX5_goesBehind 19 = .ok (.aload_n 0, 1) := by decide +kernel
theorem dX5_goesBehind_20 : decode cX5_goesBehind 20 = .ok (.getfield 9, 3) := by decide +kernel
theorem dX5_goesBehind_23 : decode cX5_goesBehind 23 = .ok (.aload_n 1, 1) := by decide +kernel
theorem dX5_goesBehind_24 : decode cX5_goesBehind 24 = .ok (.getfield 34, 3) := by decide +kernel
theorem dX5_goesBehind_27 : decode cX5_goesBehind 27 = .ok (.iload_n 3, 1) := by decide +kernel
theorem dX5_goesBehind_28 : decode cX5_goesBehind 28 = .ok (.iaload, 1) := by decide +kernel
theorem dX5_goesBehind_29 : decode cX5_goesBehind 29 = .ok (.invokestatic 38, 3) := by decide +kernel
theorem dX5_goesBehind_32 : decode cX5_goesBehind 32 = .ok (.ifCond .eq 5, 3) := by decide +kernel
theorem dX5_goesBehind_35 : decode cX5_goesBehind 35 = .ok (.iload_n 3, 1) := by decide +kernel
theorem dX5_goesBehind_36 : decode cX5_goesBehind 36 = .ok (.ireturn, 1) := by decide +kernel
theorem dX5_goesBehind_37 : decode cX5_goesBehind 37 = .ok (.aload_n 0, 1) := by decide +kernel
theorem dX5_goesBehind_38 : decode cX5_goesBehind 38 = .ok (.getfield 22, 3) := by decide +kernel
theorem dX5_goesBehind_41 : decode cX5_goesBehind 41 = .ok (.aload_n 0, 1) := by decide +kernel
theorem dX5_goesBehind_42 : decode cX5_goesBehind 42 = .ok (.getfield 9, 3) := by decide +kernel
theorem dX5_goesBehind_45 : decode cX5_goesBehind 45 = .ok (.aload_n 1, 1) := by decide +kernel
theorem dX5_goesBehind_46 : decode cX5_goesBehind 46 = .ok (.getfield 34, 3) := by decide +kernel
theorem dX5_goesBehind_49 : decode cX5_goesBehind 49 = .ok (.iload_n 3, 1) := by decide +kernel
theorem dX5_goesBehind_50 : decode cX5_goesBehind 50 = .ok (.iaload, 1) := by decide +kernel
theorem dX5_goesBehind_51 : decode cX5_goesBehind 51 = .ok (.invokevirtual 42, 3) := by decide +kernel
theorem dX5_goesBehind_54 : decode cX5_goesBehind 54 = .ok (.ifCond .ne 6, 3) := by decide +kernel
theorem dX5_goesBehind_57 : decode cX5_goesBehind 57 = .ok (.bipush (-4), 2) := by decide +kernel
theorem dX5_goesBehind_59 : decode cX5_goesBehind 59 = .ok (.ireturn, 1) := by decide +kernel
theorem dX5_goesBehind_60 : decode cX5_goesBehind 60 = .ok (.iinc 3 (-1), 3) := by decide +kernel
theorem dX5_goesBehind_63 : decode cX5_goesBehind 63 = .ok (.goto (-48), 3) := by decide +kernel
theorem dX5_goesBehind_66 : decode cX5_goesBehind 66 = .ok (.iconst (-1), 1) := by decide +kernel
theorem dX5_goesBehind_67 : decode cX5_goesBehind 67 = .ok (.ireturn, 1) := by decide +kernel
set_option maxRecDepth 20000 in
theorem ggX5_goesAhead_X7_setOwn : GoodIn wsX5_goesAhead wsX7_setOwn := goodIn_r _ [7, 8, 9, 10, 11] rfl (by decide +kernel)
set_option maxRecDepth 20000 in
theorem gX5_goesAhead_X7_setOwn_n26 : GoodIn wsX5_goesAhead (wsX7_setOwn) := ggX5_goesAhead_X7_setOwn
set_option maxRecDepth 20000 in
theorem ggX5_goesAhead_X7_isOwn : GoodIn wsX5_goesAhead wsX7_isOwn := goodIn_r _ [13] rfl (by decide +kernel)
set_option maxRecDepth 20000 in
theorem gX5_goesAhead_X7_isOwn_n38 : GoodIn wsX5_goesAhead (wsX7_isOwn) := ggX5_goesAhead_X7_isOwn
set_option maxRecDepth 20000 in
theorem ggX5_goesAhead_X3_turn : GoodIn wsX5_goesAhead wsX3_turn := goodIn_r _ [18, 19, 20, 21, 22, 23, 17, 24, 25, 26, 32, 33, 34] rfl (by decide +kernel)
set_option maxRecDepth 20000 in
theorem gX5_goesAhead_X3_turn : GoodIn wsX5_goesAhead (wsV RX5 42 RX3 yX3_turn wsX3_turn) := goodIn_app (goodIn_of _ (by decide +kernel)) ggX5_goesAhead_X3_turn
theorem dX5_goesAhead_0 : decode cX5_goesAhead 0 = .ok (.aload_n 0, 1) := by decide +kernel
theorem dX5_goesAhead_1 : decode cX5_goesAhead 1 = .ok (.getfield 9, 3) := by decide +kernel
theorem dX5_goesAhead_4 : decode cX5_goesAhead 4 = .ok (.iload_n 2, 1) := by decide +kernel
theorem dX5_goesAhead_5 : decode cX5_goesAhead 5 = .ok (.invokestatic 26, 3) := by decide +kernel
theorem dX5_goesAhead_8 : decode cX5_goesAhead 8 = .ok (.iconst 0, 1) := by decide +kernel
theorem dX5_goesAhead_9 : decode cX5_goesAhead 9 = .ok (.istore_n 3, 1) := by decide +kernel
theorem dX5_goesAhead_10 : decode cX5_goesAhead 10 = .ok (.iload_n 3, 1) := by decide +kernel
theorem dX5_goesAhead_11 : decode cX5_goesAhead 11 = .ok (.aload_n 1, 1) := by decide +kernel
theorem dX5_goesAhead_12 : decode cX5_goesAhead 12 = .ok (.getfield 30, 3) := by decide +kernel
theorem dX5_goesAhead_15 : decode cX5_goesAhead 15 = .ok (.if_icmp .ge 50, 3) := by decide +kernel
theorem dX5_goesAhead_18 : decode cX5_goesAhead 18 = .ok (.aload_n 0, 1) := by decide +kernel
theorem dX5_goesAhead_19 : decode cX5_goesAhead 19 = .ok (.getfield 9, 3) := by decide +kernel
theorem dX5_goesAhead_22 : decode cX5_goesAhead 22 = .ok (.aload_n 1, 1) := by decide +kernel
theorem dX5_goesAhead_23 : decode cX5_goesAhead 23 = .ok (.getfield 34, 3) := by decide +kernel
theorem dX5_goesAhead_26 : decode cX5_goesAhead 26 = .ok (.iload_n 3, 1) := by decide +kernel
theorem dX5_goesAhead_27 : decode cX5_goesAhead 27 = .ok (.iaload, 1) := by decide +kernel
theorem dX5_goesAhead_28 : decode cX5_goesAhead 28 = .ok (.invokestatic 38, 3) := by decide +kernel
theorem dX5_goesAhead_31 : decode cX5_goesAhead 31 = .ok (.ifCond .eq 5, 3) := by decide +kernel
theorem dX5_goesAhead_34 : decode cX5_goesAhead 34 = .ok (.iload_n 3, 1) := by decide +kernel
theorem dX5_goesAhead_35 : decode cX5_goesAhead 35 = .ok (.ireturn, 1) := by decide +kernel
theorem dX5_goesAhead_36 : decode cX5_goesAhead 36 = .ok (.aload_n 0, 1) := by decide +kernel
theorem dX5_goesAhead_37 : decode cX5_goesAhead 37 = .ok (.getfield 22, 3) := by decide +kernel
theorem dX5_goesAhead_40 : decode cX5_goesAhead 40 = .ok (.aload_n 0, 1) := by decide +kernel
theorem dX5_goesAhead_41 : decode cX5_goesAhead 41 = .ok (.getfield 9, 3) := by decide +kernel
theorem dX5_goesAhead_44 : decode cX5_goesAhead 44 = .ok (.aload_n 1, 1) := by decide +kernel
theorem dX5_goesAhead_45 : decode cX5_goesAhead 45 = .ok (.getfield 34, 3) := by decide +kernel
theorem dX5_goesAhead_48 : decode cX5_goesAhead 48 = .ok (.iload_n 3, 1) := by decide +kernel
theorem dX5_goesAhead_49 : decode cX5_goesAhead 49 = .ok (.iaload, 1) := by decide +kernel
theorem dX5_goesAhead_50 : decode cX5_goesAhead 50 = .ok (.invokevirtual 42, 3) := by decide +kernel
theorem dX5_goesAhead_53 : decode cX5_goesAhead 53 = .ok (.ifCond .ne 6, 3) := by decide +kernel
theorem dX5_goesAhead_56 : decode cX5_goesAhead 56 = .ok (.bipush (-4), 2) := by decide +kernel
theorem dX5_goesAhead_58 : decode cX5_goesAhead 58 = .ok (.ireturn, 1) := by decide +kernel
theorem dX5_goesAhead_59 : decode cX5_goesAhead 59 = .ok (.iinc 3 1, 3) := by decide +kernel
theorem dX5_goesAhead_62 : decode cX5_goesAhead 62 = .ok (.goto (-52), 3) := by decide +kernel
theorem dX5_goesAhead_65 : decode cX5_goesAhead 65 = .ok (.iconst (-1), 1) := by decide +kernel
theorem dX5_goesAhead_66 : decode cX5_goesAhead 66 = .ok (.ireturn, 1) := by decide +kernel
set_option maxRecDepth 20000 in
theorem ggX5_makeShort_X5_goesBehind : GoodIn wsX5_makeShort wsX5_goesBehind := goodIn_r _ [7, 8, 1, 2, 9, 10, 11, 12, 13, 14, 15, 16, 17, 18, 19, 20, 21, 22, 23, 24, 25, 26, 27, 28, 29, 30, 31, 49, 50, 51, 47, 48, 52, 53, 54] rfl (by decide +kernel)
set_option maxRecDepth 20000 in
theorem gX5_makeShort_X5_goesBehind : GoodIn wsX5_makeShort (wsV RX5 47 RX5 yX5_goesBehind wsX5_goesBehind) := goodIn_app (goodIn_of _ (by decide +kernel)) ggX5_makeShort_X5_goesBehind
set_option maxRecDepth 20000 in
theorem ggX5_makeShort_X6_add : GoodIn wsX5_makeShort wsX6_add := goodIn_r _ [36, 37, 38, 47, 48] rfl (by decide +kernel)
set_option maxRecDepth 20000 in
theorem gX5_makeShort_X6_add : GoodIn wsX5_makeShort (wsV RX5 51 RX6 yX6_add wsX6_add) := goodIn_app (goodIn_of _ (by decide +kernel)) ggX5_makeShort_X6_add
set_option maxRecDepth 20000 in
theorem ggX5_makeShort_X6_removeAt : GoodIn wsX5_makeShort wsX6_removeAt := goodIn_r _ [42, 37, 38, 43, 44, 45, 46, 47, 48] rfl (by decide +kernel)
set_option maxRecDepth 20000 in
theorem gX5_makeShort_X6_removeAt : GoodIn wsX5_makeShort (wsV RX5 55 RX6 yX6_removeAt wsX6_removeAt) := goodIn_app (goodIn_of _ (by decide +kernel)) ggX5_makeShort_X6_removeAt
theorem dX5_makeShort_0 : decode cX5_makeShort 0 = .ok (.aload_n 2, 1) := by decide +kernel
theorem dX5_makeShort_1 : decode cX5_makeShort 1 = .ok (.iconst 0, 1) := by decide +kernel
theorem dX5_makeShort_2 : decode cX5_makeShort 2 = .ok (.putfield 30, 3) := by decide +kernel
theorem dX5_makeShort_5 : decode cX5_makeShort 5 = .ok (.iconst 0, 1) := by decide +kernel
theorem dX5_makeShort_6 : decode cX5_makeShort 6 = .ok (.istore_n 3, 1) := by decide +kernel
theorem dX5_makeShort_7 : decode cX5_makeShort 7 = .ok (.iload_n 3, 1) := by decide +kernel
theorem dX5_makeShort_8 : decode cX5_makeShort 8 = .ok (.aload_n 1, 1) := by decide +kernel
theorem dX5_makeShort_9 : decode cX5_makeShort 9 = .ok (.getfield 30, 3) := by decide +kernel
theorem dX5_makeShort_12 : decode cX5_makeShort 12 = .ok (.if_icmp .ge 56, 3) := by decide +kernel
theorem dX5_makeShort_15 : decode cX5_makeShort 15 = .ok (.aload_n 0, 1) := by decide +kernel
theorem dX5_makeShort_16 : decode cX5_makeShort 16 = .ok (.aload_n 2, 1) := by decide +kernel
theorem dX5_makeShort_17 : decode cX5_makeShort 17 = .ok (.aload_n 1, 1) := by decide +kernel
theorem dX5_makeShort_18 : decode cX5_makeShort 18 = .ok (.getfield 34, 3) := by decide +kernel
theorem dX5_makeShort_21 : decode cX5_makeShort 21 = .ok (.iload_n 3, 1) := by decide +kernel
theorem dX5_makeShort_22 : decode cX5_makeShort 22 = .ok (.iaload, 1) := by decide +kernel
theorem dX5_makeShort_23 : decode cX5_makeShort 23 = .ok (.invokevirtual 47, 3) := by decide +kernel
theorem dX5_makeShort_26 : decode cX5_makeShort 26 = .ok (.istore 4, 2) := by decide +kernel
theorem dX5_makeShort_28 : decode cX5_makeShort 28 = .ok (.iload 4, 2) := by decide +kernel
theorem dX5_makeShort_30 : decode cX5_makeShort 30 = .ok (.bipush (-4), 2) := by decide +kernel
theorem dX5_makeShort_32 : decode cX5_makeShort 32 = .ok (.if_icmp .ne 5, 3) := by decide +kernel
theorem dX5_makeShort_35 : decode cX5_makeShort 35 = .ok (.iconst 0, 1) := by decide +kernel
theorem dX5_makeShort_36 : decode cX5_makeShort 36 = .ok (.ireturn, 1) := by decide +kernel
theorem dX5_makeShort_37 : decode cX5_makeShort 37 = .ok (.iload 4, 2) := by decide +kernel
theorem dX5_makeShort_39 : decode cX5_makeShort 39 = .ok (.iconst (-1), 1) := by decide +kernel
theorem dX5_makeShort_40 : decode cX5_makeShort 40 = .ok (.if_icmp .ne 16, 3) := by decide +kernel
theorem dX5_makeShort_43 : decode cX5_makeShort 43 = .ok (.aload_n 2, 1) := by decide +kernel
theorem dX5_makeShort_44 : decode cX5_makeShort 44 = .ok (.aload_n 1, 1) := by decide +kernel
theorem dX5_makeShort_45 : decode cX5_makeShort 45 = .ok (.getfield 34, 3) := by decide +kernel
theorem dX5_makeShort_48 : decode cX5_makeShort 48 = .ok (.iload_n 3, 1) := by decide +kernel
theorem dX5_makeShort_49 : decode cX5_makeShort 49 = .ok (.iaload, 1) := by decide +kernel
theorem dX5_makeShort_50 : decode cX5_makeShort 50 = .ok (.invokevirtual 51, 3) := by decide +kernel
theorem dX5_makeShort_53 : decode cX5_makeShort 53 = .ok (.goto 9, 3) := by decide +kernel
theorem dX5_makeShort_56 : decode cX5_makeShort 56 = .ok (.aload_n 2, 1) := by decide +kernel
theorem dX5_makeShort_57 : decode cX5_makeShort 57 = .ok (.iload 4, 2) := by decide +kernel
theorem dX5_makeShort_59 : decode cX5_makeShort 59 = .ok (.invokevirtual 55, 3) := by decide +kernel
theorem dX5_makeShort_62 : decode cX5_makeShort 62 = .ok (.iinc 3 1, 3) := by decide +kernel
theorem dX5_makeShort_65 : decode cX5_makeShort 65 = .ok (.goto (-58), 3) := by decide +kernel
theorem dX5_makeShort_68 : decode cX5_makeShort 68 = .ok (.iconst 1, 1) := by decide +kernel
theorem dX5_makeShort_69 : decode cX5_makeShort 69 = .ok (.ireturn, 1) := by decide +kernel
set_option maxRecDepth 20000 in
theorem ggX5_makeForm_X5_makeShort : GoodIn wsX5_makeForm wsX5_makeShort := goodIn_r _ [7, 2, 8, 9, 10, 11, 6, 12, 13, 14, 15, 16, 17, 18, 19, 20, 21, 22, 23, 24, 25, 26, 27, 28, 29, 30, 31, 32, 33, 34, 35, 36, 37, 38, 39, 40, 41, 42, 43, 44, 45, 46, 47, 48, 49, 50, 51, 68, 69, 65, 66, 67, 70, 71, 72] rfl (by decide +kernel)
set_option maxRecDepth 20000 in
theorem gX5_makeForm_X5_makeShort : GoodIn wsX5_makeForm (wsV RX5 58 RX5 yX5_makeShort wsX5_makeShort) := goodIn_app (goodIn_of _ (by decide +kernel)) ggX5_makeForm_X5_makeShort
set_option maxRecDepth 20000 in
theorem ggX5_makeForm_X5_moveDowns : GoodIn wsX5_makeForm wsX5_moveDowns := goodIn_r _ [55, 2, 56, 57, 58, 6, 59, 14, 60, 61, 62, 63, 64, 13, 8, 15, 16, 17, 18, 19, 20, 21, 22, 23, 24, 25, 26, 27, 28, 29, 30, 31, 32, 33, 34, 35, 36, 44, 45, 46, 40, 47, 42, 43, 48, 49, 50, 51, 37, 38, 39, 41, 68, 69, 65, 66, 67, 70, 71, 72] rfl (by decide +kernel)
set_option maxRecDepth 20000 in
theorem gX5_makeForm_X5_moveDowns : GoodIn wsX5_makeForm (wsV RX5 62 RX5 yX5_moveDowns wsX5_moveDowns) := goodIn_app (goodIn_of _ (by decide +kernel)) ggX5_makeForm_X5_moveDowns
theorem dX5_makeForm_0 : decode cX5_makeForm 0 = .ok (.aload_n 0, 1) := by decide +kernel
theorem dX5_makeForm_1 : decode cX5_makeForm 1 = .ok (.aload_n 1, 1) := by decide +kernel
theorem dX5_makeForm_2 : decode cX5_makeForm 2 = .ok (.aload_n 0, 1) := by decide +kernel
theorem dX5_makeForm_3 : decode cX5_makeForm 3 = .ok (.getfield 18, 3) := by decide +kernel
theorem dX5_makeForm_6 : decode cX5_makeForm 6 = .ok (.invokevirtual 58, 3) := by decide +kernel
theorem dX5_makeForm_9 : decode cX5_makeForm 9 = .ok (.ifCond .ne 5, 3) := by decide +kernel
theorem dX5_makeForm_12 : decode cX5_makeForm 12 = .ok (.iconst 0, 1) := by decide +kernel
theorem dX5_makeForm_13 : decode cX5_makeForm 13 = .ok (.ireturn, 1) := by decide +kernel
theorem dX5_makeForm_14 : decode cX5_makeForm 14 = .ok (.aload_n 2, 1) := by decide +kernel
theorem dX5_makeForm_15 : decode cX5_makeForm 15 = .ok (.iconst 0, 1) := by decide +kernel
theorem dX5_makeForm_16 : decode cX5_makeForm 16 = .ok (.putfield 30, 3) := by decide +kernel
theorem dX5_makeForm_19 : decode cX5_makeForm 19 = .ok (.aload_n 0, 1) := by decide +kernel
theorem dX5_makeForm_20 : decode cX5_makeForm 20 = .ok (.aload_n 0, 1) := by decide +kernel
theorem dX5_makeForm_21 : decode cX5_makeForm 21 = .ok (.getfield 18, 3) := by decide +kernel
theorem dX5_makeForm_24 : decode cX5_makeForm 24 = .ok (.bipush 63, 2) := by decide +kernel
theorem dX5_makeForm_26 : decode cX5_makeForm 26 = .ok (.aload_n 2, 1) := by decide +kernel
theorem dX5_makeForm_27 : decode cX5_makeForm 27 = .ok (.invokevirtual 62, 3) := by decide +kernel
theorem dX5_makeForm_30 : decode cX5_makeForm 30 = .ok (.ireturn, 1) := by decide +kernel
set_option maxRecDepth 20000 in
theorem ggX5_moveDowns_X5_takeLeastDown : GoodIn wsX5_moveDowns wsX5_takeLeastDown := goodIn_r _ [6, 7, 8, 9, 10, 11, 5, 12, 13, 1, 14, 15, 16, 17, 18, 19, 20, 21, 22, 23, 24, 25, 26, 27, 28, 29, 30, 31, 32, 33, 34, 35, 36, 37, 38, 39, 40, 41, 42, 43, 44, 45, 46, 47, 54, 55, 56, 57, 58, 59, 52, 53] rfl (by decide +kernel)
set_option maxRecDepth 20000 in
theorem gX5_moveDowns_X5_takeLeastDown : GoodIn wsX5_moveDowns (wsV RX5 66 RX5 yX5_takeLeastDown wsX5_takeLeastDown) := goodIn_app (goodIn_of _ (by decide +kernel)) ggX5_moveDowns_X5_takeLeastDown
set_option maxRecDepth 20000 in
theorem ggX5_moveDowns_X6_add : GoodIn wsX5_moveDowns wsX6_add := goodIn_r _ [51, 42, 43, 52, 53] rfl (by decide +kernel)
set_option maxRecDepth 20000 in
theorem gX5_moveDowns_X6_add : GoodIn wsX5_moveDowns (wsV RX5 51 RX6 yX6_add wsX6_add) := goodIn_app (goodIn_of _ (by decide +kernel)) ggX5_moveDowns_X6_add
theorem dX5_moveDowns_0 : decode cX5_moveDowns 0 = .ok (.aload_n 1, 1) := by decide +kernel
theorem dX5_moveDowns_1 : decode cX5_moveDowns 1 = .ok (.getfield 30, 3) := by decide +kernel
theorem dX5_moveDowns_4 : decode cX5_moveDowns 4 = .ok (.istore 4, 2) := by decide +kernel
theorem dX5_moveDowns_6 : decode cX5_moveDowns 6 = .ok (.iload 4, 2) := by decide +kernel
theorem dX5_moveDowns_8 : decode cX5_moveDowns 8 = .ok (.ifCond .le 40, 3) := by decide +kernel
theorem dX5_moveDowns_11 : decode cX5_moveDowns 11 = .ok (.aload_n 0, 1) := by decide +kernel
theorem dX5_moveDowns_12 : decode cX5_moveDowns 12 = .ok (.aload_n 1, 1) := by decide +kernel
theorem dX5_moveDowns_13 : decode cX5_moveDowns 13 = .ok (.iload_n 2, 1) := by decide +kernel
theorem dX5_moveDowns_14 : decode cX5_moveDowns 14 = .ok (.invokevirtual 66, 3) := by decide +kernel
theorem dX5_moveDowns_17 : decode cX5_moveDowns 17 = .ok (.istore 5, 2) := by decide +kernel
theorem dX5_moveDowns_19 : decode cX5_moveDowns 19 = .ok (.iload 5, 2) := by decide +kernel
theorem dX5_moveDowns_21 : decode cX5_moveDowns 21 = .ok (.bipush (-4), 2) := by decide +kernel
theorem dX5_moveDowns_23 : decode cX5_moveDowns 23 = .ok (.if_icmp .ne 5, 3) := by decide +kernel
theorem dX5_moveDowns_26 : decode cX5_moveDowns 26 = .ok (.iconst 0, 1) := by decide +kernel
theorem dX5_moveDowns_27 : decode cX5_moveDowns 27 = .ok (.ireturn, 1) := by decide +kernel
theorem dX5_moveDowns_28 : decode cX5_moveDowns 28 = .ok (.iload 5, 2) := by decide +kernel
theorem dX5_moveDowns_30 : decode cX5_moveDowns 30 = .ok (.iconst (-1), 1) := by decide +kernel
theorem dX5_moveDowns_31 : decode cX5_moveDowns 31 = .ok (.if_icmp .ne 5, 3) := by decide +kernel
theorem dX5_moveDowns_34 : decode cX5_moveDowns 34 = .ok (.iconst 1, 1) := by decide +kernel
theorem dX5_moveDowns_35 : decode cX5_moveDowns 35 = .ok (.ireturn, 1) := by decide +kernel
theorem dX5_moveDowns_36 : decode cX5_moveDowns 36 = .ok (.aload_n 3, 1) := by decide +kernel
theorem dX5_moveDowns_37 : decode cX5_moveDowns 37 = .ok (.iload 5, 2) := by decide +kernel
theorem dX5_moveDowns_39 : decode cX5_moveDowns 39 = .ok (.invokevirtual 51, 3) := by decide +kernel
theorem dX5_moveDowns_42 : decode cX5_moveDowns 42 = .ok (.iinc 4 (-1), 3) := by decide +kernel
theorem dX5_moveDowns_45 : decode cX5_moveDowns 45 = .ok (.goto (-39), 3) := by decide +kernel
theorem dX5_moveDowns_48 : decode cX5_moveDowns 48 = .ok (.iconst 1, 1) := by decide +kernel
theorem dX5_moveDowns_49 : decode cX5_moveDowns 49 = .ok (.ireturn, 1) := by decide +kernel
set_option maxRecDepth 20000 in
theorem ggX5_takeLeastDown_X5_goesAhead : GoodIn wsX5_takeLeastDown wsX5_goesAhead := goodIn_r _ [7, 8, 9, 10, 1, 11, 12, 13, 14, 15, 16, 17, 18, 19, 20, 21, 22, 23, 24, 25, 26, 27, 28, 29, 30, 31, 32, 44, 45, 46, 50, 51, 47, 48, 49] rfl (by decide +kernel)
set_option maxRecDepth 20000 in
theorem gX5_takeLeastDown_X5_goesAhead : GoodIn wsX5_takeLeastDown (wsV RX5 72 RX5 yX5_goesAhead wsX5_goesAhead) := goodIn_app (goodIn_of _ (by decide +kernel)) ggX5_takeLeastDown_X5_goesAhead
set_option maxRecDepth 20000 in
theorem ggX5_takeLeastDown_X6_removeAt : GoodIn wsX5_takeLeastDown wsX6_removeAt := goodIn_r _ [37, 38, 39, 40, 41, 42, 43, 50, 51] rfl (by decide +kernel)
set_option maxRecDepth 20000 in
theorem gX5_takeLeastDown_X6_removeAt : GoodIn wsX5_takeLeastDown (wsV RX5 55 RX6 yX6_removeAt wsX6_removeAt) := goodIn_app (goodIn_of _ (by decide +kernel)) ggX5_takeLeastDown_X6_removeAt
theorem dX5_takeLeastDown_0 : decode cX5_takeLeastDown 0 = .ok (.iconst 0, 1) := by decide +kernel
theorem dX5_takeLeastDown_1 : decode cX5_takeLeastDown 1 = .ok (.istore_n 3, 1) := by decide +kernel
theorem dX5_takeLeastDown_2 : decode cX5_takeLeastDown 2 = .ok (.iload_n 3, 1) := by decide +kernel
theorem dX5_takeLeastDown_3 : decode cX5_takeLeastDown 3 = .ok (.aload_n 0, 1) := by decide +kernel
theorem dX5_takeLeastDown_4 : decode cX5_takeLeastDown 4 = .ok (.getfield 22, 3) := by decide +kernel
theorem dX5_takeLeastDown_7 : decode cX5_takeLeastDown 7 = .ok (.getfield 69, 3) := by decide +kernel
theorem dX5_takeLeastDown_10 : decode cX5_takeLeastDown 10 = .ok (.if_icmp .ge 54, 3) := by decide +kernel
theorem dX5_takeLeastDown_13 : decode cX5_takeLeastDown 13 = .ok (.iload_n 2, 1) := by decide +kernel
theorem dX5_takeLeastDown_14 : decode cX5_takeLeastDown 14 = .ok (.iload_n 3, 1) := by decide +kernel
theorem dX5_takeLeastDown_15 : decode cX5_takeLeastDown 15 = .ok (.ishr, 1) := by decide +kernel
theorem dX5_takeLeastDown_16 : decode cX5_takeLeastDown 16 = .ok (.iconst 1, 1) := by decide +kernel
theorem dX5_takeLeastDown_17 : decode cX5_takeLeastDown 17 = .ok (.iand, 1) := by decide +kernel
theorem dX5_takeLeastDown_18 : decode cX5_takeLeastDown 18 = .ok (.iconst 1, 1) := by decide +kernel
theorem dX5_takeLeastDown_19 : decode cX5_takeLeastDown 19 = .ok (.if_icmp .ne 12, 3) := by decide +kernel
theorem dX5_takeLeastDown_22 : decode cX5_takeLeastDown 22 = .ok (.aload_n 0, 1) := by decide +kernel
theorem dX5_takeLeastDown_23 : decode cX5_takeLeastDown 23 = .ok (.aload_n 1, 1) := by decide +kernel
theorem dX5_takeLeastDown_24 : decode cX5_takeLeastDown 24 = .ok (.iload_n 3, 1) := by decide +kernel
theorem dX5_takeLeastDown_25 : decode cX5_takeLeastDown 25 = .ok (.invokevirtual 72, 3) := by decide +kernel
theorem dX5_takeLeastDown_28 : decode cX5_takeLeastDown 28 = .ok (.goto 4, 3) := by decide +kernel
theorem dX5_takeLeastDown_31 : decode cX5_takeLeastDown 31 = .ok (.iconst (-1), 1) := by decide +kernel
theorem dX5_takeLeastDown_32 : decode cX5_takeLeastDown 32 = .ok (.istore 4, 2) := by decide +kernel
theorem dX5_takeLeastDown_34 : decode cX5_takeLeastDown 34 = .ok (.iload 4, 2) := by decide +kernel
theorem dX5_takeLeastDown_36 : decode cX5_takeLeastDown 36 = .ok (.bipush (-4), 2) := by decide +kernel
theorem dX5_takeLeastDown_38 : decode cX5_takeLeastDown 38 = .ok (.if_icmp .ne 6, 3) := by decide +kernel
theorem dX5_takeLeastDown_41 : decode cX5_takeLeastDown 41 = .ok (.bipush (-4), 2) := by decide +kernel
theorem dX5_takeLeastDown_43 : decode cX5_takeLeastDown 43 = .ok (.ireturn, 1) := by decide +kernel
theorem dX5_takeLeastDown_44 : decode cX5_takeLeastDown 44 = .ok (.iload 4, 2) := by decide +kernel
theorem dX5_takeLeastDown_46 : decode cX5_takeLeastDown 46 = .ok (.iconst (-1), 1) := by decide +kernel
theorem dX5_takeLeastDown_47 : decode cX5_takeLeastDown 47 = .ok (.if_icmp .eq 11, 3) := by decide +kernel
theorem dX5_takeLeastDown_50 : decode cX5_takeLeastDown 50 = .ok (.aload_n 1, 1) := by decide +kernel
theorem dX5_takeLeastDown_51 : decode cX5_takeLeastDown 51 = .ok (.iload 4, 2) := by decide +kernel
theorem dX5_takeLeastDown_53 : decode cX5_takeLeastDown 53 = .ok (.invokevirtual 55, 3) := by decide +kernel
theorem dX5_takeLeastDown_56 : decode cX5_takeLeastDown 56 = .ok (.iload_n 3, 1) := by decide +kernel
theorem dX5_takeLeastDown_57 : decode cX5_takeLeastDown 57 = .ok (.ireturn, 1) := by decide +kernel
theorem dX5_takeLeastDown_58 : decode cX5_takeLeastDown 58 = .ok (.iinc 3 1, 3) := by decide +kernel
theorem dX5_takeLeastDown_61 : decode cX5_takeLeastDown 61 = .ok (.goto (-59), 3) := by decide +kernel
theorem dX5_takeLeastDown_64 : decode cX5_takeLeastDown 64 = .ok (.iconst (-1), 1) := by decide +kernel
theorem dX5_takeLeastDown_65 : decode cX5_takeLeastDown 65 = .ok (.ireturn, 1) := by decide +kernel
theorem dX6_init_0 : decode cX6_init 0 = .ok (.aload_n 0, 1) := by decide +kernel
theorem dX6_init_1 : decode cX6_init 1 = .ok (.invokespecial 3, 3) := by decide +kernel
theorem dX6_init_4 : decode cX6_init 4 = .ok (.aload_n 0, 1) := by decide +kernel
theorem dX6_init_5 : decode cX6_init 5 = .ok (.bipush 100, 2) := by decide +kernel
theorem dX6_init_7 : decode cX6_init 7 = .ok (.newarray .int, 2) := by decide +kernel
theorem dX6_init_9 : decode cX6_init 9 = .ok (.putfield 9, 3) := by decide +kernel
theorem dX6_init_12 : decode cX6_init 12 = .ok (.return_, 1) := by decide +kernel
theorem dX6_add_0 : decode cX6_add 0 = .ok (.aload_n 0, 1) := by decide +kernel
theorem dX6_add_1 : decode cX6_add 1 = .ok (.getfield 9, 3) := by decide +kernel
theorem dX6_add_4 : decode cX6_add 4 = .ok (.aload_n 0, 1) := by decide +kernel
theorem dX6_add_5 : decode cX6_add 5 = .ok (.getfield 15, 3) := by decide +kernel
theorem dX6_add_8 : decode cX6_add 8 = .ok (.iload_n 1, 1) := by decide +kernel
theorem dX6_add_9 : decode cX6_add 9 = .ok (.iastore, 1) := by decide +kernel
theorem dX6_add_10 : decode cX6_add 10 = .ok (.aload_n 0, 1) := by decide +kernel
theorem dX6_add_11 : decode cX6_add 11 = .ok (.dup, 1) := by decide +kernel
theorem dX6_add_12 : decode cX6_add 12 = .ok (.getfield 15, 3) := by decide +kernel
theorem dX6_add_15 : decode cX6_add 15 = .ok (.iconst 1, 1) := by decide +kernel
theorem dX6_add_16 : decode cX6_add 16 = .ok (.iadd, 1) := by decide +kernel
theorem dX6_add_17 : decode cX6_add 17 = .ok (.putfield 15, 3) := by decide +kernel
theorem dX6_add_20 : decode cX6_add 20 = .ok (.return_, 1) := by decide +kernel
theorem dX6_removeAt_0 : decode cX6_removeAt 0 = .ok (.aload_n 0, 1) := by decide +kernel
theorem dX6_removeAt_1 : decode cX6_removeAt 1 = .ok (.getfield 9, 3) := by decide +kernel
theorem dX6_removeAt_4 : decode cX6_removeAt 4 = .ok (.iload_n 1, 1) := by decide +kernel
theorem dX6_removeAt_5 : decode cX6_removeAt 5 = .ok (.iconst 1, 1) := by decide +kernel
theorem dX6_removeAt_6 : decode cX6_removeAt 6 = .ok (.iadd, 1) := by decide +kernel
theorem dX6_removeAt_7 : decode cX6_removeAt 7 = .ok (.aload_n 0, 1) := by decide +kernel
theorem dX6_removeAt_8 : decode cX6_removeAt 8 = .ok (.getfield 9, 3) := by decide +kernel
theorem dX6_removeAt_11 : decode cX6_removeAt 11 = .ok (.iload_n 1, 1) := by decide +kernel
theorem dX6_removeAt_12 : decode cX6_removeAt 12 = .ok (.aload_n 0, 1) := by decide +kernel
theorem dX6_removeAt_13 : decode cX6_removeAt 13 = .ok (.getfield 15, 3) := by decide +kernel
theorem dX6_removeAt_16 : decode cX6_removeAt 16 = .ok (.iload_n 1, 1) := by decide +kernel
theorem dX6_removeAt_17 : decode cX6_removeAt 17 = .ok (.isub, 1) := by decide +kernel
theorem dX6_removeAt_18 : decode cX6_removeAt 18 = .ok (.iconst 1, 1) := by decide +kernel
theorem dX6_removeAt_19 : decode cX6_removeAt 19 = .ok (.isub, 1) := by decide +kernel
theorem dX6_removeAt_20 : decode cX6_removeAt 20 = .ok (.invokestatic 19, 3) := by decide +kernel
theorem dX6_removeAt_23 : decode cX6_removeAt 23 = .ok (.aload_n 0, 1) := by decide +kernel
theorem dX6_removeAt_24 : decode cX6_removeAt 24 = .ok (.dup, 1) := by decide +kernel
theorem dX6_removeAt_25 : decode cX6_removeAt 25 = .ok (.getfield 15, 3) := by decide +kernel
theorem dX6_removeAt_28 : decode cX6_removeAt 28 = .ok (.iconst 1, 1) := by decide +kernel
theorem dX6_removeAt_29 : decode cX6_removeAt 29 = .ok (.isub, 1) := by decide +kernel
theorem dX6_removeAt_30 : decode cX6_removeAt 30 = .ok (.putfield 15, 3) := by decide +kernel
theorem dX6_removeAt_33 : decode cX6_removeAt 33 = .ok (.return_, 1) := by decide +kernel
theorem dX6_take_0 : decode cX6_take 0 = .ok (.aload_n 1, 1) := by decide +kernel
theorem dX6_take_1 : decode cX6_take 1 = .ok (.getfield 9, 3) := by decide +kernel
theorem dX6_take_4 : decode cX6_take 4 = .ok (.iconst 0, 1) := by decide +kernel
theorem dX6_take_5 : decode cX6_take 5 = .ok (.aload_n 0, 1) := by decide +kernel
theorem dX6_take_6 : decode cX6_take 6 = .ok (.getfield 9, 3) := by decide +kernel
theorem dX6_take_9 : decode cX6_take 9 = .ok (.iconst 0, 1) := by decide +kernel
theorem dX6_take_10 : decode cX6_take 10 = .ok (.aload_n 1, 1) := by decide +kernel
theorem dX6_take_11 : decode cX6_take 11 = .ok (.getfield 15, 3) := by decide +kernel
theorem dX6_take_14 : decode cX6_take 14 = .ok (.invokestatic 19, 3) := by decide +kernel
theorem dX6_take_17 : decode cX6_take 17 = .ok (.aload_n 0, 1) := by decide +kernel
theorem dX6_take_18 : decode cX6_take 18 = .ok (.aload_n 1, 1) := by decide +kernel
theorem dX6_take_19 : decode cX6_take 19 = .ok (.getfield 15, 3) := by decide +kernel
theorem dX6_take_22 : decode cX6_take 22 = .ok (.putfield 15, 3) := by decide +kernel
theorem dX6_take_25 : decode cX6_take 25 = .ok (.return_, 1) := by decide +kernel
theorem dX6_takeInverted_0 : decode cX6_takeInverted 0 = .ok (.aload_n 0, 1) := by decide +kernel
theorem dX6_takeInverted_1 : decode cX6_takeInverted 1 = .ok (.aload_n 1, 1) := by decide +kernel
theorem dX6_takeInverted_2 : decode cX6_takeInverted 2 = .ok (.getfield 15, 3) := by decide +kernel
theorem dX6_takeInverted_5 : decode cX6_takeInverted 5 = .ok (.putfield 15, 3) := by decide +kernel
theorem dX6_takeInverted_8 : decode cX6_takeInverted 8 = .ok (.iconst 0, 1) := by decide +kernel
theorem dX6_takeInverted_9 : decode cX6_takeInverted 9 = .ok (.istore_n 2, 1) := by decide +kernel
theorem dX6_takeInverted_10 : decode cX6_takeInverted 10 = .ok (.iload_n 2, 1) := by decide +kernel
theorem dX6_takeInverted_11 : decode cX6_takeInverted 11 = .ok (.aload_n 0, 1) := by decide +kernel
theorem dX6_takeInverted_12 : decode cX6_takeInverted 12 = .ok (.getfield 15, 3) := by decide +kernel
theorem dX6_takeInverted_15 : decode cX6_takeInverted 15 = .ok (.if_icmp .ge 28, 3) := by decide +kernel
theorem dX6_takeInverted_18 : decode cX6_takeInverted 18 = .ok (.aload_n 0, 1) := by decide +kernel
theorem dX6_takeInverted_19 : decode cX6_takeInverted 19 = .ok (.getfield 9, 3) := by decide +kernel
theorem dX6_takeInverted_22 : decode cX6_takeInverted 22 = .ok (.iload_n 2, 1) := by decide +kernel
theorem dX6_takeInverted_23 : decode cX6_takeInverted 23 = .ok (.aload_n 1, 1) := by decide +kernel
theorem dX6_takeInverted_24 : decode cX6_takeInverted 24 = .ok (.getfield 9, 3) := by decide +kernel
theorem dX6_takeInverted_27 : decode cX6_takeInverted 27 = .ok (.aload_n 0, 1) := by decide +kernel
theorem dX6_takeInverted_28 : decode cX6_takeInverted 28 = .ok (.getfield 15, 3) := by decide +kernel
theorem dX6_takeInverted_31 : decode cX6_takeInverted 31 = .ok (.iconst 1, 1) := by decide +kernel
theorem dX6_takeInverted_32 : decode cX6_takeInverted 32 = .ok (.isub, 1) := by decide +kernel
theorem dX6_takeInverted_33 : decode cX6_takeInverted 33 = .ok (.iload_n 2, 1) := by decide +kernel
theorem dX6_takeInverted_34 : decode cX6_takeInverted 34 = .ok (.isub, 1) := by decide +kernel
theorem dX6_takeInverted_35 : decode cX6_takeInverted 35 = .ok (.iaload, 1) := by decide +kernel
theorem dX6_takeInverted_36 : decode cX6_takeInverted 36 = .ok (.iastore, 1) := by decide +kernel
theorem dX6_takeInverted_37 : decode cX6_takeInverted 37 = .ok (.iinc 2 1, 3) := by decide +kernel
theorem dX6_takeInverted_40 : decode cX6_takeInverted 40 = .ok (.goto (-30), 3) := by decide +kernel
theorem dX6_takeInverted_43 : decode cX6_takeInverted 43 = .ok (.return_, 1) := by decide +kernel
theorem dX6_append_0 : decode cX6_append 0 = .ok (.aload_n 1, 1) := by decide +kernel
theorem dX6_append_1 : decode cX6_append 1 = .ok (.getfield 9, 3) := by decide +kernel
theorem dX6_append_4 : decode cX6_append 4 = .ok (.iconst 0, 1) := by decide +kernel
theorem dX6_append_5 : decode cX6_append 5 = .ok (.aload_n 0, 1) := by decide +kernel
theorem dX6_append_6 : decode cX6_append 6 = .ok (.getfield 9, 3) := by decide +kernel
theorem dX6_append_9 : decode cX6_append 9 = .ok (.aload_n 0, 1) := by decide +kernel
theorem dX6_append_10 : decode cX6_append 10 = .ok (.getfield 15, 3) := by decide +kernel
theorem dX6_append_13 : decode cX6_append 13 = .ok (.aload_n 1, 1) := by decide +kernel
theorem dX6_append_14 : decode cX6_append 14 = .ok (.getfield 15, 3) := by decide +kernel
theorem dX6_append_17 : decode cX6_append 17 = .ok (.invokestatic 19, 3) := by decide +kernel
theorem dX6_append_20 : decode cX6_append 20 = .ok (.aload_n 0, 1) := by decide +kernel
theorem dX6_append_21 : decode cX6_append 21 = .ok (.dup, 1) := by decide +kernel
theorem dX6_append_22 : decode cX6_append 22 = .ok (.getfield 15, 3) := by decide +kernel
theorem dX6_append_25 : decode cX6_append 25 = .ok (.aload_n 1, 1) := by decide +kernel
theorem dX6_append_26 : decode cX6_append 26 = .ok (.getfield 15, 3) := by decide +kernel
theorem dX6_append_29 : decode cX6_append 29 = .ok (.iadd, 1) := by decide +kernel
theorem dX6_append_30 : decode cX6_append 30 = .ok (.putfield 15, 3) := by decide +kernel
theorem dX6_append_33 : decode cX6_append 33 = .ok (.return_, 1) := by decide +kernel
theorem dX6_isLike_0 : decode cX6_isLike 0 = .ok (.aload_n 0, 1) := by decide +kernel
theorem dX6_isLike_1 : decode cX6_isLike 1 = .ok (.getfield 15, 3) := by decide +kernel
theorem dX6_isLike_4 : decode cX6_isLike 4 = .ok (.aload_n 1, 1) := by decide +kernel
theorem dX6_isLike_5 : decode cX6_isLike 5 = .ok (.getfield 15, 3) := by decide +kernel
theorem dX6_isLike_8 : decode cX6_isLike 8 = .ok (.if_icmp .eq 5, 3) := by decide +kernel
theorem dX6_isLike_11 : decode cX6_isLike 11 = .ok (.iconst 0, 1) := by decide +kernel
theorem dX6_isLike_12 : decode cX6_isLike 12 = .ok (.ireturn, 1) := by decide +kernel
theorem dX6_isLike_13 : decode cX6_isLike 13 = .ok (.iconst 0, 1) := by decide +kernel
theorem dX6_isLike_14 : decode cX6_isLike 14 = .ok (.istore_n 2, 1) := by decide +kernel
theorem dX6_isLike_15 : decode cX6_isLike 15 = .ok (.iload_n 2, 1) := by decide +kernel
theorem dX6_isLike_16 : decode cX6_isLike 16 = .ok (.aload_n 0, 1) := by decide +kernel
theorem dX6_isLike_17 : decode cX6_isLike 17 = .ok (.getfield 15, 3) := by decide +kernel
theorem dX6_isLike_20 : decode cX6_isLike 20 = .ok (.if_icmp .ge 26, 3) := by decide +kernel
theorem dX6_isLike_23 : decode cX6_isLike 23 = .ok (.aload_n 0, 1) := by decide +kernel
theorem dX6_isLike_24 : decode cX6_isLike 24 = .ok (.getfield 9, 3) := by decide +kernel
theorem dX6_isLike_27 : decode cX6_isLike 27 = .ok (.iload_n 2, 1) := by decide +kernel
theorem dX6_isLike_28 : decode cX6_isLike 28 = .ok (.iaload, 1) := by decide +kernel
theorem dX6_isLike_29 : decode cX6_isLike 29 = .ok (.aload_n 1, 1) := by decide +kernel
theorem dX6_isLike_30 : decode cX6_isLike 30 = .ok (.getfield 9, 3) := by decide +kernel
theorem dX6_isLike_33 : decode cX6_isLike 33 = .ok (.iload_n 2, 1) := by decide +kernel
theorem dX6_isLike_34 : decode cX6_isLike 34 = .ok (.iaload, 1) := by decide +kernel
theorem dX6_isLike_35 : decode cX6_isLike 35 = .ok (.if_icmp .eq 5, 3) := by decide +kernel
theorem dX6_isLike_38 : decode cX6_isLike 38 = .ok (.iconst 0, 1) := by decide +kernel
theorem dX6_isLike_39 : decode cX6_isLike 39 = .ok (.ireturn, 1) := by decide +kernel
theorem dX6_isLike_40 : decode cX6_isLike 40 = .ok (.iinc 2 1, 3) := by decide +kernel
theorem dX6_isLike_43 : decode cX6_isLike 43 = .ok (.goto (-28), 3) := by decide +kernel
theorem dX6_isLike_46 : decode cX6_isLike 46 = .ok (.iconst 1, 1) := by decide +kernel
theorem dX6_isLike_47 : decode cX6_isLike 47 = .ok (.ireturn, 1) := by decide +kernel
set_option maxRecDepth 20000 in
theorem ggX7_init_X3_init : GoodIn wsX7_init wsX3_init := goodIn_r _ [40, 41, 2, 3, 42, 43, 44, 83, 84, 85] rfl (by decide +kernel)
set_option maxRecDepth 20000 in
theorem gX7_init_X3_init_n11 : GoodIn wsX7_init (wsX3_init) := ggX7_init_X3_init
set_option maxRecDepth 20000 in
theorem ggX7_init_X1_init : GoodIn wsX7_init wsX1_init := goodIn_r _ [47, 48, 2, 3, 49, 50, 5, 6, 39, 40, 41, 42, 43, 44, 98, 99, 100, 83, 84, 85] rfl (by decide +kernel)
set_option maxRecDepth 20000 in
theorem gX7_init_X1_init : GoodIn wsX7_init (wsX1_init) := ggX7_init_X1_init
set_option maxRecDepth 20000 in
theorem ggX7_init_X5_init : GoodIn wsX7_init wsX5_init := goodIn_r _ [53, 54, 2, 3, 33, 55, 56, 28, 29, 57, 58, 59, 60, 61, 42, 62, 101, 102, 103, 116, 117] rfl (by decide +kernel)
set_option maxRecDepth 20000 in
theorem gX7_init_X5_init : GoodIn wsX7_init (wsX5_init) := ggX7_init_X5_init
set_option maxRecDepth 20000 in
theorem ggX7_init_X4_init : GoodIn wsX7_init wsX4_init := goodIn_r _ [65, 66, 2, 3, 33, 67, 68, 42, 69, 70, 104, 105, 106, 107, 108, 109] rfl (by decide +kernel)
set_option maxRecDepth 20000 in
theorem gX7_init_X4_init : GoodIn wsX7_init (wsX4_init) := ggX7_init_X4_init
set_option maxRecDepth 20000 in
theorem ggX7_init_X0_init : GoodIn wsX7_init wsX0_init := goodIn_r _ [73, 74, 2, 3, 42, 75, 76, 33, 77, 78, 110, 111, 112, 113, 114, 115] rfl (by decide +kernel)
set_option maxRecDepth 20000 in
theorem gX7_init_X0_init : GoodIn wsX7_init (wsX0_init) := ggX7_init_X0_init
set_option maxRecDepth 20000 in
theorem ggX7_init_X6_init : GoodIn wsX7_init wsX6_init := goodIn_r _ [60, 61, 2, 3, 42, 62, 116, 117] rfl (by decide +kernel)
set_option maxRecDepth 20000 in
theorem gX7_init_X6_init_n58 : GoodIn wsX7_init (wsX6_init) := ggX7_init_X6_init
set_option maxRecDepth 20000 in
theorem ggX7_init_X2_init : GoodIn wsX7_init wsX2_init := goodIn_r _ [80, 81, 2, 3, 33, 82, 118, 119, 120, 121] rfl (by decide +kernel)
set_option maxRecDepth 20000 in
theorem gX7_init_X2_init_n78 : GoodIn wsX7_init (wsX2_init) := ggX7_init_X2_init
theorem dX7_init_0 : decode cX7_init 0 = .ok (.aload_n 0, 1) := by decide +kernel
theorem dX7_init_1 : decode cX7_init 1 = .ok (.invokespecial 3, 3) := by decide +kernel
theorem dX7_init_4 : decode cX7_init 4 = .ok (.aload_n 0, 1) := by decide +kernel
theorem dX7_init_5 : decode cX7_init 5 = .ok (.new 9, 3) := by decide +kernel
theorem dX7_init_8 : decode cX7_init 8 = .ok (.dup, 1) := by decide +kernel
theorem dX7_init_9 : decode cX7_init 9 = .ok (.invokespecial 11, 3) := by decide +kernel
theorem dX7_init_12 : decode cX7_init 12 = .ok (.putfield 12, 3) := by decide +kernel
theorem dX7_init_15 : decode cX7_init 15 = .ok (.aload_n 0, 1) := by decide +kernel
theorem dX7_init_16 : decode cX7_init 16 = .ok (.new 16, 3) := by decide +kernel
theorem dX7_init_19 : decode cX7_init 19 = .ok (.dup, 1) := by decide +kernel
theorem dX7_init_20 : decode cX7_init 20 = .ok (.invokespecial 18, 3) := by decide +kernel
theorem dX7_init_23 : decode cX7_init 23 = .ok (.putfield 19, 3) := by decide +kernel
theorem dX7_init_26 : decode cX7_init 26 = .ok (.aload_n 0, 1) := by decide +kernel
theorem dX7_init_27 : decode cX7_init 27 = .ok (.bipush 8, 2) := by decide +kernel
theorem dX7_init_29 : decode cX7_init 29 = .ok (.anewarray 23, 3) := by decide +kernel
theorem dX7_init_32 : decode cX7_init 32 = .ok (.putfield 25, 3) := by decide +kernel
theorem dX7_init_35 : decode cX7_init 35 = .ok (.aload_n 0, 1) := by decide +kernel
theorem dX7_init_36 : decode cX7_init 36 = .ok (.iconst 4, 1) := by decide +kernel
theorem dX7_init_37 : decode cX7_init 37 = .ok (.anewarray 29, 3) := by decide +kernel
theorem dX7_init_40 : decode cX7_init 40 = .ok (.putfield 31, 3) := by decide +kernel
theorem dX7_init_43 : decode cX7_init 43 = .ok (.aload_n 0, 1) := by decide +kernel
theorem dX7_init_44 : decode cX7_init 44 = .ok (.new 35, 3) := by decide +kernel
theorem dX7_init_47 : decode cX7_init 47 = .ok (.dup, 1) := by decide +kernel
theorem dX7_init_48 : decode cX7_init 48 = .ok (.aload_n 0, 1) := by decide +kernel
theorem dX7_init_49 : decode cX7_init 49 = .ok (.getfield 12, 3) := by decide +kernel
theorem dX7_init_52 : decode cX7_init 52 = .ok (.invokespecial 37, 3) := by decide +kernel
theorem dX7_init_55 : decode cX7_init 55 = .ok (.putfield 40, 3) := by decide +kernel
theorem dX7_init_58 : decode cX7_init 58 = .ok (.aload_n 0, 1) := by decide +kernel
theorem dX7_init_59 : decode cX7_init 59 = .ok (.new 44, 3) := by decide +kernel
theorem dX7_init_62 : decode cX7_init 62 = .ok (.dup, 1) := by decide +kernel
theorem dX7_init_63 : decode cX7_init 63 = .ok (.aload_n 0, 1) := by decide +kernel
theorem dX7_init_64 : decode cX7_init 64 = .ok (.getfield 12, 3) := by decide +kernel
theorem dX7_init_67 : decode cX7_init 67 = .ok (.invokespecial 46, 3) := by decide +kernel
theorem dX7_init_70 : decode cX7_init 70 = .ok (.putfield 47, 3) := by decide +kernel
theorem dX7_init_73 : decode cX7_init 73 = .ok (.aload_n 0, 1) := by decide +kernel
theorem dX7_init_74 : decode cX7_init 74 = .ok (.new 51, 3) := by decide +kernel
theorem dX7_init_77 : decode cX7_init 77 = .ok (.dup, 1) := by decide +kernel
theorem dX7_init_78 : decode cX7_init 78 = .ok (.aload_n 0, 1) := by decide +kernel
theorem dX7_init_79 : decode cX7_init 79 = .ok (.getfield 12, 3) := by decide +kernel
theorem dX7_init_82 : decode cX7_init 82 = .ok (.invokespecial 53, 3) := by decide +kernel
theorem dX7_init_85 : decode cX7_init 85 = .ok (.putfield 54, 3) := by decide +kernel
theorem dX7_init_88 : decode cX7_init 88 = .ok (.aload_n 0, 1) := by decide +kernel
theorem dX7_init_89 : decode cX7_init 89 = .ok (.new 23, 3) := by decide +kernel
theorem dX7_init_92 : decode cX7_init 92 = .ok (.dup, 1) := by decide +kernel
theorem dX7_init_93 : decode cX7_init 93 = .ok (.invokespecial 58, 3) := by decide +kernel
theorem dX7_init_96 : decode cX7_init 96 = .ok (.putfield 59, 3) := by decide +kernel
theorem dX7_init_99 : decode cX7_init 99 = .ok (.aload_n 0, 1) := by decide +kernel
theorem dX7_init_100 : decode cX7_init 100 = .ok (.new 23, 3) := by decide +kernel
theorem dX7_init_103 : decode cX7_init 103 = .ok (.dup, 1) := by decide +kernel
theorem dX7_init_104 : decode cX7_init 104 = .ok (.invokespecial 58, 3) := by decide +kernel
theorem dX7_init_107 : decode cX7_init 107 = .ok (.putfield 63, 3) := by decide +kernel
theorem dX7_init_110 : decode cX7_init 110 = .ok (.aload_n 0, 1) := by decide +kernel
theorem dX7_init_111 : decode cX7_init 111 = .ok (.new 23, 3) := by decide +kernel
theorem dX7_init_114 : decode cX7_init 114 = .ok (.dup, 1) := by decide +kernel
theorem dX7_init_115 : decode cX7_init 115 = .ok (.invokespecial 58, 3) := by decide +kernel
theorem dX7_init_118 : decode cX7_init 118 = .ok (.putfield 66, 3) := by decide +kernel
theorem dX7_init_121 : decode cX7_init 121 = .ok (.aload_n 0, 1) := by decide +kernel
theorem dX7_init_122 : decode cX7_init 122 = .ok (.bipush 6, 2) := by decide +kernel
theorem dX7_init_124 : decode cX7_init 124 = .ok (.newarray .long, 2) := by decide +kernel
theorem dX7_init_126 : decode cX7_init 126 = .ok (.putfield 69, 3) := by decide +kernel
theorem dX7_init_129 : decode cX7_init 129 = .ok (.aload_n 0, 1) := by decide +kernel
theorem dX7_init_130 : decode cX7_init 130 = .ok (.bipush 6, 2) := by decide +kernel
theorem dX7_init_132 : decode cX7_init 132 = .ok (.bipush 6, 2) := by decide +kernel
theorem dX7_init_134 : decode cX7_init 134 = .ok (.multianewarray 73 2, 4) := by decide +kernel
theorem dX7_init_138 : decode cX7_init 138 = .ok (.putfield 75, 3) := by decide +kernel
theorem dX7_init_141 : decode cX7_init 141 = .ok (.iconst 0, 1) := by decide +kernel
theorem dX7_init_142 : decode cX7_init 142 = .ok (.istore_n 1, 1) := by decide +kernel
theorem dX7_init_143 : decode cX7_init 143 = .ok (.iload_n 1, 1) := by decide +kernel
theorem dX7_init_144 : decode cX7_init 144 = .ok (.bipush 8, 2) := by decide +kernel
theorem dX7_init_146 : decode cX7_init 146 = .ok (.if_icmp .ge 22, 3) := by decide +kernel
theorem dX7_init_149 : decode cX7_init 149 = .ok (.aload_n 0, 1) := by decide +kernel
theorem dX7_init_150 : decode cX7_init 150 = .ok (.getfield 25, 3) := by decide +kernel
theorem dX7_init_153 : decode cX7_init 153 = .ok (.iload_n 1, 1) := by decide +kernel
theorem dX7_init_154 : decode cX7_init 154 = .ok (.new 23, 3) := by decide +kernel
theorem dX7_init_157 : decode cX7_init 157 = .ok (.dup, 1) := by decide +kernel
theorem dX7_init_158 : decode cX7_init 158 = .ok (.invokespecial 58, 3) := by decide +kernel
theorem dX7_init_161 : decode cX7_init 161 = .ok (.aastore, 1) := by decide +kernel
theorem dX7_init_162 : decode cX7_init 162 = .ok (.iinc 1 1, 3) := by decide +kernel
theorem dX7_init_165 : decode cX7_init 165 = .ok (.goto (-22), 3) := by decide +kernel
theorem dX7_init_168 : decode cX7_init 168 = .ok (.iconst 0, 1) := by decide +kernel
theorem dX7_init_169 : decode cX7_init 169 = .ok (.istore_n 1, 1) := by decide +kernel
theorem dX7_init_170 : decode cX7_init 170 = .ok (.iload_n 1, 1) := by decide +kernel
theorem dX7_init_171 : decode cX7_init 171 = .ok (.iconst 4, 1) := by decide +kernel
theorem dX7_init_172 : decode cX7_init 172 = .ok (.if_icmp .ge 22, 3) := by decide +kernel
theorem dX7_init_175 : decode cX7_init 175 = .ok (.aload_n 0, 1) := by decide +kernel
theorem dX7_init_176 : decode cX7_init 176 = .ok (.getfield 31, 3) := by decide +kernel
theorem dX7_init_179 : decode cX7_init 179 = .ok (.iload_n 1, 1) := by decide +kernel
theorem dX7_init_180 : decode cX7_init 180 = .ok (.new 29, 3) := by decide +kernel
theorem dX7_init_183 : decode cX7_init 183 = .ok (.dup, 1) := by decide +kernel
theorem dX7_init_184 : decode cX7_init 184 = .ok (.invokespecial 78, 3) := by decide +kernel
theorem dX7_init_187 : decode cX7_init 187 = .ok (.aastore, 1) := by decide +kernel
theorem dX7_init_188 : decode cX7_init 188 = .ok (.iinc 1 1, 3) := by decide +kernel
theorem dX7_init_191 : decode cX7_init 191 = .ok (.goto (-21), 3) := by decide +kernel
theorem dX7_init_194 : decode cX7_init 194 = .ok (.return_, 1) := by decide +kernel
set_option maxRecDepth 20000 in
theorem ggX7_mirror_X7_isKind : GoodIn wsX7_mirror wsX7_isKind := goodIn_r _ [7] rfl (by decide +kernel)
set_option maxRecDepth 20000 in
theorem gX7_mirror_X7_isKind : GoodIn wsX7_mirror (va_wsS RX7 79 yX7_isKind wsX7_isKind) := goodIn_app (goodIn_of _ (by decide +kernel)) ggX7_mirror_X7_isKind
set_option maxRecDepth 20000 in
theorem ggX7_mirror_X1_keep : GoodIn wsX7_mirror wsX1_keep := goodIn_r _ [12, 13, 14, 15, 16, 17, 18, 19, 20, 21, 22, 23, 24, 25, 26, 27, 69, 70, 71, 66, 67, 68] rfl (by decide +kernel)
set_option maxRecDepth 20000 in
theorem gX7_mirror_X1_keep : GoodIn wsX7_mirror (wsV RX7 87 RX1 yX1_keep wsX1_keep) := goodIn_app (goodIn_of _ (by decide +kernel)) ggX7_mirror_X1_keep
set_option maxRecDepth 20000 in
theorem ggX7_mirror_X3_addMirror : GoodIn wsX7_mirror wsX3_addMirror := goodIn_r _ [31, 21, 27, 66, 67, 68] rfl (by decide +kernel)
set_option maxRecDepth 20000 in
theorem gX7_mirror_X3_addMirror : GoodIn wsX7_mirror (wsV RX7 90 RX3 yX3_addMirror wsX3_addMirror) := goodIn_app (goodIn_of _ (by decide +kernel)) ggX7_mirror_X3_addMirror
set_option maxRecDepth 20000 in
theorem ggX7_mirror_X7_startAnew : GoodIn wsX7_mirror wsX7_startAnew := goodIn_r _ [35, 36, 37, 38, 39, 40, 41, 42, 43, 44, 45, 46, 47, 48, 49, 50, 51, 52, 53, 54, 55, 56, 57, 58, 59, 60, 61, 62, 63, 64, 65, 72, 73, 74, 75, 76, 77, 78, 79, 80, 81, 82, 83, 84, 85] rfl (by decide +kernel)
set_option maxRecDepth 20000 in
theorem gX7_mirror_X7_startAnew : GoodIn wsX7_mirror (wsV RX7 94 RX7 yX7_startAnew wsX7_startAnew) := goodIn_app (goodIn_of _ (by decide +kernel)) ggX7_mirror_X7_startAnew
theorem dX7_mirror_0 : decode cX7_mirror 0 = .ok (.iload_n 1, 1) := by decide +kernel
theorem dX7_mirror_1 : decode cX7_mirror 1 = .ok (.invokestatic 79, 3) := by decide +kernel
theorem dX7_mirror_4 : decode cX7_mirror 4 = .ok (.ifCond .ne 5, 3) := by decide +kernel
theorem dX7_mirror_7 : decode cX7_mirror 7 = .ok (.iconst (-1), 1) := by decide +kernel
theorem dX7_mirror_8 : decode cX7_mirror 8 = .ok (.ireturn, 1) := by decide +kernel
theorem dX7_mirror_9 : decode cX7_mirror 9 = .ok (.aload_n 0, 1) := by decide +kernel
theorem dX7_mirror_10 : decode cX7_mirror 10 = .ok (.getfield 12, 3) := by decide +kernel
theorem dX7_mirror_13 : decode cX7_mirror 13 = .ok (.getfield 83, 3) := by decide +kernel
theorem dX7_mirror_16 : decode cX7_mirror 16 = .ok (.bipush 6, 2) := by decide +kernel
theorem dX7_mirror_18 : decode cX7_mirror 18 = .ok (.if_icmp .ne 6, 3) := by decide +kernel
theorem dX7_mirror_21 : decode cX7_mirror 21 = .ok (.bipush (-3), 2) := by decide +kernel
theorem dX7_mirror_23 : decode cX7_mirror 23 = .ok (.ireturn, 1) := by decide +kernel
theorem dX7_mirror_24 : decode cX7_mirror 24 = .ok (.aload_n 0, 1) := by decide +kernel
theorem dX7_mirror_25 : decode cX7_mirror 25 = .ok (.getfield 19, 3) := by decide +kernel
theorem dX7_mirror_28 : decode cX7_mirror 28 = .ok (.aload_n 0, 1) := by decide +kernel
theorem dX7_mirror_29 : decode cX7_mirror 29 = .ok (.getfield 12, 3) := by decide +kernel
theorem dX7_mirror_32 : decode cX7_mirror 32 = .ok (.invokevirtual 87, 3) := by decide +kernel
theorem dX7_mirror_35 : decode cX7_mirror 35 = .ok (.aload_n 0, 1) := by decide +kernel
theorem dX7_mirror_36 : decode cX7_mirror 36 = .ok (.getfield 12, 3) := by decide +kernel
theorem dX7_mirror_39 : decode cX7_mirror 39 = .ok (.iload_n 1, 1) := by decide +kernel
theorem dX7_mirror_40 : decode cX7_mirror 40 = .ok (.invokevirtual 90, 3) := by decide +kernel
theorem dX7_mirror_43 : decode cX7_mirror 43 = .ok (.istore_n 2, 1) := by decide +kernel
theorem dX7_mirror_44 : decode cX7_mirror 44 = .ok (.aload_n 0, 1) := by decide +kernel
theorem dX7_mirror_45 : decode cX7_mirror 45 = .ok (.invokevirtual 94, 3) := by decide +kernel
theorem dX7_mirror_48 : decode cX7_mirror 48 = .ok (.iload_n 2, 1) := by decide +kernel
theorem dX7_mirror_49 : decode cX7_mirror 49 = .ok (.ireturn, 1) := by decide +kernel
set_option maxRecDepth 20000 in
theorem ggX7_meet_X3_has : GoodIn wsX7_meet wsX3_has := goodIn_r _ [7, 8, 77, 78, 79] rfl (by decide +kernel)
set_option maxRecDepth 20000 in
theorem gX7_meet_X3_has : GoodIn wsX7_meet (wsV RX7 97 RX3 yX3_has wsX3_has) := goodIn_app (goodIn_of _ (by decide +kernel)) ggX7_meet_X3_has
set_option maxRecDepth 20000 in
theorem ggX7_meet_X7_areMeetingNumbers : GoodIn wsX7_meet wsX7_areMeetingNumbers := goodIn_r _ [12] rfl (by decide +kernel)
set_option maxRecDepth 20000 in
theorem gX7_meet_X7_areMeetingNumbers : GoodIn wsX7_meet (va_wsS RX7 100 yX7_areMeetingNumbers wsX7_areMeetingNumbers) := goodIn_app (goodIn_of _ (by decide +kernel)) ggX7_meet_X7_areMeetingNumbers
set_option maxRecDepth 20000 in
theorem ggX7_meet_X1_keep : GoodIn wsX7_meet wsX1_keep := goodIn_r _ [17, 18, 19, 20, 21, 22, 23, 6, 24, 25, 26, 27, 28, 29, 30, 8, 80, 81, 82, 77, 78, 79] rfl (by decide +kernel)
set_option maxRecDepth 20000 in
theorem gX7_meet_X1_keep : GoodIn wsX7_meet (wsV RX7 87 RX1 yX1_keep wsX1_keep) := goodIn_app (goodIn_of _ (by decide +kernel)) ggX7_meet_X1_keep
set_option maxRecDepth 20000 in
theorem ggX7_meet_X3_setNumbers : GoodIn wsX7_meet wsX3_setNumbers := goodIn_r _ [34, 30, 77, 78, 79] rfl (by decide +kernel)
set_option maxRecDepth 20000 in
theorem gX7_meet_X3_setNumbers : GoodIn wsX7_meet (wsV RX7 104 RX3 yX3_setNumbers wsX3_setNumbers) := goodIn_app (goodIn_of _ (by decide +kernel)) ggX7_meet_X3_setNumbers
set_option maxRecDepth 20000 in
theorem ggX7_meet_X7_startAnew : GoodIn wsX7_meet wsX7_startAnew := goodIn_r _ [38, 39, 40, 41, 42, 43, 44, 45, 46, 47, 48, 49, 50, 51, 52, 53, 54, 55, 56, 65, 66, 67, 68, 69, 70, 71, 72, 73, 74, 75, 76, 83, 84, 85, 86, 87, 88, 89, 90, 91, 92, 93, 94, 95, 96] rfl (by decide +kernel)
set_option maxRecDepth 20000 in
theorem gX7_meet_X7_startAnew : GoodIn wsX7_meet (wsV RX7 94 RX7 yX7_startAnew wsX7_startAnew) := goodIn_app (goodIn_of _ (by decide +kernel)) ggX7_meet_X7_startAnew
set_option maxRecDepth 20000 in
theorem ggX7_meet_X3_meetsAt : GoodIn wsX7_meet wsX3_meetsAt := goodIn_r _ [60, 61, 62, 63, 6, 64, 30, 77, 78, 79] rfl (by decide +kernel)
set_option maxRecDepth 20000 in
theorem gX7_meet_X3_meetsAt : GoodIn wsX7_meet (wsV RX7 108 RX3 yX3_meetsAt wsX3_meetsAt) := goodIn_app (goodIn_of _ (by decide +kernel)) ggX7_meet_X3_meetsAt
theorem dX7_meet_0 : decode cX7_meet 0 = .ok (.aload_n 0, 1) := by decide +kernel
theorem dX7_meet_1 : decode cX7_meet 1 = .ok (.getfield 12, 3) := by decide +kernel
theorem dX7_meet_4 : decode cX7_meet 4 = .ok (.iload_n 1, 1) := by decide +kernel
theorem dX7_meet_5 : decode cX7_meet 5 = .ok (.invokevirtual 97, 3) := by decide +kernel
theorem dX7_meet_8 : decode cX7_meet 8 = .ok (.ifCond .eq 28, 3) := by decide +kernel
theorem dX7_meet_11 : decode cX7_meet 11 = .ok (.aload_n 0, 1) := by decide +kernel
theorem dX7_meet_12 : decode cX7_meet 12 = .ok (.getfield 12, 3) := by decide +kernel
theorem dX7_meet_15 : decode cX7_meet 15 = .ok (.iload_n 2, 1) := by decide +kernel
theorem dX7_meet_16 : decode cX7_meet 16 = .ok (.invokevirtual 97, 3) := by decide +kernel
theorem dX7_meet_19 : decode cX7_meet 19 = .ok (.ifCond .eq 17, 3) := by decide +kernel
theorem dX7_meet_22 : decode cX7_meet 22 = .ok (.iload_n 1, 1) := by decide +kernel
theorem dX7_meet_23 : decode cX7_meet 23 = .ok (.iload_n 2, 1) := by decide +kernel
theorem dX7_meet_24 : decode cX7_meet 24 = .ok (.if_icmp .eq 12, 3) := by decide +kernel
theorem dX7_meet_27 : decode cX7_meet 27 = .ok (.iload_n 3, 1) := by decide +kernel
theorem dX7_meet_28 : decode cX7_meet 28 = .ok (.iload 4, 2) := by decide +kernel
theorem dX7_meet_30 : decode cX7_meet 30 = .ok (.invokestatic 100, 3) := by decide +kernel
theorem dX7_meet_33 : decode cX7_meet 33 = .ok (.ifCond .ne 5, 3) := by decide +kernel
theorem dX7_meet_36 : decode cX7_meet 36 = .ok (.iconst (-1), 1) := by decide +kernel
theorem dX7_meet_37 : decode cX7_meet 37 = .ok (.ireturn, 1) := by decide +kernel
theorem dX7_meet_38 : decode cX7_meet 38 = .ok (.aload_n 0, 1) := by decide +kernel
theorem dX7_meet_39 : decode cX7_meet 39 = .ok (.getfield 19, 3) := by decide +kernel
theorem dX7_meet_42 : decode cX7_meet 42 = .ok (.aload_n 0, 1) := by decide +kernel
theorem dX7_meet_43 : decode cX7_meet 43 = .ok (.getfield 12, 3) := by decide +kernel
theorem dX7_meet_46 : decode cX7_meet 46 = .ok (.invokevirtual 87, 3) := by decide +kernel
theorem dX7_meet_49 : decode cX7_meet 49 = .ok (.aload_n 0, 1) := by decide +kernel
theorem dX7_meet_50 : decode cX7_meet 50 = .ok (.getfield 12, 3) := by decide +kernel
theorem dX7_meet_53 : decode cX7_meet 53 = .ok (.iload_n 1, 1) := by decide +kernel
theorem dX7_meet_54 : decode cX7_meet 54 = .ok (.iload_n 2, 1) := by decide +kernel
theorem dX7_meet_55 : decode cX7_meet 55 = .ok (.iload_n 3, 1) := by decide +kernel
theorem dX7_meet_56 : decode cX7_meet 56 = .ok (.iload 4, 2) := by decide +kernel
theorem dX7_meet_58 : decode cX7_meet 58 = .ok (.invokevirtual 104, 3) := by decide +kernel
theorem dX7_meet_61 : decode cX7_meet 61 = .ok (.aload_n 0, 1) := by decide +kernel
theorem dX7_meet_62 : decode cX7_meet 62 = .ok (.invokevirtual 94, 3) := by decide +kernel
theorem dX7_meet_65 : decode cX7_meet 65 = .ok (.aload_n 0, 1) := by decide +kernel
theorem dX7_meet_66 : decode cX7_meet 66 = .ok (.getfield 12, 3) := by decide +kernel
theorem dX7_meet_69 : decode cX7_meet 69 = .ok (.iload_n 1, 1) := by decide +kernel
theorem dX7_meet_70 : decode cX7_meet 70 = .ok (.iload_n 2, 1) := by decide +kernel
theorem dX7_meet_71 : decode cX7_meet 71 = .ok (.invokevirtual 108, 3) := by decide +kernel
theorem dX7_meet_74 : decode cX7_meet 74 = .ok (.ireturn, 1) := by decide +kernel
set_option maxRecDepth 20000 in
theorem ggX7_put_X7_isSlot : GoodIn wsX7_put wsX7_isSlot := goodIn_r _ [7] rfl (by decide +kernel)
set_option maxRecDepth 20000 in
theorem gX7_put_X7_isSlot : GoodIn wsX7_put (va_wsS RX7 128 yX7_isSlot wsX7_isSlot) := goodIn_app (goodIn_of _ (by decide +kernel)) ggX7_put_X7_isSlot
set_option maxRecDepth 20000 in
theorem ggX7_put_X3_has : GoodIn wsX7_put wsX3_has := goodIn_r _ [12, 13, 35, 36, 37] rfl (by decide +kernel)
set_option maxRecDepth 20000 in
theorem gX7_put_X3_has : GoodIn wsX7_put (wsV RX7 97 RX3 yX3_has wsX3_has) := goodIn_app (goodIn_of _ (by decide +kernel)) ggX7_put_X3_has
set_option maxRecDepth 20000 in
theorem ggX7_put_X6_add : GoodIn wsX7_put wsX6_add := goodIn_r _ [18, 19, 20, 33, 34] rfl (by decide +kernel)
set_option maxRecDepth 20000 in
theorem gX7_put_X6_add : GoodIn wsX7_put (wsV RX7 134 RX6 yX6_add wsX6_add) := goodIn_app (goodIn_of _ (by decide +kernel)) ggX7_put_X6_add
theorem dX7_put_0 : decode cX7_put 0 = .ok (.iload_n 1, 1) := by decide +kernel
theorem dX7_put_1 : decode cX7_put 1 = .ok (.invokestatic 128, 3) := by decide +kernel
theorem dX7_put_4 : decode cX7_put 4 = .ok (.ifCond .eq 14, 3) := by decide +kernel
theorem dX7_put_7 : decode cX7_put 7 = .ok (.aload_n 0, 1) := by decide +kernel
theorem dX7_put_8 : decode cX7_put 8 = .ok (.getfield 12, 3) := by decide +kernel
theorem dX7_put_11 : decode cX7_put 11 = .ok (.iload_n 2, 1) := by decide +kernel
theorem dX7_put_12 : decode cX7_put 12 = .ok (.invokevirtual 97, 3) := by decide +kernel
theorem dX7_put_15 : decode cX7_put 15 = .ok (.ifCond .ne 5, 3) := by decide +kernel
theorem dX7_put_18 : decode cX7_put 18 = .ok (.iconst (-1), 1) := by decide +kernel
theorem dX7_put_19 : decode cX7_put 19 = .ok (.ireturn, 1) := by decide +kernel
theorem dX7_put_20 : decode cX7_put 20 = .ok (.aload_n 0, 1) := by decide +kernel
theorem dX7_put_21 : decode cX7_put 21 = .ok (.getfield 25, 3) := by decide +kernel
theorem dX7_put_24 : decode cX7_put 24 = .ok (.iload_n 1, 1) := by decide +kernel
theorem dX7_put_25 : decode cX7_put 25 = .ok (.aaload, 1) := by decide +kernel
theorem dX7_put_26 : decode cX7_put 26 = .ok (.getfield 131, 3) := by decide +kernel
theorem dX7_put_29 : decode cX7_put 29 = .ok (.bipush 100, 2) := by decide +kernel
theorem dX7_put_31 : decode cX7_put 31 = .ok (.if_icmp .ne 6, 3) := by decide +kernel
theorem dX7_put_34 : decode cX7_put 34 = .ok (.bipush (-3), 2) := by decide +kernel
theorem dX7_put_36 : decode cX7_put 36 = .ok (.ireturn, 1) := by decide +kernel
theorem dX7_put_37 : decode cX7_put 37 = .ok (.aload_n 0, 1) := by decide +kernel
theorem dX7_put_38 : decode cX7_put 38 = .ok (.getfield 25, 3) := by decide +kernel
theorem dX7_put_41 : decode cX7_put 41 = .ok (.iload_n 1, 1) := by decide +kernel
theorem dX7_put_42 : decode cX7_put 42 = .ok (.aaload, 1) := by decide +kernel
theorem dX7_put_43 : decode cX7_put 43 = .ok (.iload_n 2, 1) := by decide +kernel
theorem dX7_put_44 : decode cX7_put 44 = .ok (.invokevirtual 134, 3) := by decide +kernel
theorem dX7_put_47 : decode cX7_put 47 = .ok (.aload_n 0, 1) := by decide +kernel
theorem dX7_put_48 : decode cX7_put 48 = .ok (.getfield 25, 3) := by decide +kernel
theorem dX7_put_51 : decode cX7_put 51 = .ok (.iload_n 1, 1) := by decide +kernel
theorem dX7_put_52 : decode cX7_put 52 = .ok (.aaload, 1) := by decide +kernel
theorem dX7_put_53 : decode cX7_put 53 = .ok (.getfield 131, 3) := by decide +kernel
theorem dX7_put_56 : decode cX7_put 56 = .ok (.ireturn, 1) := by decide +kernel
set_option maxRecDepth 20000 in
theorem ggX7_at_X7_isSlot : GoodIn wsX7_at wsX7_isSlot := goodIn_r _ [7] rfl (by decide +kernel)
set_option maxRecDepth 20000 in
theorem gX7_at_X7_isSlot : GoodIn wsX7_at (va_wsS RX7 128 yX7_isSlot wsX7_isSlot) := goodIn_app (goodIn_of _ (by decide +kernel)) ggX7_at_X7_isSlot
theorem dX7_at_0 : decode cX7_at 0 = .ok (.iload_n 1, 1) := by decide +kernel
theorem dX7_at_1 : decode cX7_at 1 = .ok (.invokestatic 128, 3) := by decide +kernel
theorem dX7_at_4 : decode cX7_at 4 = .ok (.ifCond .ne 5, 3) := by decide +kernel
theorem dX7_at_7 : decode cX7_at 7 = .ok (.iconst (-1), 1) := by decide +kernel
theorem dX7_at_8 : decode cX7_at 8 = .ok (.ireturn, 1) := by decide +kernel
theorem dX7_at_9 : decode cX7_at 9 = .ok (.aload_n 0, 1) := by decide +kernel
theorem dX7_at_10 : decode cX7_at 10 = .ok (.getfield 25, 3) := by decide +kernel
theorem dX7_at_13 : decode cX7_at 13 = .ok (.iload_n 1, 1) := by decide +kernel
theorem dX7_at_14 : decode cX7_at 14 = .ok (.aaload, 1) := by decide +kernel
theorem dX7_at_15 : decode cX7_at 15 = .ok (.astore_n 3, 1) := by decide +kernel
theorem dX7_at_16 : decode cX7_at 16 = .ok (.iload_n 2, 1) := by decide +kernel
theorem dX7_at_17 : decode cX7_at 17 = .ok (.iconst (-1), 1) := by decide +kernel
theorem dX7_at_18 : decode cX7_at 18 = .ok (.if_icmp .ne 8, 3) := by decide +kernel
theorem dX7_at_21 : decode cX7_at 21 = .ok (.aload_n 3, 1) := by decide +kernel
theorem dX7_at_22 : decode cX7_at 22 = .ok (.getfield 131, 3) := by decide +kernel
theorem dX7_at_25 : decode cX7_at 25 = .ok (.ireturn, 1) := by decide +kernel
theorem dX7_at_26 : decode cX7_at 26 = .ok (.iload_n 2, 1) := by decide +kernel
theorem dX7_at_27 : decode cX7_at 27 = .ok (.ifCond .lt 20, 3) := by decide +kernel
theorem dX7_at_30 : decode cX7_at 30 = .ok (.iload_n 2, 1) := by decide +kernel
theorem dX7_at_31 : decode cX7_at 31 = .ok (.aload_n 3, 1) := by decide +kernel
theorem dX7_at_32 : decode cX7_at 32 = .ok (.getfield 131, 3) := by decide +kernel
theorem dX7_at_35 : decode cX7_at 35 = .ok (.if_icmp .ge 12, 3) := by decide +kernel
theorem dX7_at_38 : decode cX7_at 38 = .ok (.aload_n 3, 1) := by decide +kernel
theorem dX7_at_39 : decode cX7_at 39 = .ok (.getfield 157, 3) := by decide +kernel
theorem dX7_at_42 : decode cX7_at 42 = .ok (.iload_n 2, 1) := by decide +kernel
theorem dX7_at_43 : decode cX7_at 43 = .ok (.iaload, 1) := by decide +kernel
theorem dX7_at_44 : decode cX7_at 44 = .ok (.goto 4, 3) := by decide +kernel
theorem dX7_at_47 : decode cX7_at 47 = .ok (.iconst (-1), 1) := by decide +kernel
theorem dX7_at_48 : decode cX7_at 48 = .ok (.ireturn, 1) := by decide +kernel
set_option maxRecDepth 20000 in
theorem ggX7_times_X7_isSlot : GoodIn wsX7_times wsX7_isSlot := goodIn_r _ [7] rfl (by decide +kernel)
set_option maxRecDepth 20000 in
theorem gX7_times_X7_isSlot : GoodIn wsX7_times (va_wsS RX7 128 yX7_isSlot wsX7_isSlot) := goodIn_app (goodIn_of _ (by decide +kernel)) ggX7_times_X7_isSlot
set_option maxRecDepth 20000 in
theorem ggX7_times_X6_take : GoodIn wsX7_times wsX6_take := goodIn_r _ [12, 13, 14, 15, 16, 17, 18, 39, 40] rfl (by decide +kernel)
set_option maxRecDepth 20000 in
theorem gX7_times_X6_take : GoodIn wsX7_times (wsV RX7 160 RX6 yX6_take wsX6_take) := goodIn_app (goodIn_of _ (by decide +kernel)) ggX7_times_X6_take
set_option maxRecDepth 20000 in
theorem ggX7_times_X6_append : GoodIn wsX7_times wsX6_append := goodIn_r _ [22, 13, 14, 15, 16, 17, 18, 39, 40] rfl (by decide +kernel)
set_option maxRecDepth 20000 in
theorem gX7_times_X6_append : GoodIn wsX7_times (wsV RX7 164 RX6 yX6_append wsX6_append) := goodIn_app (goodIn_of _ (by decide +kernel)) ggX7_times_X6_append
set_option maxRecDepth 20000 in
theorem ggX7_times_X7_store : GoodIn wsX7_times wsX7_store := goodIn_r _ [26, 1, 2, 8, 9, 10, 11, 12, 13, 14, 15, 16, 17, 18, 27, 28, 29, 30, 31, 32, 33, 34, 35, 36, 37, 38, 39, 40] rfl (by decide +kernel)
set_option maxRecDepth 20000 in
theorem gX7_times_X7_store : GoodIn wsX7_times (wsV RX7 153 RX7 yX7_store wsX7_store) := goodIn_app (goodIn_of _ (by decide +kernel)) ggX7_times_X7_store
theorem dX7_times_0 : decode cX7_times 0 = .ok (.iload_n 1, 1) := by decide +kernel
theorem dX7_times_1 : decode cX7_times 1 = .ok (.invokestatic 128, 3) := by decide +kernel
theorem dX7_times_4 : decode cX7_times 4 = .ok (.ifCond .eq 17, 3) := by decide +kernel
theorem dX7_times_7 : decode cX7_times 7 = .ok (.iload_n 2, 1) := by decide +kernel
theorem dX7_times_8 : decode cX7_times 8 = .ok (.invokestatic 128, 3) := by decide +kernel
theorem dX7_times_11 : decode cX7_times 11 = .ok (.ifCond .eq 10, 3) := by decide +kernel
theorem dX7_times_14 : decode cX7_times 14 = .ok (.iload_n 3, 1) := by decide +kernel
theorem dX7_times_15 : decode cX7_times 15 = .ok (.invokestatic 128, 3) := by decide +kernel
theorem dX7_times_18 : decode cX7_times 18 = .ok (.ifCond .ne 5, 3) := by decide +kernel
theorem dX7_times_21 : decode cX7_times 21 = .ok (.iconst (-1), 1) := by decide +kernel
theorem dX7_times_22 : decode cX7_times 22 = .ok (.ireturn, 1) := by decide +kernel
theorem dX7_times_23 : decode cX7_times 23 = .ok (.aload_n 0, 1) := by decide +kernel
theorem dX7_times_24 : decode cX7_times 24 = .ok (.getfield 25, 3) := by decide +kernel
theorem dX7_times_27 : decode cX7_times 27 = .ok (.iload_n 1, 1) := by decide +kernel
theorem dX7_times_28 : decode cX7_times 28 = .ok (.aaload, 1) := by decide +kernel
theorem dX7_times_29 : decode cX7_times 29 = .ok (.getfield 131, 3) := by decide +kernel
theorem dX7_times_32 : decode cX7_times 32 = .ok (.aload_n 0, 1) := by decide +kernel
theorem dX7_times_33 : decode cX7_times 33 = .ok (.getfield 25, 3) := by decide +kernel
theorem dX7_times_36 : decode cX7_times 36 = .ok (.iload_n 2, 1) := by decide +kernel
theorem dX7_times_37 : decode cX7_times 37 = .ok (.aaload, 1) := by decide +kernel
theorem dX7_times_38 : decode cX7_times 38 = .ok (.getfield 131, 3) := by decide +kernel
theorem dX7_times_41 : decode cX7_times 41 = .ok (.iadd, 1) := by decide +kernel
theorem dX7_times_42 : decode cX7_times 42 = .ok (.bipush 100, 2) := by decide +kernel
theorem dX7_times_44 : decode cX7_times 44 = .ok (.if_icmp .le 6, 3) := by decide +kernel
theorem dX7_times_47 : decode cX7_times 47 = .ok (.bipush (-3), 2) := by decide +kernel
theorem dX7_times_49 : decode cX7_times 49 = .ok (.ireturn, 1) := by decide +kernel
theorem dX7_times_50 : decode cX7_times 50 = .ok (.aload_n 0, 1) := by decide +kernel
theorem dX7_times_51 : decode cX7_times 51 = .ok (.getfield 59, 3) := by decide +kernel
theorem dX7_times_54 : decode cX7_times 54 = .ok (.aload_n 0, 1) := by decide +kernel
theorem dX7_times_55 : decode cX7_times 55 = .ok (.getfield 25, 3) := by decide +kernel
theorem dX7_times_58 : decode cX7_times 58 = .ok (.iload_n 1, 1) := by decide +kernel
theorem dX7_times_59 : decode cX7_times 59 = .ok (.aaload, 1) := by decide +kernel
theorem dX7_times_60 : decode cX7_times 60 = .ok (.invokevirtual 160, 3) := by decide +kernel
theorem dX7_times_63 : decode cX7_times 63 = .ok (.aload_n 0, 1) := by decide +kernel
theorem dX7_times_64 : decode cX7_times 64 = .ok (.getfield 59, 3) := by decide +kernel
theorem dX7_times_67 : decode cX7_times 67 = .ok (.aload_n 0, 1) := by decide +kernel
theorem dX7_times_68 : decode cX7_times 68 = .ok (.getfield 25, 3) := by decide +kernel
theorem dX7_times_71 : decode cX7_times 71 = .ok (.iload_n 2, 1) := by decide +kernel
theorem dX7_times_72 : decode cX7_times 72 = .ok (.aaload, 1) := by decide +kernel
theorem dX7_times_73 : decode cX7_times 73 = .ok (.invokevirtual 164, 3) := by decide +kernel
theorem dX7_times_76 : decode cX7_times 76 = .ok (.aload_n 0, 1) := by decide +kernel
theorem dX7_times_77 : decode cX7_times 77 = .ok (.aload_n 0, 1) := by decide +kernel
theorem dX7_times_78 : decode cX7_times 78 = .ok (.getfield 59, 3) := by decide +kernel
theorem dX7_times_81 : decode cX7_times 81 = .ok (.iload_n 3, 1) := by decide +kernel
theorem dX7_times_82 : decode cX7_times 82 = .ok (.invokevirtual 153, 3) := by decide +kernel
theorem dX7_times_85 : decode cX7_times 85 = .ok (.ireturn, 1) := by decide +kernel
set_option maxRecDepth 20000 in
theorem ggX7_back_X7_isSlot : GoodIn wsX7_back wsX7_isSlot := goodIn_r _ [6] rfl (by decide +kernel)
set_option maxRecDepth 20000 in
theorem gX7_back_X7_isSlot : GoodIn wsX7_back (va_wsS RX7 128 yX7_isSlot wsX7_isSlot) := goodIn_app (goodIn_of _ (by decide +kernel)) ggX7_back_X7_isSlot
set_option maxRecDepth 20000 in
theorem ggX7_back_X6_takeInverted : GoodIn wsX7_back wsX6_takeInverted := goodIn_r _ [11, 12, 13, 39, 40] rfl (by decide +kernel)
set_option maxRecDepth 20000 in
theorem gX7_back_X6_takeInverted : GoodIn wsX7_back (wsV RX7 167 RX6 yX6_takeInverted wsX6_takeInverted) := goodIn_app (goodIn_of _ (by decide +kernel)) ggX7_back_X6_takeInverted
set_option maxRecDepth 20000 in
theorem ggX7_back_X7_store : GoodIn wsX7_back wsX7_store := goodIn_r _ [17, 2, 18, 19, 20, 21, 10, 22, 13, 12, 23, 24, 25, 26, 27, 28, 29, 30, 31, 32, 33, 34, 35, 36, 37, 38, 39, 40] rfl (by decide +kernel)
set_option maxRecDepth 20000 in
theorem gX7_back_X7_store : GoodIn wsX7_back (wsV RX7 153 RX7 yX7_store wsX7_store) := goodIn_app (goodIn_of _ (by decide +kernel)) ggX7_back_X7_store
theorem dX7_back_0 : decode cX7_back 0 = .ok (.iload_n 1, 1) := by decide +kernel
theorem dX7_back_1 : decode cX7_back 1 = .ok (.invokestatic 128, 3) := by decide +kernel
theorem dX7_back_4 : decode cX7_back 4 = .ok (.ifCond .eq 10, 3) := by decide +kernel
theorem dX7_back_7 : decode cX7_back 7 = .ok (.iload_n 2, 1) := by decide +kernel
theorem dX7_back_8 : decode cX7_back 8 = .ok (.invokestatic 128, 3) := by decide +kernel
theorem dX7_back_11 : decode cX7_back 11 = .ok (.ifCond .ne 5, 3) := by decide +kernel
theorem dX7_back_14 : decode cX7_back 14 = .ok (.iconst (-1), 1) := by decide +kernel
theorem dX7_back_15 : decode cX7_back 15 = .ok (.ireturn, 1) := by decide +kernel
theorem dX7_back_16 : decode cX7_back 16 = .ok (.aload_n 0, 1) := by decide +kernel
theorem dX7_back_17 : decode cX7_back 17 = .ok (.getfield 59, 3) := by decide +kernel
theorem dX7_back_20 : decode cX7_back 20 = .ok (.aload_n 0, 1) := by decide +kernel
theorem dX7_back_21 : decode cX7_back 21 = .ok (.getfield 25, 3) := by decide +kernel
theorem dX7_back_24 : decode cX7_back 24 = .ok (.iload_n 1, 1) := by decide +kernel
theorem dX7_back_25 : decode cX7_back 25 = .ok (.aaload, 1) := by decide +kernel
theorem dX7_back_26 : decode cX7_back 26 = .ok (.invokevirtual 167, 3) := by decide +kernel
theorem dX7_back_29 : decode cX7_back 29 = .ok (.aload_n 0, 1) := by decide +kernel
theorem dX7_back_30 : decode cX7_back 30 = .ok (.aload_n 0, 1) := by decide +kernel
theorem dX7_back_31 : decode cX7_back 31 = .ok (.getfield 59, 3) := by decide +kernel
theorem dX7_back_34 : decode cX7_back 34 = .ok (.iload_n 2, 1) := by decide +kernel
theorem dX7_back_35 : decode cX7_back 35 = .ok (.invokevirtual 153, 3) := by decide +kernel
theorem dX7_back_38 : decode cX7_back 38 = .ok (.ireturn, 1) := by decide +kernel
set_option maxRecDepth 20000 in
theorem ggX7_form_X7_isSlot : GoodIn wsX7_form wsX7_isSlot := goodIn_r _ [7] rfl (by decide +kernel)
set_option maxRecDepth 20000 in
theorem gX7_form_X7_isSlot : GoodIn wsX7_form (va_wsS RX7 128 yX7_isSlot wsX7_isSlot) := goodIn_app (goodIn_of _ (by decide +kernel)) ggX7_form_X7_isSlot
set_option maxRecDepth 20000 in
theorem ggX7_form_X5_makeForm : GoodIn wsX7_form wsX5_makeForm := goodIn_r _ [12, 13, 14, 15, 16, 17, 11, 18, 19, 20, 21, 22, 23, 24, 25, 26, 6, 27, 28, 29, 30, 31, 32, 33, 34, 35, 36, 37, 38, 39, 40, 41, 42, 43, 44, 45, 46, 47, 48, 49, 50, 51, 52, 53, 54, 55, 56, 57, 58, 59, 60, 61, 62, 63, 64, 65, 66, 67, 68, 69, 70, 71, 72, 73, 74, 96, 97, 98, 99, 100, 101, 102, 103] rfl (by decide +kernel)
set_option maxRecDepth 20000 in
theorem gX7_form_X5_makeForm : GoodIn wsX7_form (wsV RX7 183 RX5 yX5_makeForm wsX5_makeForm) := goodIn_app (goodIn_of _ (by decide +kernel)) ggX7_form_X5_makeForm
set_option maxRecDepth 20000 in
theorem ggX7_form_X7_store : GoodIn wsX7_form wsX7_store := goodIn_r _ [78, 2, 79, 80, 81, 82, 50, 83, 52, 53, 58, 59, 60, 61, 84, 85, 86, 87, 88, 89, 90, 91, 92, 93, 94, 95, 99, 100] rfl (by decide +kernel)
set_option maxRecDepth 20000 in
theorem gX7_form_X7_store : GoodIn wsX7_form (wsV RX7 153 RX7 yX7_store wsX7_store) := goodIn_app (goodIn_of _ (by decide +kernel)) ggX7_form_X7_store
theorem dX7_form_0 : decode cX7_form 0 = .ok (.iload_n 1, 1) := by decide +kernel
theorem dX7_form_1 : decode cX7_form 1 = .ok (.invokestatic 128, 3) := by decide +kernel
theorem dX7_form_4 : decode cX7_form 4 = .ok (.ifCond .eq 10, 3) := by decide +kernel
theorem dX7_form_7 : decode cX7_form 7 = .ok (.iload_n 2, 1) := by decide +kernel
theorem dX7_form_8 : decode cX7_form 8 = .ok (.invokestatic 128, 3) := by decide +kernel
theorem dX7_form_11 : decode cX7_form 11 = .ok (.ifCond .ne 5, 3) := by decide +kernel
theorem dX7_form_14 : decode cX7_form 14 = .ok (.iconst (-1), 1) := by decide +kernel
theorem dX7_form_15 : decode cX7_form 15 = .ok (.ireturn, 1) := by decide +kernel
theorem dX7_form_16 : decode cX7_form 16 = .ok (.aload_n 0, 1) := by decide +kernel
theorem dX7_form_17 : decode cX7_form 17 = .ok (.getfield 40, 3) := by decide +kernel
theorem dX7_form_20 : decode cX7_form 20 = .ok (.aload_n 0, 1) := by decide +kernel
theorem dX7_form_21 : decode cX7_form 21 = .ok (.getfield 25, 3) := by decide +kernel
theorem dX7_form_24 : decode cX7_form 24 = .ok (.iload_n 1, 1) := by decide +kernel
theorem dX7_form_25 : decode cX7_form 25 = .ok (.aaload, 1) := by decide +kernel
theorem dX7_form_26 : decode cX7_form 26 = .ok (.aload_n 0, 1) := by decide +kernel
theorem dX7_form_27 : decode cX7_form 27 = .ok (.getfield 59, 3) := by decide +kernel
theorem dX7_form_30 : decode cX7_form 30 = .ok (.invokevirtual 183, 3) := by decide +kernel
theorem dX7_form_33 : decode cX7_form 33 = .ok (.ifCond .eq 15, 3) := by decide +kernel
theorem dX7_form_36 : decode cX7_form 36 = .ok (.aload_n 0, 1) := by decide +kernel
theorem dX7_form_37 : decode cX7_form 37 = .ok (.aload_n 0, 1) := by decide +kernel
theorem dX7_form_38 : decode cX7_form 38 = .ok (.getfield 59, 3) := by decide +kernel
theorem dX7_form_41 : decode cX7_form 41 = .ok (.iload_n 2, 1) := by decide +kernel
theorem dX7_form_42 : decode cX7_form 42 = .ok (.invokevirtual 153, 3) := by decide +kernel
theorem dX7_form_45 : decode cX7_form 45 = .ok (.goto 5, 3) := by decide +kernel
theorem dX7_form_48 : decode cX7_form 48 = .ok (.bipush (-4), 2) := by decide +kernel
theorem dX7_form_50 : decode cX7_form 50 = .ok (.ireturn, 1) := by decide +kernel
set_option maxRecDepth 20000 in
theorem ggX7_same_X7_isSlot : GoodIn wsX7_same wsX7_isSlot := goodIn_r _ [8] rfl (by decide +kernel)
set_option maxRecDepth 20000 in
theorem gX7_same_X7_isSlot : GoodIn wsX7_same (va_wsS RX7 128 yX7_isSlot wsX7_isSlot) := goodIn_app (goodIn_of _ (by decide +kernel)) ggX7_same_X7_isSlot
set_option maxRecDepth 20000 in
theorem ggX7_same_X5_makeForm : GoodIn wsX7_same wsX5_makeForm := goodIn_r _ [13, 14, 15, 16, 17, 18, 12, 19, 20, 21, 22, 23, 24, 25, 26, 27, 7, 28, 29, 30, 31, 32, 33, 34, 35, 36, 37, 38, 39, 40, 41, 42, 43, 44, 45, 46, 47, 48, 49, 50, 51, 52, 53, 54, 55, 56, 57, 58, 59, 60, 61, 62, 63, 64, 65, 66, 67, 68, 69, 70, 71, 72, 73, 74, 75, 92, 93, 94, 95, 96, 97, 98, 99] rfl (by decide +kernel)
set_option maxRecDepth 20000 in
theorem gX7_same_X5_makeForm : GoodIn wsX7_same (wsV RX7 183 RX5 yX5_makeForm wsX5_makeForm) := goodIn_app (goodIn_of _ (by decide +kernel)) ggX7_same_X5_makeForm
set_option maxRecDepth 20000 in
theorem ggX7_same_X6_isLike : GoodIn wsX7_same wsX6_isLike := goodIn_r _ [79, 54, 53, 95, 96] rfl (by decide +kernel)
set_option maxRecDepth 20000 in
theorem gX7_same_X6_isLike : GoodIn wsX7_same (wsV RX7 186 RX6 yX6_isLike wsX6_isLike) := goodIn_app (goodIn_of _ (by decide +kernel)) ggX7_same_X6_isLike
theorem dX7_same_0 : decode cX7_same 0 = .ok (.iload_n 1, 1) := by decide +kernel
theorem dX7_same_1 : decode cX7_same 1 = .ok (.invokestatic 128, 3) := by decide +kernel
theorem dX7_same_4 : decode cX7_same 4 = .ok (.ifCond .eq 10, 3) := by decide +kernel
theorem dX7_same_7 : decode cX7_same 7 = .ok (.iload_n 2, 1) := by decide +kernel
theorem dX7_same_8 : decode cX7_same 8 = .ok (.invokestatic 128, 3) := by decide +kernel
theorem dX7_same_11 : decode cX7_same 11 = .ok (.ifCond .ne 5, 3) := by decide +kernel
theorem dX7_same_14 : decode cX7_same 14 = .ok (.iconst (-1), 1) := by decide +kernel
theorem dX7_same_15 : decode cX7_same 15 = .ok (.ireturn, 1) := by decide +kernel
theorem dX7_same_16 : decode cX7_same 16 = .ok (.aload_n 0, 1) := by decide +kernel
theorem dX7_same_17 : decode cX7_same 17 = .ok (.getfield 40, 3) := by decide +kernel
theorem dX7_same_20 : decode cX7_same 20 = .ok (.aload_n 0, 1) := by decide +kernel
theorem dX7_same_21 : decode cX7_same 21 = .ok (.getfield 25, 3) := by decide +kernel
theorem dX7_same_24 : decode cX7_same 24 = .ok (.iload_n 1, 1) := by decide +kernel
theorem dX7_same_25 : decode cX7_same 25 = .ok (.aaload, 1) := by decide +kernel
theorem dX7_same_26 : decode cX7_same 26 = .ok (.aload_n 0, 1) := by decide +kernel
theorem dX7_same_27 : decode cX7_same 27 = .ok (.getfield 59, 3) := by decide +kernel
theorem dX7_same_30 : decode cX7_same 30 = .ok (.invokevirtual 183, 3) := by decide +kernel
theorem dX7_same_33 : decode cX7_same 33 = .ok (.ifCond .eq 23, 3) := by decide +kernel
theorem dX7_same_36 : decode cX7_same 36 = .ok (.aload_n 0, 1) := by decide +kernel
theorem dX7_same_37 : decode cX7_same 37 = .ok (.getfield 40, 3) := by decide +kernel
theorem dX7_same_40 : decode cX7_same 40 = .ok (.aload_n 0, 1) := by decide +kernel
theorem dX7_same_41 : decode cX7_same 41 = .ok (.getfield 25, 3) := by decide +kernel
theorem dX7_same_44 : decode cX7_same 44 = .ok (.iload_n 2, 1) := by decide +kernel
theorem dX7_same_45 : decode cX7_same 45 = .ok (.aaload, 1) := by decide +kernel
theorem dX7_same_46 : decode cX7_same 46 = .ok (.aload_n 0, 1) := by decide +kernel
theorem dX7_same_47 : decode cX7_same 47 = .ok (.getfield 63, 3) := by decide +kernel
theorem dX7_same_50 : decode cX7_same 50 = .ok (.invokevirtual 183, 3) := by decide +kernel
theorem dX7_same_53 : decode cX7_same 53 = .ok (.ifCond .ne 6, 3) := by decide +kernel
theorem dX7_same_56 : decode cX7_same 56 = .ok (.bipush (-4), 2) := by decide +kernel
theorem dX7_same_58 : decode cX7_same 58 = .ok (.ireturn, 1) := by decide +kernel
theorem dX7_same_59 : decode cX7_same 59 = .ok (.aload_n 0, 1) := by decide +kernel
theorem dX7_same_60 : decode cX7_same 60 = .ok (.getfield 59, 3) := by decide +kernel
theorem dX7_same_63 : decode cX7_same 63 = .ok (.aload_n 0, 1) := by decide +kernel
theorem dX7_same_64 : decode cX7_same 64 = .ok (.getfield 63, 3) := by decide +kernel
theorem dX7_same_67 : decode cX7_same 67 = .ok (.invokevirtual 186, 3) := by decide +kernel
theorem dX7_same_70 : decode cX7_same 70 = .ok (.ifCond .eq 7, 3) := by decide +kernel
theorem dX7_same_73 : decode cX7_same 73 = .ok (.iconst 1, 1) := by decide +kernel
theorem dX7_same_74 : decode cX7_same 74 = .ok (.goto 4, 3) := by decide +kernel
theorem dX7_same_77 : decode cX7_same 77 = .ok (.iconst 0, 1) := by decide +kernel
theorem dX7_same_78 : decode cX7_same 78 = .ok (.ireturn, 1) := by decide +kernel
set_option maxRecDepth 20000 in
theorem ggX7_way_X7_isSlot : GoodIn wsX7_way wsX7_isSlot := goodIn_r _ [7] rfl (by decide +kernel)
set_option maxRecDepth 20000 in
theorem gX7_way_X7_isSlot : GoodIn wsX7_way (va_wsS RX7 128 yX7_isSlot wsX7_isSlot) := goodIn_app (goodIn_of _ (by decide +kernel)) ggX7_way_X7_isSlot
set_option maxRecDepth 20000 in
theorem ggX7_way_X7_joinWay : GoodIn wsX7_way wsX7_joinWay := goodIn_r _ [11, 12, 13, 2, 14, 15, 16, 17, 18, 19, 20, 21, 22, 23, 24, 25, 26, 27, 28, 97, 98, 99, 100, 101, 102, 103, 104, 105, 106, 107, 108, 109, 110] rfl (by decide +kernel)
set_option maxRecDepth 20000 in
theorem gX7_way_X7_joinWay : GoodIn wsX7_way (wsV RX7 253 RX7 yX7_joinWay wsX7_joinWay) := goodIn_app (goodIn_of _ (by decide +kernel)) ggX7_way_X7_joinWay
set_option maxRecDepth 20000 in
theorem ggX7_way_X5_makeForm : GoodIn wsX7_way wsX5_makeForm := goodIn_r _ [33, 34, 35, 36, 37, 38, 32, 39, 40, 41, 42, 43, 44, 45, 46, 47, 6, 48, 49, 50, 51, 52, 53, 54, 55, 56, 57, 58, 59, 60, 61, 62, 63, 64, 65, 66, 67, 68, 69, 70, 17, 71, 20, 19, 72, 73, 74, 75, 25, 26, 27, 28, 76, 77, 78, 79, 80, 81, 82, 83, 84, 85, 86, 87, 88, 111, 112, 113, 109, 110, 114, 115, 116] rfl (by decide +kernel)
set_option maxRecDepth 20000 in
theorem gX7_way_X5_makeForm : GoodIn wsX7_way (wsV RX7 183 RX5 yX5_makeForm wsX5_makeForm) := goodIn_app (goodIn_of _ (by decide +kernel)) ggX7_way_X5_makeForm
set_option maxRecDepth 20000 in
theorem ggX7_way_X7_store : GoodIn wsX7_way wsX7_store := goodIn_r _ [92, 12, 13, 93, 94, 95, 17, 96, 20, 19, 25, 26, 27, 28, 97, 98, 99, 100, 101, 102, 103, 104, 105, 106, 107, 108, 109, 110] rfl (by decide +kernel)
set_option maxRecDepth 20000 in
theorem gX7_way_X7_store : GoodIn wsX7_way (wsV RX7 153 RX7 yX7_store wsX7_store) := goodIn_app (goodIn_of _ (by decide +kernel)) ggX7_way_X7_store
theorem dX7_way_0 : decode cX7_way 0 = .ok (.iload_n 1, 1) := by decide +kernel
theorem dX7_way_1 : decode cX7_way 1 = .ok (.invokestatic 128, 3) := by decide +kernel
theorem dX7_way_4 : decode cX7_way 4 = .ok (.ifCond .eq 17, 3) := by decide +kernel
theorem dX7_way_7 : decode cX7_way 7 = .ok (.iload_n 2, 1) := by decide +kernel
theorem dX7_way_8 : decode cX7_way 8 = .ok (.invokestatic 128, 3) := by decide +kernel
theorem dX7_way_11 : decode cX7_way 11 = .ok (.ifCond .eq 10, 3) := by decide +kernel
theorem dX7_way_14 : decode cX7_way 14 = .ok (.iload_n 3, 1) := by decide +kernel
theorem dX7_way_15 : decode cX7_way 15 = .ok (.invokestatic 128, 3) := by decide +kernel
theorem dX7_way_18 : decode cX7_way 18 = .ok (.ifCond .ne 5, 3) := by decide +kernel
theorem dX7_way_21 : decode cX7_way 21 = .ok (.iconst (-1), 1) := by decide +kernel
theorem dX7_way_22 : decode cX7_way 22 = .ok (.ireturn, 1) := by decide +kernel
theorem dX7_way_23 : decode cX7_way 23 = .ok (.aload_n 0, 1) := by decide +kernel
theorem dX7_way_24 : decode cX7_way 24 = .ok (.iload_n 1, 1) := by decide +kernel
theorem dX7_way_25 : decode cX7_way 25 = .ok (.iload_n 2, 1) := by decide +kernel
theorem dX7_way_26 : decode cX7_way 26 = .ok (.invokevirtual 253, 3) := by decide +kernel
theorem dX7_way_29 : decode cX7_way 29 = .ok (.ifCond .ne 6, 3) := by decide +kernel
theorem dX7_way_32 : decode cX7_way 32 = .ok (.bipush (-3), 2) := by decide +kernel
theorem dX7_way_34 : decode cX7_way 34 = .ok (.ireturn, 1) := by decide +kernel
theorem dX7_way_35 : decode cX7_way 35 = .ok (.aload_n 0, 1) := by decide +kernel
theorem dX7_way_36 : decode cX7_way 36 = .ok (.getfield 40, 3) := by decide +kernel
theorem dX7_way_39 : decode cX7_way 39 = .ok (.aload_n 0, 1) := by decide +kernel
theorem dX7_way_40 : decode cX7_way 40 = .ok (.getfield 66, 3) := by decide +kernel
theorem dX7_way_43 : decode cX7_way 43 = .ok (.aload_n 0, 1) := by decide +kernel
theorem dX7_way_44 : decode cX7_way 44 = .ok (.getfield 59, 3) := by decide +kernel
theorem dX7_way_47 : decode cX7_way 47 = .ok (.invokevirtual 183, 3) := by decide +kernel
theorem dX7_way_50 : decode cX7_way 50 = .ok (.ifCond .eq 15, 3) := by decide +kernel
theorem dX7_way_53 : decode cX7_way 53 = .ok (.aload_n 0, 1) := by decide +kernel
theorem dX7_way_54 : decode cX7_way 54 = .ok (.aload_n 0, 1) := by decide +kernel
theorem dX7_way_55 : decode cX7_way 55 = .ok (.getfield 59, 3) := by decide +kernel
theorem dX7_way_58 : decode cX7_way 58 = .ok (.iload_n 3, 1) := by decide +kernel
theorem dX7_way_59 : decode cX7_way 59 = .ok (.invokevirtual 153, 3) := by decide +kernel
theorem dX7_way_62 : decode cX7_way 62 = .ok (.goto 5, 3) := by decide +kernel
theorem dX7_way_65 : decode cX7_way 65 = .ok (.bipush (-4), 2) := by decide +kernel
theorem dX7_way_67 : decode cX7_way 67 = .ok (.ireturn, 1) := by decide +kernel
set_option maxRecDepth 20000 in
theorem ggX7_wall_X7_isSlot : GoodIn wsX7_wall wsX7_isSlot := goodIn_r _ [14] rfl (by decide +kernel)
set_option maxRecDepth 20000 in
theorem gX7_wall_X7_isSlot : GoodIn wsX7_wall (va_wsS RX7 128 yX7_isSlot wsX7_isSlot) := goodIn_app (goodIn_of _ (by decide +kernel)) ggX7_wall_X7_isSlot
set_option maxRecDepth 20000 in
theorem ggX7_wall_X3_has : GoodIn wsX7_wall wsX3_has := goodIn_r _ [19, 20, 122, 123, 124] rfl (by decide +kernel)
set_option maxRecDepth 20000 in
theorem gX7_wall_X3_has : GoodIn wsX7_wall (wsV RX7 97 RX3 yX3_has wsX3_has) := goodIn_app (goodIn_of _ (by decide +kernel)) ggX7_wall_X3_has
set_option maxRecDepth 20000 in
theorem ggX7_wall_X7_joinWay : GoodIn wsX7_wall wsX7_joinWay := goodIn_r _ [24, 10, 7, 4, 25, 26, 27, 28, 29, 30, 31, 32, 33, 34, 35, 36, 37, 38, 39, 108, 109, 110, 111, 112, 113, 114, 115, 116, 117, 118, 119, 120, 121] rfl (by decide +kernel)
set_option maxRecDepth 20000 in
theorem gX7_wall_X7_joinWay : GoodIn wsX7_wall (wsV RX7 253 RX7 yX7_joinWay wsX7_joinWay) := goodIn_app (goodIn_of _ (by decide +kernel)) ggX7_wall_X7_joinWay
set_option maxRecDepth 20000 in
theorem ggX7_wall_X5_makeForm : GoodIn wsX7_wall wsX5_makeForm := goodIn_r _ [44, 45, 46, 47, 48, 49, 43, 50, 51, 52, 53, 54, 55, 56, 57, 58, 13, 59, 60, 61, 62, 63, 64, 65, 66, 67, 68, 18, 69, 70, 71, 72, 73, 74, 75, 20, 76, 77, 78, 79, 28, 80, 31, 30, 81, 82, 83, 84, 36, 37, 38, 39, 85, 86, 87, 88, 89, 90, 91, 92, 93, 94, 95, 96, 97, 125, 126, 127, 120, 121, 122, 123, 124] rfl (by decide +kernel)
set_option maxRecDepth 20000 in
theorem gX7_wall_X5_makeForm : GoodIn wsX7_wall (wsV RX7 183 RX5 yX5_makeForm wsX5_makeForm) := goodIn_app (goodIn_of _ (by decide +kernel)) ggX7_wall_X5_makeForm
set_option maxRecDepth 20000 in
theorem ggX7_wall_X7_setOwn : GoodIn wsX7_wall wsX7_setOwn := goodIn_r _ [59, 60, 61, 62, 63] rfl (by decide +kernel)
set_option maxRecDepth 20000 in
theorem gX7_wall_X7_setOwn : GoodIn wsX7_wall (va_wsS RX7 198 yX7_setOwn wsX7_setOwn) := goodIn_app (goodIn_of _ (by decide +kernel)) ggX7_wall_X7_setOwn
set_option maxRecDepth 20000 in
theorem ggX7_wall_X3_turnBy : GoodIn wsX7_wall wsX3_turnBy := goodIn_r _ [102, 103, 104, 67, 68, 18, 69, 70, 71, 72, 73, 74, 75, 20, 76, 120, 121, 122, 123, 124] rfl (by decide +kernel)
set_option maxRecDepth 20000 in
theorem gX7_wall_X3_turnBy : GoodIn wsX7_wall (wsV RX7 202 RX3 yX3_turnBy wsX3_turnBy) := goodIn_app (goodIn_of _ (by decide +kernel)) ggX7_wall_X3_turnBy
set_option maxRecDepth 20000 in
theorem ggX7_wall_X7_hasBelowZero : GoodIn wsX7_wall wsX7_hasBelowZero := goodIn_r _ [107] rfl (by decide +kernel)
set_option maxRecDepth 20000 in
theorem gX7_wall_X7_hasBelowZero : GoodIn wsX7_wall (va_wsS RX7 256 yX7_hasBelowZero wsX7_hasBelowZero) := goodIn_app (goodIn_of _ (by decide +kernel)) ggX7_wall_X7_hasBelowZero
theorem dX7_wall_0 : decode cX7_wall 0 = .ok (.iload_n 1, 1) := by decide +kernel
theorem dX7_wall_1 : decode cX7_wall 1 = .ok (.invokestatic 128, 3) := by decide +kernel
theorem dX7_wall_4 : decode cX7_wall 4 = .ok (.ifCond .eq 35, 3) := by decide +kernel
theorem dX7_wall_7 : decode cX7_wall 7 = .ok (.iload_n 2, 1) := by decide +kernel
theorem dX7_wall_8 : decode cX7_wall 8 = .ok (.invokestatic 128, 3) := by decide +kernel
theorem dX7_wall_11 : decode cX7_wall 11 = .ok (.ifCond .eq 28, 3) := by decide +kernel
theorem dX7_wall_14 : decode cX7_wall 14 = .ok (.iload_n 3, 1) := by decide +kernel
theorem dX7_wall_15 : decode cX7_wall 15 = .ok (.ifCond .lt 24, 3) := by decide +kernel
theorem dX7_wall_18 : decode cX7_wall 18 = .ok (.aload_n 0, 1) := by decide +kernel
theorem dX7_wall_19 : decode cX7_wall 19 = .ok (.getfield 12, 3) := by decide +kernel
theorem dX7_wall_22 : decode cX7_wall 22 = .ok (.iload 4, 2) := by decide +kernel
theorem dX7_wall_24 : decode cX7_wall 24 = .ok (.invokevirtual 97, 3) := by decide +kernel
theorem dX7_wall_27 : decode cX7_wall 27 = .ok (.ifCond .eq 12, 3) := by decide +kernel
theorem dX7_wall_30 : decode cX7_wall 30 = .ok (.aload_n 0, 1) := by decide +kernel
theorem dX7_wall_31 : decode cX7_wall 31 = .ok (.iload_n 1, 1) := by decide +kernel
theorem dX7_wall_32 : decode cX7_wall 32 = .ok (.iload_n 2, 1) := by decide +kernel
theorem dX7_wall_33 : decode cX7_wall 33 = .ok (.invokevirtual 253, 3) := by decide +kernel
theorem dX7_wall_36 : decode cX7_wall 36 = .ok (.ifCond .ne 7, 3) := by decide +kernel
theorem dX7_wall_39 : decode cX7_wall 39 = .ok (.ldc2_w 196, 3) := by decide +kernel
theorem dX7_wall_42 : decode cX7_wall 42 = .ok (.lreturn, 1) := by decide +kernel
theorem dX7_wall_43 : decode cX7_wall 43 = .ok (.aload_n 0, 1) := by decide +kernel
theorem dX7_wall_44 : decode cX7_wall 44 = .ok (.getfield 40, 3) := by decide +kernel
theorem dX7_wall_47 : decode cX7_wall 47 = .ok (.aload_n 0, 1) := by decide +kernel
theorem dX7_wall_48 : decode cX7_wall 48 = .ok (.getfield 66, 3) := by decide +kernel
theorem dX7_wall_51 : decode cX7_wall 51 = .ok (.aload_n 0, 1) := by decide +kernel
theorem dX7_wall_52 : decode cX7_wall 52 = .ok (.getfield 59, 3) := by decide +kernel
theorem dX7_wall_55 : decode cX7_wall 55 = .ok (.invokevirtual 183, 3) := by decide +kernel
theorem dX7_wall_58 : decode cX7_wall 58 = .ok (.ifCond .ne 7, 3) := by decide +kernel
theorem dX7_wall_61 : decode cX7_wall 61 = .ok (.ldc2_w 206, 3) := by decide +kernel
theorem dX7_wall_64 : decode cX7_wall 64 = .ok (.lreturn, 1) := by decide +kernel
theorem dX7_wall_65 : decode cX7_wall 65 = .ok (.iload_n 3, 1) := by decide +kernel
theorem dX7_wall_66 : decode cX7_wall 66 = .ok (.aload_n 0, 1) := by decide +kernel
theorem dX7_wall_67 : decode cX7_wall 67 = .ok (.getfield 59, 3) := by decide +kernel
theorem dX7_wall_70 : decode cX7_wall 70 = .ok (.getfield 131, 3) := by decide +kernel
theorem dX7_wall_73 : decode cX7_wall 73 = .ok (.if_icmp .lt 7, 3) := by decide +kernel
theorem dX7_wall_76 : decode cX7_wall 76 = .ok (.ldc2_w 196, 3) := by decide +kernel
theorem dX7_wall_79 : decode cX7_wall 79 = .ok (.lreturn, 1) := by decide +kernel
theorem dX7_wall_80 : decode cX7_wall 80 = .ok (.aload_n 0, 1) := by decide +kernel
theorem dX7_wall_81 : decode cX7_wall 81 = .ok (.getfield 69, 3) := by decide +kernel
theorem dX7_wall_84 : decode cX7_wall 84 = .ok (.aload_n 0, 1) := by decide +kernel
theorem dX7_wall_85 : decode cX7_wall 85 = .ok (.getfield 59, 3) := by decide +kernel
theorem dX7_wall_88 : decode cX7_wall 88 = .ok (.getfield 157, 3) := by decide +kernel
theorem dX7_wall_91 : decode cX7_wall 91 = .ok (.iload_n 3, 1) := by decide +kernel
theorem dX7_wall_92 : decode cX7_wall 92 = .ok (.iaload, 1) := by decide +kernel
theorem dX7_wall_93 : decode cX7_wall 93 = .ok (.invokestatic 198, 3) := by decide +kernel
theorem dX7_wall_96 : decode cX7_wall 96 = .ok (.aload_n 0, 1) := by decide +kernel
theorem dX7_wall_97 : decode cX7_wall 97 = .ok (.getfield 12, 3) := by decide +kernel
theorem dX7_wall_100 : decode cX7_wall 100 = .ok (.aload_n 0, 1) := by decide +kernel
theorem dX7_wall_101 : decode cX7_wall 101 = .ok (.getfield 59, 3) := by decide +kernel
theorem dX7_wall_104 : decode cX7_wall 104 = .ok (.iload_n 3, 1) := by decide +kernel
theorem dX7_wall_105 : decode cX7_wall 105 = .ok (.aload_n 0, 1) := by decide +kernel
theorem dX7_wall_106 : decode cX7_wall 106 = .ok (.getfield 69, 3) := by decide +kernel
theorem dX7_wall_109 : decode cX7_wall 109 = .ok (.invokevirtual 202, 3) := by decide +kernel
theorem dX7_wall_112 : decode cX7_wall 112 = .ok (.ifCond .eq 32, 3) := by decide +kernel
theorem dX7_wall_115 : decode cX7_wall 115 = .ok (.aload_n 0, 1) := by decide +kernel
theorem dX7_wall_116 : decode cX7_wall 116 = .ok (.getfield 12, 3) := by decide +kernel
theorem dX7_wall_119 : decode cX7_wall 119 = .ok (.aload_n 0, 1) := by decide +kernel
theorem dX7_wall_120 : decode cX7_wall 120 = .ok (.getfield 25, 3) := by decide +kernel
theorem dX7_wall_123 : decode cX7_wall 123 = .ok (.iload_n 1, 1) := by decide +kernel
theorem dX7_wall_124 : decode cX7_wall 124 = .ok (.aaload, 1) := by decide +kernel
theorem dX7_wall_125 : decode cX7_wall 125 = .ok (.aload_n 0, 1) := by decide +kernel
theorem dX7_wall_126 : decode cX7_wall 126 = .ok (.getfield 25, 3) := by decide +kernel
theorem dX7_wall_129 : decode cX7_wall 129 = .ok (.iload_n 1, 1) := by decide +kernel
theorem dX7_wall_130 : decode cX7_wall 130 = .ok (.aaload, 1) := by decide +kernel
theorem dX7_wall_131 : decode cX7_wall 131 = .ok (.getfield 131, 3) := by decide +kernel
theorem dX7_wall_134 : decode cX7_wall 134 = .ok (.aload_n 0, 1) := by decide +kernel
theorem dX7_wall_135 : decode cX7_wall 135 = .ok (.getfield 69, 3) := by decide +kernel
theorem dX7_wall_138 : decode cX7_wall 138 = .ok (.invokevirtual 202, 3) := by decide +kernel
theorem dX7_wall_141 : decode cX7_wall 141 = .ok (.ifCond .ne 7, 3) := by decide +kernel
theorem dX7_wall_144 : decode cX7_wall 144 = .ok (.ldc2_w 206, 3) := by decide +kernel
theorem dX7_wall_147 : decode cX7_wall 147 = .ok (.lreturn, 1) := by decide +kernel
theorem dX7_wall_148 : decode cX7_wall 148 = .ok (.aload_n 0, 1) := by decide +kernel
theorem dX7_wall_149 : decode cX7_wall 149 = .ok (.getfield 69, 3) := by decide +kernel
theorem dX7_wall_152 : decode cX7_wall 152 = .ok (.invokestatic 256, 3) := by decide +kernel
theorem dX7_wall_155 : decode cX7_wall 155 = .ok (.ifCond .eq 14, 3) := by decide +kernel
theorem dX7_wall_158 : decode cX7_wall 158 = .ok (.aload_n 0, 1) := by decide +kernel
theorem dX7_wall_159 : decode cX7_wall 159 = .ok (.getfield 69, 3) := by decide +kernel
theorem dX7_wall_162 : decode cX7_wall 162 = .ok (.iload 4, 2) := by decide +kernel
theorem dX7_wall_164 : decode cX7_wall 164 = .ok (.laload, 1) := by decide +kernel
theorem dX7_wall_165 : decode cX7_wall 165 = .ok (.lneg, 1) := by decide +kernel
theorem dX7_wall_166 : decode cX7_wall 166 = .ok (.goto 10, 3) := by decide +kernel
theorem dX7_wall_169 : decode cX7_wall 169 = .ok (.aload_n 0, 1) := by decide +kernel
theorem dX7_wall_170 : decode cX7_wall 170 = .ok (.getfield 69, 3) := by decide +kernel
theorem dX7_wall_173 : decode cX7_wall 173 = .ok (.iload 4, 2) := by decide +kernel
theorem dX7_wall_175 : decode cX7_wall 175 = .ok (.laload, 1) := by decide +kernel
theorem dX7_wall_176 : decode cX7_wall 176 = .ok (.lreturn, 1) := by decide +kernel
theorem dX7_isKind_0 : decode cX7_isKind 0 = .ok (.iload_n 0, 1) := by decide +kernel
theorem dX7_isKind_1 : decode cX7_isKind 1 = .ok (.ifCond .lt 12, 3) := by decide +kernel
theorem dX7_isKind_4 : decode cX7_isKind 4 = .ok (.iload_n 0, 1) := by decide +kernel
theorem dX7_isKind_5 : decode cX7_isKind 5 = .ok (.iconst 3, 1) := by decide +kernel
theorem dX7_isKind_6 : decode cX7_isKind 6 = .ok (.if_icmp .ge 7, 3) := by decide +kernel
theorem dX7_isKind_9 : decode cX7_isKind 9 = .ok (.iconst 1, 1) := by decide +kernel
theorem dX7_isKind_10 : decode cX7_isKind 10 = .ok (.goto 4, 3) := by decide +kernel
theorem dX7_isKind_13 : decode cX7_isKind 13 = .ok (.iconst 0, 1) := by decide +kernel
theorem dX7_isKind_14 : decode cX7_isKind 14 = .ok (.ireturn, 1) := by decide +kernel
theorem dX7_isSlot_0 : decode cX7_isSlot 0 = .ok (.iload_n 0, 1) := by decide +kernel
theorem dX7_isSlot_1 : decode cX7_isSlot 1 = .ok (.ifCond .lt 13, 3) := by decide +kernel
theorem dX7_isSlot_4 : decode cX7_isSlot 4 = .ok (.iload_n 0, 1) := by decide +kernel
theorem dX7_isSlot_5 : decode cX7_isSlot 5 = .ok (.bipush 8, 2) := by decide +kernel
theorem dX7_isSlot_7 : decode cX7_isSlot 7 = .ok (.if_icmp .ge 7, 3) := by decide +kernel
theorem dX7_isSlot_10 : decode cX7_isSlot 10 = .ok (.iconst 1, 1) := by decide +kernel
theorem dX7_isSlot_11 : decode cX7_isSlot 11 = .ok (.goto 4, 3) := by decide +kernel
theorem dX7_isSlot_14 : decode cX7_isSlot 14 = .ok (.iconst 0, 1) := by decide +kernel
theorem dX7_isSlot_15 : decode cX7_isSlot 15 = .ok (.ireturn, 1) := by decide +kernel
theorem dX7_areMeetingNumbers_0 : decode cX7_areMeetingNumbers 0 = .ok (.iload_n 0, 1) := by decide +kernel
theorem dX7_areMeetingNumbers_1 : decode cX7_areMeetingNumbers 1 = .ok (.ifCond .lt 17, 3) := by decide +kernel
theorem dX7_areMeetingNumbers_4 : decode cX7_areMeetingNumbers 4 = .ok (.iload_n 1, 1) := by decide +kernel
theorem dX7_areMeetingNumbers_5 : decode cX7_areMeetingNumbers 5 = .ok (.ifCond .lt 13, 3) := by decide +kernel
theorem dX7_areMeetingNumbers_8 : decode cX7_areMeetingNumbers 8 = .ok (.iload_n 0, 1) := by decide +kernel
theorem dX7_areMeetingNumbers_9 : decode cX7_areMeetingNumbers 9 = .ok (.iconst 4, 1) := by decide +kernel
theorem dX7_areMeetingNumbers_10 : decode cX7_areMeetingNumbers 10 = .ok (.if_icmp .gt 8, 3) := by decide +kernel
theorem dX7_areMeetingNumbers_13 : decode cX7_areMeetingNumbers 13 = .ok (.iload_n 1, 1) := by decide +kernel
theorem dX7_areMeetingNumbers_14 : decode cX7_areMeetingNumbers 14 = .ok (.iconst 4, 1) := by decide +kernel
theorem dX7_areMeetingNumbers_15 : decode cX7_areMeetingNumbers 15 = .ok (.if_icmp .le 5, 3) := by decide +kernel
theorem dX7_areMeetingNumbers_18 : decode cX7_areMeetingNumbers 18 = .ok (.iconst 0, 1) := by decide +kernel
theorem dX7_areMeetingNumbers_19 : decode cX7_areMeetingNumbers 19 = .ok (.ireturn, 1) := by decide +kernel
theorem dX7_areMeetingNumbers_20 : decode cX7_areMeetingNumbers 20 = .ok (.iload_n 0, 1) := by decide +kernel
theorem dX7_areMeetingNumbers_21 : decode cX7_areMeetingNumbers 21 = .ok (.ifCond .ne 7, 3) := by decide +kernel
theorem dX7_areMeetingNumbers_24 : decode cX7_areMeetingNumbers 24 = .ok (.iconst 1, 1) := by decide +kernel
theorem dX7_areMeetingNumbers_25 : decode cX7_areMeetingNumbers 25 = .ok (.goto 4, 3) := by decide +kernel
theorem dX7_areMeetingNumbers_28 : decode cX7_areMeetingNumbers 28 = .ok (.iconst 0, 1) := by decide +kernel
theorem dX7_areMeetingNumbers_29 : decode cX7_areMeetingNumbers 29 = .ok (.iload_n 1, 1) := by decide +kernel
theorem dX7_areMeetingNumbers_30 : decode cX7_areMeetingNumbers 30 = .ok (.ifCond .ne 7, 3) := by decide +kernel
theorem dX7_areMeetingNumbers_33 : decode cX7_areMeetingNumbers 33 = .ok (.iconst 1, 1) := by decide +kernel
theorem dX7_areMeetingNumbers_34 : decode cX7_areMeetingNumbers 34 = .ok (.goto 4, 3) := by decide +kernel
theorem dX7_areMeetingNumbers_37 : decode cX7_areMeetingNumbers 37 = .ok (.iconst 0, 1) := by decide +kernel
theorem dX7_areMeetingNumbers_38 : decode cX7_areMeetingNumbers 38 = .ok (.if_icmp .ne 14, 3) := by decide +kernel
theorem dX7_areMeetingNumbers_41 : decode cX7_areMeetingNumbers 41 = .ok (.iload_n 0, 1) := by decide +kernel
theorem dX7_areMeetingNumbers_42 : decode cX7_areMeetingNumbers 42 = .ok (.iload_n 1, 1) := by decide +kernel
theorem dX7_areMeetingNumbers_43 : decode cX7_areMeetingNumbers 43 = .ok (.imul, 1) := by decide +kernel
theorem dX7_areMeetingNumbers_44 : decode cX7_areMeetingNumbers 44 = .ok (.iconst 4, 1) := by decide +kernel
theorem dX7_areMeetingNumbers_45 : decode cX7_areMeetingNumbers 45 = .ok (.if_icmp .gt 7, 3) := by decide +kernel
theorem dX7_areMeetingNumbers_48 : decode cX7_areMeetingNumbers 48 = .ok (.iconst 1, 1) := by decide +kernel
theorem dX7_areMeetingNumbers_49 : decode cX7_areMeetingNumbers 49 = .ok (.goto 4, 3) := by decide +kernel
theorem dX7_areMeetingNumbers_52 : decode cX7_areMeetingNumbers 52 = .ok (.iconst 0, 1) := by decide +kernel
theorem dX7_areMeetingNumbers_53 : decode cX7_areMeetingNumbers 53 = .ok (.ireturn, 1) := by decide +kernel
set_option maxRecDepth 20000 in
theorem ggX7_setOwn_J7_fill_d0a16 : GoodIn wsX7_setOwn wsJ7_fill_d0a16 := goodIn_r _ [4] rfl (by decide +kernel)
set_option maxRecDepth 20000 in
theorem gX7_setOwn_J7_fill_d0a16 : GoodIn wsX7_setOwn (va_wsS RX7 282 yJ7_fill_d0a16 wsJ7_fill_d0a16) := goodIn_app (goodIn_of _ (by decide +kernel)) ggX7_setOwn_J7_fill_d0a16
theorem dX7_setOwn_0 : decode cX7_setOwn 0 = .ok (.aload_n 0, 1) := by decide +kernel
theorem dX7_setOwn_1 : decode cX7_setOwn 1 = .ok (.lconst 0, 1) := by decide +kernel
theorem dX7_setOwn_2 : decode cX7_setOwn 2 = .ok (.invokestatic 282, 3) := by decide +kernel
theorem dX7_setOwn_5 : decode cX7_setOwn 5 = .ok (.aload_n 0, 1) := by decide +kernel
theorem dX7_setOwn_6 : decode cX7_setOwn 6 = .ok (.iload_n 1, 1) := by decide +kernel
theorem dX7_setOwn_7 : decode cX7_setOwn 7 = .ok (.lconst 1, 1) := by decide +kernel
theorem dX7_setOwn_8 : decode cX7_setOwn 8 = .ok (.lastore, 1) := by decide +kernel
theorem dX7_setOwn_9 : decode cX7_setOwn 9 = .ok (.return_, 1) := by decide +kernel
theorem dX7_isOwn_0 : decode cX7_isOwn 0 = .ok (.aload_n 0, 1) := by decide +kernel
theorem dX7_isOwn_1 : decode cX7_isOwn 1 = .ok (.iload_n 1, 1) := by decide +kernel
theorem dX7_isOwn_2 : decode cX7_isOwn 2 = .ok (.laload, 1) := by decide +kernel
theorem dX7_isOwn_3 : decode cX7_isOwn 3 = .ok (.lconst 1, 1) := by decide +kernel
theorem dX7_isOwn_4 : decode cX7_isOwn 4 = .ok (.lcmp, 1) := by decide +kernel
theorem dX7_isOwn_5 : decode cX7_isOwn 5 = .ok (.ifCond .eq 5, 3) := by decide +kernel
theorem dX7_isOwn_8 : decode cX7_isOwn 8 = .ok (.iconst 0, 1) := by decide +kernel
theorem dX7_isOwn_9 : decode cX7_isOwn 9 = .ok (.ireturn, 1) := by decide +kernel
theorem dX7_isOwn_10 : decode cX7_isOwn 10 = .ok (.iconst 0, 1) := by decide +kernel
theorem dX7_isOwn_11 : decode cX7_isOwn 11 = .ok (.istore_n 2, 1) := by decide +kernel
theorem dX7_isOwn_12 : decode cX7_isOwn 12 = .ok (.iload_n 2, 1) := by decide +kernel
theorem dX7_isOwn_13 : decode cX7_isOwn 13 = .ok (.aload_n 0, 1) := by decide +kernel
theorem dX7_isOwn_14 : decode cX7_isOwn 14 = .ok (.arraylength, 1) := by decide +kernel
theorem dX7_isOwn_15 : decode cX7_isOwn 15 = .ok (.if_icmp .ge 24, 3) := by decide +kernel
theorem dX7_isOwn_18 : decode cX7_isOwn 18 = .ok (.iload_n 2, 1) := by decide +kernel
theorem dX7_isOwn_19 : decode cX7_isOwn 19 = .ok (.iload_n 1, 1) := by decide +kernel
theorem dX7_isOwn_20 : decode cX7_isOwn 20 = .ok (.if_icmp .eq 13, 3) := by decide +kernel
theorem dX7_isOwn_23 : decode cX7_isOwn 23 = .ok (.aload_n 0, 1) := by decide +kernel
theorem dX7_isOwn_24 : decode cX7_isOwn 24 = .ok (.iload_n 2, 1) := by decide +kernel
theorem dX7_isOwn_25 : decode cX7_isOwn 25 = .ok (.laload, 1) := by decide +kernel
theorem dX7_isOwn_26 : decode cX7_isOwn 26 = .ok (.lconst 0, 1) := by decide +kernel
theorem dX7_isOwn_27 : decode cX7_isOwn 27 = .ok (.lcmp, 1) := by decide +kernel
theorem dX7_isOwn_28 : decode cX7_isOwn 28 = .ok (.ifCond .eq 5, 3) := by decide +kernel
theorem dX7_isOwn_31 : decode cX7_isOwn 31 = .ok (.iconst 0, 1) := by decide +kernel
theorem dX7_isOwn_32 : decode cX7_isOwn 32 = .ok (.ireturn, 1) := by decide +kernel
theorem dX7_isOwn_33 : decode cX7_isOwn 33 = .ok (.iinc 2 1, 3) := by decide +kernel
theorem dX7_isOwn_36 : decode cX7_isOwn 36 = .ok (.goto (-24), 3) := by decide +kernel
theorem dX7_isOwn_39 : decode cX7_isOwn 39 = .ok (.iconst 1, 1) := by decide +kernel
theorem dX7_isOwn_40 : decode cX7_isOwn 40 = .ok (.ireturn, 1) := by decide +kernel
theorem dX7_hasBelowZero_0 : decode cX7_hasBelowZero 0 = .ok (.iconst 0, 1) := by decide +kernel
theorem dX7_hasBelowZero_1 : decode cX7_hasBelowZero 1 = .ok (.istore_n 1, 1) := by decide +kernel
theorem dX7_hasBelowZero_2 : decode cX7_hasBelowZero 2 = .ok (.iload_n 1, 1) := by decide +kernel
theorem dX7_hasBelowZero_3 : decode cX7_hasBelowZero 3 = .ok (.aload_n 0, 1) := by decide +kernel
theorem dX7_hasBelowZero_4 : decode cX7_hasBelowZero 4 = .ok (.arraylength, 1) := by decide +kernel
theorem dX7_hasBelowZero_5 : decode cX7_hasBelowZero 5 = .ok (.if_icmp .ge 19, 3) := by decide +kernel
theorem dX7_hasBelowZero_8 : decode cX7_hasBelowZero 8 = .ok (.aload_n 0, 1) := by decide +kernel
theorem dX7_hasBelowZero_9 : decode cX7_hasBelowZero 9 = .ok (.iload_n 1, 1) := by decide +kernel
theorem dX7_hasBelowZero_10 : decode cX7_hasBelowZero 10 = .ok (.laload, 1) := by decide +kernel
theorem dX7_hasBelowZero_11 : decode cX7_hasBelowZero 11 = .ok (.lconst 0, 1) := by decide +kernel
theorem dX7_hasBelowZero_12 : decode cX7_hasBelowZero 12 = .ok (.lcmp, 1) := by decide +kernel
theorem dX7_hasBelowZero_13 : decode cX7_hasBelowZero 13 = .ok (.ifCond .ge 5, 3) := by decide +kernel
theorem dX7_hasBelowZero_16 : decode cX7_hasBelowZero 16 = .ok (.iconst 1, 1) := by decide +kernel
theorem dX7_hasBelowZero_17 : decode cX7_hasBelowZero 17 = .ok (.ireturn, 1) := by decide +kernel
theorem dX7_hasBelowZero_18 : decode cX7_hasBelowZero 18 = .ok (.iinc 1 1, 3) := by decide +kernel
theorem dX7_hasBelowZero_21 : decode cX7_hasBelowZero 21 = .ok (.goto (-19), 3) := by decide +kernel
theorem dX7_hasBelowZero_24 : decode cX7_hasBelowZero 24 = .ok (.iconst 0, 1) := by decide +kernel
theorem dX7_hasBelowZero_25 : decode cX7_hasBelowZero 25 = .ok (.ireturn, 1) := by decide +kernel
set_option maxRecDepth 20000 in
theorem ggX7_startAnew_X4_forget : GoodIn wsX7_startAnew wsX4_forget := goodIn_r _ [9, 10, 11, 33, 34, 35, 36, 37, 38] rfl (by decide +kernel)
set_option maxRecDepth 20000 in
theorem gX7_startAnew_X4_forget : GoodIn wsX7_startAnew (wsV RX7 288 RX4 yX4_forget wsX4_forget) := goodIn_app (goodIn_of _ (by decide +kernel)) ggX7_startAnew_X4_forget
set_option maxRecDepth 20000 in
theorem ggX7_startAnew_X0_forget : GoodIn wsX7_startAnew wsX0_forget := goodIn_r _ [16, 17, 18, 39, 40, 41, 42, 43, 44] rfl (by decide +kernel)
set_option maxRecDepth 20000 in
theorem gX7_startAnew_X0_forget : GoodIn wsX7_startAnew (wsV RX7 291 RX0 yX0_forget wsX0_forget) := goodIn_app (goodIn_of _ (by decide +kernel)) ggX7_startAnew_X0_forget
theorem dX7_startAnew_0 : decode cX7_startAnew 0 = .ok (.iconst 0, 1) := by decide +kernel
theorem dX7_startAnew_1 : decode cX7_startAnew 1 = .ok (.istore_n 1, 1) := by decide +kernel
theorem dX7_startAnew_2 : decode cX7_startAnew 2 = .ok (.iload_n 1, 1) := by decide +kernel
theorem dX7_startAnew_3 : decode cX7_startAnew 3 = .ok (.bipush 8, 2) := by decide +kernel
theorem dX7_startAnew_5 : decode cX7_startAnew 5 = .ok (.if_icmp .ge 19, 3) := by decide +kernel
theorem dX7_startAnew_8 : decode cX7_startAnew 8 = .ok (.aload_n 0, 1) := by decide +kernel
theorem dX7_startAnew_9 : decode cX7_startAnew 9 = .ok (.getfield 25, 3) := by decide +kernel
theorem dX7_startAnew_12 : decode cX7_startAnew 12 = .ok (.iload_n 1, 1) := by decide +kernel
theorem dX7_startAnew_13 : decode cX7_startAnew 13 = .ok (.aaload, 1) := by decide +kernel
theorem dX7_startAnew_14 : decode cX7_startAnew 14 = .ok (.iconst 0, 1) := by decide +kernel
theorem dX7_startAnew_15 : decode cX7_startAnew 15 = .ok (.putfield 131, 3) := by decide +kernel
theorem dX7_startAnew_18 : decode cX7_startAnew 18 = .ok (.iinc 1 1, 3) := by decide +kernel
theorem dX7_startAnew_21 : decode cX7_startAnew 21 = .ok (.goto (-19), 3) := by decide +kernel
theorem dX7_startAnew_24 : decode cX7_startAnew 24 = .ok (.aload_n 0, 1) := by decide +kernel
theorem dX7_startAnew_25 : decode cX7_startAnew 25 = .ok (.getfield 47, 3) := by decide +kernel
theorem dX7_startAnew_28 : decode cX7_startAnew 28 = .ok (.invokevirtual 288, 3) := by decide +kernel
theorem dX7_startAnew_31 : decode cX7_startAnew 31 = .ok (.aload_n 0, 1) := by decide +kernel
theorem dX7_startAnew_32 : decode cX7_startAnew 32 = .ok (.getfield 54, 3) := by decide +kernel
theorem dX7_startAnew_35 : decode cX7_startAnew 35 = .ok (.invokevirtual 291, 3) := by decide +kernel
theorem dX7_startAnew_38 : decode cX7_startAnew 38 = .ok (.return_, 1) := by decide +kernel
set_option maxRecDepth 20000 in
theorem ggX7_store_X6_take : GoodIn wsX7_store wsX6_take := goodIn_r _ [7, 8, 9, 10, 11, 12, 13, 26, 27] rfl (by decide +kernel)
set_option maxRecDepth 20000 in
theorem gX7_store_X6_take : GoodIn wsX7_store (wsV RX7 160 RX6 yX6_take wsX6_take) := goodIn_app (goodIn_of _ (by decide +kernel)) ggX7_store_X6_take
theorem dX7_store_0 : decode cX7_store 0 = .ok (.aload_n 0, 1) := by decide +kernel
theorem dX7_store_1 : decode cX7_store 1 = .ok (.getfield 25, 3) := by decide +kernel
theorem dX7_store_4 : decode cX7_store 4 = .ok (.iload_n 2, 1) := by decide +kernel
theorem dX7_store_5 : decode cX7_store 5 = .ok (.aaload, 1) := by decide +kernel
theorem dX7_store_6 : decode cX7_store 6 = .ok (.aload_n 1, 1) := by decide +kernel
theorem dX7_store_7 : decode cX7_store 7 = .ok (.invokevirtual 160, 3) := by decide +kernel
theorem dX7_store_10 : decode cX7_store 10 = .ok (.aload_n 1, 1) := by decide +kernel
theorem dX7_store_11 : decode cX7_store 11 = .ok (.getfield 131, 3) := by decide +kernel
theorem dX7_store_14 : decode cX7_store 14 = .ok (.ireturn, 1) := by decide +kernel
set_option maxRecDepth 20000 in
theorem ggX7_joinWay_X6_takeInverted : GoodIn wsX7_joinWay wsX6_takeInverted := goodIn_r _ [8, 9, 10, 31, 32] rfl (by decide +kernel)
set_option maxRecDepth 20000 in
theorem gX7_joinWay_X6_takeInverted : GoodIn wsX7_joinWay (wsV RX7 167 RX6 yX6_takeInverted wsX6_takeInverted) := goodIn_app (goodIn_of _ (by decide +kernel)) ggX7_joinWay_X6_takeInverted
set_option maxRecDepth 20000 in
theorem ggX7_joinWay_X6_append : GoodIn wsX7_joinWay wsX6_append := goodIn_r _ [14, 10, 9, 15, 16, 17, 18, 31, 32] rfl (by decide +kernel)
set_option maxRecDepth 20000 in
theorem gX7_joinWay_X6_append : GoodIn wsX7_joinWay (wsV RX7 164 RX6 yX6_append wsX6_append) := goodIn_app (goodIn_of _ (by decide +kernel)) ggX7_joinWay_X6_append
theorem dX7_joinWay_0 : decode cX7_joinWay 0 = .ok (.aload_n 0, 1) := by decide +kernel
theorem dX7_joinWay_1 : decode cX7_joinWay 1 = .ok (.getfield 25, 3) := by decide +kernel
theorem dX7_joinWay_4 : decode cX7_joinWay 4 = .ok (.iload_n 1, 1) := by decide +kernel
theorem dX7_joinWay_5 : decode cX7_joinWay 5 = .ok (.aaload, 1) := by decide +kernel
theorem dX7_joinWay_6 : decode cX7_joinWay 6 = .ok (.getfield 131, 3) := by decide +kernel
theorem dX7_joinWay_9 : decode cX7_joinWay 9 = .ok (.aload_n 0, 1) := by decide +kernel
theorem dX7_joinWay_10 : decode cX7_joinWay 10 = .ok (.getfield 25, 3) := by decide +kernel
theorem dX7_joinWay_13 : decode cX7_joinWay 13 = .ok (.iload_n 2, 1) := by decide +kernel
theorem dX7_joinWay_14 : decode cX7_joinWay 14 = .ok (.aaload, 1) := by decide +kernel
theorem dX7_joinWay_15 : decode cX7_joinWay 15 = .ok (.getfield 131, 3) := by decide +kernel
theorem dX7_joinWay_18 : decode cX7_joinWay 18 = .ok (.iadd, 1) := by decide +kernel
theorem dX7_joinWay_19 : decode cX7_joinWay 19 = .ok (.bipush 100, 2) := by decide +kernel
theorem dX7_joinWay_21 : decode cX7_joinWay 21 = .ok (.if_icmp .le 5, 3) := by decide +kernel
theorem dX7_joinWay_24 : decode cX7_joinWay 24 = .ok (.iconst 0, 1) := by decide +kernel
theorem dX7_joinWay_25 : decode cX7_joinWay 25 = .ok (.ireturn, 1) := by decide +kernel
theorem dX7_joinWay_26 : decode cX7_joinWay 26 = .ok (.aload_n 0, 1) := by decide +kernel
theorem dX7_joinWay_27 : decode cX7_joinWay 27 = .ok (.getfield 66, 3) := by decide +kernel
theorem dX7_joinWay_30 : decode cX7_joinWay 30 = .ok (.aload_n 0, 1) := by decide +kernel
theorem dX7_joinWay_31 : decode cX7_joinWay 31 = .ok (.getfield 25, 3) := by decide +kernel
theorem dX7_joinWay_34 : decode cX7_joinWay 34 = .ok (.iload_n 1, 1) := by decide +kernel
theorem dX7_joinWay_35 : decode cX7_joinWay 35 = .ok (.aaload, 1) := by decide +kernel
theorem dX7_joinWay_36 : decode cX7_joinWay 36 = .ok (.invokevirtual 167, 3) := by decide +kernel
theorem dX7_joinWay_39 : decode cX7_joinWay 39 = .ok (.aload_n 0, 1) := by decide +kernel
theorem dX7_joinWay_40 : decode cX7_joinWay 40 = .ok (.getfield 66, 3) := by decide +kernel
theorem dX7_joinWay_43 : decode cX7_joinWay 43 = .ok (.aload_n 0, 1) := by decide +kernel
theorem dX7_joinWay_44 : decode cX7_joinWay 44 = .ok (.getfield 25, 3) := by decide +kernel
theorem dX7_joinWay_47 : decode cX7_joinWay 47 = .ok (.iload_n 2, 1) := by decide +kernel
theorem dX7_joinWay_48 : decode cX7_joinWay 48 = .ok (.aaload, 1) := by decide +kernel
theorem dX7_joinWay_49 : decode cX7_joinWay 49 = .ok (.invokevirtual 164, 3) := by decide +kernel
theorem dX7_joinWay_52 : decode cX7_joinWay 52 = .ok (.iconst 1, 1) := by decide +kernel
theorem dX7_joinWay_53 : decode cX7_joinWay 53 = .ok (.ireturn, 1) := by decide +kernel
theorem dJ7_fill_d0a16_0 : decode cJ7_fill_d0a16 0 = .ok (.iconst 0, 1) := by decide +kernel
theorem dJ7_fill_d0a16_1 : decode cJ7_fill_d0a16 1 = .ok (.istore_n 3, 1) := by decide +kernel
theorem dJ7_fill_d0a16_2 : decode cJ7_fill_d0a16 2 = .ok (.aload_n 0, 1) := by decide +kernel
theorem dJ7_fill_d0a16_3 : decode cJ7_fill_d0a16 3 = .ok (.arraylength, 1) := by decide +kernel
theorem dJ7_fill_d0a16_4 : decode cJ7_fill_d0a16 4 = .ok (.istore 4, 2) := by decide +kernel
theorem dJ7_fill_d0a16_6 : decode cJ7_fill_d0a16 6 = .ok (.iload_n 3, 1) := by decide +kernel
theorem dJ7_fill_d0a16_7 : decode cJ7_fill_d0a16 7 = .ok (.iload 4, 2) := by decide +kernel
theorem dJ7_fill_d0a16_9 : decode cJ7_fill_d0a16 9 = .ok (.if_icmp .ge 13, 3) := by decide +kernel
theorem dJ7_fill_d0a16_12 : decode cJ7_fill_d0a16 12 = .ok (.aload_n 0, 1) := by decide +kernel
theorem dJ7_fill_d0a16_13 : decode cJ7_fill_d0a16 13 = .ok (.iload_n 3, 1) := by decide +kernel
theorem dJ7_fill_d0a16_14 : decode cJ7_fill_d0a16 14 = .ok (.lload_n 1, 1) := by decide +kernel
theorem dJ7_fill_d0a16_15 : decode cJ7_fill_d0a16 15 = .ok (.lastore, 1) := by decide +kernel
theorem dJ7_fill_d0a16_16 : decode cJ7_fill_d0a16 16 = .ok (.iinc 3 1, 3) := by decide +kernel
theorem dJ7_fill_d0a16_19 : decode cJ7_fill_d0a16 19 = .ok (.goto (-13), 3) := by decide +kernel
theorem dJ7_fill_d0a16_22 : decode cJ7_fill_d0a16 22 = .ok (.return_, 1) := by decide +kernel
