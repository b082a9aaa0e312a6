theorem dX0_init_0 : decode cX0_init 0 = .ok (.aload_n 0, 1) := by decide +kernel
theorem dX0_init_1 : decode cX0_init 1 = .ok (.invokespecial 5, 3) := by decide +kernel
theorem dX0_init_4 : decode cX0_init 4 = .ok (.aload_n 0, 1) := by decide +kernel
theorem dX0_init_5 : decode cX0_init 5 = .ok (.sipush 3600, 3) := by decide +kernel
theorem dX0_init_8 : decode cX0_init 8 = .ok (.newarray .int, 2) := by decide +kernel
theorem dX0_init_10 : decode cX0_init 10 = .ok (.putfield 11, 3) := by decide +kernel
theorem dX0_init_13 : decode cX0_init 13 = .ok (.aload_n 0, 1) := by decide +kernel
theorem dX0_init_14 : decode cX0_init 14 = .ok (.bipush 13, 2) := by decide +kernel
theorem dX0_init_16 : decode cX0_init 16 = .ok (.newarray .int, 2) := by decide +kernel
theorem dX0_init_18 : decode cX0_init 18 = .ok (.putfield 15, 3) := by decide +kernel
theorem dX0_init_21 : decode cX0_init 21 = .ok (.aload_n 0, 1) := by decide +kernel
theorem dX0_init_22 : decode cX0_init 22 = .ok (.bipush 6, 2) := by decide +kernel
theorem dX0_init_24 : decode cX0_init 24 = .ok (.newarray .long, 2) := by decide +kernel
theorem dX0_init_26 : decode cX0_init 26 = .ok (.putfield 18, 3) := by decide +kernel
theorem dX0_init_29 : decode cX0_init 29 = .ok (.aload_n 0, 1) := by decide +kernel
theorem dX0_init_30 : decode cX0_init 30 = .ok (.aload_n 1, 1) := by decide +kernel
theorem dX0_init_31 : decode cX0_init 31 = .ok (.putfield 22, 3) := by decide +kernel
theorem dX0_init_34 : decode cX0_init 34 = .ok (.aload_n 0, 1) := by decide +kernel
theorem dX0_init_35 : decode cX0_init 35 = .ok (.getfield 15, 3) := by decide +kernel
theorem dX0_init_38 : decode cX0_init 38 = .ok (.iconst 0, 1) := by decide +kernel
theorem dX0_init_39 : decode cX0_init 39 = .ok (.iconst 1, 1) := by decide +kernel
theorem dX0_init_40 : decode cX0_init 40 = .ok (.iastore, 1) := by decide +kernel
theorem dX0_init_41 : decode cX0_init 41 = .ok (.return_, 1) := by decide +kernel
theorem dX0_forget_0 : decode cX0_forget 0 = .ok (.aload_n 0, 1) := by decide +kernel
theorem dX0_forget_1 : decode cX0_forget 1 = .ok (.iconst 0, 1) := by decide +kernel
theorem dX0_forget_2 : decode cX0_forget 2 = .ok (.putfield 26, 3) := by decide +kernel
theorem dX0_forget_5 : decode cX0_forget 5 = .ok (.aload_n 0, 1) := by decide +kernel
theorem dX0_forget_6 : decode cX0_forget 6 = .ok (.iconst 0, 1) := by decide +kernel
theorem dX0_forget_7 : decode cX0_forget 7 = .ok (.putfield 30, 3) := by decide +kernel
theorem dX0_forget_10 : decode cX0_forget 10 = .ok (.return_, 1) := by decide +kernel
set_option maxRecDepth 20000 in
theorem ggX0_reaches_X0_addLength : GoodIn wsX0_reaches wsX0_addLength := goodIn_r _ [7, 8, 9, 10, 2, 11, 1, 12, 13, 14, 6, 15, 16, 17, 18, 19, 20, 21, 22, 23, 24, 25, 26, 27, 28, 29, 30, 31, 32, 33, 34, 35, 36, 37, 38, 39, 40, 41, 42, 43, 44, 45] rfl (by decide +kernel)
set_option maxRecDepth 20000 in
theorem gX0_reaches_X0_addLength : GoodIn wsX0_reaches (wsV RX0 34 RX0 yX0_addLength wsX0_addLength) := goodIn_app (goodIn_of _ (by decide +kernel)) ggX0_reaches_X0_addLength
theorem dX0_reaches_0 : decode cX0_reaches 0 = .ok (.aload_n 0, 1) := by decide +kernel
theorem dX0_reaches_1 : decode cX0_reaches 1 = .ok (.getfield 26, 3) := by decide +kernel
theorem dX0_reaches_4 : decode cX0_reaches 4 = .ok (.iconst 1, 1) := by decide +kernel
theorem dX0_reaches_5 : decode cX0_reaches 5 = .ok (.iadd, 1) := by decide +kernel
theorem dX0_reaches_6 : decode cX0_reaches 6 = .ok (.istore_n 2, 1) := by decide +kernel
theorem dX0_reaches_7 : decode cX0_reaches 7 = .ok (.iload_n 2, 1) := by decide +kernel
theorem dX0_reaches_8 : decode cX0_reaches 8 = .ok (.iload_n 1, 1) := by decide +kernel
theorem dX0_reaches_9 : decode cX0_reaches 9 = .ok (.if_icmp .gt 21, 3) := by decide +kernel
theorem dX0_reaches_12 : decode cX0_reaches 12 = .ok (.aload_n 0, 1) := by decide +kernel
theorem dX0_reaches_13 : decode cX0_reaches 13 = .ok (.getfield 30, 3) := by decide +kernel
theorem dX0_reaches_16 : decode cX0_reaches 16 = .ok (.ifCond .ne 14, 3) := by decide +kernel
theorem dX0_reaches_19 : decode cX0_reaches 19 = .ok (.aload_n 0, 1) := by decide +kernel
theorem dX0_reaches_20 : decode cX0_reaches 20 = .ok (.iload_n 2, 1) := by decide +kernel
theorem dX0_reaches_21 : decode cX0_reaches 21 = .ok (.invokevirtual 34, 3) := by decide +kernel
theorem dX0_reaches_24 : decode cX0_reaches 24 = .ok (.iinc 2 1, 3) := by decide +kernel
theorem dX0_reaches_27 : decode cX0_reaches 27 = .ok (.goto (-20), 3) := by decide +kernel
theorem dX0_reaches_30 : decode cX0_reaches 30 = .ok (.iload_n 1, 1) := by decide +kernel
theorem dX0_reaches_31 : decode cX0_reaches 31 = .ok (.aload_n 0, 1) := by decide +kernel
theorem dX0_reaches_32 : decode cX0_reaches 32 = .ok (.getfield 26, 3) := by decide +kernel
theorem dX0_reaches_35 : decode cX0_reaches 35 = .ok (.if_icmp .gt 7, 3) := by decide +kernel
theorem dX0_reaches_38 : decode cX0_reaches 38 = .ok (.iconst 1, 1) := by decide +kernel
theorem dX0_reaches_39 : decode cX0_reaches 39 = .ok (.goto 4, 3) := by decide +kernel
theorem dX0_reaches_42 : decode cX0_reaches 42 = .ok (.iconst 0, 1) := by decide +kernel
theorem dX0_reaches_43 : decode cX0_reaches 43 = .ok (.ireturn, 1) := by decide +kernel
theorem dX0_ofLength_0 : decode cX0_ofLength 0 = .ok (.aload_n 0, 1) := by decide +kernel
theorem dX0_ofLength_1 : decode cX0_ofLength 1 = .ok (.getfield 15, 3) := by decide +kernel
theorem dX0_ofLength_4 : decode cX0_ofLength 4 = .ok (.iload_n 1, 1) := by decide +kernel
theorem dX0_ofLength_5 : decode cX0_ofLength 5 = .ok (.iaload, 1) := by decide +kernel
theorem dX0_ofLength_6 : decode cX0_ofLength 6 = .ok (.ireturn, 1) := by decide +kernel
set_option maxRecDepth 20000 in
theorem ggX0_spell_X0_codeOf : GoodIn wsX0_spell wsX0_codeOf := goodIn_r _ [7, 8, 11, 12, 13, 14, 15, 16] rfl (by decide +kernel)
set_option maxRecDepth 20000 in
theorem gX0_spell_X0_codeOf : GoodIn wsX0_spell (wsV RX0 41 RX0 yX0_codeOf wsX0_codeOf) := goodIn_app (goodIn_of _ (by decide +kernel)) ggX0_spell_X0_codeOf
theorem dX0_spell_0 : decode cX0_spell 0 = .ok (.iload_n 2, 1) := by decide +kernel
theorem dX0_spell_1 : decode cX0_spell 1 = .ok (.istore 4, 2) := by decide +kernel
theorem dX0_spell_3 : decode cX0_spell 3 = .ok (.aload_n 3, 1) := by decide +kernel
theorem dX0_spell_4 : decode cX0_spell 4 = .ok (.iload_n 1, 1) := by decide +kernel
theorem dX0_spell_5 : decode cX0_spell 5 = .ok (.putfield 38, 3) := by decide +kernel
theorem dX0_spell_8 : decode cX0_spell 8 = .ok (.iload_n 1, 1) := by decide +kernel
theorem dX0_spell_9 : decode cX0_spell 9 = .ok (.istore 5, 2) := by decide +kernel
theorem dX0_spell_11 : decode cX0_spell 11 = .ok (.iload 5, 2) := by decide +kernel
theorem dX0_spell_13 : decode cX0_spell 13 = .ok (.ifCond .le 39, 3) := by decide +kernel
theorem dX0_spell_16 : decode cX0_spell 16 = .ok (.aload_n 0, 1) := by decide +kernel
theorem dX0_spell_17 : decode cX0_spell 17 = .ok (.iload 5, 2) := by decide +kernel
theorem dX0_spell_19 : decode cX0_spell 19 = .ok (.iload 4, 2) := by decide +kernel
theorem dX0_spell_21 : decode cX0_spell 21 = .ok (.invokevirtual 41, 3) := by decide +kernel
theorem dX0_spell_24 : decode cX0_spell 24 = .ok (.istore 6, 2) := by decide +kernel
theorem dX0_spell_26 : decode cX0_spell 26 = .ok (.aload_n 3, 1) := by decide +kernel
theorem dX0_spell_27 : decode cX0_spell 27 = .ok (.getfield 45, 3) := by decide +kernel
theorem dX0_spell_30 : decode cX0_spell 30 = .ok (.iload 5, 2) := by decide +kernel
theorem dX0_spell_32 : decode cX0_spell 32 = .ok (.iconst 1, 1) := by decide +kernel
theorem dX0_spell_33 : decode cX0_spell 33 = .ok (.isub, 1) := by decide +kernel
theorem dX0_spell_34 : decode cX0_spell 34 = .ok (.iload 6, 2) := by decide +kernel
theorem dX0_spell_36 : decode cX0_spell 36 = .ok (.bipush 7, 2) := by decide +kernel
theorem dX0_spell_38 : decode cX0_spell 38 = .ok (.iand, 1) := by decide +kernel
theorem dX0_spell_39 : decode cX0_spell 39 = .ok (.iastore, 1) := by decide +kernel
theorem dX0_spell_40 : decode cX0_spell 40 = .ok (.iload 6, 2) := by decide +kernel
theorem dX0_spell_42 : decode cX0_spell 42 = .ok (.iconst 3, 1) := by decide +kernel
theorem dX0_spell_43 : decode cX0_spell 43 = .ok (.ishr, 1) := by decide +kernel
theorem dX0_spell_44 : decode cX0_spell 44 = .ok (.istore 4, 2) := by decide +kernel
theorem dX0_spell_46 : decode cX0_spell 46 = .ok (.iinc 5 (-1), 3) := by decide +kernel
theorem dX0_spell_49 : decode cX0_spell 49 = .ok (.goto (-38), 3) := by decide +kernel
theorem dX0_spell_52 : decode cX0_spell 52 = .ok (.return_, 1) := by decide +kernel
theorem dX0_codeOf_0 : decode cX0_codeOf 0 = .ok (.aload_n 0, 1) := by decide +kernel
theorem dX0_codeOf_1 : decode cX0_codeOf 1 = .ok (.getfield 11, 3) := by decide +kernel
theorem dX0_codeOf_4 : decode cX0_codeOf 4 = .ok (.iload_n 1, 1) := by decide +kernel
theorem dX0_codeOf_5 : decode cX0_codeOf 5 = .ok (.iconst 1, 1) := by decide +kernel
theorem dX0_codeOf_6 : decode cX0_codeOf 6 = .ok (.isub, 1) := by decide +kernel
theorem dX0_codeOf_7 : decode cX0_codeOf 7 = .ok (.sipush 300, 3) := by decide +kernel
theorem dX0_codeOf_10 : decode cX0_codeOf 10 = .ok (.imul, 1) := by decide +kernel
theorem dX0_codeOf_11 : decode cX0_codeOf 11 = .ok (.iload_n 2, 1) := by decide +kernel
theorem dX0_codeOf_12 : decode cX0_codeOf 12 = .ok (.iadd, 1) := by decide +kernel
theorem dX0_codeOf_13 : decode cX0_codeOf 13 = .ok (.iaload, 1) := by decide +kernel
theorem dX0_codeOf_14 : decode cX0_codeOf 14 = .ok (.ireturn, 1) := by decide +kernel
set_option maxRecDepth 20000 in
theorem ggX0_addLength_X0_goesOn : GoodIn wsX0_addLength wsX0_goesOn := goodIn_r _ [11, 12, 2, 13, 14, 15, 16, 17, 18, 19, 20, 21, 22, 10, 23, 5, 24, 25, 26, 27, 28, 29, 30, 31, 32, 33, 34, 35, 36, 37, 38, 39, 40, 41] rfl (by decide +kernel)
set_option maxRecDepth 20000 in
theorem gX0_addLength_X0_goesOn : GoodIn wsX0_addLength (wsV RX0 53 RX0 yX0_goesOn wsX0_goesOn) := goodIn_app (goodIn_of _ (by decide +kernel)) ggX0_addLength_X0_goesOn
theorem dX0_addLength_0 : decode cX0_addLength 0 = .ok (.iconst 0, 1) := by decide +kernel
theorem dX0_addLength_1 : decode cX0_addLength 1 = .ok (.istore_n 2, 1) := by decide +kernel
theorem dX0_addLength_2 : decode cX0_addLength 2 = .ok (.iconst 0, 1) := by decide +kernel
theorem dX0_addLength_3 : decode cX0_addLength 3 = .ok (.istore_n 3, 1) := by decide +kernel
theorem dX0_addLength_4 : decode cX0_addLength 4 = .ok (.iload_n 3, 1) := by decide +kernel
theorem dX0_addLength_5 : decode cX0_addLength 5 = .ok (.aload_n 0, 1) := by decide +kernel
theorem dX0_addLength_6 : decode cX0_addLength 6 = .ok (.getfield 15, 3) := by decide +kernel
theorem dX0_addLength_9 : decode cX0_addLength 9 = .ok (.iload_n 1, 1) := by decide +kernel
theorem dX0_addLength_10 : decode cX0_addLength 10 = .ok (.iconst 1, 1) := by decide +kernel
theorem dX0_addLength_11 : decode cX0_addLength 11 = .ok (.isub, 1) := by decide +kernel
theorem dX0_addLength_12 : decode cX0_addLength 12 = .ok (.iaload, 1) := by decide +kernel
theorem dX0_addLength_13 : decode cX0_addLength 13 = .ok (.if_icmp .ge 82, 3) := by decide +kernel
theorem dX0_addLength_16 : decode cX0_addLength 16 = .ok (.iconst 0, 1) := by decide +kernel
theorem dX0_addLength_17 : decode cX0_addLength 17 = .ok (.istore 4, 2) := by decide +kernel
theorem dX0_addLength_19 : decode cX0_addLength 19 = .ok (.iload 4, 2) := by decide +kernel
theorem dX0_addLength_21 : decode cX0_addLength 21 = .ok (.aload_n 0, 1) := by decide +kernel
theorem dX0_addLength_22 : decode cX0_addLength 22 = .ok (.getfield 22, 3) := by decide +kernel
theorem dX0_addLength_25 : decode cX0_addLength 25 = .ok (.getfield 48, 3) := by decide +kernel
theorem dX0_addLength_28 : decode cX0_addLength 28 = .ok (.if_icmp .ge 61, 3) := by decide +kernel
theorem dX0_addLength_31 : decode cX0_addLength 31 = .ok (.aload_n 0, 1) := by decide +kernel
theorem dX0_addLength_32 : decode cX0_addLength 32 = .ok (.iload_n 1, 1) := by decide +kernel
theorem dX0_addLength_33 : decode cX0_addLength 33 = .ok (.iconst 1, 1) := by decide +kernel
theorem dX0_addLength_34 : decode cX0_addLength 34 = .ok (.isub, 1) := by decide +kernel
theorem dX0_addLength_35 : decode cX0_addLength 35 = .ok (.iload_n 3, 1) := by decide +kernel
theorem dX0_addLength_36 : decode cX0_addLength 36 = .ok (.iload 4, 2) := by decide +kernel
theorem dX0_addLength_38 : decode cX0_addLength 38 = .ok (.invokevirtual 53, 3) := by decide +kernel
theorem dX0_addLength_41 : decode cX0_addLength 41 = .ok (.ifCond .ne 6, 3) := by decide +kernel
theorem dX0_addLength_44 : decode cX0_addLength 44 = .ok (.goto 39, 3) := by decide +kernel
theorem dX0_addLength_47 : decode cX0_addLength 47 = .ok (.iload_n 2, 1) := by decide +kernel
theorem dX0_addLength_48 : decode cX0_addLength 48 = .ok (.sipush 300, 3) := by decide +kernel
theorem dX0_addLength_51 : decode cX0_addLength 51 = .ok (.if_icmp .ne 9, 3) := by decide +kernel
theorem dX0_addLength_54 : decode cX0_addLength 54 = .ok (.aload_n 0, 1) := by decide +kernel
theorem dX0_addLength_55 : decode cX0_addLength 55 = .ok (.iconst 1, 1) := by decide +kernel
theorem dX0_addLength_56 : decode cX0_addLength 56 = .ok (.putfield 30, 3) := by decide +kernel
theorem dX0_addLength_59 : decode cX0_addLength 59 = .ok (.return_, 1) := by decide +kernel
theorem dX0_addLength_60 : decode cX0_addLength 60 = .ok (.aload_n 0, 1) := by decide +kernel
theorem dX0_addLength_61 : decode cX0_addLength 61 = .ok (.getfield 11, 3) := by decide +kernel
theorem dX0_addLength_64 : decode cX0_addLength 64 = .ok (.iload_n 1, 1) := by decide +kernel
theorem dX0_addLength_65 : decode cX0_addLength 65 = .ok (.iconst 1, 1) := by decide +kernel
theorem dX0_addLength_66 : decode cX0_addLength 66 = .ok (.isub, 1) := by decide +kernel
theorem dX0_addLength_67 : decode cX0_addLength 67 = .ok (.sipush 300, 3) := by decide +kernel
theorem dX0_addLength_70 : decode cX0_addLength 70 = .ok (.imul, 1) := by decide +kernel
theorem dX0_addLength_71 : decode cX0_addLength 71 = .ok (.iload_n 2, 1) := by decide +kernel
theorem dX0_addLength_72 : decode cX0_addLength 72 = .ok (.iadd, 1) := by decide +kernel
theorem dX0_addLength_73 : decode cX0_addLength 73 = .ok (.iload_n 3, 1) := by decide +kernel
theorem dX0_addLength_74 : decode cX0_addLength 74 = .ok (.iconst 3, 1) := by decide +kernel
theorem dX0_addLength_75 : decode cX0_addLength 75 = .ok (.ishl, 1) := by decide +kernel
theorem dX0_addLength_76 : decode cX0_addLength 76 = .ok (.iload 4, 2) := by decide +kernel
theorem dX0_addLength_78 : decode cX0_addLength 78 = .ok (.ior, 1) := by decide +kernel
theorem dX0_addLength_79 : decode cX0_addLength 79 = .ok (.iastore, 1) := by decide +kernel
theorem dX0_addLength_80 : decode cX0_addLength 80 = .ok (.iinc 2 1, 3) := by decide +kernel
theorem dX0_addLength_83 : decode cX0_addLength 83 = .ok (.iinc 4 1, 3) := by decide +kernel
theorem dX0_addLength_86 : decode cX0_addLength 86 = .ok (.goto (-67), 3) := by decide +kernel
theorem dX0_addLength_89 : decode cX0_addLength 89 = .ok (.iinc 3 1, 3) := by decide +kernel
theorem dX0_addLength_92 : decode cX0_addLength 92 = .ok (.goto (-88), 3) := by decide +kernel
theorem dX0_addLength_95 : decode cX0_addLength 95 = .ok (.aload_n 0, 1) := by decide +kernel
theorem dX0_addLength_96 : decode cX0_addLength 96 = .ok (.getfield 15, 3) := by decide +kernel
theorem dX0_addLength_99 : decode cX0_addLength 99 = .ok (.iload_n 1, 1) := by decide +kernel
theorem dX0_addLength_100 : decode cX0_addLength 100 = .ok (.iload_n 2, 1) := by decide +kernel
theorem dX0_addLength_101 : decode cX0_addLength 101 = .ok (.iastore, 1) := by decide +kernel
theorem dX0_addLength_102 : decode cX0_addLength 102 = .ok (.aload_n 0, 1) := by decide +kernel
theorem dX0_addLength_103 : decode cX0_addLength 103 = .ok (.iload_n 1, 1) := by decide +kernel
theorem dX0_addLength_104 : decode cX0_addLength 104 = .ok (.putfield 26, 3) := by decide +kernel
theorem dX0_addLength_107 : decode cX0_addLength 107 = .ok (.return_, 1) := by decide +kernel
set_option maxRecDepth 20000 in
theorem ggX0_goesOn_X7_setOwn : GoodIn wsX0_goesOn wsX7_setOwn := goodIn_r _ [5, 6, 7, 8, 9] rfl (by decide +kernel)
set_option maxRecDepth 20000 in
theorem gX0_goesOn_X7_setOwn_n57 : GoodIn wsX0_goesOn (wsX7_setOwn) := ggX0_goesOn_X7_setOwn
set_option maxRecDepth 20000 in
theorem ggX0_goesOn_X0_codeOf : GoodIn wsX0_goesOn wsX0_codeOf := goodIn_r _ [14, 15, 25, 26, 27, 28, 29, 30] rfl (by decide +kernel)
set_option maxRecDepth 20000 in
theorem gX0_goesOn_X0_codeOf : GoodIn wsX0_goesOn (wsV RX0 41 RX0 yX0_codeOf wsX0_codeOf) := goodIn_app (goodIn_of _ (by decide +kernel)) ggX0_goesOn_X0_codeOf
set_option maxRecDepth 20000 in
theorem ggX0_goesOn_X7_isOwn : GoodIn wsX0_goesOn wsX7_isOwn := goodIn_r _ [17] rfl (by decide +kernel)
set_option maxRecDepth 20000 in
theorem gX0_goesOn_X7_isOwn_n61 : GoodIn wsX0_goesOn (wsX7_isOwn) := ggX0_goesOn_X7_isOwn
set_option maxRecDepth 20000 in
theorem ggX0_goesOn_X3_turnedNumber : GoodIn wsX0_goesOn wsX3_turnedNumber := goodIn_r _ [22, 23, 24, 31, 32, 33] rfl (by decide +kernel)
set_option maxRecDepth 20000 in
theorem gX0_goesOn_X3_turnedNumber : GoodIn wsX0_goesOn (wsV RX0 65 RX3 yX3_turnedNumber wsX3_turnedNumber) := goodIn_app (goodIn_of _ (by decide +kernel)) ggX0_goesOn_X3_turnedNumber
theorem dX0_goesOn_0 : decode cX0_goesOn 0 = .ok (.aload_n 0, 1) := by decide +kernel
theorem dX0_goesOn_1 : decode cX0_goesOn 1 = .ok (.getfield 18, 3) := by decide +kernel
theorem dX0_goesOn_4 : decode cX0_goesOn 4 = .ok (.iload_n 3, 1) := by decide +kernel
theorem dX0_goesOn_5 : decode cX0_goesOn 5 = .ok (.invokestatic 57, 3) := by decide +kernel
theorem dX0_goesOn_8 : decode cX0_goesOn 8 = .ok (.iload_n 2, 1) := by decide +kernel
theorem dX0_goesOn_9 : decode cX0_goesOn 9 = .ok (.istore 4, 2) := by decide +kernel
theorem dX0_goesOn_11 : decode cX0_goesOn 11 = .ok (.iload_n 1, 1) := by decide +kernel
theorem dX0_goesOn_12 : decode cX0_goesOn 12 = .ok (.istore 5, 2) := by decide +kernel
theorem dX0_goesOn_14 : decode cX0_goesOn 14 = .ok (.iload 5, 2) := by decide +kernel
theorem dX0_goesOn_16 : decode cX0_goesOn 16 = .ok (.ifCond .le 96, 3) := by decide +kernel
theorem dX0_goesOn_19 : decode cX0_goesOn 19 = .ok (.aload_n 0, 1) := by decide +kernel
theorem dX0_goesOn_20 : decode cX0_goesOn 20 = .ok (.iload 5, 2) := by decide +kernel
theorem dX0_goesOn_22 : decode cX0_goesOn 22 = .ok (.iload 4, 2) := by decide +kernel
theorem dX0_goesOn_24 : decode cX0_goesOn 24 = .ok (.invokevirtual 41, 3) := by decide +kernel
theorem dX0_goesOn_27 : decode cX0_goesOn 27 = .ok (.istore 6, 2) := by decide +kernel
theorem dX0_goesOn_29 : decode cX0_goesOn 29 = .ok (.iload 6, 2) := by decide +kernel
theorem dX0_goesOn_31 : decode cX0_goesOn 31 = .ok (.bipush 7, 2) := by decide +kernel
theorem dX0_goesOn_33 : decode cX0_goesOn 33 = .ok (.iand, 1) := by decide +kernel
theorem dX0_goesOn_34 : decode cX0_goesOn 34 = .ok (.istore 7, 2) := by decide +kernel
theorem dX0_goesOn_36 : decode cX0_goesOn 36 = .ok (.aload_n 0, 1) := by decide +kernel
theorem dX0_goesOn_37 : decode cX0_goesOn 37 = .ok (.getfield 18, 3) := by decide +kernel
theorem dX0_goesOn_40 : decode cX0_goesOn 40 = .ok (.iload 7, 2) := by decide +kernel
theorem dX0_goesOn_42 : decode cX0_goesOn 42 = .ok (.invokestatic 61, 3) := by decide +kernel
theorem dX0_goesOn_45 : decode cX0_goesOn 45 = .ok (.ifCond .eq 5, 3) := by decide +kernel
theorem dX0_goesOn_48 : decode cX0_goesOn 48 = .ok (.iconst 0, 1) := by decide +kernel
theorem dX0_goesOn_49 : decode cX0_goesOn 49 = .ok (.ireturn, 1) := by decide +kernel
theorem dX0_goesOn_50 : decode cX0_goesOn 50 = .ok (.aload_n 0, 1) := by decide +kernel
theorem dX0_goesOn_51 : decode cX0_goesOn 51 = .ok (.getfield 18, 3) := by decide +kernel
theorem dX0_goesOn_54 : decode cX0_goesOn 54 = .ok (.iload 7, 2) := by decide +kernel
theorem dX0_goesOn_56 : decode cX0_goesOn 56 = .ok (.aload_n 0, 1) := by decide +kernel
theorem dX0_goesOn_57 : decode cX0_goesOn 57 = .ok (.getfield 22, 3) := by decide +kernel
theorem dX0_goesOn_60 : decode cX0_goesOn 60 = .ok (.aload_n 0, 1) := by decide +kernel
theorem dX0_goesOn_61 : decode cX0_goesOn 61 = .ok (.getfield 18, 3) := by decide +kernel
theorem dX0_goesOn_64 : decode cX0_goesOn 64 = .ok (.iload 7, 2) := by decide +kernel
theorem dX0_goesOn_66 : decode cX0_goesOn 66 = .ok (.invokevirtual 65, 3) := by decide +kernel
theorem dX0_goesOn_69 : decode cX0_goesOn 69 = .ok (.lastore, 1) := by decide +kernel
theorem dX0_goesOn_70 : decode cX0_goesOn 70 = .ok (.iconst 0, 1) := by decide +kernel
theorem dX0_goesOn_71 : decode cX0_goesOn 71 = .ok (.istore 8, 2) := by decide +kernel
theorem dX0_goesOn_73 : decode cX0_goesOn 73 = .ok (.iload 8, 2) := by decide +kernel
theorem dX0_goesOn_75 : decode cX0_goesOn 75 = .ok (.iload 7, 2) := by decide +kernel
theorem dX0_goesOn_77 : decode cX0_goesOn 77 = .ok (.if_icmp .ge 23, 3) := by decide +kernel
theorem dX0_goesOn_80 : decode cX0_goesOn 80 = .ok (.aload_n 0, 1) := by decide +kernel
theorem dX0_goesOn_81 : decode cX0_goesOn 81 = .ok (.getfield 18, 3) := by decide +kernel
theorem dX0_goesOn_84 : decode cX0_goesOn 84 = .ok (.iload 8, 2) := by decide +kernel
theorem dX0_goesOn_86 : decode cX0_goesOn 86 = .ok (.invokestatic 61, 3) := by decide +kernel
theorem dX0_goesOn_89 : decode cX0_goesOn 89 = .ok (.ifCond .eq 5, 3) := by decide +kernel
theorem dX0_goesOn_92 : decode cX0_goesOn 92 = .ok (.iconst 0, 1) := by decide +kernel
theorem dX0_goesOn_93 : decode cX0_goesOn 93 = .ok (.ireturn, 1) := by decide +kernel
theorem dX0_goesOn_94 : decode cX0_goesOn 94 = .ok (.iinc 8 1, 3) := by decide +kernel
theorem dX0_goesOn_97 : decode cX0_goesOn 97 = .ok (.goto (-24), 3) := by decide +kernel
theorem dX0_goesOn_100 : decode cX0_goesOn 100 = .ok (.iload 6, 2) := by decide +kernel
theorem dX0_goesOn_102 : decode cX0_goesOn 102 = .ok (.iconst 3, 1) := by decide +kernel
theorem dX0_goesOn_103 : decode cX0_goesOn 103 = .ok (.ishr, 1) := by decide +kernel
theorem dX0_goesOn_104 : decode cX0_goesOn 104 = .ok (.istore 4, 2) := by decide +kernel
theorem dX0_goesOn_106 : decode cX0_goesOn 106 = .ok (.iinc 5 (-1), 3) := by decide +kernel
theorem dX0_goesOn_109 : decode cX0_goesOn 109 = .ok (.goto (-95), 3) := by decide +kernel
theorem dX0_goesOn_112 : decode cX0_goesOn 112 = .ok (.iconst 1, 1) := by decide +kernel
theorem dX0_goesOn_113 : decode cX0_goesOn 113 = .ok (.ireturn, 1) := by decide +kernel
set_option maxRecDepth 20000 in
theorem ggX1_init_X3_init : GoodIn wsX1_init wsX3_init := goodIn_r _ [9, 10, 2, 3, 11, 12, 13, 17, 18, 19] rfl (by decide +kernel)
set_option maxRecDepth 20000 in
theorem gX1_init_X3_init_n17 : GoodIn wsX1_init (wsX3_init) := ggX1_init_X3_init
theorem dX1_init_0 : decode cX1_init 0 = .ok (.aload_n 0, 1) := by decide +kernel
theorem dX1_init_1 : decode cX1_init 1 = .ok (.invokespecial 3, 3) := by decide +kernel
theorem dX1_init_4 : decode cX1_init 4 = .ok (.aload_n 0, 1) := by decide +kernel
theorem dX1_init_5 : decode cX1_init 5 = .ok (.bipush 16, 2) := by decide +kernel
theorem dX1_init_7 : decode cX1_init 7 = .ok (.anewarray 9, 3) := by decide +kernel
theorem dX1_init_10 : decode cX1_init 10 = .ok (.putfield 11, 3) := by decide +kernel
theorem dX1_init_13 : decode cX1_init 13 = .ok (.iconst 0, 1) := by decide +kernel
theorem dX1_init_14 : decode cX1_init 14 = .ok (.istore_n 1, 1) := by decide +kernel
theorem dX1_init_15 : decode cX1_init 15 = .ok (.iload_n 1, 1) := by decide +kernel
theorem dX1_init_16 : decode cX1_init 16 = .ok (.bipush 16, 2) := by decide +kernel
theorem dX1_init_18 : decode cX1_init 18 = .ok (.if_icmp .ge 22, 3) := by decide +kernel
theorem dX1_init_21 : decode cX1_init 21 = .ok (.aload_n 0, 1) := by decide +kernel
theorem dX1_init_22 : decode cX1_init 22 = .ok (.getfield 11, 3) := by decide +kernel
theorem dX1_init_25 : decode cX1_init 25 = .ok (.iload_n 1, 1) := by decide +kernel
theorem dX1_init_26 : decode cX1_init 26 = .ok (.new 9, 3) := by decide +kernel
theorem dX1_init_29 : decode cX1_init 29 = .ok (.dup, 1) := by decide +kernel
theorem dX1_init_30 : decode cX1_init 30 = .ok (.invokespecial 17, 3) := by decide +kernel
theorem dX1_init_33 : decode cX1_init 33 = .ok (.aastore, 1) := by decide +kernel
theorem dX1_init_34 : decode cX1_init 34 = .ok (.iinc 1 1, 3) := by decide +kernel
theorem dX1_init_37 : decode cX1_init 37 = .ok (.goto (-22), 3) := by decide +kernel
theorem dX1_init_40 : decode cX1_init 40 = .ok (.return_, 1) := by decide +kernel
set_option maxRecDepth 20000 in
theorem ggX1_keep_X3_take : GoodIn wsX1_keep wsX3_take := goodIn_r _ [8, 9, 10, 11, 12, 13, 14, 15, 19, 20, 21] rfl (by decide +kernel)
set_option maxRecDepth 20000 in
theorem gX1_keep_X3_take : GoodIn wsX1_keep (wsV RX1 22 RX3 yX3_take wsX3_take) := goodIn_app (goodIn_of _ (by decide +kernel)) ggX1_keep_X3_take
theorem dX1_keep_0 : decode cX1_keep 0 = .ok (.aload_n 0, 1) := by decide +kernel
theorem dX1_keep_1 : decode cX1_keep 1 = .ok (.getfield 11, 3) := by decide +kernel
theorem dX1_keep_4 : decode cX1_keep 4 = .ok (.aload_n 0, 1) := by decide +kernel
theorem dX1_keep_5 : decode cX1_keep 5 = .ok (.getfield 18, 3) := by decide +kernel
theorem dX1_keep_8 : decode cX1_keep 8 = .ok (.aaload, 1) := by decide +kernel
theorem dX1_keep_9 : decode cX1_keep 9 = .ok (.aload_n 1, 1) := by decide +kernel
theorem dX1_keep_10 : decode cX1_keep 10 = .ok (.invokevirtual 22, 3) := by decide +kernel
theorem dX1_keep_13 : decode cX1_keep 13 = .ok (.aload_n 0, 1) := by decide +kernel
theorem dX1_keep_14 : decode cX1_keep 14 = .ok (.aload_n 0, 1) := by decide +kernel
theorem dX1_keep_15 : decode cX1_keep 15 = .ok (.getfield 18, 3) := by decide +kernel
theorem dX1_keep_18 : decode cX1_keep 18 = .ok (.iconst 1, 1) := by decide +kernel
theorem dX1_keep_19 : decode cX1_keep 19 = .ok (.iadd, 1) := by decide +kernel
theorem dX1_keep_20 : decode cX1_keep 20 = .ok (.bipush 16, 2) := by decide +kernel
theorem dX1_keep_22 : decode cX1_keep 22 = .ok (.irem, 1) := by decide +kernel
theorem dX1_keep_23 : decode cX1_keep 23 = .ok (.putfield 18, 3) := by decide +kernel
theorem dX1_keep_26 : decode cX1_keep 26 = .ok (.aload_n 0, 1) := by decide +kernel
theorem dX1_keep_27 : decode cX1_keep 27 = .ok (.getfield 26, 3) := by decide +kernel
theorem dX1_keep_30 : decode cX1_keep 30 = .ok (.bipush 16, 2) := by decide +kernel
theorem dX1_keep_32 : decode cX1_keep 32 = .ok (.if_icmp .ge 13, 3) := by decide +kernel
theorem dX1_keep_35 : decode cX1_keep 35 = .ok (.aload_n 0, 1) := by decide +kernel
theorem dX1_keep_36 : decode cX1_keep 36 = .ok (.dup, 1) := by decide +kernel
theorem dX1_keep_37 : decode cX1_keep 37 = .ok (.getfield 26, 3) := by decide +kernel
theorem dX1_keep_40 : decode cX1_keep 40 = .ok (.iconst 1, 1) := by decide +kernel
theorem dX1_keep_41 : decode cX1_keep 41 = .ok (.iadd, 1) := by decide +kernel
theorem dX1_keep_42 : decode cX1_keep 42 = .ok (.putfield 26, 3) := by decide +kernel
theorem dX1_keep_45 : decode cX1_keep 45 = .ok (.return_, 1) := by decide +kernel
set_option maxRecDepth 20000 in
theorem ggX1_takeBack_X3_take : GoodIn wsX1_takeBack wsX3_take := goodIn_r _ [8, 9, 10, 11, 12, 13, 14, 15, 19, 20, 21] rfl (by decide +kernel)
set_option maxRecDepth 20000 in
theorem gX1_takeBack_X3_take : GoodIn wsX1_takeBack (wsV RX1 22 RX3 yX3_take wsX3_take) := goodIn_app (goodIn_of _ (by decide +kernel)) ggX1_takeBack_X3_take
theorem dX1_takeBack_0 : decode cX1_takeBack 0 = .ok (.aload_n 0, 1) := by decide +kernel
theorem dX1_takeBack_1 : decode cX1_takeBack 1 = .ok (.aload_n 0, 1) := by decide +kernel
theorem dX1_takeBack_2 : decode cX1_takeBack 2 = .ok (.getfield 18, 3) := by decide +kernel
theorem dX1_takeBack_5 : decode cX1_takeBack 5 = .ok (.bipush 16, 2) := by decide +kernel
theorem dX1_takeBack_7 : decode cX1_takeBack 7 = .ok (.iadd, 1) := by decide +kernel
theorem dX1_takeBack_8 : decode cX1_takeBack 8 = .ok (.iconst 1, 1) := by decide +kernel
theorem dX1_takeBack_9 : decode cX1_takeBack 9 = .ok (.isub, 1) := by decide +kernel
theorem dX1_takeBack_10 : decode cX1_takeBack 10 = .ok (.bipush 16, 2) := by decide +kernel
theorem dX1_takeBack_12 : decode cX1_takeBack 12 = .ok (.irem, 1) := by decide +kernel
theorem dX1_takeBack_13 : decode cX1_takeBack 13 = .ok (.putfield 18, 3) := by decide +kernel
theorem dX1_takeBack_16 : decode cX1_takeBack 16 = .ok (.aload_n 0, 1) := by decide +kernel
theorem dX1_takeBack_17 : decode cX1_takeBack 17 = .ok (.dup, 1) := by decide +kernel
theorem dX1_takeBack_18 : decode cX1_takeBack 18 = .ok (.getfield 26, 3) := by decide +kernel
theorem dX1_takeBack_21 : decode cX1_takeBack 21 = .ok (.iconst 1, 1) := by decide +kernel
theorem dX1_takeBack_22 : decode cX1_takeBack 22 = .ok (.isub, 1) := by decide +kernel
theorem dX1_takeBack_23 : decode cX1_takeBack 23 = .ok (.putfield 26, 3) := by decide +kernel
theorem dX1_takeBack_26 : decode cX1_takeBack 26 = .ok (.aload_n 1, 1) := by decide +kernel
theorem dX1_takeBack_27 : decode cX1_takeBack 27 = .ok (.aload_n 0, 1) := by decide +kernel
theorem dX1_takeBack_28 : decode cX1_takeBack 28 = .ok (.getfield 11, 3) := by decide +kernel
theorem dX1_takeBack_31 : decode cX1_takeBack 31 = .ok (.aload_n 0, 1) := by decide +kernel
theorem dX1_takeBack_32 : decode cX1_takeBack 32 = .ok (.getfield 18, 3) := by decide +kernel
theorem dX1_takeBack_35 : decode cX1_takeBack 35 = .ok (.aaload, 1) := by decide +kernel
theorem dX1_takeBack_36 : decode cX1_takeBack 36 = .ok (.invokevirtual 22, 3) := by decide +kernel
theorem dX1_takeBack_39 : decode cX1_takeBack 39 = .ok (.return_, 1) := by decide +kernel
theorem dX2_init_0 : decode cX2_init 0 = .ok (.aload_n 0, 1) := by decide +kernel
theorem dX2_init_1 : decode cX2_init 1 = .ok (.invokespecial 3, 3) := by decide +kernel
theorem dX2_init_4 : decode cX2_init 4 = .ok (.aload_n 0, 1) := by decide +kernel
theorem dX2_init_5 : decode cX2_init 5 = .ok (.bipush 40, 2) := by decide +kernel
theorem dX2_init_7 : decode cX2_init 7 = .ok (.newarray .long, 2) := by decide +kernel
theorem dX2_init_9 : decode cX2_init 9 = .ok (.putfield 9, 3) := by decide +kernel
theorem dX2_init_12 : decode cX2_init 12 = .ok (.return_, 1) := by decide +kernel
set_option maxRecDepth 20000 in
theorem ggX2_hold_J7_fill_d0a16 : GoodIn wsX2_hold wsJ7_fill_d0a16 := goodIn_r _ [8] rfl (by decide +kernel)
set_option maxRecDepth 20000 in
theorem gX2_hold_J7_fill_d0a16 : GoodIn wsX2_hold (va_wsS RX2 15 yJ7_fill_d0a16 wsJ7_fill_d0a16) := goodIn_app (goodIn_of _ (by decide +kernel)) ggX2_hold_J7_fill_d0a16
theorem dX2_hold_0 : decode cX2_hold 0 = .ok (.aload_n 0, 1) := by decide +kernel
theorem dX2_hold_1 : decode cX2_hold 1 = .ok (.getfield 9, 3) := by decide +kernel
theorem dX2_hold_4 : decode cX2_hold 4 = .ok (.lconst 0, 1) := by decide +kernel
theorem dX2_hold_5 : decode cX2_hold 5 = .ok (.invokestatic 15, 3) := by decide +kernel
theorem dX2_hold_8 : decode cX2_hold 8 = .ok (.aload_n 0, 1) := by decide +kernel
theorem dX2_hold_9 : decode cX2_hold 9 = .ok (.iconst 1, 1) := by decide +kernel
theorem dX2_hold_10 : decode cX2_hold 10 = .ok (.putfield 21, 3) := by decide +kernel
theorem dX2_hold_13 : decode cX2_hold 13 = .ok (.aload_n 0, 1) := by decide +kernel
theorem dX2_hold_14 : decode cX2_hold 14 = .ok (.iload_n 1, 1) := by decide +kernel
theorem dX2_hold_15 : decode cX2_hold 15 = .ok (.putfield 25, 3) := by decide +kernel
theorem dX2_hold_18 : decode cX2_hold 18 = .ok (.aload_n 0, 1) := by decide +kernel
theorem dX2_hold_19 : decode cX2_hold 19 = .ok (.iload_n 2, 1) := by decide +kernel
theorem dX2_hold_20 : decode cX2_hold 20 = .ok (.putfield 29, 3) := by decide +kernel
theorem dX2_hold_23 : decode cX2_hold 23 = .ok (.return_, 1) := by decide +kernel
theorem dX2_find_0 : decode cX2_find 0 = .ok (.aload_n 0, 1) := by decide +kernel
theorem dX2_find_1 : decode cX2_find 1 = .ok (.getfield 21, 3) := by decide +kernel
theorem dX2_find_4 : decode cX2_find 4 = .ok (.ifCond .ne 6, 3) := by decide +kernel
theorem dX2_find_7 : decode cX2_find 7 = .ok (.bipush (-11), 2) := by decide +kernel
theorem dX2_find_9 : decode cX2_find 9 = .ok (.ireturn, 1) := by decide +kernel
theorem dX2_find_10 : decode cX2_find 10 = .ok (.aload_n 0, 1) := by decide +kernel
theorem dX2_find_11 : decode cX2_find 11 = .ok (.getfield 25, 3) := by decide +kernel
theorem dX2_find_14 : decode cX2_find 14 = .ok (.iload_n 1, 1) := by decide +kernel
theorem dX2_find_15 : decode cX2_find 15 = .ok (.if_icmp .ne 7, 3) := by decide +kernel
theorem dX2_find_18 : decode cX2_find 18 = .ok (.iconst 0, 1) := by decide +kernel
theorem dX2_find_19 : decode cX2_find 19 = .ok (.goto 5, 3) := by decide +kernel
theorem dX2_find_22 : decode cX2_find 22 = .ok (.bipush (-12), 2) := by decide +kernel
theorem dX2_find_24 : decode cX2_find 24 = .ok (.ireturn, 1) := by decide +kernel
theorem dX2_hasItems_0 : decode cX2_hasItems 0 = .ok (.iload_n 1, 1) := by decide +kernel
theorem dX2_hasItems_1 : decode cX2_hasItems 1 = .ok (.ifCond .lt 29, 3) := by decide +kernel
theorem dX2_hasItems_4 : decode cX2_hasItems 4 = .ok (.iload_n 2, 1) := by decide +kernel
theorem dX2_hasItems_5 : decode cX2_hasItems 5 = .ok (.ifCond .lt 25, 3) := by decide +kernel
theorem dX2_hasItems_8 : decode cX2_hasItems 8 = .ok (.iload_n 1, 1) := by decide +kernel
theorem dX2_hasItems_9 : decode cX2_hasItems 9 = .ok (.aload_n 0, 1) := by decide +kernel
theorem dX2_hasItems_10 : decode cX2_hasItems 10 = .ok (.getfield 29, 3) := by decide +kernel
theorem dX2_hasItems_13 : decode cX2_hasItems 13 = .ok (.if_icmp .gt 17, 3) := by decide +kernel
theorem dX2_hasItems_16 : decode cX2_hasItems 16 = .ok (.iload_n 2, 1) := by decide +kernel
theorem dX2_hasItems_17 : decode cX2_hasItems 17 = .ok (.aload_n 0, 1) := by decide +kernel
theorem dX2_hasItems_18 : decode cX2_hasItems 18 = .ok (.getfield 29, 3) := by decide +kernel
theorem dX2_hasItems_21 : decode cX2_hasItems 21 = .ok (.iload_n 1, 1) := by decide +kernel
theorem dX2_hasItems_22 : decode cX2_hasItems 22 = .ok (.isub, 1) := by decide +kernel
theorem dX2_hasItems_23 : decode cX2_hasItems 23 = .ok (.if_icmp .gt 7, 3) := by decide +kernel
theorem dX2_hasItems_26 : decode cX2_hasItems 26 = .ok (.iconst 1, 1) := by decide +kernel
theorem dX2_hasItems_27 : decode cX2_hasItems 27 = .ok (.goto 4, 3) := by decide +kernel
theorem dX2_hasItems_30 : decode cX2_hasItems 30 = .ok (.iconst 0, 1) := by decide +kernel
theorem dX2_hasItems_31 : decode cX2_hasItems 31 = .ok (.ireturn, 1) := by decide +kernel
theorem dX3_init_0 : decode cX3_init 0 = .ok (.aload_n 0, 1) := by decide +kernel
theorem dX3_init_1 : decode cX3_init 1 = .ok (.invokespecial 3, 3) := by decide +kernel
theorem dX3_init_4 : decode cX3_init 4 = .ok (.aload_n 0, 1) := by decide +kernel
theorem dX3_init_5 : decode cX3_init 5 = .ok (.bipush 6, 2) := by decide +kernel
theorem dX3_init_7 : decode cX3_init 7 = .ok (.newarray .int, 2) := by decide +kernel
theorem dX3_init_9 : decode cX3_init 9 = .ok (.putfield 9, 3) := by decide +kernel
theorem dX3_init_12 : decode cX3_init 12 = .ok (.aload_n 0, 1) := by decide +kernel
theorem dX3_init_13 : decode cX3_init 13 = .ok (.bipush 36, 2) := by decide +kernel
theorem dX3_init_15 : decode cX3_init 15 = .ok (.newarray .int, 2) := by decide +kernel
theorem dX3_init_17 : decode cX3_init 17 = .ok (.putfield 15, 3) := by decide +kernel
theorem dX3_init_20 : decode cX3_init 20 = .ok (.return_, 1) := by decide +kernel
theorem dX3_has_0 : decode cX3_has 0 = .ok (.iload_n 1, 1) := by decide +kernel
theorem dX3_has_1 : decode cX3_has 1 = .ok (.ifCond .lt 15, 3) := by decide +kernel
theorem dX3_has_4 : decode cX3_has 4 = .ok (.iload_n 1, 1) := by decide +kernel
theorem dX3_has_5 : decode cX3_has 5 = .ok (.aload_n 0, 1) := by decide +kernel
theorem dX3_has_6 : decode cX3_has 6 = .ok (.getfield 18, 3) := by decide +kernel
theorem dX3_has_9 : decode cX3_has 9 = .ok (.if_icmp .ge 7, 3) := by decide +kernel
theorem dX3_has_12 : decode cX3_has 12 = .ok (.iconst 1, 1) := by decide +kernel
theorem dX3_has_13 : decode cX3_has 13 = .ok (.goto 4, 3) := by decide +kernel
theorem dX3_has_16 : decode cX3_has 16 = .ok (.iconst 0, 1) := by decide +kernel
theorem dX3_has_17 : decode cX3_has 17 = .ok (.ireturn, 1) := by decide +kernel
theorem dX3_number_0 : decode cX3_number 0 = .ok (.aload_n 0, 1) := by decide +kernel
theorem dX3_number_1 : decode cX3_number 1 = .ok (.getfield 15, 3) := by decide +kernel
theorem dX3_number_4 : decode cX3_number 4 = .ok (.iload_n 1, 1) := by decide +kernel
theorem dX3_number_5 : decode cX3_number 5 = .ok (.bipush 6, 2) := by decide +kernel
theorem dX3_number_7 : decode cX3_number 7 = .ok (.imul, 1) := by decide +kernel
theorem dX3_number_8 : decode cX3_number 8 = .ok (.iload_n 2, 1) := by decide +kernel
theorem dX3_number_9 : decode cX3_number 9 = .ok (.iadd, 1) := by decide +kernel
theorem dX3_number_10 : decode cX3_number 10 = .ok (.iaload, 1) := by decide +kernel
theorem dX3_number_11 : decode cX3_number 11 = .ok (.ireturn, 1) := by decide +kernel
theorem dX3_setNumbers_0 : decode cX3_setNumbers 0 = .ok (.aload_n 0, 1) := by decide +kernel
theorem dX3_setNumbers_1 : decode cX3_setNumbers 1 = .ok (.getfield 15, 3) := by decide +kernel
theorem dX3_setNumbers_4 : decode cX3_setNumbers 4 = .ok (.iload_n 1, 1) := by decide +kernel
theorem dX3_setNumbers_5 : decode cX3_setNumbers 5 = .ok (.bipush 6, 2) := by decide +kernel
theorem dX3_setNumbers_7 : decode cX3_setNumbers 7 = .ok (.imul, 1) := by decide +kernel
theorem dX3_setNumbers_8 : decode cX3_setNumbers 8 = .ok (.iload_n 2, 1) := by decide +kernel
theorem dX3_setNumbers_9 : decode cX3_setNumbers 9 = .ok (.iadd, 1) := by decide +kernel
theorem dX3_setNumbers_10 : decode cX3_setNumbers 10 = .ok (.iload_n 3, 1) := by decide +kernel
theorem dX3_setNumbers_11 : decode cX3_setNumbers 11 = .ok (.iastore, 1) := by decide +kernel
theorem dX3_setNumbers_12 : decode cX3_setNumbers 12 = .ok (.aload_n 0, 1) := by decide +kernel
theorem dX3_setNumbers_13 : decode cX3_setNumbers 13 = .ok (.getfield 15, 3) := by decide +kernel
theorem dX3_setNumbers_16 : decode cX3_setNumbers 16 = .ok (.iload_n 2, 1) := by decide +kernel
theorem dX3_setNumbers_17 : decode cX3_setNumbers 17 = .ok (.bipush 6, 2) := by decide +kernel
theorem dX3_setNumbers_19 : decode cX3_setNumbers 19 = .ok (.imul, 1) := by decide +kernel
theorem dX3_setNumbers_20 : decode cX3_setNumbers 20 = .ok (.iload_n 1, 1) := by decide +kernel
theorem dX3_setNumbers_21 : decode cX3_setNumbers 21 = .ok (.iadd, 1) := by decide +kernel
theorem dX3_setNumbers_22 : decode cX3_setNumbers 22 = .ok (.iload 4, 2) := by decide +kernel
theorem dX3_setNumbers_24 : decode cX3_setNumbers 24 = .ok (.iastore, 1) := by decide +kernel
theorem dX3_setNumbers_25 : decode cX3_setNumbers 25 = .ok (.return_, 1) := by decide +kernel
theorem dX3_addMirror_0 : decode cX3_addMirror 0 = .ok (.aload_n 0, 1) := by decide +kernel
theorem dX3_addMirror_1 : decode cX3_addMirror 1 = .ok (.getfield 9, 3) := by decide +kernel
theorem dX3_addMirror_4 : decode cX3_addMirror 4 = .ok (.aload_n 0, 1) := by decide +kernel
theorem dX3_addMirror_5 : decode cX3_addMirror 5 = .ok (.getfield 18, 3) := by decide +kernel
theorem dX3_addMirror_8 : decode cX3_addMirror 8 = .ok (.iload_n 1, 1) := by decide +kernel
theorem dX3_addMirror_9 : decode cX3_addMirror 9 = .ok (.iastore, 1) := by decide +kernel
theorem dX3_addMirror_10 : decode cX3_addMirror 10 = .ok (.aload_n 0, 1) := by decide +kernel
theorem dX3_addMirror_11 : decode cX3_addMirror 11 = .ok (.dup, 1) := by decide +kernel
theorem dX3_addMirror_12 : decode cX3_addMirror 12 = .ok (.getfield 18, 3) := by decide +kernel
theorem dX3_addMirror_15 : decode cX3_addMirror 15 = .ok (.iconst 1, 1) := by decide +kernel
theorem dX3_addMirror_16 : decode cX3_addMirror 16 = .ok (.iadd, 1) := by decide +kernel
theorem dX3_addMirror_17 : decode cX3_addMirror 17 = .ok (.putfield 18, 3) := by decide +kernel
theorem dX3_addMirror_20 : decode cX3_addMirror 20 = .ok (.aload_n 0, 1) := by decide +kernel
theorem dX3_addMirror_21 : decode cX3_addMirror 21 = .ok (.getfield 18, 3) := by decide +kernel
theorem dX3_addMirror_24 : decode cX3_addMirror 24 = .ok (.iconst 1, 1) := by decide +kernel
theorem dX3_addMirror_25 : decode cX3_addMirror 25 = .ok (.isub, 1) := by decide +kernel
theorem dX3_addMirror_26 : decode cX3_addMirror 26 = .ok (.ireturn, 1) := by decide +kernel
set_option maxRecDepth 20000 in
theorem ggX3_removeLast_X3_setNumbers : GoodIn wsX3_removeLast wsX3_setNumbers := goodIn_r _ [6, 7, 8, 9, 10] rfl (by decide +kernel)
set_option maxRecDepth 20000 in
theorem gX3_removeLast_X3_setNumbers : GoodIn wsX3_removeLast (wsV RX3 22 RX3 yX3_setNumbers wsX3_setNumbers) := goodIn_app (goodIn_of _ (by decide +kernel)) ggX3_removeLast_X3_setNumbers
theorem dX3_removeLast_0 : decode cX3_removeLast 0 = .ok (.aload_n 0, 1) := by decide +kernel
theorem dX3_removeLast_1 : decode cX3_removeLast 1 = .ok (.dup, 1) := by decide +kernel
theorem dX3_removeLast_2 : decode cX3_removeLast 2 = .ok (.getfield 18, 3) := by decide +kernel
theorem dX3_removeLast_5 : decode cX3_removeLast 5 = .ok (.iconst 1, 1) := by decide +kernel
theorem dX3_removeLast_6 : decode cX3_removeLast 6 = .ok (.isub, 1) := by decide +kernel
theorem dX3_removeLast_7 : decode cX3_removeLast 7 = .ok (.putfield 18, 3) := by decide +kernel
theorem dX3_removeLast_10 : decode cX3_removeLast 10 = .ok (.iconst 0, 1) := by decide +kernel
theorem dX3_removeLast_11 : decode cX3_removeLast 11 = .ok (.istore_n 1, 1) := by decide +kernel
theorem dX3_removeLast_12 : decode cX3_removeLast 12 = .ok (.iload_n 1, 1) := by decide +kernel
theorem dX3_removeLast_13 : decode cX3_removeLast 13 = .ok (.bipush 6, 2) := by decide +kernel
theorem dX3_removeLast_15 : decode cX3_removeLast 15 = .ok (.if_icmp .ge 20, 3) := by decide +kernel
theorem dX3_removeLast_18 : decode cX3_removeLast 18 = .ok (.aload_n 0, 1) := by decide +kernel
theorem dX3_removeLast_19 : decode cX3_removeLast 19 = .ok (.aload_n 0, 1) := by decide +kernel
theorem dX3_removeLast_20 : decode cX3_removeLast 20 = .ok (.getfield 18, 3) := by decide +kernel
theorem dX3_removeLast_23 : decode cX3_removeLast 23 = .ok (.iload_n 1, 1) := by decide +kernel
theorem dX3_removeLast_24 : decode cX3_removeLast 24 = .ok (.iconst 0, 1) := by decide +kernel
theorem dX3_removeLast_25 : decode cX3_removeLast 25 = .ok (.iconst 0, 1) := by decide +kernel
theorem dX3_removeLast_26 : decode cX3_removeLast 26 = .ok (.invokevirtual 22, 3) := by decide +kernel
theorem dX3_removeLast_29 : decode cX3_removeLast 29 = .ok (.iinc 1 1, 3) := by decide +kernel
theorem dX3_removeLast_32 : decode cX3_removeLast 32 = .ok (.goto (-20), 3) := by decide +kernel
theorem dX3_removeLast_35 : decode cX3_removeLast 35 = .ok (.return_, 1) := by decide +kernel
theorem dX3_take_0 : decode cX3_take 0 = .ok (.aload_n 1, 1) := by decide +kernel
theorem dX3_take_1 : decode cX3_take 1 = .ok (.getfield 9, 3) := by decide +kernel
theorem dX3_take_4 : decode cX3_take 4 = .ok (.iconst 0, 1) := by decide +kernel
theorem dX3_take_5 : decode cX3_take 5 = .ok (.aload_n 0, 1) := by decide +kernel
theorem dX3_take_6 : decode cX3_take 6 = .ok (.getfield 9, 3) := by decide +kernel
theorem dX3_take_9 : decode cX3_take 9 = .ok (.iconst 0, 1) := by decide +kernel
theorem dX3_take_10 : decode cX3_take 10 = .ok (.bipush 6, 2) := by decide +kernel
theorem dX3_take_12 : decode cX3_take 12 = .ok (.invokestatic 26, 3) := by decide +kernel
theorem dX3_take_15 : decode cX3_take 15 = .ok (.aload_n 1, 1) := by decide +kernel
theorem dX3_take_16 : decode cX3_take 16 = .ok (.getfield 15, 3) := by decide +kernel
theorem dX3_take_19 : decode cX3_take 19 = .ok (.iconst 0, 1) := by decide +kernel
theorem dX3_take_20 : decode cX3_take 20 = .ok (.aload_n 0, 1) := by decide +kernel
theorem dX3_take_21 : decode cX3_take 21 = .ok (.getfield 15, 3) := by decide +kernel
theorem dX3_take_24 : decode cX3_take 24 = .ok (.iconst 0, 1) := by decide +kernel
theorem dX3_take_25 : decode cX3_take 25 = .ok (.bipush 36, 2) := by decide +kernel
theorem dX3_take_27 : decode cX3_take 27 = .ok (.invokestatic 26, 3) := by decide +kernel
theorem dX3_take_30 : decode cX3_take 30 = .ok (.aload_n 0, 1) := by decide +kernel
theorem dX3_take_31 : decode cX3_take 31 = .ok (.aload_n 1, 1) := by decide +kernel
theorem dX3_take_32 : decode cX3_take 32 = .ok (.getfield 18, 3) := by decide +kernel
theorem dX3_take_35 : decode cX3_take 35 = .ok (.putfield 18, 3) := by decide +kernel
theorem dX3_take_38 : decode cX3_take 38 = .ok (.return_, 1) := by decide +kernel
set_option maxRecDepth 20000 in
theorem ggX3_meetsAt_X3_number : GoodIn wsX3_meetsAt wsX3_number := goodIn_r _ [5, 6, 7, 8, 9] rfl (by decide +kernel)
set_option maxRecDepth 20000 in
theorem gX3_meetsAt_X3_number : GoodIn wsX3_meetsAt (wsV RX3 32 RX3 yX3_number wsX3_number) := goodIn_app (goodIn_of _ (by decide +kernel)) ggX3_meetsAt_X3_number
theorem dX3_meetsAt_0 : decode cX3_meetsAt 0 = .ok (.iload_n 1, 1) := by decide +kernel
theorem dX3_meetsAt_1 : decode cX3_meetsAt 1 = .ok (.iload_n 2, 1) := by decide +kernel
theorem dX3_meetsAt_2 : decode cX3_meetsAt 2 = .ok (.if_icmp .ne 5, 3) := by decide +kernel
theorem dX3_meetsAt_5 : decode cX3_meetsAt 5 = .ok (.iconst 1, 1) := by decide +kernel
theorem dX3_meetsAt_6 : decode cX3_meetsAt 6 = .ok (.ireturn, 1) := by decide +kernel
theorem dX3_meetsAt_7 : decode cX3_meetsAt 7 = .ok (.aload_n 0, 1) := by decide +kernel
theorem dX3_meetsAt_8 : decode cX3_meetsAt 8 = .ok (.iload_n 1, 1) := by decide +kernel
theorem dX3_meetsAt_9 : decode cX3_meetsAt 9 = .ok (.iload_n 2, 1) := by decide +kernel
theorem dX3_meetsAt_10 : decode cX3_meetsAt 10 = .ok (.invokevirtual 32, 3) := by decide +kernel
theorem dX3_meetsAt_13 : decode cX3_meetsAt 13 = .ok (.aload_n 0, 1) := by decide +kernel
theorem dX3_meetsAt_14 : decode cX3_meetsAt 14 = .ok (.iload_n 2, 1) := by decide +kernel
theorem dX3_meetsAt_15 : decode cX3_meetsAt 15 = .ok (.iload_n 1, 1) := by decide +kernel
theorem dX3_meetsAt_16 : decode cX3_meetsAt 16 = .ok (.invokevirtual 32, 3) := by decide +kernel
theorem dX3_meetsAt_19 : decode cX3_meetsAt 19 = .ok (.imul, 1) := by decide +kernel
theorem dX3_meetsAt_20 : decode cX3_meetsAt 20 = .ok (.tableswitch 41 0 3 #[32, 34, 36, 38], 32) := by decide +kernel
theorem dX3_meetsAt_52 : decode cX3_meetsAt 52 = .ok (.iconst 2, 1) := by decide +kernel
theorem dX3_meetsAt_53 : decode cX3_meetsAt 53 = .ok (.ireturn, 1) := by decide +kernel
theorem dX3_meetsAt_54 : decode cX3_meetsAt 54 = .ok (.iconst 3, 1) := by decide +kernel
theorem dX3_meetsAt_55 : decode cX3_meetsAt 55 = .ok (.ireturn, 1) := by decide +kernel
theorem dX3_meetsAt_56 : decode cX3_meetsAt 56 = .ok (.iconst 4, 1) := by decide +kernel
theorem dX3_meetsAt_57 : decode cX3_meetsAt 57 = .ok (.ireturn, 1) := by decide +kernel
theorem dX3_meetsAt_58 : decode cX3_meetsAt 58 = .ok (.bipush 6, 2) := by decide +kernel
theorem dX3_meetsAt_60 : decode cX3_meetsAt 60 = .ok (.ireturn, 1) := by decide +kernel
theorem dX3_meetsAt_61 : decode cX3_meetsAt 61 = .ok (.iconst 0, 1) := by decide +kernel
theorem dX3_meetsAt_62 : decode cX3_meetsAt 62 = .ok (.ireturn, 1) := by decide +kernel
theorem dX3_partBits_0 : decode cX3_partBits 0 = .ok (.iconst 0, 1) := by decide +kernel
theorem dX3_partBits_1 : decode cX3_partBits 1 = .ok (.istore_n 1, 1) := by decide +kernel
theorem dX3_partBits_2 : decode cX3_partBits 2 = .ok (.iconst 0, 1) := by decide +kernel
theorem dX3_partBits_3 : decode cX3_partBits 3 = .ok (.istore_n 2, 1) := by decide +kernel
theorem dX3_partBits_4 : decode cX3_partBits 4 = .ok (.iload_n 2, 1) := by decide +kernel
theorem dX3_partBits_5 : decode cX3_partBits 5 = .ok (.aload_n 0, 1) := by decide +kernel
theorem dX3_partBits_6 : decode cX3_partBits 6 = .ok (.getfield 18, 3) := by decide +kernel
theorem dX3_partBits_9 : decode cX3_partBits 9 = .ok (.if_icmp .ge 25, 3) := by decide +kernel
theorem dX3_partBits_12 : decode cX3_partBits 12 = .ok (.aload_n 0, 1) := by decide +kernel
theorem dX3_partBits_13 : decode cX3_partBits 13 = .ok (.getfield 9, 3) := by decide +kernel
theorem dX3_partBits_16 : decode cX3_partBits 16 = .ok (.iload_n 2, 1) := by decide +kernel
theorem dX3_partBits_17 : decode cX3_partBits 17 = .ok (.iaload, 1) := by decide +kernel
theorem dX3_partBits_18 : decode cX3_partBits 18 = .ok (.iconst 1, 1) := by decide +kernel
theorem dX3_partBits_19 : decode cX3_partBits 19 = .ok (.if_icmp .ge 9, 3) := by decide +kernel
theorem dX3_partBits_22 : decode cX3_partBits 22 = .ok (.iload_n 1, 1) := by decide +kernel
theorem dX3_partBits_23 : decode cX3_partBits 23 = .ok (.iconst 1, 1) := by decide +kernel
theorem dX3_partBits_24 : decode cX3_partBits 24 = .ok (.iload_n 2, 1) := by decide +kernel
theorem dX3_partBits_25 : decode cX3_partBits 25 = .ok (.ishl, 1) := by decide +kernel
theorem dX3_partBits_26 : decode cX3_partBits 26 = .ok (.ior, 1) := by decide +kernel
theorem dX3_partBits_27 : decode cX3_partBits 27 = .ok (.istore_n 1, 1) := by decide +kernel
theorem dX3_partBits_28 : decode cX3_partBits 28 = .ok (.iinc 2 1, 3) := by decide +kernel
theorem dX3_partBits_31 : decode cX3_partBits 31 = .ok (.goto (-27), 3) := by decide +kernel
theorem dX3_partBits_34 : decode cX3_partBits 34 = .ok (.iload_n 1, 1) := by decide +kernel
theorem dX3_partBits_35 : decode cX3_partBits 35 = .ok (.ireturn, 1) := by decide +kernel
theorem dX3_turnedNumber_0 : decode cX3_turnedNumber 0 = .ok (.aload_n 1, 1) := by decide +kernel
theorem dX3_turnedNumber_1 : decode cX3_turnedNumber 1 = .ok (.iload_n 2, 1) := by decide +kernel
theorem dX3_turnedNumber_2 : decode cX3_turnedNumber 2 = .ok (.laload, 1) := by decide +kernel
theorem dX3_turnedNumber_3 : decode cX3_turnedNumber 3 = .ok (.lneg, 1) := by decide +kernel
theorem dX3_turnedNumber_4 : decode cX3_turnedNumber 4 = .ok (.lstore_n 3, 1) := by decide +kernel
theorem dX3_turnedNumber_5 : decode cX3_turnedNumber 5 = .ok (.iconst 0, 1) := by decide +kernel
theorem dX3_turnedNumber_6 : decode cX3_turnedNumber 6 = .ok (.istore 5, 2) := by decide +kernel
theorem dX3_turnedNumber_8 : decode cX3_turnedNumber 8 = .ok (.iload 5, 2) := by decide +kernel
theorem dX3_turnedNumber_10 : decode cX3_turnedNumber 10 = .ok (.aload_n 0, 1) := by decide +kernel
theorem dX3_turnedNumber_11 : decode cX3_turnedNumber 11 = .ok (.getfield 18, 3) := by decide +kernel
theorem dX3_turnedNumber_14 : decode cX3_turnedNumber 14 = .ok (.if_icmp .ge 30, 3) := by decide +kernel
theorem dX3_turnedNumber_17 : decode cX3_turnedNumber 17 = .ok (.lload_n 3, 1) := by decide +kernel
theorem dX3_turnedNumber_18 : decode cX3_turnedNumber 18 = .ok (.aload_n 0, 1) := by decide +kernel
theorem dX3_turnedNumber_19 : decode cX3_turnedNumber 19 = .ok (.getfield 15, 3) := by decide +kernel
theorem dX3_turnedNumber_22 : decode cX3_turnedNumber 22 = .ok (.iload_n 2, 1) := by decide +kernel
theorem dX3_turnedNumber_23 : decode cX3_turnedNumber 23 = .ok (.bipush 6, 2) := by decide +kernel
theorem dX3_turnedNumber_25 : decode cX3_turnedNumber 25 = .ok (.imul, 1) := by decide +kernel
theorem dX3_turnedNumber_26 : decode cX3_turnedNumber 26 = .ok (.iload 5, 2) := by decide +kernel
theorem dX3_turnedNumber_28 : decode cX3_turnedNumber 28 = .ok (.iadd, 1) := by decide +kernel
theorem dX3_turnedNumber_29 : decode cX3_turnedNumber 29 = .ok (.iaload, 1) := by decide +kernel
theorem dX3_turnedNumber_30 : decode cX3_turnedNumber 30 = .ok (.i2l, 1) := by decide +kernel
theorem dX3_turnedNumber_31 : decode cX3_turnedNumber 31 = .ok (.aload_n 1, 1) := by decide +kernel
theorem dX3_turnedNumber_32 : decode cX3_turnedNumber 32 = .ok (.iload 5, 2) := by decide +kernel
theorem dX3_turnedNumber_34 : decode cX3_turnedNumber 34 = .ok (.laload, 1) := by decide +kernel
theorem dX3_turnedNumber_35 : decode cX3_turnedNumber 35 = .ok (.lmul, 1) := by decide +kernel
theorem dX3_turnedNumber_36 : decode cX3_turnedNumber 36 = .ok (.ladd, 1) := by decide +kernel
theorem dX3_turnedNumber_37 : decode cX3_turnedNumber 37 = .ok (.lstore_n 3, 1) := by decide +kernel
theorem dX3_turnedNumber_38 : decode cX3_turnedNumber 38 = .ok (.iinc 5 1, 3) := by decide +kernel
theorem dX3_turnedNumber_41 : decode cX3_turnedNumber 41 = .ok (.goto (-33), 3) := by decide +kernel
theorem dX3_turnedNumber_44 : decode cX3_turnedNumber 44 = .ok (.lload_n 3, 1) := by decide +kernel
theorem dX3_turnedNumber_45 : decode cX3_turnedNumber 45 = .ok (.lreturn, 1) := by decide +kernel
set_option maxRecDepth 20000 in
theorem ggX3_turn_X3_turnedNumber : GoodIn wsX3_turn wsX3_turnedNumber := goodIn_r _ [7, 8, 9, 10, 11, 12] rfl (by decide +kernel)
set_option maxRecDepth 20000 in
theorem gX3_turn_X3_turnedNumber : GoodIn wsX3_turn (wsV RX3 36 RX3 yX3_turnedNumber wsX3_turnedNumber) := goodIn_app (goodIn_of _ (by decide +kernel)) ggX3_turn_X3_turnedNumber
theorem dX3_turn_0 : decode cX3_turn 0 = .ok (.aload_n 0, 1) := by decide +kernel
theorem dX3_turn_1 : decode cX3_turn 1 = .ok (.aload_n 1, 1) := by decide +kernel
theorem dX3_turn_2 : decode cX3_turn 2 = .ok (.iload_n 2, 1) := by decide +kernel
theorem dX3_turn_3 : decode cX3_turn 3 = .ok (.invokevirtual 36, 3) := by decide +kernel
theorem dX3_turn_6 : decode cX3_turn 6 = .ok (.lstore_n 3, 1) := by decide +kernel
theorem dX3_turn_7 : decode cX3_turn 7 = .ok (.aload_n 1, 1) := by decide +kernel
theorem dX3_turn_8 : decode cX3_turn 8 = .ok (.iload_n 2, 1) := by decide +kernel
theorem dX3_turn_9 : decode cX3_turn 9 = .ok (.lload_n 3, 1) := by decide +kernel
theorem dX3_turn_10 : decode cX3_turn 10 = .ok (.lastore, 1) := by decide +kernel
theorem dX3_turn_11 : decode cX3_turn 11 = .ok (.lload_n 3, 1) := by decide +kernel
theorem dX3_turn_12 : decode cX3_turn 12 = .ok (.ldc2_w 40, 3) := by decide +kernel
theorem dX3_turn_15 : decode cX3_turn 15 = .ok (.lcmp, 1) := by decide +kernel
theorem dX3_turn_16 : decode cX3_turn 16 = .ok (.ifCond .gt 15, 3) := by decide +kernel
theorem dX3_turn_19 : decode cX3_turn 19 = .ok (.lload_n 3, 1) := by decide +kernel
theorem dX3_turn_20 : decode cX3_turn 20 = .ok (.ldc2_w 42, 3) := by decide +kernel
theorem dX3_turn_23 : decode cX3_turn 23 = .ok (.lcmp, 1) := by decide +kernel
theorem dX3_turn_24 : decode cX3_turn 24 = .ok (.ifCond .lt 7, 3) := by decide +kernel
theorem dX3_turn_27 : decode cX3_turn 27 = .ok (.iconst 1, 1) := by decide +kernel
theorem dX3_turn_28 : decode cX3_turn 28 = .ok (.goto 4, 3) := by decide +kernel
theorem dX3_turn_31 : decode cX3_turn 31 = .ok (.iconst 0, 1) := by decide +kernel
theorem dX3_turn_32 : decode cX3_turn 32 = .ok (.ireturn, 1) := by decide +kernel
set_option maxRecDepth 20000 in
theorem ggX3_turnBy_X3_turn : GoodIn wsX3_turnBy wsX3_turn := goodIn_r _ [6, 7, 8, 9, 10, 11, 5, 12, 13, 14, 17, 18, 19] rfl (by decide +kernel)
set_option maxRecDepth 20000 in
theorem gX3_turnBy_X3_turn : GoodIn wsX3_turnBy (wsV RX3 49 RX3 yX3_turn wsX3_turn) := goodIn_app (goodIn_of _ (by decide +kernel)) ggX3_turnBy_X3_turn
theorem dX3_turnBy_0 : decode cX3_turnBy 0 = .ok (.iload_n 2, 1) := by decide +kernel
theorem dX3_turnBy_1 : decode cX3_turnBy 1 = .ok (.iconst 1, 1) := by decide +kernel
theorem dX3_turnBy_2 : decode cX3_turnBy 2 = .ok (.isub, 1) := by decide +kernel
theorem dX3_turnBy_3 : decode cX3_turnBy 3 = .ok (.istore 4, 2) := by decide +kernel
theorem dX3_turnBy_5 : decode cX3_turnBy 5 = .ok (.iload 4, 2) := by decide +kernel
theorem dX3_turnBy_7 : decode cX3_turnBy 7 = .ok (.ifCond .lt 26, 3) := by decide +kernel
theorem dX3_turnBy_10 : decode cX3_turnBy 10 = .ok (.aload_n 0, 1) := by decide +kernel
theorem dX3_turnBy_11 : decode cX3_turnBy 11 = .ok (.aload_n 3, 1) := by decide +kernel
theorem dX3_turnBy_12 : decode cX3_turnBy 12 = .ok (.aload_n 1, 1) := by decide +kernel
theorem dX3_turnBy_13 : decode cX3_turnBy 13 = .ok (.getfield 44, 3) := by decide +kernel
theorem dX3_turnBy_16 : decode cX3_turnBy 16 = .ok (.iload 4, 2) := by decide +kernel
theorem dX3_turnBy_18 : decode cX3_turnBy 18 = .ok (.iaload, 1) := by decide +kernel
theorem dX3_turnBy_19 : decode cX3_turnBy 19 = .ok (.invokevirtual 49, 3) := by decide +kernel
theorem dX3_turnBy_22 : decode cX3_turnBy 22 = .ok (.ifCond .ne 5, 3) := by decide +kernel
theorem dX3_turnBy_25 : decode cX3_turnBy 25 = .ok (.iconst 0, 1) := by decide +kernel
theorem dX3_turnBy_26 : decode cX3_turnBy 26 = .ok (.ireturn, 1) := by decide +kernel
theorem dX3_turnBy_27 : decode cX3_turnBy 27 = .ok (.iinc 4 (-1), 3) := by decide +kernel
theorem dX3_turnBy_30 : decode cX3_turnBy 30 = .ok (.goto (-25), 3) := by decide +kernel
theorem dX3_turnBy_33 : decode cX3_turnBy 33 = .ok (.iconst 1, 1) := by decide +kernel
theorem dX3_turnBy_34 : decode cX3_turnBy 34 = .ok (.ireturn, 1) := by decide +kernel
theorem dX4_init_0 : decode cX4_init 0 = .ok (.aload_n 0, 1) := by decide +kernel
theorem dX4_init_1 : decode cX4_init 1 = .ok (.invokespecial 5, 3) := by decide +kernel
theorem dX4_init_4 : decode cX4_init 4 = .ok (.aload_n 0, 1) := by decide +kernel
theorem dX4_init_5 : decode cX4_init 5 = .ok (.sipush 400, 3) := by decide +kernel
theorem dX4_init_8 : decode cX4_init 8 = .ok (.newarray .long, 2) := by decide +kernel
theorem dX4_init_10 : decode cX4_init 10 = .ok (.putfield 11, 3) := by decide +kernel
theorem dX4_init_13 : decode cX4_init 13 = .ok (.aload_n 0, 1) := by decide +kernel
theorem dX4_init_14 : decode cX4_init 14 = .ok (.sipush 400, 3) := by decide +kernel
theorem dX4_init_17 : decode cX4_init 17 = .ok (.newarray .long, 2) := by decide +kernel
theorem dX4_init_19 : decode cX4_init 19 = .ok (.putfield 15, 3) := by decide +kernel
theorem dX4_init_22 : decode cX4_init 22 = .ok (.aload_n 0, 1) := by decide +kernel
theorem dX4_init_23 : decode cX4_init 23 = .ok (.bipush 42, 2) := by decide +kernel
theorem dX4_init_25 : decode cX4_init 25 = .ok (.newarray .int, 2) := by decide +kernel
theorem dX4_init_27 : decode cX4_init 27 = .ok (.putfield 18, 3) := by decide +kernel
theorem dX4_init_30 : decode cX4_init 30 = .ok (.aload_n 0, 1) := by decide +kernel
theorem dX4_init_31 : decode cX4_init 31 = .ok (.aload_n 1, 1) := by decide +kernel
theorem dX4_init_32 : decode cX4_init 32 = .ok (.putfield 22, 3) := by decide +kernel
theorem dX4_init_35 : decode cX4_init 35 = .ok (.return_, 1) := by decide +kernel
theorem dX4_forget_0 : decode cX4_forget 0 = .ok (.aload_n 0, 1) := by decide +kernel
theorem dX4_forget_1 : decode cX4_forget 1 = .ok (.iconst 0, 1) := by decide +kernel
theorem dX4_forget_2 : decode cX4_forget 2 = .ok (.putfield 26, 3) := by decide +kernel
theorem dX4_forget_5 : decode cX4_forget 5 = .ok (.aload_n 0, 1) := by decide +kernel
theorem dX4_forget_6 : decode cX4_forget 6 = .ok (.iconst 0, 1) := by decide +kernel
theorem dX4_forget_7 : decode cX4_forget 7 = .ok (.putfield 30, 3) := by decide +kernel
theorem dX4_forget_10 : decode cX4_forget 10 = .ok (.return_, 1) := by decide +kernel
set_option maxRecDepth 20000 in
theorem ggX4_reaches_X4_addHeight : GoodIn wsX4_reaches wsX4_addHeight := goodIn_r _ [7, 8, 9, 10, 2, 11, 12, 1, 13, 14, 6, 15, 16, 17, 18, 19, 20, 21, 22, 23, 24, 25, 26, 27, 28, 29, 30, 31, 32, 33, 34, 35, 36, 37, 38, 39, 40, 41, 42, 43, 44, 45, 46, 47, 48, 49, 50, 51, 52, 53] rfl (by decide +kernel)
set_option maxRecDepth 20000 in
theorem gX4_reaches_X4_addHeight : GoodIn wsX4_reaches (wsV RX4 34 RX4 yX4_addHeight wsX4_addHeight) := goodIn_app (goodIn_of _ (by decide +kernel)) ggX4_reaches_X4_addHeight
theorem dX4_reaches_0 : decode cX4_reaches 0 = .ok (.aload_n 0, 1) := by decide +kernel
theorem dX4_reaches_1 : decode cX4_reaches 1 = .ok (.getfield 26, 3) := by decide +kernel
theorem dX4_reaches_4 : decode cX4_reaches 4 = .ok (.iconst 1, 1) := by decide +kernel
theorem dX4_reaches_5 : decode cX4_reaches 5 = .ok (.iadd, 1) := by decide +kernel
theorem dX4_reaches_6 : decode cX4_reaches 6 = .ok (.istore_n 2, 1) := by decide +kernel
theorem dX4_reaches_7 : decode cX4_reaches 7 = .ok (.iload_n 2, 1) := by decide +kernel
theorem dX4_reaches_8 : decode cX4_reaches 8 = .ok (.iload_n 1, 1) := by decide +kernel
theorem dX4_reaches_9 : decode cX4_reaches 9 = .ok (.if_icmp .gt 21, 3) := by decide +kernel
theorem dX4_reaches_12 : decode cX4_reaches 12 = .ok (.aload_n 0, 1) := by decide +kernel
theorem dX4_reaches_13 : decode cX4_reaches 13 = .ok (.getfield 30, 3) := by decide +kernel
theorem dX4_reaches_16 : decode cX4_reaches 16 = .ok (.ifCond .ne 14, 3) := by decide +kernel
theorem dX4_reaches_19 : decode cX4_reaches 19 = .ok (.aload_n 0, 1) := by decide +kernel
theorem dX4_reaches_20 : decode cX4_reaches 20 = .ok (.iload_n 2, 1) := by decide +kernel
theorem dX4_reaches_21 : decode cX4_reaches 21 = .ok (.invokevirtual 34, 3) := by decide +kernel
theorem dX4_reaches_24 : decode cX4_reaches 24 = .ok (.iinc 2 1, 3) := by decide +kernel
theorem dX4_reaches_27 : decode cX4_reaches 27 = .ok (.goto (-20), 3) := by decide +kernel
theorem dX4_reaches_30 : decode cX4_reaches 30 = .ok (.iload_n 1, 1) := by decide +kernel
theorem dX4_reaches_31 : decode cX4_reaches 31 = .ok (.aload_n 0, 1) := by decide +kernel
theorem dX4_reaches_32 : decode cX4_reaches 32 = .ok (.getfield 26, 3) := by decide +kernel
theorem dX4_reaches_35 : decode cX4_reaches 35 = .ok (.if_icmp .gt 7, 3) := by decide +kernel
theorem dX4_reaches_38 : decode cX4_reaches 38 = .ok (.iconst 1, 1) := by decide +kernel
theorem dX4_reaches_39 : decode cX4_reaches 39 = .ok (.goto 4, 3) := by decide +kernel
theorem dX4_reaches_42 : decode cX4_reaches 42 = .ok (.iconst 0, 1) := by decide +kernel
theorem dX4_reaches_43 : decode cX4_reaches 43 = .ok (.ireturn, 1) := by decide +kernel
theorem dX4_ofHeight_0 : decode cX4_ofHeight 0 = .ok (.aload_n 0, 1) := by decide +kernel
theorem dX4_ofHeight_1 : decode cX4_ofHeight 1 = .ok (.getfield 18, 3) := by decide +kernel
theorem dX4_ofHeight_4 : decode cX4_ofHeight 4 = .ok (.iload_n 1, 1) := by decide +kernel
theorem dX4_ofHeight_5 : decode cX4_ofHeight 5 = .ok (.iconst 1, 1) := by decide +kernel
theorem dX4_ofHeight_6 : decode cX4_ofHeight 6 = .ok (.iadd, 1) := by decide +kernel
theorem dX4_ofHeight_7 : decode cX4_ofHeight 7 = .ok (.iaload, 1) := by decide +kernel
theorem dX4_ofHeight_8 : decode cX4_ofHeight 8 = .ok (.aload_n 0, 1) := by decide +kernel
theorem dX4_ofHeight_9 : decode cX4_ofHeight 9 = .ok (.getfield 18, 3) := by decide +kernel
theorem dX4_ofHeight_12 : decode cX4_ofHeight 12 = .ok (.iload_n 1, 1) := by decide +kernel
theorem dX4_ofHeight_13 : decode cX4_ofHeight 13 = .ok (.iaload, 1) := by decide +kernel
theorem dX4_ofHeight_14 : decode cX4_ofHeight 14 = .ok (.isub, 1) := by decide +kernel
theorem dX4_ofHeight_15 : decode cX4_ofHeight 15 = .ok (.ireturn, 1) := by decide +kernel
set_option maxRecDepth 20000 in
theorem ggX4_holds_X4_reaches : GoodIn wsX4_holds wsX4_reaches := goodIn_r _ [7, 1, 8, 9, 10, 11, 6, 12, 2, 13, 14, 15, 16, 17, 18, 19, 20, 21, 22, 23, 24, 25, 26, 27, 28, 29, 30, 31, 32, 33, 34, 35, 36, 37, 38, 39, 40, 41, 42, 43, 44, 45, 46, 47, 48, 49, 50, 51, 52, 53, 54, 55, 56, 57] rfl (by decide +kernel)
set_option maxRecDepth 20000 in
theorem gX4_holds_X4_reaches : GoodIn wsX4_holds (wsV RX4 38 RX4 yX4_reaches wsX4_reaches) := goodIn_app (goodIn_of _ (by decide +kernel)) ggX4_holds_X4_reaches
theorem dX4_holds_0 : decode cX4_holds 0 = .ok (.aload_n 0, 1) := by decide +kernel
theorem dX4_holds_1 : decode cX4_holds 1 = .ok (.getfield 26, 3) := by decide +kernel
theorem dX4_holds_4 : decode cX4_holds 4 = .ok (.istore_n 2, 1) := by decide +kernel
theorem dX4_holds_5 : decode cX4_holds 5 = .ok (.iload_n 2, 1) := by decide +kernel
theorem dX4_holds_6 : decode cX4_holds 6 = .ok (.bipush 40, 2) := by decide +kernel
theorem dX4_holds_8 : decode cX4_holds 8 = .ok (.if_icmp .ge 36, 3) := by decide +kernel
theorem dX4_holds_11 : decode cX4_holds 11 = .ok (.aload_n 0, 1) := by decide +kernel
theorem dX4_holds_12 : decode cX4_holds 12 = .ok (.getfield 18, 3) := by decide +kernel
theorem dX4_holds_15 : decode cX4_holds 15 = .ok (.aload_n 0, 1) := by decide +kernel
theorem dX4_holds_16 : decode cX4_holds 16 = .ok (.getfield 26, 3) := by decide +kernel
theorem dX4_holds_19 : decode cX4_holds 19 = .ok (.iconst 1, 1) := by decide +kernel
theorem dX4_holds_20 : decode cX4_holds 20 = .ok (.iadd, 1) := by decide +kernel
theorem dX4_holds_21 : decode cX4_holds 21 = .ok (.iaload, 1) := by decide +kernel
theorem dX4_holds_22 : decode cX4_holds 22 = .ok (.iload_n 1, 1) := by decide +kernel
theorem dX4_holds_23 : decode cX4_holds 23 = .ok (.if_icmp .gt 21, 3) := by decide +kernel
theorem dX4_holds_26 : decode cX4_holds 26 = .ok (.aload_n 0, 1) := by decide +kernel
theorem dX4_holds_27 : decode cX4_holds 27 = .ok (.iload_n 2, 1) := by decide +kernel
theorem dX4_holds_28 : decode cX4_holds 28 = .ok (.iconst 1, 1) := by decide +kernel
theorem dX4_holds_29 : decode cX4_holds 29 = .ok (.iadd, 1) := by decide +kernel
theorem dX4_holds_30 : decode cX4_holds 30 = .ok (.invokevirtual 38, 3) := by decide +kernel
theorem dX4_holds_33 : decode cX4_holds 33 = .ok (.ifCond .ne 5, 3) := by decide +kernel
theorem dX4_holds_36 : decode cX4_holds 36 = .ok (.iconst 0, 1) := by decide +kernel
theorem dX4_holds_37 : decode cX4_holds 37 = .ok (.ireturn, 1) := by decide +kernel
theorem dX4_holds_38 : decode cX4_holds 38 = .ok (.iinc 2 1, 3) := by decide +kernel
theorem dX4_holds_41 : decode cX4_holds 41 = .ok (.goto (-36), 3) := by decide +kernel
theorem dX4_holds_44 : decode cX4_holds 44 = .ok (.iload_n 1, 1) := by decide +kernel
theorem dX4_holds_45 : decode cX4_holds 45 = .ok (.aload_n 0, 1) := by decide +kernel
theorem dX4_holds_46 : decode cX4_holds 46 = .ok (.getfield 18, 3) := by decide +kernel
theorem dX4_holds_49 : decode cX4_holds 49 = .ok (.aload_n 0, 1) := by decide +kernel
theorem dX4_holds_50 : decode cX4_holds 50 = .ok (.getfield 26, 3) := by decide +kernel
theorem dX4_holds_53 : decode cX4_holds 53 = .ok (.iconst 1, 1) := by decide +kernel
theorem dX4_holds_54 : decode cX4_holds 54 = .ok (.iadd, 1) := by decide +kernel
theorem dX4_holds_55 : decode cX4_holds 55 = .ok (.iaload, 1) := by decide +kernel
theorem dX4_holds_56 : decode cX4_holds 56 = .ok (.if_icmp .ge 7, 3) := by decide +kernel
theorem dX4_holds_59 : decode cX4_holds 59 = .ok (.iconst 1, 1) := by decide +kernel
theorem dX4_holds_60 : decode cX4_holds 60 = .ok (.goto 4, 3) := by decide +kernel
theorem dX4_holds_63 : decode cX4_holds 63 = .ok (.iconst 0, 1) := by decide +kernel
theorem dX4_holds_64 : decode cX4_holds 64 = .ok (.ireturn, 1) := by decide +kernel
set_option maxRecDepth 20000 in
theorem ggX4_numberOf_X4_unpack : GoodIn wsX4_numberOf wsX4_unpack := goodIn_r _ [5] rfl (by decide +kernel)
set_option maxRecDepth 20000 in
theorem gX4_numberOf_X4_unpack : GoodIn wsX4_numberOf (va_wsS RX4 42 yX4_unpack wsX4_unpack) := goodIn_app (goodIn_of _ (by decide +kernel)) ggX4_numberOf_X4_unpack
theorem dX4_numberOf_0 : decode cX4_numberOf 0 = .ok (.aload_n 0, 1) := by decide +kernel
theorem dX4_numberOf_1 : decode cX4_numberOf 1 = .ok (.getfield 11, 3) := by decide +kernel
theorem dX4_numberOf_4 : decode cX4_numberOf 4 = .ok (.iload_n 1, 1) := by decide +kernel
theorem dX4_numberOf_5 : decode cX4_numberOf 5 = .ok (.laload, 1) := by decide +kernel
theorem dX4_numberOf_6 : decode cX4_numberOf 6 = .ok (.iload_n 2, 1) := by decide +kernel
theorem dX4_numberOf_7 : decode cX4_numberOf 7 = .ok (.invokestatic 42, 3) := by decide +kernel
theorem dX4_numberOf_10 : decode cX4_numberOf 10 = .ok (.ireturn, 1) := by decide +kernel
set_option maxRecDepth 20000 in
theorem ggX4_countAll_X4_reaches : GoodIn wsX4_countAll wsX4_reaches := goodIn_r _ [9, 10, 11, 12, 13, 14, 8, 15, 1, 2, 3, 4, 16, 17, 18, 19, 20, 21, 22, 23, 24, 25, 26, 27, 28, 29, 30, 31, 32, 33, 34, 35, 36, 37, 38, 39, 40, 41, 42, 43, 44, 45, 46, 47, 48, 49, 50, 51, 52, 53, 54, 55, 56, 57] rfl (by decide +kernel)
set_option maxRecDepth 20000 in
theorem gX4_countAll_X4_reaches : GoodIn wsX4_countAll (wsV RX4 38 RX4 yX4_reaches wsX4_reaches) := goodIn_app (goodIn_of _ (by decide +kernel)) ggX4_countAll_X4_reaches
set_option maxRecDepth 20000 in
theorem ggX4_countAll_X4_unpack : GoodIn wsX4_countAll wsX4_unpack := goodIn_r _ [34] rfl (by decide +kernel)
set_option maxRecDepth 20000 in
theorem gX4_countAll_X4_unpack : GoodIn wsX4_countAll (va_wsS RX4 42 yX4_unpack wsX4_unpack) := goodIn_app (goodIn_of _ (by decide +kernel)) ggX4_countAll_X4_unpack
theorem dX4_countAll_0 : decode cX4_countAll 0 = .ok (.aload_n 0, 1) := by decide +kernel
theorem dX4_countAll_1 : decode cX4_countAll 1 = .ok (.bipush 12, 2) := by decide +kernel
theorem dX4_countAll_3 : decode cX4_countAll 3 = .ok (.invokevirtual 38, 3) := by decide +kernel
theorem dX4_countAll_6 : decode cX4_countAll 6 = .ok (.ifCond .ne 6, 3) := by decide +kernel
theorem dX4_countAll_9 : decode cX4_countAll 9 = .ok (.bipush (-2), 2) := by decide +kernel
theorem dX4_countAll_11 : decode cX4_countAll 11 = .ok (.ireturn, 1) := by decide +kernel
theorem dX4_countAll_12 : decode cX4_countAll 12 = .ok (.aload_n 0, 1) := by decide +kernel
theorem dX4_countAll_13 : decode cX4_countAll 13 = .ok (.getfield 18, 3) := by decide +kernel
theorem dX4_countAll_16 : decode cX4_countAll 16 = .ok (.bipush 12, 2) := by decide +kernel
theorem dX4_countAll_18 : decode cX4_countAll 18 = .ok (.iaload, 1) := by decide +kernel
theorem dX4_countAll_19 : decode cX4_countAll 19 = .ok (.istore_n 1, 1) := by decide +kernel
theorem dX4_countAll_20 : decode cX4_countAll 20 = .ok (.iconst 0, 1) := by decide +kernel
theorem dX4_countAll_21 : decode cX4_countAll 21 = .ok (.istore_n 2, 1) := by decide +kernel
theorem dX4_countAll_22 : decode cX4_countAll 22 = .ok (.iload_n 2, 1) := by decide +kernel
theorem dX4_countAll_23 : decode cX4_countAll 23 = .ok (.iload_n 1, 1) := by decide +kernel
theorem dX4_countAll_24 : decode cX4_countAll 24 = .ok (.if_icmp .ge 46, 3) := by decide +kernel
theorem dX4_countAll_27 : decode cX4_countAll 27 = .ok (.iconst 0, 1) := by decide +kernel
theorem dX4_countAll_28 : decode cX4_countAll 28 = .ok (.istore_n 3, 1) := by decide +kernel
theorem dX4_countAll_29 : decode cX4_countAll 29 = .ok (.iload_n 3, 1) := by decide +kernel
theorem dX4_countAll_30 : decode cX4_countAll 30 = .ok (.aload_n 0, 1) := by decide +kernel
theorem dX4_countAll_31 : decode cX4_countAll 31 = .ok (.getfield 22, 3) := by decide +kernel
theorem dX4_countAll_34 : decode cX4_countAll 34 = .ok (.getfield 46, 3) := by decide +kernel
theorem dX4_countAll_37 : decode cX4_countAll 37 = .ok (.if_icmp .ge 27, 3) := by decide +kernel
theorem dX4_countAll_40 : decode cX4_countAll 40 = .ok (.aload_n 0, 1) := by decide +kernel
theorem dX4_countAll_41 : decode cX4_countAll 41 = .ok (.getfield 15, 3) := by decide +kernel
theorem dX4_countAll_44 : decode cX4_countAll 44 = .ok (.iload_n 2, 1) := by decide +kernel
theorem dX4_countAll_45 : decode cX4_countAll 45 = .ok (.laload, 1) := by decide +kernel
theorem dX4_countAll_46 : decode cX4_countAll 46 = .ok (.iload_n 3, 1) := by decide +kernel
theorem dX4_countAll_47 : decode cX4_countAll 47 = .ok (.invokestatic 42, 3) := by decide +kernel
theorem dX4_countAll_50 : decode cX4_countAll 50 = .ok (.bipush 11, 2) := by decide +kernel
theorem dX4_countAll_52 : decode cX4_countAll 52 = .ok (.if_icmp .le 6, 3) := by decide +kernel
theorem dX4_countAll_55 : decode cX4_countAll 55 = .ok (.bipush (-2), 2) := by decide +kernel
theorem dX4_countAll_57 : decode cX4_countAll 57 = .ok (.ireturn, 1) := by decide +kernel
theorem dX4_countAll_58 : decode cX4_countAll 58 = .ok (.iinc 3 1, 3) := by decide +kernel
theorem dX4_countAll_61 : decode cX4_countAll 61 = .ok (.goto (-32), 3) := by decide +kernel
theorem dX4_countAll_64 : decode cX4_countAll 64 = .ok (.iinc 2 1, 3) := by decide +kernel
theorem dX4_countAll_67 : decode cX4_countAll 67 = .ok (.goto (-45), 3) := by decide +kernel
theorem dX4_countAll_70 : decode cX4_countAll 70 = .ok (.iload_n 1, 1) := by decide +kernel
theorem dX4_countAll_71 : decode cX4_countAll 71 = .ok (.ireturn, 1) := by decide +kernel
set_option maxRecDepth 20000 in
theorem ggX4_countWords_X4_ofHeight : GoodIn wsX4_countWords wsX4_ofHeight := goodIn_r _ [5, 6, 7, 8, 9, 10, 11, 12] rfl (by decide +kernel)
set_option maxRecDepth 20000 in
theorem gX4_countWords_X4_ofHeight : GoodIn wsX4_countWords (wsV RX4 51 RX4 yX4_ofHeight wsX4_ofHeight) := goodIn_app (goodIn_of _ (by decide +kernel)) ggX4_countWords_X4_ofHeight
theorem dX4_countWords_0 : decode cX4_countWords 0 = .ok (.lconst 1, 1) := by decide +kernel
theorem dX4_countWords_1 : decode cX4_countWords 1 = .ok (.lstore_n 1, 1) := by decide +kernel
theorem dX4_countWords_2 : decode cX4_countWords 2 = .ok (.iconst 1, 1) := by decide +kernel
theorem dX4_countWords_3 : decode cX4_countWords 3 = .ok (.istore_n 3, 1) := by decide +kernel
theorem dX4_countWords_4 : decode cX4_countWords 4 = .ok (.iload_n 3, 1) := by decide +kernel
theorem dX4_countWords_5 : decode cX4_countWords 5 = .ok (.bipush 11, 2) := by decide +kernel
theorem dX4_countWords_7 : decode cX4_countWords 7 = .ok (.if_icmp .gt 42, 3) := by decide +kernel
theorem dX4_countWords_10 : decode cX4_countWords 10 = .ok (.aload_n 0, 1) := by decide +kernel
theorem dX4_countWords_11 : decode cX4_countWords 11 = .ok (.iload_n 3, 1) := by decide +kernel
theorem dX4_countWords_12 : decode cX4_countWords 12 = .ok (.invokevirtual 51, 3) := by decide +kernel
theorem dX4_countWords_15 : decode cX4_countWords 15 = .ok (.aload_n 0, 1) := by decide +kernel
theorem dX4_countWords_16 : decode cX4_countWords 16 = .ok (.iload_n 3, 1) := by decide +kernel
theorem dX4_countWords_17 : decode cX4_countWords 17 = .ok (.iconst 1, 1) := by decide +kernel
theorem dX4_countWords_18 : decode cX4_countWords 18 = .ok (.iadd, 1) := by decide +kernel
theorem dX4_countWords_19 : decode cX4_countWords 19 = .ok (.invokevirtual 51, 3) := by decide +kernel
theorem dX4_countWords_22 : decode cX4_countWords 22 = .ok (.isub, 1) := by decide +kernel
theorem dX4_countWords_23 : decode cX4_countWords 23 = .ok (.istore 4, 2) := by decide +kernel
theorem dX4_countWords_25 : decode cX4_countWords 25 = .ok (.iload 4, 2) := by decide +kernel
theorem dX4_countWords_27 : decode cX4_countWords 27 = .ok (.ifCond .le 16, 3) := by decide +kernel
theorem dX4_countWords_30 : decode cX4_countWords 30 = .ok (.lload_n 1, 1) := by decide +kernel
theorem dX4_countWords_31 : decode cX4_countWords 31 = .ok (.iload_n 3, 1) := by decide +kernel
theorem dX4_countWords_32 : decode cX4_countWords 32 = .ok (.iconst 1, 1) := by decide +kernel
theorem dX4_countWords_33 : decode cX4_countWords 33 = .ok (.iadd, 1) := by decide +kernel
theorem dX4_countWords_34 : decode cX4_countWords 34 = .ok (.i2l, 1) := by decide +kernel
theorem dX4_countWords_35 : decode cX4_countWords 35 = .ok (.lmul, 1) := by decide +kernel
theorem dX4_countWords_36 : decode cX4_countWords 36 = .ok (.lstore_n 1, 1) := by decide +kernel
theorem dX4_countWords_37 : decode cX4_countWords 37 = .ok (.iinc 4 (-1), 3) := by decide +kernel
theorem dX4_countWords_40 : decode cX4_countWords 40 = .ok (.goto (-15), 3) := by decide +kernel
theorem dX4_countWords_43 : decode cX4_countWords 43 = .ok (.iinc 3 1, 3) := by decide +kernel
theorem dX4_countWords_46 : decode cX4_countWords 46 = .ok (.goto (-42), 3) := by decide +kernel
theorem dX4_countWords_49 : decode cX4_countWords 49 = .ok (.lload_n 1, 1) := by decide +kernel
theorem dX4_countWords_50 : decode cX4_countWords 50 = .ok (.lreturn, 1) := by decide +kernel
set_option maxRecDepth 20000 in
theorem ggX4_addHeight_X4_pack : GoodIn wsX4_addHeight wsX4_pack := goodIn_r _ [11] rfl (by decide +kernel)
set_option maxRecDepth 20000 in
theorem gX4_addHeight_X4_pack : GoodIn wsX4_addHeight (va_wsS RX4 55 yX4_pack wsX4_pack) := goodIn_app (goodIn_of _ (by decide +kernel)) ggX4_addHeight_X4_pack
set_option maxRecDepth 20000 in
theorem ggX4_addHeight_X4_insert : GoodIn wsX4_addHeight wsX4_insert := goodIn_r _ [15, 6, 16, 17, 18, 19, 41, 42, 43, 44, 45, 46] rfl (by decide +kernel)
set_option maxRecDepth 20000 in
theorem gX4_addHeight_X4_insert : GoodIn wsX4_addHeight (wsV RX4 59 RX4 yX4_insert wsX4_insert) := goodIn_app (goodIn_of _ (by decide +kernel)) ggX4_addHeight_X4_insert
set_option maxRecDepth 20000 in
theorem ggX4_addHeight_X4_insertTurned : GoodIn wsX4_addHeight wsX4_insertTurned := goodIn_r _ [23, 1, 2, 3, 5, 6, 24, 25, 10, 26, 8, 9, 11, 12, 13, 14, 15, 16, 17, 18, 19, 41, 42, 43, 44, 45, 46, 47, 48, 49] rfl (by decide +kernel)
set_option maxRecDepth 20000 in
theorem gX4_addHeight_X4_insertTurned : GoodIn wsX4_addHeight (wsV RX4 63 RX4 yX4_insertTurned wsX4_insertTurned) := goodIn_app (goodIn_of _ (by decide +kernel)) ggX4_addHeight_X4_insertTurned
set_option maxRecDepth 20000 in
theorem ggX4_addHeight_X4_findUps : GoodIn wsX4_addHeight wsX4_findUps := goodIn_r _ [30, 2, 3, 31, 32, 33, 34, 24, 25, 10, 26, 35, 36, 37, 38, 39, 40, 8, 9, 11, 41, 42, 43, 44, 45, 46, 47, 48, 49] rfl (by decide +kernel)
set_option maxRecDepth 20000 in
theorem gX4_addHeight_X4_findUps : GoodIn wsX4_addHeight (wsV RX4 67 RX4 yX4_findUps wsX4_findUps) := goodIn_app (goodIn_of _ (by decide +kernel)) ggX4_addHeight_X4_findUps
theorem dX4_addHeight_0 : decode cX4_addHeight 0 = .ok (.aload_n 0, 1) := by decide +kernel
theorem dX4_addHeight_1 : decode cX4_addHeight 1 = .ok (.getfield 18, 3) := by decide +kernel
theorem dX4_addHeight_4 : decode cX4_addHeight 4 = .ok (.iload_n 1, 1) := by decide +kernel
theorem dX4_addHeight_5 : decode cX4_addHeight 5 = .ok (.iaload, 1) := by decide +kernel
theorem dX4_addHeight_6 : decode cX4_addHeight 6 = .ok (.istore_n 2, 1) := by decide +kernel
theorem dX4_addHeight_7 : decode cX4_addHeight 7 = .ok (.iconst 0, 1) := by decide +kernel
theorem dX4_addHeight_8 : decode cX4_addHeight 8 = .ok (.istore_n 3, 1) := by decide +kernel
theorem dX4_addHeight_9 : decode cX4_addHeight 9 = .ok (.iload_n 3, 1) := by decide +kernel
theorem dX4_addHeight_10 : decode cX4_addHeight 10 = .ok (.aload_n 0, 1) := by decide +kernel
theorem dX4_addHeight_11 : decode cX4_addHeight 11 = .ok (.getfield 22, 3) := by decide +kernel
theorem dX4_addHeight_14 : decode cX4_addHeight 14 = .ok (.getfield 46, 3) := by decide +kernel
theorem dX4_addHeight_17 : decode cX4_addHeight 17 = .ok (.if_icmp .ge 26, 3) := by decide +kernel
theorem dX4_addHeight_20 : decode cX4_addHeight 20 = .ok (.iload_n 1, 1) := by decide +kernel
theorem dX4_addHeight_21 : decode cX4_addHeight 21 = .ok (.iconst 1, 1) := by decide +kernel
theorem dX4_addHeight_22 : decode cX4_addHeight 22 = .ok (.if_icmp .ne 21, 3) := by decide +kernel
theorem dX4_addHeight_25 : decode cX4_addHeight 25 = .ok (.aload_n 0, 1) := by decide +kernel
theorem dX4_addHeight_26 : decode cX4_addHeight 26 = .ok (.iconst 1, 1) := by decide +kernel
theorem dX4_addHeight_27 : decode cX4_addHeight 27 = .ok (.iload_n 3, 1) := by decide +kernel
theorem dX4_addHeight_28 : decode cX4_addHeight 28 = .ok (.invokestatic 55, 3) := by decide +kernel
theorem dX4_addHeight_31 : decode cX4_addHeight 31 = .ok (.iconst 0, 1) := by decide +kernel
theorem dX4_addHeight_32 : decode cX4_addHeight 32 = .ok (.iload_n 2, 1) := by decide +kernel
theorem dX4_addHeight_33 : decode cX4_addHeight 33 = .ok (.invokevirtual 59, 3) := by decide +kernel
theorem dX4_addHeight_36 : decode cX4_addHeight 36 = .ok (.istore_n 2, 1) := by decide +kernel
theorem dX4_addHeight_37 : decode cX4_addHeight 37 = .ok (.iinc 3 1, 3) := by decide +kernel
theorem dX4_addHeight_40 : decode cX4_addHeight 40 = .ok (.goto (-31), 3) := by decide +kernel
theorem dX4_addHeight_43 : decode cX4_addHeight 43 = .ok (.iconst 1, 1) := by decide +kernel
theorem dX4_addHeight_44 : decode cX4_addHeight 44 = .ok (.istore_n 3, 1) := by decide +kernel
theorem dX4_addHeight_45 : decode cX4_addHeight 45 = .ok (.iload_n 3, 1) := by decide +kernel
theorem dX4_addHeight_46 : decode cX4_addHeight 46 = .ok (.iload_n 1, 1) := by decide +kernel
theorem dX4_addHeight_47 : decode cX4_addHeight 47 = .ok (.if_icmp .ge 23, 3) := by decide +kernel
theorem dX4_addHeight_50 : decode cX4_addHeight 50 = .ok (.iload_n 2, 1) := by decide +kernel
theorem dX4_addHeight_51 : decode cX4_addHeight 51 = .ok (.bipush (-3), 2) := by decide +kernel
theorem dX4_addHeight_53 : decode cX4_addHeight 53 = .ok (.if_icmp .eq 17, 3) := by decide +kernel
theorem dX4_addHeight_56 : decode cX4_addHeight 56 = .ok (.aload_n 0, 1) := by decide +kernel
theorem dX4_addHeight_57 : decode cX4_addHeight 57 = .ok (.iload_n 3, 1) := by decide +kernel
theorem dX4_addHeight_58 : decode cX4_addHeight 58 = .ok (.iload_n 1, 1) := by decide +kernel
theorem dX4_addHeight_59 : decode cX4_addHeight 59 = .ok (.iload_n 2, 1) := by decide +kernel
theorem dX4_addHeight_60 : decode cX4_addHeight 60 = .ok (.invokevirtual 63, 3) := by decide +kernel
theorem dX4_addHeight_63 : decode cX4_addHeight 63 = .ok (.istore_n 2, 1) := by decide +kernel
theorem dX4_addHeight_64 : decode cX4_addHeight 64 = .ok (.iinc 3 1, 3) := by decide +kernel
theorem dX4_addHeight_67 : decode cX4_addHeight 67 = .ok (.goto (-22), 3) := by decide +kernel
theorem dX4_addHeight_70 : decode cX4_addHeight 70 = .ok (.iload_n 2, 1) := by decide +kernel
theorem dX4_addHeight_71 : decode cX4_addHeight 71 = .ok (.bipush (-3), 2) := by decide +kernel
theorem dX4_addHeight_73 : decode cX4_addHeight 73 = .ok (.if_icmp .ne 9, 3) := by decide +kernel
theorem dX4_addHeight_76 : decode cX4_addHeight 76 = .ok (.aload_n 0, 1) := by decide +kernel
theorem dX4_addHeight_77 : decode cX4_addHeight 77 = .ok (.iconst 1, 1) := by decide +kernel
theorem dX4_addHeight_78 : decode cX4_addHeight 78 = .ok (.putfield 30, 3) := by decide +kernel
theorem dX4_addHeight_81 : decode cX4_addHeight 81 = .ok (.return_, 1) := by decide +kernel
theorem dX4_addHeight_82 : decode cX4_addHeight 82 = .ok (.aload_n 0, 1) := by decide +kernel
theorem dX4_addHeight_83 : decode cX4_addHeight 83 = .ok (.getfield 18, 3) := by decide +kernel
theorem dX4_addHeight_86 : decode cX4_addHeight 86 = .ok (.iload_n 1, 1) := by decide +kernel
theorem dX4_addHeight_87 : decode cX4_addHeight 87 = .ok (.iaload, 1) := by decide +kernel
theorem dX4_addHeight_88 : decode cX4_addHeight 88 = .ok (.istore_n 3, 1) := by decide +kernel
theorem dX4_addHeight_89 : decode cX4_addHeight 89 = .ok (.iload_n 3, 1) := by decide +kernel
theorem dX4_addHeight_90 : decode cX4_addHeight 90 = .ok (.iload_n 2, 1) := by decide +kernel
theorem dX4_addHeight_91 : decode cX4_addHeight 91 = .ok (.if_icmp .ge 26, 3) := by decide +kernel
theorem dX4_addHeight_94 : decode cX4_addHeight 94 = .ok (.aload_n 0, 1) := by decide +kernel
theorem dX4_addHeight_95 : decode cX4_addHeight 95 = .ok (.getfield 15, 3) := by decide +kernel
theorem dX4_addHeight_98 : decode cX4_addHeight 98 = .ok (.iload_n 3, 1) := by decide +kernel
theorem dX4_addHeight_99 : decode cX4_addHeight 99 = .ok (.aload_n 0, 1) := by decide +kernel
theorem dX4_addHeight_100 : decode cX4_addHeight 100 = .ok (.aload_n 0, 1) := by decide +kernel
theorem dX4_addHeight_101 : decode cX4_addHeight 101 = .ok (.getfield 11, 3) := by decide +kernel
theorem dX4_addHeight_104 : decode cX4_addHeight 104 = .ok (.iload_n 3, 1) := by decide +kernel
theorem dX4_addHeight_105 : decode cX4_addHeight 105 = .ok (.laload, 1) := by decide +kernel
theorem dX4_addHeight_106 : decode cX4_addHeight 106 = .ok (.iload_n 1, 1) := by decide +kernel
theorem dX4_addHeight_107 : decode cX4_addHeight 107 = .ok (.invokevirtual 67, 3) := by decide +kernel
theorem dX4_addHeight_110 : decode cX4_addHeight 110 = .ok (.lastore, 1) := by decide +kernel
theorem dX4_addHeight_111 : decode cX4_addHeight 111 = .ok (.iinc 3 1, 3) := by decide +kernel
theorem dX4_addHeight_114 : decode cX4_addHeight 114 = .ok (.goto (-25), 3) := by decide +kernel
theorem dX4_addHeight_117 : decode cX4_addHeight 117 = .ok (.aload_n 0, 1) := by decide +kernel
theorem dX4_addHeight_118 : decode cX4_addHeight 118 = .ok (.getfield 18, 3) := by decide +kernel
theorem dX4_addHeight_121 : decode cX4_addHeight 121 = .ok (.iload_n 1, 1) := by decide +kernel
theorem dX4_addHeight_122 : decode cX4_addHeight 122 = .ok (.iconst 1, 1) := by decide +kernel
theorem dX4_addHeight_123 : decode cX4_addHeight 123 = .ok (.iadd, 1) := by decide +kernel
theorem dX4_addHeight_124 : decode cX4_addHeight 124 = .ok (.iload_n 2, 1) := by decide +kernel
theorem dX4_addHeight_125 : decode cX4_addHeight 125 = .ok (.iastore, 1) := by decide +kernel
theorem dX4_addHeight_126 : decode cX4_addHeight 126 = .ok (.aload_n 0, 1) := by decide +kernel
theorem dX4_addHeight_127 : decode cX4_addHeight 127 = .ok (.iload_n 1, 1) := by decide +kernel
theorem dX4_addHeight_128 : decode cX4_addHeight 128 = .ok (.putfield 26, 3) := by decide +kernel
theorem dX4_addHeight_131 : decode cX4_addHeight 131 = .ok (.return_, 1) := by decide +kernel
set_option maxRecDepth 20000 in
theorem ggX4_insertTurned_X4_unpack : GoodIn wsX4_insertTurned wsX4_unpack := goodIn_r _ [9] rfl (by decide +kernel)
set_option maxRecDepth 20000 in
theorem gX4_insertTurned_X4_unpack : GoodIn wsX4_insertTurned (va_wsS RX4 42 yX4_unpack wsX4_unpack) := goodIn_app (goodIn_of _ (by decide +kernel)) ggX4_insertTurned_X4_unpack
set_option maxRecDepth 20000 in
theorem ggX4_insertTurned_X4_pack : GoodIn wsX4_insertTurned wsX4_pack := goodIn_r _ [12] rfl (by decide +kernel)
set_option maxRecDepth 20000 in
theorem gX4_insertTurned_X4_pack : GoodIn wsX4_insertTurned (va_wsS RX4 55 yX4_pack wsX4_pack) := goodIn_app (goodIn_of _ (by decide +kernel)) ggX4_insertTurned_X4_pack
set_option maxRecDepth 20000 in
theorem ggX4_insertTurned_X4_insert : GoodIn wsX4_insertTurned wsX4_insert := goodIn_r _ [16, 5, 17, 18, 19, 20, 21, 22, 23, 24, 25, 26] rfl (by decide +kernel)
set_option maxRecDepth 20000 in
theorem gX4_insertTurned_X4_insert : GoodIn wsX4_insertTurned (wsV RX4 59 RX4 yX4_insert wsX4_insert) := goodIn_app (goodIn_of _ (by decide +kernel)) ggX4_insertTurned_X4_insert
theorem dX4_insertTurned_0 : decode cX4_insertTurned 0 = .ok (.iload_n 3, 1) := by decide +kernel
theorem dX4_insertTurned_1 : decode cX4_insertTurned 1 = .ok (.istore 4, 2) := by decide +kernel
theorem dX4_insertTurned_3 : decode cX4_insertTurned 3 = .ok (.aload_n 0, 1) := by decide +kernel
theorem dX4_insertTurned_4 : decode cX4_insertTurned 4 = .ok (.getfield 18, 3) := by decide +kernel
theorem dX4_insertTurned_7 : decode cX4_insertTurned 7 = .ok (.iload_n 1, 1) := by decide +kernel
theorem dX4_insertTurned_8 : decode cX4_insertTurned 8 = .ok (.iaload, 1) := by decide +kernel
theorem dX4_insertTurned_9 : decode cX4_insertTurned 9 = .ok (.istore 5, 2) := by decide +kernel
theorem dX4_insertTurned_11 : decode cX4_insertTurned 11 = .ok (.iload 5, 2) := by decide +kernel
theorem dX4_insertTurned_13 : decode cX4_insertTurned 13 = .ok (.aload_n 0, 1) := by decide +kernel
theorem dX4_insertTurned_14 : decode cX4_insertTurned 14 = .ok (.getfield 18, 3) := by decide +kernel
theorem dX4_insertTurned_17 : decode cX4_insertTurned 17 = .ok (.iload_n 1, 1) := by decide +kernel
theorem dX4_insertTurned_18 : decode cX4_insertTurned 18 = .ok (.iconst 1, 1) := by decide +kernel
theorem dX4_insertTurned_19 : decode cX4_insertTurned 19 = .ok (.iadd, 1) := by decide +kernel
theorem dX4_insertTurned_20 : decode cX4_insertTurned 20 = .ok (.iaload, 1) := by decide +kernel
theorem dX4_insertTurned_21 : decode cX4_insertTurned 21 = .ok (.if_icmp .ge 83, 3) := by decide +kernel
theorem dX4_insertTurned_24 : decode cX4_insertTurned 24 = .ok (.iconst 0, 1) := by decide +kernel
theorem dX4_insertTurned_25 : decode cX4_insertTurned 25 = .ok (.istore 6, 2) := by decide +kernel
theorem dX4_insertTurned_27 : decode cX4_insertTurned 27 = .ok (.iload 6, 2) := by decide +kernel
theorem dX4_insertTurned_29 : decode cX4_insertTurned 29 = .ok (.aload_n 0, 1) := by decide +kernel
theorem dX4_insertTurned_30 : decode cX4_insertTurned 30 = .ok (.getfield 22, 3) := by decide +kernel
theorem dX4_insertTurned_33 : decode cX4_insertTurned 33 = .ok (.getfield 46, 3) := by decide +kernel
theorem dX4_insertTurned_36 : decode cX4_insertTurned 36 = .ok (.if_icmp .ge 62, 3) := by decide +kernel
theorem dX4_insertTurned_39 : decode cX4_insertTurned 39 = .ok (.iload 4, 2) := by decide +kernel
theorem dX4_insertTurned_41 : decode cX4_insertTurned 41 = .ok (.bipush (-3), 2) := by decide +kernel
theorem dX4_insertTurned_43 : decode cX4_insertTurned 43 = .ok (.if_icmp .eq 55, 3) := by decide +kernel
theorem dX4_insertTurned_46 : decode cX4_insertTurned 46 = .ok (.aload_n 0, 1) := by decide +kernel
theorem dX4_insertTurned_47 : decode cX4_insertTurned 47 = .ok (.getfield 15, 3) := by decide +kernel
theorem dX4_insertTurned_50 : decode cX4_insertTurned 50 = .ok (.iload 5, 2) := by decide +kernel
theorem dX4_insertTurned_52 : decode cX4_insertTurned 52 = .ok (.laload, 1) := by decide +kernel
theorem dX4_insertTurned_53 : decode cX4_insertTurned 53 = .ok (.iload 6, 2) := by decide +kernel
theorem dX4_insertTurned_55 : decode cX4_insertTurned 55 = .ok (.invokestatic 42, 3) := by decide +kernel
theorem dX4_insertTurned_58 : decode cX4_insertTurned 58 = .ok (.iload_n 2, 1) := by decide +kernel
theorem dX4_insertTurned_59 : decode cX4_insertTurned 59 = .ok (.if_icmp .ne 33, 3) := by decide +kernel
theorem dX4_insertTurned_62 : decode cX4_insertTurned 62 = .ok (.aload_n 0, 1) := by decide +kernel
theorem dX4_insertTurned_63 : decode cX4_insertTurned 63 = .ok (.aload_n 0, 1) := by decide +kernel
theorem dX4_insertTurned_64 : decode cX4_insertTurned 64 = .ok (.getfield 11, 3) := by decide +kernel
theorem dX4_insertTurned_67 : decode cX4_insertTurned 67 = .ok (.iload 5, 2) := by decide +kernel
theorem dX4_insertTurned_69 : decode cX4_insertTurned 69 = .ok (.laload, 1) := by decide +kernel
theorem dX4_insertTurned_70 : decode cX4_insertTurned 70 = .ok (.iload_n 2, 1) := by decide +kernel
theorem dX4_insertTurned_71 : decode cX4_insertTurned 71 = .ok (.iload_n 1, 1) := by decide +kernel
theorem dX4_insertTurned_72 : decode cX4_insertTurned 72 = .ok (.isub, 1) := by decide +kernel
theorem dX4_insertTurned_73 : decode cX4_insertTurned 73 = .ok (.iload 6, 2) := by decide +kernel
theorem dX4_insertTurned_75 : decode cX4_insertTurned 75 = .ok (.invokestatic 55, 3) := by decide +kernel
theorem dX4_insertTurned_78 : decode cX4_insertTurned 78 = .ok (.ladd, 1) := by decide +kernel
theorem dX4_insertTurned_79 : decode cX4_insertTurned 79 = .ok (.aload_n 0, 1) := by decide +kernel
theorem dX4_insertTurned_80 : decode cX4_insertTurned 80 = .ok (.getfield 18, 3) := by decide +kernel
theorem dX4_insertTurned_83 : decode cX4_insertTurned 83 = .ok (.iload_n 2, 1) := by decide +kernel
theorem dX4_insertTurned_84 : decode cX4_insertTurned 84 = .ok (.iaload, 1) := by decide +kernel
theorem dX4_insertTurned_85 : decode cX4_insertTurned 85 = .ok (.iload 4, 2) := by decide +kernel
theorem dX4_insertTurned_87 : decode cX4_insertTurned 87 = .ok (.invokevirtual 59, 3) := by decide +kernel
theorem dX4_insertTurned_90 : decode cX4_insertTurned 90 = .ok (.istore 4, 2) := by decide +kernel
theorem dX4_insertTurned_92 : decode cX4_insertTurned 92 = .ok (.iinc 6 1, 3) := by decide +kernel
theorem dX4_insertTurned_95 : decode cX4_insertTurned 95 = .ok (.goto (-68), 3) := by decide +kernel
theorem dX4_insertTurned_98 : decode cX4_insertTurned 98 = .ok (.iinc 5 1, 3) := by decide +kernel
theorem dX4_insertTurned_101 : decode cX4_insertTurned 101 = .ok (.goto (-90), 3) := by decide +kernel
theorem dX4_insertTurned_104 : decode cX4_insertTurned 104 = .ok (.iload 4, 2) := by decide +kernel
theorem dX4_insertTurned_106 : decode cX4_insertTurned 106 = .ok (.ireturn, 1) := by decide +kernel
theorem dX4_insert_0 : decode cX4_insert 0 = .ok (.iload 4, 2) := by decide +kernel
theorem dX4_insert_2 : decode cX4_insert 2 = .ok (.istore 5, 2) := by decide +kernel
theorem dX4_insert_4 : decode cX4_insert 4 = .ok (.iload 5, 2) := by decide +kernel
theorem dX4_insert_6 : decode cX4_insert 6 = .ok (.iload_n 3, 1) := by decide +kernel
theorem dX4_insert_7 : decode cX4_insert 7 = .ok (.if_icmp .le 23, 3) := by decide +kernel
theorem dX4_insert_10 : decode cX4_insert 10 = .ok (.aload_n 0, 1) := by decide +kernel
theorem dX4_insert_11 : decode cX4_insert 11 = .ok (.getfield 11, 3) := by decide +kernel
theorem dX4_insert_14 : decode cX4_insert 14 = .ok (.iload 5, 2) := by decide +kernel
theorem dX4_insert_16 : decode cX4_insert 16 = .ok (.iconst 1, 1) := by decide +kernel
theorem dX4_insert_17 : decode cX4_insert 17 = .ok (.isub, 1) := by decide +kernel
theorem dX4_insert_18 : decode cX4_insert 18 = .ok (.laload, 1) := by decide +kernel
theorem dX4_insert_19 : decode cX4_insert 19 = .ok (.lload_n 1, 1) := by decide +kernel
theorem dX4_insert_20 : decode cX4_insert 20 = .ok (.lcmp, 1) := by decide +kernel
theorem dX4_insert_21 : decode cX4_insert 21 = .ok (.ifCond .ge 9, 3) := by decide +kernel
theorem dX4_insert_24 : decode cX4_insert 24 = .ok (.iinc 5 (-1), 3) := by decide +kernel
theorem dX4_insert_27 : decode cX4_insert 27 = .ok (.goto (-23), 3) := by decide +kernel
theorem dX4_insert_30 : decode cX4_insert 30 = .ok (.iload 5, 2) := by decide +kernel
theorem dX4_insert_32 : decode cX4_insert 32 = .ok (.iload_n 3, 1) := by decide +kernel
theorem dX4_insert_33 : decode cX4_insert 33 = .ok (.if_icmp .le 20, 3) := by decide +kernel
theorem dX4_insert_36 : decode cX4_insert 36 = .ok (.aload_n 0, 1) := by decide +kernel
theorem dX4_insert_37 : decode cX4_insert 37 = .ok (.getfield 11, 3) := by decide +kernel
theorem dX4_insert_40 : decode cX4_insert 40 = .ok (.iload 5, 2) := by decide +kernel
theorem dX4_insert_42 : decode cX4_insert 42 = .ok (.iconst 1, 1) := by decide +kernel
theorem dX4_insert_43 : decode cX4_insert 43 = .ok (.isub, 1) := by decide +kernel
theorem dX4_insert_44 : decode cX4_insert 44 = .ok (.laload, 1) := by decide +kernel
theorem dX4_insert_45 : decode cX4_insert 45 = .ok (.lload_n 1, 1) := by decide +kernel
theorem dX4_insert_46 : decode cX4_insert 46 = .ok (.lcmp, 1) := by decide +kernel
theorem dX4_insert_47 : decode cX4_insert 47 = .ok (.ifCond .ne 6, 3) := by decide +kernel
theorem dX4_insert_50 : decode cX4_insert 50 = .ok (.iload 4, 2) := by decide +kernel
theorem dX4_insert_52 : decode cX4_insert 52 = .ok (.ireturn, 1) := by decide +kernel
theorem dX4_insert_53 : decode cX4_insert 53 = .ok (.iload 4, 2) := by decide +kernel
theorem dX4_insert_55 : decode cX4_insert 55 = .ok (.sipush 400, 3) := by decide +kernel
theorem dX4_insert_58 : decode cX4_insert 58 = .ok (.if_icmp .ne 6, 3) := by decide +kernel
theorem dX4_insert_61 : decode cX4_insert 61 = .ok (.bipush (-3), 2) := by decide +kernel
theorem dX4_insert_63 : decode cX4_insert 63 = .ok (.ireturn, 1) := by decide +kernel
theorem dX4_insert_64 : decode cX4_insert 64 = .ok (.aload_n 0, 1) := by decide +kernel
theorem dX4_insert_65 : decode cX4_insert 65 = .ok (.getfield 11, 3) := by decide +kernel
theorem dX4_insert_68 : decode cX4_insert 68 = .ok (.iload 5, 2) := by decide +kernel
theorem dX4_insert_70 : decode cX4_insert 70 = .ok (.aload_n 0, 1) := by decide +kernel
theorem dX4_insert_71 : decode cX4_insert 71 = .ok (.getfield 11, 3) := by decide +kernel
theorem dX4_insert_74 : decode cX4_insert 74 = .ok (.iload 5, 2) := by decide +kernel
theorem dX4_insert_76 : decode cX4_insert 76 = .ok (.iconst 1, 1) := by decide +kernel
theorem dX4_insert_77 : decode cX4_insert 77 = .ok (.iadd, 1) := by decide +kernel
theorem dX4_insert_78 : decode cX4_insert 78 = .ok (.iload 4, 2) := by decide +kernel
theorem dX4_insert_80 : decode cX4_insert 80 = .ok (.iload 5, 2) := by decide +kernel
theorem dX4_insert_82 : decode cX4_insert 82 = .ok (.isub, 1) := by decide +kernel
theorem dX4_insert_83 : decode cX4_insert 83 = .ok (.invokestatic 71, 3) := by decide +kernel
theorem dX4_insert_86 : decode cX4_insert 86 = .ok (.aload_n 0, 1) := by decide +kernel
theorem dX4_insert_87 : decode cX4_insert 87 = .ok (.getfield 11, 3) := by decide +kernel
theorem dX4_insert_90 : decode cX4_insert 90 = .ok (.iload 5, 2) := by decide +kernel
theorem dX4_insert_92 : decode cX4_insert 92 = .ok (.lload_n 1, 1) := by decide +kernel
theorem dX4_insert_93 : decode cX4_insert 93 = .ok (.lastore, 1) := by decide +kernel
theorem dX4_insert_94 : decode cX4_insert 94 = .ok (.iload 4, 2) := by decide +kernel
theorem dX4_insert_96 : decode cX4_insert 96 = .ok (.iconst 1, 1) := by decide +kernel
theorem dX4_insert_97 : decode cX4_insert 97 = .ok (.iadd, 1) := by decide +kernel
theorem dX4_insert_98 : decode cX4_insert 98 = .ok (.ireturn, 1) := by decide +kernel
set_option maxRecDepth 20000 in
theorem ggX4_findUps_X4_unpack : GoodIn wsX4_findUps wsX4_unpack := goodIn_r _ [10] rfl (by decide +kernel)
set_option maxRecDepth 20000 in
theorem gX4_findUps_X4_unpack : GoodIn wsX4_findUps (va_wsS RX4 42 yX4_unpack wsX4_unpack) := goodIn_app (goodIn_of _ (by decide +kernel)) ggX4_findUps_X4_unpack
set_option maxRecDepth 20000 in
theorem ggX4_findUps_X3_number : GoodIn wsX4_findUps wsX3_number := goodIn_r _ [15, 16, 26, 27, 28] rfl (by decide +kernel)
set_option maxRecDepth 20000 in
theorem gX4_findUps_X3_number : GoodIn wsX4_findUps (wsV RX4 77 RX3 yX3_number wsX3_number) := goodIn_app (goodIn_of _ (by decide +kernel)) ggX4_findUps_X3_number
set_option maxRecDepth 20000 in
theorem ggX4_findUps_X4_pack : GoodIn wsX4_findUps wsX4_pack := goodIn_r _ [19] rfl (by decide +kernel)
set_option maxRecDepth 20000 in
theorem gX4_findUps_X4_pack : GoodIn wsX4_findUps (va_wsS RX4 55 yX4_pack wsX4_pack) := goodIn_app (goodIn_of _ (by decide +kernel)) ggX4_findUps_X4_pack
theorem dX4_findUps_0 : decode cX4_findUps 0 = .ok (.lconst 0, 1) := by decide +kernel
theorem dX4_findUps_1 : decode cX4_findUps 1 = .ok (.lstore 4, 2) := by decide +kernel
theorem dX4_findUps_3 : decode cX4_findUps 3 = .ok (.iconst 0, 1) := by decide +kernel
theorem dX4_findUps_4 : decode cX4_findUps 4 = .ok (.istore 6, 2) := by decide +kernel
theorem dX4_findUps_6 : decode cX4_findUps 6 = .ok (.iload 6, 2) := by decide +kernel
theorem dX4_findUps_8 : decode cX4_findUps 8 = .ok (.aload_n 0, 1) := by decide +kernel
theorem dX4_findUps_9 : decode cX4_findUps 9 = .ok (.getfield 22, 3) := by decide +kernel
theorem dX4_findUps_12 : decode cX4_findUps 12 = .ok (.getfield 46, 3) := by decide +kernel
theorem dX4_findUps_15 : decode cX4_findUps 15 = .ok (.if_icmp .ge 88, 3) := by decide +kernel
theorem dX4_findUps_18 : decode cX4_findUps 18 = .ok (.bipush (-2), 2) := by decide +kernel
theorem dX4_findUps_20 : decode cX4_findUps 20 = .ok (.lload_n 1, 1) := by decide +kernel
theorem dX4_findUps_21 : decode cX4_findUps 21 = .ok (.iload 6, 2) := by decide +kernel
theorem dX4_findUps_23 : decode cX4_findUps 23 = .ok (.invokestatic 42, 3) := by decide +kernel
theorem dX4_findUps_26 : decode cX4_findUps 26 = .ok (.imul, 1) := by decide +kernel
theorem dX4_findUps_27 : decode cX4_findUps 27 = .ok (.istore 7, 2) := by decide +kernel
theorem dX4_findUps_29 : decode cX4_findUps 29 = .ok (.iconst 0, 1) := by decide +kernel
theorem dX4_findUps_30 : decode cX4_findUps 30 = .ok (.istore 8, 2) := by decide +kernel
theorem dX4_findUps_32 : decode cX4_findUps 32 = .ok (.iload 8, 2) := by decide +kernel
theorem dX4_findUps_34 : decode cX4_findUps 34 = .ok (.aload_n 0, 1) := by decide +kernel
theorem dX4_findUps_35 : decode cX4_findUps 35 = .ok (.getfield 22, 3) := by decide +kernel
theorem dX4_findUps_38 : decode cX4_findUps 38 = .ok (.getfield 46, 3) := by decide +kernel
theorem dX4_findUps_41 : decode cX4_findUps 41 = .ok (.if_icmp .ge 32, 3) := by decide +kernel
theorem dX4_findUps_44 : decode cX4_findUps 44 = .ok (.iload 7, 2) := by decide +kernel
theorem dX4_findUps_46 : decode cX4_findUps 46 = .ok (.aload_n 0, 1) := by decide +kernel
theorem dX4_findUps_47 : decode cX4_findUps 47 = .ok (.getfield 22, 3) := by decide +kernel
theorem dX4_findUps_50 : decode cX4_findUps 50 = .ok (.iload 6, 2) := by decide +kernel
theorem dX4_findUps_52 : decode cX4_findUps 52 = .ok (.iload 8, 2) := by decide +kernel
theorem dX4_findUps_54 : decode cX4_findUps 54 = .ok (.invokevirtual 77, 3) := by decide +kernel
theorem dX4_findUps_57 : decode cX4_findUps 57 = .ok (.lload_n 1, 1) := by decide +kernel
theorem dX4_findUps_58 : decode cX4_findUps 58 = .ok (.iload 8, 2) := by decide +kernel
theorem dX4_findUps_60 : decode cX4_findUps 60 = .ok (.invokestatic 42, 3) := by decide +kernel
theorem dX4_findUps_63 : decode cX4_findUps 63 = .ok (.imul, 1) := by decide +kernel
theorem dX4_findUps_64 : decode cX4_findUps 64 = .ok (.iadd, 1) := by decide +kernel
theorem dX4_findUps_65 : decode cX4_findUps 65 = .ok (.istore 7, 2) := by decide +kernel
theorem dX4_findUps_67 : decode cX4_findUps 67 = .ok (.iinc 8 1, 3) := by decide +kernel
theorem dX4_findUps_70 : decode cX4_findUps 70 = .ok (.goto (-38), 3) := by decide +kernel
theorem dX4_findUps_73 : decode cX4_findUps 73 = .ok (.iload 7, 2) := by decide +kernel
theorem dX4_findUps_75 : decode cX4_findUps 75 = .ok (.ifCond .le 22, 3) := by decide +kernel
theorem dX4_findUps_78 : decode cX4_findUps 78 = .ok (.lload 4, 2) := by decide +kernel
theorem dX4_findUps_80 : decode cX4_findUps 80 = .ok (.iload_n 3, 1) := by decide +kernel
theorem dX4_findUps_81 : decode cX4_findUps 81 = .ok (.iload 7, 2) := by decide +kernel
theorem dX4_findUps_83 : decode cX4_findUps 83 = .ok (.iadd, 1) := by decide +kernel
theorem dX4_findUps_84 : decode cX4_findUps 84 = .ok (.bipush 63, 2) := by decide +kernel
theorem dX4_findUps_86 : decode cX4_findUps 86 = .ok (.invokestatic 81, 3) := by decide +kernel
theorem dX4_findUps_89 : decode cX4_findUps 89 = .ok (.iload 6, 2) := by decide +kernel
theorem dX4_findUps_91 : decode cX4_findUps 91 = .ok (.invokestatic 55, 3) := by decide +kernel
theorem dX4_findUps_94 : decode cX4_findUps 94 = .ok (.ladd, 1) := by decide +kernel
theorem dX4_findUps_95 : decode cX4_findUps 95 = .ok (.lstore 4, 2) := by decide +kernel
theorem dX4_findUps_97 : decode cX4_findUps 97 = .ok (.iinc 6 1, 3) := by decide +kernel
theorem dX4_findUps_100 : decode cX4_findUps 100 = .ok (.goto (-94), 3) := by decide +kernel
theorem dX4_findUps_103 : decode cX4_findUps 103 = .ok (.lload 4, 2) := by decide +kernel
theorem dX4_findUps_105 : decode cX4_findUps 105 = .ok (.lreturn, 1) := by decide +kernel
theorem dX4_pack_0 : decode cX4_pack 0 = .ok (.iload_n 0, 1) := by decide +kernel
theorem dX4_pack_1 : decode cX4_pack 1 = .ok (.i2l, 1) := by decide +kernel
theorem dX4_pack_2 : decode cX4_pack 2 = .ok (.bipush 6, 2) := by decide +kernel
theorem dX4_pack_4 : decode cX4_pack 4 = .ok (.iconst 5, 1) := by decide +kernel
theorem dX4_pack_5 : decode cX4_pack 5 = .ok (.iload_n 1, 1) := by decide +kernel
theorem dX4_pack_6 : decode cX4_pack 6 = .ok (.isub, 1) := by decide +kernel
theorem dX4_pack_7 : decode cX4_pack 7 = .ok (.imul, 1) := by decide +kernel
theorem dX4_pack_8 : decode cX4_pack 8 = .ok (.lshl, 1) := by decide +kernel
theorem dX4_pack_9 : decode cX4_pack 9 = .ok (.lreturn, 1) := by decide +kernel
theorem dX4_unpack_0 : decode cX4_unpack 0 = .ok (.lload_n 0, 1) := by decide +kernel
theorem dX4_unpack_1 : decode cX4_unpack 1 = .ok (.bipush 6, 2) := by decide +kernel
theorem dX4_unpack_3 : decode cX4_unpack 3 = .ok (.iconst 5, 1) := by decide +kernel
theorem dX4_unpack_4 : decode cX4_unpack 4 = .ok (.iload_n 2, 1) := by decide +kernel
theorem dX4_unpack_5 : decode cX4_unpack 5 = .ok (.isub, 1) := by decide +kernel
theorem dX4_unpack_6 : decode cX4_unpack 6 = .ok (.imul, 1) := by decide +kernel
theorem dX4_unpack_7 : decode cX4_unpack 7 = .ok (.lshr, 1) := by decide +kernel
theorem dX4_unpack_8 : decode cX4_unpack 8 = .ok (.l2i, 1) := by decide +kernel
theorem dX4_unpack_9 : decode cX4_unpack 9 = .ok (.bipush 63, 2) := by decide +kernel
theorem dX4_unpack_11 : decode cX4_unpack 11 = .ok (.iand, 1) := by decide +kernel
theorem dX4_unpack_12 : decode cX4_unpack 12 = .ok (.ireturn, 1) := by decide +kernel
set_option maxRecDepth 20000 in
theorem ggX5_init_X6_init : GoodIn wsX5_init wsX6_init := goodIn_r _ [12, 13, 2, 3, 14, 15, 19, 20] rfl (by decide +kernel)
set_option maxRecDepth 20000 in
theorem gX5_init_X6_init_n17 : GoodIn wsX5_init (wsX6_init) := ggX5_init_X6_init
theorem dX5_init_0 : decode cX5_init 0 = .ok (.aload_n 0, 1) := by decide +kernel
theorem dX5_init_1 : decode cX5_init 1 = .ok (.invokespecial 3, 3) := by decide +kernel
theorem dX5_init_4 : decode cX5_init 4 = .ok (.aload_n 0, 1) := by decide +kernel
theorem dX5_init_5 : decode cX5_init 5 = .ok (.bipush 6, 2) := by decide +kernel
theorem dX5_init_7 : decode cX5_init 7 = .ok (.newarray .long, 2) := by decide +kernel
theorem dX5_init_9 : decode cX5_init 9 = .ok (.putfield 9, 3) := by decide +kernel
theorem dX5_init_12 : decode cX5_init 12 = .ok (.aload_n 0, 1) := by decide +kernel
theorem dX5_init_13 : decode cX5_init 13 = .ok (.new 15, 3) := by decide +kernel
theorem dX5_init_16 : decode cX5_init 16 = .ok (.dup, 1) := by decide +kernel
theorem dX5_init_17 : decode cX5_init 17 = .ok (.invokespecial 17, 3) := by decide +kernel
theorem dX5_init_20 : decode cX5_init 20 = .ok (.putfield 18, 3) := by decide +kernel
theorem dX5_init_23 : decode cX5_init 23 = .ok (.aload_n 0, 1) := by decide +kernel
theorem dX5_init_24 : decode cX5_init 24 = .ok (.aload_n 1, 1) := by decide +kernel
theorem dX5_init_25 : decode cX5_init 25 = .ok (.putfield 22, 3) := by decide +kernel
theorem dX5_init_28 : decode cX5_init 28 = .ok (.return_, 1) := by decide +kernel
set_option maxRecDepth 20000 in
theorem ggX5_goesBehind_X7_setOwn : GoodIn wsX5_goesBehind wsX7_setOwn := goodIn_r _ [7, 8, 9, 10, 11] rfl (by decide +kernel)
set_option maxRecDepth 20000 in
theorem gX5_goesBehind_X7_setOwn_n26 : GoodIn wsX5_goesBehind (wsX7_setOwn) := ggX5_goesBehind_X7_setOwn
set_option maxRecDepth 20000 in
theorem ggX5_goesBehind_X7_isOwn : GoodIn wsX5_goesBehind wsX7_isOwn := goodIn_r _ [13] rfl (by decide +kernel)
set_option maxRecDepth 20000 in
theorem gX5_goesBehind_X7_isOwn_n38 : GoodIn wsX5_goesBehind (wsX7_isOwn) := ggX5_goesBehind_X7_isOwn
set_option maxRecDepth 20000 in
theorem ggX5_goesBehind_X3_turn : GoodIn wsX5_goesBehind wsX3_turn := goodIn_r _ [18, 19, 20, 21, 22, 23, 17, 24, 25, 26, 32, 33, 34] rfl (by decide +kernel)
set_option maxRecDepth 20000 in
theorem gX5_goesBehind_X3_turn : GoodIn wsX5_goesBehind (wsV RX5 42 RX3 yX3_turn wsX3_turn) := goodIn_app (goodIn_of _ (by decide +kernel)) ggX5_goesBehind_X3_turn
theorem dX5_goesBehind_0 : decode cX5_goesBehind 0 = .ok (.aload_n 0, 1) := by decide +kernel
theorem dX5_goesBehind_1 : decode cX5_goesBehind 1 = .ok (.getfield 9, 3) := by decide +kernel
theorem dX5_goesBehind_4 : decode cX5_goesBehind 4 = .ok (.iload_n 2, 1) := by decide +kernel
theorem dX5_goesBehind_5 : decode cX5_goesBehind 5 = .ok (.invokestatic 26, 3) := by decide +kernel
theorem dX5_goesBehind_8 : decode cX5_goesBehind 8 = .ok (.aload_n 1, 1) := by decide +kernel
theorem dX5_goesBehind_9 : decode cX5_goesBehind 9 = .ok (.getfield 30, 3) := by decide +kernel
theorem dX5_goesBehind_12 : decode cX5_goesBehind 12 = .ok (.iconst 1, 1) := by decide +kernel
theorem dX5_goesBehind_13 : decode cX5_goesBehind 13 = .ok (.isub, 1) := by decide +kernel
theorem dX5_goesBehind_14 : decode cX5_goesBehind 14 = .ok (.istore_n 3, 1) := by decide +kernel
theorem dX5_goesBehind_15 : decode cX5_goesBehind 15 = .ok (.iload_n 3, 1) := by decide +kernel
theorem dX5_goesBehind_16 : decode cX5_goesBehind 16 = .ok (.ifCond .lt 50, 3) := by decide +kernel
theorem dX5_goesBehind_19 : decode cX5_goesBehind 19 = .ok (.aload_n 0, 1) := by decide +kernel
theorem dX5_goesBehind_20 : decode cX5_goesBehind 20 = .ok (.getfield 9, 3) := by decide +kernel
theorem dX5_goesBehind_23 : decode cX5_goesBehind 23 = .ok (.aload_n 1, 1) := by decide +kernel
theorem dX5_goesBehind_24 : decode cX5_goesBehind 24 = .ok (.getfield 34, 3) := by decide +kernel
theorem dX5_goesBehind_27 : decode cX5_goesBehind 27 = .ok (.iload_n 3, 1) := by decide +kernel
theorem dX5_goesBehind_28 : decode cX5_goesBehind 28 = .ok (.iaload, 1) := by decide +kernel
theorem dX5_goesBehind_29 : decode cX5_goesBehind 29 = .ok (.invokestatic 38, 3) := by decide +kernel
theorem dX5_goesBehind_32 : decode cX5_goesBehind 32 = .ok (.ifCond .eq 5, 3) := by decide +kernel
theorem dX5_goesBehind_35 : decode cX5_goesBehind 35 = .ok (.iload_n 3, 1) := by decide +kernel
theorem dX5_goesBehind_36 : decode cX5_goesBehind 36 = .ok (.ireturn, 1) := by decide +kernel
theorem dX5_goesBehind_37 : decode cX5_goesBehind 37 = .ok (.aload_n 0, 1) := by decide +kernel
theorem dX5_goesBehind_38 : decode cX5_goesBehind 38 = .ok (.getfield 22, 3) := by decide +kernel
theorem dX5_goesBehind_41 : decode cX5_goesBehind 41 = .ok (.aload_n 0, 1) := by decide +kernel
theorem dX5_goesBehind_42 : decode cX5_goesBehind 42 = .ok (.getfield 9, 3) := by decide +kernel
theorem dX5_goesBehind_45 : decode cX5_goesBehind 45 = .ok (.aload_n 1, 1) := by decide +kernel
theorem dX5_goesBehind_46 : decode cX5_goesBehind 46 = .ok (.getfield 34, 3) := by decide +kernel
theorem dX5_goesBehind_49 : decode cX5_goesBehind 49 = .ok (.iload_n 3, 1) := by decide +kernel
theorem dX5_goesBehind_50 : decode cX5_goesBehind 50 = .ok (.iaload, 1) := by decide +kernel
theorem dX5_goesBehind_51 : decode cX5_goesBehind 51 = .ok (.invokevirtual 42, 3) := by decide +kernel
theorem dX5_goesBehind_54 : decode cX5_goesBehind 54 = .ok (.ifCond .ne 6, 3) := by decide +kernel
theorem dX5_goesBehind_57 : decode cX5_goesBehind 57 = .ok (.bipush (-4), 2) := by decide +kernel
theorem dX5_goesBehind_59 : decode cX5_goesBehind 59 = .ok (.ireturn, 1) := by decide +kernel
theorem dX5_goesBehind_60 : decode cX5_goesBehind 60 = .ok (.iinc 3 (-1), 3) := by decide +kernel
theorem dX5_goesBehind_63 : decode cX5_goesBehind 63 = .ok (.goto (-48), 3) := by decide +kernel
theorem dX5_goesBehind_66 : decode cX5_goesBehind 66 = .ok (.iconst (-1), 1) := by decide +kernel
theorem dX5_goesBehind_67 : decode cX5_goesBehind 67 = .ok (.ireturn, 1) := by decide +kernel
set_option maxRecDepth 20000 in
theorem ggX5_goesAhead_X7_setOwn : GoodIn wsX5_goesAhead wsX7_setOwn := goodIn_r _ [7, 8, 9, 10, 11] rfl (by decide +kernel)
set_option maxRecDepth 20000 in
theorem gX5_goesAhead_X7_setOwn_n26 : GoodIn wsX5_goesAhead (wsX7_setOwn) := ggX5_goesAhead_X7_setOwn
set_option maxRecDepth 20000 in
theorem ggX5_goesAhead_X7_isOwn : GoodIn wsX5_goesAhead wsX7_isOwn := goodIn_r _ [13] rfl (by decide +kernel)
set_option maxRecDepth 20000 in
theorem gX5_goesAhead_X7_isOwn_n38 : GoodIn wsX5_goesAhead (wsX7_isOwn) := ggX5_goesAhead_X7_isOwn
set_option maxRecDepth 20000 in
theorem ggX5_goesAhead_X3_turn : GoodIn wsX5_goesAhead wsX3_turn := goodIn_r _ [18, 19, 20, 21, 22, 23, 17, 24, 25, 26, 32, 33, 34] rfl (by decide +kernel)
set_option maxRecDepth 20000 in
theorem gX5_goesAhead_X3_turn : GoodIn wsX5_goesAhead (wsV RX5 42 RX3 yX3_turn wsX3_turn) := goodIn_app (goodIn_of _ (by decide +kernel)) ggX5_goesAhead_X3_turn
theorem dX5_goesAhead_0 : decode cX5_goesAhead 0 = .ok (.aload_n 0, 1) := by decide +kernel
theorem dX5_goesAhead_1 : decode cX5_goesAhead 1 = .ok (.getfield 9, 3) := by decide +kernel
theorem dX5_goesAhead_4 : decode cX5_goesAhead 4 = .ok (.iload_n 2, 1) := by decide +kernel
theorem dX5_goesAhead_5 : decode cX5_goesAhead 5 = .ok (.invokestatic 26, 3) := by decide +kernel
theorem dX5_goesAhead_8 : decode cX5_goesAhead 8 = .ok (.iconst 0, 1) := by decide +kernel
theorem dX5_goesAhead_9 : decode cX5_goesAhead 9 = .ok (.istore_n 3, 1) := by decide +kernel
theorem dX5_goesAhead_10 : decode cX5_goesAhead 10 = .ok (.iload_n 3, 1) := by decide +kernel
theorem dX5_goesAhead_11 : decode cX5_goesAhead 11 = .ok (.aload_n 1, 1) := by decide +kernel
theorem dX5_goesAhead_12 : decode cX5_goesAhead 12 = .ok (.getfield 30, 3) := by decide +kernel
theorem dX5_goesAhead_15 : decode cX5_goesAhead 15 = .ok (.if_icmp .ge 50, 3) := by decide +kernel
theorem dX5_goesAhead_18 : decode cX5_goesAhead 18 = .ok (.aload_n 0, 1) := by decide +kernel
theorem dX5_goesAhead_19 : decode cX5_goesAhead 19 = .ok (.getfield 9, 3) := by decide +kernel
theorem dX5_goesAhead_22 : decode cX5_goesAhead 22 = .ok (.aload_n 1, 1) := by decide +kernel
theorem dX5_goesAhead_23 : decode cX5_goesAhead 23 = .ok (.getfield 34, 3) := by decide +kernel
theorem dX5_goesAhead_26 : decode cX5_goesAhead 26 = .ok (.iload_n 3, 1) := by decide +kernel
theorem dX5_goesAhead_27 : decode cX5_goesAhead 27 = .ok (.iaload, 1) := by decide +kernel
theorem dX5_goesAhead_28 : decode cX5_goesAhead 28 = .ok (.invokestatic 38, 3) := by decide +kernel
theorem dX5_goesAhead_31 : decode cX5_goesAhead 31 = .ok (.ifCond .eq 5, 3) := by decide +kernel
theorem dX5_goesAhead_34 : decode cX5_goesAhead 34 = .ok (.iload_n 3, 1) := by decide +kernel
theorem dX5_goesAhead_35 : decode cX5_goesAhead 35 = .ok (.ireturn, 1) := by decide +kernel
theorem dX5_goesAhead_36 : decode cX5_goesAhead 36 = .ok (.aload_n 0, 1) := by decide +kernel
theorem dX5_goesAhead_37 : decode cX5_goesAhead 37 = .ok (.getfield 22, 3) := by decide +kernel
theorem dX5_goesAhead_40 : decode cX5_goesAhead 40 = .ok (.aload_n 0, 1) := by decide +kernel
theorem dX5_goesAhead_41 : decode cX5_goesAhead 41 = .ok (.getfield 9, 3) := by decide +kernel
theorem dX5_goesAhead_44 : decode cX5_goesAhead 44 = .ok (.aload_n 1, 1) := by decide +kernel
theorem dX5_goesAhead_45 : decode cX5_goesAhead 45 = .ok (.getfield 34, 3) := by decide +kernel
theorem dX5_goesAhead_48 : decode cX5_goesAhead 48 = .ok (.iload_n 3, 1) := by decide +kernel
theorem dX5_goesAhead_49 : decode cX5_goesAhead 49 = .ok (.iaload, 1) := by decide +kernel
theorem dX5_goesAhead_50 : decode cX5_goesAhead 50 = .ok (.invokevirtual 42, 3) := by decide +kernel
theorem dX5_goesAhead_53 : decode cX5_goesAhead 53 = .ok (.ifCond .ne 6, 3) := by decide +kernel
theorem dX5_goesAhead_56 : decode cX5_goesAhead 56 = .ok (.bipush (-4), 2) := by decide +kernel
theorem dX5_goesAhead_58 : decode cX5_goesAhead 58 = .ok (.ireturn, 1) := by decide +kernel
theorem dX5_goesAhead_59 : decode cX5_goesAhead 59 = .ok (.iinc 3 1, 3) := by decide +kernel
theorem dX5_goesAhead_62 : decode cX5_goesAhead 62 = .ok (.goto (-52), 3) := by decide +kernel
theorem dX5_goesAhead_65 : decode cX5_goesAhead 65 = .ok (.iconst (-1), 1) := by decide +kernel
theorem dX5_goesAhead_66 : decode cX5_goesAhead 66 = .ok (.ireturn, 1) := by decide +kernel
set_option maxRecDepth 20000 in
theorem ggX5_makeShort_X5_goesBehind : GoodIn wsX5_makeShort wsX5_goesBehind := goodIn_r _ [7, 8, 1, 2, 9, 10, 11, 12, 13, 14, 15, 16, 17, 18, 19, 20, 21, 22, 23, 24, 25, 26, 27, 28, 29, 30, 31, 49, 50, 51, 47, 48, 52, 53, 54] rfl (by decide +kernel)
set_option maxRecDepth 20000 in
theorem gX5_makeShort_X5_goesBehind : GoodIn wsX5_makeShort (wsV RX5 47 RX5 yX5_goesBehind wsX5_goesBehind) := goodIn_app (goodIn_of _ (by decide +kernel)) ggX5_makeShort_X5_goesBehind
set_option maxRecDepth 20000 in
theorem ggX5_makeShort_X6_add : GoodIn wsX5_makeShort wsX6_add := goodIn_r _ [36, 37, 38, 47, 48] rfl (by decide +kernel)
set_option maxRecDepth 20000 in
theorem gX5_makeShort_X6_add : GoodIn wsX5_makeShort (wsV RX5 51 RX6 yX6_add wsX6_add) := goodIn_app (goodIn_of _ (by decide +kernel)) ggX5_makeShort_X6_add
set_option maxRecDepth 20000 in
theorem ggX5_makeShort_X6_removeAt : GoodIn wsX5_makeShort wsX6_removeAt := goodIn_r _ [42, 37, 38, 43, 44, 45, 46, 47, 48] rfl (by decide +kernel)
set_option maxRecDepth 20000 in
theorem gX5_makeShort_X6_removeAt : GoodIn wsX5_makeShort (wsV RX5 55 RX6 yX6_removeAt wsX6_removeAt) := goodIn_app (goodIn_of _ (by decide +kernel)) ggX5_makeShort_X6_removeAt
theorem dX5_makeShort_0 : decode cX5_makeShort 0 = .ok (.aload_n 2, 1) := by decide +kernel
theorem dX5_makeShort_1 : decode cX5_makeShort 1 = .ok (.iconst 0, 1) := by decide +kernel
theorem dX5_makeShort_2 : decode cX5_makeShort 2 = .ok (.putfield 30, 3) := by decide +kernel
theorem dX5_makeShort_5 : decode cX5_makeShort 5 = .ok (.iconst 0, 1) := by decide +kernel
theorem dX5_makeShort_6 : decode cX5_makeShort 6 = .ok (.istore_n 3, 1) := by decide +kernel
theorem dX5_makeShort_7 : decode cX5_makeShort 7 = .ok (.iload_n 3, 1) := by decide +kernel
theorem dX5_makeShort_8 : decode cX5_makeShort 8 = .ok (.aload_n 1, 1) := by decide +kernel
theorem dX5_makeShort_9 : decode cX5_makeShort 9 = .ok (.getfield 30, 3) := by decide +kernel
theorem dX5_makeShort_12 : decode cX5_makeShort 12 = .ok (.if_icmp .ge 56, 3) := by decide +kernel
theorem dX5_makeShort_15 : decode cX5_makeShort 15 = .ok (.aload_n 0, 1) := by decide +kernel
theorem dX5_makeShort_16 : decode cX5_makeShort 16 = .ok (.aload_n 2, 1) := by decide +kernel
theorem dX5_makeShort_17 : decode cX5_makeShort 17 = .ok (.aload_n 1, 1) := by decide +kernel
theorem dX5_makeShort_18 : decode cX5_makeShort 18 = .ok (.getfield 34, 3) := by decide +kernel
theorem dX5_makeShort_21 : decode cX5_makeShort 21 = .ok (.iload_n 3, 1) := by decide +kernel
theorem dX5_makeShort_22 : decode cX5_makeShort 22 = .ok (.iaload, 1) := by decide +kernel
theorem dX5_makeShort_23 : decode cX5_makeShort 23 = .ok (.invokevirtual 47, 3) := by decide +kernel
theorem dX5_makeShort_26 : decode cX5_makeShort 26 = .ok (.istore 4, 2) := by decide +kernel
theorem dX5_makeShort_28 : decode cX5_makeShort 28 = .ok (.iload 4, 2) := by decide +kernel
theorem dX5_makeShort_30 : decode cX5_makeShort 30 = .ok (.bipush (-4), 2) := by decide +kernel
theorem dX5_makeShort_32 : decode cX5_makeShort 32 = .ok (.if_icmp .ne 5, 3) := by decide +kernel
theorem dX5_makeShort_35 : decode cX5_makeShort 35 = .ok (.iconst 0, 1) := by decide +kernel
theorem dX5_makeShort_36 : decode cX5_makeShort 36 = .ok (.ireturn, 1) := by decide +kernel
theorem dX5_makeShort_37 : decode cX5_makeShort 37 = .ok (.iload 4, 2) := by decide +kernel
theorem dX5_makeShort_39 : decode cX5_makeShort 39 = .ok (.iconst (-1), 1) := by decide +kernel
theorem dX5_makeShort_40 : decode cX5_makeShort 40 = .ok (.if_icmp .ne 16, 3) := by decide +kernel
theorem dX5_makeShort_43 : decode cX5_makeShort 43 = .ok (.aload_n 2, 1) := by decide +kernel
theorem dX5_makeShort_44 : decode cX5_makeShort 44 = .ok (.aload_n 1, 1) := by decide +kernel
theorem dX5_makeShort_45 : decode cX5_makeShort 45 = .ok (.getfield 34, 3) := by decide +kernel
theorem dX5_makeShort_48 : decode cX5_makeShort 48 = .ok (.iload_n 3, 1) := by decide +kernel
theorem dX5_makeShort_49 : decode cX5_makeShort 49 = .ok (.iaload, 1) := by decide +kernel
theorem dX5_makeShort_50 : decode cX5_makeShort 50 = .ok (.invokevirtual 51, 3) := by decide +kernel
theorem dX5_makeShort_53 : decode cX5_makeShort 53 = .ok (.goto 9, 3) := by decide +kernel
theorem dX5_makeShort_56 : decode cX5_makeShort 56 = .ok (.aload_n 2, 1) := by decide +kernel
theorem dX5_makeShort_57 : decode cX5_makeShort 57 = .ok (.iload 4, 2) := by decide +kernel
theorem dX5_makeShort_59 : decode cX5_makeShort 59 = .ok (.invokevirtual 55, 3) := by decide +kernel
theorem dX5_makeShort_62 : decode cX5_makeShort 62 = .ok (.iinc 3 1, 3) := by decide +kernel
theorem dX5_makeShort_65 : decode cX5_makeShort 65 = .ok (.goto (-58), 3) := by decide +kernel
theorem dX5_makeShort_68 : decode cX5_makeShort 68 = .ok (.iconst 1, 1) := by decide +kernel
theorem dX5_makeShort_69 : decode cX5_makeShort 69 = .ok (.ireturn, 1) := by decide +kernel
set_option maxRecDepth 20000 in
theorem ggX5_makeForm_X5_makeShort : GoodIn wsX5_makeForm wsX5_makeShort := goodIn_r _ [7, 2, 8, 9, 10, 11, 6, 12, 13, 14, 15, 16, 17, 18, 19, 20, 21, 22, 23, 24, 25, 26, 27, 28, 29, 30, 31, 32, 33, 34, 35, 36, 37, 38, 39, 40, 41, 42, 43, 44, 45, 46, 47, 48, 49, 50, 51, 68, 69, 65, 66, 67, 70, 71, 72] rfl (by decide +kernel)
set_option maxRecDepth 20000 in
theorem gX5_makeForm_X5_makeShort : GoodIn wsX5_makeForm (wsV RX5 58 RX5 yX5_makeShort wsX5_makeShort) := goodIn_app (goodIn_of _ (by decide +kernel)) ggX5_makeForm_X5_makeShort
set_option maxRecDepth 20000 in
theorem ggX5_makeForm_X5_moveDowns : GoodIn wsX5_makeForm wsX5_moveDowns := goodIn_r _ [55, 2, 56, 57, 58, 6, 59, 14, 60, 61, 62, 63, 64, 13, 8, 15, 16, 17, 18, 19, 20, 21, 22, 23, 24, 25, 26, 27, 28, 29, 30, 31, 32, 33, 34, 35, 36, 44, 45, 46, 40, 47, 42, 43, 48, 49, 50, 51, 37, 38, 39, 41, 68, 69, 65, 66, 67, 70, 71, 72] rfl (by decide +kernel)
set_option maxRecDepth 20000 in
theorem gX5_makeForm_X5_moveDowns : GoodIn wsX5_makeForm (wsV RX5 62 RX5 yX5_moveDowns wsX5_moveDowns) := goodIn_app (goodIn_of _ (by decide +kernel)) ggX5_makeForm_X5_moveDowns
theorem dX5_makeForm_0 : decode cX5_makeForm 0 = .ok (.aload_n 0, 1) := by decide +kernel
theorem dX5_makeForm_1 : decode cX5_makeForm 1 = .ok (.aload_n 1, 1) := by decide +kernel
theorem dX5_makeForm_2 : decode cX5_makeForm 2 = .ok (.aload_n 0, 1) := by decide +kernel
theorem dX5_makeForm_3 : decode cX5_makeForm 3 = .ok (.getfield 18, 3) := by decide +kernel
theorem dX5_makeForm_6 : decode cX5_makeForm 6 = .ok (.invokevirtual 58, 3) := by decide +kernel
theorem dX5_makeForm_9 : decode cX5_makeForm 9 = .ok (.ifCond .ne 5, 3) := by decide +kernel
theorem dX5_makeForm_12 : decode cX5_makeForm 12 = .ok (.iconst 0, 1) := by decide +kernel
theorem dX5_makeForm_13 : decode cX5_makeForm 13 = .ok (.ireturn, 1) := by decide +kernel
theorem dX5_makeForm_14 : decode cX5_makeForm 14 = .ok (.aload_n 2, 1) := by decide +kernel
theorem dX5_makeForm_15 : decode cX5_makeForm 15 = .ok (.iconst 0, 1) := by decide +kernel
theorem dX5_makeForm_16 : decode cX5_makeForm 16 = .ok (.putfield 30, 3) := by decide +kernel
theorem dX5_makeForm_19 : decode cX5_makeForm 19 = .ok (.aload_n 0, 1) := by decide +kernel
theorem dX5_makeForm_20 : decode cX5_makeForm 20 = .ok (.aload_n 0, 1) := by decide +kernel
theorem dX5_makeForm_21 : decode cX5_makeForm 21 = .ok (.getfield 18, 3) := by decide +kernel
theorem dX5_makeForm_24 : decode cX5_makeForm 24 = .ok (.bipush 63, 2) := by decide +kernel
theorem dX5_makeForm_26 : decode cX5_makeForm 26 = .ok (.aload_n 2, 1) := by decide +kernel
theorem dX5_makeForm_27 : decode cX5_makeForm 27 = .ok (.invokevirtual 62, 3) := by decide +kernel
theorem dX5_makeForm_30 : decode cX5_makeForm 30 = .ok (.ireturn, 1) := by decide +kernel
set_option maxRecDepth 20000 in
theorem ggX5_moveDowns_X5_takeLeastDown : GoodIn wsX5_moveDowns wsX5_takeLeastDown := goodIn_r _ [6, 7, 8, 9, 10, 11, 5, 12, 13, 1, 14, 15, 16, 17, 18, 19, 20, 21, 22, 23, 24, 25, 26, 27, 28, 29, 30, 31, 32, 33, 34, 35, 36, 37, 38, 39, 40, 41, 42, 43, 44, 45, 46, 47, 54, 55, 56, 57, 58, 59, 52, 53] rfl (by decide +kernel)
set_option maxRecDepth 20000 in
theorem gX5_moveDowns_X5_takeLeastDown : GoodIn wsX5_moveDowns (wsV RX5 66 RX5 yX5_takeLeastDown wsX5_takeLeastDown) := goodIn_app (goodIn_of _ (by decide +kernel)) ggX5_moveDowns_X5_takeLeastDown
set_option maxRecDepth 20000 in
theorem ggX5_moveDowns_X6_add : GoodIn wsX5_moveDowns wsX6_add := goodIn_r _ [51, 42, 43, 52, 53] rfl (by decide +kernel)
set_option maxRecDepth 20000 in
theorem gX5_moveDowns_X6_add : GoodIn wsX5_moveDowns (wsV RX5 51 RX6 yX6_add wsX6_add) := goodIn_app (goodIn_of _ (by decide +kernel)) ggX5_moveDowns_X6_add
theorem dX5_moveDowns_0 : decode cX5_moveDowns 0 = .ok (.aload_n 1, 1) := by decide +kernel
theorem dX5_moveDowns_1 : decode cX5_moveDowns 1 = .ok (.getfield 30, 3) := by decide +kernel
theorem dX5_moveDowns_4 : decode cX5_moveDowns 4 = .ok (.istore 4, 2) := by decide +kernel
theorem dX5_moveDowns_6 : decode cX5_moveDowns 6 = .ok (.iload 4, 2) := by decide +kernel
theorem dX5_moveDowns_8 : decode cX5_moveDowns 8 = .ok (.ifCond .le 40, 3) := by decide +kernel
theorem dX5_moveDowns_11 : decode cX5_moveDowns 11 = .ok (.aload_n 0, 1) := by decide +kernel
theorem dX5_moveDowns_12 : decode cX5_moveDowns 12 = .ok (.aload_n 1, 1) := by decide +kernel
theorem dX5_moveDowns_13 : decode cX5_moveDowns 13 = .ok (.iload_n 2, 1) := by decide +kernel
theorem dX5_moveDowns_14 : decode cX5_moveDowns 14 = .ok (.invokevirtual 66, 3) := by decide +kernel
theorem dX5_moveDowns_17 : decode cX5_moveDowns 17 = .ok (.istore 5, 2) := by decide +kernel
theorem dX5_moveDowns_19 : decode cX5_moveDowns 19 = .ok (.iload 5, 2) := by decide +kernel
theorem dX5_moveDowns_21 : decode cX5_moveDowns 21 = .ok (.bipush (-4), 2) := by decide +kernel
theorem dX5_moveDowns_23 : decode cX5_moveDowns 23 = .ok (.if_icmp .ne 5, 3) := by decide +kernel
theorem dX5_moveDowns_26 : decode cX5_moveDowns 26 = .ok (.iconst 0, 1) := by decide +kernel
theorem dX5_moveDowns_27 : decode cX5_moveDowns 27 = .ok (.ireturn, 1) := by decide +kernel
theorem dX5_moveDowns_28 : decode cX5_moveDowns 28 = .ok (.iload 5, 2) := by decide +kernel
theorem dX5_moveDowns_30 : decode cX5_moveDowns 30 = .ok (.iconst (-1), 1) := by decide +kernel
theorem dX5_moveDowns_31 : decode cX5_moveDowns 31 = .ok (.if_icmp .ne 5, 3) := by decide +kernel
theorem dX5_moveDowns_34 : decode cX5_moveDowns 34 = .ok (.iconst 1, 1) := by decide +kernel
theorem dX5_moveDowns_35 : decode cX5_moveDowns 35 = .ok (.ireturn, 1) := by decide +kernel
theorem dX5_moveDowns_36 : decode cX5_moveDowns 36 = .ok (.aload_n 3, 1) := by decide +kernel
theorem dX5_moveDowns_37 : decode cX5_moveDowns 37 = .ok (.iload 5, 2) := by decide +kernel
theorem dX5_moveDowns_39 : decode cX5_moveDowns 39 = .ok (.invokevirtual 51, 3) := by decide +kernel
theorem dX5_moveDowns_42 : decode cX5_moveDowns 42 = .ok (.iinc 4 (-1), 3) := by decide +kernel
theorem dX5_moveDowns_45 : decode cX5_moveDowns 45 = .ok (.goto (-39), 3) := by decide +kernel
theorem dX5_moveDowns_48 : decode cX5_moveDowns 48 = .ok (.iconst 1, 1) := by decide +kernel
theorem dX5_moveDowns_49 : decode cX5_moveDowns 49 = .ok (.ireturn, 1) := by decide +kernel
set_option maxRecDepth 20000 in
theorem ggX5_takeLeastDown_X5_goesAhead : GoodIn wsX5_takeLeastDown wsX5_goesAhead := goodIn_r _ [7, 8, 9, 10, 1, 11, 12, 13, 14, 15, 16, 17, 18, 19, 20, 21, 22, 23, 24, 25, 26, 27, 28, 29, 30, 31, 32, 44, 45, 46, 50, 51, 47, 48, 49] rfl (by decide +kernel)
set_option maxRecDepth 20000 in
theorem gX5_takeLeastDown_X5_goesAhead : GoodIn wsX5_takeLeastDown (wsV RX5 72 RX5 yX5_goesAhead wsX5_goesAhead) := goodIn_app (goodIn_of _ (by decide +kernel)) ggX5_takeLeastDown_X5_goesAhead
set_option maxRecDepth 20000 in
theorem ggX5_takeLeastDown_X6_removeAt : GoodIn wsX5_takeLeastDown wsX6_removeAt := goodIn_r _ [37, 38, 39, 40, 41, 42, 43, 50, 51] rfl (by decide +kernel)
set_option maxRecDepth 20000 in
theorem gX5_takeLeastDown_X6_removeAt : GoodIn wsX5_takeLeastDown (wsV RX5 55 RX6 yX6_removeAt wsX6_removeAt) := goodIn_app (goodIn_of _ (by decide +kernel)) ggX5_takeLeastDown_X6_removeAt
theorem dX5_takeLeastDown_0 : decode cX5_takeLeastDown 0 = .ok (.iconst 0, 1) := by decide +kernel
theorem dX5_takeLeastDown_1 : decode cX5_takeLeastDown 1 = .ok (.istore_n 3, 1) := by decide +kernel
theorem dX5_takeLeastDown_2 : decode cX5_takeLeastDown 2 = .ok (.iload_n 3, 1) := by decide +kernel
theorem dX5_takeLeastDown_3 : decode cX5_takeLeastDown 3 = .ok (.aload_n 0, 1) := by decide +kernel
theorem dX5_takeLeastDown_4 : decode cX5_takeLeastDown 4 = .ok (.getfield 22, 3) := by decide +kernel
theorem dX5_takeLeastDown_7 : decode cX5_takeLeastDown 7 = .ok (.getfield 69, 3) := by decide +kernel
theorem dX5_takeLeastDown_10 : decode cX5_takeLeastDown 10 = .ok (.if_icmp .ge 54, 3) := by decide +kernel
theorem dX5_takeLeastDown_13 : decode cX5_takeLeastDown 13 = .ok (.iload_n 2, 1) := by decide +kernel
theorem dX5_takeLeastDown_14 : decode cX5_takeLeastDown 14 = .ok (.iload_n 3, 1) := by decide +kernel
theorem dX5_takeLeastDown_15 : decode cX5_takeLeastDown 15 = .ok (.ishr, 1) := by decide +kernel
theorem dX5_takeLeastDown_16 : decode cX5_takeLeastDown 16 = .ok (.iconst 1, 1) := by decide +kernel
theorem dX5_takeLeastDown_17 : decode cX5_takeLeastDown 17 = .ok (.iand, 1) := by decide +kernel
theorem dX5_takeLeastDown_18 : decode cX5_takeLeastDown 18 = .ok (.iconst 1, 1) := by decide +kernel
theorem dX5_takeLeastDown_19 : decode cX5_takeLeastDown 19 = .ok (.if_icmp .ne 12, 3) := by decide +kernel
theorem dX5_takeLeastDown_22 : decode cX5_takeLeastDown 22 = .ok (.aload_n 0, 1) := by decide +kernel
theorem dX5_takeLeastDown_23 : decode cX5_takeLeastDown 23 = .ok (.aload_n 1, 1) := by decide +kernel
theorem dX5_takeLeastDown_24 : decode cX5_takeLeastDown 24 = .ok (.iload_n 3, 1) := by decide +kernel
theorem dX5_takeLeastDown_25 : decode cX5_takeLeastDown 25 = .ok (.invokevirtual 72, 3) := by decide +kernel
theorem dX5_takeLeastDown_28 : decode cX5_takeLeastDown 28 = .ok (.goto 4, 3) := by decide +kernel
theorem dX5_takeLeastDown_31 : decode cX5_takeLeastDown 31 = .ok (.iconst (-1), 1) := by decide +kernel
theorem dX5_takeLeastDown_32 : decode cX5_takeLeastDown 32 = .ok (.istore 4, 2) := by decide +kernel
theorem dX5_takeLeastDown_34 : decode cX5_takeLeastDown 34 = .ok (.iload 4, 2) := by decide +kernel
theorem dX5_takeLeastDown_36 : decode cX5_takeLeastDown 36 = .ok (.bipush (-4), 2) := by decide +kernel
theorem dX5_takeLeastDown_38 : decode cX5_takeLeastDown 38 = .ok (.if_icmp .ne 6, 3) := by decide +kernel
theorem dX5_takeLeastDown_41 : decode cX5_takeLeastDown 41 = .ok (.bipush (-4), 2) := by decide +kernel
theorem dX5_takeLeastDown_43 : decode cX5_takeLeastDown 43 = .ok (.ireturn, 1) := by decide +kernel
theorem dX5_takeLeastDown_44 : decode cX5_takeLeastDown 44 = .ok (.iload 4, 2) := by decide +kernel
theorem dX5_takeLeastDown_46 : decode cX5_takeLeastDown 46 = .ok (.iconst (-1), 1) := by decide +kernel
theorem dX5_takeLeastDown_47 : decode cX5_takeLeastDown 47 = .ok (.if_icmp .eq 11, 3) := by decide +kernel
theorem dX5_takeLeastDown_50 : decode cX5_takeLeastDown 50 = .ok (.aload_n 1, 1) := by decide +kernel
theorem dX5_takeLeastDown_51 : decode cX5_takeLeastDown 51 = .ok (.iload 4, 2) := by decide +kernel
theorem dX5_takeLeastDown_53 : decode cX5_takeLeastDown 53 = .ok (.invokevirtual 55, 3) := by decide +kernel
theorem dX5_takeLeastDown_56 : decode cX5_takeLeastDown 56 = .ok (.iload_n 3, 1) := by decide +kernel
theorem dX5_takeLeastDown_57 : decode cX5_takeLeastDown 57 = .ok (.ireturn, 1) := by decide +kernel
theorem dX5_takeLeastDown_58 : decode cX5_takeLeastDown 58 = .ok (.iinc 3 1, 3) := by decide +kernel
theorem dX5_takeLeastDown_61 : decode cX5_takeLeastDown 61 = .ok (.goto (-59), 3) := by decide +kernel
theorem dX5_takeLeastDown_64 : decode cX5_takeLeastDown 64 = .ok (.iconst (-1), 1) := by decide +kernel
theorem dX5_takeLeastDown_65 : decode cX5_takeLeastDown 65 = .ok (.ireturn, 1) := by decide +kernel
set_option maxRecDepth 20000 in
theorem ggX5_leastUp_X5_goesBehind : GoodIn wsX5_leastUp wsX5_goesBehind := goodIn_r _ [7, 8, 9, 10, 1, 11, 12, 13, 14, 15, 16, 17, 18, 19, 20, 21, 22, 23, 24, 25, 26, 27, 28, 29, 30, 31, 32, 33, 34, 35, 39, 40, 36, 37, 38] rfl (by decide +kernel)
set_option maxRecDepth 20000 in
theorem gX5_leastUp_X5_goesBehind : GoodIn wsX5_leastUp (wsV RX5 47 RX5 yX5_goesBehind wsX5_goesBehind) := goodIn_app (goodIn_of _ (by decide +kernel)) ggX5_leastUp_X5_goesBehind
theorem dX5_leastUp_0 : decode cX5_leastUp 0 = .ok (.iconst 0, 1) := by decide +kernel
theorem dX5_leastUp_1 : decode cX5_leastUp 1 = .ok (.istore_n 2, 1) := by decide +kernel
theorem dX5_leastUp_2 : decode cX5_leastUp 2 = .ok (.iload_n 2, 1) := by decide +kernel
theorem dX5_leastUp_3 : decode cX5_leastUp 3 = .ok (.aload_n 0, 1) := by decide +kernel
theorem dX5_leastUp_4 : decode cX5_leastUp 4 = .ok (.getfield 22, 3) := by decide +kernel
theorem dX5_leastUp_7 : decode cX5_leastUp 7 = .ok (.getfield 69, 3) := by decide +kernel
theorem dX5_leastUp_10 : decode cX5_leastUp 10 = .ok (.if_icmp .ge 21, 3) := by decide +kernel
theorem dX5_leastUp_13 : decode cX5_leastUp 13 = .ok (.aload_n 0, 1) := by decide +kernel
theorem dX5_leastUp_14 : decode cX5_leastUp 14 = .ok (.aload_n 1, 1) := by decide +kernel
theorem dX5_leastUp_15 : decode cX5_leastUp 15 = .ok (.iload_n 2, 1) := by decide +kernel
theorem dX5_leastUp_16 : decode cX5_leastUp 16 = .ok (.invokevirtual 47, 3) := by decide +kernel
theorem dX5_leastUp_19 : decode cX5_leastUp 19 = .ok (.iconst (-1), 1) := by decide +kernel
theorem dX5_leastUp_20 : decode cX5_leastUp 20 = .ok (.if_icmp .ne 5, 3) := by decide +kernel
theorem dX5_leastUp_23 : decode cX5_leastUp 23 = .ok (.iload_n 2, 1) := by decide +kernel
theorem dX5_leastUp_24 : decode cX5_leastUp 24 = .ok (.ireturn, 1) := by decide +kernel
theorem dX5_leastUp_25 : decode cX5_leastUp 25 = .ok (.iinc 2 1, 3) := by decide +kernel
theorem dX5_leastUp_28 : decode cX5_leastUp 28 = .ok (.goto (-26), 3) := by decide +kernel
theorem dX5_leastUp_31 : decode cX5_leastUp 31 = .ok (.iconst (-1), 1) := by decide +kernel
theorem dX5_leastUp_32 : decode cX5_leastUp 32 = .ok (.ireturn, 1) := by decide +kernel
theorem dX6_init_0 : decode cX6_init 0 = .ok (.aload_n 0, 1) := by decide +kernel
theorem dX6_init_1 : decode cX6_init 1 = .ok (.invokespecial 3, 3) := by decide +kernel
theorem dX6_init_4 : decode cX6_init 4 = .ok (.aload_n 0, 1) := by decide +kernel
theorem dX6_init_5 : decode cX6_init 5 = .ok (.bipush 100, 2) := by decide +kernel
theorem dX6_init_7 : decode cX6_init 7 = .ok (.newarray .int, 2) := by decide +kernel
theorem dX6_init_9 : decode cX6_init 9 = .ok (.putfield 9, 3) := by decide +kernel
theorem dX6_init_12 : decode cX6_init 12 = .ok (.return_, 1) := by decide +kernel
theorem dX6_add_0 : decode cX6_add 0 = .ok (.aload_n 0, 1) := by decide +kernel
theorem dX6_add_1 : decode cX6_add 1 = .ok (.getfield 9, 3) := by decide +kernel
theorem dX6_add_4 : decode cX6_add 4 = .ok (.aload_n 0, 1) := by decide +kernel
theorem dX6_add_5 : decode cX6_add 5 = .ok (.getfield 15, 3) := by decide +kernel
theorem dX6_add_8 : decode cX6_add 8 = .ok (.iload_n 1, 1) := by decide +kernel
theorem dX6_add_9 : decode cX6_add 9 = .ok (.iastore, 1) := by decide +kernel
theorem dX6_add_10 : decode cX6_add 10 = .ok (.aload_n 0, 1) := by decide +kernel
theorem dX6_add_11 : decode cX6_add 11 = .ok (.dup, 1) := by decide +kernel
theorem dX6_add_12 : decode cX6_add 12 = .ok (.getfield 15, 3) := by decide +kernel
theorem dX6_add_15 : decode cX6_add 15 = .ok (.iconst 1, 1) := by decide +kernel
theorem dX6_add_16 : decode cX6_add 16 = .ok (.iadd, 1) := by decide +kernel
theorem dX6_add_17 : decode cX6_add 17 = .ok (.putfield 15, 3) := by decide +kernel
theorem dX6_add_20 : decode cX6_add 20 = .ok (.return_, 1) := by decide +kernel
theorem dX6_removeAt_0 : decode cX6_removeAt 0 = .ok (.aload_n 0, 1) := by decide +kernel
theorem dX6_removeAt_1 : decode cX6_removeAt 1 = .ok (.getfield 9, 3) := by decide +kernel
theorem dX6_removeAt_4 : decode cX6_removeAt 4 = .ok (.iload_n 1, 1) := by decide +kernel
theorem dX6_removeAt_5 : decode cX6_removeAt 5 = .ok (.iconst 1, 1) := by decide +kernel
theorem dX6_removeAt_6 : decode cX6_removeAt 6 = .ok (.iadd, 1) := by decide +kernel
theorem dX6_removeAt_7 : decode cX6_removeAt 7 = .ok (.aload_n 0, 1) := by decide +kernel
theorem dX6_removeAt_8 : decode cX6_removeAt 8 = .ok (.getfield 9, 3) := by decide +kernel
theorem dX6_removeAt_11 : decode cX6_removeAt 11 = .ok (.iload_n 1, 1) := by decide +kernel
theorem dX6_removeAt_12 : decode cX6_removeAt 12 = .ok (.aload_n 0, 1) := by decide +kernel
theorem dX6_removeAt_13 : decode cX6_removeAt 13 = .ok (.getfield 15, 3) := by decide +kernel
theorem dX6_removeAt_16 : decode cX6_removeAt 16 = .ok (.iload_n 1, 1) := by decide +kernel
theorem dX6_removeAt_17 : decode cX6_removeAt 17 = .ok (.isub, 1) := by decide +kernel
theorem dX6_removeAt_18 : decode cX6_removeAt 18 = .ok (.iconst 1, 1) := by decide +kernel
theorem dX6_removeAt_19 : decode cX6_removeAt 19 = .ok (.isub, 1) := by decide +kernel
theorem dX6_removeAt_20 : decode cX6_removeAt 20 = .ok (.invokestatic 19, 3) := by decide +kernel
theorem dX6_removeAt_23 : decode cX6_removeAt 23 = .ok (.aload_n 0, 1) := by decide +kernel
theorem dX6_removeAt_24 : decode cX6_removeAt 24 = .ok (.dup, 1) := by decide +kernel
theorem dX6_removeAt_25 : decode cX6_removeAt 25 = .ok (.getfield 15, 3) := by decide +kernel
theorem dX6_removeAt_28 : decode cX6_removeAt 28 = .ok (.iconst 1, 1) := by decide +kernel
theorem dX6_removeAt_29 : decode cX6_removeAt 29 = .ok (.isub, 1) := by decide +kernel
theorem dX6_removeAt_30 : decode cX6_removeAt 30 = .ok (.putfield 15, 3) := by decide +kernel
theorem dX6_removeAt_33 : decode cX6_removeAt 33 = .ok (.return_, 1) := by decide +kernel
theorem dX6_take_0 : decode cX6_take 0 = .ok (.aload_n 1, 1) := by decide +kernel
theorem dX6_take_1 : decode cX6_take 1 = .ok (.getfield 9, 3) := by decide +kernel
theorem dX6_take_4 : decode cX6_take 4 = .ok (.iconst 0, 1) := by decide +kernel
theorem dX6_take_5 : decode cX6_take 5 = .ok (.aload_n 0, 1) := by decide +kernel
theorem dX6_take_6 : decode cX6_take 6 = .ok (.getfield 9, 3) := by decide +kernel
theorem dX6_take_9 : decode cX6_take 9 = .ok (.iconst 0, 1) := by decide +kernel
theorem dX6_take_10 : decode cX6_take 10 = .ok (.aload_n 1, 1) := by decide +kernel
theorem dX6_take_11 : decode cX6_take 11 = .ok (.getfield 15, 3) := by decide +kernel
theorem dX6_take_14 : decode cX6_take 14 = .ok (.invokestatic 19, 3) := by decide +kernel
theorem dX6_take_17 : decode cX6_take 17 = .ok (.aload_n 0, 1) := by decide +kernel
theorem dX6_take_18 : decode cX6_take 18 = .ok (.aload_n 1, 1) := by decide +kernel
theorem dX6_take_19 : decode cX6_take 19 = .ok (.getfield 15, 3) := by decide +kernel
theorem dX6_take_22 : decode cX6_take 22 = .ok (.putfield 15, 3) := by decide +kernel
theorem dX6_take_25 : decode cX6_take 25 = .ok (.return_, 1) := by decide +kernel
theorem dX6_takeInverted_0 : decode cX6_takeInverted 0 = .ok (.aload_n 0, 1) := by decide +kernel
theorem dX6_takeInverted_1 : decode cX6_takeInverted 1 = .ok (.aload_n 1, 1) := by decide +kernel
theorem dX6_takeInverted_2 : decode cX6_takeInverted 2 = .ok (.getfield 15, 3) := by decide +kernel
theorem dX6_takeInverted_5 : decode cX6_takeInverted 5 = .ok (.putfield 15, 3) := by decide +kernel
theorem dX6_takeInverted_8 : decode cX6_takeInverted 8 = .ok (.iconst 0, 1) := by decide +kernel
theorem dX6_takeInverted_9 : decode cX6_takeInverted 9 = .ok (.istore_n 2, 1) := by decide +kernel
theorem dX6_takeInverted_10 : decode cX6_takeInverted 10 = .ok (.iload_n 2, 1) := by decide +kernel
theorem dX6_takeInverted_11 : decode cX6_takeInverted 11 = .ok (.aload_n 0, 1) := by decide +kernel
theorem dX6_takeInverted_12 : decode cX6_takeInverted 12 = .ok (.getfield 15, 3) := by decide +kernel
theorem dX6_takeInverted_15 : decode cX6_takeInverted 15 = .ok (.if_icmp .ge 28, 3) := by decide +kernel
theorem dX6_takeInverted_18 : decode cX6_takeInverted 18 = .ok (.aload_n 0, 1) := by decide +kernel
theorem dX6_takeInverted_19 : decode cX6_takeInverted 19 = .ok (.getfield 9, 3) := by decide +kernel
theorem dX6_takeInverted_22 : decode cX6_takeInverted 22 = .ok (.iload_n 2, 1) := by decide +kernel
theorem dX6_takeInverted_23 : decode cX6_takeInverted 23 = .ok (.aload_n 1, 1) := by decide +kernel
theorem dX6_takeInverted_24 : decode cX6_takeInverted 24 = .ok (.getfield 9, 3) := by decide +kernel
theorem dX6_takeInverted_27 : decode cX6_takeInverted 27 = .ok (.aload_n 0, 1) := by decide +kernel
theorem dX6_takeInverted_28 : decode cX6_takeInverted 28 = .ok (.getfield 15, 3) := by decide +kernel
theorem dX6_takeInverted_31 : decode cX6_takeInverted 31 = .ok (.iconst 1, 1) := by decide +kernel
theorem dX6_takeInverted_32 : decode cX6_takeInverted 32 = .ok (.isub, 1) := by decide +kernel
theorem dX6_takeInverted_33 : decode cX6_takeInverted 33 = .ok (.iload_n 2, 1) := by decide +kernel
theorem dX6_takeInverted_34 : decode cX6_takeInverted 34 = .ok (.isub, 1) := by decide +kernel
theorem dX6_takeInverted_35 : decode cX6_takeInverted 35 = .ok (.iaload, 1) := by decide +kernel
theorem dX6_takeInverted_36 : decode cX6_takeInverted 36 = .ok (.iastore, 1) := by decide +kernel
theorem dX6_takeInverted_37 : decode cX6_takeInverted 37 = .ok (.iinc 2 1, 3) := by decide +kernel
theorem dX6_takeInverted_40 : decode cX6_takeInverted 40 = .ok (.goto (-30), 3) := by decide +kernel
theorem dX6_takeInverted_43 : decode cX6_takeInverted 43 = .ok (.return_, 1) := by decide +kernel
theorem dX6_append_0 : decode cX6_append 0 = .ok (.aload_n 1, 1) := by decide +kernel
theorem dX6_append_1 : decode cX6_append 1 = .ok (.getfield 9, 3) := by decide +kernel
theorem dX6_append_4 : decode cX6_append 4 = .ok (.iconst 0, 1) := by decide +kernel
theorem dX6_append_5 : decode cX6_append 5 = .ok (.aload_n 0, 1) := by decide +kernel
theorem dX6_append_6 : decode cX6_append 6 = .ok (.getfield 9, 3) := by decide +kernel
theorem dX6_append_9 : decode cX6_append 9 = .ok (.aload_n 0, 1) := by decide +kernel
theorem dX6_append_10 : decode cX6_append 10 = .ok (.getfield 15, 3) := by decide +kernel
theorem dX6_append_13 : decode cX6_append 13 = .ok (.aload_n 1, 1) := by decide +kernel
theorem dX6_append_14 : decode cX6_append 14 = .ok (.getfield 15, 3) := by decide +kernel
theorem dX6_append_17 : decode cX6_append 17 = .ok (.invokestatic 19, 3) := by decide +kernel
theorem dX6_append_20 : decode cX6_append 20 = .ok (.aload_n 0, 1) := by decide +kernel
theorem dX6_append_21 : decode cX6_append 21 = .ok (.dup, 1) := by decide +kernel
theorem dX6_append_22 : decode cX6_append 22 = .ok (.getfield 15, 3) := by decide +kernel
theorem dX6_append_25 : decode cX6_append 25 = .ok (.aload_n 1, 1) := by decide +kernel
theorem dX6_append_26 : decode cX6_append 26 = .ok (.getfield 15, 3) := by decide +kernel
theorem dX6_append_29 : decode cX6_append 29 = .ok (.iadd, 1) := by decide +kernel
theorem dX6_append_30 : decode cX6_append 30 = .ok (.putfield 15, 3) := by decide +kernel
theorem dX6_append_33 : decode cX6_append 33 = .ok (.return_, 1) := by decide +kernel
theorem dX6_isLike_0 : decode cX6_isLike 0 = .ok (.aload_n 0, 1) := by decide +kernel
theorem dX6_isLike_1 : decode cX6_isLike 1 = .ok (.getfield 15, 3) := by decide +kernel
theorem dX6_isLike_4 : decode cX6_isLike 4 = .ok (.aload_n 1, 1) := by decide +kernel
theorem dX6_isLike_5 : decode cX6_isLike 5 = .ok (.getfield 15, 3) := by decide +kernel
theorem dX6_isLike_8 : decode cX6_isLike 8 = .ok (.if_icmp .eq 5, 3) := by decide +kernel
theorem dX6_isLike_11 : decode cX6_isLike 11 = .ok (.iconst 0, 1) := by decide +kernel
theorem dX6_isLike_12 : decode cX6_isLike 12 = .ok (.ireturn, 1) := by decide +kernel
theorem dX6_isLike_13 : decode cX6_isLike 13 = .ok (.iconst 0, 1) := by decide +kernel
theorem dX6_isLike_14 : decode cX6_isLike 14 = .ok (.istore_n 2, 1) := by decide +kernel
theorem dX6_isLike_15 : decode cX6_isLike 15 = .ok (.iload_n 2, 1) := by decide +kernel
theorem dX6_isLike_16 : decode cX6_isLike 16 = .ok (.aload_n 0, 1) := by decide +kernel
theorem dX6_isLike_17 : decode cX6_isLike 17 = .ok (.getfield 15, 3) := by decide +kernel
theorem dX6_isLike_20 : decode cX6_isLike 20 = .ok (.if_icmp .ge 26, 3) := by decide +kernel
theorem dX6_isLike_23 : decode cX6_isLike 23 = .ok (.aload_n 0, 1) := by decide +kernel
theorem dX6_isLike_24 : decode cX6_isLike 24 = .ok (.getfield 9, 3) := by decide +kernel
theorem dX6_isLike_27 : decode cX6_isLike 27 = .ok (.iload_n 2, 1) := by decide +kernel
theorem dX6_isLike_28 : decode cX6_isLike 28 = .ok (.iaload, 1) := by decide +kernel
theorem dX6_isLike_29 : decode cX6_isLike 29 = .ok (.aload_n 1, 1) := by decide +kernel
theorem dX6_isLike_30 : decode cX6_isLike 30 = .ok (.getfield 9, 3) := by decide +kernel
theorem dX6_isLike_33 : decode cX6_isLike 33 = .ok (.iload_n 2, 1) := by decide +kernel
theorem dX6_isLike_34 : decode cX6_isLike 34 = .ok (.iaload, 1) := by decide +kernel
theorem dX6_isLike_35 : decode cX6_isLike 35 = .ok (.if_icmp .eq 5, 3) := by decide +kernel
theorem dX6_isLike_38 : decode cX6_isLike 38 = .ok (.iconst 0, 1) := by decide +kernel
theorem dX6_isLike_39 : decode cX6_isLike 39 = .ok (.ireturn, 1) := by decide +kernel
theorem dX6_isLike_40 : decode cX6_isLike 40 = .ok (.iinc 2 1, 3) := by decide +kernel
theorem dX6_isLike_43 : decode cX6_isLike 43 = .ok (.goto (-28), 3) := by decide +kernel
theorem dX6_isLike_46 : decode cX6_isLike 46 = .ok (.iconst 1, 1) := by decide +kernel
theorem dX6_isLike_47 : decode cX6_isLike 47 = .ok (.ireturn, 1) := by decide +kernel
theorem dX6_hasTwoFrom_0 : decode cX6_hasTwoFrom 0 = .ok (.iload_n 1, 1) := by decide +kernel
theorem dX6_hasTwoFrom_1 : decode cX6_hasTwoFrom 1 = .ok (.ifCond .lt 17, 3) := by decide +kernel
theorem dX6_hasTwoFrom_4 : decode cX6_hasTwoFrom 4 = .ok (.iload_n 1, 1) := by decide +kernel
theorem dX6_hasTwoFrom_5 : decode cX6_hasTwoFrom 5 = .ok (.aload_n 0, 1) := by decide +kernel
theorem dX6_hasTwoFrom_6 : decode cX6_hasTwoFrom 6 = .ok (.getfield 15, 3) := by decide +kernel
theorem dX6_hasTwoFrom_9 : decode cX6_hasTwoFrom 9 = .ok (.iconst 1, 1) := by decide +kernel
theorem dX6_hasTwoFrom_10 : decode cX6_hasTwoFrom 10 = .ok (.isub, 1) := by decide +kernel
theorem dX6_hasTwoFrom_11 : decode cX6_hasTwoFrom 11 = .ok (.if_icmp .ge 7, 3) := by decide +kernel
theorem dX6_hasTwoFrom_14 : decode cX6_hasTwoFrom 14 = .ok (.iconst 1, 1) := by decide +kernel
theorem dX6_hasTwoFrom_15 : decode cX6_hasTwoFrom 15 = .ok (.goto 4, 3) := by decide +kernel
theorem dX6_hasTwoFrom_18 : decode cX6_hasTwoFrom 18 = .ok (.iconst 0, 1) := by decide +kernel
theorem dX6_hasTwoFrom_19 : decode cX6_hasTwoFrom 19 = .ok (.ireturn, 1) := by decide +kernel
theorem dX6_isInTurn_0 : decode cX6_isInTurn 0 = .ok (.iload_n 2, 1) := by decide +kernel
theorem dX6_isInTurn_1 : decode cX6_isInTurn 1 = .ok (.aload_n 0, 1) := by decide +kernel
theorem dX6_isInTurn_2 : decode cX6_isInTurn 2 = .ok (.getfield 15, 3) := by decide +kernel
theorem dX6_isInTurn_5 : decode cX6_isInTurn 5 = .ok (.iload_n 1, 1) := by decide +kernel
theorem dX6_isInTurn_6 : decode cX6_isInTurn 6 = .ok (.isub, 1) := by decide +kernel
theorem dX6_isInTurn_7 : decode cX6_isInTurn 7 = .ok (.if_icmp .le 5, 3) := by decide +kernel
theorem dX6_isInTurn_10 : decode cX6_isInTurn 10 = .ok (.iconst 0, 1) := by decide +kernel
theorem dX6_isInTurn_11 : decode cX6_isInTurn 11 = .ok (.ireturn, 1) := by decide +kernel
theorem dX6_isInTurn_12 : decode cX6_isInTurn 12 = .ok (.iconst 2, 1) := by decide +kernel
theorem dX6_isInTurn_13 : decode cX6_isInTurn 13 = .ok (.istore_n 3, 1) := by decide +kernel
theorem dX6_isInTurn_14 : decode cX6_isInTurn 14 = .ok (.iload_n 3, 1) := by decide +kernel
theorem dX6_isInTurn_15 : decode cX6_isInTurn 15 = .ok (.iload_n 2, 1) := by decide +kernel
theorem dX6_isInTurn_16 : decode cX6_isInTurn 16 = .ok (.if_icmp .ge 32, 3) := by decide +kernel
theorem dX6_isInTurn_19 : decode cX6_isInTurn 19 = .ok (.aload_n 0, 1) := by decide +kernel
theorem dX6_isInTurn_20 : decode cX6_isInTurn 20 = .ok (.getfield 9, 3) := by decide +kernel
theorem dX6_isInTurn_23 : decode cX6_isInTurn 23 = .ok (.iload_n 1, 1) := by decide +kernel
theorem dX6_isInTurn_24 : decode cX6_isInTurn 24 = .ok (.iload_n 3, 1) := by decide +kernel
theorem dX6_isInTurn_25 : decode cX6_isInTurn 25 = .ok (.iadd, 1) := by decide +kernel
theorem dX6_isInTurn_26 : decode cX6_isInTurn 26 = .ok (.iaload, 1) := by decide +kernel
theorem dX6_isInTurn_27 : decode cX6_isInTurn 27 = .ok (.aload_n 0, 1) := by decide +kernel
theorem dX6_isInTurn_28 : decode cX6_isInTurn 28 = .ok (.getfield 9, 3) := by decide +kernel
theorem dX6_isInTurn_31 : decode cX6_isInTurn 31 = .ok (.iload_n 1, 1) := by decide +kernel
theorem dX6_isInTurn_32 : decode cX6_isInTurn 32 = .ok (.iload_n 3, 1) := by decide +kernel
theorem dX6_isInTurn_33 : decode cX6_isInTurn 33 = .ok (.iadd, 1) := by decide +kernel
theorem dX6_isInTurn_34 : decode cX6_isInTurn 34 = .ok (.iconst 2, 1) := by decide +kernel
theorem dX6_isInTurn_35 : decode cX6_isInTurn 35 = .ok (.isub, 1) := by decide +kernel
theorem dX6_isInTurn_36 : decode cX6_isInTurn 36 = .ok (.iaload, 1) := by decide +kernel
theorem dX6_isInTurn_37 : decode cX6_isInTurn 37 = .ok (.if_icmp .eq 5, 3) := by decide +kernel
theorem dX6_isInTurn_40 : decode cX6_isInTurn 40 = .ok (.iconst 0, 1) := by decide +kernel
theorem dX6_isInTurn_41 : decode cX6_isInTurn 41 = .ok (.ireturn, 1) := by decide +kernel
theorem dX6_isInTurn_42 : decode cX6_isInTurn 42 = .ok (.iinc 3 1, 3) := by decide +kernel
theorem dX6_isInTurn_45 : decode cX6_isInTurn 45 = .ok (.goto (-31), 3) := by decide +kernel
theorem dX6_isInTurn_48 : decode cX6_isInTurn 48 = .ok (.iconst 1, 1) := by decide +kernel
theorem dX6_isInTurn_49 : decode cX6_isInTurn 49 = .ok (.ireturn, 1) := by decide +kernel
set_option maxRecDepth 20000 in
theorem ggX7_init_X3_init : GoodIn wsX7_init wsX3_init := goodIn_r _ [40, 41, 2, 3, 42, 43, 44, 83, 84, 85] rfl (by decide +kernel)
set_option maxRecDepth 20000 in
theorem gX7_init_X3_init_n11 : GoodIn wsX7_init (wsX3_init) := ggX7_init_X3_init
set_option maxRecDepth 20000 in
theorem ggX7_init_X1_init : GoodIn wsX7_init wsX1_init := goodIn_r _ [47, 48, 2, 3, 49, 50, 5, 6, 39, 40, 41, 42, 43, 44, 98, 99, 100, 83, 84, 85] rfl (by decide +kernel)
set_option maxRecDepth 20000 in
theorem gX7_init_X1_init : GoodIn wsX7_init (wsX1_init) := ggX7_init_X1_init
set_option maxRecDepth 20000 in
theorem ggX7_init_X5_init : GoodIn wsX7_init wsX5_init := goodIn_r _ [53, 54, 2, 3, 33, 55, 56, 28, 29, 57, 58, 59, 60, 61, 42, 62, 101, 102, 103, 116, 117] rfl (by decide +kernel)
set_option maxRecDepth 20000 in
theorem gX7_init_X5_init : GoodIn wsX7_init (wsX5_init) := ggX7_init_X5_init
set_option maxRecDepth 20000 in
theorem ggX7_init_X4_init : GoodIn wsX7_init wsX4_init := goodIn_r _ [65, 66, 2, 3, 33, 67, 68, 42, 69, 70, 104, 105, 106, 107, 108, 109] rfl (by decide +kernel)
set_option maxRecDepth 20000 in
theorem gX7_init_X4_init : GoodIn wsX7_init (wsX4_init) := ggX7_init_X4_init
set_option maxRecDepth 20000 in
theorem ggX7_init_X0_init : GoodIn wsX7_init wsX0_init := goodIn_r _ [73, 74, 2, 3, 42, 75, 76, 33, 77, 78, 110, 111, 112, 113, 114, 115] rfl (by decide +kernel)
set_option maxRecDepth 20000 in
theorem gX7_init_X0_init : GoodIn wsX7_init (wsX0_init) := ggX7_init_X0_init
set_option maxRecDepth 20000 in
theorem ggX7_init_X6_init : GoodIn wsX7_init wsX6_init := goodIn_r _ [60, 61, 2, 3, 42, 62, 116, 117] rfl (by decide +kernel)
set_option maxRecDepth 20000 in
theorem gX7_init_X6_init_n58 : GoodIn wsX7_init (wsX6_init) := ggX7_init_X6_init
set_option maxRecDepth 20000 in
theorem ggX7_init_X2_init : GoodIn wsX7_init wsX2_init := goodIn_r _ [80, 81, 2, 3, 33, 82, 118, 119, 120, 121] rfl (by decide +kernel)
set_option maxRecDepth 20000 in
theorem gX7_init_X2_init_n78 : GoodIn wsX7_init (wsX2_init) := ggX7_init_X2_init
