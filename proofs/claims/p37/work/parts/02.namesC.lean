theorem dX8_in_0 : decode cX8_in 0 = .ok (.lload_n 0, 1) := by decide +kernel
theorem dX8_in_1 : decode cX8_in 1 = .ok (.lload_n 2, 1) := by decide +kernel
theorem dX8_in_2 : decode cX8_in 2 = .ok (.lcmp, 1) := by decide +kernel
theorem dX8_in_3 : decode cX8_in 3 = .ok (.ifCond .lt 14, 3) := by decide +kernel
theorem dX8_in_6 : decode cX8_in 6 = .ok (.lload_n 0, 1) := by decide +kernel
theorem dX8_in_7 : decode cX8_in 7 = .ok (.lload 4, 2) := by decide +kernel
theorem dX8_in_9 : decode cX8_in 9 = .ok (.lcmp, 1) := by decide +kernel
theorem dX8_in_10 : decode cX8_in 10 = .ok (.ifCond .gt 7, 3) := by decide +kernel
theorem dX8_in_13 : decode cX8_in 13 = .ok (.iconst 1, 1) := by decide +kernel
theorem dX8_in_14 : decode cX8_in 14 = .ok (.goto 4, 3) := by decide +kernel
theorem dX8_in_17 : decode cX8_in 17 = .ok (.iconst 0, 1) := by decide +kernel
theorem dX8_in_18 : decode cX8_in 18 = .ok (.ireturn, 1) := by decide +kernel
set_option maxRecDepth 20000 in
theorem ggX8_keep_X8_emptyWords : GoodIn wsX8_keep wsX8_emptyWords := goodIn_r _ [10, 11, 12, 13, 14, 15, 16, 17, 18, 19, 20, 21, 22, 23, 24, 25, 26, 27, 28, 29, 30, 31, 32, 33, 34, 35, 36, 37, 38, 39, 40, 41, 42, 43, 44] rfl (by decide +kernel)
set_option maxRecDepth 20000 in
theorem gX8_keep_X8_emptyWords : GoodIn wsX8_keep (wsV RX8 20 RX8 yX8_emptyWords wsX8_emptyWords) := goodIn_app (goodIn_of _ (by decide +kernel)) ggX8_keep_X8_emptyWords
theorem dX8_keep_0 : decode cX8_keep 0 = .ok (.aload_n 0, 1) := by decide +kernel
theorem dX8_keep_1 : decode cX8_keep 1 = .ok (.getfield 1, 3) := by decide +kernel
theorem dX8_keep_4 : decode cX8_keep 4 = .ok (.bipush 16, 2) := by decide +kernel
theorem dX8_keep_6 : decode cX8_keep 6 = .ok (.if_icmp .ne 43, 3) := by decide +kernel
theorem dX8_keep_9 : decode cX8_keep 9 = .ok (.iconst 0, 1) := by decide +kernel
theorem dX8_keep_10 : decode cX8_keep 10 = .ok (.istore_n 1, 1) := by decide +kernel
theorem dX8_keep_11 : decode cX8_keep 11 = .ok (.iload_n 1, 1) := by decide +kernel
theorem dX8_keep_12 : decode cX8_keep 12 = .ok (.sipush 645, 3) := by decide +kernel
theorem dX8_keep_15 : decode cX8_keep 15 = .ok (.if_icmp .ge 24, 3) := by decide +kernel
theorem dX8_keep_18 : decode cX8_keep 18 = .ok (.aload_n 0, 1) := by decide +kernel
theorem dX8_keep_19 : decode cX8_keep 19 = .ok (.getfield 7, 3) := by decide +kernel
theorem dX8_keep_22 : decode cX8_keep 22 = .ok (.iload_n 1, 1) := by decide +kernel
theorem dX8_keep_23 : decode cX8_keep 23 = .ok (.aload_n 0, 1) := by decide +kernel
theorem dX8_keep_24 : decode cX8_keep 24 = .ok (.getfield 7, 3) := by decide +kernel
theorem dX8_keep_27 : decode cX8_keep 27 = .ok (.iload_n 1, 1) := by decide +kernel
theorem dX8_keep_28 : decode cX8_keep 28 = .ok (.bipush 43, 2) := by decide +kernel
theorem dX8_keep_30 : decode cX8_keep 30 = .ok (.iadd, 1) := by decide +kernel
theorem dX8_keep_31 : decode cX8_keep 31 = .ok (.iaload, 1) := by decide +kernel
theorem dX8_keep_32 : decode cX8_keep 32 = .ok (.iastore, 1) := by decide +kernel
theorem dX8_keep_33 : decode cX8_keep 33 = .ok (.iinc 1 1, 3) := by decide +kernel
theorem dX8_keep_36 : decode cX8_keep 36 = .ok (.goto (-25), 3) := by decide +kernel
theorem dX8_keep_39 : decode cX8_keep 39 = .ok (.aload_n 0, 1) := by decide +kernel
theorem dX8_keep_40 : decode cX8_keep 40 = .ok (.dup, 1) := by decide +kernel
theorem dX8_keep_41 : decode cX8_keep 41 = .ok (.getfield 1, 3) := by decide +kernel
theorem dX8_keep_44 : decode cX8_keep 44 = .ok (.iconst 1, 1) := by decide +kernel
theorem dX8_keep_45 : decode cX8_keep 45 = .ok (.isub, 1) := by decide +kernel
theorem dX8_keep_46 : decode cX8_keep 46 = .ok (.putfield 1, 3) := by decide +kernel
theorem dX8_keep_49 : decode cX8_keep 49 = .ok (.bipush 43, 2) := by decide +kernel
theorem dX8_keep_51 : decode cX8_keep 51 = .ok (.aload_n 0, 1) := by decide +kernel
theorem dX8_keep_52 : decode cX8_keep 52 = .ok (.getfield 1, 3) := by decide +kernel
theorem dX8_keep_55 : decode cX8_keep 55 = .ok (.imul, 1) := by decide +kernel
theorem dX8_keep_56 : decode cX8_keep 56 = .ok (.istore_n 1, 1) := by decide +kernel
theorem dX8_keep_57 : decode cX8_keep 57 = .ok (.aload_n 0, 1) := by decide +kernel
theorem dX8_keep_58 : decode cX8_keep 58 = .ok (.getfield 7, 3) := by decide +kernel
theorem dX8_keep_61 : decode cX8_keep 61 = .ok (.iload_n 1, 1) := by decide +kernel
theorem dX8_keep_62 : decode cX8_keep 62 = .ok (.aload_n 0, 1) := by decide +kernel
theorem dX8_keep_63 : decode cX8_keep 63 = .ok (.getfield 11, 3) := by decide +kernel
theorem dX8_keep_66 : decode cX8_keep 66 = .ok (.iastore, 1) := by decide +kernel
theorem dX8_keep_67 : decode cX8_keep 67 = .ok (.iconst 0, 1) := by decide +kernel
theorem dX8_keep_68 : decode cX8_keep 68 = .ok (.istore_n 2, 1) := by decide +kernel
theorem dX8_keep_69 : decode cX8_keep 69 = .ok (.iload_n 2, 1) := by decide +kernel
theorem dX8_keep_70 : decode cX8_keep 70 = .ok (.bipush 6, 2) := by decide +kernel
theorem dX8_keep_72 : decode cX8_keep 72 = .ok (.if_icmp .ge 25, 3) := by decide +kernel
theorem dX8_keep_75 : decode cX8_keep 75 = .ok (.aload_n 0, 1) := by decide +kernel
theorem dX8_keep_76 : decode cX8_keep 76 = .ok (.getfield 7, 3) := by decide +kernel
theorem dX8_keep_79 : decode cX8_keep 79 = .ok (.iload_n 1, 1) := by decide +kernel
theorem dX8_keep_80 : decode cX8_keep 80 = .ok (.iconst 1, 1) := by decide +kernel
theorem dX8_keep_81 : decode cX8_keep 81 = .ok (.iadd, 1) := by decide +kernel
theorem dX8_keep_82 : decode cX8_keep 82 = .ok (.iload_n 2, 1) := by decide +kernel
theorem dX8_keep_83 : decode cX8_keep 83 = .ok (.iadd, 1) := by decide +kernel
theorem dX8_keep_84 : decode cX8_keep 84 = .ok (.aload_n 0, 1) := by decide +kernel
theorem dX8_keep_85 : decode cX8_keep 85 = .ok (.getfield 14, 3) := by decide +kernel
theorem dX8_keep_88 : decode cX8_keep 88 = .ok (.iload_n 2, 1) := by decide +kernel
theorem dX8_keep_89 : decode cX8_keep 89 = .ok (.iaload, 1) := by decide +kernel
theorem dX8_keep_90 : decode cX8_keep 90 = .ok (.iastore, 1) := by decide +kernel
theorem dX8_keep_91 : decode cX8_keep 91 = .ok (.iinc 2 1, 3) := by decide +kernel
theorem dX8_keep_94 : decode cX8_keep 94 = .ok (.goto (-25), 3) := by decide +kernel
theorem dX8_keep_97 : decode cX8_keep 97 = .ok (.iconst 0, 1) := by decide +kernel
theorem dX8_keep_98 : decode cX8_keep 98 = .ok (.istore_n 2, 1) := by decide +kernel
theorem dX8_keep_99 : decode cX8_keep 99 = .ok (.iload_n 2, 1) := by decide +kernel
theorem dX8_keep_100 : decode cX8_keep 100 = .ok (.bipush 36, 2) := by decide +kernel
theorem dX8_keep_102 : decode cX8_keep 102 = .ok (.if_icmp .ge 26, 3) := by decide +kernel
theorem dX8_keep_105 : decode cX8_keep 105 = .ok (.aload_n 0, 1) := by decide +kernel
theorem dX8_keep_106 : decode cX8_keep 106 = .ok (.getfield 7, 3) := by decide +kernel
theorem dX8_keep_109 : decode cX8_keep 109 = .ok (.iload_n 1, 1) := by decide +kernel
theorem dX8_keep_110 : decode cX8_keep 110 = .ok (.bipush 7, 2) := by decide +kernel
theorem dX8_keep_112 : decode cX8_keep 112 = .ok (.iadd, 1) := by decide +kernel
theorem dX8_keep_113 : decode cX8_keep 113 = .ok (.iload_n 2, 1) := by decide +kernel
theorem dX8_keep_114 : decode cX8_keep 114 = .ok (.iadd, 1) := by decide +kernel
theorem dX8_keep_115 : decode cX8_keep 115 = .ok (.aload_n 0, 1) := by decide +kernel
theorem dX8_keep_116 : decode cX8_keep 116 = .ok (.getfield 17, 3) := by decide +kernel
theorem dX8_keep_119 : decode cX8_keep 119 = .ok (.iload_n 2, 1) := by decide +kernel
theorem dX8_keep_120 : decode cX8_keep 120 = .ok (.iaload, 1) := by decide +kernel
theorem dX8_keep_121 : decode cX8_keep 121 = .ok (.iastore, 1) := by decide +kernel
theorem dX8_keep_122 : decode cX8_keep 122 = .ok (.iinc 2 1, 3) := by decide +kernel
theorem dX8_keep_125 : decode cX8_keep 125 = .ok (.goto (-26), 3) := by decide +kernel
theorem dX8_keep_128 : decode cX8_keep 128 = .ok (.aload_n 0, 1) := by decide +kernel
theorem dX8_keep_129 : decode cX8_keep 129 = .ok (.dup, 1) := by decide +kernel
theorem dX8_keep_130 : decode cX8_keep 130 = .ok (.getfield 1, 3) := by decide +kernel
theorem dX8_keep_133 : decode cX8_keep 133 = .ok (.iconst 1, 1) := by decide +kernel
theorem dX8_keep_134 : decode cX8_keep 134 = .ok (.iadd, 1) := by decide +kernel
theorem dX8_keep_135 : decode cX8_keep 135 = .ok (.putfield 1, 3) := by decide +kernel
theorem dX8_keep_138 : decode cX8_keep 138 = .ok (.aload_n 0, 1) := by decide +kernel
theorem dX8_keep_139 : decode cX8_keep 139 = .ok (.invokevirtual 20, 3) := by decide +kernel
theorem dX8_keep_142 : decode cX8_keep 142 = .ok (.return_, 1) := by decide +kernel
set_option maxRecDepth 20000 in
theorem ggX8_isMirror_X8_in : GoodIn wsX8_isMirror wsX8_in := goodIn_r _ [5] rfl (by decide +kernel)
set_option maxRecDepth 20000 in
theorem gX8_isMirror_X8_in : GoodIn wsX8_isMirror (va_wsS RX8 24 yX8_in wsX8_in) := goodIn_app (goodIn_of _ (by decide +kernel)) ggX8_isMirror_X8_in
theorem dX8_isMirror_0 : decode cX8_isMirror 0 = .ok (.lload_n 1, 1) := by decide +kernel
theorem dX8_isMirror_1 : decode cX8_isMirror 1 = .ok (.lconst 0, 1) := by decide +kernel
theorem dX8_isMirror_2 : decode cX8_isMirror 2 = .ok (.aload_n 0, 1) := by decide +kernel
theorem dX8_isMirror_3 : decode cX8_isMirror 3 = .ok (.getfield 11, 3) := by decide +kernel
theorem dX8_isMirror_6 : decode cX8_isMirror 6 = .ok (.i2l, 1) := by decide +kernel
theorem dX8_isMirror_7 : decode cX8_isMirror 7 = .ok (.lconst 1, 1) := by decide +kernel
theorem dX8_isMirror_8 : decode cX8_isMirror 8 = .ok (.lsub, 1) := by decide +kernel
theorem dX8_isMirror_9 : decode cX8_isMirror 9 = .ok (.invokestatic 24, 3) := by decide +kernel
theorem dX8_isMirror_12 : decode cX8_isMirror 12 = .ok (.ireturn, 1) := by decide +kernel
set_option maxRecDepth 20000 in
theorem ggX8_mirror_X8_in : GoodIn wsX8_mirror wsX8_in := goodIn_r _ [8] rfl (by decide +kernel)
set_option maxRecDepth 20000 in
theorem gX8_mirror_X8_in : GoodIn wsX8_mirror (va_wsS RX8 24 yX8_in wsX8_in) := goodIn_app (goodIn_of _ (by decide +kernel)) ggX8_mirror_X8_in
set_option maxRecDepth 20000 in
theorem ggX8_mirror_X8_keep : GoodIn wsX8_mirror wsX8_keep := goodIn_r _ [12, 13, 14, 2, 3, 4, 15, 16, 17, 7, 18, 19, 20, 21, 22, 23, 24, 25, 26, 27, 28, 29, 30, 31, 32, 33, 34, 35, 36, 37, 38, 39, 40, 41, 42, 43, 44, 45, 46, 47, 48, 49, 50, 51, 52] rfl (by decide +kernel)
set_option maxRecDepth 20000 in
theorem gX8_mirror_X8_keep : GoodIn wsX8_mirror (wsV RX8 30 RX8 yX8_keep wsX8_keep) := goodIn_app (goodIn_of _ (by decide +kernel)) ggX8_mirror_X8_keep
theorem dX8_mirror_0 : decode cX8_mirror 0 = .ok (.iload_n 1, 1) := by decide +kernel
theorem dX8_mirror_1 : decode cX8_mirror 1 = .ok (.i2l, 1) := by decide +kernel
theorem dX8_mirror_2 : decode cX8_mirror 2 = .ok (.lconst 0, 1) := by decide +kernel
theorem dX8_mirror_3 : decode cX8_mirror 3 = .ok (.ldc2_w 28, 3) := by decide +kernel
theorem dX8_mirror_6 : decode cX8_mirror 6 = .ok (.invokestatic 24, 3) := by decide +kernel
theorem dX8_mirror_9 : decode cX8_mirror 9 = .ok (.ifCond .ne 5, 3) := by decide +kernel
theorem dX8_mirror_12 : decode cX8_mirror 12 = .ok (.iconst (-1), 1) := by decide +kernel
theorem dX8_mirror_13 : decode cX8_mirror 13 = .ok (.ireturn, 1) := by decide +kernel
theorem dX8_mirror_14 : decode cX8_mirror 14 = .ok (.aload_n 0, 1) := by decide +kernel
theorem dX8_mirror_15 : decode cX8_mirror 15 = .ok (.getfield 11, 3) := by decide +kernel
theorem dX8_mirror_18 : decode cX8_mirror 18 = .ok (.bipush 6, 2) := by decide +kernel
theorem dX8_mirror_20 : decode cX8_mirror 20 = .ok (.if_icmp .ne 6, 3) := by decide +kernel
theorem dX8_mirror_23 : decode cX8_mirror 23 = .ok (.bipush (-3), 2) := by decide +kernel
theorem dX8_mirror_25 : decode cX8_mirror 25 = .ok (.ireturn, 1) := by decide +kernel
theorem dX8_mirror_26 : decode cX8_mirror 26 = .ok (.aload_n 0, 1) := by decide +kernel
theorem dX8_mirror_27 : decode cX8_mirror 27 = .ok (.invokevirtual 30, 3) := by decide +kernel
theorem dX8_mirror_30 : decode cX8_mirror 30 = .ok (.aload_n 0, 1) := by decide +kernel
theorem dX8_mirror_31 : decode cX8_mirror 31 = .ok (.getfield 14, 3) := by decide +kernel
theorem dX8_mirror_34 : decode cX8_mirror 34 = .ok (.aload_n 0, 1) := by decide +kernel
theorem dX8_mirror_35 : decode cX8_mirror 35 = .ok (.getfield 11, 3) := by decide +kernel
theorem dX8_mirror_38 : decode cX8_mirror 38 = .ok (.iload_n 1, 1) := by decide +kernel
theorem dX8_mirror_39 : decode cX8_mirror 39 = .ok (.iastore, 1) := by decide +kernel
theorem dX8_mirror_40 : decode cX8_mirror 40 = .ok (.iconst 0, 1) := by decide +kernel
theorem dX8_mirror_41 : decode cX8_mirror 41 = .ok (.istore_n 2, 1) := by decide +kernel
theorem dX8_mirror_42 : decode cX8_mirror 42 = .ok (.iload_n 2, 1) := by decide +kernel
theorem dX8_mirror_43 : decode cX8_mirror 43 = .ok (.bipush 6, 2) := by decide +kernel
theorem dX8_mirror_45 : decode cX8_mirror 45 = .ok (.if_icmp .ge 39, 3) := by decide +kernel
theorem dX8_mirror_48 : decode cX8_mirror 48 = .ok (.aload_n 0, 1) := by decide +kernel
theorem dX8_mirror_49 : decode cX8_mirror 49 = .ok (.getfield 17, 3) := by decide +kernel
theorem dX8_mirror_52 : decode cX8_mirror 52 = .ok (.bipush 6, 2) := by decide +kernel
theorem dX8_mirror_54 : decode cX8_mirror 54 = .ok (.aload_n 0, 1) := by decide +kernel
theorem dX8_mirror_55 : decode cX8_mirror 55 = .ok (.getfield 11, 3) := by decide +kernel
theorem dX8_mirror_58 : decode cX8_mirror 58 = .ok (.imul, 1) := by decide +kernel
theorem dX8_mirror_59 : decode cX8_mirror 59 = .ok (.iload_n 2, 1) := by decide +kernel
theorem dX8_mirror_60 : decode cX8_mirror 60 = .ok (.iadd, 1) := by decide +kernel
theorem dX8_mirror_61 : decode cX8_mirror 61 = .ok (.iconst 0, 1) := by decide +kernel
theorem dX8_mirror_62 : decode cX8_mirror 62 = .ok (.iastore, 1) := by decide +kernel
theorem dX8_mirror_63 : decode cX8_mirror 63 = .ok (.aload_n 0, 1) := by decide +kernel
theorem dX8_mirror_64 : decode cX8_mirror 64 = .ok (.getfield 17, 3) := by decide +kernel
theorem dX8_mirror_67 : decode cX8_mirror 67 = .ok (.bipush 6, 2) := by decide +kernel
theorem dX8_mirror_69 : decode cX8_mirror 69 = .ok (.iload_n 2, 1) := by decide +kernel
theorem dX8_mirror_70 : decode cX8_mirror 70 = .ok (.imul, 1) := by decide +kernel
theorem dX8_mirror_71 : decode cX8_mirror 71 = .ok (.aload_n 0, 1) := by decide +kernel
theorem dX8_mirror_72 : decode cX8_mirror 72 = .ok (.getfield 11, 3) := by decide +kernel
theorem dX8_mirror_75 : decode cX8_mirror 75 = .ok (.iadd, 1) := by decide +kernel
theorem dX8_mirror_76 : decode cX8_mirror 76 = .ok (.iconst 0, 1) := by decide +kernel
theorem dX8_mirror_77 : decode cX8_mirror 77 = .ok (.iastore, 1) := by decide +kernel
theorem dX8_mirror_78 : decode cX8_mirror 78 = .ok (.iinc 2 1, 3) := by decide +kernel
theorem dX8_mirror_81 : decode cX8_mirror 81 = .ok (.goto (-39), 3) := by decide +kernel
theorem dX8_mirror_84 : decode cX8_mirror 84 = .ok (.aload_n 0, 1) := by decide +kernel
theorem dX8_mirror_85 : decode cX8_mirror 85 = .ok (.dup, 1) := by decide +kernel
theorem dX8_mirror_86 : decode cX8_mirror 86 = .ok (.getfield 11, 3) := by decide +kernel
theorem dX8_mirror_89 : decode cX8_mirror 89 = .ok (.iconst 1, 1) := by decide +kernel
theorem dX8_mirror_90 : decode cX8_mirror 90 = .ok (.iadd, 1) := by decide +kernel
theorem dX8_mirror_91 : decode cX8_mirror 91 = .ok (.putfield 11, 3) := by decide +kernel
theorem dX8_mirror_94 : decode cX8_mirror 94 = .ok (.aload_n 0, 1) := by decide +kernel
theorem dX8_mirror_95 : decode cX8_mirror 95 = .ok (.getfield 11, 3) := by decide +kernel
theorem dX8_mirror_98 : decode cX8_mirror 98 = .ok (.iconst 1, 1) := by decide +kernel
theorem dX8_mirror_99 : decode cX8_mirror 99 = .ok (.isub, 1) := by decide +kernel
theorem dX8_mirror_100 : decode cX8_mirror 100 = .ok (.ireturn, 1) := by decide +kernel
set_option maxRecDepth 20000 in
theorem ggX8_meet_X8_isMirror : GoodIn wsX8_meet wsX8_isMirror := goodIn_r _ [7, 8, 9, 10, 6, 11, 28, 29, 30, 31, 32, 33, 34, 35, 36, 37, 38, 39, 40, 41, 42, 43, 44, 45, 46, 47, 48, 49, 50, 51, 52, 53, 54, 55, 56, 57, 58, 59, 60] rfl (by decide +kernel)
set_option maxRecDepth 20000 in
theorem gX8_meet_X8_isMirror : GoodIn wsX8_meet (wsV RX8 33 RX8 yX8_isMirror wsX8_isMirror) := goodIn_app (goodIn_of _ (by decide +kernel)) ggX8_meet_X8_isMirror
set_option maxRecDepth 20000 in
theorem ggX8_meet_X8_keep : GoodIn wsX8_meet wsX8_keep := goodIn_r _ [15, 16, 17, 8, 18, 2, 19, 20, 21, 6, 22, 23, 28, 29, 30, 31, 32, 33, 34, 35, 36, 37, 38, 39, 40, 41, 42, 43, 44, 45, 46, 47, 48, 49, 50, 51, 52, 53, 54, 55, 56, 57, 58, 59, 60] rfl (by decide +kernel)
set_option maxRecDepth 20000 in
theorem gX8_meet_X8_keep : GoodIn wsX8_meet (wsV RX8 30 RX8 yX8_keep wsX8_keep) := goodIn_app (goodIn_of _ (by decide +kernel)) ggX8_meet_X8_keep
set_option maxRecDepth 20000 in
theorem ggX8_meet_X8_meetsAt : GoodIn wsX8_meet wsX8_meetsAt := goodIn_r _ [27, 2, 28, 29, 30, 31, 32, 33, 34, 35, 36, 37, 38, 39, 40, 41, 42, 43, 44, 45, 46, 47, 48, 49, 50, 51, 52, 53, 54, 55, 56, 57, 58, 59, 60] rfl (by decide +kernel)
set_option maxRecDepth 20000 in
theorem gX8_meet_X8_meetsAt : GoodIn wsX8_meet (wsV RX8 39 RX8 yX8_meetsAt wsX8_meetsAt) := goodIn_app (goodIn_of _ (by decide +kernel)) ggX8_meet_X8_meetsAt
theorem dX8_meet_0 : decode cX8_meet 0 = .ok (.aload_n 0, 1) := by decide +kernel
theorem dX8_meet_1 : decode cX8_meet 1 = .ok (.iload_n 1, 1) := by decide +kernel
theorem dX8_meet_2 : decode cX8_meet 2 = .ok (.i2l, 1) := by decide +kernel
theorem dX8_meet_3 : decode cX8_meet 3 = .ok (.invokevirtual 33, 3) := by decide +kernel
theorem dX8_meet_6 : decode cX8_meet 6 = .ok (.ifCond .eq 61, 3) := by decide +kernel
theorem dX8_meet_9 : decode cX8_meet 9 = .ok (.aload_n 0, 1) := by decide +kernel
theorem dX8_meet_10 : decode cX8_meet 10 = .ok (.iload_n 2, 1) := by decide +kernel
theorem dX8_meet_11 : decode cX8_meet 11 = .ok (.i2l, 1) := by decide +kernel
theorem dX8_meet_12 : decode cX8_meet 12 = .ok (.invokevirtual 33, 3) := by decide +kernel
theorem dX8_meet_15 : decode cX8_meet 15 = .ok (.ifCond .eq 52, 3) := by decide +kernel
theorem dX8_meet_18 : decode cX8_meet 18 = .ok (.iload_n 1, 1) := by decide +kernel
theorem dX8_meet_19 : decode cX8_meet 19 = .ok (.iload_n 2, 1) := by decide +kernel
theorem dX8_meet_20 : decode cX8_meet 20 = .ok (.if_icmp .eq 47, 3) := by decide +kernel
theorem dX8_meet_23 : decode cX8_meet 23 = .ok (.iload_n 3, 1) := by decide +kernel
theorem dX8_meet_24 : decode cX8_meet 24 = .ok (.ifCond .lt 43, 3) := by decide +kernel
theorem dX8_meet_27 : decode cX8_meet 27 = .ok (.iload 4, 2) := by decide +kernel
theorem dX8_meet_29 : decode cX8_meet 29 = .ok (.ifCond .lt 38, 3) := by decide +kernel
theorem dX8_meet_32 : decode cX8_meet 32 = .ok (.iload_n 3, 1) := by decide +kernel
theorem dX8_meet_33 : decode cX8_meet 33 = .ok (.ifCond .ne 7, 3) := by decide +kernel
theorem dX8_meet_36 : decode cX8_meet 36 = .ok (.iconst 1, 1) := by decide +kernel
theorem dX8_meet_37 : decode cX8_meet 37 = .ok (.goto 4, 3) := by decide +kernel
theorem dX8_meet_40 : decode cX8_meet 40 = .ok (.iconst 0, 1) := by decide +kernel
theorem dX8_meet_41 : decode cX8_meet 41 = .ok (.iload 4, 2) := by decide +kernel
theorem dX8_meet_43 : decode cX8_meet 43 = .ok (.ifCond .ne 7, 3) := by decide +kernel
theorem dX8_meet_46 : decode cX8_meet 46 = .ok (.iconst 1, 1) := by decide +kernel
theorem dX8_meet_47 : decode cX8_meet 47 = .ok (.goto 4, 3) := by decide +kernel
theorem dX8_meet_50 : decode cX8_meet 50 = .ok (.iconst 0, 1) := by decide +kernel
theorem dX8_meet_51 : decode cX8_meet 51 = .ok (.if_icmp .ne 16, 3) := by decide +kernel
theorem dX8_meet_54 : decode cX8_meet 54 = .ok (.iload_n 3, 1) := by decide +kernel
theorem dX8_meet_55 : decode cX8_meet 55 = .ok (.i2l, 1) := by decide +kernel
theorem dX8_meet_56 : decode cX8_meet 56 = .ok (.iload 4, 2) := by decide +kernel
theorem dX8_meet_58 : decode cX8_meet 58 = .ok (.i2l, 1) := by decide +kernel
theorem dX8_meet_59 : decode cX8_meet 59 = .ok (.lmul, 1) := by decide +kernel
theorem dX8_meet_60 : decode cX8_meet 60 = .ok (.ldc2_w 37, 3) := by decide +kernel
theorem dX8_meet_63 : decode cX8_meet 63 = .ok (.lcmp, 1) := by decide +kernel
theorem dX8_meet_64 : decode cX8_meet 64 = .ok (.ifCond .le 5, 3) := by decide +kernel
theorem dX8_meet_67 : decode cX8_meet 67 = .ok (.iconst (-1), 1) := by decide +kernel
theorem dX8_meet_68 : decode cX8_meet 68 = .ok (.ireturn, 1) := by decide +kernel
theorem dX8_meet_69 : decode cX8_meet 69 = .ok (.aload_n 0, 1) := by decide +kernel
theorem dX8_meet_70 : decode cX8_meet 70 = .ok (.invokevirtual 30, 3) := by decide +kernel
theorem dX8_meet_73 : decode cX8_meet 73 = .ok (.aload_n 0, 1) := by decide +kernel
theorem dX8_meet_74 : decode cX8_meet 74 = .ok (.getfield 17, 3) := by decide +kernel
theorem dX8_meet_77 : decode cX8_meet 77 = .ok (.bipush 6, 2) := by decide +kernel
theorem dX8_meet_79 : decode cX8_meet 79 = .ok (.iload_n 1, 1) := by decide +kernel
theorem dX8_meet_80 : decode cX8_meet 80 = .ok (.imul, 1) := by decide +kernel
theorem dX8_meet_81 : decode cX8_meet 81 = .ok (.iload_n 2, 1) := by decide +kernel
theorem dX8_meet_82 : decode cX8_meet 82 = .ok (.iadd, 1) := by decide +kernel
theorem dX8_meet_83 : decode cX8_meet 83 = .ok (.iload_n 3, 1) := by decide +kernel
theorem dX8_meet_84 : decode cX8_meet 84 = .ok (.iastore, 1) := by decide +kernel
theorem dX8_meet_85 : decode cX8_meet 85 = .ok (.aload_n 0, 1) := by decide +kernel
theorem dX8_meet_86 : decode cX8_meet 86 = .ok (.getfield 17, 3) := by decide +kernel
theorem dX8_meet_89 : decode cX8_meet 89 = .ok (.bipush 6, 2) := by decide +kernel
theorem dX8_meet_91 : decode cX8_meet 91 = .ok (.iload_n 2, 1) := by decide +kernel
theorem dX8_meet_92 : decode cX8_meet 92 = .ok (.imul, 1) := by decide +kernel
theorem dX8_meet_93 : decode cX8_meet 93 = .ok (.iload_n 1, 1) := by decide +kernel
theorem dX8_meet_94 : decode cX8_meet 94 = .ok (.iadd, 1) := by decide +kernel
theorem dX8_meet_95 : decode cX8_meet 95 = .ok (.iload 4, 2) := by decide +kernel
theorem dX8_meet_97 : decode cX8_meet 97 = .ok (.iastore, 1) := by decide +kernel
theorem dX8_meet_98 : decode cX8_meet 98 = .ok (.aload_n 0, 1) := by decide +kernel
theorem dX8_meet_99 : decode cX8_meet 99 = .ok (.iload_n 1, 1) := by decide +kernel
theorem dX8_meet_100 : decode cX8_meet 100 = .ok (.iload_n 2, 1) := by decide +kernel
theorem dX8_meet_101 : decode cX8_meet 101 = .ok (.invokevirtual 39, 3) := by decide +kernel
theorem dX8_meet_104 : decode cX8_meet 104 = .ok (.ireturn, 1) := by decide +kernel
theorem dX8_meetsAt_0 : decode cX8_meetsAt 0 = .ok (.aload_n 0, 1) := by decide +kernel
theorem dX8_meetsAt_1 : decode cX8_meetsAt 1 = .ok (.getfield 17, 3) := by decide +kernel
theorem dX8_meetsAt_4 : decode cX8_meetsAt 4 = .ok (.bipush 6, 2) := by decide +kernel
theorem dX8_meetsAt_6 : decode cX8_meetsAt 6 = .ok (.iload_n 1, 1) := by decide +kernel
theorem dX8_meetsAt_7 : decode cX8_meetsAt 7 = .ok (.imul, 1) := by decide +kernel
theorem dX8_meetsAt_8 : decode cX8_meetsAt 8 = .ok (.iload_n 2, 1) := by decide +kernel
theorem dX8_meetsAt_9 : decode cX8_meetsAt 9 = .ok (.iadd, 1) := by decide +kernel
theorem dX8_meetsAt_10 : decode cX8_meetsAt 10 = .ok (.iaload, 1) := by decide +kernel
theorem dX8_meetsAt_11 : decode cX8_meetsAt 11 = .ok (.aload_n 0, 1) := by decide +kernel
theorem dX8_meetsAt_12 : decode cX8_meetsAt 12 = .ok (.getfield 17, 3) := by decide +kernel
theorem dX8_meetsAt_15 : decode cX8_meetsAt 15 = .ok (.bipush 6, 2) := by decide +kernel
theorem dX8_meetsAt_17 : decode cX8_meetsAt 17 = .ok (.iload_n 2, 1) := by decide +kernel
theorem dX8_meetsAt_18 : decode cX8_meetsAt 18 = .ok (.imul, 1) := by decide +kernel
theorem dX8_meetsAt_19 : decode cX8_meetsAt 19 = .ok (.iload_n 1, 1) := by decide +kernel
theorem dX8_meetsAt_20 : decode cX8_meetsAt 20 = .ok (.iadd, 1) := by decide +kernel
theorem dX8_meetsAt_21 : decode cX8_meetsAt 21 = .ok (.iaload, 1) := by decide +kernel
theorem dX8_meetsAt_22 : decode cX8_meetsAt 22 = .ok (.imul, 1) := by decide +kernel
theorem dX8_meetsAt_23 : decode cX8_meetsAt 23 = .ok (.istore_n 3, 1) := by decide +kernel
theorem dX8_meetsAt_24 : decode cX8_meetsAt 24 = .ok (.iload_n 1, 1) := by decide +kernel
theorem dX8_meetsAt_25 : decode cX8_meetsAt 25 = .ok (.iload_n 2, 1) := by decide +kernel
theorem dX8_meetsAt_26 : decode cX8_meetsAt 26 = .ok (.if_icmp .ne 7, 3) := by decide +kernel
theorem dX8_meetsAt_29 : decode cX8_meetsAt 29 = .ok (.iconst 1, 1) := by decide +kernel
theorem dX8_meetsAt_30 : decode cX8_meetsAt 30 = .ok (.goto 40, 3) := by decide +kernel
theorem dX8_meetsAt_33 : decode cX8_meetsAt 33 = .ok (.iload_n 3, 1) := by decide +kernel
theorem dX8_meetsAt_34 : decode cX8_meetsAt 34 = .ok (.ifCond .ne 7, 3) := by decide +kernel
theorem dX8_meetsAt_37 : decode cX8_meetsAt 37 = .ok (.iconst 2, 1) := by decide +kernel
theorem dX8_meetsAt_38 : decode cX8_meetsAt 38 = .ok (.goto 32, 3) := by decide +kernel
theorem dX8_meetsAt_41 : decode cX8_meetsAt 41 = .ok (.iload_n 3, 1) := by decide +kernel
theorem dX8_meetsAt_42 : decode cX8_meetsAt 42 = .ok (.iconst 1, 1) := by decide +kernel
theorem dX8_meetsAt_43 : decode cX8_meetsAt 43 = .ok (.if_icmp .ne 7, 3) := by decide +kernel
theorem dX8_meetsAt_46 : decode cX8_meetsAt 46 = .ok (.iconst 3, 1) := by decide +kernel
theorem dX8_meetsAt_47 : decode cX8_meetsAt 47 = .ok (.goto 23, 3) := by decide +kernel
theorem dX8_meetsAt_50 : decode cX8_meetsAt 50 = .ok (.iload_n 3, 1) := by decide +kernel
theorem dX8_meetsAt_51 : decode cX8_meetsAt 51 = .ok (.iconst 2, 1) := by decide +kernel
theorem dX8_meetsAt_52 : decode cX8_meetsAt 52 = .ok (.if_icmp .ne 7, 3) := by decide +kernel
theorem dX8_meetsAt_55 : decode cX8_meetsAt 55 = .ok (.iconst 4, 1) := by decide +kernel
theorem dX8_meetsAt_56 : decode cX8_meetsAt 56 = .ok (.goto 14, 3) := by decide +kernel
theorem dX8_meetsAt_59 : decode cX8_meetsAt 59 = .ok (.iload_n 3, 1) := by decide +kernel
theorem dX8_meetsAt_60 : decode cX8_meetsAt 60 = .ok (.iconst 3, 1) := by decide +kernel
theorem dX8_meetsAt_61 : decode cX8_meetsAt 61 = .ok (.if_icmp .ne 8, 3) := by decide +kernel
theorem dX8_meetsAt_64 : decode cX8_meetsAt 64 = .ok (.bipush 6, 2) := by decide +kernel
theorem dX8_meetsAt_66 : decode cX8_meetsAt 66 = .ok (.goto 4, 3) := by decide +kernel
theorem dX8_meetsAt_69 : decode cX8_meetsAt 69 = .ok (.iconst 0, 1) := by decide +kernel
theorem dX8_meetsAt_70 : decode cX8_meetsAt 70 = .ok (.ireturn, 1) := by decide +kernel
set_option maxRecDepth 20000 in
theorem ggX8_less_X8_keep : GoodIn wsX8_less wsX8_keep := goodIn_r _ [6, 7, 8, 1, 9, 10, 11, 12, 13, 5, 14, 15, 16, 17, 18, 19, 20, 21, 22, 23, 24, 25, 26, 27, 28, 29, 30, 31, 32, 33, 34, 35, 36, 37, 38, 39, 40, 41, 42, 43, 44, 45, 46, 47, 48] rfl (by decide +kernel)
set_option maxRecDepth 20000 in
theorem gX8_less_X8_keep : GoodIn wsX8_less (wsV RX8 30 RX8 yX8_keep wsX8_keep) := goodIn_app (goodIn_of _ (by decide +kernel)) ggX8_less_X8_keep
theorem dX8_less_0 : decode cX8_less 0 = .ok (.aload_n 0, 1) := by decide +kernel
theorem dX8_less_1 : decode cX8_less 1 = .ok (.getfield 11, 3) := by decide +kernel
theorem dX8_less_4 : decode cX8_less 4 = .ok (.ifCond .ne 6, 3) := by decide +kernel
theorem dX8_less_7 : decode cX8_less 7 = .ok (.bipush (-2), 2) := by decide +kernel
theorem dX8_less_9 : decode cX8_less 9 = .ok (.ireturn, 1) := by decide +kernel
theorem dX8_less_10 : decode cX8_less 10 = .ok (.aload_n 0, 1) := by decide +kernel
theorem dX8_less_11 : decode cX8_less 11 = .ok (.invokevirtual 30, 3) := by decide +kernel
theorem dX8_less_14 : decode cX8_less 14 = .ok (.aload_n 0, 1) := by decide +kernel
theorem dX8_less_15 : decode cX8_less 15 = .ok (.dup, 1) := by decide +kernel
theorem dX8_less_16 : decode cX8_less 16 = .ok (.getfield 11, 3) := by decide +kernel
theorem dX8_less_19 : decode cX8_less 19 = .ok (.iconst 1, 1) := by decide +kernel
theorem dX8_less_20 : decode cX8_less 20 = .ok (.isub, 1) := by decide +kernel
theorem dX8_less_21 : decode cX8_less 21 = .ok (.putfield 11, 3) := by decide +kernel
theorem dX8_less_24 : decode cX8_less 24 = .ok (.aload_n 0, 1) := by decide +kernel
theorem dX8_less_25 : decode cX8_less 25 = .ok (.getfield 11, 3) := by decide +kernel
theorem dX8_less_28 : decode cX8_less 28 = .ok (.ireturn, 1) := by decide +kernel
set_option maxRecDepth 20000 in
theorem ggX8_kind_X8_isMirror : GoodIn wsX8_kind wsX8_isMirror := goodIn_r _ [7, 8, 9, 10, 6, 11, 12, 13, 14, 15, 16, 17, 18, 19, 20, 21, 22, 23, 24, 25, 26, 27, 28, 29, 30, 31, 32, 33, 34, 35, 36, 37, 38, 39, 40, 41, 42, 43, 44] rfl (by decide +kernel)
set_option maxRecDepth 20000 in
theorem gX8_kind_X8_isMirror : GoodIn wsX8_kind (wsV RX8 33 RX8 yX8_isMirror wsX8_isMirror) := goodIn_app (goodIn_of _ (by decide +kernel)) ggX8_kind_X8_isMirror
set_option maxRecDepth 20000 in
theorem ggX8_kind_X8_in : GoodIn wsX8_kind wsX8_in := goodIn_r _ [11] rfl (by decide +kernel)
set_option maxRecDepth 20000 in
theorem gX8_kind_X8_in : GoodIn wsX8_kind (va_wsS RX8 24 yX8_in wsX8_in) := goodIn_app (goodIn_of _ (by decide +kernel)) ggX8_kind_X8_in
theorem dX8_kind_0 : decode cX8_kind 0 = .ok (.aload_n 0, 1) := by decide +kernel
theorem dX8_kind_1 : decode cX8_kind 1 = .ok (.iload_n 1, 1) := by decide +kernel
theorem dX8_kind_2 : decode cX8_kind 2 = .ok (.i2l, 1) := by decide +kernel
theorem dX8_kind_3 : decode cX8_kind 3 = .ok (.invokevirtual 33, 3) := by decide +kernel
theorem dX8_kind_6 : decode cX8_kind 6 = .ok (.ifCond .eq 15, 3) := by decide +kernel
theorem dX8_kind_9 : decode cX8_kind 9 = .ok (.iload_n 2, 1) := by decide +kernel
theorem dX8_kind_10 : decode cX8_kind 10 = .ok (.i2l, 1) := by decide +kernel
theorem dX8_kind_11 : decode cX8_kind 11 = .ok (.lconst 0, 1) := by decide +kernel
theorem dX8_kind_12 : decode cX8_kind 12 = .ok (.ldc2_w 28, 3) := by decide +kernel
theorem dX8_kind_15 : decode cX8_kind 15 = .ok (.invokestatic 24, 3) := by decide +kernel
theorem dX8_kind_18 : decode cX8_kind 18 = .ok (.ifCond .ne 5, 3) := by decide +kernel
theorem dX8_kind_21 : decode cX8_kind 21 = .ok (.iconst (-1), 1) := by decide +kernel
theorem dX8_kind_22 : decode cX8_kind 22 = .ok (.ireturn, 1) := by decide +kernel
theorem dX8_kind_23 : decode cX8_kind 23 = .ok (.aload_n 0, 1) := by decide +kernel
theorem dX8_kind_24 : decode cX8_kind 24 = .ok (.getfield 14, 3) := by decide +kernel
theorem dX8_kind_27 : decode cX8_kind 27 = .ok (.iload_n 1, 1) := by decide +kernel
theorem dX8_kind_28 : decode cX8_kind 28 = .ok (.iaload, 1) := by decide +kernel
theorem dX8_kind_29 : decode cX8_kind 29 = .ok (.istore_n 3, 1) := by decide +kernel
theorem dX8_kind_30 : decode cX8_kind 30 = .ok (.aload_n 0, 1) := by decide +kernel
theorem dX8_kind_31 : decode cX8_kind 31 = .ok (.getfield 14, 3) := by decide +kernel
theorem dX8_kind_34 : decode cX8_kind 34 = .ok (.iload_n 1, 1) := by decide +kernel
theorem dX8_kind_35 : decode cX8_kind 35 = .ok (.iload_n 2, 1) := by decide +kernel
theorem dX8_kind_36 : decode cX8_kind 36 = .ok (.iastore, 1) := by decide +kernel
theorem dX8_kind_37 : decode cX8_kind 37 = .ok (.iload_n 3, 1) := by decide +kernel
theorem dX8_kind_38 : decode cX8_kind 38 = .ok (.ireturn, 1) := by decide +kernel
set_option maxRecDepth 20000 in
theorem ggX8_undo_X8_emptyWords : GoodIn wsX8_undo wsX8_emptyWords := goodIn_r _ [10, 11, 12, 13, 14, 15, 16, 17, 18, 19, 20, 21, 22, 23, 24, 25, 26, 27, 28, 29, 30, 31, 32, 33, 34, 35, 36, 37, 38, 39, 40, 41, 42, 43, 44] rfl (by decide +kernel)
set_option maxRecDepth 20000 in
theorem gX8_undo_X8_emptyWords : GoodIn wsX8_undo (wsV RX8 20 RX8 yX8_emptyWords wsX8_emptyWords) := goodIn_app (goodIn_of _ (by decide +kernel)) ggX8_undo_X8_emptyWords
theorem dX8_undo_0 : decode cX8_undo 0 = .ok (.aload_n 0, 1) := by decide +kernel
theorem dX8_undo_1 : decode cX8_undo 1 = .ok (.getfield 1, 3) := by decide +kernel
theorem dX8_undo_4 : decode cX8_undo 4 = .ok (.ifCond .ne 6, 3) := by decide +kernel
theorem dX8_undo_7 : decode cX8_undo 7 = .ok (.bipush (-2), 2) := by decide +kernel
theorem dX8_undo_9 : decode cX8_undo 9 = .ok (.ireturn, 1) := by decide +kernel
theorem dX8_undo_10 : decode cX8_undo 10 = .ok (.aload_n 0, 1) := by decide +kernel
theorem dX8_undo_11 : decode cX8_undo 11 = .ok (.dup, 1) := by decide +kernel
theorem dX8_undo_12 : decode cX8_undo 12 = .ok (.getfield 1, 3) := by decide +kernel
theorem dX8_undo_15 : decode cX8_undo 15 = .ok (.iconst 1, 1) := by decide +kernel
theorem dX8_undo_16 : decode cX8_undo 16 = .ok (.isub, 1) := by decide +kernel
theorem dX8_undo_17 : decode cX8_undo 17 = .ok (.putfield 1, 3) := by decide +kernel
theorem dX8_undo_20 : decode cX8_undo 20 = .ok (.bipush 43, 2) := by decide +kernel
theorem dX8_undo_22 : decode cX8_undo 22 = .ok (.aload_n 0, 1) := by decide +kernel
theorem dX8_undo_23 : decode cX8_undo 23 = .ok (.getfield 1, 3) := by decide +kernel
theorem dX8_undo_26 : decode cX8_undo 26 = .ok (.imul, 1) := by decide +kernel
theorem dX8_undo_27 : decode cX8_undo 27 = .ok (.istore_n 1, 1) := by decide +kernel
theorem dX8_undo_28 : decode cX8_undo 28 = .ok (.aload_n 0, 1) := by decide +kernel
theorem dX8_undo_29 : decode cX8_undo 29 = .ok (.aload_n 0, 1) := by decide +kernel
theorem dX8_undo_30 : decode cX8_undo 30 = .ok (.getfield 7, 3) := by decide +kernel
theorem dX8_undo_33 : decode cX8_undo 33 = .ok (.iload_n 1, 1) := by decide +kernel
theorem dX8_undo_34 : decode cX8_undo 34 = .ok (.iaload, 1) := by decide +kernel
theorem dX8_undo_35 : decode cX8_undo 35 = .ok (.putfield 11, 3) := by decide +kernel
theorem dX8_undo_38 : decode cX8_undo 38 = .ok (.iconst 0, 1) := by decide +kernel
theorem dX8_undo_39 : decode cX8_undo 39 = .ok (.istore_n 2, 1) := by decide +kernel
theorem dX8_undo_40 : decode cX8_undo 40 = .ok (.iload_n 2, 1) := by decide +kernel
theorem dX8_undo_41 : decode cX8_undo 41 = .ok (.bipush 6, 2) := by decide +kernel
theorem dX8_undo_43 : decode cX8_undo 43 = .ok (.if_icmp .ge 25, 3) := by decide +kernel
theorem dX8_undo_46 : decode cX8_undo 46 = .ok (.aload_n 0, 1) := by decide +kernel
theorem dX8_undo_47 : decode cX8_undo 47 = .ok (.getfield 14, 3) := by decide +kernel
theorem dX8_undo_50 : decode cX8_undo 50 = .ok (.iload_n 2, 1) := by decide +kernel
theorem dX8_undo_51 : decode cX8_undo 51 = .ok (.aload_n 0, 1) := by decide +kernel
theorem dX8_undo_52 : decode cX8_undo 52 = .ok (.getfield 7, 3) := by decide +kernel
theorem dX8_undo_55 : decode cX8_undo 55 = .ok (.iload_n 1, 1) := by decide +kernel
theorem dX8_undo_56 : decode cX8_undo 56 = .ok (.iconst 1, 1) := by decide +kernel
theorem dX8_undo_57 : decode cX8_undo 57 = .ok (.iadd, 1) := by decide +kernel
theorem dX8_undo_58 : decode cX8_undo 58 = .ok (.iload_n 2, 1) := by decide +kernel
theorem dX8_undo_59 : decode cX8_undo 59 = .ok (.iadd, 1) := by decide +kernel
theorem dX8_undo_60 : decode cX8_undo 60 = .ok (.iaload, 1) := by decide +kernel
theorem dX8_undo_61 : decode cX8_undo 61 = .ok (.iastore, 1) := by decide +kernel
theorem dX8_undo_62 : decode cX8_undo 62 = .ok (.iinc 2 1, 3) := by decide +kernel
theorem dX8_undo_65 : decode cX8_undo 65 = .ok (.goto (-25), 3) := by decide +kernel
theorem dX8_undo_68 : decode cX8_undo 68 = .ok (.iconst 0, 1) := by decide +kernel
theorem dX8_undo_69 : decode cX8_undo 69 = .ok (.istore_n 2, 1) := by decide +kernel
theorem dX8_undo_70 : decode cX8_undo 70 = .ok (.iload_n 2, 1) := by decide +kernel
theorem dX8_undo_71 : decode cX8_undo 71 = .ok (.bipush 36, 2) := by decide +kernel
theorem dX8_undo_73 : decode cX8_undo 73 = .ok (.if_icmp .ge 26, 3) := by decide +kernel
theorem dX8_undo_76 : decode cX8_undo 76 = .ok (.aload_n 0, 1) := by decide +kernel
theorem dX8_undo_77 : decode cX8_undo 77 = .ok (.getfield 17, 3) := by decide +kernel
theorem dX8_undo_80 : decode cX8_undo 80 = .ok (.iload_n 2, 1) := by decide +kernel
theorem dX8_undo_81 : decode cX8_undo 81 = .ok (.aload_n 0, 1) := by decide +kernel
theorem dX8_undo_82 : decode cX8_undo 82 = .ok (.getfield 7, 3) := by decide +kernel
theorem dX8_undo_85 : decode cX8_undo 85 = .ok (.iload_n 1, 1) := by decide +kernel
theorem dX8_undo_86 : decode cX8_undo 86 = .ok (.bipush 7, 2) := by decide +kernel
theorem dX8_undo_88 : decode cX8_undo 88 = .ok (.iadd, 1) := by decide +kernel
theorem dX8_undo_89 : decode cX8_undo 89 = .ok (.iload_n 2, 1) := by decide +kernel
theorem dX8_undo_90 : decode cX8_undo 90 = .ok (.iadd, 1) := by decide +kernel
theorem dX8_undo_91 : decode cX8_undo 91 = .ok (.iaload, 1) := by decide +kernel
theorem dX8_undo_92 : decode cX8_undo 92 = .ok (.iastore, 1) := by decide +kernel
theorem dX8_undo_93 : decode cX8_undo 93 = .ok (.iinc 2 1, 3) := by decide +kernel
theorem dX8_undo_96 : decode cX8_undo 96 = .ok (.goto (-26), 3) := by decide +kernel
theorem dX8_undo_99 : decode cX8_undo 99 = .ok (.aload_n 0, 1) := by decide +kernel
theorem dX8_undo_100 : decode cX8_undo 100 = .ok (.invokevirtual 20, 3) := by decide +kernel
theorem dX8_undo_103 : decode cX8_undo 103 = .ok (.aload_n 0, 1) := by decide +kernel
theorem dX8_undo_104 : decode cX8_undo 104 = .ok (.getfield 1, 3) := by decide +kernel
theorem dX8_undo_107 : decode cX8_undo 107 = .ok (.ireturn, 1) := by decide +kernel
set_option maxRecDepth 20000 in
theorem ggX8_told_X8_in : GoodIn wsX8_told wsX8_in := goodIn_r _ [8] rfl (by decide +kernel)
set_option maxRecDepth 20000 in
theorem gX8_told_X8_in : GoodIn wsX8_told (va_wsS RX8 24 yX8_in wsX8_in) := goodIn_app (goodIn_of _ (by decide +kernel)) ggX8_told_X8_in
set_option maxRecDepth 20000 in
theorem ggX8_told_X8_isMirror : GoodIn wsX8_told wsX8_isMirror := goodIn_r _ [12, 1, 5, 6, 7, 8, 17, 18, 19, 20, 21, 22, 23, 24, 25, 26, 27, 28, 29, 30, 31, 32, 33, 34, 35, 36, 37, 38, 39, 40, 41, 42, 43, 44, 45, 46, 47, 48, 49] rfl (by decide +kernel)
set_option maxRecDepth 20000 in
theorem gX8_told_X8_isMirror : GoodIn wsX8_told (wsV RX8 33 RX8 yX8_isMirror wsX8_isMirror) := goodIn_app (goodIn_of _ (by decide +kernel)) ggX8_told_X8_isMirror
set_option maxRecDepth 20000 in
theorem ggX8_told_X8_meetsAt : GoodIn wsX8_told wsX8_meetsAt := goodIn_r _ [16, 4, 17, 18, 19, 20, 21, 22, 23, 24, 25, 26, 27, 28, 29, 30, 31, 32, 33, 34, 35, 36, 37, 38, 39, 40, 41, 42, 43, 44, 45, 46, 47, 48, 49] rfl (by decide +kernel)
set_option maxRecDepth 20000 in
theorem gX8_told_X8_meetsAt : GoodIn wsX8_told (wsV RX8 39 RX8 yX8_meetsAt wsX8_meetsAt) := goodIn_app (goodIn_of _ (by decide +kernel)) ggX8_told_X8_meetsAt
theorem dX8_told_0 : decode cX8_told 0 = .ok (.iload_n 1, 1) := by decide +kernel
theorem dX8_told_1 : decode cX8_told 1 = .ok (.iconst 3, 1) := by decide +kernel
theorem dX8_told_2 : decode cX8_told 2 = .ok (.if_icmp .ne 8, 3) := by decide +kernel
theorem dX8_told_5 : decode cX8_told 5 = .ok (.aload_n 0, 1) := by decide +kernel
theorem dX8_told_6 : decode cX8_told 6 = .ok (.getfield 11, 3) := by decide +kernel
theorem dX8_told_9 : decode cX8_told 9 = .ok (.ireturn, 1) := by decide +kernel
theorem dX8_told_10 : decode cX8_told 10 = .ok (.iload_n 1, 1) := by decide +kernel
theorem dX8_told_11 : decode cX8_told 11 = .ok (.i2l, 1) := by decide +kernel
theorem dX8_told_12 : decode cX8_told 12 = .ok (.lconst 0, 1) := by decide +kernel
theorem dX8_told_13 : decode cX8_told 13 = .ok (.ldc2_w 28, 3) := by decide +kernel
theorem dX8_told_16 : decode cX8_told 16 = .ok (.invokestatic 24, 3) := by decide +kernel
theorem dX8_told_19 : decode cX8_told 19 = .ok (.ifCond .eq 25, 3) := by decide +kernel
theorem dX8_told_22 : decode cX8_told 22 = .ok (.aload_n 0, 1) := by decide +kernel
theorem dX8_told_23 : decode cX8_told 23 = .ok (.iload_n 2, 1) := by decide +kernel
theorem dX8_told_24 : decode cX8_told 24 = .ok (.i2l, 1) := by decide +kernel
theorem dX8_told_25 : decode cX8_told 25 = .ok (.invokevirtual 33, 3) := by decide +kernel
theorem dX8_told_28 : decode cX8_told 28 = .ok (.ifCond .eq 16, 3) := by decide +kernel
theorem dX8_told_31 : decode cX8_told 31 = .ok (.iload_n 1, 1) := by decide +kernel
theorem dX8_told_32 : decode cX8_told 32 = .ok (.ifCond .le 14, 3) := by decide +kernel
theorem dX8_told_35 : decode cX8_told 35 = .ok (.aload_n 0, 1) := by decide +kernel
theorem dX8_told_36 : decode cX8_told 36 = .ok (.iload_n 3, 1) := by decide +kernel
theorem dX8_told_37 : decode cX8_told 37 = .ok (.i2l, 1) := by decide +kernel
theorem dX8_told_38 : decode cX8_told 38 = .ok (.invokevirtual 33, 3) := by decide +kernel
theorem dX8_told_41 : decode cX8_told 41 = .ok (.ifCond .ne 5, 3) := by decide +kernel
theorem dX8_told_44 : decode cX8_told 44 = .ok (.iconst (-1), 1) := by decide +kernel
theorem dX8_told_45 : decode cX8_told 45 = .ok (.ireturn, 1) := by decide +kernel
theorem dX8_told_46 : decode cX8_told 46 = .ok (.iload_n 1, 1) := by decide +kernel
theorem dX8_told_47 : decode cX8_told 47 = .ok (.ifCond .ne 12, 3) := by decide +kernel
theorem dX8_told_50 : decode cX8_told 50 = .ok (.aload_n 0, 1) := by decide +kernel
theorem dX8_told_51 : decode cX8_told 51 = .ok (.getfield 14, 3) := by decide +kernel
theorem dX8_told_54 : decode cX8_told 54 = .ok (.iload_n 2, 1) := by decide +kernel
theorem dX8_told_55 : decode cX8_told 55 = .ok (.iaload, 1) := by decide +kernel
theorem dX8_told_56 : decode cX8_told 56 = .ok (.goto 37, 3) := by decide +kernel
theorem dX8_told_59 : decode cX8_told 59 = .ok (.iload_n 1, 1) := by decide +kernel
theorem dX8_told_60 : decode cX8_told 60 = .ok (.iconst 1, 1) := by decide +kernel
theorem dX8_told_61 : decode cX8_told 61 = .ok (.if_icmp .ne 26, 3) := by decide +kernel
theorem dX8_told_64 : decode cX8_told 64 = .ok (.iload_n 2, 1) := by decide +kernel
theorem dX8_told_65 : decode cX8_told 65 = .ok (.iload_n 3, 1) := by decide +kernel
theorem dX8_told_66 : decode cX8_told 66 = .ok (.if_icmp .ne 7, 3) := by decide +kernel
theorem dX8_told_69 : decode cX8_told 69 = .ok (.iconst 0, 1) := by decide +kernel
theorem dX8_told_70 : decode cX8_told 70 = .ok (.goto 23, 3) := by decide +kernel
theorem dX8_told_73 : decode cX8_told 73 = .ok (.aload_n 0, 1) := by decide +kernel
theorem dX8_told_74 : decode cX8_told 74 = .ok (.getfield 17, 3) := by decide +kernel
theorem dX8_told_77 : decode cX8_told 77 = .ok (.bipush 6, 2) := by decide +kernel
theorem dX8_told_79 : decode cX8_told 79 = .ok (.iload_n 2, 1) := by decide +kernel
theorem dX8_told_80 : decode cX8_told 80 = .ok (.imul, 1) := by decide +kernel
theorem dX8_told_81 : decode cX8_told 81 = .ok (.iload_n 3, 1) := by decide +kernel
theorem dX8_told_82 : decode cX8_told 82 = .ok (.iadd, 1) := by decide +kernel
theorem dX8_told_83 : decode cX8_told 83 = .ok (.iaload, 1) := by decide +kernel
theorem dX8_told_84 : decode cX8_told 84 = .ok (.goto 9, 3) := by decide +kernel
theorem dX8_told_87 : decode cX8_told 87 = .ok (.aload_n 0, 1) := by decide +kernel
theorem dX8_told_88 : decode cX8_told 88 = .ok (.iload_n 2, 1) := by decide +kernel
theorem dX8_told_89 : decode cX8_told 89 = .ok (.iload_n 3, 1) := by decide +kernel
theorem dX8_told_90 : decode cX8_told 90 = .ok (.invokevirtual 39, 3) := by decide +kernel
theorem dX8_told_93 : decode cX8_told 93 = .ok (.ireturn, 1) := by decide +kernel
theorem dX8_emptyWords_0 : decode cX8_emptyWords 0 = .ok (.iconst 0, 1) := by decide +kernel
theorem dX8_emptyWords_1 : decode cX8_emptyWords 1 = .ok (.istore_n 1, 1) := by decide +kernel
theorem dX8_emptyWords_2 : decode cX8_emptyWords 2 = .ok (.iload_n 1, 1) := by decide +kernel
theorem dX8_emptyWords_3 : decode cX8_emptyWords 3 = .ok (.bipush 8, 2) := by decide +kernel
theorem dX8_emptyWords_5 : decode cX8_emptyWords 5 = .ok (.if_icmp .ge 16, 3) := by decide +kernel
theorem dX8_emptyWords_8 : decode cX8_emptyWords 8 = .ok (.aload_n 0, 1) := by decide +kernel
theorem dX8_emptyWords_9 : decode cX8_emptyWords 9 = .ok (.getfield 43, 3) := by decide +kernel
theorem dX8_emptyWords_12 : decode cX8_emptyWords 12 = .ok (.iload_n 1, 1) := by decide +kernel
theorem dX8_emptyWords_13 : decode cX8_emptyWords 13 = .ok (.iconst 0, 1) := by decide +kernel
theorem dX8_emptyWords_14 : decode cX8_emptyWords 14 = .ok (.iastore, 1) := by decide +kernel
theorem dX8_emptyWords_15 : decode cX8_emptyWords 15 = .ok (.iinc 1 1, 3) := by decide +kernel
theorem dX8_emptyWords_18 : decode cX8_emptyWords 18 = .ok (.goto (-16), 3) := by decide +kernel
theorem dX8_emptyWords_21 : decode cX8_emptyWords 21 = .ok (.return_, 1) := by decide +kernel
set_option maxRecDepth 20000 in
theorem ggX8_isSlot_X8_in : GoodIn wsX8_isSlot wsX8_in := goodIn_r _ [5] rfl (by decide +kernel)
set_option maxRecDepth 20000 in
theorem gX8_isSlot_X8_in : GoodIn wsX8_isSlot (va_wsS RX8 24 yX8_in wsX8_in) := goodIn_app (goodIn_of _ (by decide +kernel)) ggX8_isSlot_X8_in
theorem dX8_isSlot_0 : decode cX8_isSlot 0 = .ok (.iload_n 0, 1) := by decide +kernel
theorem dX8_isSlot_1 : decode cX8_isSlot 1 = .ok (.i2l, 1) := by decide +kernel
theorem dX8_isSlot_2 : decode cX8_isSlot 2 = .ok (.lconst 0, 1) := by decide +kernel
theorem dX8_isSlot_3 : decode cX8_isSlot 3 = .ok (.ldc2_w 46, 3) := by decide +kernel
theorem dX8_isSlot_6 : decode cX8_isSlot 6 = .ok (.invokestatic 24, 3) := by decide +kernel
theorem dX8_isSlot_9 : decode cX8_isSlot 9 = .ok (.ireturn, 1) := by decide +kernel
set_option maxRecDepth 20000 in
theorem ggX8_clear_X8_isSlot : GoodIn wsX8_clear wsX8_isSlot := goodIn_r _ [5, 6, 7, 8, 4, 9] rfl (by decide +kernel)
set_option maxRecDepth 20000 in
theorem gX8_clear_X8_isSlot : GoodIn wsX8_clear (va_wsS RX8 48 yX8_isSlot wsX8_isSlot) := goodIn_app (goodIn_of _ (by decide +kernel)) ggX8_clear_X8_isSlot
theorem dX8_clear_0 : decode cX8_clear 0 = .ok (.iload_n 1, 1) := by decide +kernel
theorem dX8_clear_1 : decode cX8_clear 1 = .ok (.invokestatic 48, 3) := by decide +kernel
theorem dX8_clear_4 : decode cX8_clear 4 = .ok (.ifCond .ne 5, 3) := by decide +kernel
theorem dX8_clear_7 : decode cX8_clear 7 = .ok (.iconst (-1), 1) := by decide +kernel
theorem dX8_clear_8 : decode cX8_clear 8 = .ok (.ireturn, 1) := by decide +kernel
theorem dX8_clear_9 : decode cX8_clear 9 = .ok (.aload_n 0, 1) := by decide +kernel
theorem dX8_clear_10 : decode cX8_clear 10 = .ok (.getfield 43, 3) := by decide +kernel
theorem dX8_clear_13 : decode cX8_clear 13 = .ok (.iload_n 1, 1) := by decide +kernel
theorem dX8_clear_14 : decode cX8_clear 14 = .ok (.iaload, 1) := by decide +kernel
theorem dX8_clear_15 : decode cX8_clear 15 = .ok (.istore_n 2, 1) := by decide +kernel
theorem dX8_clear_16 : decode cX8_clear 16 = .ok (.aload_n 0, 1) := by decide +kernel
theorem dX8_clear_17 : decode cX8_clear 17 = .ok (.getfield 43, 3) := by decide +kernel
theorem dX8_clear_20 : decode cX8_clear 20 = .ok (.iload_n 1, 1) := by decide +kernel
theorem dX8_clear_21 : decode cX8_clear 21 = .ok (.iconst 0, 1) := by decide +kernel
theorem dX8_clear_22 : decode cX8_clear 22 = .ok (.iastore, 1) := by decide +kernel
theorem dX8_clear_23 : decode cX8_clear 23 = .ok (.iload_n 2, 1) := by decide +kernel
theorem dX8_clear_24 : decode cX8_clear 24 = .ok (.ireturn, 1) := by decide +kernel
set_option maxRecDepth 20000 in
theorem ggX8_put_X8_isSlot : GoodIn wsX8_put wsX8_isSlot := goodIn_r _ [6, 7, 8, 9, 5, 10] rfl (by decide +kernel)
set_option maxRecDepth 20000 in
theorem gX8_put_X8_isSlot : GoodIn wsX8_put (va_wsS RX8 48 yX8_isSlot wsX8_isSlot) := goodIn_app (goodIn_of _ (by decide +kernel)) ggX8_put_X8_isSlot
set_option maxRecDepth 20000 in
theorem ggX8_put_X8_isMirror : GoodIn wsX8_put wsX8_isMirror := goodIn_r _ [14, 15, 8, 9, 5, 10, 16, 17, 18, 19, 20, 21, 22, 23, 24, 25, 26, 27, 28, 29, 30, 31, 32, 33, 34, 35, 36, 37, 38, 39, 40, 41, 42, 43, 44, 45, 46, 47, 48] rfl (by decide +kernel)
set_option maxRecDepth 20000 in
theorem gX8_put_X8_isMirror : GoodIn wsX8_put (wsV RX8 33 RX8 yX8_isMirror wsX8_isMirror) := goodIn_app (goodIn_of _ (by decide +kernel)) ggX8_put_X8_isMirror
theorem dX8_put_0 : decode cX8_put 0 = .ok (.iload_n 1, 1) := by decide +kernel
theorem dX8_put_1 : decode cX8_put 1 = .ok (.invokestatic 48, 3) := by decide +kernel
theorem dX8_put_4 : decode cX8_put 4 = .ok (.ifCond .eq 12, 3) := by decide +kernel
theorem dX8_put_7 : decode cX8_put 7 = .ok (.aload_n 0, 1) := by decide +kernel
theorem dX8_put_8 : decode cX8_put 8 = .ok (.iload_n 2, 1) := by decide +kernel
theorem dX8_put_9 : decode cX8_put 9 = .ok (.i2l, 1) := by decide +kernel
theorem dX8_put_10 : decode cX8_put 10 = .ok (.invokevirtual 33, 3) := by decide +kernel
theorem dX8_put_13 : decode cX8_put 13 = .ok (.ifCond .ne 5, 3) := by decide +kernel
theorem dX8_put_16 : decode cX8_put 16 = .ok (.iconst (-1), 1) := by decide +kernel
theorem dX8_put_17 : decode cX8_put 17 = .ok (.ireturn, 1) := by decide +kernel
theorem dX8_put_18 : decode cX8_put 18 = .ok (.aload_n 0, 1) := by decide +kernel
theorem dX8_put_19 : decode cX8_put 19 = .ok (.getfield 43, 3) := by decide +kernel
theorem dX8_put_22 : decode cX8_put 22 = .ok (.iload_n 1, 1) := by decide +kernel
theorem dX8_put_23 : decode cX8_put 23 = .ok (.iaload, 1) := by decide +kernel
theorem dX8_put_24 : decode cX8_put 24 = .ok (.bipush 100, 2) := by decide +kernel
theorem dX8_put_26 : decode cX8_put 26 = .ok (.if_icmp .ne 6, 3) := by decide +kernel
theorem dX8_put_29 : decode cX8_put 29 = .ok (.bipush (-3), 2) := by decide +kernel
theorem dX8_put_31 : decode cX8_put 31 = .ok (.ireturn, 1) := by decide +kernel
theorem dX8_put_32 : decode cX8_put 32 = .ok (.aload_n 0, 1) := by decide +kernel
theorem dX8_put_33 : decode cX8_put 33 = .ok (.getfield 52, 3) := by decide +kernel
theorem dX8_put_36 : decode cX8_put 36 = .ok (.bipush 100, 2) := by decide +kernel
theorem dX8_put_38 : decode cX8_put 38 = .ok (.iload_n 1, 1) := by decide +kernel
theorem dX8_put_39 : decode cX8_put 39 = .ok (.imul, 1) := by decide +kernel
theorem dX8_put_40 : decode cX8_put 40 = .ok (.aload_n 0, 1) := by decide +kernel
theorem dX8_put_41 : decode cX8_put 41 = .ok (.getfield 43, 3) := by decide +kernel
theorem dX8_put_44 : decode cX8_put 44 = .ok (.iload_n 1, 1) := by decide +kernel
theorem dX8_put_45 : decode cX8_put 45 = .ok (.iaload, 1) := by decide +kernel
theorem dX8_put_46 : decode cX8_put 46 = .ok (.iadd, 1) := by decide +kernel
theorem dX8_put_47 : decode cX8_put 47 = .ok (.iload_n 2, 1) := by decide +kernel
theorem dX8_put_48 : decode cX8_put 48 = .ok (.iastore, 1) := by decide +kernel
theorem dX8_put_49 : decode cX8_put 49 = .ok (.aload_n 0, 1) := by decide +kernel
theorem dX8_put_50 : decode cX8_put 50 = .ok (.getfield 43, 3) := by decide +kernel
theorem dX8_put_53 : decode cX8_put 53 = .ok (.iload_n 1, 1) := by decide +kernel
theorem dX8_put_54 : decode cX8_put 54 = .ok (.dup2, 1) := by decide +kernel
theorem dX8_put_55 : decode cX8_put 55 = .ok (.iaload, 1) := by decide +kernel
theorem dX8_put_56 : decode cX8_put 56 = .ok (.iconst 1, 1) := by decide +kernel
theorem dX8_put_57 : decode cX8_put 57 = .ok (.iadd, 1) := by decide +kernel
theorem dX8_put_58 : decode cX8_put 58 = .ok (.iastore, 1) := by decide +kernel
theorem dX8_put_59 : decode cX8_put 59 = .ok (.aload_n 0, 1) := by decide +kernel
theorem dX8_put_60 : decode cX8_put 60 = .ok (.getfield 43, 3) := by decide +kernel
theorem dX8_put_63 : decode cX8_put 63 = .ok (.iload_n 1, 1) := by decide +kernel
theorem dX8_put_64 : decode cX8_put 64 = .ok (.iaload, 1) := by decide +kernel
theorem dX8_put_65 : decode cX8_put 65 = .ok (.ireturn, 1) := by decide +kernel
set_option maxRecDepth 20000 in
theorem ggX8_at_X8_isSlot : GoodIn wsX8_at wsX8_isSlot := goodIn_r _ [7, 8, 9, 10, 6, 11] rfl (by decide +kernel)
set_option maxRecDepth 20000 in
theorem gX8_at_X8_isSlot : GoodIn wsX8_at (va_wsS RX8 48 yX8_isSlot wsX8_isSlot) := goodIn_app (goodIn_of _ (by decide +kernel)) ggX8_at_X8_isSlot
set_option maxRecDepth 20000 in
theorem ggX8_at_X8_in : GoodIn wsX8_at wsX8_in := goodIn_r _ [11] rfl (by decide +kernel)
set_option maxRecDepth 20000 in
theorem gX8_at_X8_in : GoodIn wsX8_at (va_wsS RX8 24 yX8_in wsX8_in) := goodIn_app (goodIn_of _ (by decide +kernel)) ggX8_at_X8_in
theorem dX8_at_0 : decode cX8_at 0 = .ok (.iload_n 1, 1) := by decide +kernel
theorem dX8_at_1 : decode cX8_at 1 = .ok (.invokestatic 48, 3) := by decide +kernel
theorem dX8_at_4 : decode cX8_at 4 = .ok (.ifCond .eq 23, 3) := by decide +kernel
theorem dX8_at_7 : decode cX8_at 7 = .ok (.iload_n 2, 1) := by decide +kernel
theorem dX8_at_8 : decode cX8_at 8 = .ok (.i2l, 1) := by decide +kernel
theorem dX8_at_9 : decode cX8_at 9 = .ok (.ldc2_w 55, 3) := by decide +kernel
theorem dX8_at_12 : decode cX8_at 12 = .ok (.aload_n 0, 1) := by decide +kernel
theorem dX8_at_13 : decode cX8_at 13 = .ok (.getfield 43, 3) := by decide +kernel
theorem dX8_at_16 : decode cX8_at 16 = .ok (.iload_n 1, 1) := by decide +kernel
theorem dX8_at_17 : decode cX8_at 17 = .ok (.iaload, 1) := by decide +kernel
theorem dX8_at_18 : decode cX8_at 18 = .ok (.iconst 1, 1) := by decide +kernel
theorem dX8_at_19 : decode cX8_at 19 = .ok (.isub, 1) := by decide +kernel
theorem dX8_at_20 : decode cX8_at 20 = .ok (.i2l, 1) := by decide +kernel
theorem dX8_at_21 : decode cX8_at 21 = .ok (.invokestatic 24, 3) := by decide +kernel
theorem dX8_at_24 : decode cX8_at 24 = .ok (.ifCond .ne 5, 3) := by decide +kernel
theorem dX8_at_27 : decode cX8_at 27 = .ok (.iconst (-1), 1) := by decide +kernel
theorem dX8_at_28 : decode cX8_at 28 = .ok (.ireturn, 1) := by decide +kernel
theorem dX8_at_29 : decode cX8_at 29 = .ok (.iload_n 2, 1) := by decide +kernel
theorem dX8_at_30 : decode cX8_at 30 = .ok (.iconst (-1), 1) := by decide +kernel
theorem dX8_at_31 : decode cX8_at 31 = .ok (.if_icmp .ne 12, 3) := by decide +kernel
theorem dX8_at_34 : decode cX8_at 34 = .ok (.aload_n 0, 1) := by decide +kernel
theorem dX8_at_35 : decode cX8_at 35 = .ok (.getfield 43, 3) := by decide +kernel
theorem dX8_at_38 : decode cX8_at 38 = .ok (.iload_n 1, 1) := by decide +kernel
theorem dX8_at_39 : decode cX8_at 39 = .ok (.iaload, 1) := by decide +kernel
theorem dX8_at_40 : decode cX8_at 40 = .ok (.goto 14, 3) := by decide +kernel
theorem dX8_at_43 : decode cX8_at 43 = .ok (.aload_n 0, 1) := by decide +kernel
theorem dX8_at_44 : decode cX8_at 44 = .ok (.getfield 52, 3) := by decide +kernel
theorem dX8_at_47 : decode cX8_at 47 = .ok (.bipush 100, 2) := by decide +kernel
theorem dX8_at_49 : decode cX8_at 49 = .ok (.iload_n 1, 1) := by decide +kernel
theorem dX8_at_50 : decode cX8_at 50 = .ok (.imul, 1) := by decide +kernel
theorem dX8_at_51 : decode cX8_at 51 = .ok (.iload_n 2, 1) := by decide +kernel
theorem dX8_at_52 : decode cX8_at 52 = .ok (.iadd, 1) := by decide +kernel
theorem dX8_at_53 : decode cX8_at 53 = .ok (.iaload, 1) := by decide +kernel
theorem dX8_at_54 : decode cX8_at 54 = .ok (.ireturn, 1) := by decide +kernel
theorem dX8_load_0 : decode cX8_load 0 = .ok (.aload_n 0, 1) := by decide +kernel
theorem dX8_load_1 : decode cX8_load 1 = .ok (.aload_n 0, 1) := by decide +kernel
theorem dX8_load_2 : decode cX8_load 2 = .ok (.getfield 43, 3) := by decide +kernel
theorem dX8_load_5 : decode cX8_load 5 = .ok (.iload_n 1, 1) := by decide +kernel
theorem dX8_load_6 : decode cX8_load 6 = .ok (.iaload, 1) := by decide +kernel
theorem dX8_load_7 : decode cX8_load 7 = .ok (.putfield 57, 3) := by decide +kernel
theorem dX8_load_10 : decode cX8_load 10 = .ok (.iconst 0, 1) := by decide +kernel
theorem dX8_load_11 : decode cX8_load 11 = .ok (.istore_n 2, 1) := by decide +kernel
theorem dX8_load_12 : decode cX8_load 12 = .ok (.iload_n 2, 1) := by decide +kernel
theorem dX8_load_13 : decode cX8_load 13 = .ok (.aload_n 0, 1) := by decide +kernel
theorem dX8_load_14 : decode cX8_load 14 = .ok (.getfield 57, 3) := by decide +kernel
theorem dX8_load_17 : decode cX8_load 17 = .ok (.if_icmp .ge 26, 3) := by decide +kernel
theorem dX8_load_20 : decode cX8_load 20 = .ok (.aload_n 0, 1) := by decide +kernel
theorem dX8_load_21 : decode cX8_load 21 = .ok (.getfield 60, 3) := by decide +kernel
theorem dX8_load_24 : decode cX8_load 24 = .ok (.iload_n 2, 1) := by decide +kernel
theorem dX8_load_25 : decode cX8_load 25 = .ok (.aload_n 0, 1) := by decide +kernel
theorem dX8_load_26 : decode cX8_load 26 = .ok (.getfield 52, 3) := by decide +kernel
theorem dX8_load_29 : decode cX8_load 29 = .ok (.bipush 100, 2) := by decide +kernel
theorem dX8_load_31 : decode cX8_load 31 = .ok (.iload_n 1, 1) := by decide +kernel
theorem dX8_load_32 : decode cX8_load 32 = .ok (.imul, 1) := by decide +kernel
theorem dX8_load_33 : decode cX8_load 33 = .ok (.iload_n 2, 1) := by decide +kernel
theorem dX8_load_34 : decode cX8_load 34 = .ok (.iadd, 1) := by decide +kernel
theorem dX8_load_35 : decode cX8_load 35 = .ok (.iaload, 1) := by decide +kernel
theorem dX8_load_36 : decode cX8_load 36 = .ok (.iastore, 1) := by decide +kernel
theorem dX8_load_37 : decode cX8_load 37 = .ok (.iinc 2 1, 3) := by decide +kernel
theorem dX8_load_40 : decode cX8_load 40 = .ok (.goto (-28), 3) := by decide +kernel
theorem dX8_load_43 : decode cX8_load 43 = .ok (.return_, 1) := by decide +kernel
theorem dX8_loadMore_0 : decode cX8_loadMore 0 = .ok (.iconst 0, 1) := by decide +kernel
theorem dX8_loadMore_1 : decode cX8_loadMore 1 = .ok (.istore_n 2, 1) := by decide +kernel
theorem dX8_loadMore_2 : decode cX8_loadMore 2 = .ok (.iload_n 2, 1) := by decide +kernel
theorem dX8_loadMore_3 : decode cX8_loadMore 3 = .ok (.aload_n 0, 1) := by decide +kernel
theorem dX8_loadMore_4 : decode cX8_loadMore 4 = .ok (.getfield 43, 3) := by decide +kernel
theorem dX8_loadMore_7 : decode cX8_loadMore 7 = .ok (.iload_n 1, 1) := by decide +kernel
theorem dX8_loadMore_8 : decode cX8_loadMore 8 = .ok (.iaload, 1) := by decide +kernel
theorem dX8_loadMore_9 : decode cX8_loadMore 9 = .ok (.if_icmp .ge 39, 3) := by decide +kernel
theorem dX8_loadMore_12 : decode cX8_loadMore 12 = .ok (.aload_n 0, 1) := by decide +kernel
theorem dX8_loadMore_13 : decode cX8_loadMore 13 = .ok (.getfield 60, 3) := by decide +kernel
theorem dX8_loadMore_16 : decode cX8_loadMore 16 = .ok (.aload_n 0, 1) := by decide +kernel
theorem dX8_loadMore_17 : decode cX8_loadMore 17 = .ok (.getfield 57, 3) := by decide +kernel
theorem dX8_loadMore_20 : decode cX8_loadMore 20 = .ok (.aload_n 0, 1) := by decide +kernel
theorem dX8_loadMore_21 : decode cX8_loadMore 21 = .ok (.getfield 52, 3) := by decide +kernel
theorem dX8_loadMore_24 : decode cX8_loadMore 24 = .ok (.bipush 100, 2) := by decide +kernel
theorem dX8_loadMore_26 : decode cX8_loadMore 26 = .ok (.iload_n 1, 1) := by decide +kernel
theorem dX8_loadMore_27 : decode cX8_loadMore 27 = .ok (.imul, 1) := by decide +kernel
theorem dX8_loadMore_28 : decode cX8_loadMore 28 = .ok (.iload_n 2, 1) := by decide +kernel
theorem dX8_loadMore_29 : decode cX8_loadMore 29 = .ok (.iadd, 1) := by decide +kernel
theorem dX8_loadMore_30 : decode cX8_loadMore 30 = .ok (.iaload, 1) := by decide +kernel
theorem dX8_loadMore_31 : decode cX8_loadMore 31 = .ok (.iastore, 1) := by decide +kernel
theorem dX8_loadMore_32 : decode cX8_loadMore 32 = .ok (.aload_n 0, 1) := by decide +kernel
theorem dX8_loadMore_33 : decode cX8_loadMore 33 = .ok (.dup, 1) := by decide +kernel
theorem dX8_loadMore_34 : decode cX8_loadMore 34 = .ok (.getfield 57, 3) := by decide +kernel
theorem dX8_loadMore_37 : decode cX8_loadMore 37 = .ok (.iconst 1, 1) := by decide +kernel
theorem dX8_loadMore_38 : decode cX8_loadMore 38 = .ok (.iadd, 1) := by decide +kernel
theorem dX8_loadMore_39 : decode cX8_loadMore 39 = .ok (.putfield 57, 3) := by decide +kernel
theorem dX8_loadMore_42 : decode cX8_loadMore 42 = .ok (.iinc 2 1, 3) := by decide +kernel
theorem dX8_loadMore_45 : decode cX8_loadMore 45 = .ok (.goto (-43), 3) := by decide +kernel
theorem dX8_loadMore_48 : decode cX8_loadMore 48 = .ok (.return_, 1) := by decide +kernel
theorem dX8_loadBack_0 : decode cX8_loadBack 0 = .ok (.aload_n 0, 1) := by decide +kernel
theorem dX8_loadBack_1 : decode cX8_loadBack 1 = .ok (.iconst 0, 1) := by decide +kernel
theorem dX8_loadBack_2 : decode cX8_loadBack 2 = .ok (.putfield 57, 3) := by decide +kernel
theorem dX8_loadBack_5 : decode cX8_loadBack 5 = .ok (.aload_n 0, 1) := by decide +kernel
theorem dX8_loadBack_6 : decode cX8_loadBack 6 = .ok (.getfield 43, 3) := by decide +kernel
theorem dX8_loadBack_9 : decode cX8_loadBack 9 = .ok (.iload_n 1, 1) := by decide +kernel
theorem dX8_loadBack_10 : decode cX8_loadBack 10 = .ok (.iaload, 1) := by decide +kernel
theorem dX8_loadBack_11 : decode cX8_loadBack 11 = .ok (.iconst 1, 1) := by decide +kernel
theorem dX8_loadBack_12 : decode cX8_loadBack 12 = .ok (.isub, 1) := by decide +kernel
theorem dX8_loadBack_13 : decode cX8_loadBack 13 = .ok (.istore_n 2, 1) := by decide +kernel
theorem dX8_loadBack_14 : decode cX8_loadBack 14 = .ok (.iload_n 2, 1) := by decide +kernel
theorem dX8_loadBack_15 : decode cX8_loadBack 15 = .ok (.ifCond .lt 39, 3) := by decide +kernel
theorem dX8_loadBack_18 : decode cX8_loadBack 18 = .ok (.aload_n 0, 1) := by decide +kernel
theorem dX8_loadBack_19 : decode cX8_loadBack 19 = .ok (.getfield 60, 3) := by decide +kernel
theorem dX8_loadBack_22 : decode cX8_loadBack 22 = .ok (.aload_n 0, 1) := by decide +kernel
theorem dX8_loadBack_23 : decode cX8_loadBack 23 = .ok (.getfield 57, 3) := by decide +kernel
theorem dX8_loadBack_26 : decode cX8_loadBack 26 = .ok (.aload_n 0, 1) := by decide +kernel
theorem dX8_loadBack_27 : decode cX8_loadBack 27 = .ok (.getfield 52, 3) := by decide +kernel
theorem dX8_loadBack_30 : decode cX8_loadBack 30 = .ok (.bipush 100, 2) := by decide +kernel
theorem dX8_loadBack_32 : decode cX8_loadBack 32 = .ok (.iload_n 1, 1) := by decide +kernel
theorem dX8_loadBack_33 : decode cX8_loadBack 33 = .ok (.imul, 1) := by decide +kernel
theorem dX8_loadBack_34 : decode cX8_loadBack 34 = .ok (.iload_n 2, 1) := by decide +kernel
theorem dX8_loadBack_35 : decode cX8_loadBack 35 = .ok (.iadd, 1) := by decide +kernel
theorem dX8_loadBack_36 : decode cX8_loadBack 36 = .ok (.iaload, 1) := by decide +kernel
theorem dX8_loadBack_37 : decode cX8_loadBack 37 = .ok (.iastore, 1) := by decide +kernel
theorem dX8_loadBack_38 : decode cX8_loadBack 38 = .ok (.aload_n 0, 1) := by decide +kernel
theorem dX8_loadBack_39 : decode cX8_loadBack 39 = .ok (.dup, 1) := by decide +kernel
theorem dX8_loadBack_40 : decode cX8_loadBack 40 = .ok (.getfield 57, 3) := by decide +kernel
theorem dX8_loadBack_43 : decode cX8_loadBack 43 = .ok (.iconst 1, 1) := by decide +kernel
theorem dX8_loadBack_44 : decode cX8_loadBack 44 = .ok (.iadd, 1) := by decide +kernel
theorem dX8_loadBack_45 : decode cX8_loadBack 45 = .ok (.putfield 57, 3) := by decide +kernel
theorem dX8_loadBack_48 : decode cX8_loadBack 48 = .ok (.iinc 2 (-1), 3) := by decide +kernel
theorem dX8_loadBack_51 : decode cX8_loadBack 51 = .ok (.goto (-37), 3) := by decide +kernel
theorem dX8_loadBack_54 : decode cX8_loadBack 54 = .ok (.return_, 1) := by decide +kernel
theorem dX8_store_0 : decode cX8_store 0 = .ok (.aload_n 0, 1) := by decide +kernel
theorem dX8_store_1 : decode cX8_store 1 = .ok (.getfield 43, 3) := by decide +kernel
theorem dX8_store_4 : decode cX8_store 4 = .ok (.iload_n 1, 1) := by decide +kernel
theorem dX8_store_5 : decode cX8_store 5 = .ok (.aload_n 0, 1) := by decide +kernel
theorem dX8_store_6 : decode cX8_store 6 = .ok (.getfield 57, 3) := by decide +kernel
theorem dX8_store_9 : decode cX8_store 9 = .ok (.iastore, 1) := by decide +kernel
theorem dX8_store_10 : decode cX8_store 10 = .ok (.iconst 0, 1) := by decide +kernel
theorem dX8_store_11 : decode cX8_store 11 = .ok (.istore_n 2, 1) := by decide +kernel
theorem dX8_store_12 : decode cX8_store 12 = .ok (.iload_n 2, 1) := by decide +kernel
theorem dX8_store_13 : decode cX8_store 13 = .ok (.aload_n 0, 1) := by decide +kernel
theorem dX8_store_14 : decode cX8_store 14 = .ok (.getfield 57, 3) := by decide +kernel
theorem dX8_store_17 : decode cX8_store 17 = .ok (.if_icmp .ge 26, 3) := by decide +kernel
theorem dX8_store_20 : decode cX8_store 20 = .ok (.aload_n 0, 1) := by decide +kernel
theorem dX8_store_21 : decode cX8_store 21 = .ok (.getfield 52, 3) := by decide +kernel
theorem dX8_store_24 : decode cX8_store 24 = .ok (.bipush 100, 2) := by decide +kernel
theorem dX8_store_26 : decode cX8_store 26 = .ok (.iload_n 1, 1) := by decide +kernel
theorem dX8_store_27 : decode cX8_store 27 = .ok (.imul, 1) := by decide +kernel
theorem dX8_store_28 : decode cX8_store 28 = .ok (.iload_n 2, 1) := by decide +kernel
theorem dX8_store_29 : decode cX8_store 29 = .ok (.iadd, 1) := by decide +kernel
theorem dX8_store_30 : decode cX8_store 30 = .ok (.aload_n 0, 1) := by decide +kernel
theorem dX8_store_31 : decode cX8_store 31 = .ok (.getfield 60, 3) := by decide +kernel
theorem dX8_store_34 : decode cX8_store 34 = .ok (.iload_n 2, 1) := by decide +kernel
theorem dX8_store_35 : decode cX8_store 35 = .ok (.iaload, 1) := by decide +kernel
theorem dX8_store_36 : decode cX8_store 36 = .ok (.iastore, 1) := by decide +kernel
theorem dX8_store_37 : decode cX8_store 37 = .ok (.iinc 2 1, 3) := by decide +kernel
theorem dX8_store_40 : decode cX8_store 40 = .ok (.goto (-28), 3) := by decide +kernel
theorem dX8_store_43 : decode cX8_store 43 = .ok (.aload_n 0, 1) := by decide +kernel
theorem dX8_store_44 : decode cX8_store 44 = .ok (.getfield 57, 3) := by decide +kernel
theorem dX8_store_47 : decode cX8_store 47 = .ok (.ireturn, 1) := by decide +kernel
set_option maxRecDepth 20000 in
theorem ggX8_times_X8_isSlot : GoodIn wsX8_times wsX8_isSlot := goodIn_r _ [5, 6, 7, 8, 4, 9] rfl (by decide +kernel)
set_option maxRecDepth 20000 in
theorem gX8_times_X8_isSlot : GoodIn wsX8_times (va_wsS RX8 48 yX8_isSlot wsX8_isSlot) := goodIn_app (goodIn_of _ (by decide +kernel)) ggX8_times_X8_isSlot
set_option maxRecDepth 20000 in
theorem ggX8_times_X8_load : GoodIn wsX8_times wsX8_load := goodIn_r _ [13, 1, 14, 15, 16, 25, 26, 27, 28, 29, 30, 31, 32, 33, 34, 35, 36, 37, 38, 39, 40, 41, 42, 43, 44, 45, 46, 47, 48, 49, 50, 51, 52, 53, 54, 55, 56, 57] rfl (by decide +kernel)
set_option maxRecDepth 20000 in
theorem gX8_times_X8_load : GoodIn wsX8_times (wsV RX8 63 RX8 yX8_load wsX8_load) := goodIn_app (goodIn_of _ (by decide +kernel)) ggX8_times_X8_load
set_option maxRecDepth 20000 in
theorem ggX8_times_X8_loadMore : GoodIn wsX8_times wsX8_loadMore := goodIn_r _ [20, 1, 15, 14, 16, 25, 26, 27, 28, 29, 30, 31, 32, 33, 34, 35, 36, 37, 38, 39, 40, 41, 42, 43, 44, 45, 46, 47, 48, 49, 50, 51, 52, 53, 54, 55, 56, 57] rfl (by decide +kernel)
set_option maxRecDepth 20000 in
theorem gX8_times_X8_loadMore : GoodIn wsX8_times (wsV RX8 67 RX8 yX8_loadMore wsX8_loadMore) := goodIn_app (goodIn_of _ (by decide +kernel)) ggX8_times_X8_loadMore
set_option maxRecDepth 20000 in
theorem ggX8_times_X8_store : GoodIn wsX8_times wsX8_store := goodIn_r _ [24, 1, 14, 16, 15, 25, 26, 27, 28, 29, 30, 31, 32, 33, 34, 35, 36, 37, 38, 39, 40, 41, 42, 43, 44, 45, 46, 47, 48, 49, 50, 51, 52, 53, 54, 55, 56, 57] rfl (by decide +kernel)
set_option maxRecDepth 20000 in
theorem gX8_times_X8_store : GoodIn wsX8_times (wsV RX8 70 RX8 yX8_store wsX8_store) := goodIn_app (goodIn_of _ (by decide +kernel)) ggX8_times_X8_store
theorem dX8_times_0 : decode cX8_times 0 = .ok (.iload_n 1, 1) := by decide +kernel
theorem dX8_times_1 : decode cX8_times 1 = .ok (.invokestatic 48, 3) := by decide +kernel
theorem dX8_times_4 : decode cX8_times 4 = .ok (.ifCond .eq 17, 3) := by decide +kernel
theorem dX8_times_7 : decode cX8_times 7 = .ok (.iload_n 2, 1) := by decide +kernel
theorem dX8_times_8 : decode cX8_times 8 = .ok (.invokestatic 48, 3) := by decide +kernel
theorem dX8_times_11 : decode cX8_times 11 = .ok (.ifCond .eq 10, 3) := by decide +kernel
theorem dX8_times_14 : decode cX8_times 14 = .ok (.iload_n 3, 1) := by decide +kernel
theorem dX8_times_15 : decode cX8_times 15 = .ok (.invokestatic 48, 3) := by decide +kernel
theorem dX8_times_18 : decode cX8_times 18 = .ok (.ifCond .ne 5, 3) := by decide +kernel
theorem dX8_times_21 : decode cX8_times 21 = .ok (.iconst (-1), 1) := by decide +kernel
theorem dX8_times_22 : decode cX8_times 22 = .ok (.ireturn, 1) := by decide +kernel
theorem dX8_times_23 : decode cX8_times 23 = .ok (.aload_n 0, 1) := by decide +kernel
theorem dX8_times_24 : decode cX8_times 24 = .ok (.getfield 43, 3) := by decide +kernel
theorem dX8_times_27 : decode cX8_times 27 = .ok (.iload_n 1, 1) := by decide +kernel
theorem dX8_times_28 : decode cX8_times 28 = .ok (.iaload, 1) := by decide +kernel
theorem dX8_times_29 : decode cX8_times 29 = .ok (.aload_n 0, 1) := by decide +kernel
theorem dX8_times_30 : decode cX8_times 30 = .ok (.getfield 43, 3) := by decide +kernel
theorem dX8_times_33 : decode cX8_times 33 = .ok (.iload_n 2, 1) := by decide +kernel
theorem dX8_times_34 : decode cX8_times 34 = .ok (.iaload, 1) := by decide +kernel
theorem dX8_times_35 : decode cX8_times 35 = .ok (.iadd, 1) := by decide +kernel
theorem dX8_times_36 : decode cX8_times 36 = .ok (.bipush 100, 2) := by decide +kernel
theorem dX8_times_38 : decode cX8_times 38 = .ok (.if_icmp .le 6, 3) := by decide +kernel
theorem dX8_times_41 : decode cX8_times 41 = .ok (.bipush (-3), 2) := by decide +kernel
theorem dX8_times_43 : decode cX8_times 43 = .ok (.ireturn, 1) := by decide +kernel
theorem dX8_times_44 : decode cX8_times 44 = .ok (.aload_n 0, 1) := by decide +kernel
theorem dX8_times_45 : decode cX8_times 45 = .ok (.iload_n 1, 1) := by decide +kernel
theorem dX8_times_46 : decode cX8_times 46 = .ok (.invokevirtual 63, 3) := by decide +kernel
theorem dX8_times_49 : decode cX8_times 49 = .ok (.aload_n 0, 1) := by decide +kernel
theorem dX8_times_50 : decode cX8_times 50 = .ok (.iload_n 2, 1) := by decide +kernel
theorem dX8_times_51 : decode cX8_times 51 = .ok (.invokevirtual 67, 3) := by decide +kernel
theorem dX8_times_54 : decode cX8_times 54 = .ok (.aload_n 0, 1) := by decide +kernel
theorem dX8_times_55 : decode cX8_times 55 = .ok (.iload_n 3, 1) := by decide +kernel
theorem dX8_times_56 : decode cX8_times 56 = .ok (.invokevirtual 70, 3) := by decide +kernel
theorem dX8_times_59 : decode cX8_times 59 = .ok (.ireturn, 1) := by decide +kernel
set_option maxRecDepth 20000 in
theorem ggX8_back_X8_isSlot : GoodIn wsX8_back wsX8_isSlot := goodIn_r _ [4, 5, 6, 7, 3, 8] rfl (by decide +kernel)
set_option maxRecDepth 20000 in
theorem gX8_back_X8_isSlot : GoodIn wsX8_back (va_wsS RX8 48 yX8_isSlot wsX8_isSlot) := goodIn_app (goodIn_of _ (by decide +kernel)) ggX8_back_X8_isSlot
set_option maxRecDepth 20000 in
theorem ggX8_back_X8_loadBack : GoodIn wsX8_back wsX8_loadBack := goodIn_r _ [12, 13, 14, 15, 16, 21, 22, 23, 24, 25, 26, 27, 28, 29, 30, 31, 32, 33, 34, 35, 36, 37, 38, 39, 40, 41, 42, 43, 44, 45, 46, 47, 48, 49, 50, 51, 52, 53] rfl (by decide +kernel)
set_option maxRecDepth 20000 in
theorem gX8_back_X8_loadBack : GoodIn wsX8_back (wsV RX8 74 RX8 yX8_loadBack wsX8_loadBack) := goodIn_app (goodIn_of _ (by decide +kernel)) ggX8_back_X8_loadBack
set_option maxRecDepth 20000 in
theorem ggX8_back_X8_store : GoodIn wsX8_back wsX8_store := goodIn_r _ [20, 14, 13, 16, 15, 21, 22, 23, 24, 25, 26, 27, 28, 29, 30, 31, 32, 33, 34, 35, 36, 37, 38, 39, 40, 41, 42, 43, 44, 45, 46, 47, 48, 49, 50, 51, 52, 53] rfl (by decide +kernel)
set_option maxRecDepth 20000 in
theorem gX8_back_X8_store : GoodIn wsX8_back (wsV RX8 70 RX8 yX8_store wsX8_store) := goodIn_app (goodIn_of _ (by decide +kernel)) ggX8_back_X8_store
theorem dX8_back_0 : decode cX8_back 0 = .ok (.iload_n 1, 1) := by decide +kernel
theorem dX8_back_1 : decode cX8_back 1 = .ok (.invokestatic 48, 3) := by decide +kernel
theorem dX8_back_4 : decode cX8_back 4 = .ok (.ifCond .eq 10, 3) := by decide +kernel
theorem dX8_back_7 : decode cX8_back 7 = .ok (.iload_n 2, 1) := by decide +kernel
theorem dX8_back_8 : decode cX8_back 8 = .ok (.invokestatic 48, 3) := by decide +kernel
theorem dX8_back_11 : decode cX8_back 11 = .ok (.ifCond .ne 5, 3) := by decide +kernel
theorem dX8_back_14 : decode cX8_back 14 = .ok (.iconst (-1), 1) := by decide +kernel
theorem dX8_back_15 : decode cX8_back 15 = .ok (.ireturn, 1) := by decide +kernel
theorem dX8_back_16 : decode cX8_back 16 = .ok (.aload_n 0, 1) := by decide +kernel
theorem dX8_back_17 : decode cX8_back 17 = .ok (.iload_n 1, 1) := by decide +kernel
theorem dX8_back_18 : decode cX8_back 18 = .ok (.invokevirtual 74, 3) := by decide +kernel
theorem dX8_back_21 : decode cX8_back 21 = .ok (.aload_n 0, 1) := by decide +kernel
theorem dX8_back_22 : decode cX8_back 22 = .ok (.iload_n 2, 1) := by decide +kernel
theorem dX8_back_23 : decode cX8_back 23 = .ok (.invokevirtual 70, 3) := by decide +kernel
theorem dX8_back_26 : decode cX8_back 26 = .ok (.ireturn, 1) := by decide +kernel
set_option maxRecDepth 20000 in
theorem ggX8_without_X8_isSlot : GoodIn wsX8_without wsX8_isSlot := goodIn_r _ [9, 10, 11, 12, 8, 13] rfl (by decide +kernel)
set_option maxRecDepth 20000 in
theorem gX8_without_X8_isSlot : GoodIn wsX8_without (va_wsS RX8 48 yX8_isSlot wsX8_isSlot) := goodIn_app (goodIn_of _ (by decide +kernel)) ggX8_without_X8_isSlot
set_option maxRecDepth 20000 in
theorem ggX8_without_X8_store : GoodIn wsX8_without wsX8_store := goodIn_r _ [17, 2, 1, 3, 5, 18, 19, 20, 21, 22, 23, 24, 25, 26, 27, 28, 29, 30, 31, 32, 33, 34, 35, 36, 37, 38, 39, 40, 41, 42, 43, 44, 45, 46, 47, 48, 49, 50] rfl (by decide +kernel)
set_option maxRecDepth 20000 in
theorem gX8_without_X8_store : GoodIn wsX8_without (wsV RX8 70 RX8 yX8_store wsX8_store) := goodIn_app (goodIn_of _ (by decide +kernel)) ggX8_without_X8_store
theorem dX8_without_0 : decode cX8_without 0 = .ok (.iload_n 1, 1) := by decide +kernel
theorem dX8_without_1 : decode cX8_without 1 = .ok (.invokestatic 48, 3) := by decide +kernel
theorem dX8_without_4 : decode cX8_without 4 = .ok (.ifCond .eq 10, 3) := by decide +kernel
theorem dX8_without_7 : decode cX8_without 7 = .ok (.iload_n 2, 1) := by decide +kernel
theorem dX8_without_8 : decode cX8_without 8 = .ok (.invokestatic 48, 3) := by decide +kernel
theorem dX8_without_11 : decode cX8_without 11 = .ok (.ifCond .ne 5, 3) := by decide +kernel
theorem dX8_without_14 : decode cX8_without 14 = .ok (.iconst (-1), 1) := by decide +kernel
theorem dX8_without_15 : decode cX8_without 15 = .ok (.ireturn, 1) := by decide +kernel
theorem dX8_without_16 : decode cX8_without 16 = .ok (.aload_n 0, 1) := by decide +kernel
theorem dX8_without_17 : decode cX8_without 17 = .ok (.iconst 0, 1) := by decide +kernel
theorem dX8_without_18 : decode cX8_without 18 = .ok (.putfield 57, 3) := by decide +kernel
theorem dX8_without_21 : decode cX8_without 21 = .ok (.iconst 0, 1) := by decide +kernel
theorem dX8_without_22 : decode cX8_without 22 = .ok (.istore_n 3, 1) := by decide +kernel
theorem dX8_without_23 : decode cX8_without 23 = .ok (.iload_n 3, 1) := by decide +kernel
theorem dX8_without_24 : decode cX8_without 24 = .ok (.aload_n 0, 1) := by decide +kernel
theorem dX8_without_25 : decode cX8_without 25 = .ok (.getfield 43, 3) := by decide +kernel
theorem dX8_without_28 : decode cX8_without 28 = .ok (.iload_n 1, 1) := by decide +kernel
theorem dX8_without_29 : decode cX8_without 29 = .ok (.iaload, 1) := by decide +kernel
theorem dX8_without_30 : decode cX8_without 30 = .ok (.if_icmp .ge 54, 3) := by decide +kernel
theorem dX8_without_33 : decode cX8_without 33 = .ok (.aload_n 0, 1) := by decide +kernel
theorem dX8_without_34 : decode cX8_without 34 = .ok (.getfield 52, 3) := by decide +kernel
theorem dX8_without_37 : decode cX8_without 37 = .ok (.bipush 100, 2) := by decide +kernel
theorem dX8_without_39 : decode cX8_without 39 = .ok (.iload_n 1, 1) := by decide +kernel
theorem dX8_without_40 : decode cX8_without 40 = .ok (.imul, 1) := by decide +kernel
theorem dX8_without_41 : decode cX8_without 41 = .ok (.iload_n 3, 1) := by decide +kernel
theorem dX8_without_42 : decode cX8_without 42 = .ok (.iadd, 1) := by decide +kernel
theorem dX8_without_43 : decode cX8_without 43 = .ok (.iaload, 1) := by decide +kernel
theorem dX8_without_44 : decode cX8_without 44 = .ok (.istore 4, 2) := by decide +kernel
theorem dX8_without_46 : decode cX8_without 46 = .ok (.aload_n 0, 1) := by decide +kernel
theorem dX8_without_47 : decode cX8_without 47 = .ok (.getfield 14, 3) := by decide +kernel
theorem dX8_without_50 : decode cX8_without 50 = .ok (.iload 4, 2) := by decide +kernel
theorem dX8_without_52 : decode cX8_without 52 = .ok (.iaload, 1) := by decide +kernel
theorem dX8_without_53 : decode cX8_without 53 = .ok (.iconst 2, 1) := by decide +kernel
theorem dX8_without_54 : decode cX8_without 54 = .ok (.if_icmp .eq 24, 3) := by decide +kernel
theorem dX8_without_57 : decode cX8_without 57 = .ok (.aload_n 0, 1) := by decide +kernel
theorem dX8_without_58 : decode cX8_without 58 = .ok (.getfield 60, 3) := by decide +kernel
theorem dX8_without_61 : decode cX8_without 61 = .ok (.aload_n 0, 1) := by decide +kernel
theorem dX8_without_62 : decode cX8_without 62 = .ok (.getfield 57, 3) := by decide +kernel
theorem dX8_without_65 : decode cX8_without 65 = .ok (.iload 4, 2) := by decide +kernel
theorem dX8_without_67 : decode cX8_without 67 = .ok (.iastore, 1) := by decide +kernel
theorem dX8_without_68 : decode cX8_without 68 = .ok (.aload_n 0, 1) := by decide +kernel
theorem dX8_without_69 : decode cX8_without 69 = .ok (.dup, 1) := by decide +kernel
theorem dX8_without_70 : decode cX8_without 70 = .ok (.getfield 57, 3) := by decide +kernel
theorem dX8_without_73 : decode cX8_without 73 = .ok (.iconst 1, 1) := by decide +kernel
theorem dX8_without_74 : decode cX8_without 74 = .ok (.iadd, 1) := by decide +kernel
theorem dX8_without_75 : decode cX8_without 75 = .ok (.putfield 57, 3) := by decide +kernel
theorem dX8_without_78 : decode cX8_without 78 = .ok (.iinc 3 1, 3) := by decide +kernel
theorem dX8_without_81 : decode cX8_without 81 = .ok (.goto (-58), 3) := by decide +kernel
theorem dX8_without_84 : decode cX8_without 84 = .ok (.aload_n 0, 1) := by decide +kernel
theorem dX8_without_85 : decode cX8_without 85 = .ok (.iload_n 2, 1) := by decide +kernel
theorem dX8_without_86 : decode cX8_without 86 = .ok (.invokevirtual 70, 3) := by decide +kernel
theorem dX8_without_89 : decode cX8_without 89 = .ok (.ireturn, 1) := by decide +kernel
set_option maxRecDepth 20000 in
theorem ggX8_cut_X8_isSlot : GoodIn wsX8_cut wsX8_isSlot := goodIn_r _ [6, 7, 8, 9, 5, 10] rfl (by decide +kernel)
set_option maxRecDepth 20000 in
theorem gX8_cut_X8_isSlot : GoodIn wsX8_cut (va_wsS RX8 48 yX8_isSlot wsX8_isSlot) := goodIn_app (goodIn_of _ (by decide +kernel)) ggX8_cut_X8_isSlot
set_option maxRecDepth 20000 in
theorem ggX8_cut_X8_in : GoodIn wsX8_cut wsX8_in := goodIn_r _ [10] rfl (by decide +kernel)
set_option maxRecDepth 20000 in
theorem gX8_cut_X8_in : GoodIn wsX8_cut (va_wsS RX8 24 yX8_in wsX8_in) := goodIn_app (goodIn_of _ (by decide +kernel)) ggX8_cut_X8_in
theorem dX8_cut_0 : decode cX8_cut 0 = .ok (.iload_n 1, 1) := by decide +kernel
theorem dX8_cut_1 : decode cX8_cut 1 = .ok (.invokestatic 48, 3) := by decide +kernel
theorem dX8_cut_4 : decode cX8_cut 4 = .ok (.ifCond .eq 21, 3) := by decide +kernel
theorem dX8_cut_7 : decode cX8_cut 7 = .ok (.iload_n 2, 1) := by decide +kernel
theorem dX8_cut_8 : decode cX8_cut 8 = .ok (.i2l, 1) := by decide +kernel
theorem dX8_cut_9 : decode cX8_cut 9 = .ok (.lconst 0, 1) := by decide +kernel
theorem dX8_cut_10 : decode cX8_cut 10 = .ok (.aload_n 0, 1) := by decide +kernel
theorem dX8_cut_11 : decode cX8_cut 11 = .ok (.getfield 43, 3) := by decide +kernel
theorem dX8_cut_14 : decode cX8_cut 14 = .ok (.iload_n 1, 1) := by decide +kernel
theorem dX8_cut_15 : decode cX8_cut 15 = .ok (.iaload, 1) := by decide +kernel
theorem dX8_cut_16 : decode cX8_cut 16 = .ok (.iconst 2, 1) := by decide +kernel
theorem dX8_cut_17 : decode cX8_cut 17 = .ok (.isub, 1) := by decide +kernel
theorem dX8_cut_18 : decode cX8_cut 18 = .ok (.i2l, 1) := by decide +kernel
theorem dX8_cut_19 : decode cX8_cut 19 = .ok (.invokestatic 24, 3) := by decide +kernel
theorem dX8_cut_22 : decode cX8_cut 22 = .ok (.ifCond .ne 5, 3) := by decide +kernel
theorem dX8_cut_25 : decode cX8_cut 25 = .ok (.iconst (-1), 1) := by decide +kernel
theorem dX8_cut_26 : decode cX8_cut 26 = .ok (.ireturn, 1) := by decide +kernel
theorem dX8_cut_27 : decode cX8_cut 27 = .ok (.bipush 100, 2) := by decide +kernel
theorem dX8_cut_29 : decode cX8_cut 29 = .ok (.iload_n 1, 1) := by decide +kernel
theorem dX8_cut_30 : decode cX8_cut 30 = .ok (.imul, 1) := by decide +kernel
theorem dX8_cut_31 : decode cX8_cut 31 = .ok (.iload_n 2, 1) := by decide +kernel
theorem dX8_cut_32 : decode cX8_cut 32 = .ok (.iadd, 1) := by decide +kernel
theorem dX8_cut_33 : decode cX8_cut 33 = .ok (.istore_n 3, 1) := by decide +kernel
theorem dX8_cut_34 : decode cX8_cut 34 = .ok (.aload_n 0, 1) := by decide +kernel
theorem dX8_cut_35 : decode cX8_cut 35 = .ok (.getfield 52, 3) := by decide +kernel
theorem dX8_cut_38 : decode cX8_cut 38 = .ok (.iload_n 3, 1) := by decide +kernel
theorem dX8_cut_39 : decode cX8_cut 39 = .ok (.iaload, 1) := by decide +kernel
theorem dX8_cut_40 : decode cX8_cut 40 = .ok (.aload_n 0, 1) := by decide +kernel
theorem dX8_cut_41 : decode cX8_cut 41 = .ok (.getfield 52, 3) := by decide +kernel
theorem dX8_cut_44 : decode cX8_cut 44 = .ok (.iload_n 3, 1) := by decide +kernel
theorem dX8_cut_45 : decode cX8_cut 45 = .ok (.iconst 1, 1) := by decide +kernel
theorem dX8_cut_46 : decode cX8_cut 46 = .ok (.iadd, 1) := by decide +kernel
theorem dX8_cut_47 : decode cX8_cut 47 = .ok (.iaload, 1) := by decide +kernel
theorem dX8_cut_48 : decode cX8_cut 48 = .ok (.if_icmp .eq 6, 3) := by decide +kernel
theorem dX8_cut_51 : decode cX8_cut 51 = .ok (.bipush (-2), 2) := by decide +kernel
theorem dX8_cut_53 : decode cX8_cut 53 = .ok (.ireturn, 1) := by decide +kernel
theorem dX8_cut_54 : decode cX8_cut 54 = .ok (.iload_n 2, 1) := by decide +kernel
theorem dX8_cut_55 : decode cX8_cut 55 = .ok (.istore 4, 2) := by decide +kernel
theorem dX8_cut_57 : decode cX8_cut 57 = .ok (.iload 4, 2) := by decide +kernel
theorem dX8_cut_59 : decode cX8_cut 59 = .ok (.iconst 2, 1) := by decide +kernel
theorem dX8_cut_60 : decode cX8_cut 60 = .ok (.iadd, 1) := by decide +kernel
theorem dX8_cut_61 : decode cX8_cut 61 = .ok (.aload_n 0, 1) := by decide +kernel
theorem dX8_cut_62 : decode cX8_cut 62 = .ok (.getfield 43, 3) := by decide +kernel
theorem dX8_cut_65 : decode cX8_cut 65 = .ok (.iload_n 1, 1) := by decide +kernel
theorem dX8_cut_66 : decode cX8_cut 66 = .ok (.iaload, 1) := by decide +kernel
theorem dX8_cut_67 : decode cX8_cut 67 = .ok (.if_icmp .ge 35, 3) := by decide +kernel
theorem dX8_cut_70 : decode cX8_cut 70 = .ok (.aload_n 0, 1) := by decide +kernel
theorem dX8_cut_71 : decode cX8_cut 71 = .ok (.getfield 52, 3) := by decide +kernel
theorem dX8_cut_74 : decode cX8_cut 74 = .ok (.bipush 100, 2) := by decide +kernel
theorem dX8_cut_76 : decode cX8_cut 76 = .ok (.iload_n 1, 1) := by decide +kernel
theorem dX8_cut_77 : decode cX8_cut 77 = .ok (.imul, 1) := by decide +kernel
theorem dX8_cut_78 : decode cX8_cut 78 = .ok (.iload 4, 2) := by decide +kernel
theorem dX8_cut_80 : decode cX8_cut 80 = .ok (.iadd, 1) := by decide +kernel
theorem dX8_cut_81 : decode cX8_cut 81 = .ok (.aload_n 0, 1) := by decide +kernel
theorem dX8_cut_82 : decode cX8_cut 82 = .ok (.getfield 52, 3) := by decide +kernel
theorem dX8_cut_85 : decode cX8_cut 85 = .ok (.bipush 100, 2) := by decide +kernel
theorem dX8_cut_87 : decode cX8_cut 87 = .ok (.iload_n 1, 1) := by decide +kernel
theorem dX8_cut_88 : decode cX8_cut 88 = .ok (.imul, 1) := by decide +kernel
theorem dX8_cut_89 : decode cX8_cut 89 = .ok (.iload 4, 2) := by decide +kernel
theorem dX8_cut_91 : decode cX8_cut 91 = .ok (.iadd, 1) := by decide +kernel
theorem dX8_cut_92 : decode cX8_cut 92 = .ok (.iconst 2, 1) := by decide +kernel
theorem dX8_cut_93 : decode cX8_cut 93 = .ok (.iadd, 1) := by decide +kernel
theorem dX8_cut_94 : decode cX8_cut 94 = .ok (.iaload, 1) := by decide +kernel
theorem dX8_cut_95 : decode cX8_cut 95 = .ok (.iastore, 1) := by decide +kernel
theorem dX8_cut_96 : decode cX8_cut 96 = .ok (.iinc 4 1, 3) := by decide +kernel
theorem dX8_cut_99 : decode cX8_cut 99 = .ok (.goto (-42), 3) := by decide +kernel
theorem dX8_cut_102 : decode cX8_cut 102 = .ok (.aload_n 0, 1) := by decide +kernel
theorem dX8_cut_103 : decode cX8_cut 103 = .ok (.getfield 43, 3) := by decide +kernel
theorem dX8_cut_106 : decode cX8_cut 106 = .ok (.iload_n 1, 1) := by decide +kernel
theorem dX8_cut_107 : decode cX8_cut 107 = .ok (.dup2, 1) := by decide +kernel
theorem dX8_cut_108 : decode cX8_cut 108 = .ok (.iaload, 1) := by decide +kernel
theorem dX8_cut_109 : decode cX8_cut 109 = .ok (.iconst 2, 1) := by decide +kernel
theorem dX8_cut_110 : decode cX8_cut 110 = .ok (.isub, 1) := by decide +kernel
theorem dX8_cut_111 : decode cX8_cut 111 = .ok (.iastore, 1) := by decide +kernel
theorem dX8_cut_112 : decode cX8_cut 112 = .ok (.aload_n 0, 1) := by decide +kernel
theorem dX8_cut_113 : decode cX8_cut 113 = .ok (.getfield 43, 3) := by decide +kernel
theorem dX8_cut_116 : decode cX8_cut 116 = .ok (.iload_n 1, 1) := by decide +kernel
theorem dX8_cut_117 : decode cX8_cut 117 = .ok (.iaload, 1) := by decide +kernel
theorem dX8_cut_118 : decode cX8_cut 118 = .ok (.ireturn, 1) := by decide +kernel
set_option maxRecDepth 20000 in
theorem ggX8_change_X8_isSlot : GoodIn wsX8_change wsX8_isSlot := goodIn_r _ [6, 7, 8, 9, 5, 10] rfl (by decide +kernel)
set_option maxRecDepth 20000 in
theorem gX8_change_X8_isSlot : GoodIn wsX8_change (va_wsS RX8 48 yX8_isSlot wsX8_isSlot) := goodIn_app (goodIn_of _ (by decide +kernel)) ggX8_change_X8_isSlot
set_option maxRecDepth 20000 in
theorem ggX8_change_X8_in : GoodIn wsX8_change wsX8_in := goodIn_r _ [10] rfl (by decide +kernel)
set_option maxRecDepth 20000 in
theorem gX8_change_X8_in : GoodIn wsX8_change (va_wsS RX8 24 yX8_in wsX8_in) := goodIn_app (goodIn_of _ (by decide +kernel)) ggX8_change_X8_in
set_option maxRecDepth 20000 in
theorem ggX8_change_X8_meetsAt : GoodIn wsX8_change wsX8_meetsAt := goodIn_r _ [14, 15, 16, 17, 18, 19, 20, 21, 22, 23, 24, 25, 26, 27, 28, 29, 30, 31, 32, 33, 34, 35, 36, 37, 38, 39, 40, 41, 42, 43, 44, 45, 46, 47, 48] rfl (by decide +kernel)
set_option maxRecDepth 20000 in
theorem gX8_change_X8_meetsAt : GoodIn wsX8_change (wsV RX8 39 RX8 yX8_meetsAt wsX8_meetsAt) := goodIn_app (goodIn_of _ (by decide +kernel)) ggX8_change_X8_meetsAt
theorem dX8_change_0 : decode cX8_change 0 = .ok (.iload_n 1, 1) := by decide +kernel
theorem dX8_change_1 : decode cX8_change 1 = .ok (.invokestatic 48, 3) := by decide +kernel
theorem dX8_change_4 : decode cX8_change 4 = .ok (.ifCond .eq 21, 3) := by decide +kernel
theorem dX8_change_7 : decode cX8_change 7 = .ok (.iload_n 2, 1) := by decide +kernel
theorem dX8_change_8 : decode cX8_change 8 = .ok (.i2l, 1) := by decide +kernel
theorem dX8_change_9 : decode cX8_change 9 = .ok (.lconst 0, 1) := by decide +kernel
theorem dX8_change_10 : decode cX8_change 10 = .ok (.aload_n 0, 1) := by decide +kernel
theorem dX8_change_11 : decode cX8_change 11 = .ok (.getfield 43, 3) := by decide +kernel
theorem dX8_change_14 : decode cX8_change 14 = .ok (.iload_n 1, 1) := by decide +kernel
theorem dX8_change_15 : decode cX8_change 15 = .ok (.iaload, 1) := by decide +kernel
theorem dX8_change_16 : decode cX8_change 16 = .ok (.iconst 2, 1) := by decide +kernel
theorem dX8_change_17 : decode cX8_change 17 = .ok (.isub, 1) := by decide +kernel
theorem dX8_change_18 : decode cX8_change 18 = .ok (.i2l, 1) := by decide +kernel
theorem dX8_change_19 : decode cX8_change 19 = .ok (.invokestatic 24, 3) := by decide +kernel
theorem dX8_change_22 : decode cX8_change 22 = .ok (.ifCond .ne 5, 3) := by decide +kernel
theorem dX8_change_25 : decode cX8_change 25 = .ok (.iconst (-1), 1) := by decide +kernel
theorem dX8_change_26 : decode cX8_change 26 = .ok (.ireturn, 1) := by decide +kernel
theorem dX8_change_27 : decode cX8_change 27 = .ok (.aload_n 0, 1) := by decide +kernel
theorem dX8_change_28 : decode cX8_change 28 = .ok (.getfield 52, 3) := by decide +kernel
theorem dX8_change_31 : decode cX8_change 31 = .ok (.bipush 100, 2) := by decide +kernel
theorem dX8_change_33 : decode cX8_change 33 = .ok (.iload_n 1, 1) := by decide +kernel
theorem dX8_change_34 : decode cX8_change 34 = .ok (.imul, 1) := by decide +kernel
theorem dX8_change_35 : decode cX8_change 35 = .ok (.iload_n 2, 1) := by decide +kernel
theorem dX8_change_36 : decode cX8_change 36 = .ok (.iadd, 1) := by decide +kernel
theorem dX8_change_37 : decode cX8_change 37 = .ok (.iaload, 1) := by decide +kernel
theorem dX8_change_38 : decode cX8_change 38 = .ok (.istore_n 3, 1) := by decide +kernel
theorem dX8_change_39 : decode cX8_change 39 = .ok (.aload_n 0, 1) := by decide +kernel
theorem dX8_change_40 : decode cX8_change 40 = .ok (.getfield 52, 3) := by decide +kernel
theorem dX8_change_43 : decode cX8_change 43 = .ok (.bipush 100, 2) := by decide +kernel
theorem dX8_change_45 : decode cX8_change 45 = .ok (.iload_n 1, 1) := by decide +kernel
theorem dX8_change_46 : decode cX8_change 46 = .ok (.imul, 1) := by decide +kernel
theorem dX8_change_47 : decode cX8_change 47 = .ok (.iload_n 2, 1) := by decide +kernel
theorem dX8_change_48 : decode cX8_change 48 = .ok (.iadd, 1) := by decide +kernel
theorem dX8_change_49 : decode cX8_change 49 = .ok (.iconst 1, 1) := by decide +kernel
theorem dX8_change_50 : decode cX8_change 50 = .ok (.iadd, 1) := by decide +kernel
theorem dX8_change_51 : decode cX8_change 51 = .ok (.iaload, 1) := by decide +kernel
theorem dX8_change_52 : decode cX8_change 52 = .ok (.istore 4, 2) := by decide +kernel
theorem dX8_change_54 : decode cX8_change 54 = .ok (.aload_n 0, 1) := by decide +kernel
theorem dX8_change_55 : decode cX8_change 55 = .ok (.iload_n 3, 1) := by decide +kernel
theorem dX8_change_56 : decode cX8_change 56 = .ok (.iload 4, 2) := by decide +kernel
theorem dX8_change_58 : decode cX8_change 58 = .ok (.invokevirtual 39, 3) := by decide +kernel
theorem dX8_change_61 : decode cX8_change 61 = .ok (.istore 5, 2) := by decide +kernel
theorem dX8_change_63 : decode cX8_change 63 = .ok (.iload 5, 2) := by decide +kernel
theorem dX8_change_65 : decode cX8_change 65 = .ok (.iconst 2, 1) := by decide +kernel
theorem dX8_change_66 : decode cX8_change 66 = .ok (.if_icmp .lt 16, 3) := by decide +kernel
theorem dX8_change_69 : decode cX8_change 69 = .ok (.iload_n 2, 1) := by decide +kernel
theorem dX8_change_70 : decode cX8_change 70 = .ok (.iload 5, 2) := by decide +kernel
theorem dX8_change_72 : decode cX8_change 72 = .ok (.iadd, 1) := by decide +kernel
theorem dX8_change_73 : decode cX8_change 73 = .ok (.aload_n 0, 1) := by decide +kernel
theorem dX8_change_74 : decode cX8_change 74 = .ok (.getfield 43, 3) := by decide +kernel
theorem dX8_change_77 : decode cX8_change 77 = .ok (.iload_n 1, 1) := by decide +kernel
theorem dX8_change_78 : decode cX8_change 78 = .ok (.iaload, 1) := by decide +kernel
theorem dX8_change_79 : decode cX8_change 79 = .ok (.if_icmp .le 6, 3) := by decide +kernel
theorem dX8_change_82 : decode cX8_change 82 = .ok (.bipush (-2), 2) := by decide +kernel
theorem dX8_change_84 : decode cX8_change 84 = .ok (.ireturn, 1) := by decide +kernel
theorem dX8_change_85 : decode cX8_change 85 = .ok (.iconst 0, 1) := by decide +kernel
theorem dX8_change_86 : decode cX8_change 86 = .ok (.istore 6, 2) := by decide +kernel
theorem dX8_change_88 : decode cX8_change 88 = .ok (.iload 6, 2) := by decide +kernel
theorem dX8_change_90 : decode cX8_change 90 = .ok (.iload 5, 2) := by decide +kernel
theorem dX8_change_92 : decode cX8_change 92 = .ok (.if_icmp .ge 42, 3) := by decide +kernel
theorem dX8_change_95 : decode cX8_change 95 = .ok (.aload_n 0, 1) := by decide +kernel
theorem dX8_change_96 : decode cX8_change 96 = .ok (.getfield 52, 3) := by decide +kernel
theorem dX8_change_99 : decode cX8_change 99 = .ok (.bipush 100, 2) := by decide +kernel
theorem dX8_change_101 : decode cX8_change 101 = .ok (.iload_n 1, 1) := by decide +kernel
theorem dX8_change_102 : decode cX8_change 102 = .ok (.imul, 1) := by decide +kernel
theorem dX8_change_103 : decode cX8_change 103 = .ok (.iload_n 2, 1) := by decide +kernel
theorem dX8_change_104 : decode cX8_change 104 = .ok (.iadd, 1) := by decide +kernel
theorem dX8_change_105 : decode cX8_change 105 = .ok (.iload 6, 2) := by decide +kernel
theorem dX8_change_107 : decode cX8_change 107 = .ok (.iadd, 1) := by decide +kernel
theorem dX8_change_108 : decode cX8_change 108 = .ok (.iaload, 1) := by decide +kernel
theorem dX8_change_109 : decode cX8_change 109 = .ok (.iload 6, 2) := by decide +kernel
theorem dX8_change_111 : decode cX8_change 111 = .ok (.iconst 2, 1) := by decide +kernel
theorem dX8_change_112 : decode cX8_change 112 = .ok (.irem, 1) := by decide +kernel
theorem dX8_change_113 : decode cX8_change 113 = .ok (.ifCond .ne 7, 3) := by decide +kernel
theorem dX8_change_116 : decode cX8_change 116 = .ok (.iload_n 3, 1) := by decide +kernel
theorem dX8_change_117 : decode cX8_change 117 = .ok (.goto 5, 3) := by decide +kernel
theorem dX8_change_120 : decode cX8_change 120 = .ok (.iload 4, 2) := by decide +kernel
theorem dX8_change_122 : decode cX8_change 122 = .ok (.if_icmp .eq 6, 3) := by decide +kernel
theorem dX8_change_125 : decode cX8_change 125 = .ok (.bipush (-2), 2) := by decide +kernel
theorem dX8_change_127 : decode cX8_change 127 = .ok (.ireturn, 1) := by decide +kernel
theorem dX8_change_128 : decode cX8_change 128 = .ok (.iinc 6 1, 3) := by decide +kernel
theorem dX8_change_131 : decode cX8_change 131 = .ok (.goto (-43), 3) := by decide +kernel
theorem dX8_change_134 : decode cX8_change 134 = .ok (.iconst 0, 1) := by decide +kernel
theorem dX8_change_135 : decode cX8_change 135 = .ok (.istore 6, 2) := by decide +kernel
theorem dX8_change_137 : decode cX8_change 137 = .ok (.iload 6, 2) := by decide +kernel
theorem dX8_change_139 : decode cX8_change 139 = .ok (.iload 5, 2) := by decide +kernel
theorem dX8_change_141 : decode cX8_change 141 = .ok (.if_icmp .ge 36, 3) := by decide +kernel
theorem dX8_change_144 : decode cX8_change 144 = .ok (.aload_n 0, 1) := by decide +kernel
theorem dX8_change_145 : decode cX8_change 145 = .ok (.getfield 52, 3) := by decide +kernel
theorem dX8_change_148 : decode cX8_change 148 = .ok (.bipush 100, 2) := by decide +kernel
theorem dX8_change_150 : decode cX8_change 150 = .ok (.iload_n 1, 1) := by decide +kernel
theorem dX8_change_151 : decode cX8_change 151 = .ok (.imul, 1) := by decide +kernel
theorem dX8_change_152 : decode cX8_change 152 = .ok (.iload_n 2, 1) := by decide +kernel
theorem dX8_change_153 : decode cX8_change 153 = .ok (.iadd, 1) := by decide +kernel
theorem dX8_change_154 : decode cX8_change 154 = .ok (.iload 6, 2) := by decide +kernel
theorem dX8_change_156 : decode cX8_change 156 = .ok (.iadd, 1) := by decide +kernel
theorem dX8_change_157 : decode cX8_change 157 = .ok (.iload 6, 2) := by decide +kernel
theorem dX8_change_159 : decode cX8_change 159 = .ok (.iconst 2, 1) := by decide +kernel
theorem dX8_change_160 : decode cX8_change 160 = .ok (.irem, 1) := by decide +kernel
theorem dX8_change_161 : decode cX8_change 161 = .ok (.ifCond .ne 8, 3) := by decide +kernel
theorem dX8_change_164 : decode cX8_change 164 = .ok (.iload 4, 2) := by decide +kernel
theorem dX8_change_166 : decode cX8_change 166 = .ok (.goto 4, 3) := by decide +kernel
theorem dX8_change_169 : decode cX8_change 169 = .ok (.iload_n 3, 1) := by decide +kernel
theorem dX8_change_170 : decode cX8_change 170 = .ok (.iastore, 1) := by decide +kernel
theorem dX8_change_171 : decode cX8_change 171 = .ok (.iinc 6 1, 3) := by decide +kernel
theorem dX8_change_174 : decode cX8_change 174 = .ok (.goto (-37), 3) := by decide +kernel
theorem dX8_change_177 : decode cX8_change 177 = .ok (.iload 5, 2) := by decide +kernel
theorem dX8_change_179 : decode cX8_change 179 = .ok (.ireturn, 1) := by decide +kernel
theorem dX8_own_0 : decode cX8_own 0 = .ok (.iconst 0, 1) := by decide +kernel
theorem dX8_own_1 : decode cX8_own 1 = .ok (.istore_n 2, 1) := by decide +kernel
theorem dX8_own_2 : decode cX8_own 2 = .ok (.iload_n 2, 1) := by decide +kernel
theorem dX8_own_3 : decode cX8_own 3 = .ok (.bipush 6, 2) := by decide +kernel
theorem dX8_own_5 : decode cX8_own 5 = .ok (.if_icmp .ge 25, 3) := by decide +kernel
theorem dX8_own_8 : decode cX8_own 8 = .ok (.aload_n 0, 1) := by decide +kernel
theorem dX8_own_9 : decode cX8_own 9 = .ok (.getfield 77, 3) := by decide +kernel
theorem dX8_own_12 : decode cX8_own 12 = .ok (.iload_n 2, 1) := by decide +kernel
theorem dX8_own_13 : decode cX8_own 13 = .ok (.iload_n 2, 1) := by decide +kernel
theorem dX8_own_14 : decode cX8_own 14 = .ok (.iload_n 1, 1) := by decide +kernel
theorem dX8_own_15 : decode cX8_own 15 = .ok (.if_icmp .ne 7, 3) := by decide +kernel
theorem dX8_own_18 : decode cX8_own 18 = .ok (.lconst 1, 1) := by decide +kernel
theorem dX8_own_19 : decode cX8_own 19 = .ok (.goto 4, 3) := by decide +kernel
theorem dX8_own_22 : decode cX8_own 22 = .ok (.lconst 0, 1) := by decide +kernel
theorem dX8_own_23 : decode cX8_own 23 = .ok (.lastore, 1) := by decide +kernel
theorem dX8_own_24 : decode cX8_own 24 = .ok (.iinc 2 1, 3) := by decide +kernel
theorem dX8_own_27 : decode cX8_own 27 = .ok (.goto (-25), 3) := by decide +kernel
theorem dX8_own_30 : decode cX8_own 30 = .ok (.return_, 1) := by decide +kernel
theorem dX8_isOwn_0 : decode cX8_isOwn 0 = .ok (.iconst 1, 1) := by decide +kernel
theorem dX8_isOwn_1 : decode cX8_isOwn 1 = .ok (.istore_n 2, 1) := by decide +kernel
theorem dX8_isOwn_2 : decode cX8_isOwn 2 = .ok (.iconst 0, 1) := by decide +kernel
theorem dX8_isOwn_3 : decode cX8_isOwn 3 = .ok (.istore_n 3, 1) := by decide +kernel
theorem dX8_isOwn_4 : decode cX8_isOwn 4 = .ok (.iload_n 3, 1) := by decide +kernel
theorem dX8_isOwn_5 : decode cX8_isOwn 5 = .ok (.aload_n 0, 1) := by decide +kernel
theorem dX8_isOwn_6 : decode cX8_isOwn 6 = .ok (.getfield 11, 3) := by decide +kernel
theorem dX8_isOwn_9 : decode cX8_isOwn 9 = .ok (.if_icmp .ge 39, 3) := by decide +kernel
theorem dX8_isOwn_12 : decode cX8_isOwn 12 = .ok (.iload_n 2, 1) := by decide +kernel
theorem dX8_isOwn_13 : decode cX8_isOwn 13 = .ok (.ifCond .eq 27, 3) := by decide +kernel
theorem dX8_isOwn_16 : decode cX8_isOwn 16 = .ok (.aload_n 0, 1) := by decide +kernel
theorem dX8_isOwn_17 : decode cX8_isOwn 17 = .ok (.getfield 77, 3) := by decide +kernel
theorem dX8_isOwn_20 : decode cX8_isOwn 20 = .ok (.iload_n 3, 1) := by decide +kernel
theorem dX8_isOwn_21 : decode cX8_isOwn 21 = .ok (.laload, 1) := by decide +kernel
theorem dX8_isOwn_22 : decode cX8_isOwn 22 = .ok (.iload_n 3, 1) := by decide +kernel
theorem dX8_isOwn_23 : decode cX8_isOwn 23 = .ok (.iload_n 1, 1) := by decide +kernel
theorem dX8_isOwn_24 : decode cX8_isOwn 24 = .ok (.if_icmp .ne 7, 3) := by decide +kernel
theorem dX8_isOwn_27 : decode cX8_isOwn 27 = .ok (.lconst 1, 1) := by decide +kernel
theorem dX8_isOwn_28 : decode cX8_isOwn 28 = .ok (.goto 4, 3) := by decide +kernel
theorem dX8_isOwn_31 : decode cX8_isOwn 31 = .ok (.lconst 0, 1) := by decide +kernel
theorem dX8_isOwn_32 : decode cX8_isOwn 32 = .ok (.lcmp, 1) := by decide +kernel
theorem dX8_isOwn_33 : decode cX8_isOwn 33 = .ok (.ifCond .ne 7, 3) := by decide +kernel
theorem dX8_isOwn_36 : decode cX8_isOwn 36 = .ok (.iconst 1, 1) := by decide +kernel
theorem dX8_isOwn_37 : decode cX8_isOwn 37 = .ok (.goto 4, 3) := by decide +kernel
theorem dX8_isOwn_40 : decode cX8_isOwn 40 = .ok (.iconst 0, 1) := by decide +kernel
theorem dX8_isOwn_41 : decode cX8_isOwn 41 = .ok (.istore_n 2, 1) := by decide +kernel
theorem dX8_isOwn_42 : decode cX8_isOwn 42 = .ok (.iinc 3 1, 3) := by decide +kernel
theorem dX8_isOwn_45 : decode cX8_isOwn 45 = .ok (.goto (-41), 3) := by decide +kernel
theorem dX8_isOwn_48 : decode cX8_isOwn 48 = .ok (.iload_n 2, 1) := by decide +kernel
theorem dX8_isOwn_49 : decode cX8_isOwn 49 = .ok (.ireturn, 1) := by decide +kernel
set_option maxRecDepth 20000 in
theorem ggX8_turn_X8_in : GoodIn wsX8_turn wsX8_in := goodIn_r _ [10] rfl (by decide +kernel)
set_option maxRecDepth 20000 in
theorem gX8_turn_X8_in : GoodIn wsX8_turn (va_wsS RX8 24 yX8_in wsX8_in) := goodIn_app (goodIn_of _ (by decide +kernel)) ggX8_turn_X8_in
theorem dX8_turn_0 : decode cX8_turn 0 = .ok (.lconst 0, 1) := by decide +kernel
theorem dX8_turn_1 : decode cX8_turn 1 = .ok (.aload_n 0, 1) := by decide +kernel
theorem dX8_turn_2 : decode cX8_turn 2 = .ok (.getfield 77, 3) := by decide +kernel
theorem dX8_turn_5 : decode cX8_turn 5 = .ok (.iload_n 1, 1) := by decide +kernel
theorem dX8_turn_6 : decode cX8_turn 6 = .ok (.laload, 1) := by decide +kernel
theorem dX8_turn_7 : decode cX8_turn 7 = .ok (.lsub, 1) := by decide +kernel
theorem dX8_turn_8 : decode cX8_turn 8 = .ok (.lstore_n 2, 1) := by decide +kernel
theorem dX8_turn_9 : decode cX8_turn 9 = .ok (.iconst 0, 1) := by decide +kernel
theorem dX8_turn_10 : decode cX8_turn 10 = .ok (.istore 4, 2) := by decide +kernel
theorem dX8_turn_12 : decode cX8_turn 12 = .ok (.iload 4, 2) := by decide +kernel
theorem dX8_turn_14 : decode cX8_turn 14 = .ok (.aload_n 0, 1) := by decide +kernel
theorem dX8_turn_15 : decode cX8_turn 15 = .ok (.getfield 11, 3) := by decide +kernel
theorem dX8_turn_18 : decode cX8_turn 18 = .ok (.if_icmp .ge 43, 3) := by decide +kernel
theorem dX8_turn_21 : decode cX8_turn 21 = .ok (.lload_n 2, 1) := by decide +kernel
theorem dX8_turn_22 : decode cX8_turn 22 = .ok (.iload 4, 2) := by decide +kernel
theorem dX8_turn_24 : decode cX8_turn 24 = .ok (.iload_n 1, 1) := by decide +kernel
theorem dX8_turn_25 : decode cX8_turn 25 = .ok (.if_icmp .ne 7, 3) := by decide +kernel
theorem dX8_turn_28 : decode cX8_turn 28 = .ok (.lconst 0, 1) := by decide +kernel
theorem dX8_turn_29 : decode cX8_turn 29 = .ok (.goto 24, 3) := by decide +kernel
theorem dX8_turn_32 : decode cX8_turn 32 = .ok (.aload_n 0, 1) := by decide +kernel
theorem dX8_turn_33 : decode cX8_turn 33 = .ok (.getfield 17, 3) := by decide +kernel
theorem dX8_turn_36 : decode cX8_turn 36 = .ok (.bipush 6, 2) := by decide +kernel
theorem dX8_turn_38 : decode cX8_turn 38 = .ok (.iload_n 1, 1) := by decide +kernel
theorem dX8_turn_39 : decode cX8_turn 39 = .ok (.imul, 1) := by decide +kernel
theorem dX8_turn_40 : decode cX8_turn 40 = .ok (.iload 4, 2) := by decide +kernel
theorem dX8_turn_42 : decode cX8_turn 42 = .ok (.iadd, 1) := by decide +kernel
theorem dX8_turn_43 : decode cX8_turn 43 = .ok (.iaload, 1) := by decide +kernel
theorem dX8_turn_44 : decode cX8_turn 44 = .ok (.i2l, 1) := by decide +kernel
theorem dX8_turn_45 : decode cX8_turn 45 = .ok (.aload_n 0, 1) := by decide +kernel
theorem dX8_turn_46 : decode cX8_turn 46 = .ok (.getfield 77, 3) := by decide +kernel
theorem dX8_turn_49 : decode cX8_turn 49 = .ok (.iload 4, 2) := by decide +kernel
theorem dX8_turn_51 : decode cX8_turn 51 = .ok (.laload, 1) := by decide +kernel
theorem dX8_turn_52 : decode cX8_turn 52 = .ok (.lmul, 1) := by decide +kernel
theorem dX8_turn_53 : decode cX8_turn 53 = .ok (.ladd, 1) := by decide +kernel
theorem dX8_turn_54 : decode cX8_turn 54 = .ok (.lstore_n 2, 1) := by decide +kernel
theorem dX8_turn_55 : decode cX8_turn 55 = .ok (.iinc 4 1, 3) := by decide +kernel
theorem dX8_turn_58 : decode cX8_turn 58 = .ok (.goto (-46), 3) := by decide +kernel
theorem dX8_turn_61 : decode cX8_turn 61 = .ok (.aload_n 0, 1) := by decide +kernel
theorem dX8_turn_62 : decode cX8_turn 62 = .ok (.getfield 77, 3) := by decide +kernel
theorem dX8_turn_65 : decode cX8_turn 65 = .ok (.iload_n 1, 1) := by decide +kernel
theorem dX8_turn_66 : decode cX8_turn 66 = .ok (.lload_n 2, 1) := by decide +kernel
theorem dX8_turn_67 : decode cX8_turn 67 = .ok (.lastore, 1) := by decide +kernel
theorem dX8_turn_68 : decode cX8_turn 68 = .ok (.aload_n 0, 1) := by decide +kernel
theorem dX8_turn_69 : decode cX8_turn 69 = .ok (.aload_n 0, 1) := by decide +kernel
theorem dX8_turn_70 : decode cX8_turn 70 = .ok (.getfield 81, 3) := by decide +kernel
theorem dX8_turn_73 : decode cX8_turn 73 = .ok (.ifCond .ne 16, 3) := by decide +kernel
theorem dX8_turn_76 : decode cX8_turn 76 = .ok (.lload_n 2, 1) := by decide +kernel
theorem dX8_turn_77 : decode cX8_turn 77 = .ok (.ldc2_w 85, 3) := by decide +kernel
theorem dX8_turn_80 : decode cX8_turn 80 = .ok (.ldc2_w 87, 3) := by decide +kernel
theorem dX8_turn_83 : decode cX8_turn 83 = .ok (.invokestatic 24, 3) := by decide +kernel
theorem dX8_turn_86 : decode cX8_turn 86 = .ok (.ifCond .ne 7, 3) := by decide +kernel
theorem dX8_turn_89 : decode cX8_turn 89 = .ok (.iconst 1, 1) := by decide +kernel
theorem dX8_turn_90 : decode cX8_turn 90 = .ok (.goto 4, 3) := by decide +kernel
theorem dX8_turn_93 : decode cX8_turn 93 = .ok (.iconst 0, 1) := by decide +kernel
theorem dX8_turn_94 : decode cX8_turn 94 = .ok (.putfield 81, 3) := by decide +kernel
theorem dX8_turn_97 : decode cX8_turn 97 = .ok (.return_, 1) := by decide +kernel
set_option maxRecDepth 20000 in
theorem ggX8_behind_X8_own : GoodIn wsX8_behind wsX8_own := goodIn_r _ [8, 9, 25, 26, 27, 28, 29, 30, 31, 32, 33, 34, 35, 36, 37, 38, 39, 40, 41, 42, 43, 44, 45, 46, 47, 48, 49, 50, 51, 52, 53, 54, 55, 56, 57] rfl (by decide +kernel)
set_option maxRecDepth 20000 in
theorem gX8_behind_X8_own : GoodIn wsX8_behind (wsV RX8 89 RX8 yX8_own wsX8_own) := goodIn_app (goodIn_of _ (by decide +kernel)) ggX8_behind_X8_own
set_option maxRecDepth 20000 in
theorem ggX8_behind_X8_isOwn : GoodIn wsX8_behind wsX8_isOwn := goodIn_r _ [13, 14, 9, 25, 26, 27, 28, 29, 30, 31, 32, 33, 34, 35, 36, 37, 38, 39, 40, 41, 42, 43, 44, 45, 46, 47, 48, 49, 50, 51, 52, 53, 54, 55, 56, 57] rfl (by decide +kernel)
set_option maxRecDepth 20000 in
theorem gX8_behind_X8_isOwn : GoodIn wsX8_behind (wsV RX8 98 RX8 yX8_isOwn wsX8_isOwn) := goodIn_app (goodIn_of _ (by decide +kernel)) ggX8_behind_X8_isOwn
set_option maxRecDepth 20000 in
theorem ggX8_behind_X8_turn : GoodIn wsX8_behind wsX8_turn := goodIn_r _ [18, 9, 14, 19, 3, 20, 21, 22, 23, 7, 24, 25, 26, 27, 28, 29, 30, 31, 32, 33, 34, 35, 36, 37, 38, 39, 40, 41, 42, 43, 44, 45, 46, 47, 48, 49, 50, 51, 52, 53, 54, 55, 56, 57] rfl (by decide +kernel)
set_option maxRecDepth 20000 in
theorem gX8_behind_X8_turn : GoodIn wsX8_behind (wsV RX8 101 RX8 yX8_turn wsX8_turn) := goodIn_app (goodIn_of _ (by decide +kernel)) ggX8_behind_X8_turn
theorem dX8_behind_0 : decode cX8_behind 0 = .ok (.aload_n 0, 1) := by decide +kernel
theorem dX8_behind_1 : decode cX8_behind 1 = .ok (.iload_n 1, 1) := by decide +kernel
theorem dX8_behind_2 : decode cX8_behind 2 = .ok (.invokevirtual 89, 3) := by decide +kernel
theorem dX8_behind_5 : decode cX8_behind 5 = .ok (.aload_n 0, 1) := by decide +kernel
theorem dX8_behind_6 : decode cX8_behind 6 = .ok (.getfield 92, 3) := by decide +kernel
theorem dX8_behind_9 : decode cX8_behind 9 = .ok (.iconst 1, 1) := by decide +kernel
theorem dX8_behind_10 : decode cX8_behind 10 = .ok (.isub, 1) := by decide +kernel
theorem dX8_behind_11 : decode cX8_behind 11 = .ok (.istore_n 2, 1) := by decide +kernel
theorem dX8_behind_12 : decode cX8_behind 12 = .ok (.iload_n 2, 1) := by decide +kernel
theorem dX8_behind_13 : decode cX8_behind 13 = .ok (.ifCond .lt 43, 3) := by decide +kernel
theorem dX8_behind_16 : decode cX8_behind 16 = .ok (.aload_n 0, 1) := by decide +kernel
theorem dX8_behind_17 : decode cX8_behind 17 = .ok (.aload_n 0, 1) := by decide +kernel
theorem dX8_behind_18 : decode cX8_behind 18 = .ok (.getfield 95, 3) := by decide +kernel
theorem dX8_behind_21 : decode cX8_behind 21 = .ok (.iload_n 2, 1) := by decide +kernel
theorem dX8_behind_22 : decode cX8_behind 22 = .ok (.iaload, 1) := by decide +kernel
theorem dX8_behind_23 : decode cX8_behind 23 = .ok (.invokevirtual 98, 3) := by decide +kernel
theorem dX8_behind_26 : decode cX8_behind 26 = .ok (.ifCond .eq 5, 3) := by decide +kernel
theorem dX8_behind_29 : decode cX8_behind 29 = .ok (.iload_n 2, 1) := by decide +kernel
theorem dX8_behind_30 : decode cX8_behind 30 = .ok (.ireturn, 1) := by decide +kernel
theorem dX8_behind_31 : decode cX8_behind 31 = .ok (.aload_n 0, 1) := by decide +kernel
theorem dX8_behind_32 : decode cX8_behind 32 = .ok (.aload_n 0, 1) := by decide +kernel
theorem dX8_behind_33 : decode cX8_behind 33 = .ok (.getfield 95, 3) := by decide +kernel
theorem dX8_behind_36 : decode cX8_behind 36 = .ok (.iload_n 2, 1) := by decide +kernel
theorem dX8_behind_37 : decode cX8_behind 37 = .ok (.iaload, 1) := by decide +kernel
theorem dX8_behind_38 : decode cX8_behind 38 = .ok (.invokevirtual 101, 3) := by decide +kernel
theorem dX8_behind_41 : decode cX8_behind 41 = .ok (.aload_n 0, 1) := by decide +kernel
theorem dX8_behind_42 : decode cX8_behind 42 = .ok (.getfield 81, 3) := by decide +kernel
theorem dX8_behind_45 : decode cX8_behind 45 = .ok (.ifCond .eq 5, 3) := by decide +kernel
theorem dX8_behind_48 : decode cX8_behind 48 = .ok (.iconst (-1), 1) := by decide +kernel
theorem dX8_behind_49 : decode cX8_behind 49 = .ok (.ireturn, 1) := by decide +kernel
theorem dX8_behind_50 : decode cX8_behind 50 = .ok (.iinc 2 (-1), 3) := by decide +kernel
theorem dX8_behind_53 : decode cX8_behind 53 = .ok (.goto (-41), 3) := by decide +kernel
theorem dX8_behind_56 : decode cX8_behind 56 = .ok (.iconst (-1), 1) := by decide +kernel
theorem dX8_behind_57 : decode cX8_behind 57 = .ok (.ireturn, 1) := by decide +kernel
set_option maxRecDepth 20000 in
theorem ggX8_ahead_X8_own : GoodIn wsX8_ahead wsX8_own := goodIn_r _ [8, 9, 25, 26, 27, 28, 29, 30, 31, 32, 33, 34, 35, 36, 37, 38, 39, 40, 41, 42, 43, 44, 45, 46, 47, 48, 49, 50, 51, 52, 53, 54, 55, 56, 57] rfl (by decide +kernel)
set_option maxRecDepth 20000 in
theorem gX8_ahead_X8_own : GoodIn wsX8_ahead (wsV RX8 89 RX8 yX8_own wsX8_own) := goodIn_app (goodIn_of _ (by decide +kernel)) ggX8_ahead_X8_own
set_option maxRecDepth 20000 in
theorem ggX8_ahead_X8_isOwn : GoodIn wsX8_ahead wsX8_isOwn := goodIn_r _ [13, 14, 9, 25, 26, 27, 28, 29, 30, 31, 32, 33, 34, 35, 36, 37, 38, 39, 40, 41, 42, 43, 44, 45, 46, 47, 48, 49, 50, 51, 52, 53, 54, 55, 56, 57] rfl (by decide +kernel)
set_option maxRecDepth 20000 in
theorem gX8_ahead_X8_isOwn : GoodIn wsX8_ahead (wsV RX8 98 RX8 yX8_isOwn wsX8_isOwn) := goodIn_app (goodIn_of _ (by decide +kernel)) ggX8_ahead_X8_isOwn
set_option maxRecDepth 20000 in
theorem ggX8_ahead_X8_turn : GoodIn wsX8_ahead wsX8_turn := goodIn_r _ [18, 9, 14, 19, 3, 20, 21, 22, 23, 7, 24, 25, 26, 27, 28, 29, 30, 31, 32, 33, 34, 35, 36, 37, 38, 39, 40, 41, 42, 43, 44, 45, 46, 47, 48, 49, 50, 51, 52, 53, 54, 55, 56, 57] rfl (by decide +kernel)
set_option maxRecDepth 20000 in
theorem gX8_ahead_X8_turn : GoodIn wsX8_ahead (wsV RX8 101 RX8 yX8_turn wsX8_turn) := goodIn_app (goodIn_of _ (by decide +kernel)) ggX8_ahead_X8_turn
theorem dX8_ahead_0 : decode cX8_ahead 0 = .ok (.aload_n 0, 1) := by decide +kernel
theorem dX8_ahead_1 : decode cX8_ahead 1 = .ok (.iload_n 1, 1) := by decide +kernel
theorem dX8_ahead_2 : decode cX8_ahead 2 = .ok (.invokevirtual 89, 3) := by decide +kernel
theorem dX8_ahead_5 : decode cX8_ahead 5 = .ok (.iconst 0, 1) := by decide +kernel
theorem dX8_ahead_6 : decode cX8_ahead 6 = .ok (.istore_n 2, 1) := by decide +kernel
theorem dX8_ahead_7 : decode cX8_ahead 7 = .ok (.iload_n 2, 1) := by decide +kernel
theorem dX8_ahead_8 : decode cX8_ahead 8 = .ok (.aload_n 0, 1) := by decide +kernel
theorem dX8_ahead_9 : decode cX8_ahead 9 = .ok (.getfield 92, 3) := by decide +kernel
theorem dX8_ahead_12 : decode cX8_ahead 12 = .ok (.if_icmp .ge 43, 3) := by decide +kernel
theorem dX8_ahead_15 : decode cX8_ahead 15 = .ok (.aload_n 0, 1) := by decide +kernel
theorem dX8_ahead_16 : decode cX8_ahead 16 = .ok (.aload_n 0, 1) := by decide +kernel
theorem dX8_ahead_17 : decode cX8_ahead 17 = .ok (.getfield 95, 3) := by decide +kernel
theorem dX8_ahead_20 : decode cX8_ahead 20 = .ok (.iload_n 2, 1) := by decide +kernel
theorem dX8_ahead_21 : decode cX8_ahead 21 = .ok (.iaload, 1) := by decide +kernel
theorem dX8_ahead_22 : decode cX8_ahead 22 = .ok (.invokevirtual 98, 3) := by decide +kernel
theorem dX8_ahead_25 : decode cX8_ahead 25 = .ok (.ifCond .eq 5, 3) := by decide +kernel
theorem dX8_ahead_28 : decode cX8_ahead 28 = .ok (.iload_n 2, 1) := by decide +kernel
theorem dX8_ahead_29 : decode cX8_ahead 29 = .ok (.ireturn, 1) := by decide +kernel
theorem dX8_ahead_30 : decode cX8_ahead 30 = .ok (.aload_n 0, 1) := by decide +kernel
theorem dX8_ahead_31 : decode cX8_ahead 31 = .ok (.aload_n 0, 1) := by decide +kernel
theorem dX8_ahead_32 : decode cX8_ahead 32 = .ok (.getfield 95, 3) := by decide +kernel
theorem dX8_ahead_35 : decode cX8_ahead 35 = .ok (.iload_n 2, 1) := by decide +kernel
theorem dX8_ahead_36 : decode cX8_ahead 36 = .ok (.iaload, 1) := by decide +kernel
theorem dX8_ahead_37 : decode cX8_ahead 37 = .ok (.invokevirtual 101, 3) := by decide +kernel
theorem dX8_ahead_40 : decode cX8_ahead 40 = .ok (.aload_n 0, 1) := by decide +kernel
theorem dX8_ahead_41 : decode cX8_ahead 41 = .ok (.getfield 81, 3) := by decide +kernel
theorem dX8_ahead_44 : decode cX8_ahead 44 = .ok (.ifCond .eq 5, 3) := by decide +kernel
theorem dX8_ahead_47 : decode cX8_ahead 47 = .ok (.iconst (-1), 1) := by decide +kernel
theorem dX8_ahead_48 : decode cX8_ahead 48 = .ok (.ireturn, 1) := by decide +kernel
theorem dX8_ahead_49 : decode cX8_ahead 49 = .ok (.iinc 2 1, 3) := by decide +kernel
theorem dX8_ahead_52 : decode cX8_ahead 52 = .ok (.goto (-45), 3) := by decide +kernel
theorem dX8_ahead_55 : decode cX8_ahead 55 = .ok (.iconst (-1), 1) := by decide +kernel
theorem dX8_ahead_56 : decode cX8_ahead 56 = .ok (.ireturn, 1) := by decide +kernel
theorem dX8_goesFromR_0 : decode cX8_goesFromR 0 = .ok (.iload_n 1, 1) := by decide +kernel
theorem dX8_goesFromR_1 : decode cX8_goesFromR 1 = .ok (.istore_n 2, 1) := by decide +kernel
theorem dX8_goesFromR_2 : decode cX8_goesFromR 2 = .ok (.iload_n 2, 1) := by decide +kernel
theorem dX8_goesFromR_3 : decode cX8_goesFromR 3 = .ok (.iconst 1, 1) := by decide +kernel
theorem dX8_goesFromR_4 : decode cX8_goesFromR 4 = .ok (.iadd, 1) := by decide +kernel
theorem dX8_goesFromR_5 : decode cX8_goesFromR 5 = .ok (.aload_n 0, 1) := by decide +kernel
theorem dX8_goesFromR_6 : decode cX8_goesFromR 6 = .ok (.getfield 92, 3) := by decide +kernel
theorem dX8_goesFromR_9 : decode cX8_goesFromR 9 = .ok (.if_icmp .ge 23, 3) := by decide +kernel
theorem dX8_goesFromR_12 : decode cX8_goesFromR 12 = .ok (.aload_n 0, 1) := by decide +kernel
theorem dX8_goesFromR_13 : decode cX8_goesFromR 13 = .ok (.getfield 95, 3) := by decide +kernel
theorem dX8_goesFromR_16 : decode cX8_goesFromR 16 = .ok (.iload_n 2, 1) := by decide +kernel
theorem dX8_goesFromR_17 : decode cX8_goesFromR 17 = .ok (.aload_n 0, 1) := by decide +kernel
theorem dX8_goesFromR_18 : decode cX8_goesFromR 18 = .ok (.getfield 95, 3) := by decide +kernel
theorem dX8_goesFromR_21 : decode cX8_goesFromR 21 = .ok (.iload_n 2, 1) := by decide +kernel
theorem dX8_goesFromR_22 : decode cX8_goesFromR 22 = .ok (.iconst 1, 1) := by decide +kernel
theorem dX8_goesFromR_23 : decode cX8_goesFromR 23 = .ok (.iadd, 1) := by decide +kernel
theorem dX8_goesFromR_24 : decode cX8_goesFromR 24 = .ok (.iaload, 1) := by decide +kernel
theorem dX8_goesFromR_25 : decode cX8_goesFromR 25 = .ok (.iastore, 1) := by decide +kernel
theorem dX8_goesFromR_26 : decode cX8_goesFromR 26 = .ok (.iinc 2 1, 3) := by decide +kernel
theorem dX8_goesFromR_29 : decode cX8_goesFromR 29 = .ok (.goto (-27), 3) := by decide +kernel
theorem dX8_goesFromR_32 : decode cX8_goesFromR 32 = .ok (.aload_n 0, 1) := by decide +kernel
theorem dX8_goesFromR_33 : decode cX8_goesFromR 33 = .ok (.dup, 1) := by decide +kernel
theorem dX8_goesFromR_34 : decode cX8_goesFromR 34 = .ok (.getfield 92, 3) := by decide +kernel
theorem dX8_goesFromR_37 : decode cX8_goesFromR 37 = .ok (.iconst 1, 1) := by decide +kernel
theorem dX8_goesFromR_38 : decode cX8_goesFromR 38 = .ok (.isub, 1) := by decide +kernel
theorem dX8_goesFromR_39 : decode cX8_goesFromR 39 = .ok (.putfield 92, 3) := by decide +kernel
theorem dX8_goesFromR_42 : decode cX8_goesFromR 42 = .ok (.return_, 1) := by decide +kernel
set_option maxRecDepth 20000 in
theorem ggX8_shortOf_X8_behind : GoodIn wsX8_shortOf wsX8_behind := goodIn_r _ [10, 2, 5, 1, 11, 12, 13, 9, 14, 15, 16, 17, 18, 19, 20, 21, 22, 23, 24, 25, 26, 27, 28, 29, 30, 35, 36, 37, 38, 39, 40, 41, 42, 43, 44, 45, 46, 47, 48, 49, 50, 51, 52, 53, 54, 55, 56, 57, 58, 59, 60, 61, 62, 63, 64, 65, 66, 67] rfl (by decide +kernel)
set_option maxRecDepth 20000 in
theorem gX8_shortOf_X8_behind : GoodIn wsX8_shortOf (wsV RX8 104 RX8 yX8_behind wsX8_behind) := goodIn_app (goodIn_of _ (by decide +kernel)) ggX8_shortOf_X8_behind
set_option maxRecDepth 20000 in
theorem ggX8_shortOf_X8_goesFromR : GoodIn wsX8_shortOf wsX8_goesFromR := goodIn_r _ [34, 2, 5, 35, 36, 37, 38, 39, 40, 41, 42, 43, 44, 45, 46, 47, 48, 49, 50, 51, 52, 53, 54, 55, 56, 57, 58, 59, 60, 61, 62, 63, 64, 65, 66, 67] rfl (by decide +kernel)
set_option maxRecDepth 20000 in
theorem gX8_shortOf_X8_goesFromR : GoodIn wsX8_shortOf (wsV RX8 107 RX8 yX8_goesFromR wsX8_goesFromR) := goodIn_app (goodIn_of _ (by decide +kernel)) ggX8_shortOf_X8_goesFromR
theorem dX8_shortOf_0 : decode cX8_shortOf 0 = .ok (.aload_n 0, 1) := by decide +kernel
theorem dX8_shortOf_1 : decode cX8_shortOf 1 = .ok (.iconst 0, 1) := by decide +kernel
theorem dX8_shortOf_2 : decode cX8_shortOf 2 = .ok (.putfield 81, 3) := by decide +kernel
theorem dX8_shortOf_5 : decode cX8_shortOf 5 = .ok (.aload_n 0, 1) := by decide +kernel
theorem dX8_shortOf_6 : decode cX8_shortOf 6 = .ok (.iconst 0, 1) := by decide +kernel
theorem dX8_shortOf_7 : decode cX8_shortOf 7 = .ok (.putfield 92, 3) := by decide +kernel
theorem dX8_shortOf_10 : decode cX8_shortOf 10 = .ok (.iconst 0, 1) := by decide +kernel
theorem dX8_shortOf_11 : decode cX8_shortOf 11 = .ok (.istore_n 1, 1) := by decide +kernel
theorem dX8_shortOf_12 : decode cX8_shortOf 12 = .ok (.iload_n 1, 1) := by decide +kernel
theorem dX8_shortOf_13 : decode cX8_shortOf 13 = .ok (.aload_n 0, 1) := by decide +kernel
theorem dX8_shortOf_14 : decode cX8_shortOf 14 = .ok (.getfield 57, 3) := by decide +kernel
theorem dX8_shortOf_17 : decode cX8_shortOf 17 = .ok (.if_icmp .ge 66, 3) := by decide +kernel
theorem dX8_shortOf_20 : decode cX8_shortOf 20 = .ok (.aload_n 0, 1) := by decide +kernel
theorem dX8_shortOf_21 : decode cX8_shortOf 21 = .ok (.aload_n 0, 1) := by decide +kernel
theorem dX8_shortOf_22 : decode cX8_shortOf 22 = .ok (.getfield 60, 3) := by decide +kernel
theorem dX8_shortOf_25 : decode cX8_shortOf 25 = .ok (.iload_n 1, 1) := by decide +kernel
theorem dX8_shortOf_26 : decode cX8_shortOf 26 = .ok (.iaload, 1) := by decide +kernel
theorem dX8_shortOf_27 : decode cX8_shortOf 27 = .ok (.invokevirtual 104, 3) := by decide +kernel
theorem dX8_shortOf_30 : decode cX8_shortOf 30 = .ok (.istore_n 2, 1) := by decide +kernel
theorem dX8_shortOf_31 : decode cX8_shortOf 31 = .ok (.aload_n 0, 1) := by decide +kernel
theorem dX8_shortOf_32 : decode cX8_shortOf 32 = .ok (.getfield 81, 3) := by decide +kernel
theorem dX8_shortOf_35 : decode cX8_shortOf 35 = .ok (.ifCond .eq 5, 3) := by decide +kernel
theorem dX8_shortOf_38 : decode cX8_shortOf 38 = .ok (.iconst 0, 1) := by decide +kernel
theorem dX8_shortOf_39 : decode cX8_shortOf 39 = .ok (.ireturn, 1) := by decide +kernel
theorem dX8_shortOf_40 : decode cX8_shortOf 40 = .ok (.iload_n 2, 1) := by decide +kernel
theorem dX8_shortOf_41 : decode cX8_shortOf 41 = .ok (.ifCond .lt 11, 3) := by decide +kernel
theorem dX8_shortOf_44 : decode cX8_shortOf 44 = .ok (.aload_n 0, 1) := by decide +kernel
theorem dX8_shortOf_45 : decode cX8_shortOf 45 = .ok (.iload_n 2, 1) := by decide +kernel
theorem dX8_shortOf_46 : decode cX8_shortOf 46 = .ok (.invokevirtual 107, 3) := by decide +kernel
theorem dX8_shortOf_49 : decode cX8_shortOf 49 = .ok (.goto 28, 3) := by decide +kernel
theorem dX8_shortOf_52 : decode cX8_shortOf 52 = .ok (.aload_n 0, 1) := by decide +kernel
theorem dX8_shortOf_53 : decode cX8_shortOf 53 = .ok (.getfield 95, 3) := by decide +kernel
theorem dX8_shortOf_56 : decode cX8_shortOf 56 = .ok (.aload_n 0, 1) := by decide +kernel
theorem dX8_shortOf_57 : decode cX8_shortOf 57 = .ok (.getfield 92, 3) := by decide +kernel
theorem dX8_shortOf_60 : decode cX8_shortOf 60 = .ok (.aload_n 0, 1) := by decide +kernel
theorem dX8_shortOf_61 : decode cX8_shortOf 61 = .ok (.getfield 60, 3) := by decide +kernel
theorem dX8_shortOf_64 : decode cX8_shortOf 64 = .ok (.iload_n 1, 1) := by decide +kernel
theorem dX8_shortOf_65 : decode cX8_shortOf 65 = .ok (.iaload, 1) := by decide +kernel
theorem dX8_shortOf_66 : decode cX8_shortOf 66 = .ok (.iastore, 1) := by decide +kernel
theorem dX8_shortOf_67 : decode cX8_shortOf 67 = .ok (.aload_n 0, 1) := by decide +kernel
theorem dX8_shortOf_68 : decode cX8_shortOf 68 = .ok (.dup, 1) := by decide +kernel
theorem dX8_shortOf_69 : decode cX8_shortOf 69 = .ok (.getfield 92, 3) := by decide +kernel
theorem dX8_shortOf_72 : decode cX8_shortOf 72 = .ok (.iconst 1, 1) := by decide +kernel
theorem dX8_shortOf_73 : decode cX8_shortOf 73 = .ok (.iadd, 1) := by decide +kernel
theorem dX8_shortOf_74 : decode cX8_shortOf 74 = .ok (.putfield 92, 3) := by decide +kernel
theorem dX8_shortOf_77 : decode cX8_shortOf 77 = .ok (.iinc 1 1, 3) := by decide +kernel
theorem dX8_shortOf_80 : decode cX8_shortOf 80 = .ok (.goto (-68), 3) := by decide +kernel
theorem dX8_shortOf_83 : decode cX8_shortOf 83 = .ok (.iconst 1, 1) := by decide +kernel
theorem dX8_shortOf_84 : decode cX8_shortOf 84 = .ok (.ireturn, 1) := by decide +kernel
set_option maxRecDepth 20000 in
theorem ggX8_formOfR_X8_ahead : GoodIn wsX8_formOfR wsX8_ahead := goodIn_r _ [10, 3, 11, 1, 12, 13, 14, 9, 15, 16, 17, 18, 19, 20, 4, 21, 22, 23, 24, 25, 26, 27, 28, 29, 30, 35, 36, 37, 38, 39, 40, 41, 42, 43, 44, 45, 46, 47, 48, 49, 50, 51, 52, 53, 54, 55, 56, 57, 58, 59, 60, 61, 62, 63, 64, 65, 66, 67] rfl (by decide +kernel)
set_option maxRecDepth 20000 in
theorem gX8_formOfR_X8_ahead : GoodIn wsX8_formOfR (wsV RX8 113 RX8 yX8_ahead wsX8_ahead) := goodIn_app (goodIn_of _ (by decide +kernel)) ggX8_formOfR_X8_ahead
set_option maxRecDepth 20000 in
theorem ggX8_formOfR_X8_goesFromR : GoodIn wsX8_formOfR wsX8_goesFromR := goodIn_r _ [34, 3, 11, 35, 36, 37, 38, 39, 40, 41, 42, 43, 44, 45, 46, 47, 48, 49, 50, 51, 52, 53, 54, 55, 56, 57, 58, 59, 60, 61, 62, 63, 64, 65, 66, 67] rfl (by decide +kernel)
set_option maxRecDepth 20000 in
theorem gX8_formOfR_X8_goesFromR : GoodIn wsX8_formOfR (wsV RX8 107 RX8 yX8_goesFromR wsX8_goesFromR) := goodIn_app (goodIn_of _ (by decide +kernel)) ggX8_formOfR_X8_goesFromR
theorem dX8_formOfR_0 : decode cX8_formOfR 0 = .ok (.aload_n 0, 1) := by decide +kernel
theorem dX8_formOfR_1 : decode cX8_formOfR 1 = .ok (.iconst 0, 1) := by decide +kernel
theorem dX8_formOfR_2 : decode cX8_formOfR 2 = .ok (.putfield 81, 3) := by decide +kernel
theorem dX8_formOfR_5 : decode cX8_formOfR 5 = .ok (.aload_n 0, 1) := by decide +kernel
theorem dX8_formOfR_6 : decode cX8_formOfR 6 = .ok (.iconst 0, 1) := by decide +kernel
theorem dX8_formOfR_7 : decode cX8_formOfR 7 = .ok (.putfield 110, 3) := by decide +kernel
theorem dX8_formOfR_10 : decode cX8_formOfR 10 = .ok (.aload_n 0, 1) := by decide +kernel
theorem dX8_formOfR_11 : decode cX8_formOfR 11 = .ok (.getfield 92, 3) := by decide +kernel
theorem dX8_formOfR_14 : decode cX8_formOfR 14 = .ok (.ifCond .le 85, 3) := by decide +kernel
theorem dX8_formOfR_17 : decode cX8_formOfR 17 = .ok (.iconst 0, 1) := by decide +kernel
theorem dX8_formOfR_18 : decode cX8_formOfR 18 = .ok (.istore_n 1, 1) := by decide +kernel
theorem dX8_formOfR_19 : decode cX8_formOfR 19 = .ok (.aload_n 0, 1) := by decide +kernel
theorem dX8_formOfR_20 : decode cX8_formOfR 20 = .ok (.iconst 0, 1) := by decide +kernel
theorem dX8_formOfR_21 : decode cX8_formOfR 21 = .ok (.invokevirtual 113, 3) := by decide +kernel
theorem dX8_formOfR_24 : decode cX8_formOfR 24 = .ok (.istore_n 2, 1) := by decide +kernel
theorem dX8_formOfR_25 : decode cX8_formOfR 25 = .ok (.iload_n 2, 1) := by decide +kernel
theorem dX8_formOfR_26 : decode cX8_formOfR 26 = .ok (.ifCond .ge 32, 3) := by decide +kernel
theorem dX8_formOfR_29 : decode cX8_formOfR 29 = .ok (.aload_n 0, 1) := by decide +kernel
theorem dX8_formOfR_30 : decode cX8_formOfR 30 = .ok (.getfield 81, 3) := by decide +kernel
theorem dX8_formOfR_33 : decode cX8_formOfR 33 = .ok (.ifCond .ne 25, 3) := by decide +kernel
theorem dX8_formOfR_36 : decode cX8_formOfR 36 = .ok (.iload_n 1, 1) := by decide +kernel
theorem dX8_formOfR_37 : decode cX8_formOfR 37 = .ok (.iconst 1, 1) := by decide +kernel
theorem dX8_formOfR_38 : decode cX8_formOfR 38 = .ok (.iadd, 1) := by decide +kernel
theorem dX8_formOfR_39 : decode cX8_formOfR 39 = .ok (.aload_n 0, 1) := by decide +kernel
theorem dX8_formOfR_40 : decode cX8_formOfR 40 = .ok (.getfield 11, 3) := by decide +kernel
theorem dX8_formOfR_43 : decode cX8_formOfR 43 = .ok (.if_icmp .ge 15, 3) := by decide +kernel
theorem dX8_formOfR_46 : decode cX8_formOfR 46 = .ok (.iinc 1 1, 3) := by decide +kernel
theorem dX8_formOfR_49 : decode cX8_formOfR 49 = .ok (.aload_n 0, 1) := by decide +kernel
theorem dX8_formOfR_50 : decode cX8_formOfR 50 = .ok (.iload_n 1, 1) := by decide +kernel
theorem dX8_formOfR_51 : decode cX8_formOfR 51 = .ok (.invokevirtual 113, 3) := by decide +kernel
theorem dX8_formOfR_54 : decode cX8_formOfR 54 = .ok (.istore_n 2, 1) := by decide +kernel
theorem dX8_formOfR_55 : decode cX8_formOfR 55 = .ok (.goto (-30), 3) := by decide +kernel
theorem dX8_formOfR_58 : decode cX8_formOfR 58 = .ok (.aload_n 0, 1) := by decide +kernel
theorem dX8_formOfR_59 : decode cX8_formOfR 59 = .ok (.getfield 81, 3) := by decide +kernel
theorem dX8_formOfR_62 : decode cX8_formOfR 62 = .ok (.ifCond .ne 7, 3) := by decide +kernel
theorem dX8_formOfR_65 : decode cX8_formOfR 65 = .ok (.iload_n 2, 1) := by decide +kernel
theorem dX8_formOfR_66 : decode cX8_formOfR 66 = .ok (.ifCond .ge 5, 3) := by decide +kernel
theorem dX8_formOfR_69 : decode cX8_formOfR 69 = .ok (.iconst 0, 1) := by decide +kernel
theorem dX8_formOfR_70 : decode cX8_formOfR 70 = .ok (.ireturn, 1) := by decide +kernel
theorem dX8_formOfR_71 : decode cX8_formOfR 71 = .ok (.aload_n 0, 1) := by decide +kernel
theorem dX8_formOfR_72 : decode cX8_formOfR 72 = .ok (.iload_n 2, 1) := by decide +kernel
theorem dX8_formOfR_73 : decode cX8_formOfR 73 = .ok (.invokevirtual 107, 3) := by decide +kernel
theorem dX8_formOfR_76 : decode cX8_formOfR 76 = .ok (.aload_n 0, 1) := by decide +kernel
theorem dX8_formOfR_77 : decode cX8_formOfR 77 = .ok (.getfield 116, 3) := by decide +kernel
theorem dX8_formOfR_80 : decode cX8_formOfR 80 = .ok (.aload_n 0, 1) := by decide +kernel
theorem dX8_formOfR_81 : decode cX8_formOfR 81 = .ok (.getfield 110, 3) := by decide +kernel
theorem dX8_formOfR_84 : decode cX8_formOfR 84 = .ok (.iload_n 1, 1) := by decide +kernel
theorem dX8_formOfR_85 : decode cX8_formOfR 85 = .ok (.iastore, 1) := by decide +kernel
theorem dX8_formOfR_86 : decode cX8_formOfR 86 = .ok (.aload_n 0, 1) := by decide +kernel
theorem dX8_formOfR_87 : decode cX8_formOfR 87 = .ok (.dup, 1) := by decide +kernel
theorem dX8_formOfR_88 : decode cX8_formOfR 88 = .ok (.getfield 110, 3) := by decide +kernel
theorem dX8_formOfR_91 : decode cX8_formOfR 91 = .ok (.iconst 1, 1) := by decide +kernel
theorem dX8_formOfR_92 : decode cX8_formOfR 92 = .ok (.iadd, 1) := by decide +kernel
theorem dX8_formOfR_93 : decode cX8_formOfR 93 = .ok (.putfield 110, 3) := by decide +kernel
theorem dX8_formOfR_96 : decode cX8_formOfR 96 = .ok (.goto (-86), 3) := by decide +kernel
theorem dX8_formOfR_99 : decode cX8_formOfR 99 = .ok (.iconst 1, 1) := by decide +kernel
theorem dX8_formOfR_100 : decode cX8_formOfR 100 = .ok (.ireturn, 1) := by decide +kernel
set_option maxRecDepth 20000 in
theorem ggX8_formOfW_X8_shortOf : GoodIn wsX8_formOfW wsX8_shortOf := goodIn_r _ [9, 10, 11, 2, 3, 12, 13, 14, 15, 8, 16, 17, 18, 19, 20, 21, 22, 23, 24, 25, 26, 27, 28, 29, 30, 31, 32, 33, 34, 35, 36, 37, 38, 39, 40, 49, 50, 51, 52, 53, 54, 55, 56, 57, 58, 59, 60, 61, 62, 63, 64, 65, 66, 67, 68, 69, 70, 71, 72, 73, 74, 75, 76, 77, 78, 79, 80, 81] rfl (by decide +kernel)
set_option maxRecDepth 20000 in
theorem gX8_formOfW_X8_shortOf : GoodIn wsX8_formOfW (wsV RX8 119 RX8 yX8_shortOf wsX8_shortOf) := goodIn_app (goodIn_of _ (by decide +kernel)) ggX8_formOfW_X8_shortOf
set_option maxRecDepth 20000 in
theorem ggX8_formOfW_X8_formOfR : GoodIn wsX8_formOfW wsX8_formOfR := goodIn_r _ [44, 10, 1, 11, 26, 4, 45, 46, 47, 8, 48, 12, 17, 18, 19, 20, 21, 22, 23, 24, 25, 27, 28, 29, 30, 31, 32, 33, 34, 35, 36, 37, 38, 39, 40, 49, 50, 51, 52, 53, 54, 55, 56, 57, 58, 59, 60, 61, 62, 63, 64, 65, 66, 67, 68, 69, 70, 71, 72, 73, 74, 75, 76, 77, 78, 79, 80, 81] rfl (by decide +kernel)
set_option maxRecDepth 20000 in
theorem gX8_formOfW_X8_formOfR : GoodIn wsX8_formOfW (wsV RX8 123 RX8 yX8_formOfR wsX8_formOfR) := goodIn_app (goodIn_of _ (by decide +kernel)) ggX8_formOfW_X8_formOfR
theorem dX8_formOfW_0 : decode cX8_formOfW 0 = .ok (.aload_n 0, 1) := by decide +kernel
theorem dX8_formOfW_1 : decode cX8_formOfW 1 = .ok (.invokevirtual 119, 3) := by decide +kernel
theorem dX8_formOfW_4 : decode cX8_formOfW 4 = .ok (.ifCond .eq 10, 3) := by decide +kernel
theorem dX8_formOfW_7 : decode cX8_formOfW 7 = .ok (.aload_n 0, 1) := by decide +kernel
theorem dX8_formOfW_8 : decode cX8_formOfW 8 = .ok (.invokevirtual 123, 3) := by decide +kernel
theorem dX8_formOfW_11 : decode cX8_formOfW 11 = .ok (.ifCond .ne 5, 3) := by decide +kernel
theorem dX8_formOfW_14 : decode cX8_formOfW 14 = .ok (.iconst 0, 1) := by decide +kernel
theorem dX8_formOfW_15 : decode cX8_formOfW 15 = .ok (.ireturn, 1) := by decide +kernel
theorem dX8_formOfW_16 : decode cX8_formOfW 16 = .ok (.aload_n 0, 1) := by decide +kernel
theorem dX8_formOfW_17 : decode cX8_formOfW 17 = .ok (.aload_n 0, 1) := by decide +kernel
theorem dX8_formOfW_18 : decode cX8_formOfW 18 = .ok (.getfield 110, 3) := by decide +kernel
theorem dX8_formOfW_21 : decode cX8_formOfW 21 = .ok (.putfield 57, 3) := by decide +kernel
theorem dX8_formOfW_24 : decode cX8_formOfW 24 = .ok (.iconst 0, 1) := by decide +kernel
theorem dX8_formOfW_25 : decode cX8_formOfW 25 = .ok (.istore_n 1, 1) := by decide +kernel
theorem dX8_formOfW_26 : decode cX8_formOfW 26 = .ok (.iload_n 1, 1) := by decide +kernel
theorem dX8_formOfW_27 : decode cX8_formOfW 27 = .ok (.aload_n 0, 1) := by decide +kernel
theorem dX8_formOfW_28 : decode cX8_formOfW 28 = .ok (.getfield 110, 3) := by decide +kernel
theorem dX8_formOfW_31 : decode cX8_formOfW 31 = .ok (.if_icmp .ge 21, 3) := by decide +kernel
theorem dX8_formOfW_34 : decode cX8_formOfW 34 = .ok (.aload_n 0, 1) := by decide +kernel
theorem dX8_formOfW_35 : decode cX8_formOfW 35 = .ok (.getfield 60, 3) := by decide +kernel
theorem dX8_formOfW_38 : decode cX8_formOfW 38 = .ok (.iload_n 1, 1) := by decide +kernel
theorem dX8_formOfW_39 : decode cX8_formOfW 39 = .ok (.aload_n 0, 1) := by decide +kernel
theorem dX8_formOfW_40 : decode cX8_formOfW 40 = .ok (.getfield 116, 3) := by decide +kernel
theorem dX8_formOfW_43 : decode cX8_formOfW 43 = .ok (.iload_n 1, 1) := by decide +kernel
theorem dX8_formOfW_44 : decode cX8_formOfW 44 = .ok (.iaload, 1) := by decide +kernel
theorem dX8_formOfW_45 : decode cX8_formOfW 45 = .ok (.iastore, 1) := by decide +kernel
theorem dX8_formOfW_46 : decode cX8_formOfW 46 = .ok (.iinc 1 1, 3) := by decide +kernel
theorem dX8_formOfW_49 : decode cX8_formOfW 49 = .ok (.goto (-23), 3) := by decide +kernel
theorem dX8_formOfW_52 : decode cX8_formOfW 52 = .ok (.iconst 1, 1) := by decide +kernel
theorem dX8_formOfW_53 : decode cX8_formOfW 53 = .ok (.ireturn, 1) := by decide +kernel
theorem dX8_rToW_0 : decode cX8_rToW 0 = .ok (.aload_n 0, 1) := by decide +kernel
theorem dX8_rToW_1 : decode cX8_rToW 1 = .ok (.aload_n 0, 1) := by decide +kernel
theorem dX8_rToW_2 : decode cX8_rToW 2 = .ok (.getfield 92, 3) := by decide +kernel
theorem dX8_rToW_5 : decode cX8_rToW 5 = .ok (.putfield 57, 3) := by decide +kernel
theorem dX8_rToW_8 : decode cX8_rToW 8 = .ok (.iconst 0, 1) := by decide +kernel
theorem dX8_rToW_9 : decode cX8_rToW 9 = .ok (.istore_n 1, 1) := by decide +kernel
theorem dX8_rToW_10 : decode cX8_rToW 10 = .ok (.iload_n 1, 1) := by decide +kernel
theorem dX8_rToW_11 : decode cX8_rToW 11 = .ok (.aload_n 0, 1) := by decide +kernel
theorem dX8_rToW_12 : decode cX8_rToW 12 = .ok (.getfield 92, 3) := by decide +kernel
theorem dX8_rToW_15 : decode cX8_rToW 15 = .ok (.if_icmp .ge 21, 3) := by decide +kernel
theorem dX8_rToW_18 : decode cX8_rToW 18 = .ok (.aload_n 0, 1) := by decide +kernel
theorem dX8_rToW_19 : decode cX8_rToW 19 = .ok (.getfield 60, 3) := by decide +kernel
theorem dX8_rToW_22 : decode cX8_rToW 22 = .ok (.iload_n 1, 1) := by decide +kernel
theorem dX8_rToW_23 : decode cX8_rToW 23 = .ok (.aload_n 0, 1) := by decide +kernel
theorem dX8_rToW_24 : decode cX8_rToW 24 = .ok (.getfield 95, 3) := by decide +kernel
theorem dX8_rToW_27 : decode cX8_rToW 27 = .ok (.iload_n 1, 1) := by decide +kernel
theorem dX8_rToW_28 : decode cX8_rToW 28 = .ok (.iaload, 1) := by decide +kernel
theorem dX8_rToW_29 : decode cX8_rToW 29 = .ok (.iastore, 1) := by decide +kernel
theorem dX8_rToW_30 : decode cX8_rToW 30 = .ok (.iinc 1 1, 3) := by decide +kernel
theorem dX8_rToW_33 : decode cX8_rToW 33 = .ok (.goto (-23), 3) := by decide +kernel
theorem dX8_rToW_36 : decode cX8_rToW 36 = .ok (.return_, 1) := by decide +kernel
theorem dX8_wToV_0 : decode cX8_wToV 0 = .ok (.aload_n 0, 1) := by decide +kernel
theorem dX8_wToV_1 : decode cX8_wToV 1 = .ok (.aload_n 0, 1) := by decide +kernel
theorem dX8_wToV_2 : decode cX8_wToV 2 = .ok (.getfield 57, 3) := by decide +kernel
theorem dX8_wToV_5 : decode cX8_wToV 5 = .ok (.putfield 126, 3) := by decide +kernel
theorem dX8_wToV_8 : decode cX8_wToV 8 = .ok (.iconst 0, 1) := by decide +kernel
theorem dX8_wToV_9 : decode cX8_wToV 9 = .ok (.istore_n 1, 1) := by decide +kernel
theorem dX8_wToV_10 : decode cX8_wToV 10 = .ok (.iload_n 1, 1) := by decide +kernel
theorem dX8_wToV_11 : decode cX8_wToV 11 = .ok (.aload_n 0, 1) := by decide +kernel
theorem dX8_wToV_12 : decode cX8_wToV 12 = .ok (.getfield 57, 3) := by decide +kernel
theorem dX8_wToV_15 : decode cX8_wToV 15 = .ok (.if_icmp .ge 21, 3) := by decide +kernel
theorem dX8_wToV_18 : decode cX8_wToV 18 = .ok (.aload_n 0, 1) := by decide +kernel
theorem dX8_wToV_19 : decode cX8_wToV 19 = .ok (.getfield 129, 3) := by decide +kernel
theorem dX8_wToV_22 : decode cX8_wToV 22 = .ok (.iload_n 1, 1) := by decide +kernel
theorem dX8_wToV_23 : decode cX8_wToV 23 = .ok (.aload_n 0, 1) := by decide +kernel
theorem dX8_wToV_24 : decode cX8_wToV 24 = .ok (.getfield 60, 3) := by decide +kernel
theorem dX8_wToV_27 : decode cX8_wToV 27 = .ok (.iload_n 1, 1) := by decide +kernel
theorem dX8_wToV_28 : decode cX8_wToV 28 = .ok (.iaload, 1) := by decide +kernel
theorem dX8_wToV_29 : decode cX8_wToV 29 = .ok (.iastore, 1) := by decide +kernel
theorem dX8_wToV_30 : decode cX8_wToV 30 = .ok (.iinc 1 1, 3) := by decide +kernel
theorem dX8_wToV_33 : decode cX8_wToV 33 = .ok (.goto (-23), 3) := by decide +kernel
theorem dX8_wToV_36 : decode cX8_wToV 36 = .ok (.return_, 1) := by decide +kernel
set_option maxRecDepth 20000 in
theorem ggX8_shorten_X8_isSlot : GoodIn wsX8_shorten wsX8_isSlot := goodIn_r _ [4, 5, 6, 7, 3, 8] rfl (by decide +kernel)
set_option maxRecDepth 20000 in
theorem gX8_shorten_X8_isSlot : GoodIn wsX8_shorten (va_wsS RX8 48 yX8_isSlot wsX8_isSlot) := goodIn_app (goodIn_of _ (by decide +kernel)) ggX8_shorten_X8_isSlot
set_option maxRecDepth 20000 in
theorem ggX8_shorten_X8_load : GoodIn wsX8_shorten wsX8_load := goodIn_r _ [12, 13, 14, 15, 16, 57, 58, 59, 60, 61, 62, 63, 64, 65, 66, 67, 68, 69, 70, 71, 72, 73, 74, 75, 76, 77, 78, 79, 80, 81, 82, 83, 84, 85, 86, 87, 88, 89] rfl (by decide +kernel)
set_option maxRecDepth 20000 in
theorem gX8_shorten_X8_load : GoodIn wsX8_shorten (wsV RX8 63 RX8 yX8_load wsX8_load) := goodIn_app (goodIn_of _ (by decide +kernel)) ggX8_shorten_X8_load
set_option maxRecDepth 20000 in
theorem ggX8_shorten_X8_shortOf : GoodIn wsX8_shorten wsX8_shortOf := goodIn_r _ [20, 21, 22, 14, 15, 23, 24, 25, 26, 3, 27, 28, 29, 30, 31, 32, 33, 34, 35, 36, 37, 38, 39, 40, 41, 42, 43, 44, 6, 7, 8, 45, 46, 47, 48, 57, 58, 59, 60, 61, 62, 63, 64, 65, 66, 67, 68, 69, 70, 71, 72, 73, 74, 75, 76, 77, 78, 79, 80, 81, 82, 83, 84, 85, 86, 87, 88, 89] rfl (by decide +kernel)
set_option maxRecDepth 20000 in
theorem gX8_shorten_X8_shortOf : GoodIn wsX8_shorten (wsV RX8 119 RX8 yX8_shortOf wsX8_shortOf) := goodIn_app (goodIn_of _ (by decide +kernel)) ggX8_shorten_X8_shortOf
set_option maxRecDepth 20000 in
theorem ggX8_shorten_X8_rToW : GoodIn wsX8_shorten wsX8_rToW := goodIn_r _ [52, 22, 14, 15, 23, 57, 58, 59, 60, 61, 62, 63, 64, 65, 66, 67, 68, 69, 70, 71, 72, 73, 74, 75, 76, 77, 78, 79, 80, 81, 82, 83, 84, 85, 86, 87, 88, 89] rfl (by decide +kernel)
set_option maxRecDepth 20000 in
theorem gX8_shorten_X8_rToW : GoodIn wsX8_shorten (wsV RX8 132 RX8 yX8_rToW wsX8_rToW) := goodIn_app (goodIn_of _ (by decide +kernel)) ggX8_shorten_X8_rToW
set_option maxRecDepth 20000 in
theorem ggX8_shorten_X8_store : GoodIn wsX8_shorten wsX8_store := goodIn_r _ [56, 13, 14, 16, 15, 57, 58, 59, 60, 61, 62, 63, 64, 65, 66, 67, 68, 69, 70, 71, 72, 73, 74, 75, 76, 77, 78, 79, 80, 81, 82, 83, 84, 85, 86, 87, 88, 89] rfl (by decide +kernel)
set_option maxRecDepth 20000 in
theorem gX8_shorten_X8_store : GoodIn wsX8_shorten (wsV RX8 70 RX8 yX8_store wsX8_store) := goodIn_app (goodIn_of _ (by decide +kernel)) ggX8_shorten_X8_store
theorem dX8_shorten_0 : decode cX8_shorten 0 = .ok (.iload_n 1, 1) := by decide +kernel
theorem dX8_shorten_1 : decode cX8_shorten 1 = .ok (.invokestatic 48, 3) := by decide +kernel
theorem dX8_shorten_4 : decode cX8_shorten 4 = .ok (.ifCond .eq 10, 3) := by decide +kernel
theorem dX8_shorten_7 : decode cX8_shorten 7 = .ok (.iload_n 2, 1) := by decide +kernel
theorem dX8_shorten_8 : decode cX8_shorten 8 = .ok (.invokestatic 48, 3) := by decide +kernel
theorem dX8_shorten_11 : decode cX8_shorten 11 = .ok (.ifCond .ne 5, 3) := by decide +kernel
theorem dX8_shorten_14 : decode cX8_shorten 14 = .ok (.iconst (-1), 1) := by decide +kernel
theorem dX8_shorten_15 : decode cX8_shorten 15 = .ok (.ireturn, 1) := by decide +kernel
theorem dX8_shorten_16 : decode cX8_shorten 16 = .ok (.aload_n 0, 1) := by decide +kernel
theorem dX8_shorten_17 : decode cX8_shorten 17 = .ok (.iload_n 1, 1) := by decide +kernel
theorem dX8_shorten_18 : decode cX8_shorten 18 = .ok (.invokevirtual 63, 3) := by decide +kernel
theorem dX8_shorten_21 : decode cX8_shorten 21 = .ok (.aload_n 0, 1) := by decide +kernel
theorem dX8_shorten_22 : decode cX8_shorten 22 = .ok (.invokevirtual 119, 3) := by decide +kernel
theorem dX8_shorten_25 : decode cX8_shorten 25 = .ok (.ifCond .ne 6, 3) := by decide +kernel
theorem dX8_shorten_28 : decode cX8_shorten 28 = .ok (.bipush (-4), 2) := by decide +kernel
theorem dX8_shorten_30 : decode cX8_shorten 30 = .ok (.ireturn, 1) := by decide +kernel
theorem dX8_shorten_31 : decode cX8_shorten 31 = .ok (.aload_n 0, 1) := by decide +kernel
theorem dX8_shorten_32 : decode cX8_shorten 32 = .ok (.invokevirtual 132, 3) := by decide +kernel
theorem dX8_shorten_35 : decode cX8_shorten 35 = .ok (.aload_n 0, 1) := by decide +kernel
theorem dX8_shorten_36 : decode cX8_shorten 36 = .ok (.iload_n 2, 1) := by decide +kernel
theorem dX8_shorten_37 : decode cX8_shorten 37 = .ok (.invokevirtual 70, 3) := by decide +kernel
theorem dX8_shorten_40 : decode cX8_shorten 40 = .ok (.ireturn, 1) := by decide +kernel
set_option maxRecDepth 20000 in
theorem ggX8_form_X8_isSlot : GoodIn wsX8_form wsX8_isSlot := goodIn_r _ [4, 5, 6, 7, 3, 8] rfl (by decide +kernel)
set_option maxRecDepth 20000 in
theorem gX8_form_X8_isSlot : GoodIn wsX8_form (va_wsS RX8 48 yX8_isSlot wsX8_isSlot) := goodIn_app (goodIn_of _ (by decide +kernel)) ggX8_form_X8_isSlot
set_option maxRecDepth 20000 in
theorem ggX8_form_X8_load : GoodIn wsX8_form wsX8_load := goodIn_r _ [12, 13, 14, 15, 16, 67, 68, 69, 70, 71, 72, 73, 74, 75, 76, 77, 78, 79, 80, 81, 82, 83, 84, 85, 86, 87, 88, 89, 90, 91, 92, 93, 94, 95, 96, 97, 98, 99] rfl (by decide +kernel)
set_option maxRecDepth 20000 in
theorem gX8_form_X8_load : GoodIn wsX8_form (wsV RX8 63 RX8 yX8_load wsX8_load) := goodIn_app (goodIn_of _ (by decide +kernel)) ggX8_form_X8_load
set_option maxRecDepth 20000 in
theorem ggX8_form_X8_formOfW : GoodIn wsX8_form wsX8_formOfW := goodIn_r _ [20, 21, 14, 15, 22, 23, 24, 25, 3, 26, 27, 28, 29, 30, 31, 32, 33, 34, 35, 36, 37, 38, 39, 40, 41, 42, 43, 44, 45, 46, 47, 48, 49, 50, 6, 7, 8, 51, 52, 53, 54, 55, 56, 57, 58, 59, 60, 61, 62, 67, 68, 69, 70, 71, 72, 73, 74, 75, 76, 77, 78, 79, 80, 81, 82, 83, 84, 85, 86, 87, 88, 89, 90, 91, 92, 93, 94, 95, 96, 97, 98, 99] rfl (by decide +kernel)
set_option maxRecDepth 20000 in
theorem gX8_form_X8_formOfW : GoodIn wsX8_form (wsV RX8 135 RX8 yX8_formOfW wsX8_formOfW) := goodIn_app (goodIn_of _ (by decide +kernel)) ggX8_form_X8_formOfW
set_option maxRecDepth 20000 in
theorem ggX8_form_X8_store : GoodIn wsX8_form wsX8_store := goodIn_r _ [66, 13, 14, 16, 15, 67, 68, 69, 70, 71, 72, 73, 74, 75, 76, 77, 78, 79, 80, 81, 82, 83, 84, 85, 86, 87, 88, 89, 90, 91, 92, 93, 94, 95, 96, 97, 98, 99] rfl (by decide +kernel)
set_option maxRecDepth 20000 in
theorem gX8_form_X8_store : GoodIn wsX8_form (wsV RX8 70 RX8 yX8_store wsX8_store) := goodIn_app (goodIn_of _ (by decide +kernel)) ggX8_form_X8_store
theorem dX8_form_0 : decode cX8_form 0 = .ok (.iload_n 1, 1) := by decide +kernel
theorem dX8_form_1 : decode cX8_form 1 = .ok (.invokestatic 48, 3) := by decide +kernel
theorem dX8_form_4 : decode cX8_form 4 = .ok (.ifCond .eq 10, 3) := by decide +kernel
theorem dX8_form_7 : decode cX8_form 7 = .ok (.iload_n 2, 1) := by decide +kernel
theorem dX8_form_8 : decode cX8_form 8 = .ok (.invokestatic 48, 3) := by decide +kernel
theorem dX8_form_11 : decode cX8_form 11 = .ok (.ifCond .ne 5, 3) := by decide +kernel
theorem dX8_form_14 : decode cX8_form 14 = .ok (.iconst (-1), 1) := by decide +kernel
theorem dX8_form_15 : decode cX8_form 15 = .ok (.ireturn, 1) := by decide +kernel
theorem dX8_form_16 : decode cX8_form 16 = .ok (.aload_n 0, 1) := by decide +kernel
theorem dX8_form_17 : decode cX8_form 17 = .ok (.iload_n 1, 1) := by decide +kernel
theorem dX8_form_18 : decode cX8_form 18 = .ok (.invokevirtual 63, 3) := by decide +kernel
theorem dX8_form_21 : decode cX8_form 21 = .ok (.aload_n 0, 1) := by decide +kernel
theorem dX8_form_22 : decode cX8_form 22 = .ok (.invokevirtual 135, 3) := by decide +kernel
theorem dX8_form_25 : decode cX8_form 25 = .ok (.ifCond .eq 11, 3) := by decide +kernel
theorem dX8_form_28 : decode cX8_form 28 = .ok (.aload_n 0, 1) := by decide +kernel
theorem dX8_form_29 : decode cX8_form 29 = .ok (.iload_n 2, 1) := by decide +kernel
theorem dX8_form_30 : decode cX8_form 30 = .ok (.invokevirtual 70, 3) := by decide +kernel
theorem dX8_form_33 : decode cX8_form 33 = .ok (.goto 5, 3) := by decide +kernel
theorem dX8_form_36 : decode cX8_form 36 = .ok (.bipush (-4), 2) := by decide +kernel
theorem dX8_form_38 : decode cX8_form 38 = .ok (.ireturn, 1) := by decide +kernel
set_option maxRecDepth 20000 in
theorem ggX8_same_X8_isSlot : GoodIn wsX8_same wsX8_isSlot := goodIn_r _ [8, 9, 10, 11, 7, 12] rfl (by decide +kernel)
set_option maxRecDepth 20000 in
theorem gX8_same_X8_isSlot : GoodIn wsX8_same (va_wsS RX8 48 yX8_isSlot wsX8_isSlot) := goodIn_app (goodIn_of _ (by decide +kernel)) ggX8_same_X8_isSlot
set_option maxRecDepth 20000 in
theorem ggX8_same_X8_load : GoodIn wsX8_same wsX8_load := goodIn_r _ [16, 17, 2, 4, 18, 69, 70, 71, 72, 73, 74, 75, 76, 77, 78, 79, 80, 81, 82, 83, 84, 85, 86, 87, 88, 89, 90, 91, 92, 93, 94, 95, 96, 97, 98, 99, 100, 101] rfl (by decide +kernel)
set_option maxRecDepth 20000 in
theorem gX8_same_X8_load : GoodIn wsX8_same (wsV RX8 63 RX8 yX8_load wsX8_load) := goodIn_app (goodIn_of _ (by decide +kernel)) ggX8_same_X8_load
set_option maxRecDepth 20000 in
theorem ggX8_same_X8_formOfW : GoodIn wsX8_same wsX8_formOfW := goodIn_r _ [22, 23, 2, 4, 24, 25, 26, 27, 7, 28, 29, 30, 31, 32, 33, 34, 35, 36, 37, 38, 39, 40, 41, 42, 43, 44, 45, 46, 47, 48, 49, 50, 51, 52, 10, 11, 12, 53, 54, 55, 56, 57, 58, 59, 60, 61, 62, 63, 64, 69, 70, 71, 72, 73, 74, 75, 76, 77, 78, 79, 80, 81, 82, 83, 84, 85, 86, 87, 88, 89, 90, 91, 92, 93, 94, 95, 96, 97, 98, 99, 100, 101] rfl (by decide +kernel)
set_option maxRecDepth 20000 in
theorem gX8_same_X8_formOfW : GoodIn wsX8_same (wsV RX8 135 RX8 yX8_formOfW wsX8_formOfW) := goodIn_app (goodIn_of _ (by decide +kernel)) ggX8_same_X8_formOfW
set_option maxRecDepth 20000 in
theorem ggX8_same_X8_wToV : GoodIn wsX8_same wsX8_wToV := goodIn_r _ [68, 2, 1, 3, 4, 69, 70, 71, 72, 73, 74, 75, 76, 77, 78, 79, 80, 81, 82, 83, 84, 85, 86, 87, 88, 89, 90, 91, 92, 93, 94, 95, 96, 97, 98, 99, 100, 101] rfl (by decide +kernel)
set_option maxRecDepth 20000 in
theorem gX8_same_X8_wToV : GoodIn wsX8_same (wsV RX8 138 RX8 yX8_wToV wsX8_wToV) := goodIn_app (goodIn_of _ (by decide +kernel)) ggX8_same_X8_wToV
theorem dX8_same_0 : decode cX8_same 0 = .ok (.iload_n 1, 1) := by decide +kernel
theorem dX8_same_1 : decode cX8_same 1 = .ok (.invokestatic 48, 3) := by decide +kernel
theorem dX8_same_4 : decode cX8_same 4 = .ok (.ifCond .eq 10, 3) := by decide +kernel
theorem dX8_same_7 : decode cX8_same 7 = .ok (.iload_n 2, 1) := by decide +kernel
theorem dX8_same_8 : decode cX8_same 8 = .ok (.invokestatic 48, 3) := by decide +kernel
theorem dX8_same_11 : decode cX8_same 11 = .ok (.ifCond .ne 5, 3) := by decide +kernel
theorem dX8_same_14 : decode cX8_same 14 = .ok (.iconst (-1), 1) := by decide +kernel
theorem dX8_same_15 : decode cX8_same 15 = .ok (.ireturn, 1) := by decide +kernel
theorem dX8_same_16 : decode cX8_same 16 = .ok (.aload_n 0, 1) := by decide +kernel
theorem dX8_same_17 : decode cX8_same 17 = .ok (.iload_n 1, 1) := by decide +kernel
theorem dX8_same_18 : decode cX8_same 18 = .ok (.invokevirtual 63, 3) := by decide +kernel
theorem dX8_same_21 : decode cX8_same 21 = .ok (.aload_n 0, 1) := by decide +kernel
theorem dX8_same_22 : decode cX8_same 22 = .ok (.invokevirtual 135, 3) := by decide +kernel
theorem dX8_same_25 : decode cX8_same 25 = .ok (.ifCond .ne 6, 3) := by decide +kernel
theorem dX8_same_28 : decode cX8_same 28 = .ok (.bipush (-4), 2) := by decide +kernel
theorem dX8_same_30 : decode cX8_same 30 = .ok (.ireturn, 1) := by decide +kernel
theorem dX8_same_31 : decode cX8_same 31 = .ok (.aload_n 0, 1) := by decide +kernel
theorem dX8_same_32 : decode cX8_same 32 = .ok (.invokevirtual 138, 3) := by decide +kernel
theorem dX8_same_35 : decode cX8_same 35 = .ok (.aload_n 0, 1) := by decide +kernel
theorem dX8_same_36 : decode cX8_same 36 = .ok (.iload_n 2, 1) := by decide +kernel
theorem dX8_same_37 : decode cX8_same 37 = .ok (.invokevirtual 63, 3) := by decide +kernel
theorem dX8_same_40 : decode cX8_same 40 = .ok (.aload_n 0, 1) := by decide +kernel
theorem dX8_same_41 : decode cX8_same 41 = .ok (.invokevirtual 135, 3) := by decide +kernel
theorem dX8_same_44 : decode cX8_same 44 = .ok (.ifCond .ne 6, 3) := by decide +kernel
theorem dX8_same_47 : decode cX8_same 47 = .ok (.bipush (-4), 2) := by decide +kernel
theorem dX8_same_49 : decode cX8_same 49 = .ok (.ireturn, 1) := by decide +kernel
theorem dX8_same_50 : decode cX8_same 50 = .ok (.aload_n 0, 1) := by decide +kernel
theorem dX8_same_51 : decode cX8_same 51 = .ok (.getfield 126, 3) := by decide +kernel
theorem dX8_same_54 : decode cX8_same 54 = .ok (.aload_n 0, 1) := by decide +kernel
theorem dX8_same_55 : decode cX8_same 55 = .ok (.getfield 57, 3) := by decide +kernel
theorem dX8_same_58 : decode cX8_same 58 = .ok (.if_icmp .ne 7, 3) := by decide +kernel
theorem dX8_same_61 : decode cX8_same 61 = .ok (.iconst 1, 1) := by decide +kernel
theorem dX8_same_62 : decode cX8_same 62 = .ok (.goto 4, 3) := by decide +kernel
theorem dX8_same_65 : decode cX8_same 65 = .ok (.iconst 0, 1) := by decide +kernel
theorem dX8_same_66 : decode cX8_same 66 = .ok (.istore_n 3, 1) := by decide +kernel
theorem dX8_same_67 : decode cX8_same 67 = .ok (.iconst 0, 1) := by decide +kernel
theorem dX8_same_68 : decode cX8_same 68 = .ok (.istore 4, 2) := by decide +kernel
theorem dX8_same_70 : decode cX8_same 70 = .ok (.iload 4, 2) := by decide +kernel
theorem dX8_same_72 : decode cX8_same 72 = .ok (.aload_n 0, 1) := by decide +kernel
theorem dX8_same_73 : decode cX8_same 73 = .ok (.getfield 57, 3) := by decide +kernel
theorem dX8_same_76 : decode cX8_same 76 = .ok (.if_icmp .ge 36, 3) := by decide +kernel
theorem dX8_same_79 : decode cX8_same 79 = .ok (.iload_n 3, 1) := by decide +kernel
theorem dX8_same_80 : decode cX8_same 80 = .ok (.ifCond .eq 32, 3) := by decide +kernel
theorem dX8_same_83 : decode cX8_same 83 = .ok (.aload_n 0, 1) := by decide +kernel
theorem dX8_same_84 : decode cX8_same 84 = .ok (.getfield 129, 3) := by decide +kernel
theorem dX8_same_87 : decode cX8_same 87 = .ok (.iload 4, 2) := by decide +kernel
theorem dX8_same_89 : decode cX8_same 89 = .ok (.iaload, 1) := by decide +kernel
theorem dX8_same_90 : decode cX8_same 90 = .ok (.aload_n 0, 1) := by decide +kernel
theorem dX8_same_91 : decode cX8_same 91 = .ok (.getfield 60, 3) := by decide +kernel
theorem dX8_same_94 : decode cX8_same 94 = .ok (.iload 4, 2) := by decide +kernel
theorem dX8_same_96 : decode cX8_same 96 = .ok (.iaload, 1) := by decide +kernel
theorem dX8_same_97 : decode cX8_same 97 = .ok (.if_icmp .ne 7, 3) := by decide +kernel
theorem dX8_same_100 : decode cX8_same 100 = .ok (.iconst 1, 1) := by decide +kernel
theorem dX8_same_101 : decode cX8_same 101 = .ok (.goto 4, 3) := by decide +kernel
theorem dX8_same_104 : decode cX8_same 104 = .ok (.iconst 0, 1) := by decide +kernel
theorem dX8_same_105 : decode cX8_same 105 = .ok (.istore_n 3, 1) := by decide +kernel
theorem dX8_same_106 : decode cX8_same 106 = .ok (.iinc 4 1, 3) := by decide +kernel
theorem dX8_same_109 : decode cX8_same 109 = .ok (.goto (-39), 3) := by decide +kernel
theorem dX8_same_112 : decode cX8_same 112 = .ok (.iload_n 3, 1) := by decide +kernel
theorem dX8_same_113 : decode cX8_same 113 = .ok (.ifCond .eq 7, 3) := by decide +kernel
theorem dX8_same_116 : decode cX8_same 116 = .ok (.iconst 1, 1) := by decide +kernel
theorem dX8_same_117 : decode cX8_same 117 = .ok (.goto 4, 3) := by decide +kernel
theorem dX8_same_120 : decode cX8_same 120 = .ok (.iconst 0, 1) := by decide +kernel
theorem dX8_same_121 : decode cX8_same 121 = .ok (.ireturn, 1) := by decide +kernel
set_option maxRecDepth 20000 in
theorem ggX8_downs_X8_isSlot : GoodIn wsX8_downs wsX8_isSlot := goodIn_r _ [6, 7, 8, 9, 5, 10] rfl (by decide +kernel)
set_option maxRecDepth 20000 in
theorem gX8_downs_X8_isSlot : GoodIn wsX8_downs (va_wsS RX8 48 yX8_isSlot wsX8_isSlot) := goodIn_app (goodIn_of _ (by decide +kernel)) ggX8_downs_X8_isSlot
set_option maxRecDepth 20000 in
theorem ggX8_downs_X8_load : GoodIn wsX8_downs wsX8_load := goodIn_r _ [14, 15, 16, 17, 18, 53, 54, 55, 56, 57, 58, 59, 60, 61, 62, 63, 64, 65, 66, 67, 68, 69, 70, 71, 72, 73, 74, 75, 76, 77, 78, 79, 80, 81, 82, 83, 84, 85] rfl (by decide +kernel)
set_option maxRecDepth 20000 in
theorem gX8_downs_X8_load : GoodIn wsX8_downs (wsV RX8 63 RX8 yX8_load wsX8_load) := goodIn_app (goodIn_of _ (by decide +kernel)) ggX8_downs_X8_load
set_option maxRecDepth 20000 in
theorem ggX8_downs_X8_shortOf : GoodIn wsX8_downs wsX8_shortOf := goodIn_r _ [22, 2, 23, 16, 17, 24, 25, 26, 27, 5, 28, 29, 30, 31, 32, 33, 34, 35, 36, 37, 1, 38, 39, 40, 41, 42, 43, 44, 8, 9, 10, 45, 46, 47, 48, 53, 54, 55, 56, 57, 58, 59, 60, 61, 62, 63, 64, 65, 66, 67, 68, 69, 70, 71, 72, 73, 74, 75, 76, 77, 78, 79, 80, 81, 82, 83, 84, 85] rfl (by decide +kernel)
set_option maxRecDepth 20000 in
theorem gX8_downs_X8_shortOf : GoodIn wsX8_downs (wsV RX8 119 RX8 yX8_shortOf wsX8_shortOf) := goodIn_app (goodIn_of _ (by decide +kernel)) ggX8_downs_X8_shortOf
set_option maxRecDepth 20000 in
theorem ggX8_downs_X8_ahead : GoodIn wsX8_downs wsX8_ahead := goodIn_r _ [52, 23, 24, 2, 29, 30, 31, 5, 32, 33, 34, 35, 36, 37, 1, 38, 39, 40, 41, 42, 43, 44, 8, 9, 10, 53, 54, 55, 56, 57, 58, 59, 60, 61, 62, 63, 64, 65, 66, 67, 68, 69, 70, 71, 72, 73, 74, 75, 76, 77, 78, 79, 80, 81, 82, 83, 84, 85] rfl (by decide +kernel)
set_option maxRecDepth 20000 in
theorem gX8_downs_X8_ahead : GoodIn wsX8_downs (wsV RX8 113 RX8 yX8_ahead wsX8_ahead) := goodIn_app (goodIn_of _ (by decide +kernel)) ggX8_downs_X8_ahead
set_option maxRecDepth 20000 in
theorem ggX8_downs_X8_behind : GoodIn wsX8_downs wsX8_behind := goodIn_r _ [28, 23, 24, 2, 29, 30, 31, 5, 32, 33, 34, 35, 36, 37, 1, 38, 39, 40, 41, 42, 43, 44, 8, 9, 10, 53, 54, 55, 56, 57, 58, 59, 60, 61, 62, 63, 64, 65, 66, 67, 68, 69, 70, 71, 72, 73, 74, 75, 76, 77, 78, 79, 80, 81, 82, 83, 84, 85] rfl (by decide +kernel)
set_option maxRecDepth 20000 in
theorem gX8_downs_X8_behind : GoodIn wsX8_downs (wsV RX8 104 RX8 yX8_behind wsX8_behind) := goodIn_app (goodIn_of _ (by decide +kernel)) ggX8_downs_X8_behind
theorem dX8_downs_0 : decode cX8_downs 0 = .ok (.iload_n 1, 1) := by decide +kernel
theorem dX8_downs_1 : decode cX8_downs 1 = .ok (.invokestatic 48, 3) := by decide +kernel
theorem dX8_downs_4 : decode cX8_downs 4 = .ok (.ifCond .ne 5, 3) := by decide +kernel
theorem dX8_downs_7 : decode cX8_downs 7 = .ok (.iconst (-1), 1) := by decide +kernel
theorem dX8_downs_8 : decode cX8_downs 8 = .ok (.ireturn, 1) := by decide +kernel
theorem dX8_downs_9 : decode cX8_downs 9 = .ok (.aload_n 0, 1) := by decide +kernel
theorem dX8_downs_10 : decode cX8_downs 10 = .ok (.iload_n 1, 1) := by decide +kernel
theorem dX8_downs_11 : decode cX8_downs 11 = .ok (.invokevirtual 63, 3) := by decide +kernel
theorem dX8_downs_14 : decode cX8_downs 14 = .ok (.aload_n 0, 1) := by decide +kernel
theorem dX8_downs_15 : decode cX8_downs 15 = .ok (.invokevirtual 119, 3) := by decide +kernel
theorem dX8_downs_18 : decode cX8_downs 18 = .ok (.ifCond .ne 6, 3) := by decide +kernel
theorem dX8_downs_21 : decode cX8_downs 21 = .ok (.bipush (-4), 2) := by decide +kernel
theorem dX8_downs_23 : decode cX8_downs 23 = .ok (.ireturn, 1) := by decide +kernel
theorem dX8_downs_24 : decode cX8_downs 24 = .ok (.iconst 0, 1) := by decide +kernel
theorem dX8_downs_25 : decode cX8_downs 25 = .ok (.istore_n 3, 1) := by decide +kernel
theorem dX8_downs_26 : decode cX8_downs 26 = .ok (.iconst 0, 1) := by decide +kernel
theorem dX8_downs_27 : decode cX8_downs 27 = .ok (.istore 4, 2) := by decide +kernel
theorem dX8_downs_29 : decode cX8_downs 29 = .ok (.iload 4, 2) := by decide +kernel
theorem dX8_downs_31 : decode cX8_downs 31 = .ok (.aload_n 0, 1) := by decide +kernel
theorem dX8_downs_32 : decode cX8_downs 32 = .ok (.getfield 11, 3) := by decide +kernel
theorem dX8_downs_35 : decode cX8_downs 35 = .ok (.if_icmp .ge 56, 3) := by decide +kernel
theorem dX8_downs_38 : decode cX8_downs 38 = .ok (.iload_n 2, 1) := by decide +kernel
theorem dX8_downs_39 : decode cX8_downs 39 = .ok (.ifCond .eq 12, 3) := by decide +kernel
theorem dX8_downs_42 : decode cX8_downs 42 = .ok (.aload_n 0, 1) := by decide +kernel
theorem dX8_downs_43 : decode cX8_downs 43 = .ok (.iload 4, 2) := by decide +kernel
theorem dX8_downs_45 : decode cX8_downs 45 = .ok (.invokevirtual 113, 3) := by decide +kernel
theorem dX8_downs_48 : decode cX8_downs 48 = .ok (.goto 9, 3) := by decide +kernel
theorem dX8_downs_51 : decode cX8_downs 51 = .ok (.aload_n 0, 1) := by decide +kernel
theorem dX8_downs_52 : decode cX8_downs 52 = .ok (.iload 4, 2) := by decide +kernel
theorem dX8_downs_54 : decode cX8_downs 54 = .ok (.invokevirtual 104, 3) := by decide +kernel
theorem dX8_downs_57 : decode cX8_downs 57 = .ok (.istore 5, 2) := by decide +kernel
theorem dX8_downs_59 : decode cX8_downs 59 = .ok (.aload_n 0, 1) := by decide +kernel
theorem dX8_downs_60 : decode cX8_downs 60 = .ok (.getfield 81, 3) := by decide +kernel
theorem dX8_downs_63 : decode cX8_downs 63 = .ok (.ifCond .eq 6, 3) := by decide +kernel
theorem dX8_downs_66 : decode cX8_downs 66 = .ok (.bipush (-4), 2) := by decide +kernel
theorem dX8_downs_68 : decode cX8_downs 68 = .ok (.ireturn, 1) := by decide +kernel
theorem dX8_downs_69 : decode cX8_downs 69 = .ok (.iload_n 3, 1) := by decide +kernel
theorem dX8_downs_70 : decode cX8_downs 70 = .ok (.iload 5, 2) := by decide +kernel
theorem dX8_downs_72 : decode cX8_downs 72 = .ok (.ifCond .lt 10, 3) := by decide +kernel
theorem dX8_downs_75 : decode cX8_downs 75 = .ok (.iconst 1, 1) := by decide +kernel
theorem dX8_downs_76 : decode cX8_downs 76 = .ok (.iload 4, 2) := by decide +kernel
theorem dX8_downs_78 : decode cX8_downs 78 = .ok (.ishl, 1) := by decide +kernel
theorem dX8_downs_79 : decode cX8_downs 79 = .ok (.goto 4, 3) := by decide +kernel
theorem dX8_downs_82 : decode cX8_downs 82 = .ok (.iconst 0, 1) := by decide +kernel
theorem dX8_downs_83 : decode cX8_downs 83 = .ok (.ior, 1) := by decide +kernel
theorem dX8_downs_84 : decode cX8_downs 84 = .ok (.istore_n 3, 1) := by decide +kernel
theorem dX8_downs_85 : decode cX8_downs 85 = .ok (.iinc 4 1, 3) := by decide +kernel
theorem dX8_downs_88 : decode cX8_downs 88 = .ok (.goto (-59), 3) := by decide +kernel
theorem dX8_downs_91 : decode cX8_downs 91 = .ok (.iload_n 3, 1) := by decide +kernel
theorem dX8_downs_92 : decode cX8_downs 92 = .ok (.ireturn, 1) := by decide +kernel
set_option maxRecDepth 20000 in
theorem ggX8_doneBy_X8_turn : GoodIn wsX8_doneBy wsX8_turn := goodIn_r _ [8, 9, 10, 11, 3, 12, 13, 14, 15, 7, 16, 17, 18, 19, 20, 21, 22, 23, 24, 25, 26, 27, 28, 29, 30, 31, 32, 33, 34, 35, 36, 37, 38, 39, 40, 41, 42, 43, 44, 45, 46, 47, 48, 49] rfl (by decide +kernel)
set_option maxRecDepth 20000 in
theorem gX8_doneBy_X8_turn : GoodIn wsX8_doneBy (wsV RX8 101 RX8 yX8_turn wsX8_turn) := goodIn_app (goodIn_of _ (by decide +kernel)) ggX8_doneBy_X8_turn
theorem dX8_doneBy_0 : decode cX8_doneBy 0 = .ok (.aload_n 0, 1) := by decide +kernel
theorem dX8_doneBy_1 : decode cX8_doneBy 1 = .ok (.getfield 57, 3) := by decide +kernel
theorem dX8_doneBy_4 : decode cX8_doneBy 4 = .ok (.iconst 1, 1) := by decide +kernel
theorem dX8_doneBy_5 : decode cX8_doneBy 5 = .ok (.isub, 1) := by decide +kernel
theorem dX8_doneBy_6 : decode cX8_doneBy 6 = .ok (.istore_n 1, 1) := by decide +kernel
theorem dX8_doneBy_7 : decode cX8_doneBy 7 = .ok (.iload_n 1, 1) := by decide +kernel
theorem dX8_doneBy_8 : decode cX8_doneBy 8 = .ok (.ifCond .lt 28, 3) := by decide +kernel
theorem dX8_doneBy_11 : decode cX8_doneBy 11 = .ok (.aload_n 0, 1) := by decide +kernel
theorem dX8_doneBy_12 : decode cX8_doneBy 12 = .ok (.aload_n 0, 1) := by decide +kernel
theorem dX8_doneBy_13 : decode cX8_doneBy 13 = .ok (.getfield 60, 3) := by decide +kernel
theorem dX8_doneBy_16 : decode cX8_doneBy 16 = .ok (.iload_n 1, 1) := by decide +kernel
theorem dX8_doneBy_17 : decode cX8_doneBy 17 = .ok (.iaload, 1) := by decide +kernel
theorem dX8_doneBy_18 : decode cX8_doneBy 18 = .ok (.invokevirtual 101, 3) := by decide +kernel
theorem dX8_doneBy_21 : decode cX8_doneBy 21 = .ok (.aload_n 0, 1) := by decide +kernel
theorem dX8_doneBy_22 : decode cX8_doneBy 22 = .ok (.getfield 81, 3) := by decide +kernel
theorem dX8_doneBy_25 : decode cX8_doneBy 25 = .ok (.ifCond .eq 5, 3) := by decide +kernel
theorem dX8_doneBy_28 : decode cX8_doneBy 28 = .ok (.iconst 0, 1) := by decide +kernel
theorem dX8_doneBy_29 : decode cX8_doneBy 29 = .ok (.ireturn, 1) := by decide +kernel
theorem dX8_doneBy_30 : decode cX8_doneBy 30 = .ok (.iinc 1 (-1), 3) := by decide +kernel
theorem dX8_doneBy_33 : decode cX8_doneBy 33 = .ok (.goto (-26), 3) := by decide +kernel
theorem dX8_doneBy_36 : decode cX8_doneBy 36 = .ok (.iconst 1, 1) := by decide +kernel
theorem dX8_doneBy_37 : decode cX8_doneBy 37 = .ok (.ireturn, 1) := by decide +kernel
set_option maxRecDepth 20000 in
theorem ggX8_does_X8_isSlot : GoodIn wsX8_does wsX8_isSlot := goodIn_r _ [8, 9, 10, 11, 7, 12] rfl (by decide +kernel)
set_option maxRecDepth 20000 in
theorem gX8_does_X8_isSlot : GoodIn wsX8_does (va_wsS RX8 48 yX8_isSlot wsX8_isSlot) := goodIn_app (goodIn_of _ (by decide +kernel)) ggX8_does_X8_isSlot
set_option maxRecDepth 20000 in
theorem ggX8_does_X8_isMirror : GoodIn wsX8_does wsX8_isMirror := goodIn_r _ [16, 17, 10, 11, 7, 12, 41, 42, 43, 44, 45, 46, 47, 48, 49, 50, 51, 52, 53, 54, 55, 56, 57, 58, 59, 60, 61, 62, 63, 64, 65, 66, 67, 68, 69, 70, 71, 72, 73] rfl (by decide +kernel)
set_option maxRecDepth 20000 in
theorem gX8_does_X8_isMirror : GoodIn wsX8_does (wsV RX8 33 RX8 yX8_isMirror wsX8_isMirror) := goodIn_app (goodIn_of _ (by decide +kernel)) ggX8_does_X8_isMirror
set_option maxRecDepth 20000 in
theorem ggX8_does_X8_load : GoodIn wsX8_does wsX8_load := goodIn_r _ [21, 22, 23, 24, 25, 41, 42, 43, 44, 45, 46, 47, 48, 49, 50, 51, 52, 53, 54, 55, 56, 57, 58, 59, 60, 61, 62, 63, 64, 65, 66, 67, 68, 69, 70, 71, 72, 73] rfl (by decide +kernel)
set_option maxRecDepth 20000 in
theorem gX8_does_X8_load : GoodIn wsX8_does (wsV RX8 63 RX8 yX8_load wsX8_load) := goodIn_app (goodIn_of _ (by decide +kernel)) ggX8_does_X8_load
set_option maxRecDepth 20000 in
theorem ggX8_does_X8_own : GoodIn wsX8_does wsX8_own := goodIn_r _ [29, 3, 41, 42, 43, 44, 45, 46, 47, 48, 49, 50, 51, 52, 53, 54, 55, 56, 57, 58, 59, 60, 61, 62, 63, 64, 65, 66, 67, 68, 69, 70, 71, 72, 73] rfl (by decide +kernel)
set_option maxRecDepth 20000 in
theorem gX8_does_X8_own : GoodIn wsX8_does (wsV RX8 89 RX8 yX8_own wsX8_own) := goodIn_app (goodIn_of _ (by decide +kernel)) ggX8_does_X8_own
set_option maxRecDepth 20000 in
theorem ggX8_does_X8_doneBy : GoodIn wsX8_does wsX8_doneBy := goodIn_r _ [33, 23, 24, 2, 34, 35, 36, 7, 37, 3, 17, 38, 39, 40, 10, 11, 12, 41, 42, 43, 44, 45, 46, 47, 48, 49, 50, 51, 52, 53, 54, 55, 56, 57, 58, 59, 60, 61, 62, 63, 64, 65, 66, 67, 68, 69, 70, 71, 72, 73] rfl (by decide +kernel)
set_option maxRecDepth 20000 in
theorem gX8_does_X8_doneBy : GoodIn wsX8_does (wsV RX8 143 RX8 yX8_doneBy wsX8_doneBy) := goodIn_app (goodIn_of _ (by decide +kernel)) ggX8_does_X8_doneBy
theorem dX8_does_0 : decode cX8_does 0 = .ok (.iload_n 1, 1) := by decide +kernel
theorem dX8_does_1 : decode cX8_does 1 = .ok (.invokestatic 48, 3) := by decide +kernel
theorem dX8_does_4 : decode cX8_does 4 = .ok (.ifCond .eq 21, 3) := by decide +kernel
theorem dX8_does_7 : decode cX8_does 7 = .ok (.aload_n 0, 1) := by decide +kernel
theorem dX8_does_8 : decode cX8_does 8 = .ok (.iload_n 2, 1) := by decide +kernel
theorem dX8_does_9 : decode cX8_does 9 = .ok (.i2l, 1) := by decide +kernel
theorem dX8_does_10 : decode cX8_does 10 = .ok (.invokevirtual 33, 3) := by decide +kernel
theorem dX8_does_13 : decode cX8_does 13 = .ok (.ifCond .eq 12, 3) := by decide +kernel
theorem dX8_does_16 : decode cX8_does 16 = .ok (.aload_n 0, 1) := by decide +kernel
theorem dX8_does_17 : decode cX8_does 17 = .ok (.iload_n 3, 1) := by decide +kernel
theorem dX8_does_18 : decode cX8_does 18 = .ok (.i2l, 1) := by decide +kernel
theorem dX8_does_19 : decode cX8_does 19 = .ok (.invokevirtual 33, 3) := by decide +kernel
theorem dX8_does_22 : decode cX8_does 22 = .ok (.ifCond .ne 7, 3) := by decide +kernel
theorem dX8_does_25 : decode cX8_does 25 = .ok (.ldc2_w 141, 3) := by decide +kernel
theorem dX8_does_28 : decode cX8_does 28 = .ok (.lreturn, 1) := by decide +kernel
theorem dX8_does_29 : decode cX8_does 29 = .ok (.aload_n 0, 1) := by decide +kernel
theorem dX8_does_30 : decode cX8_does 30 = .ok (.iload_n 1, 1) := by decide +kernel
theorem dX8_does_31 : decode cX8_does 31 = .ok (.invokevirtual 63, 3) := by decide +kernel
theorem dX8_does_34 : decode cX8_does 34 = .ok (.aload_n 0, 1) := by decide +kernel
theorem dX8_does_35 : decode cX8_does 35 = .ok (.iconst 0, 1) := by decide +kernel
theorem dX8_does_36 : decode cX8_does 36 = .ok (.putfield 81, 3) := by decide +kernel
theorem dX8_does_39 : decode cX8_does 39 = .ok (.aload_n 0, 1) := by decide +kernel
theorem dX8_does_40 : decode cX8_does 40 = .ok (.iload_n 2, 1) := by decide +kernel
theorem dX8_does_41 : decode cX8_does 41 = .ok (.invokevirtual 89, 3) := by decide +kernel
theorem dX8_does_44 : decode cX8_does 44 = .ok (.aload_n 0, 1) := by decide +kernel
theorem dX8_does_45 : decode cX8_does 45 = .ok (.invokevirtual 143, 3) := by decide +kernel
theorem dX8_does_48 : decode cX8_does 48 = .ok (.ifCond .eq 12, 3) := by decide +kernel
theorem dX8_does_51 : decode cX8_does 51 = .ok (.aload_n 0, 1) := by decide +kernel
theorem dX8_does_52 : decode cX8_does 52 = .ok (.getfield 77, 3) := by decide +kernel
theorem dX8_does_55 : decode cX8_does 55 = .ok (.iload_n 3, 1) := by decide +kernel
theorem dX8_does_56 : decode cX8_does 56 = .ok (.laload, 1) := by decide +kernel
theorem dX8_does_57 : decode cX8_does 57 = .ok (.goto 6, 3) := by decide +kernel
theorem dX8_does_60 : decode cX8_does 60 = .ok (.ldc2_w 146, 3) := by decide +kernel
theorem dX8_does_63 : decode cX8_does 63 = .ok (.lreturn, 1) := by decide +kernel
set_option maxRecDepth 20000 in
theorem ggX8_order_X8_isSlot : GoodIn wsX8_order wsX8_isSlot := goodIn_r _ [8, 9, 10, 11, 7, 12] rfl (by decide +kernel)
set_option maxRecDepth 20000 in
theorem gX8_order_X8_isSlot : GoodIn wsX8_order (va_wsS RX8 48 yX8_isSlot wsX8_isSlot) := goodIn_app (goodIn_of _ (by decide +kernel)) ggX8_order_X8_isSlot
set_option maxRecDepth 20000 in
theorem ggX8_order_X8_load : GoodIn wsX8_order wsX8_load := goodIn_r _ [16, 17, 18, 19, 20, 36, 37, 38, 39, 40, 41, 42, 43, 44, 45, 46, 47, 48, 49, 50, 51, 52, 53, 54, 55, 56, 57, 58, 59, 60, 61, 62, 63, 64, 65, 66, 67, 68] rfl (by decide +kernel)
set_option maxRecDepth 20000 in
theorem gX8_order_X8_load : GoodIn wsX8_order (wsV RX8 63 RX8 yX8_load wsX8_load) := goodIn_app (goodIn_of _ (by decide +kernel)) ggX8_order_X8_load
set_option maxRecDepth 20000 in
theorem ggX8_order_X8_doneBy : GoodIn wsX8_order wsX8_doneBy := goodIn_r _ [24, 18, 19, 1, 25, 26, 27, 7, 28, 4, 2, 29, 30, 31, 10, 11, 12, 36, 37, 38, 39, 40, 41, 42, 43, 44, 45, 46, 47, 48, 49, 50, 51, 52, 53, 54, 55, 56, 57, 58, 59, 60, 61, 62, 63, 64, 65, 66, 67, 68] rfl (by decide +kernel)
set_option maxRecDepth 20000 in
theorem gX8_order_X8_doneBy : GoodIn wsX8_order (wsV RX8 143 RX8 yX8_doneBy wsX8_doneBy) := goodIn_app (goodIn_of _ (by decide +kernel)) ggX8_order_X8_doneBy
set_option maxRecDepth 20000 in
theorem ggX8_order_X8_isOwn : GoodIn wsX8_order wsX8_isOwn := goodIn_r _ [35, 2, 4, 36, 37, 38, 39, 40, 41, 42, 43, 44, 45, 46, 47, 48, 49, 50, 51, 52, 53, 54, 55, 56, 57, 58, 59, 60, 61, 62, 63, 64, 65, 66, 67, 68] rfl (by decide +kernel)
set_option maxRecDepth 20000 in
theorem gX8_order_X8_isOwn : GoodIn wsX8_order (wsV RX8 98 RX8 yX8_isOwn wsX8_isOwn) := goodIn_app (goodIn_of _ (by decide +kernel)) ggX8_order_X8_isOwn
theorem dX8_order_0 : decode cX8_order 0 = .ok (.iload_n 1, 1) := by decide +kernel
theorem dX8_order_1 : decode cX8_order 1 = .ok (.invokestatic 48, 3) := by decide +kernel
theorem dX8_order_4 : decode cX8_order 4 = .ok (.ifCond .ne 5, 3) := by decide +kernel
theorem dX8_order_7 : decode cX8_order 7 = .ok (.iconst (-1), 1) := by decide +kernel
theorem dX8_order_8 : decode cX8_order 8 = .ok (.ireturn, 1) := by decide +kernel
theorem dX8_order_9 : decode cX8_order 9 = .ok (.aload_n 0, 1) := by decide +kernel
theorem dX8_order_10 : decode cX8_order 10 = .ok (.iload_n 1, 1) := by decide +kernel
theorem dX8_order_11 : decode cX8_order 11 = .ok (.invokevirtual 63, 3) := by decide +kernel
theorem dX8_order_14 : decode cX8_order 14 = .ok (.aload_n 0, 1) := by decide +kernel
theorem dX8_order_15 : decode cX8_order 15 = .ok (.iconst 0, 1) := by decide +kernel
theorem dX8_order_16 : decode cX8_order 16 = .ok (.putfield 81, 3) := by decide +kernel
theorem dX8_order_19 : decode cX8_order 19 = .ok (.iconst 0, 1) := by decide +kernel
theorem dX8_order_20 : decode cX8_order 20 = .ok (.istore_n 2, 1) := by decide +kernel
theorem dX8_order_21 : decode cX8_order 21 = .ok (.iload_n 2, 1) := by decide +kernel
theorem dX8_order_22 : decode cX8_order 22 = .ok (.aload_n 0, 1) := by decide +kernel
theorem dX8_order_23 : decode cX8_order 23 = .ok (.getfield 11, 3) := by decide +kernel
theorem dX8_order_26 : decode cX8_order 26 = .ok (.if_icmp .ge 44, 3) := by decide +kernel
theorem dX8_order_29 : decode cX8_order 29 = .ok (.iconst 0, 1) := by decide +kernel
theorem dX8_order_30 : decode cX8_order 30 = .ok (.istore_n 3, 1) := by decide +kernel
theorem dX8_order_31 : decode cX8_order 31 = .ok (.iload_n 3, 1) := by decide +kernel
theorem dX8_order_32 : decode cX8_order 32 = .ok (.bipush 6, 2) := by decide +kernel
theorem dX8_order_34 : decode cX8_order 34 = .ok (.if_icmp .ge 30, 3) := by decide +kernel
theorem dX8_order_37 : decode cX8_order 37 = .ok (.aload_n 0, 1) := by decide +kernel
theorem dX8_order_38 : decode cX8_order 38 = .ok (.getfield 148, 3) := by decide +kernel
theorem dX8_order_41 : decode cX8_order 41 = .ok (.bipush 6, 2) := by decide +kernel
theorem dX8_order_43 : decode cX8_order 43 = .ok (.iload_n 2, 1) := by decide +kernel
theorem dX8_order_44 : decode cX8_order 44 = .ok (.imul, 1) := by decide +kernel
theorem dX8_order_45 : decode cX8_order 45 = .ok (.iload_n 3, 1) := by decide +kernel
theorem dX8_order_46 : decode cX8_order 46 = .ok (.iadd, 1) := by decide +kernel
theorem dX8_order_47 : decode cX8_order 47 = .ok (.iload_n 3, 1) := by decide +kernel
theorem dX8_order_48 : decode cX8_order 48 = .ok (.iload_n 2, 1) := by decide +kernel
theorem dX8_order_49 : decode cX8_order 49 = .ok (.if_icmp .ne 7, 3) := by decide +kernel
theorem dX8_order_52 : decode cX8_order 52 = .ok (.lconst 1, 1) := by decide +kernel
theorem dX8_order_53 : decode cX8_order 53 = .ok (.goto 4, 3) := by decide +kernel
theorem dX8_order_56 : decode cX8_order 56 = .ok (.lconst 0, 1) := by decide +kernel
theorem dX8_order_57 : decode cX8_order 57 = .ok (.lastore, 1) := by decide +kernel
theorem dX8_order_58 : decode cX8_order 58 = .ok (.iinc 3 1, 3) := by decide +kernel
theorem dX8_order_61 : decode cX8_order 61 = .ok (.goto (-30), 3) := by decide +kernel
theorem dX8_order_64 : decode cX8_order 64 = .ok (.iinc 2 1, 3) := by decide +kernel
theorem dX8_order_67 : decode cX8_order 67 = .ok (.goto (-46), 3) := by decide +kernel
theorem dX8_order_70 : decode cX8_order 70 = .ok (.iconst 1, 1) := by decide +kernel
theorem dX8_order_71 : decode cX8_order 71 = .ok (.istore_n 2, 1) := by decide +kernel
theorem dX8_order_72 : decode cX8_order 72 = .ok (.iload_n 2, 1) := by decide +kernel
theorem dX8_order_73 : decode cX8_order 73 = .ok (.bipush 30, 2) := by decide +kernel
theorem dX8_order_75 : decode cX8_order 75 = .ok (.if_icmp .gt 136, 3) := by decide +kernel
theorem dX8_order_78 : decode cX8_order 78 = .ok (.iconst 1, 1) := by decide +kernel
theorem dX8_order_79 : decode cX8_order 79 = .ok (.istore_n 3, 1) := by decide +kernel
theorem dX8_order_80 : decode cX8_order 80 = .ok (.iconst 0, 1) := by decide +kernel
theorem dX8_order_81 : decode cX8_order 81 = .ok (.istore 4, 2) := by decide +kernel
theorem dX8_order_83 : decode cX8_order 83 = .ok (.iload 4, 2) := by decide +kernel
theorem dX8_order_85 : decode cX8_order 85 = .ok (.aload_n 0, 1) := by decide +kernel
theorem dX8_order_86 : decode cX8_order 86 = .ok (.getfield 11, 3) := by decide +kernel
theorem dX8_order_89 : decode cX8_order 89 = .ok (.if_icmp .ge 110, 3) := by decide +kernel
theorem dX8_order_92 : decode cX8_order 92 = .ok (.iconst 0, 1) := by decide +kernel
theorem dX8_order_93 : decode cX8_order 93 = .ok (.istore 5, 2) := by decide +kernel
theorem dX8_order_95 : decode cX8_order 95 = .ok (.iload 5, 2) := by decide +kernel
theorem dX8_order_97 : decode cX8_order 97 = .ok (.bipush 6, 2) := by decide +kernel
theorem dX8_order_99 : decode cX8_order 99 = .ok (.if_icmp .ge 29, 3) := by decide +kernel
theorem dX8_order_102 : decode cX8_order 102 = .ok (.aload_n 0, 1) := by decide +kernel
theorem dX8_order_103 : decode cX8_order 103 = .ok (.getfield 77, 3) := by decide +kernel
theorem dX8_order_106 : decode cX8_order 106 = .ok (.iload 5, 2) := by decide +kernel
theorem dX8_order_108 : decode cX8_order 108 = .ok (.aload_n 0, 1) := by decide +kernel
theorem dX8_order_109 : decode cX8_order 109 = .ok (.getfield 148, 3) := by decide +kernel
theorem dX8_order_112 : decode cX8_order 112 = .ok (.bipush 6, 2) := by decide +kernel
theorem dX8_order_114 : decode cX8_order 114 = .ok (.iload 4, 2) := by decide +kernel
theorem dX8_order_116 : decode cX8_order 116 = .ok (.imul, 1) := by decide +kernel
theorem dX8_order_117 : decode cX8_order 117 = .ok (.iload 5, 2) := by decide +kernel
theorem dX8_order_119 : decode cX8_order 119 = .ok (.iadd, 1) := by decide +kernel
theorem dX8_order_120 : decode cX8_order 120 = .ok (.laload, 1) := by decide +kernel
theorem dX8_order_121 : decode cX8_order 121 = .ok (.lastore, 1) := by decide +kernel
theorem dX8_order_122 : decode cX8_order 122 = .ok (.iinc 5 1, 3) := by decide +kernel
theorem dX8_order_125 : decode cX8_order 125 = .ok (.goto (-30), 3) := by decide +kernel
theorem dX8_order_128 : decode cX8_order 128 = .ok (.aload_n 0, 1) := by decide +kernel
theorem dX8_order_129 : decode cX8_order 129 = .ok (.invokevirtual 143, 3) := by decide +kernel
theorem dX8_order_132 : decode cX8_order 132 = .ok (.ifCond .ne 6, 3) := by decide +kernel
theorem dX8_order_135 : decode cX8_order 135 = .ok (.bipush (-4), 2) := by decide +kernel
theorem dX8_order_137 : decode cX8_order 137 = .ok (.ireturn, 1) := by decide +kernel
theorem dX8_order_138 : decode cX8_order 138 = .ok (.iconst 0, 1) := by decide +kernel
theorem dX8_order_139 : decode cX8_order 139 = .ok (.istore 5, 2) := by decide +kernel
theorem dX8_order_141 : decode cX8_order 141 = .ok (.iload 5, 2) := by decide +kernel
theorem dX8_order_143 : decode cX8_order 143 = .ok (.bipush 6, 2) := by decide +kernel
theorem dX8_order_145 : decode cX8_order 145 = .ok (.if_icmp .ge 29, 3) := by decide +kernel
theorem dX8_order_148 : decode cX8_order 148 = .ok (.aload_n 0, 1) := by decide +kernel
theorem dX8_order_149 : decode cX8_order 149 = .ok (.getfield 148, 3) := by decide +kernel
theorem dX8_order_152 : decode cX8_order 152 = .ok (.bipush 6, 2) := by decide +kernel
theorem dX8_order_154 : decode cX8_order 154 = .ok (.iload 4, 2) := by decide +kernel
theorem dX8_order_156 : decode cX8_order 156 = .ok (.imul, 1) := by decide +kernel
theorem dX8_order_157 : decode cX8_order 157 = .ok (.iload 5, 2) := by decide +kernel
theorem dX8_order_159 : decode cX8_order 159 = .ok (.iadd, 1) := by decide +kernel
theorem dX8_order_160 : decode cX8_order 160 = .ok (.aload_n 0, 1) := by decide +kernel
theorem dX8_order_161 : decode cX8_order 161 = .ok (.getfield 77, 3) := by decide +kernel
theorem dX8_order_164 : decode cX8_order 164 = .ok (.iload 5, 2) := by decide +kernel
theorem dX8_order_166 : decode cX8_order 166 = .ok (.laload, 1) := by decide +kernel
theorem dX8_order_167 : decode cX8_order 167 = .ok (.lastore, 1) := by decide +kernel
theorem dX8_order_168 : decode cX8_order 168 = .ok (.iinc 5 1, 3) := by decide +kernel
theorem dX8_order_171 : decode cX8_order 171 = .ok (.goto (-30), 3) := by decide +kernel
theorem dX8_order_174 : decode cX8_order 174 = .ok (.iload_n 3, 1) := by decide +kernel
theorem dX8_order_175 : decode cX8_order 175 = .ok (.ifCond .eq 16, 3) := by decide +kernel
theorem dX8_order_178 : decode cX8_order 178 = .ok (.aload_n 0, 1) := by decide +kernel
theorem dX8_order_179 : decode cX8_order 179 = .ok (.iload 4, 2) := by decide +kernel
theorem dX8_order_181 : decode cX8_order 181 = .ok (.invokevirtual 98, 3) := by decide +kernel
theorem dX8_order_184 : decode cX8_order 184 = .ok (.ifCond .eq 7, 3) := by decide +kernel
theorem dX8_order_187 : decode cX8_order 187 = .ok (.iconst 1, 1) := by decide +kernel
theorem dX8_order_188 : decode cX8_order 188 = .ok (.goto 4, 3) := by decide +kernel
theorem dX8_order_191 : decode cX8_order 191 = .ok (.iconst 0, 1) := by decide +kernel
theorem dX8_order_192 : decode cX8_order 192 = .ok (.istore_n 3, 1) := by decide +kernel
theorem dX8_order_193 : decode cX8_order 193 = .ok (.iinc 4 1, 3) := by decide +kernel
theorem dX8_order_196 : decode cX8_order 196 = .ok (.goto (-113), 3) := by decide +kernel
theorem dX8_order_199 : decode cX8_order 199 = .ok (.iload_n 3, 1) := by decide +kernel
theorem dX8_order_200 : decode cX8_order 200 = .ok (.ifCond .eq 5, 3) := by decide +kernel
theorem dX8_order_203 : decode cX8_order 203 = .ok (.iload_n 2, 1) := by decide +kernel
theorem dX8_order_204 : decode cX8_order 204 = .ok (.ireturn, 1) := by decide +kernel
theorem dX8_order_205 : decode cX8_order 205 = .ok (.iinc 2 1, 3) := by decide +kernel
theorem dX8_order_208 : decode cX8_order 208 = .ok (.goto (-136), 3) := by decide +kernel
theorem dX8_order_211 : decode cX8_order 211 = .ok (.bipush (-2), 2) := by decide +kernel
theorem dX8_order_213 : decode cX8_order 213 = .ok (.ireturn, 1) := by decide +kernel
set_option maxRecDepth 20000 in
theorem ggX8_below_X8_isSlot : GoodIn wsX8_below wsX8_isSlot := goodIn_r _ [11, 12, 13, 14, 10, 15] rfl (by decide +kernel)
set_option maxRecDepth 20000 in
theorem gX8_below_X8_isSlot : GoodIn wsX8_below (va_wsS RX8 48 yX8_isSlot wsX8_isSlot) := goodIn_app (goodIn_of _ (by decide +kernel)) ggX8_below_X8_isSlot
set_option maxRecDepth 20000 in
theorem ggX8_below_X8_load : GoodIn wsX8_below wsX8_load := goodIn_r _ [19, 20, 5, 6, 21, 59, 60, 61, 62, 63, 64, 65, 66, 67, 68, 69, 70, 71, 72, 73, 74, 75, 76, 77, 78, 79, 80, 81, 82, 83, 84, 85, 86, 87, 88, 89, 90, 91] rfl (by decide +kernel)
set_option maxRecDepth 20000 in
theorem gX8_below_X8_load : GoodIn wsX8_below (wsV RX8 63 RX8 yX8_load wsX8_load) := goodIn_app (goodIn_of _ (by decide +kernel)) ggX8_below_X8_load
set_option maxRecDepth 20000 in
theorem ggX8_below_X8_shortOf : GoodIn wsX8_below wsX8_shortOf := goodIn_r _ [25, 7, 2, 5, 6, 3, 26, 27, 28, 10, 29, 30, 31, 32, 33, 34, 35, 36, 37, 38, 39, 40, 41, 42, 43, 44, 45, 46, 13, 14, 15, 47, 48, 49, 50, 59, 60, 61, 62, 63, 64, 65, 66, 67, 68, 69, 70, 71, 72, 73, 74, 75, 76, 77, 78, 79, 80, 81, 82, 83, 84, 85, 86, 87, 88, 89, 90, 91] rfl (by decide +kernel)
set_option maxRecDepth 20000 in
theorem gX8_below_X8_shortOf : GoodIn wsX8_below (wsV RX8 119 RX8 yX8_shortOf wsX8_shortOf) := goodIn_app (goodIn_of _ (by decide +kernel)) ggX8_below_X8_shortOf
set_option maxRecDepth 20000 in
theorem ggX8_below_X8_rToW : GoodIn wsX8_below wsX8_rToW := goodIn_r _ [54, 2, 5, 6, 3, 59, 60, 61, 62, 63, 64, 65, 66, 67, 68, 69, 70, 71, 72, 73, 74, 75, 76, 77, 78, 79, 80, 81, 82, 83, 84, 85, 86, 87, 88, 89, 90, 91] rfl (by decide +kernel)
set_option maxRecDepth 20000 in
theorem gX8_below_X8_rToW : GoodIn wsX8_below (wsV RX8 132 RX8 yX8_rToW wsX8_rToW) := goodIn_app (goodIn_of _ (by decide +kernel)) ggX8_below_X8_rToW
set_option maxRecDepth 20000 in
theorem ggX8_below_X8_wToV : GoodIn wsX8_below wsX8_wToV := goodIn_r _ [58, 5, 1, 4, 6, 59, 60, 61, 62, 63, 64, 65, 66, 67, 68, 69, 70, 71, 72, 73, 74, 75, 76, 77, 78, 79, 80, 81, 82, 83, 84, 85, 86, 87, 88, 89, 90, 91] rfl (by decide +kernel)
set_option maxRecDepth 20000 in
theorem gX8_below_X8_wToV : GoodIn wsX8_below (wsV RX8 138 RX8 yX8_wToV wsX8_wToV) := goodIn_app (goodIn_of _ (by decide +kernel)) ggX8_below_X8_wToV
set_option maxRecDepth 20000 in
theorem ggX8_below_X8_behind : GoodIn wsX8_below wsX8_behind := goodIn_r _ [29, 2, 3, 7, 30, 31, 32, 10, 33, 34, 35, 36, 37, 38, 39, 40, 41, 42, 43, 44, 45, 46, 13, 14, 15, 59, 60, 61, 62, 63, 64, 65, 66, 67, 68, 69, 70, 71, 72, 73, 74, 75, 76, 77, 78, 79, 80, 81, 82, 83, 84, 85, 86, 87, 88, 89, 90, 91] rfl (by decide +kernel)
set_option maxRecDepth 20000 in
theorem gX8_below_X8_behind : GoodIn wsX8_below (wsV RX8 104 RX8 yX8_behind wsX8_behind) := goodIn_app (goodIn_of _ (by decide +kernel)) ggX8_below_X8_behind
set_option maxRecDepth 20000 in
theorem ggX8_below_X8_goesFromR : GoodIn wsX8_below wsX8_goesFromR := goodIn_r _ [50, 2, 3, 59, 60, 61, 62, 63, 64, 65, 66, 67, 68, 69, 70, 71, 72, 73, 74, 75, 76, 77, 78, 79, 80, 81, 82, 83, 84, 85, 86, 87, 88, 89, 90, 91] rfl (by decide +kernel)
set_option maxRecDepth 20000 in
theorem gX8_below_X8_goesFromR : GoodIn wsX8_below (wsV RX8 107 RX8 yX8_goesFromR wsX8_goesFromR) := goodIn_app (goodIn_of _ (by decide +kernel)) ggX8_below_X8_goesFromR
theorem dX8_below_0 : decode cX8_below 0 = .ok (.iload_n 1, 1) := by decide +kernel
theorem dX8_below_1 : decode cX8_below 1 = .ok (.invokestatic 48, 3) := by decide +kernel
theorem dX8_below_4 : decode cX8_below 4 = .ok (.ifCond .eq 10, 3) := by decide +kernel
theorem dX8_below_7 : decode cX8_below 7 = .ok (.iload_n 2, 1) := by decide +kernel
theorem dX8_below_8 : decode cX8_below 8 = .ok (.invokestatic 48, 3) := by decide +kernel
theorem dX8_below_11 : decode cX8_below 11 = .ok (.ifCond .ne 5, 3) := by decide +kernel
theorem dX8_below_14 : decode cX8_below 14 = .ok (.iconst (-1), 1) := by decide +kernel
theorem dX8_below_15 : decode cX8_below 15 = .ok (.ireturn, 1) := by decide +kernel
theorem dX8_below_16 : decode cX8_below 16 = .ok (.aload_n 0, 1) := by decide +kernel
theorem dX8_below_17 : decode cX8_below 17 = .ok (.iload_n 1, 1) := by decide +kernel
theorem dX8_below_18 : decode cX8_below 18 = .ok (.invokevirtual 63, 3) := by decide +kernel
theorem dX8_below_21 : decode cX8_below 21 = .ok (.aload_n 0, 1) := by decide +kernel
theorem dX8_below_22 : decode cX8_below 22 = .ok (.invokevirtual 119, 3) := by decide +kernel
theorem dX8_below_25 : decode cX8_below 25 = .ok (.ifCond .ne 6, 3) := by decide +kernel
theorem dX8_below_28 : decode cX8_below 28 = .ok (.bipush (-4), 2) := by decide +kernel
theorem dX8_below_30 : decode cX8_below 30 = .ok (.ireturn, 1) := by decide +kernel
theorem dX8_below_31 : decode cX8_below 31 = .ok (.aload_n 0, 1) := by decide +kernel
theorem dX8_below_32 : decode cX8_below 32 = .ok (.invokevirtual 132, 3) := by decide +kernel
theorem dX8_below_35 : decode cX8_below 35 = .ok (.aload_n 0, 1) := by decide +kernel
theorem dX8_below_36 : decode cX8_below 36 = .ok (.invokevirtual 138, 3) := by decide +kernel
theorem dX8_below_39 : decode cX8_below 39 = .ok (.aload_n 0, 1) := by decide +kernel
theorem dX8_below_40 : decode cX8_below 40 = .ok (.iload_n 2, 1) := by decide +kernel
theorem dX8_below_41 : decode cX8_below 41 = .ok (.invokevirtual 63, 3) := by decide +kernel
theorem dX8_below_44 : decode cX8_below 44 = .ok (.aload_n 0, 1) := by decide +kernel
theorem dX8_below_45 : decode cX8_below 45 = .ok (.invokevirtual 119, 3) := by decide +kernel
theorem dX8_below_48 : decode cX8_below 48 = .ok (.ifCond .ne 6, 3) := by decide +kernel
theorem dX8_below_51 : decode cX8_below 51 = .ok (.bipush (-4), 2) := by decide +kernel
theorem dX8_below_53 : decode cX8_below 53 = .ok (.ireturn, 1) := by decide +kernel
theorem dX8_below_54 : decode cX8_below 54 = .ok (.aload_n 0, 1) := by decide +kernel
theorem dX8_below_55 : decode cX8_below 55 = .ok (.invokevirtual 132, 3) := by decide +kernel
theorem dX8_below_58 : decode cX8_below 58 = .ok (.aload_n 0, 1) := by decide +kernel
theorem dX8_below_59 : decode cX8_below 59 = .ok (.aload_n 0, 1) := by decide +kernel
theorem dX8_below_60 : decode cX8_below 60 = .ok (.getfield 126, 3) := by decide +kernel
theorem dX8_below_63 : decode cX8_below 63 = .ok (.putfield 92, 3) := by decide +kernel
theorem dX8_below_66 : decode cX8_below 66 = .ok (.iconst 0, 1) := by decide +kernel
theorem dX8_below_67 : decode cX8_below 67 = .ok (.istore_n 3, 1) := by decide +kernel
theorem dX8_below_68 : decode cX8_below 68 = .ok (.iload_n 3, 1) := by decide +kernel
theorem dX8_below_69 : decode cX8_below 69 = .ok (.aload_n 0, 1) := by decide +kernel
theorem dX8_below_70 : decode cX8_below 70 = .ok (.getfield 126, 3) := by decide +kernel
theorem dX8_below_73 : decode cX8_below 73 = .ok (.if_icmp .ge 21, 3) := by decide +kernel
theorem dX8_below_76 : decode cX8_below 76 = .ok (.aload_n 0, 1) := by decide +kernel
theorem dX8_below_77 : decode cX8_below 77 = .ok (.getfield 95, 3) := by decide +kernel
theorem dX8_below_80 : decode cX8_below 80 = .ok (.iload_n 3, 1) := by decide +kernel
theorem dX8_below_81 : decode cX8_below 81 = .ok (.aload_n 0, 1) := by decide +kernel
theorem dX8_below_82 : decode cX8_below 82 = .ok (.getfield 129, 3) := by decide +kernel
theorem dX8_below_85 : decode cX8_below 85 = .ok (.iload_n 3, 1) := by decide +kernel
theorem dX8_below_86 : decode cX8_below 86 = .ok (.iaload, 1) := by decide +kernel
theorem dX8_below_87 : decode cX8_below 87 = .ok (.iastore, 1) := by decide +kernel
theorem dX8_below_88 : decode cX8_below 88 = .ok (.iinc 3 1, 3) := by decide +kernel
theorem dX8_below_91 : decode cX8_below 91 = .ok (.goto (-23), 3) := by decide +kernel
theorem dX8_below_94 : decode cX8_below 94 = .ok (.aload_n 0, 1) := by decide +kernel
theorem dX8_below_95 : decode cX8_below 95 = .ok (.getfield 57, 3) := by decide +kernel
theorem dX8_below_98 : decode cX8_below 98 = .ok (.iconst 1, 1) := by decide +kernel
theorem dX8_below_99 : decode cX8_below 99 = .ok (.isub, 1) := by decide +kernel
theorem dX8_below_100 : decode cX8_below 100 = .ok (.istore_n 3, 1) := by decide +kernel
theorem dX8_below_101 : decode cX8_below 101 = .ok (.iload_n 3, 1) := by decide +kernel
theorem dX8_below_102 : decode cX8_below 102 = .ok (.ifCond .lt 42, 3) := by decide +kernel
theorem dX8_below_105 : decode cX8_below 105 = .ok (.aload_n 0, 1) := by decide +kernel
theorem dX8_below_106 : decode cX8_below 106 = .ok (.aload_n 0, 1) := by decide +kernel
theorem dX8_below_107 : decode cX8_below 107 = .ok (.getfield 60, 3) := by decide +kernel
theorem dX8_below_110 : decode cX8_below 110 = .ok (.iload_n 3, 1) := by decide +kernel
theorem dX8_below_111 : decode cX8_below 111 = .ok (.iaload, 1) := by decide +kernel
theorem dX8_below_112 : decode cX8_below 112 = .ok (.invokevirtual 104, 3) := by decide +kernel
theorem dX8_below_115 : decode cX8_below 115 = .ok (.istore 4, 2) := by decide +kernel
theorem dX8_below_117 : decode cX8_below 117 = .ok (.aload_n 0, 1) := by decide +kernel
theorem dX8_below_118 : decode cX8_below 118 = .ok (.getfield 81, 3) := by decide +kernel
theorem dX8_below_121 : decode cX8_below 121 = .ok (.ifCond .eq 6, 3) := by decide +kernel
theorem dX8_below_124 : decode cX8_below 124 = .ok (.bipush (-4), 2) := by decide +kernel
theorem dX8_below_126 : decode cX8_below 126 = .ok (.ireturn, 1) := by decide +kernel
theorem dX8_below_127 : decode cX8_below 127 = .ok (.iload 4, 2) := by decide +kernel
theorem dX8_below_129 : decode cX8_below 129 = .ok (.ifCond .lt 9, 3) := by decide +kernel
theorem dX8_below_132 : decode cX8_below 132 = .ok (.aload_n 0, 1) := by decide +kernel
theorem dX8_below_133 : decode cX8_below 133 = .ok (.iload 4, 2) := by decide +kernel
theorem dX8_below_135 : decode cX8_below 135 = .ok (.invokevirtual 107, 3) := by decide +kernel
theorem dX8_below_138 : decode cX8_below 138 = .ok (.iinc 3 (-1), 3) := by decide +kernel
theorem dX8_below_141 : decode cX8_below 141 = .ok (.goto (-40), 3) := by decide +kernel
theorem dX8_below_144 : decode cX8_below 144 = .ok (.aload_n 0, 1) := by decide +kernel
theorem dX8_below_145 : decode cX8_below 145 = .ok (.getfield 92, 3) := by decide +kernel
theorem dX8_below_148 : decode cX8_below 148 = .ok (.ifCond .ne 7, 3) := by decide +kernel
theorem dX8_below_151 : decode cX8_below 151 = .ok (.iconst 1, 1) := by decide +kernel
theorem dX8_below_152 : decode cX8_below 152 = .ok (.goto 4, 3) := by decide +kernel
theorem dX8_below_155 : decode cX8_below 155 = .ok (.iconst 0, 1) := by decide +kernel
theorem dX8_below_156 : decode cX8_below 156 = .ok (.ireturn, 1) := by decide +kernel
theorem dX8_height_0 : decode cX8_height 0 = .ok (.lconst 0, 1) := by decide +kernel
theorem dX8_height_1 : decode cX8_height 1 = .ok (.lstore_n 1, 1) := by decide +kernel
theorem dX8_height_2 : decode cX8_height 2 = .ok (.iconst 0, 1) := by decide +kernel
theorem dX8_height_3 : decode cX8_height 3 = .ok (.istore_n 3, 1) := by decide +kernel
theorem dX8_height_4 : decode cX8_height 4 = .ok (.iload_n 3, 1) := by decide +kernel
theorem dX8_height_5 : decode cX8_height 5 = .ok (.aload_n 0, 1) := by decide +kernel
theorem dX8_height_6 : decode cX8_height 6 = .ok (.getfield 11, 3) := by decide +kernel
theorem dX8_height_9 : decode cX8_height 9 = .ok (.if_icmp .ge 18, 3) := by decide +kernel
theorem dX8_height_12 : decode cX8_height 12 = .ok (.lload_n 1, 1) := by decide +kernel
theorem dX8_height_13 : decode cX8_height 13 = .ok (.aload_n 0, 1) := by decide +kernel
theorem dX8_height_14 : decode cX8_height 14 = .ok (.getfield 77, 3) := by decide +kernel
theorem dX8_height_17 : decode cX8_height 17 = .ok (.iload_n 3, 1) := by decide +kernel
theorem dX8_height_18 : decode cX8_height 18 = .ok (.laload, 1) := by decide +kernel
theorem dX8_height_19 : decode cX8_height 19 = .ok (.ladd, 1) := by decide +kernel
theorem dX8_height_20 : decode cX8_height 20 = .ok (.lstore_n 1, 1) := by decide +kernel
theorem dX8_height_21 : decode cX8_height 21 = .ok (.iinc 3 1, 3) := by decide +kernel
theorem dX8_height_24 : decode cX8_height 24 = .ok (.goto (-20), 3) := by decide +kernel
theorem dX8_height_27 : decode cX8_height 27 = .ok (.lload_n 1, 1) := by decide +kernel
theorem dX8_height_28 : decode cX8_height 28 = .ok (.lreturn, 1) := by decide +kernel
theorem dX8_isAbove_0 : decode cX8_isAbove 0 = .ok (.iconst 1, 1) := by decide +kernel
theorem dX8_isAbove_1 : decode cX8_isAbove 1 = .ok (.istore_n 1, 1) := by decide +kernel
theorem dX8_isAbove_2 : decode cX8_isAbove 2 = .ok (.iconst 0, 1) := by decide +kernel
theorem dX8_isAbove_3 : decode cX8_isAbove 3 = .ok (.istore_n 2, 1) := by decide +kernel
theorem dX8_isAbove_4 : decode cX8_isAbove 4 = .ok (.iload_n 2, 1) := by decide +kernel
theorem dX8_isAbove_5 : decode cX8_isAbove 5 = .ok (.aload_n 0, 1) := by decide +kernel
theorem dX8_isAbove_6 : decode cX8_isAbove 6 = .ok (.getfield 11, 3) := by decide +kernel
theorem dX8_isAbove_9 : decode cX8_isAbove 9 = .ok (.if_icmp .ge 30, 3) := by decide +kernel
theorem dX8_isAbove_12 : decode cX8_isAbove 12 = .ok (.iload_n 1, 1) := by decide +kernel
theorem dX8_isAbove_13 : decode cX8_isAbove 13 = .ok (.ifCond .eq 18, 3) := by decide +kernel
theorem dX8_isAbove_16 : decode cX8_isAbove 16 = .ok (.aload_n 0, 1) := by decide +kernel
theorem dX8_isAbove_17 : decode cX8_isAbove 17 = .ok (.getfield 77, 3) := by decide +kernel
theorem dX8_isAbove_20 : decode cX8_isAbove 20 = .ok (.iload_n 2, 1) := by decide +kernel
theorem dX8_isAbove_21 : decode cX8_isAbove 21 = .ok (.laload, 1) := by decide +kernel
theorem dX8_isAbove_22 : decode cX8_isAbove 22 = .ok (.lconst 0, 1) := by decide +kernel
theorem dX8_isAbove_23 : decode cX8_isAbove 23 = .ok (.lcmp, 1) := by decide +kernel
theorem dX8_isAbove_24 : decode cX8_isAbove 24 = .ok (.ifCond .lt 7, 3) := by decide +kernel
theorem dX8_isAbove_27 : decode cX8_isAbove 27 = .ok (.iconst 1, 1) := by decide +kernel
theorem dX8_isAbove_28 : decode cX8_isAbove 28 = .ok (.goto 4, 3) := by decide +kernel
theorem dX8_isAbove_31 : decode cX8_isAbove 31 = .ok (.iconst 0, 1) := by decide +kernel
theorem dX8_isAbove_32 : decode cX8_isAbove 32 = .ok (.istore_n 1, 1) := by decide +kernel
theorem dX8_isAbove_33 : decode cX8_isAbove 33 = .ok (.iinc 2 1, 3) := by decide +kernel
theorem dX8_isAbove_36 : decode cX8_isAbove 36 = .ok (.goto (-32), 3) := by decide +kernel
theorem dX8_isAbove_39 : decode cX8_isAbove 39 = .ok (.iload_n 1, 1) := by decide +kernel
theorem dX8_isAbove_40 : decode cX8_isAbove 40 = .ok (.ireturn, 1) := by decide +kernel
theorem dX8_isKnown_0 : decode cX8_isKnown 0 = .ok (.iload_n 1, 1) := by decide +kernel
theorem dX8_isKnown_1 : decode cX8_isKnown 1 = .ok (.istore_n 2, 1) := by decide +kernel
theorem dX8_isKnown_2 : decode cX8_isKnown 2 = .ok (.iload_n 2, 1) := by decide +kernel
theorem dX8_isKnown_3 : decode cX8_isKnown 3 = .ok (.aload_n 0, 1) := by decide +kernel
theorem dX8_isKnown_4 : decode cX8_isKnown 4 = .ok (.getfield 151, 3) := by decide +kernel
theorem dX8_isKnown_7 : decode cX8_isKnown 7 = .ok (.if_icmp .ge 66, 3) := by decide +kernel
theorem dX8_isKnown_10 : decode cX8_isKnown 10 = .ok (.iconst 1, 1) := by decide +kernel
theorem dX8_isKnown_11 : decode cX8_isKnown 11 = .ok (.istore_n 3, 1) := by decide +kernel
theorem dX8_isKnown_12 : decode cX8_isKnown 12 = .ok (.iconst 0, 1) := by decide +kernel
theorem dX8_isKnown_13 : decode cX8_isKnown 13 = .ok (.istore 4, 2) := by decide +kernel
theorem dX8_isKnown_15 : decode cX8_isKnown 15 = .ok (.iload 4, 2) := by decide +kernel
theorem dX8_isKnown_17 : decode cX8_isKnown 17 = .ok (.bipush 6, 2) := by decide +kernel
theorem dX8_isKnown_19 : decode cX8_isKnown 19 = .ok (.if_icmp .ge 42, 3) := by decide +kernel
theorem dX8_isKnown_22 : decode cX8_isKnown 22 = .ok (.iload_n 3, 1) := by decide +kernel
theorem dX8_isKnown_23 : decode cX8_isKnown 23 = .ok (.ifCond .eq 38, 3) := by decide +kernel
theorem dX8_isKnown_26 : decode cX8_isKnown 26 = .ok (.aload_n 0, 1) := by decide +kernel
theorem dX8_isKnown_27 : decode cX8_isKnown 27 = .ok (.getfield 154, 3) := by decide +kernel
theorem dX8_isKnown_30 : decode cX8_isKnown 30 = .ok (.bipush 6, 2) := by decide +kernel
theorem dX8_isKnown_32 : decode cX8_isKnown 32 = .ok (.iload_n 2, 1) := by decide +kernel
theorem dX8_isKnown_33 : decode cX8_isKnown 33 = .ok (.imul, 1) := by decide +kernel
theorem dX8_isKnown_34 : decode cX8_isKnown 34 = .ok (.iload 4, 2) := by decide +kernel
theorem dX8_isKnown_36 : decode cX8_isKnown 36 = .ok (.iadd, 1) := by decide +kernel
theorem dX8_isKnown_37 : decode cX8_isKnown 37 = .ok (.laload, 1) := by decide +kernel
theorem dX8_isKnown_38 : decode cX8_isKnown 38 = .ok (.aload_n 0, 1) := by decide +kernel
theorem dX8_isKnown_39 : decode cX8_isKnown 39 = .ok (.getfield 77, 3) := by decide +kernel
theorem dX8_isKnown_42 : decode cX8_isKnown 42 = .ok (.iload 4, 2) := by decide +kernel
theorem dX8_isKnown_44 : decode cX8_isKnown 44 = .ok (.laload, 1) := by decide +kernel
theorem dX8_isKnown_45 : decode cX8_isKnown 45 = .ok (.lcmp, 1) := by decide +kernel
theorem dX8_isKnown_46 : decode cX8_isKnown 46 = .ok (.ifCond .ne 7, 3) := by decide +kernel
theorem dX8_isKnown_49 : decode cX8_isKnown 49 = .ok (.iconst 1, 1) := by decide +kernel
theorem dX8_isKnown_50 : decode cX8_isKnown 50 = .ok (.goto 4, 3) := by decide +kernel
theorem dX8_isKnown_53 : decode cX8_isKnown 53 = .ok (.iconst 0, 1) := by decide +kernel
theorem dX8_isKnown_54 : decode cX8_isKnown 54 = .ok (.istore_n 3, 1) := by decide +kernel
theorem dX8_isKnown_55 : decode cX8_isKnown 55 = .ok (.iinc 4 1, 3) := by decide +kernel
theorem dX8_isKnown_58 : decode cX8_isKnown 58 = .ok (.goto (-43), 3) := by decide +kernel
theorem dX8_isKnown_61 : decode cX8_isKnown 61 = .ok (.iload_n 3, 1) := by decide +kernel
theorem dX8_isKnown_62 : decode cX8_isKnown 62 = .ok (.ifCond .eq 5, 3) := by decide +kernel
theorem dX8_isKnown_65 : decode cX8_isKnown 65 = .ok (.iconst 1, 1) := by decide +kernel
theorem dX8_isKnown_66 : decode cX8_isKnown 66 = .ok (.ireturn, 1) := by decide +kernel
theorem dX8_isKnown_67 : decode cX8_isKnown 67 = .ok (.iinc 2 1, 3) := by decide +kernel
theorem dX8_isKnown_70 : decode cX8_isKnown 70 = .ok (.goto (-68), 3) := by decide +kernel
theorem dX8_isKnown_73 : decode cX8_isKnown 73 = .ok (.iconst 0, 1) := by decide +kernel
theorem dX8_isKnown_74 : decode cX8_isKnown 74 = .ok (.ireturn, 1) := by decide +kernel
theorem dX8_comes_0 : decode cX8_comes 0 = .ok (.iload_n 1, 1) := by decide +kernel
theorem dX8_comes_1 : decode cX8_comes 1 = .ok (.istore_n 3, 1) := by decide +kernel
theorem dX8_comes_2 : decode cX8_comes 2 = .ok (.iconst 1, 1) := by decide +kernel
theorem dX8_comes_3 : decode cX8_comes 3 = .ok (.istore 4, 2) := by decide +kernel
theorem dX8_comes_5 : decode cX8_comes 5 = .ok (.iload_n 3, 1) := by decide +kernel
theorem dX8_comes_6 : decode cX8_comes 6 = .ok (.aload_n 0, 1) := by decide +kernel
theorem dX8_comes_7 : decode cX8_comes 7 = .ok (.getfield 151, 3) := by decide +kernel
theorem dX8_comes_10 : decode cX8_comes 10 = .ok (.if_icmp .ge 92, 3) := by decide +kernel
theorem dX8_comes_13 : decode cX8_comes 13 = .ok (.iload 4, 2) := by decide +kernel
theorem dX8_comes_15 : decode cX8_comes 15 = .ok (.ifCond .eq 87, 3) := by decide +kernel
theorem dX8_comes_18 : decode cX8_comes 18 = .ok (.iconst 0, 1) := by decide +kernel
theorem dX8_comes_19 : decode cX8_comes 19 = .ok (.istore 5, 2) := by decide +kernel
theorem dX8_comes_21 : decode cX8_comes 21 = .ok (.iload 5, 2) := by decide +kernel
theorem dX8_comes_23 : decode cX8_comes 23 = .ok (.iconst 5, 1) := by decide +kernel
theorem dX8_comes_24 : decode cX8_comes 24 = .ok (.if_icmp .ge 32, 3) := by decide +kernel
theorem dX8_comes_27 : decode cX8_comes 27 = .ok (.aload_n 0, 1) := by decide +kernel
theorem dX8_comes_28 : decode cX8_comes 28 = .ok (.getfield 154, 3) := by decide +kernel
theorem dX8_comes_31 : decode cX8_comes 31 = .ok (.bipush 6, 2) := by decide +kernel
theorem dX8_comes_33 : decode cX8_comes 33 = .ok (.iload_n 3, 1) := by decide +kernel
theorem dX8_comes_34 : decode cX8_comes 34 = .ok (.imul, 1) := by decide +kernel
theorem dX8_comes_35 : decode cX8_comes 35 = .ok (.iload 5, 2) := by decide +kernel
theorem dX8_comes_37 : decode cX8_comes 37 = .ok (.iadd, 1) := by decide +kernel
theorem dX8_comes_38 : decode cX8_comes 38 = .ok (.laload, 1) := by decide +kernel
theorem dX8_comes_39 : decode cX8_comes 39 = .ok (.aload_n 0, 1) := by decide +kernel
theorem dX8_comes_40 : decode cX8_comes 40 = .ok (.getfield 77, 3) := by decide +kernel
theorem dX8_comes_43 : decode cX8_comes 43 = .ok (.iload 5, 2) := by decide +kernel
theorem dX8_comes_45 : decode cX8_comes 45 = .ok (.laload, 1) := by decide +kernel
theorem dX8_comes_46 : decode cX8_comes 46 = .ok (.lcmp, 1) := by decide +kernel
theorem dX8_comes_47 : decode cX8_comes 47 = .ok (.ifCond .ne 9, 3) := by decide +kernel
theorem dX8_comes_50 : decode cX8_comes 50 = .ok (.iinc 5 1, 3) := by decide +kernel
theorem dX8_comes_53 : decode cX8_comes 53 = .ok (.goto (-32), 3) := by decide +kernel
theorem dX8_comes_56 : decode cX8_comes 56 = .ok (.aload_n 0, 1) := by decide +kernel
theorem dX8_comes_57 : decode cX8_comes 57 = .ok (.getfield 154, 3) := by decide +kernel
theorem dX8_comes_60 : decode cX8_comes 60 = .ok (.bipush 6, 2) := by decide +kernel
theorem dX8_comes_62 : decode cX8_comes 62 = .ok (.iload_n 3, 1) := by decide +kernel
theorem dX8_comes_63 : decode cX8_comes 63 = .ok (.imul, 1) := by decide +kernel
theorem dX8_comes_64 : decode cX8_comes 64 = .ok (.iload 5, 2) := by decide +kernel
theorem dX8_comes_66 : decode cX8_comes 66 = .ok (.iadd, 1) := by decide +kernel
theorem dX8_comes_67 : decode cX8_comes 67 = .ok (.laload, 1) := by decide +kernel
theorem dX8_comes_68 : decode cX8_comes 68 = .ok (.aload_n 0, 1) := by decide +kernel
theorem dX8_comes_69 : decode cX8_comes 69 = .ok (.getfield 77, 3) := by decide +kernel
theorem dX8_comes_72 : decode cX8_comes 72 = .ok (.iload 5, 2) := by decide +kernel
theorem dX8_comes_74 : decode cX8_comes 74 = .ok (.laload, 1) := by decide +kernel
theorem dX8_comes_75 : decode cX8_comes 75 = .ok (.lcmp, 1) := by decide +kernel
theorem dX8_comes_76 : decode cX8_comes 76 = .ok (.ifCond .le 7, 3) := by decide +kernel
theorem dX8_comes_79 : decode cX8_comes 79 = .ok (.iconst 1, 1) := by decide +kernel
theorem dX8_comes_80 : decode cX8_comes 80 = .ok (.goto 4, 3) := by decide +kernel
theorem dX8_comes_83 : decode cX8_comes 83 = .ok (.iconst 0, 1) := by decide +kernel
theorem dX8_comes_84 : decode cX8_comes 84 = .ok (.istore 4, 2) := by decide +kernel
theorem dX8_comes_86 : decode cX8_comes 86 = .ok (.iload_n 3, 1) := by decide +kernel
theorem dX8_comes_87 : decode cX8_comes 87 = .ok (.iload 4, 2) := by decide +kernel
theorem dX8_comes_89 : decode cX8_comes 89 = .ok (.ifCond .eq 7, 3) := by decide +kernel
theorem dX8_comes_92 : decode cX8_comes 92 = .ok (.iconst 1, 1) := by decide +kernel
theorem dX8_comes_93 : decode cX8_comes 93 = .ok (.goto 4, 3) := by decide +kernel
theorem dX8_comes_96 : decode cX8_comes 96 = .ok (.iconst 0, 1) := by decide +kernel
theorem dX8_comes_97 : decode cX8_comes 97 = .ok (.iadd, 1) := by decide +kernel
theorem dX8_comes_98 : decode cX8_comes 98 = .ok (.istore_n 3, 1) := by decide +kernel
theorem dX8_comes_99 : decode cX8_comes 99 = .ok (.goto (-94), 3) := by decide +kernel
theorem dX8_comes_102 : decode cX8_comes 102 = .ok (.bipush 6, 2) := by decide +kernel
theorem dX8_comes_104 : decode cX8_comes 104 = .ok (.aload_n 0, 1) := by decide +kernel
theorem dX8_comes_105 : decode cX8_comes 105 = .ok (.getfield 151, 3) := by decide +kernel
theorem dX8_comes_108 : decode cX8_comes 108 = .ok (.imul, 1) := by decide +kernel
theorem dX8_comes_109 : decode cX8_comes 109 = .ok (.iconst 1, 1) := by decide +kernel
theorem dX8_comes_110 : decode cX8_comes 110 = .ok (.isub, 1) := by decide +kernel
theorem dX8_comes_111 : decode cX8_comes 111 = .ok (.istore 5, 2) := by decide +kernel
theorem dX8_comes_113 : decode cX8_comes 113 = .ok (.iload 5, 2) := by decide +kernel
theorem dX8_comes_115 : decode cX8_comes 115 = .ok (.bipush 6, 2) := by decide +kernel
theorem dX8_comes_117 : decode cX8_comes 117 = .ok (.iload_n 3, 1) := by decide +kernel
theorem dX8_comes_118 : decode cX8_comes 118 = .ok (.imul, 1) := by decide +kernel
theorem dX8_comes_119 : decode cX8_comes 119 = .ok (.if_icmp .lt 26, 3) := by decide +kernel
theorem dX8_comes_122 : decode cX8_comes 122 = .ok (.aload_n 0, 1) := by decide +kernel
theorem dX8_comes_123 : decode cX8_comes 123 = .ok (.getfield 154, 3) := by decide +kernel
theorem dX8_comes_126 : decode cX8_comes 126 = .ok (.iload 5, 2) := by decide +kernel
theorem dX8_comes_128 : decode cX8_comes 128 = .ok (.bipush 6, 2) := by decide +kernel
theorem dX8_comes_130 : decode cX8_comes 130 = .ok (.iadd, 1) := by decide +kernel
theorem dX8_comes_131 : decode cX8_comes 131 = .ok (.aload_n 0, 1) := by decide +kernel
theorem dX8_comes_132 : decode cX8_comes 132 = .ok (.getfield 154, 3) := by decide +kernel
theorem dX8_comes_135 : decode cX8_comes 135 = .ok (.iload 5, 2) := by decide +kernel
theorem dX8_comes_137 : decode cX8_comes 137 = .ok (.laload, 1) := by decide +kernel
theorem dX8_comes_138 : decode cX8_comes 138 = .ok (.lastore, 1) := by decide +kernel
theorem dX8_comes_139 : decode cX8_comes 139 = .ok (.iinc 5 (-1), 3) := by decide +kernel
theorem dX8_comes_142 : decode cX8_comes 142 = .ok (.goto (-29), 3) := by decide +kernel
theorem dX8_comes_145 : decode cX8_comes 145 = .ok (.iconst 0, 1) := by decide +kernel
theorem dX8_comes_146 : decode cX8_comes 146 = .ok (.istore 5, 2) := by decide +kernel
theorem dX8_comes_148 : decode cX8_comes 148 = .ok (.iload 5, 2) := by decide +kernel
theorem dX8_comes_150 : decode cX8_comes 150 = .ok (.bipush 6, 2) := by decide +kernel
theorem dX8_comes_152 : decode cX8_comes 152 = .ok (.if_icmp .ge 28, 3) := by decide +kernel
theorem dX8_comes_155 : decode cX8_comes 155 = .ok (.aload_n 0, 1) := by decide +kernel
theorem dX8_comes_156 : decode cX8_comes 156 = .ok (.getfield 154, 3) := by decide +kernel
theorem dX8_comes_159 : decode cX8_comes 159 = .ok (.bipush 6, 2) := by decide +kernel
theorem dX8_comes_161 : decode cX8_comes 161 = .ok (.iload_n 3, 1) := by decide +kernel
theorem dX8_comes_162 : decode cX8_comes 162 = .ok (.imul, 1) := by decide +kernel
theorem dX8_comes_163 : decode cX8_comes 163 = .ok (.iload 5, 2) := by decide +kernel
theorem dX8_comes_165 : decode cX8_comes 165 = .ok (.iadd, 1) := by decide +kernel
theorem dX8_comes_166 : decode cX8_comes 166 = .ok (.aload_n 0, 1) := by decide +kernel
theorem dX8_comes_167 : decode cX8_comes 167 = .ok (.getfield 77, 3) := by decide +kernel
theorem dX8_comes_170 : decode cX8_comes 170 = .ok (.iload 5, 2) := by decide +kernel
theorem dX8_comes_172 : decode cX8_comes 172 = .ok (.laload, 1) := by decide +kernel
theorem dX8_comes_173 : decode cX8_comes 173 = .ok (.lastore, 1) := by decide +kernel
theorem dX8_comes_174 : decode cX8_comes 174 = .ok (.iinc 5 1, 3) := by decide +kernel
theorem dX8_comes_177 : decode cX8_comes 177 = .ok (.goto (-29), 3) := by decide +kernel
theorem dX8_comes_180 : decode cX8_comes 180 = .ok (.aload_n 0, 1) := by decide +kernel
theorem dX8_comes_181 : decode cX8_comes 181 = .ok (.getfield 157, 3) := by decide +kernel
theorem dX8_comes_184 : decode cX8_comes 184 = .ok (.aload_n 0, 1) := by decide +kernel
theorem dX8_comes_185 : decode cX8_comes 185 = .ok (.getfield 151, 3) := by decide +kernel
theorem dX8_comes_188 : decode cX8_comes 188 = .ok (.iload_n 2, 1) := by decide +kernel
theorem dX8_comes_189 : decode cX8_comes 189 = .ok (.iastore, 1) := by decide +kernel
theorem dX8_comes_190 : decode cX8_comes 190 = .ok (.aload_n 0, 1) := by decide +kernel
theorem dX8_comes_191 : decode cX8_comes 191 = .ok (.dup, 1) := by decide +kernel
theorem dX8_comes_192 : decode cX8_comes 192 = .ok (.getfield 151, 3) := by decide +kernel
theorem dX8_comes_195 : decode cX8_comes 195 = .ok (.iconst 1, 1) := by decide +kernel
theorem dX8_comes_196 : decode cX8_comes 196 = .ok (.iadd, 1) := by decide +kernel
theorem dX8_comes_197 : decode cX8_comes 197 = .ok (.putfield 151, 3) := by decide +kernel
theorem dX8_comes_200 : decode cX8_comes 200 = .ok (.return_, 1) := by decide +kernel
set_option maxRecDepth 20000 in
theorem ggX8_findRoots_X8_own : GoodIn wsX8_findRoots wsX8_own := goodIn_r _ [10, 4, 39, 40, 41, 42, 43, 44, 45, 46, 47, 48, 49, 50, 51, 52, 53, 54, 55, 56, 57, 58, 59, 60, 61, 62, 63, 64, 65, 66, 67, 68, 69, 70, 71] rfl (by decide +kernel)
set_option maxRecDepth 20000 in
theorem gX8_findRoots_X8_own : GoodIn wsX8_findRoots (wsV RX8 89 RX8 yX8_own wsX8_own) := goodIn_app (goodIn_of _ (by decide +kernel)) ggX8_findRoots_X8_own
set_option maxRecDepth 20000 in
theorem ggX8_findRoots_X8_comes : GoodIn wsX8_findRoots wsX8_comes := goodIn_r _ [14, 1, 5, 4, 15, 39, 40, 41, 42, 43, 44, 45, 46, 47, 48, 49, 50, 51, 52, 53, 54, 55, 56, 57, 58, 59, 60, 61, 62, 63, 64, 65, 66, 67, 68, 69, 70, 71] rfl (by decide +kernel)
set_option maxRecDepth 20000 in
theorem gX8_findRoots_X8_comes : GoodIn wsX8_findRoots (wsV RX8 163 RX8 yX8_comes wsX8_comes) := goodIn_app (goodIn_of _ (by decide +kernel)) ggX8_findRoots_X8_comes
set_option maxRecDepth 20000 in
theorem ggX8_findRoots_X8_turn : GoodIn wsX8_findRoots wsX8_turn := goodIn_r _ [19, 4, 3, 20, 21, 22, 23, 24, 25, 9, 26, 39, 40, 41, 42, 43, 44, 45, 46, 47, 48, 49, 50, 51, 52, 53, 54, 55, 56, 57, 58, 59, 60, 61, 62, 63, 64, 65, 66, 67, 68, 69, 70, 71] rfl (by decide +kernel)
set_option maxRecDepth 20000 in
theorem gX8_findRoots_X8_turn : GoodIn wsX8_findRoots (wsV RX8 101 RX8 yX8_turn wsX8_turn) := goodIn_app (goodIn_of _ (by decide +kernel)) ggX8_findRoots_X8_turn
set_option maxRecDepth 20000 in
theorem ggX8_findRoots_X8_height : GoodIn wsX8_findRoots wsX8_height := goodIn_r _ [30, 3, 4, 39, 40, 41, 42, 43, 44, 45, 46, 47, 48, 49, 50, 51, 52, 53, 54, 55, 56, 57, 58, 59, 60, 61, 62, 63, 64, 65, 66, 67, 68, 69, 70, 71] rfl (by decide +kernel)
set_option maxRecDepth 20000 in
theorem gX8_findRoots_X8_height : GoodIn wsX8_findRoots (wsV RX8 167 RX8 yX8_height wsX8_height) := goodIn_app (goodIn_of _ (by decide +kernel)) ggX8_findRoots_X8_height
set_option maxRecDepth 20000 in
theorem ggX8_findRoots_X8_isAbove : GoodIn wsX8_findRoots wsX8_isAbove := goodIn_r _ [34, 3, 4, 39, 40, 41, 42, 43, 44, 45, 46, 47, 48, 49, 50, 51, 52, 53, 54, 55, 56, 57, 58, 59, 60, 61, 62, 63, 64, 65, 66, 67, 68, 69, 70, 71] rfl (by decide +kernel)
set_option maxRecDepth 20000 in
theorem gX8_findRoots_X8_isAbove : GoodIn wsX8_findRoots (wsV RX8 171 RX8 yX8_isAbove wsX8_isAbove) := goodIn_app (goodIn_of _ (by decide +kernel)) ggX8_findRoots_X8_isAbove
set_option maxRecDepth 20000 in
theorem ggX8_findRoots_X8_isKnown : GoodIn wsX8_findRoots wsX8_isKnown := goodIn_r _ [38, 1, 5, 4, 39, 40, 41, 42, 43, 44, 45, 46, 47, 48, 49, 50, 51, 52, 53, 54, 55, 56, 57, 58, 59, 60, 61, 62, 63, 64, 65, 66, 67, 68, 69, 70, 71] rfl (by decide +kernel)
set_option maxRecDepth 20000 in
theorem gX8_findRoots_X8_isKnown : GoodIn wsX8_findRoots (wsV RX8 174 RX8 yX8_isKnown wsX8_isKnown) := goodIn_app (goodIn_of _ (by decide +kernel)) ggX8_findRoots_X8_isKnown
theorem dX8_findRoots_0 : decode cX8_findRoots 0 = .ok (.aload_n 0, 1) := by decide +kernel
theorem dX8_findRoots_1 : decode cX8_findRoots 1 = .ok (.iconst 0, 1) := by decide +kernel
theorem dX8_findRoots_2 : decode cX8_findRoots 2 = .ok (.putfield 151, 3) := by decide +kernel
theorem dX8_findRoots_5 : decode cX8_findRoots 5 = .ok (.aload_n 0, 1) := by decide +kernel
theorem dX8_findRoots_6 : decode cX8_findRoots 6 = .ok (.iconst 0, 1) := by decide +kernel
theorem dX8_findRoots_7 : decode cX8_findRoots 7 = .ok (.putfield 160, 3) := by decide +kernel
theorem dX8_findRoots_10 : decode cX8_findRoots 10 = .ok (.iconst 1, 1) := by decide +kernel
theorem dX8_findRoots_11 : decode cX8_findRoots 11 = .ok (.istore_n 2, 1) := by decide +kernel
theorem dX8_findRoots_12 : decode cX8_findRoots 12 = .ok (.iload_n 2, 1) := by decide +kernel
theorem dX8_findRoots_13 : decode cX8_findRoots 13 = .ok (.iload_n 1, 1) := by decide +kernel
theorem dX8_findRoots_14 : decode cX8_findRoots 14 = .ok (.if_icmp .gt 175, 3) := by decide +kernel
theorem dX8_findRoots_17 : decode cX8_findRoots 17 = .ok (.aload_n 0, 1) := by decide +kernel
theorem dX8_findRoots_18 : decode cX8_findRoots 18 = .ok (.getfield 151, 3) := by decide +kernel
theorem dX8_findRoots_21 : decode cX8_findRoots 21 = .ok (.istore_n 3, 1) := by decide +kernel
theorem dX8_findRoots_22 : decode cX8_findRoots 22 = .ok (.iconst 0, 1) := by decide +kernel
theorem dX8_findRoots_23 : decode cX8_findRoots 23 = .ok (.istore 4, 2) := by decide +kernel
theorem dX8_findRoots_25 : decode cX8_findRoots 25 = .ok (.iload 4, 2) := by decide +kernel
theorem dX8_findRoots_27 : decode cX8_findRoots 27 = .ok (.aload_n 0, 1) := by decide +kernel
theorem dX8_findRoots_28 : decode cX8_findRoots 28 = .ok (.getfield 11, 3) := by decide +kernel
theorem dX8_findRoots_31 : decode cX8_findRoots 31 = .ok (.if_icmp .ge 26, 3) := by decide +kernel
theorem dX8_findRoots_34 : decode cX8_findRoots 34 = .ok (.iload_n 2, 1) := by decide +kernel
theorem dX8_findRoots_35 : decode cX8_findRoots 35 = .ok (.iconst 1, 1) := by decide +kernel
theorem dX8_findRoots_36 : decode cX8_findRoots 36 = .ok (.if_icmp .ne 21, 3) := by decide +kernel
theorem dX8_findRoots_39 : decode cX8_findRoots 39 = .ok (.aload_n 0, 1) := by decide +kernel
theorem dX8_findRoots_40 : decode cX8_findRoots 40 = .ok (.iload 4, 2) := by decide +kernel
theorem dX8_findRoots_42 : decode cX8_findRoots 42 = .ok (.invokevirtual 89, 3) := by decide +kernel
theorem dX8_findRoots_45 : decode cX8_findRoots 45 = .ok (.aload_n 0, 1) := by decide +kernel
theorem dX8_findRoots_46 : decode cX8_findRoots 46 = .ok (.iload_n 3, 1) := by decide +kernel
theorem dX8_findRoots_47 : decode cX8_findRoots 47 = .ok (.iconst 1, 1) := by decide +kernel
theorem dX8_findRoots_48 : decode cX8_findRoots 48 = .ok (.invokevirtual 163, 3) := by decide +kernel
theorem dX8_findRoots_51 : decode cX8_findRoots 51 = .ok (.iinc 4 1, 3) := by decide +kernel
theorem dX8_findRoots_54 : decode cX8_findRoots 54 = .ok (.goto (-29), 3) := by decide +kernel
theorem dX8_findRoots_57 : decode cX8_findRoots 57 = .ok (.iconst 0, 1) := by decide +kernel
theorem dX8_findRoots_58 : decode cX8_findRoots 58 = .ok (.istore 4, 2) := by decide +kernel
theorem dX8_findRoots_60 : decode cX8_findRoots 60 = .ok (.iload 4, 2) := by decide +kernel
theorem dX8_findRoots_62 : decode cX8_findRoots 62 = .ok (.iload_n 3, 1) := by decide +kernel
theorem dX8_findRoots_63 : decode cX8_findRoots 63 = .ok (.if_icmp .ge 112, 3) := by decide +kernel
theorem dX8_findRoots_66 : decode cX8_findRoots 66 = .ok (.iconst 0, 1) := by decide +kernel
theorem dX8_findRoots_67 : decode cX8_findRoots 67 = .ok (.istore 5, 2) := by decide +kernel
theorem dX8_findRoots_69 : decode cX8_findRoots 69 = .ok (.iload 5, 2) := by decide +kernel
theorem dX8_findRoots_71 : decode cX8_findRoots 71 = .ok (.aload_n 0, 1) := by decide +kernel
theorem dX8_findRoots_72 : decode cX8_findRoots 72 = .ok (.getfield 11, 3) := by decide +kernel
theorem dX8_findRoots_75 : decode cX8_findRoots 75 = .ok (.if_icmp .ge 94, 3) := by decide +kernel
theorem dX8_findRoots_78 : decode cX8_findRoots 78 = .ok (.iconst 0, 1) := by decide +kernel
theorem dX8_findRoots_79 : decode cX8_findRoots 79 = .ok (.istore 6, 2) := by decide +kernel
theorem dX8_findRoots_81 : decode cX8_findRoots 81 = .ok (.iload 6, 2) := by decide +kernel
theorem dX8_findRoots_83 : decode cX8_findRoots 83 = .ok (.bipush 6, 2) := by decide +kernel
theorem dX8_findRoots_85 : decode cX8_findRoots 85 = .ok (.if_icmp .ge 29, 3) := by decide +kernel
theorem dX8_findRoots_88 : decode cX8_findRoots 88 = .ok (.aload_n 0, 1) := by decide +kernel
theorem dX8_findRoots_89 : decode cX8_findRoots 89 = .ok (.getfield 77, 3) := by decide +kernel
theorem dX8_findRoots_92 : decode cX8_findRoots 92 = .ok (.iload 6, 2) := by decide +kernel
theorem dX8_findRoots_94 : decode cX8_findRoots 94 = .ok (.aload_n 0, 1) := by decide +kernel
theorem dX8_findRoots_95 : decode cX8_findRoots 95 = .ok (.getfield 154, 3) := by decide +kernel
theorem dX8_findRoots_98 : decode cX8_findRoots 98 = .ok (.bipush 6, 2) := by decide +kernel
theorem dX8_findRoots_100 : decode cX8_findRoots 100 = .ok (.iload 4, 2) := by decide +kernel
theorem dX8_findRoots_102 : decode cX8_findRoots 102 = .ok (.imul, 1) := by decide +kernel
theorem dX8_findRoots_103 : decode cX8_findRoots 103 = .ok (.iload 6, 2) := by decide +kernel
theorem dX8_findRoots_105 : decode cX8_findRoots 105 = .ok (.iadd, 1) := by decide +kernel
theorem dX8_findRoots_106 : decode cX8_findRoots 106 = .ok (.laload, 1) := by decide +kernel
theorem dX8_findRoots_107 : decode cX8_findRoots 107 = .ok (.lastore, 1) := by decide +kernel
theorem dX8_findRoots_108 : decode cX8_findRoots 108 = .ok (.iinc 6 1, 3) := by decide +kernel
theorem dX8_findRoots_111 : decode cX8_findRoots 111 = .ok (.goto (-30), 3) := by decide +kernel
theorem dX8_findRoots_114 : decode cX8_findRoots 114 = .ok (.aload_n 0, 1) := by decide +kernel
theorem dX8_findRoots_115 : decode cX8_findRoots 115 = .ok (.iload 5, 2) := by decide +kernel
theorem dX8_findRoots_117 : decode cX8_findRoots 117 = .ok (.invokevirtual 101, 3) := by decide +kernel
theorem dX8_findRoots_120 : decode cX8_findRoots 120 = .ok (.aload_n 0, 1) := by decide +kernel
theorem dX8_findRoots_121 : decode cX8_findRoots 121 = .ok (.invokevirtual 167, 3) := by decide +kernel
theorem dX8_findRoots_124 : decode cX8_findRoots 124 = .ok (.iload_n 2, 1) := by decide +kernel
theorem dX8_findRoots_125 : decode cX8_findRoots 125 = .ok (.i2l, 1) := by decide +kernel
theorem dX8_findRoots_126 : decode cX8_findRoots 126 = .ok (.lcmp, 1) := by decide +kernel
theorem dX8_findRoots_127 : decode cX8_findRoots 127 = .ok (.ifCond .ne 36, 3) := by decide +kernel
theorem dX8_findRoots_130 : decode cX8_findRoots 130 = .ok (.aload_n 0, 1) := by decide +kernel
theorem dX8_findRoots_131 : decode cX8_findRoots 131 = .ok (.invokevirtual 171, 3) := by decide +kernel
theorem dX8_findRoots_134 : decode cX8_findRoots 134 = .ok (.ifCond .eq 29, 3) := by decide +kernel
theorem dX8_findRoots_137 : decode cX8_findRoots 137 = .ok (.aload_n 0, 1) := by decide +kernel
theorem dX8_findRoots_138 : decode cX8_findRoots 138 = .ok (.iload_n 3, 1) := by decide +kernel
theorem dX8_findRoots_139 : decode cX8_findRoots 139 = .ok (.invokevirtual 174, 3) := by decide +kernel
theorem dX8_findRoots_142 : decode cX8_findRoots 142 = .ok (.ifCond .ne 21, 3) := by decide +kernel
theorem dX8_findRoots_145 : decode cX8_findRoots 145 = .ok (.aload_n 0, 1) := by decide +kernel
theorem dX8_findRoots_146 : decode cX8_findRoots 146 = .ok (.getfield 151, 3) := by decide +kernel
theorem dX8_findRoots_149 : decode cX8_findRoots 149 = .ok (.sipush 400, 3) := by decide +kernel
theorem dX8_findRoots_152 : decode cX8_findRoots 152 = .ok (.if_icmp .ne 5, 3) := by decide +kernel
theorem dX8_findRoots_155 : decode cX8_findRoots 155 = .ok (.iconst 0, 1) := by decide +kernel
theorem dX8_findRoots_156 : decode cX8_findRoots 156 = .ok (.ireturn, 1) := by decide +kernel
theorem dX8_findRoots_157 : decode cX8_findRoots 157 = .ok (.aload_n 0, 1) := by decide +kernel
theorem dX8_findRoots_158 : decode cX8_findRoots 158 = .ok (.iload_n 3, 1) := by decide +kernel
theorem dX8_findRoots_159 : decode cX8_findRoots 159 = .ok (.iload_n 2, 1) := by decide +kernel
theorem dX8_findRoots_160 : decode cX8_findRoots 160 = .ok (.invokevirtual 163, 3) := by decide +kernel
theorem dX8_findRoots_163 : decode cX8_findRoots 163 = .ok (.iinc 5 1, 3) := by decide +kernel
theorem dX8_findRoots_166 : decode cX8_findRoots 166 = .ok (.goto (-97), 3) := by decide +kernel
theorem dX8_findRoots_169 : decode cX8_findRoots 169 = .ok (.iinc 4 1, 3) := by decide +kernel
theorem dX8_findRoots_172 : decode cX8_findRoots 172 = .ok (.goto (-112), 3) := by decide +kernel
theorem dX8_findRoots_175 : decode cX8_findRoots 175 = .ok (.aload_n 0, 1) := by decide +kernel
theorem dX8_findRoots_176 : decode cX8_findRoots 176 = .ok (.aload_n 0, 1) := by decide +kernel
theorem dX8_findRoots_177 : decode cX8_findRoots 177 = .ok (.getfield 151, 3) := by decide +kernel
theorem dX8_findRoots_180 : decode cX8_findRoots 180 = .ok (.putfield 160, 3) := by decide +kernel
theorem dX8_findRoots_183 : decode cX8_findRoots 183 = .ok (.iinc 2 1, 3) := by decide +kernel
theorem dX8_findRoots_186 : decode cX8_findRoots 186 = .ok (.goto (-174), 3) := by decide +kernel
theorem dX8_findRoots_189 : decode cX8_findRoots 189 = .ok (.iconst 1, 1) := by decide +kernel
theorem dX8_findRoots_190 : decode cX8_findRoots 190 = .ok (.ireturn, 1) := by decide +kernel
set_option maxRecDepth 20000 in
theorem ggX8_roots_X8_in : GoodIn wsX8_roots wsX8_in := goodIn_r _ [7] rfl (by decide +kernel)
set_option maxRecDepth 20000 in
theorem gX8_roots_X8_in : GoodIn wsX8_roots (va_wsS RX8 24 yX8_in wsX8_in) := goodIn_app (goodIn_of _ (by decide +kernel)) ggX8_roots_X8_in
set_option maxRecDepth 20000 in
theorem ggX8_roots_X8_findRoots : GoodIn wsX8_roots wsX8_findRoots := goodIn_r _ [11, 2, 12, 13, 14, 15, 16, 17, 18, 6, 19, 20, 21, 22, 23, 3, 24, 25, 26, 27, 28, 29, 30, 31, 4, 5, 7, 32, 33, 34, 35, 36, 37, 38, 39, 40, 41, 42, 43, 44, 45, 46, 47, 48, 49, 50, 51, 52, 53, 54, 55, 56, 57, 58, 59, 60, 61, 62, 63, 64, 65, 66, 67, 68, 69, 70, 71, 72, 73, 74, 75, 76] rfl (by decide +kernel)
set_option maxRecDepth 20000 in
theorem gX8_roots_X8_findRoots : GoodIn wsX8_roots (wsV RX8 179 RX8 yX8_findRoots wsX8_findRoots) := goodIn_app (goodIn_of _ (by decide +kernel)) ggX8_roots_X8_findRoots
theorem dX8_roots_0 : decode cX8_roots 0 = .ok (.iload_n 1, 1) := by decide +kernel
theorem dX8_roots_1 : decode cX8_roots 1 = .ok (.i2l, 1) := by decide +kernel
theorem dX8_roots_2 : decode cX8_roots 2 = .ok (.lconst 1, 1) := by decide +kernel
theorem dX8_roots_3 : decode cX8_roots 3 = .ok (.ldc2_w 177, 3) := by decide +kernel
theorem dX8_roots_6 : decode cX8_roots 6 = .ok (.invokestatic 24, 3) := by decide +kernel
theorem dX8_roots_9 : decode cX8_roots 9 = .ok (.ifCond .ne 5, 3) := by decide +kernel
theorem dX8_roots_12 : decode cX8_roots 12 = .ok (.iconst (-1), 1) := by decide +kernel
theorem dX8_roots_13 : decode cX8_roots 13 = .ok (.ireturn, 1) := by decide +kernel
theorem dX8_roots_14 : decode cX8_roots 14 = .ok (.aload_n 0, 1) := by decide +kernel
theorem dX8_roots_15 : decode cX8_roots 15 = .ok (.iload_n 1, 1) := by decide +kernel
theorem dX8_roots_16 : decode cX8_roots 16 = .ok (.invokevirtual 179, 3) := by decide +kernel
theorem dX8_roots_19 : decode cX8_roots 19 = .ok (.ifCond .ne 6, 3) := by decide +kernel
theorem dX8_roots_22 : decode cX8_roots 22 = .ok (.bipush (-3), 2) := by decide +kernel
theorem dX8_roots_24 : decode cX8_roots 24 = .ok (.ireturn, 1) := by decide +kernel
theorem dX8_roots_25 : decode cX8_roots 25 = .ok (.iconst 0, 1) := by decide +kernel
theorem dX8_roots_26 : decode cX8_roots 26 = .ok (.istore_n 2, 1) := by decide +kernel
theorem dX8_roots_27 : decode cX8_roots 27 = .ok (.iconst 0, 1) := by decide +kernel
theorem dX8_roots_28 : decode cX8_roots 28 = .ok (.istore_n 3, 1) := by decide +kernel
theorem dX8_roots_29 : decode cX8_roots 29 = .ok (.iload_n 3, 1) := by decide +kernel
theorem dX8_roots_30 : decode cX8_roots 30 = .ok (.aload_n 0, 1) := by decide +kernel
theorem dX8_roots_31 : decode cX8_roots 31 = .ok (.getfield 151, 3) := by decide +kernel
theorem dX8_roots_34 : decode cX8_roots 34 = .ok (.if_icmp .ge 27, 3) := by decide +kernel
theorem dX8_roots_37 : decode cX8_roots 37 = .ok (.iload_n 2, 1) := by decide +kernel
theorem dX8_roots_38 : decode cX8_roots 38 = .ok (.aload_n 0, 1) := by decide +kernel
theorem dX8_roots_39 : decode cX8_roots 39 = .ok (.getfield 157, 3) := by decide +kernel
theorem dX8_roots_42 : decode cX8_roots 42 = .ok (.iload_n 3, 1) := by decide +kernel
theorem dX8_roots_43 : decode cX8_roots 43 = .ok (.iaload, 1) := by decide +kernel
theorem dX8_roots_44 : decode cX8_roots 44 = .ok (.iload_n 1, 1) := by decide +kernel
theorem dX8_roots_45 : decode cX8_roots 45 = .ok (.if_icmp .ne 7, 3) := by decide +kernel
theorem dX8_roots_48 : decode cX8_roots 48 = .ok (.iconst 1, 1) := by decide +kernel
theorem dX8_roots_49 : decode cX8_roots 49 = .ok (.goto 4, 3) := by decide +kernel
theorem dX8_roots_52 : decode cX8_roots 52 = .ok (.iconst 0, 1) := by decide +kernel
theorem dX8_roots_53 : decode cX8_roots 53 = .ok (.iadd, 1) := by decide +kernel
theorem dX8_roots_54 : decode cX8_roots 54 = .ok (.istore_n 2, 1) := by decide +kernel
theorem dX8_roots_55 : decode cX8_roots 55 = .ok (.iinc 3 1, 3) := by decide +kernel
theorem dX8_roots_58 : decode cX8_roots 58 = .ok (.goto (-29), 3) := by decide +kernel
theorem dX8_roots_61 : decode cX8_roots 61 = .ok (.iload_n 2, 1) := by decide +kernel
theorem dX8_roots_62 : decode cX8_roots 62 = .ok (.ireturn, 1) := by decide +kernel
set_option maxRecDepth 20000 in
theorem ggX8_root_X8_isMirror : GoodIn wsX8_root wsX8_isMirror := goodIn_r _ [7, 8, 9, 10, 6, 11, 47, 48, 49, 50, 51, 52, 53, 54, 55, 56, 57, 58, 59, 60, 61, 62, 63, 64, 65, 66, 67, 68, 69, 70, 71, 72, 73, 74, 75, 76, 77, 78, 79] rfl (by decide +kernel)
set_option maxRecDepth 20000 in
theorem gX8_root_X8_isMirror : GoodIn wsX8_root (wsV RX8 33 RX8 yX8_isMirror wsX8_isMirror) := goodIn_app (goodIn_of _ (by decide +kernel)) ggX8_root_X8_isMirror
set_option maxRecDepth 20000 in
theorem ggX8_root_X8_findRoots : GoodIn wsX8_root wsX8_findRoots := goodIn_r _ [15, 16, 1, 8, 17, 2, 18, 19, 20, 6, 21, 22, 23, 24, 25, 26, 27, 28, 29, 30, 31, 32, 33, 34, 9, 10, 11, 35, 36, 37, 38, 39, 40, 41, 42, 43, 44, 45, 46, 47, 48, 49, 50, 51, 52, 53, 54, 55, 56, 57, 58, 59, 60, 61, 62, 63, 64, 65, 66, 67, 68, 69, 70, 71, 72, 73, 74, 75, 76, 77, 78, 79] rfl (by decide +kernel)
set_option maxRecDepth 20000 in
theorem gX8_root_X8_findRoots : GoodIn wsX8_root (wsV RX8 179 RX8 yX8_findRoots wsX8_findRoots) := goodIn_app (goodIn_of _ (by decide +kernel)) ggX8_root_X8_findRoots
theorem dX8_root_0 : decode cX8_root 0 = .ok (.aload_n 0, 1) := by decide +kernel
theorem dX8_root_1 : decode cX8_root 1 = .ok (.iload_n 2, 1) := by decide +kernel
theorem dX8_root_2 : decode cX8_root 2 = .ok (.i2l, 1) := by decide +kernel
theorem dX8_root_3 : decode cX8_root 3 = .ok (.invokevirtual 33, 3) := by decide +kernel
theorem dX8_root_6 : decode cX8_root 6 = .ok (.ifCond .eq 7, 3) := by decide +kernel
theorem dX8_root_9 : decode cX8_root 9 = .ok (.iload_n 1, 1) := by decide +kernel
theorem dX8_root_10 : decode cX8_root 10 = .ok (.ifCond .ge 5, 3) := by decide +kernel
theorem dX8_root_13 : decode cX8_root 13 = .ok (.iconst (-1), 1) := by decide +kernel
theorem dX8_root_14 : decode cX8_root 14 = .ok (.ireturn, 1) := by decide +kernel
theorem dX8_root_15 : decode cX8_root 15 = .ok (.aload_n 0, 1) := by decide +kernel
theorem dX8_root_16 : decode cX8_root 16 = .ok (.bipush 40, 2) := by decide +kernel
theorem dX8_root_18 : decode cX8_root 18 = .ok (.invokevirtual 179, 3) := by decide +kernel
theorem dX8_root_21 : decode cX8_root 21 = .ok (.istore_n 3, 1) := by decide +kernel
theorem dX8_root_22 : decode cX8_root 22 = .ok (.iload_n 1, 1) := by decide +kernel
theorem dX8_root_23 : decode cX8_root 23 = .ok (.aload_n 0, 1) := by decide +kernel
theorem dX8_root_24 : decode cX8_root 24 = .ok (.getfield 160, 3) := by decide +kernel
theorem dX8_root_27 : decode cX8_root 27 = .ok (.if_icmp .ge 18, 3) := by decide +kernel
theorem dX8_root_30 : decode cX8_root 30 = .ok (.aload_n 0, 1) := by decide +kernel
theorem dX8_root_31 : decode cX8_root 31 = .ok (.getfield 154, 3) := by decide +kernel
theorem dX8_root_34 : decode cX8_root 34 = .ok (.bipush 6, 2) := by decide +kernel
theorem dX8_root_36 : decode cX8_root 36 = .ok (.iload_n 1, 1) := by decide +kernel
theorem dX8_root_37 : decode cX8_root 37 = .ok (.imul, 1) := by decide +kernel
theorem dX8_root_38 : decode cX8_root 38 = .ok (.iload_n 2, 1) := by decide +kernel
theorem dX8_root_39 : decode cX8_root 39 = .ok (.iadd, 1) := by decide +kernel
theorem dX8_root_40 : decode cX8_root 40 = .ok (.laload, 1) := by decide +kernel
theorem dX8_root_41 : decode cX8_root 41 = .ok (.l2i, 1) := by decide +kernel
theorem dX8_root_42 : decode cX8_root 42 = .ok (.goto 4, 3) := by decide +kernel
theorem dX8_root_45 : decode cX8_root 45 = .ok (.iconst (-1), 1) := by decide +kernel
theorem dX8_root_46 : decode cX8_root 46 = .ok (.ireturn, 1) := by decide +kernel
set_option maxRecDepth 20000 in
theorem ggX8_closes_X8_own : GoodIn wsX8_closes wsX8_own := goodIn_r _ [9, 3, 34, 35, 36, 37, 38, 39, 40, 41, 42, 43, 44, 45, 46, 47, 48, 49, 50, 51, 52, 53, 54, 55, 56, 57, 58, 59, 60, 61, 62, 63, 64, 65, 66] rfl (by decide +kernel)
set_option maxRecDepth 20000 in
theorem gX8_closes_X8_own : GoodIn wsX8_closes (wsV RX8 89 RX8 yX8_own wsX8_own) := goodIn_app (goodIn_of _ (by decide +kernel)) ggX8_closes_X8_own
set_option maxRecDepth 20000 in
theorem ggX8_closes_X8_comes : GoodIn wsX8_closes wsX8_comes := goodIn_r _ [13, 1, 4, 3, 14, 34, 35, 36, 37, 38, 39, 40, 41, 42, 43, 44, 45, 46, 47, 48, 49, 50, 51, 52, 53, 54, 55, 56, 57, 58, 59, 60, 61, 62, 63, 64, 65, 66] rfl (by decide +kernel)
set_option maxRecDepth 20000 in
theorem gX8_closes_X8_comes : GoodIn wsX8_closes (wsV RX8 163 RX8 yX8_comes wsX8_comes) := goodIn_app (goodIn_of _ (by decide +kernel)) ggX8_closes_X8_comes
set_option maxRecDepth 20000 in
theorem ggX8_closes_X8_turn : GoodIn wsX8_closes wsX8_turn := goodIn_r _ [18, 3, 2, 19, 20, 21, 22, 23, 24, 8, 25, 34, 35, 36, 37, 38, 39, 40, 41, 42, 43, 44, 45, 46, 47, 48, 49, 50, 51, 52, 53, 54, 55, 56, 57, 58, 59, 60, 61, 62, 63, 64, 65, 66] rfl (by decide +kernel)
set_option maxRecDepth 20000 in
theorem gX8_closes_X8_turn : GoodIn wsX8_closes (wsV RX8 101 RX8 yX8_turn wsX8_turn) := goodIn_app (goodIn_of _ (by decide +kernel)) ggX8_closes_X8_turn
set_option maxRecDepth 20000 in
theorem ggX8_closes_X8_isAbove : GoodIn wsX8_closes wsX8_isAbove := goodIn_r _ [29, 2, 3, 34, 35, 36, 37, 38, 39, 40, 41, 42, 43, 44, 45, 46, 47, 48, 49, 50, 51, 52, 53, 54, 55, 56, 57, 58, 59, 60, 61, 62, 63, 64, 65, 66] rfl (by decide +kernel)
set_option maxRecDepth 20000 in
theorem gX8_closes_X8_isAbove : GoodIn wsX8_closes (wsV RX8 171 RX8 yX8_isAbove wsX8_isAbove) := goodIn_app (goodIn_of _ (by decide +kernel)) ggX8_closes_X8_isAbove
set_option maxRecDepth 20000 in
theorem ggX8_closes_X8_isKnown : GoodIn wsX8_closes wsX8_isKnown := goodIn_r _ [33, 1, 4, 3, 34, 35, 36, 37, 38, 39, 40, 41, 42, 43, 44, 45, 46, 47, 48, 49, 50, 51, 52, 53, 54, 55, 56, 57, 58, 59, 60, 61, 62, 63, 64, 65, 66] rfl (by decide +kernel)
set_option maxRecDepth 20000 in
theorem gX8_closes_X8_isKnown : GoodIn wsX8_closes (wsV RX8 174 RX8 yX8_isKnown wsX8_isKnown) := goodIn_app (goodIn_of _ (by decide +kernel)) ggX8_closes_X8_isKnown
theorem dX8_closes_0 : decode cX8_closes 0 = .ok (.aload_n 0, 1) := by decide +kernel
theorem dX8_closes_1 : decode cX8_closes 1 = .ok (.iconst 0, 1) := by decide +kernel
theorem dX8_closes_2 : decode cX8_closes 2 = .ok (.putfield 151, 3) := by decide +kernel
theorem dX8_closes_5 : decode cX8_closes 5 = .ok (.iconst 0, 1) := by decide +kernel
theorem dX8_closes_6 : decode cX8_closes 6 = .ok (.istore_n 1, 1) := by decide +kernel
theorem dX8_closes_7 : decode cX8_closes 7 = .ok (.iload_n 1, 1) := by decide +kernel
theorem dX8_closes_8 : decode cX8_closes 8 = .ok (.aload_n 0, 1) := by decide +kernel
theorem dX8_closes_9 : decode cX8_closes 9 = .ok (.getfield 11, 3) := by decide +kernel
theorem dX8_closes_12 : decode cX8_closes 12 = .ok (.if_icmp .ge 23, 3) := by decide +kernel
theorem dX8_closes_15 : decode cX8_closes 15 = .ok (.aload_n 0, 1) := by decide +kernel
theorem dX8_closes_16 : decode cX8_closes 16 = .ok (.iload_n 1, 1) := by decide +kernel
theorem dX8_closes_17 : decode cX8_closes 17 = .ok (.invokevirtual 89, 3) := by decide +kernel
theorem dX8_closes_20 : decode cX8_closes 20 = .ok (.aload_n 0, 1) := by decide +kernel
theorem dX8_closes_21 : decode cX8_closes 21 = .ok (.aload_n 0, 1) := by decide +kernel
theorem dX8_closes_22 : decode cX8_closes 22 = .ok (.getfield 151, 3) := by decide +kernel
theorem dX8_closes_25 : decode cX8_closes 25 = .ok (.iconst 1, 1) := by decide +kernel
theorem dX8_closes_26 : decode cX8_closes 26 = .ok (.invokevirtual 163, 3) := by decide +kernel
theorem dX8_closes_29 : decode cX8_closes 29 = .ok (.iinc 1 1, 3) := by decide +kernel
theorem dX8_closes_32 : decode cX8_closes 32 = .ok (.goto (-25), 3) := by decide +kernel
theorem dX8_closes_35 : decode cX8_closes 35 = .ok (.iconst 0, 1) := by decide +kernel
theorem dX8_closes_36 : decode cX8_closes 36 = .ok (.istore_n 1, 1) := by decide +kernel
theorem dX8_closes_37 : decode cX8_closes 37 = .ok (.iload_n 1, 1) := by decide +kernel
theorem dX8_closes_38 : decode cX8_closes 38 = .ok (.aload_n 0, 1) := by decide +kernel
theorem dX8_closes_39 : decode cX8_closes 39 = .ok (.getfield 151, 3) := by decide +kernel
theorem dX8_closes_42 : decode cX8_closes 42 = .ok (.if_icmp .ge 103, 3) := by decide +kernel
theorem dX8_closes_45 : decode cX8_closes 45 = .ok (.aload_n 0, 1) := by decide +kernel
theorem dX8_closes_46 : decode cX8_closes 46 = .ok (.getfield 151, 3) := by decide +kernel
theorem dX8_closes_49 : decode cX8_closes 49 = .ok (.bipush 61, 2) := by decide +kernel
theorem dX8_closes_51 : decode cX8_closes 51 = .ok (.if_icmp .ge 94, 3) := by decide +kernel
theorem dX8_closes_54 : decode cX8_closes 54 = .ok (.iconst 0, 1) := by decide +kernel
theorem dX8_closes_55 : decode cX8_closes 55 = .ok (.istore_n 2, 1) := by decide +kernel
theorem dX8_closes_56 : decode cX8_closes 56 = .ok (.iload_n 2, 1) := by decide +kernel
theorem dX8_closes_57 : decode cX8_closes 57 = .ok (.aload_n 0, 1) := by decide +kernel
theorem dX8_closes_58 : decode cX8_closes 58 = .ok (.getfield 11, 3) := by decide +kernel
theorem dX8_closes_61 : decode cX8_closes 61 = .ok (.if_icmp .ge 78, 3) := by decide +kernel
theorem dX8_closes_64 : decode cX8_closes 64 = .ok (.aload_n 0, 1) := by decide +kernel
theorem dX8_closes_65 : decode cX8_closes 65 = .ok (.getfield 151, 3) := by decide +kernel
theorem dX8_closes_68 : decode cX8_closes 68 = .ok (.bipush 61, 2) := by decide +kernel
theorem dX8_closes_70 : decode cX8_closes 70 = .ok (.if_icmp .ge 69, 3) := by decide +kernel
theorem dX8_closes_73 : decode cX8_closes 73 = .ok (.iconst 0, 1) := by decide +kernel
theorem dX8_closes_74 : decode cX8_closes 74 = .ok (.istore_n 3, 1) := by decide +kernel
theorem dX8_closes_75 : decode cX8_closes 75 = .ok (.iload_n 3, 1) := by decide +kernel
theorem dX8_closes_76 : decode cX8_closes 76 = .ok (.bipush 6, 2) := by decide +kernel
theorem dX8_closes_78 : decode cX8_closes 78 = .ok (.if_icmp .ge 26, 3) := by decide +kernel
theorem dX8_closes_81 : decode cX8_closes 81 = .ok (.aload_n 0, 1) := by decide +kernel
theorem dX8_closes_82 : decode cX8_closes 82 = .ok (.getfield 77, 3) := by decide +kernel
theorem dX8_closes_85 : decode cX8_closes 85 = .ok (.iload_n 3, 1) := by decide +kernel
theorem dX8_closes_86 : decode cX8_closes 86 = .ok (.aload_n 0, 1) := by decide +kernel
theorem dX8_closes_87 : decode cX8_closes 87 = .ok (.getfield 154, 3) := by decide +kernel
theorem dX8_closes_90 : decode cX8_closes 90 = .ok (.bipush 6, 2) := by decide +kernel
theorem dX8_closes_92 : decode cX8_closes 92 = .ok (.iload_n 1, 1) := by decide +kernel
theorem dX8_closes_93 : decode cX8_closes 93 = .ok (.imul, 1) := by decide +kernel
theorem dX8_closes_94 : decode cX8_closes 94 = .ok (.iload_n 3, 1) := by decide +kernel
theorem dX8_closes_95 : decode cX8_closes 95 = .ok (.iadd, 1) := by decide +kernel
theorem dX8_closes_96 : decode cX8_closes 96 = .ok (.laload, 1) := by decide +kernel
theorem dX8_closes_97 : decode cX8_closes 97 = .ok (.lastore, 1) := by decide +kernel
theorem dX8_closes_98 : decode cX8_closes 98 = .ok (.iinc 3 1, 3) := by decide +kernel
theorem dX8_closes_101 : decode cX8_closes 101 = .ok (.goto (-26), 3) := by decide +kernel
theorem dX8_closes_104 : decode cX8_closes 104 = .ok (.aload_n 0, 1) := by decide +kernel
theorem dX8_closes_105 : decode cX8_closes 105 = .ok (.iload_n 2, 1) := by decide +kernel
theorem dX8_closes_106 : decode cX8_closes 106 = .ok (.invokevirtual 101, 3) := by decide +kernel
theorem dX8_closes_109 : decode cX8_closes 109 = .ok (.aload_n 0, 1) := by decide +kernel
theorem dX8_closes_110 : decode cX8_closes 110 = .ok (.invokevirtual 171, 3) := by decide +kernel
theorem dX8_closes_113 : decode cX8_closes 113 = .ok (.ifCond .eq 20, 3) := by decide +kernel
theorem dX8_closes_116 : decode cX8_closes 116 = .ok (.aload_n 0, 1) := by decide +kernel
theorem dX8_closes_117 : decode cX8_closes 117 = .ok (.iconst 0, 1) := by decide +kernel
theorem dX8_closes_118 : decode cX8_closes 118 = .ok (.invokevirtual 174, 3) := by decide +kernel
theorem dX8_closes_121 : decode cX8_closes 121 = .ok (.ifCond .ne 12, 3) := by decide +kernel
theorem dX8_closes_124 : decode cX8_closes 124 = .ok (.aload_n 0, 1) := by decide +kernel
theorem dX8_closes_125 : decode cX8_closes 125 = .ok (.aload_n 0, 1) := by decide +kernel
theorem dX8_closes_126 : decode cX8_closes 126 = .ok (.getfield 151, 3) := by decide +kernel
theorem dX8_closes_129 : decode cX8_closes 129 = .ok (.iconst 1, 1) := by decide +kernel
theorem dX8_closes_130 : decode cX8_closes 130 = .ok (.invokevirtual 163, 3) := by decide +kernel
theorem dX8_closes_133 : decode cX8_closes 133 = .ok (.iinc 2 1, 3) := by decide +kernel
theorem dX8_closes_136 : decode cX8_closes 136 = .ok (.goto (-80), 3) := by decide +kernel
theorem dX8_closes_139 : decode cX8_closes 139 = .ok (.iinc 1 1, 3) := by decide +kernel
theorem dX8_closes_142 : decode cX8_closes 142 = .ok (.goto (-105), 3) := by decide +kernel
theorem dX8_closes_145 : decode cX8_closes 145 = .ok (.aload_n 0, 1) := by decide +kernel
theorem dX8_closes_146 : decode cX8_closes 146 = .ok (.getfield 151, 3) := by decide +kernel
theorem dX8_closes_149 : decode cX8_closes 149 = .ok (.ireturn, 1) := by decide +kernel
set_option maxRecDepth 20000 in
theorem ggX8_ends_X8_closes : GoodIn wsX8_ends wsX8_closes := goodIn_r _ [5, 6, 7, 8, 9, 10, 11, 12, 4, 13, 14, 15, 16, 17, 18, 19, 20, 21, 22, 23, 24, 25, 26, 27, 28, 29, 30, 31, 32, 33, 34, 35, 36, 37, 38, 39, 40, 41, 42, 43, 44, 45, 46, 47, 48, 49, 50, 51, 52, 53, 54, 55, 56, 57, 58, 59, 60, 61, 62, 63, 64, 65, 66, 67, 68, 69, 70] rfl (by decide +kernel)
set_option maxRecDepth 20000 in
theorem gX8_ends_X8_closes : GoodIn wsX8_ends (wsV RX8 182 RX8 yX8_closes wsX8_closes) := goodIn_app (goodIn_of _ (by decide +kernel)) ggX8_ends_X8_closes
theorem dX8_ends_0 : decode cX8_ends 0 = .ok (.aload_n 0, 1) := by decide +kernel
theorem dX8_ends_1 : decode cX8_ends 1 = .ok (.invokevirtual 182, 3) := by decide +kernel
theorem dX8_ends_4 : decode cX8_ends 4 = .ok (.istore_n 1, 1) := by decide +kernel
theorem dX8_ends_5 : decode cX8_ends 5 = .ok (.iload_n 1, 1) := by decide +kernel
theorem dX8_ends_6 : decode cX8_ends 6 = .ok (.bipush 60, 2) := by decide +kernel
theorem dX8_ends_8 : decode cX8_ends 8 = .ok (.if_icmp .le 8, 3) := by decide +kernel
theorem dX8_ends_11 : decode cX8_ends 11 = .ok (.bipush (-2), 2) := by decide +kernel
theorem dX8_ends_13 : decode cX8_ends 13 = .ok (.goto 4, 3) := by decide +kernel
theorem dX8_ends_16 : decode cX8_ends 16 = .ok (.iload_n 1, 1) := by decide +kernel
theorem dX8_ends_17 : decode cX8_ends 17 = .ok (.ireturn, 1) := by decide +kernel
theorem dX8_addWeight_0 : decode cX8_addWeight 0 = .ok (.iconst 0, 1) := by decide +kernel
theorem dX8_addWeight_1 : decode cX8_addWeight 1 = .ok (.istore_n 1, 1) := by decide +kernel
theorem dX8_addWeight_2 : decode cX8_addWeight 2 = .ok (.iload_n 1, 1) := by decide +kernel
theorem dX8_addWeight_3 : decode cX8_addWeight 3 = .ok (.aload_n 0, 1) := by decide +kernel
theorem dX8_addWeight_4 : decode cX8_addWeight 4 = .ok (.getfield 186, 3) := by decide +kernel
theorem dX8_addWeight_7 : decode cX8_addWeight 7 = .ok (.if_icmp .ge 60, 3) := by decide +kernel
theorem dX8_addWeight_10 : decode cX8_addWeight 10 = .ok (.iconst 1, 1) := by decide +kernel
theorem dX8_addWeight_11 : decode cX8_addWeight 11 = .ok (.istore_n 2, 1) := by decide +kernel
theorem dX8_addWeight_12 : decode cX8_addWeight 12 = .ok (.iconst 0, 1) := by decide +kernel
theorem dX8_addWeight_13 : decode cX8_addWeight 13 = .ok (.istore_n 3, 1) := by decide +kernel
theorem dX8_addWeight_14 : decode cX8_addWeight 14 = .ok (.iload_n 3, 1) := by decide +kernel
theorem dX8_addWeight_15 : decode cX8_addWeight 15 = .ok (.bipush 6, 2) := by decide +kernel
theorem dX8_addWeight_17 : decode cX8_addWeight 17 = .ok (.if_icmp .ge 39, 3) := by decide +kernel
theorem dX8_addWeight_20 : decode cX8_addWeight 20 = .ok (.iload_n 2, 1) := by decide +kernel
theorem dX8_addWeight_21 : decode cX8_addWeight 21 = .ok (.ifCond .eq 35, 3) := by decide +kernel
theorem dX8_addWeight_24 : decode cX8_addWeight 24 = .ok (.aload_n 0, 1) := by decide +kernel
theorem dX8_addWeight_25 : decode cX8_addWeight 25 = .ok (.getfield 189, 3) := by decide +kernel
theorem dX8_addWeight_28 : decode cX8_addWeight 28 = .ok (.bipush 6, 2) := by decide +kernel
theorem dX8_addWeight_30 : decode cX8_addWeight 30 = .ok (.iload_n 1, 1) := by decide +kernel
theorem dX8_addWeight_31 : decode cX8_addWeight 31 = .ok (.imul, 1) := by decide +kernel
theorem dX8_addWeight_32 : decode cX8_addWeight 32 = .ok (.iload_n 3, 1) := by decide +kernel
theorem dX8_addWeight_33 : decode cX8_addWeight 33 = .ok (.iadd, 1) := by decide +kernel
theorem dX8_addWeight_34 : decode cX8_addWeight 34 = .ok (.iaload, 1) := by decide +kernel
theorem dX8_addWeight_35 : decode cX8_addWeight 35 = .ok (.aload_n 0, 1) := by decide +kernel
theorem dX8_addWeight_36 : decode cX8_addWeight 36 = .ok (.getfield 192, 3) := by decide +kernel
theorem dX8_addWeight_39 : decode cX8_addWeight 39 = .ok (.iload_n 3, 1) := by decide +kernel
theorem dX8_addWeight_40 : decode cX8_addWeight 40 = .ok (.iaload, 1) := by decide +kernel
theorem dX8_addWeight_41 : decode cX8_addWeight 41 = .ok (.if_icmp .ne 7, 3) := by decide +kernel
theorem dX8_addWeight_44 : decode cX8_addWeight 44 = .ok (.iconst 1, 1) := by decide +kernel
theorem dX8_addWeight_45 : decode cX8_addWeight 45 = .ok (.goto 4, 3) := by decide +kernel
theorem dX8_addWeight_48 : decode cX8_addWeight 48 = .ok (.iconst 0, 1) := by decide +kernel
theorem dX8_addWeight_49 : decode cX8_addWeight 49 = .ok (.istore_n 2, 1) := by decide +kernel
theorem dX8_addWeight_50 : decode cX8_addWeight 50 = .ok (.iinc 3 1, 3) := by decide +kernel
theorem dX8_addWeight_53 : decode cX8_addWeight 53 = .ok (.goto (-39), 3) := by decide +kernel
theorem dX8_addWeight_56 : decode cX8_addWeight 56 = .ok (.iload_n 2, 1) := by decide +kernel
theorem dX8_addWeight_57 : decode cX8_addWeight 57 = .ok (.ifCond .eq 4, 3) := by decide +kernel
theorem dX8_addWeight_60 : decode cX8_addWeight 60 = .ok (.return_, 1) := by decide +kernel
theorem dX8_addWeight_61 : decode cX8_addWeight 61 = .ok (.iinc 1 1, 3) := by decide +kernel
theorem dX8_addWeight_64 : decode cX8_addWeight 64 = .ok (.goto (-62), 3) := by decide +kernel
theorem dX8_addWeight_67 : decode cX8_addWeight 67 = .ok (.iconst 0, 1) := by decide +kernel
theorem dX8_addWeight_68 : decode cX8_addWeight 68 = .ok (.istore_n 1, 1) := by decide +kernel
theorem dX8_addWeight_69 : decode cX8_addWeight 69 = .ok (.iload_n 1, 1) := by decide +kernel
theorem dX8_addWeight_70 : decode cX8_addWeight 70 = .ok (.bipush 6, 2) := by decide +kernel
theorem dX8_addWeight_72 : decode cX8_addWeight 72 = .ok (.if_icmp .ge 29, 3) := by decide +kernel
theorem dX8_addWeight_75 : decode cX8_addWeight 75 = .ok (.aload_n 0, 1) := by decide +kernel
theorem dX8_addWeight_76 : decode cX8_addWeight 76 = .ok (.getfield 189, 3) := by decide +kernel
theorem dX8_addWeight_79 : decode cX8_addWeight 79 = .ok (.bipush 6, 2) := by decide +kernel
theorem dX8_addWeight_81 : decode cX8_addWeight 81 = .ok (.aload_n 0, 1) := by decide +kernel
theorem dX8_addWeight_82 : decode cX8_addWeight 82 = .ok (.getfield 186, 3) := by decide +kernel
theorem dX8_addWeight_85 : decode cX8_addWeight 85 = .ok (.imul, 1) := by decide +kernel
theorem dX8_addWeight_86 : decode cX8_addWeight 86 = .ok (.iload_n 1, 1) := by decide +kernel
theorem dX8_addWeight_87 : decode cX8_addWeight 87 = .ok (.iadd, 1) := by decide +kernel
theorem dX8_addWeight_88 : decode cX8_addWeight 88 = .ok (.aload_n 0, 1) := by decide +kernel
theorem dX8_addWeight_89 : decode cX8_addWeight 89 = .ok (.getfield 192, 3) := by decide +kernel
theorem dX8_addWeight_92 : decode cX8_addWeight 92 = .ok (.iload_n 1, 1) := by decide +kernel
theorem dX8_addWeight_93 : decode cX8_addWeight 93 = .ok (.iaload, 1) := by decide +kernel
theorem dX8_addWeight_94 : decode cX8_addWeight 94 = .ok (.iastore, 1) := by decide +kernel
theorem dX8_addWeight_95 : decode cX8_addWeight 95 = .ok (.iinc 1 1, 3) := by decide +kernel
theorem dX8_addWeight_98 : decode cX8_addWeight 98 = .ok (.goto (-29), 3) := by decide +kernel
theorem dX8_addWeight_101 : decode cX8_addWeight 101 = .ok (.aload_n 0, 1) := by decide +kernel
theorem dX8_addWeight_102 : decode cX8_addWeight 102 = .ok (.dup, 1) := by decide +kernel
theorem dX8_addWeight_103 : decode cX8_addWeight 103 = .ok (.getfield 186, 3) := by decide +kernel
theorem dX8_addWeight_106 : decode cX8_addWeight 106 = .ok (.iconst 1, 1) := by decide +kernel
theorem dX8_addWeight_107 : decode cX8_addWeight 107 = .ok (.iadd, 1) := by decide +kernel
theorem dX8_addWeight_108 : decode cX8_addWeight 108 = .ok (.putfield 186, 3) := by decide +kernel
theorem dX8_addWeight_111 : decode cX8_addWeight 111 = .ok (.return_, 1) := by decide +kernel
set_option maxRecDepth 20000 in
theorem ggX8_orbit_X8_addWeight : GoodIn wsX8_orbit wsX8_addWeight := goodIn_r _ [9, 1, 3, 2, 10, 11, 12, 13, 14, 15, 16, 17, 18, 19, 20, 21, 22, 23, 24, 25, 26, 27, 28, 29, 30, 31, 32, 33, 34, 35, 36, 37, 38, 39, 40, 41, 42] rfl (by decide +kernel)
set_option maxRecDepth 20000 in
theorem gX8_orbit_X8_addWeight : GoodIn wsX8_orbit (wsV RX8 195 RX8 yX8_addWeight wsX8_addWeight) := goodIn_app (goodIn_of _ (by decide +kernel)) ggX8_orbit_X8_addWeight
theorem dX8_orbit_0 : decode cX8_orbit 0 = .ok (.aload_n 0, 1) := by decide +kernel
theorem dX8_orbit_1 : decode cX8_orbit 1 = .ok (.iconst 0, 1) := by decide +kernel
theorem dX8_orbit_2 : decode cX8_orbit 2 = .ok (.putfield 186, 3) := by decide +kernel
theorem dX8_orbit_5 : decode cX8_orbit 5 = .ok (.iconst 0, 1) := by decide +kernel
theorem dX8_orbit_6 : decode cX8_orbit 6 = .ok (.istore_n 2, 1) := by decide +kernel
theorem dX8_orbit_7 : decode cX8_orbit 7 = .ok (.iload_n 2, 1) := by decide +kernel
theorem dX8_orbit_8 : decode cX8_orbit 8 = .ok (.bipush 6, 2) := by decide +kernel
theorem dX8_orbit_10 : decode cX8_orbit 10 = .ok (.if_icmp .ge 25, 3) := by decide +kernel
theorem dX8_orbit_13 : decode cX8_orbit 13 = .ok (.aload_n 0, 1) := by decide +kernel
theorem dX8_orbit_14 : decode cX8_orbit 14 = .ok (.getfield 192, 3) := by decide +kernel
theorem dX8_orbit_17 : decode cX8_orbit 17 = .ok (.iload_n 2, 1) := by decide +kernel
theorem dX8_orbit_18 : decode cX8_orbit 18 = .ok (.iload_n 2, 1) := by decide +kernel
theorem dX8_orbit_19 : decode cX8_orbit 19 = .ok (.iload_n 1, 1) := by decide +kernel
theorem dX8_orbit_20 : decode cX8_orbit 20 = .ok (.if_icmp .ne 7, 3) := by decide +kernel
theorem dX8_orbit_23 : decode cX8_orbit 23 = .ok (.iconst 1, 1) := by decide +kernel
theorem dX8_orbit_24 : decode cX8_orbit 24 = .ok (.goto 4, 3) := by decide +kernel
theorem dX8_orbit_27 : decode cX8_orbit 27 = .ok (.iconst 0, 1) := by decide +kernel
theorem dX8_orbit_28 : decode cX8_orbit 28 = .ok (.iastore, 1) := by decide +kernel
theorem dX8_orbit_29 : decode cX8_orbit 29 = .ok (.iinc 2 1, 3) := by decide +kernel
theorem dX8_orbit_32 : decode cX8_orbit 32 = .ok (.goto (-25), 3) := by decide +kernel
theorem dX8_orbit_35 : decode cX8_orbit 35 = .ok (.aload_n 0, 1) := by decide +kernel
theorem dX8_orbit_36 : decode cX8_orbit 36 = .ok (.invokevirtual 195, 3) := by decide +kernel
theorem dX8_orbit_39 : decode cX8_orbit 39 = .ok (.iconst 0, 1) := by decide +kernel
theorem dX8_orbit_40 : decode cX8_orbit 40 = .ok (.istore_n 2, 1) := by decide +kernel
theorem dX8_orbit_41 : decode cX8_orbit 41 = .ok (.iload_n 2, 1) := by decide +kernel
theorem dX8_orbit_42 : decode cX8_orbit 42 = .ok (.aload_n 0, 1) := by decide +kernel
theorem dX8_orbit_43 : decode cX8_orbit 43 = .ok (.getfield 186, 3) := by decide +kernel
theorem dX8_orbit_46 : decode cX8_orbit 46 = .ok (.if_icmp .ge 118, 3) := by decide +kernel
theorem dX8_orbit_49 : decode cX8_orbit 49 = .ok (.iconst 0, 1) := by decide +kernel
theorem dX8_orbit_50 : decode cX8_orbit 50 = .ok (.istore_n 3, 1) := by decide +kernel
theorem dX8_orbit_51 : decode cX8_orbit 51 = .ok (.iload_n 3, 1) := by decide +kernel
theorem dX8_orbit_52 : decode cX8_orbit 52 = .ok (.iload_n 1, 1) := by decide +kernel
theorem dX8_orbit_53 : decode cX8_orbit 53 = .ok (.if_icmp .gt 105, 3) := by decide +kernel
theorem dX8_orbit_56 : decode cX8_orbit 56 = .ok (.aload_n 0, 1) := by decide +kernel
theorem dX8_orbit_57 : decode cX8_orbit 57 = .ok (.getfield 189, 3) := by decide +kernel
theorem dX8_orbit_60 : decode cX8_orbit 60 = .ok (.bipush 6, 2) := by decide +kernel
theorem dX8_orbit_62 : decode cX8_orbit 62 = .ok (.iload_n 2, 1) := by decide +kernel
theorem dX8_orbit_63 : decode cX8_orbit 63 = .ok (.imul, 1) := by decide +kernel
theorem dX8_orbit_64 : decode cX8_orbit 64 = .ok (.iload_n 3, 1) := by decide +kernel
theorem dX8_orbit_65 : decode cX8_orbit 65 = .ok (.iadd, 1) := by decide +kernel
theorem dX8_orbit_66 : decode cX8_orbit 66 = .ok (.iaload, 1) := by decide +kernel
theorem dX8_orbit_67 : decode cX8_orbit 67 = .ok (.istore 4, 2) := by decide +kernel
theorem dX8_orbit_69 : decode cX8_orbit 69 = .ok (.iconst 0, 1) := by decide +kernel
theorem dX8_orbit_70 : decode cX8_orbit 70 = .ok (.istore 5, 2) := by decide +kernel
theorem dX8_orbit_72 : decode cX8_orbit 72 = .ok (.iload 5, 2) := by decide +kernel
theorem dX8_orbit_74 : decode cX8_orbit 74 = .ok (.bipush 6, 2) := by decide +kernel
theorem dX8_orbit_76 : decode cX8_orbit 76 = .ok (.if_icmp .ge 72, 3) := by decide +kernel
theorem dX8_orbit_79 : decode cX8_orbit 79 = .ok (.iload 5, 2) := by decide +kernel
theorem dX8_orbit_81 : decode cX8_orbit 81 = .ok (.iload_n 1, 1) := by decide +kernel
theorem dX8_orbit_82 : decode cX8_orbit 82 = .ok (.if_icmp .le 7, 3) := by decide +kernel
theorem dX8_orbit_85 : decode cX8_orbit 85 = .ok (.iconst 0, 1) := by decide +kernel
theorem dX8_orbit_86 : decode cX8_orbit 86 = .ok (.goto 32, 3) := by decide +kernel
theorem dX8_orbit_89 : decode cX8_orbit 89 = .ok (.iload 5, 2) := by decide +kernel
theorem dX8_orbit_91 : decode cX8_orbit 91 = .ok (.iload_n 3, 1) := by decide +kernel
theorem dX8_orbit_92 : decode cX8_orbit 92 = .ok (.if_icmp .ne 11, 3) := by decide +kernel
theorem dX8_orbit_95 : decode cX8_orbit 95 = .ok (.bipush (-2), 2) := by decide +kernel
theorem dX8_orbit_97 : decode cX8_orbit 97 = .ok (.iload 4, 2) := by decide +kernel
theorem dX8_orbit_99 : decode cX8_orbit 99 = .ok (.imul, 1) := by decide +kernel
theorem dX8_orbit_100 : decode cX8_orbit 100 = .ok (.goto 18, 3) := by decide +kernel
theorem dX8_orbit_103 : decode cX8_orbit 103 = .ok (.iload 4, 2) := by decide +kernel
theorem dX8_orbit_105 : decode cX8_orbit 105 = .ok (.aload_n 0, 1) := by decide +kernel
theorem dX8_orbit_106 : decode cX8_orbit 106 = .ok (.getfield 17, 3) := by decide +kernel
theorem dX8_orbit_109 : decode cX8_orbit 109 = .ok (.bipush 6, 2) := by decide +kernel
theorem dX8_orbit_111 : decode cX8_orbit 111 = .ok (.iload 5, 2) := by decide +kernel
theorem dX8_orbit_113 : decode cX8_orbit 113 = .ok (.imul, 1) := by decide +kernel
theorem dX8_orbit_114 : decode cX8_orbit 114 = .ok (.iload_n 3, 1) := by decide +kernel
theorem dX8_orbit_115 : decode cX8_orbit 115 = .ok (.iadd, 1) := by decide +kernel
theorem dX8_orbit_116 : decode cX8_orbit 116 = .ok (.iaload, 1) := by decide +kernel
theorem dX8_orbit_117 : decode cX8_orbit 117 = .ok (.imul, 1) := by decide +kernel
theorem dX8_orbit_118 : decode cX8_orbit 118 = .ok (.istore 6, 2) := by decide +kernel
theorem dX8_orbit_120 : decode cX8_orbit 120 = .ok (.aload_n 0, 1) := by decide +kernel
theorem dX8_orbit_121 : decode cX8_orbit 121 = .ok (.getfield 192, 3) := by decide +kernel
theorem dX8_orbit_124 : decode cX8_orbit 124 = .ok (.iload 5, 2) := by decide +kernel
theorem dX8_orbit_126 : decode cX8_orbit 126 = .ok (.aload_n 0, 1) := by decide +kernel
theorem dX8_orbit_127 : decode cX8_orbit 127 = .ok (.getfield 189, 3) := by decide +kernel
theorem dX8_orbit_130 : decode cX8_orbit 130 = .ok (.bipush 6, 2) := by decide +kernel
theorem dX8_orbit_132 : decode cX8_orbit 132 = .ok (.iload_n 2, 1) := by decide +kernel
theorem dX8_orbit_133 : decode cX8_orbit 133 = .ok (.imul, 1) := by decide +kernel
theorem dX8_orbit_134 : decode cX8_orbit 134 = .ok (.iload 5, 2) := by decide +kernel
theorem dX8_orbit_136 : decode cX8_orbit 136 = .ok (.iadd, 1) := by decide +kernel
theorem dX8_orbit_137 : decode cX8_orbit 137 = .ok (.iaload, 1) := by decide +kernel
theorem dX8_orbit_138 : decode cX8_orbit 138 = .ok (.iload 6, 2) := by decide +kernel
theorem dX8_orbit_140 : decode cX8_orbit 140 = .ok (.iadd, 1) := by decide +kernel
theorem dX8_orbit_141 : decode cX8_orbit 141 = .ok (.iastore, 1) := by decide +kernel
theorem dX8_orbit_142 : decode cX8_orbit 142 = .ok (.iinc 5 1, 3) := by decide +kernel
theorem dX8_orbit_145 : decode cX8_orbit 145 = .ok (.goto (-73), 3) := by decide +kernel
theorem dX8_orbit_148 : decode cX8_orbit 148 = .ok (.aload_n 0, 1) := by decide +kernel
theorem dX8_orbit_149 : decode cX8_orbit 149 = .ok (.invokevirtual 195, 3) := by decide +kernel
theorem dX8_orbit_152 : decode cX8_orbit 152 = .ok (.iinc 3 1, 3) := by decide +kernel
theorem dX8_orbit_155 : decode cX8_orbit 155 = .ok (.goto (-104), 3) := by decide +kernel
theorem dX8_orbit_158 : decode cX8_orbit 158 = .ok (.iinc 2 1, 3) := by decide +kernel
theorem dX8_orbit_161 : decode cX8_orbit 161 = .ok (.goto (-120), 3) := by decide +kernel
theorem dX8_orbit_164 : decode cX8_orbit 164 = .ok (.aload_n 0, 1) := by decide +kernel
theorem dX8_orbit_165 : decode cX8_orbit 165 = .ok (.getfield 186, 3) := by decide +kernel
theorem dX8_orbit_168 : decode cX8_orbit 168 = .ok (.ireturn, 1) := by decide +kernel
set_option maxRecDepth 20000 in
theorem ggX8_count_X8_ends : GoodIn wsX8_count wsX8_ends := goodIn_r _ [7, 8, 9, 10, 6, 11, 12, 2, 13, 14, 15, 16, 17, 18, 19, 20, 21, 22, 23, 24, 25, 26, 27, 28, 29, 30, 31, 32, 33, 34, 35, 36, 37, 38, 39, 40, 41, 42, 54, 55, 56, 57, 58, 59, 60, 61, 62, 63, 64, 65, 66, 67, 68, 69, 70, 71, 72, 73, 74, 75, 76, 77, 78, 79, 80, 81, 82, 83, 84, 85, 86] rfl (by decide +kernel)
set_option maxRecDepth 20000 in
theorem gX8_count_X8_ends : GoodIn wsX8_count (wsV RX8 198 RX8 yX8_ends wsX8_ends) := goodIn_app (goodIn_of _ (by decide +kernel)) ggX8_count_X8_ends
set_option maxRecDepth 20000 in
theorem ggX8_count_X8_orbit : GoodIn wsX8_count wsX8_orbit := goodIn_r _ [46, 47, 48, 49, 28, 50, 51, 52, 6, 53, 54, 55, 56, 57, 58, 59, 60, 61, 62, 63, 64, 65, 66, 67, 68, 69, 70, 71, 72, 73, 74, 75, 76, 77, 78, 79, 80, 81, 82, 83, 84, 85, 86] rfl (by decide +kernel)
set_option maxRecDepth 20000 in
theorem gX8_count_X8_orbit : GoodIn wsX8_count (wsV RX8 203 RX8 yX8_orbit wsX8_orbit) := goodIn_app (goodIn_of _ (by decide +kernel)) ggX8_count_X8_orbit
theorem dX8_count_0 : decode cX8_count 0 = .ok (.aload_n 0, 1) := by decide +kernel
theorem dX8_count_1 : decode cX8_count 1 = .ok (.invokevirtual 198, 3) := by decide +kernel
theorem dX8_count_4 : decode cX8_count 4 = .ok (.ifCond .ge 7, 3) := by decide +kernel
theorem dX8_count_7 : decode cX8_count 7 = .ok (.ldc2_w 201, 3) := by decide +kernel
theorem dX8_count_10 : decode cX8_count 10 = .ok (.lreturn, 1) := by decide +kernel
theorem dX8_count_11 : decode cX8_count 11 = .ok (.lconst 1, 1) := by decide +kernel
theorem dX8_count_12 : decode cX8_count 12 = .ok (.lstore_n 1, 1) := by decide +kernel
theorem dX8_count_13 : decode cX8_count 13 = .ok (.iconst 0, 1) := by decide +kernel
theorem dX8_count_14 : decode cX8_count 14 = .ok (.istore_n 3, 1) := by decide +kernel
theorem dX8_count_15 : decode cX8_count 15 = .ok (.iload_n 3, 1) := by decide +kernel
theorem dX8_count_16 : decode cX8_count 16 = .ok (.aload_n 0, 1) := by decide +kernel
theorem dX8_count_17 : decode cX8_count 17 = .ok (.getfield 11, 3) := by decide +kernel
theorem dX8_count_20 : decode cX8_count 20 = .ok (.if_icmp .ge 18, 3) := by decide +kernel
theorem dX8_count_23 : decode cX8_count 23 = .ok (.lload_n 1, 1) := by decide +kernel
theorem dX8_count_24 : decode cX8_count 24 = .ok (.aload_n 0, 1) := by decide +kernel
theorem dX8_count_25 : decode cX8_count 25 = .ok (.iload_n 3, 1) := by decide +kernel
theorem dX8_count_26 : decode cX8_count 26 = .ok (.invokevirtual 203, 3) := by decide +kernel
theorem dX8_count_29 : decode cX8_count 29 = .ok (.i2l, 1) := by decide +kernel
theorem dX8_count_30 : decode cX8_count 30 = .ok (.lmul, 1) := by decide +kernel
theorem dX8_count_31 : decode cX8_count 31 = .ok (.lstore_n 1, 1) := by decide +kernel
theorem dX8_count_32 : decode cX8_count 32 = .ok (.iinc 3 1, 3) := by decide +kernel
theorem dX8_count_35 : decode cX8_count 35 = .ok (.goto (-20), 3) := by decide +kernel
theorem dX8_count_38 : decode cX8_count 38 = .ok (.lload_n 1, 1) := by decide +kernel
theorem dX8_count_39 : decode cX8_count 39 = .ok (.lreturn, 1) := by decide +kernel
set_option maxRecDepth 20000 in
theorem ggX8_longest_X8_isSlot : GoodIn wsX8_longest wsX8_isSlot := goodIn_r _ [12, 13, 14, 15, 11, 16] rfl (by decide +kernel)
set_option maxRecDepth 20000 in
theorem gX8_longest_X8_isSlot : GoodIn wsX8_longest (va_wsS RX8 48 yX8_isSlot wsX8_isSlot) := goodIn_app (goodIn_of _ (by decide +kernel)) ggX8_longest_X8_isSlot
set_option maxRecDepth 20000 in
theorem ggX8_longest_X8_ends : GoodIn wsX8_longest wsX8_ends := goodIn_r _ [20, 21, 22, 23, 11, 24, 25, 3, 26, 27, 28, 29, 30, 31, 32, 33, 34, 35, 36, 37, 38, 39, 40, 41, 2, 42, 43, 14, 15, 16, 44, 45, 46, 47, 48, 49, 50, 51, 78, 79, 80, 81, 82, 83, 84, 85, 86, 87, 88, 89, 90, 91, 92, 93, 94, 95, 96, 97, 98, 99, 100, 101, 102, 103, 104, 105, 106, 107, 108, 109, 110] rfl (by decide +kernel)
set_option maxRecDepth 20000 in
theorem gX8_longest_X8_ends : GoodIn wsX8_longest (wsV RX8 198 RX8 yX8_ends wsX8_ends) := goodIn_app (goodIn_of _ (by decide +kernel)) ggX8_longest_X8_ends
set_option maxRecDepth 20000 in
theorem ggX8_longest_X8_behind : GoodIn wsX8_longest wsX8_behind := goodIn_r _ [55, 1, 4, 2, 28, 29, 30, 11, 31, 26, 56, 57, 58, 59, 3, 37, 38, 39, 40, 41, 42, 43, 14, 15, 16, 78, 79, 80, 81, 82, 83, 84, 85, 86, 87, 88, 89, 90, 91, 92, 93, 94, 95, 96, 97, 98, 99, 100, 101, 102, 103, 104, 105, 106, 107, 108, 109, 110] rfl (by decide +kernel)
set_option maxRecDepth 20000 in
theorem gX8_longest_X8_behind : GoodIn wsX8_longest (wsV RX8 104 RX8 yX8_behind wsX8_behind) := goodIn_app (goodIn_of _ (by decide +kernel)) ggX8_longest_X8_behind
set_option maxRecDepth 20000 in
theorem ggX8_longest_X8_formOfR : GoodIn wsX8_longest wsX8_formOfR := goodIn_r _ [63, 2, 5, 1, 3, 8, 64, 65, 66, 11, 67, 4, 28, 29, 30, 31, 26, 56, 57, 58, 59, 37, 38, 39, 40, 41, 42, 43, 14, 15, 16, 68, 69, 70, 71, 78, 79, 80, 81, 82, 83, 84, 85, 86, 87, 88, 89, 90, 91, 92, 93, 94, 95, 96, 97, 98, 99, 100, 101, 102, 103, 104, 105, 106, 107, 108, 109, 110] rfl (by decide +kernel)
set_option maxRecDepth 20000 in
theorem gX8_longest_X8_formOfR : GoodIn wsX8_longest (wsV RX8 123 RX8 yX8_formOfR wsX8_formOfR) := goodIn_app (goodIn_of _ (by decide +kernel)) ggX8_longest_X8_formOfR
set_option maxRecDepth 20000 in
theorem ggX8_longest_X8_store : GoodIn wsX8_longest wsX8_store := goodIn_r _ [75, 76, 6, 77, 7, 78, 79, 80, 81, 82, 83, 84, 85, 86, 87, 88, 89, 90, 91, 92, 93, 94, 95, 96, 97, 98, 99, 100, 101, 102, 103, 104, 105, 106, 107, 108, 109, 110] rfl (by decide +kernel)
set_option maxRecDepth 20000 in
theorem gX8_longest_X8_store : GoodIn wsX8_longest (wsV RX8 70 RX8 yX8_store wsX8_store) := goodIn_app (goodIn_of _ (by decide +kernel)) ggX8_longest_X8_store
theorem dX8_longest_0 : decode cX8_longest 0 = .ok (.iload_n 1, 1) := by decide +kernel
theorem dX8_longest_1 : decode cX8_longest 1 = .ok (.invokestatic 48, 3) := by decide +kernel
theorem dX8_longest_4 : decode cX8_longest 4 = .ok (.ifCond .ne 5, 3) := by decide +kernel
theorem dX8_longest_7 : decode cX8_longest 7 = .ok (.iconst (-1), 1) := by decide +kernel
theorem dX8_longest_8 : decode cX8_longest 8 = .ok (.ireturn, 1) := by decide +kernel
theorem dX8_longest_9 : decode cX8_longest 9 = .ok (.aload_n 0, 1) := by decide +kernel
theorem dX8_longest_10 : decode cX8_longest 10 = .ok (.invokevirtual 198, 3) := by decide +kernel
theorem dX8_longest_13 : decode cX8_longest 13 = .ok (.ifCond .ge 6, 3) := by decide +kernel
theorem dX8_longest_16 : decode cX8_longest 16 = .ok (.bipush (-2), 2) := by decide +kernel
theorem dX8_longest_18 : decode cX8_longest 18 = .ok (.ireturn, 1) := by decide +kernel
theorem dX8_longest_19 : decode cX8_longest 19 = .ok (.aload_n 0, 1) := by decide +kernel
theorem dX8_longest_20 : decode cX8_longest 20 = .ok (.iconst 0, 1) := by decide +kernel
theorem dX8_longest_21 : decode cX8_longest 21 = .ok (.putfield 92, 3) := by decide +kernel
theorem dX8_longest_24 : decode cX8_longest 24 = .ok (.aload_n 0, 1) := by decide +kernel
theorem dX8_longest_25 : decode cX8_longest 25 = .ok (.iconst 0, 1) := by decide +kernel
theorem dX8_longest_26 : decode cX8_longest 26 = .ok (.putfield 81, 3) := by decide +kernel
theorem dX8_longest_29 : decode cX8_longest 29 = .ok (.iconst 0, 1) := by decide +kernel
theorem dX8_longest_30 : decode cX8_longest 30 = .ok (.istore_n 2, 1) := by decide +kernel
theorem dX8_longest_31 : decode cX8_longest 31 = .ok (.iload_n 2, 1) := by decide +kernel
theorem dX8_longest_32 : decode cX8_longest 32 = .ok (.aload_n 0, 1) := by decide +kernel
theorem dX8_longest_33 : decode cX8_longest 33 = .ok (.getfield 11, 3) := by decide +kernel
theorem dX8_longest_36 : decode cX8_longest 36 = .ok (.if_icmp .ge 42, 3) := by decide +kernel
theorem dX8_longest_39 : decode cX8_longest 39 = .ok (.aload_n 0, 1) := by decide +kernel
theorem dX8_longest_40 : decode cX8_longest 40 = .ok (.iload_n 2, 1) := by decide +kernel
theorem dX8_longest_41 : decode cX8_longest 41 = .ok (.invokevirtual 104, 3) := by decide +kernel
theorem dX8_longest_44 : decode cX8_longest 44 = .ok (.ifCond .ge 28, 3) := by decide +kernel
theorem dX8_longest_47 : decode cX8_longest 47 = .ok (.aload_n 0, 1) := by decide +kernel
theorem dX8_longest_48 : decode cX8_longest 48 = .ok (.getfield 95, 3) := by decide +kernel
theorem dX8_longest_51 : decode cX8_longest 51 = .ok (.aload_n 0, 1) := by decide +kernel
theorem dX8_longest_52 : decode cX8_longest 52 = .ok (.getfield 92, 3) := by decide +kernel
theorem dX8_longest_55 : decode cX8_longest 55 = .ok (.iload_n 2, 1) := by decide +kernel
theorem dX8_longest_56 : decode cX8_longest 56 = .ok (.iastore, 1) := by decide +kernel
theorem dX8_longest_57 : decode cX8_longest 57 = .ok (.aload_n 0, 1) := by decide +kernel
theorem dX8_longest_58 : decode cX8_longest 58 = .ok (.dup, 1) := by decide +kernel
theorem dX8_longest_59 : decode cX8_longest 59 = .ok (.getfield 92, 3) := by decide +kernel
theorem dX8_longest_62 : decode cX8_longest 62 = .ok (.iconst 1, 1) := by decide +kernel
theorem dX8_longest_63 : decode cX8_longest 63 = .ok (.iadd, 1) := by decide +kernel
theorem dX8_longest_64 : decode cX8_longest 64 = .ok (.putfield 92, 3) := by decide +kernel
theorem dX8_longest_67 : decode cX8_longest 67 = .ok (.iconst 0, 1) := by decide +kernel
theorem dX8_longest_68 : decode cX8_longest 68 = .ok (.istore_n 2, 1) := by decide +kernel
theorem dX8_longest_69 : decode cX8_longest 69 = .ok (.goto (-38), 3) := by decide +kernel
theorem dX8_longest_72 : decode cX8_longest 72 = .ok (.iinc 2 1, 3) := by decide +kernel
theorem dX8_longest_75 : decode cX8_longest 75 = .ok (.goto (-44), 3) := by decide +kernel
theorem dX8_longest_78 : decode cX8_longest 78 = .ok (.aload_n 0, 1) := by decide +kernel
theorem dX8_longest_79 : decode cX8_longest 79 = .ok (.invokevirtual 123, 3) := by decide +kernel
theorem dX8_longest_82 : decode cX8_longest 82 = .ok (.istore_n 3, 1) := by decide +kernel
theorem dX8_longest_83 : decode cX8_longest 83 = .ok (.aload_n 0, 1) := by decide +kernel
theorem dX8_longest_84 : decode cX8_longest 84 = .ok (.aload_n 0, 1) := by decide +kernel
theorem dX8_longest_85 : decode cX8_longest 85 = .ok (.getfield 110, 3) := by decide +kernel
theorem dX8_longest_88 : decode cX8_longest 88 = .ok (.putfield 57, 3) := by decide +kernel
theorem dX8_longest_91 : decode cX8_longest 91 = .ok (.iconst 0, 1) := by decide +kernel
theorem dX8_longest_92 : decode cX8_longest 92 = .ok (.istore 4, 2) := by decide +kernel
theorem dX8_longest_94 : decode cX8_longest 94 = .ok (.iload 4, 2) := by decide +kernel
theorem dX8_longest_96 : decode cX8_longest 96 = .ok (.aload_n 0, 1) := by decide +kernel
theorem dX8_longest_97 : decode cX8_longest 97 = .ok (.getfield 110, 3) := by decide +kernel
theorem dX8_longest_100 : decode cX8_longest 100 = .ok (.if_icmp .ge 23, 3) := by decide +kernel
theorem dX8_longest_103 : decode cX8_longest 103 = .ok (.aload_n 0, 1) := by decide +kernel
theorem dX8_longest_104 : decode cX8_longest 104 = .ok (.getfield 60, 3) := by decide +kernel
theorem dX8_longest_107 : decode cX8_longest 107 = .ok (.iload 4, 2) := by decide +kernel
theorem dX8_longest_109 : decode cX8_longest 109 = .ok (.aload_n 0, 1) := by decide +kernel
theorem dX8_longest_110 : decode cX8_longest 110 = .ok (.getfield 116, 3) := by decide +kernel
theorem dX8_longest_113 : decode cX8_longest 113 = .ok (.iload 4, 2) := by decide +kernel
theorem dX8_longest_115 : decode cX8_longest 115 = .ok (.iaload, 1) := by decide +kernel
theorem dX8_longest_116 : decode cX8_longest 116 = .ok (.iastore, 1) := by decide +kernel
theorem dX8_longest_117 : decode cX8_longest 117 = .ok (.iinc 4 1, 3) := by decide +kernel
theorem dX8_longest_120 : decode cX8_longest 120 = .ok (.goto (-26), 3) := by decide +kernel
theorem dX8_longest_123 : decode cX8_longest 123 = .ok (.aload_n 0, 1) := by decide +kernel
theorem dX8_longest_124 : decode cX8_longest 124 = .ok (.iload_n 1, 1) := by decide +kernel
theorem dX8_longest_125 : decode cX8_longest 125 = .ok (.invokevirtual 70, 3) := by decide +kernel
theorem dX8_longest_128 : decode cX8_longest 128 = .ok (.ireturn, 1) := by decide +kernel
set_option maxRecDepth 20000 in
theorem ggX8_findForms_X8_isForm : GoodIn wsX8_findForms wsX8_isForm := goodIn_r _ [11, 12, 3, 13, 14, 4, 15, 16, 17, 10, 18, 19, 20, 21, 22, 23, 24, 25, 26, 27, 28, 29, 30, 31, 32, 33, 2, 34, 35, 36, 37, 38, 39, 40, 41, 42, 43, 44, 45, 46, 47, 48, 49, 50, 51, 52, 53, 54, 55, 56, 57, 58, 59, 60, 61, 62, 63, 64, 65, 66, 67, 68, 69, 70, 71, 72, 73, 74, 75, 76, 77, 78, 79, 80, 81, 82, 83, 84, 85, 86, 87, 88] rfl (by decide +kernel)
set_option maxRecDepth 20000 in
theorem gX8_findForms_X8_isForm : GoodIn wsX8_findForms (wsV RX8 212 RX8 yX8_isForm wsX8_isForm) := goodIn_app (goodIn_of _ (by decide +kernel)) ggX8_findForms_X8_isForm
theorem dX8_findForms_0 : decode cX8_findForms 0 = .ok (.aload_n 0, 1) := by decide +kernel
theorem dX8_findForms_1 : decode cX8_findForms 1 = .ok (.iconst 1, 1) := by decide +kernel
theorem dX8_findForms_2 : decode cX8_findForms 2 = .ok (.putfield 206, 3) := by decide +kernel
theorem dX8_findForms_5 : decode cX8_findForms 5 = .ok (.iconst 0, 1) := by decide +kernel
theorem dX8_findForms_6 : decode cX8_findForms 6 = .ok (.istore_n 2, 1) := by decide +kernel
theorem dX8_findForms_7 : decode cX8_findForms 7 = .ok (.iload_n 2, 1) := by decide +kernel
theorem dX8_findForms_8 : decode cX8_findForms 8 = .ok (.iload_n 1, 1) := by decide +kernel
theorem dX8_findForms_9 : decode cX8_findForms 9 = .ok (.if_icmp .ge 187, 3) := by decide +kernel
theorem dX8_findForms_12 : decode cX8_findForms 12 = .ok (.iconst 0, 1) := by decide +kernel
theorem dX8_findForms_13 : decode cX8_findForms 13 = .ok (.istore_n 3, 1) := by decide +kernel
theorem dX8_findForms_14 : decode cX8_findForms 14 = .ok (.iconst 0, 1) := by decide +kernel
theorem dX8_findForms_15 : decode cX8_findForms 15 = .ok (.istore 4, 2) := by decide +kernel
theorem dX8_findForms_17 : decode cX8_findForms 17 = .ok (.iload 4, 2) := by decide +kernel
theorem dX8_findForms_19 : decode cX8_findForms 19 = .ok (.aload_n 0, 1) := by decide +kernel
theorem dX8_findForms_20 : decode cX8_findForms 20 = .ok (.getfield 206, 3) := by decide +kernel
theorem dX8_findForms_23 : decode cX8_findForms 23 = .ok (.if_icmp .ge 130, 3) := by decide +kernel
theorem dX8_findForms_26 : decode cX8_findForms 26 = .ok (.iconst 0, 1) := by decide +kernel
theorem dX8_findForms_27 : decode cX8_findForms 27 = .ok (.istore 5, 2) := by decide +kernel
theorem dX8_findForms_29 : decode cX8_findForms 29 = .ok (.iload 5, 2) := by decide +kernel
theorem dX8_findForms_31 : decode cX8_findForms 31 = .ok (.aload_n 0, 1) := by decide +kernel
theorem dX8_findForms_32 : decode cX8_findForms 32 = .ok (.getfield 11, 3) := by decide +kernel
theorem dX8_findForms_35 : decode cX8_findForms 35 = .ok (.if_icmp .ge 112, 3) := by decide +kernel
theorem dX8_findForms_38 : decode cX8_findForms 38 = .ok (.aload_n 0, 1) := by decide +kernel
theorem dX8_findForms_39 : decode cX8_findForms 39 = .ok (.iload_n 2, 1) := by decide +kernel
theorem dX8_findForms_40 : decode cX8_findForms 40 = .ok (.iconst 1, 1) := by decide +kernel
theorem dX8_findForms_41 : decode cX8_findForms 41 = .ok (.iadd, 1) := by decide +kernel
theorem dX8_findForms_42 : decode cX8_findForms 42 = .ok (.putfield 57, 3) := by decide +kernel
theorem dX8_findForms_45 : decode cX8_findForms 45 = .ok (.iconst 0, 1) := by decide +kernel
theorem dX8_findForms_46 : decode cX8_findForms 46 = .ok (.istore 6, 2) := by decide +kernel
theorem dX8_findForms_48 : decode cX8_findForms 48 = .ok (.iload 6, 2) := by decide +kernel
theorem dX8_findForms_50 : decode cX8_findForms 50 = .ok (.iload_n 2, 1) := by decide +kernel
theorem dX8_findForms_51 : decode cX8_findForms 51 = .ok (.if_icmp .ge 29, 3) := by decide +kernel
theorem dX8_findForms_54 : decode cX8_findForms 54 = .ok (.aload_n 0, 1) := by decide +kernel
theorem dX8_findForms_55 : decode cX8_findForms 55 = .ok (.getfield 60, 3) := by decide +kernel
theorem dX8_findForms_58 : decode cX8_findForms 58 = .ok (.iload 6, 2) := by decide +kernel
theorem dX8_findForms_60 : decode cX8_findForms 60 = .ok (.aload_n 0, 1) := by decide +kernel
theorem dX8_findForms_61 : decode cX8_findForms 61 = .ok (.getfield 209, 3) := by decide +kernel
theorem dX8_findForms_64 : decode cX8_findForms 64 = .ok (.bipush 12, 2) := by decide +kernel
theorem dX8_findForms_66 : decode cX8_findForms 66 = .ok (.iload 4, 2) := by decide +kernel
theorem dX8_findForms_68 : decode cX8_findForms 68 = .ok (.imul, 1) := by decide +kernel
theorem dX8_findForms_69 : decode cX8_findForms 69 = .ok (.iload 6, 2) := by decide +kernel
theorem dX8_findForms_71 : decode cX8_findForms 71 = .ok (.iadd, 1) := by decide +kernel
theorem dX8_findForms_72 : decode cX8_findForms 72 = .ok (.iaload, 1) := by decide +kernel
theorem dX8_findForms_73 : decode cX8_findForms 73 = .ok (.iastore, 1) := by decide +kernel
theorem dX8_findForms_74 : decode cX8_findForms 74 = .ok (.iinc 6 1, 3) := by decide +kernel
theorem dX8_findForms_77 : decode cX8_findForms 77 = .ok (.goto (-29), 3) := by decide +kernel
theorem dX8_findForms_80 : decode cX8_findForms 80 = .ok (.aload_n 0, 1) := by decide +kernel
theorem dX8_findForms_81 : decode cX8_findForms 81 = .ok (.getfield 60, 3) := by decide +kernel
theorem dX8_findForms_84 : decode cX8_findForms 84 = .ok (.iload_n 2, 1) := by decide +kernel
theorem dX8_findForms_85 : decode cX8_findForms 85 = .ok (.iload 5, 2) := by decide +kernel
theorem dX8_findForms_87 : decode cX8_findForms 87 = .ok (.iastore, 1) := by decide +kernel
theorem dX8_findForms_88 : decode cX8_findForms 88 = .ok (.aload_n 0, 1) := by decide +kernel
theorem dX8_findForms_89 : decode cX8_findForms 89 = .ok (.invokevirtual 212, 3) := by decide +kernel
theorem dX8_findForms_92 : decode cX8_findForms 92 = .ok (.ifCond .eq 49, 3) := by decide +kernel
theorem dX8_findForms_95 : decode cX8_findForms 95 = .ok (.iload_n 3, 1) := by decide +kernel
theorem dX8_findForms_96 : decode cX8_findForms 96 = .ok (.sipush 300, 3) := by decide +kernel
theorem dX8_findForms_99 : decode cX8_findForms 99 = .ok (.if_icmp .ne 5, 3) := by decide +kernel
theorem dX8_findForms_102 : decode cX8_findForms 102 = .ok (.iconst 0, 1) := by decide +kernel
theorem dX8_findForms_103 : decode cX8_findForms 103 = .ok (.ireturn, 1) := by decide +kernel
theorem dX8_findForms_104 : decode cX8_findForms 104 = .ok (.iconst 0, 1) := by decide +kernel
theorem dX8_findForms_105 : decode cX8_findForms 105 = .ok (.istore 6, 2) := by decide +kernel
theorem dX8_findForms_107 : decode cX8_findForms 107 = .ok (.iload 6, 2) := by decide +kernel
theorem dX8_findForms_109 : decode cX8_findForms 109 = .ok (.iload_n 2, 1) := by decide +kernel
theorem dX8_findForms_110 : decode cX8_findForms 110 = .ok (.if_icmp .gt 28, 3) := by decide +kernel
theorem dX8_findForms_113 : decode cX8_findForms 113 = .ok (.aload_n 0, 1) := by decide +kernel
theorem dX8_findForms_114 : decode cX8_findForms 114 = .ok (.getfield 215, 3) := by decide +kernel
theorem dX8_findForms_117 : decode cX8_findForms 117 = .ok (.bipush 12, 2) := by decide +kernel
theorem dX8_findForms_119 : decode cX8_findForms 119 = .ok (.iload_n 3, 1) := by decide +kernel
theorem dX8_findForms_120 : decode cX8_findForms 120 = .ok (.imul, 1) := by decide +kernel
theorem dX8_findForms_121 : decode cX8_findForms 121 = .ok (.iload 6, 2) := by decide +kernel
theorem dX8_findForms_123 : decode cX8_findForms 123 = .ok (.iadd, 1) := by decide +kernel
theorem dX8_findForms_124 : decode cX8_findForms 124 = .ok (.aload_n 0, 1) := by decide +kernel
theorem dX8_findForms_125 : decode cX8_findForms 125 = .ok (.getfield 60, 3) := by decide +kernel
theorem dX8_findForms_128 : decode cX8_findForms 128 = .ok (.iload 6, 2) := by decide +kernel
theorem dX8_findForms_130 : decode cX8_findForms 130 = .ok (.iaload, 1) := by decide +kernel
theorem dX8_findForms_131 : decode cX8_findForms 131 = .ok (.iastore, 1) := by decide +kernel
theorem dX8_findForms_132 : decode cX8_findForms 132 = .ok (.iinc 6 1, 3) := by decide +kernel
theorem dX8_findForms_135 : decode cX8_findForms 135 = .ok (.goto (-28), 3) := by decide +kernel
theorem dX8_findForms_138 : decode cX8_findForms 138 = .ok (.iinc 3 1, 3) := by decide +kernel
theorem dX8_findForms_141 : decode cX8_findForms 141 = .ok (.iinc 5 1, 3) := by decide +kernel
theorem dX8_findForms_144 : decode cX8_findForms 144 = .ok (.goto (-115), 3) := by decide +kernel
theorem dX8_findForms_147 : decode cX8_findForms 147 = .ok (.iinc 4 1, 3) := by decide +kernel
theorem dX8_findForms_150 : decode cX8_findForms 150 = .ok (.goto (-133), 3) := by decide +kernel
theorem dX8_findForms_153 : decode cX8_findForms 153 = .ok (.iconst 0, 1) := by decide +kernel
theorem dX8_findForms_154 : decode cX8_findForms 154 = .ok (.istore 4, 2) := by decide +kernel
theorem dX8_findForms_156 : decode cX8_findForms 156 = .ok (.iload 4, 2) := by decide +kernel
theorem dX8_findForms_158 : decode cX8_findForms 158 = .ok (.bipush 12, 2) := by decide +kernel
theorem dX8_findForms_160 : decode cX8_findForms 160 = .ok (.iload_n 3, 1) := by decide +kernel
theorem dX8_findForms_161 : decode cX8_findForms 161 = .ok (.imul, 1) := by decide +kernel
theorem dX8_findForms_162 : decode cX8_findForms 162 = .ok (.if_icmp .ge 23, 3) := by decide +kernel
theorem dX8_findForms_165 : decode cX8_findForms 165 = .ok (.aload_n 0, 1) := by decide +kernel
theorem dX8_findForms_166 : decode cX8_findForms 166 = .ok (.getfield 209, 3) := by decide +kernel
theorem dX8_findForms_169 : decode cX8_findForms 169 = .ok (.iload 4, 2) := by decide +kernel
theorem dX8_findForms_171 : decode cX8_findForms 171 = .ok (.aload_n 0, 1) := by decide +kernel
theorem dX8_findForms_172 : decode cX8_findForms 172 = .ok (.getfield 215, 3) := by decide +kernel
theorem dX8_findForms_175 : decode cX8_findForms 175 = .ok (.iload 4, 2) := by decide +kernel
theorem dX8_findForms_177 : decode cX8_findForms 177 = .ok (.iaload, 1) := by decide +kernel
theorem dX8_findForms_178 : decode cX8_findForms 178 = .ok (.iastore, 1) := by decide +kernel
theorem dX8_findForms_179 : decode cX8_findForms 179 = .ok (.iinc 4 1, 3) := by decide +kernel
theorem dX8_findForms_182 : decode cX8_findForms 182 = .ok (.goto (-26), 3) := by decide +kernel
theorem dX8_findForms_185 : decode cX8_findForms 185 = .ok (.aload_n 0, 1) := by decide +kernel
theorem dX8_findForms_186 : decode cX8_findForms 186 = .ok (.iload_n 3, 1) := by decide +kernel
theorem dX8_findForms_187 : decode cX8_findForms 187 = .ok (.putfield 206, 3) := by decide +kernel
theorem dX8_findForms_190 : decode cX8_findForms 190 = .ok (.iinc 2 1, 3) := by decide +kernel
theorem dX8_findForms_193 : decode cX8_findForms 193 = .ok (.goto (-186), 3) := by decide +kernel
theorem dX8_findForms_196 : decode cX8_findForms 196 = .ok (.iconst 1, 1) := by decide +kernel
theorem dX8_findForms_197 : decode cX8_findForms 197 = .ok (.ireturn, 1) := by decide +kernel
set_option maxRecDepth 20000 in
theorem ggX8_isForm_X8_shortOf : GoodIn wsX8_isForm wsX8_shortOf := goodIn_r _ [10, 11, 1, 2, 5, 12, 13, 14, 15, 9, 16, 17, 18, 19, 20, 21, 22, 23, 24, 25, 26, 27, 28, 29, 30, 31, 32, 33, 34, 35, 36, 37, 38, 39, 40, 49, 50, 51, 52, 53, 54, 55, 56, 57, 58, 59, 60, 61, 62, 63, 64, 65, 66, 67, 68, 69, 70, 71, 72, 73, 74, 75, 76, 77, 78, 79, 80, 81] rfl (by decide +kernel)
set_option maxRecDepth 20000 in
theorem gX8_isForm_X8_shortOf : GoodIn wsX8_isForm (wsV RX8 119 RX8 yX8_shortOf wsX8_shortOf) := goodIn_app (goodIn_of _ (by decide +kernel)) ggX8_isForm_X8_shortOf
set_option maxRecDepth 20000 in
theorem ggX8_isForm_X8_formOfR : GoodIn wsX8_isForm wsX8_formOfR := goodIn_r _ [44, 11, 3, 1, 26, 4, 45, 46, 47, 9, 48, 12, 17, 18, 19, 20, 21, 22, 23, 24, 25, 27, 28, 29, 30, 31, 32, 33, 34, 35, 36, 37, 38, 39, 40, 49, 50, 51, 52, 53, 54, 55, 56, 57, 58, 59, 60, 61, 62, 63, 64, 65, 66, 67, 68, 69, 70, 71, 72, 73, 74, 75, 76, 77, 78, 79, 80, 81] rfl (by decide +kernel)
set_option maxRecDepth 20000 in
theorem gX8_isForm_X8_formOfR : GoodIn wsX8_isForm (wsV RX8 123 RX8 yX8_formOfR wsX8_formOfR) := goodIn_app (goodIn_of _ (by decide +kernel)) ggX8_isForm_X8_formOfR
theorem dX8_isForm_0 : decode cX8_isForm 0 = .ok (.aload_n 0, 1) := by decide +kernel
theorem dX8_isForm_1 : decode cX8_isForm 1 = .ok (.invokevirtual 119, 3) := by decide +kernel
theorem dX8_isForm_4 : decode cX8_isForm 4 = .ok (.ifCond .eq 36, 3) := by decide +kernel
theorem dX8_isForm_7 : decode cX8_isForm 7 = .ok (.aload_n 0, 1) := by decide +kernel
theorem dX8_isForm_8 : decode cX8_isForm 8 = .ok (.getfield 92, 3) := by decide +kernel
theorem dX8_isForm_11 : decode cX8_isForm 11 = .ok (.aload_n 0, 1) := by decide +kernel
theorem dX8_isForm_12 : decode cX8_isForm 12 = .ok (.getfield 57, 3) := by decide +kernel
theorem dX8_isForm_15 : decode cX8_isForm 15 = .ok (.if_icmp .ne 25, 3) := by decide +kernel
theorem dX8_isForm_18 : decode cX8_isForm 18 = .ok (.aload_n 0, 1) := by decide +kernel
theorem dX8_isForm_19 : decode cX8_isForm 19 = .ok (.invokevirtual 123, 3) := by decide +kernel
theorem dX8_isForm_22 : decode cX8_isForm 22 = .ok (.ifCond .eq 18, 3) := by decide +kernel
theorem dX8_isForm_25 : decode cX8_isForm 25 = .ok (.aload_n 0, 1) := by decide +kernel
theorem dX8_isForm_26 : decode cX8_isForm 26 = .ok (.getfield 110, 3) := by decide +kernel
theorem dX8_isForm_29 : decode cX8_isForm 29 = .ok (.aload_n 0, 1) := by decide +kernel
theorem dX8_isForm_30 : decode cX8_isForm 30 = .ok (.getfield 57, 3) := by decide +kernel
theorem dX8_isForm_33 : decode cX8_isForm 33 = .ok (.if_icmp .ne 7, 3) := by decide +kernel
theorem dX8_isForm_36 : decode cX8_isForm 36 = .ok (.iconst 1, 1) := by decide +kernel
theorem dX8_isForm_37 : decode cX8_isForm 37 = .ok (.goto 4, 3) := by decide +kernel
theorem dX8_isForm_40 : decode cX8_isForm 40 = .ok (.iconst 0, 1) := by decide +kernel
theorem dX8_isForm_41 : decode cX8_isForm 41 = .ok (.istore_n 1, 1) := by decide +kernel
theorem dX8_isForm_42 : decode cX8_isForm 42 = .ok (.iconst 0, 1) := by decide +kernel
theorem dX8_isForm_43 : decode cX8_isForm 43 = .ok (.istore_n 2, 1) := by decide +kernel
theorem dX8_isForm_44 : decode cX8_isForm 44 = .ok (.iload_n 2, 1) := by decide +kernel
theorem dX8_isForm_45 : decode cX8_isForm 45 = .ok (.aload_n 0, 1) := by decide +kernel
theorem dX8_isForm_46 : decode cX8_isForm 46 = .ok (.getfield 57, 3) := by decide +kernel
theorem dX8_isForm_49 : decode cX8_isForm 49 = .ok (.if_icmp .ge 34, 3) := by decide +kernel
theorem dX8_isForm_52 : decode cX8_isForm 52 = .ok (.iload_n 1, 1) := by decide +kernel
theorem dX8_isForm_53 : decode cX8_isForm 53 = .ok (.ifCond .eq 30, 3) := by decide +kernel
theorem dX8_isForm_56 : decode cX8_isForm 56 = .ok (.aload_n 0, 1) := by decide +kernel
theorem dX8_isForm_57 : decode cX8_isForm 57 = .ok (.getfield 116, 3) := by decide +kernel
theorem dX8_isForm_60 : decode cX8_isForm 60 = .ok (.iload_n 2, 1) := by decide +kernel
theorem dX8_isForm_61 : decode cX8_isForm 61 = .ok (.iaload, 1) := by decide +kernel
theorem dX8_isForm_62 : decode cX8_isForm 62 = .ok (.aload_n 0, 1) := by decide +kernel
theorem dX8_isForm_63 : decode cX8_isForm 63 = .ok (.getfield 60, 3) := by decide +kernel
theorem dX8_isForm_66 : decode cX8_isForm 66 = .ok (.iload_n 2, 1) := by decide +kernel
theorem dX8_isForm_67 : decode cX8_isForm 67 = .ok (.iaload, 1) := by decide +kernel
theorem dX8_isForm_68 : decode cX8_isForm 68 = .ok (.if_icmp .ne 7, 3) := by decide +kernel
theorem dX8_isForm_71 : decode cX8_isForm 71 = .ok (.iconst 1, 1) := by decide +kernel
theorem dX8_isForm_72 : decode cX8_isForm 72 = .ok (.goto 4, 3) := by decide +kernel
theorem dX8_isForm_75 : decode cX8_isForm 75 = .ok (.iconst 0, 1) := by decide +kernel
theorem dX8_isForm_76 : decode cX8_isForm 76 = .ok (.istore_n 1, 1) := by decide +kernel
theorem dX8_isForm_77 : decode cX8_isForm 77 = .ok (.iinc 2 1, 3) := by decide +kernel
theorem dX8_isForm_80 : decode cX8_isForm 80 = .ok (.goto (-36), 3) := by decide +kernel
theorem dX8_isForm_83 : decode cX8_isForm 83 = .ok (.iload_n 1, 1) := by decide +kernel
theorem dX8_isForm_84 : decode cX8_isForm 84 = .ok (.ireturn, 1) := by decide +kernel
set_option maxRecDepth 20000 in
theorem ggX8_forms_X8_in : GoodIn wsX8_forms wsX8_in := goodIn_r _ [6] rfl (by decide +kernel)
set_option maxRecDepth 20000 in
theorem gX8_forms_X8_in : GoodIn wsX8_forms (va_wsS RX8 24 yX8_in wsX8_in) := goodIn_app (goodIn_of _ (by decide +kernel)) ggX8_forms_X8_in
set_option maxRecDepth 20000 in
theorem ggX8_forms_X8_findForms : GoodIn wsX8_forms wsX8_findForms := goodIn_r _ [10, 2, 11, 12, 13, 14, 15, 16, 17, 18, 5, 19, 20, 21, 22, 23, 24, 25, 26, 27, 28, 29, 30, 31, 32, 33, 34, 35, 36, 37, 38, 39, 40, 41, 42, 43, 44, 45, 46, 47, 48, 3, 4, 6, 49, 50, 51, 52, 53, 54, 55, 56, 57, 58, 59, 60, 61, 62, 63, 64, 65, 66, 67, 68, 69, 70, 71, 72, 73, 74, 75, 76, 77, 78, 79, 80, 81, 82, 83, 84, 85, 86, 87, 88, 89, 90, 91, 92, 93] rfl (by decide +kernel)
set_option maxRecDepth 20000 in
theorem gX8_forms_X8_findForms : GoodIn wsX8_forms (wsV RX8 220 RX8 yX8_findForms wsX8_findForms) := goodIn_app (goodIn_of _ (by decide +kernel)) ggX8_forms_X8_findForms
theorem dX8_forms_0 : decode cX8_forms 0 = .ok (.iload_n 1, 1) := by decide +kernel
theorem dX8_forms_1 : decode cX8_forms 1 = .ok (.i2l, 1) := by decide +kernel
theorem dX8_forms_2 : decode cX8_forms 2 = .ok (.lconst 0, 1) := by decide +kernel
theorem dX8_forms_3 : decode cX8_forms 3 = .ok (.ldc2_w 218, 3) := by decide +kernel
theorem dX8_forms_6 : decode cX8_forms 6 = .ok (.invokestatic 24, 3) := by decide +kernel
theorem dX8_forms_9 : decode cX8_forms 9 = .ok (.ifCond .ne 5, 3) := by decide +kernel
theorem dX8_forms_12 : decode cX8_forms 12 = .ok (.iconst (-1), 1) := by decide +kernel
theorem dX8_forms_13 : decode cX8_forms 13 = .ok (.ireturn, 1) := by decide +kernel
theorem dX8_forms_14 : decode cX8_forms 14 = .ok (.aload_n 0, 1) := by decide +kernel
theorem dX8_forms_15 : decode cX8_forms 15 = .ok (.iload_n 1, 1) := by decide +kernel
theorem dX8_forms_16 : decode cX8_forms 16 = .ok (.invokevirtual 220, 3) := by decide +kernel
theorem dX8_forms_19 : decode cX8_forms 19 = .ok (.ifCond .eq 10, 3) := by decide +kernel
theorem dX8_forms_22 : decode cX8_forms 22 = .ok (.aload_n 0, 1) := by decide +kernel
theorem dX8_forms_23 : decode cX8_forms 23 = .ok (.getfield 206, 3) := by decide +kernel
theorem dX8_forms_26 : decode cX8_forms 26 = .ok (.goto 5, 3) := by decide +kernel
theorem dX8_forms_29 : decode cX8_forms 29 = .ok (.bipush (-3), 2) := by decide +kernel
theorem dX8_forms_31 : decode cX8_forms 31 = .ok (.ireturn, 1) := by decide +kernel
set_option maxRecDepth 20000 in
theorem ggX8_next_X8_in : GoodIn wsX8_next wsX8_in := goodIn_r _ [9] rfl (by decide +kernel)
set_option maxRecDepth 20000 in
theorem gX8_next_X8_in : GoodIn wsX8_next (va_wsS RX8 24 yX8_in wsX8_in) := goodIn_app (goodIn_of _ (by decide +kernel)) ggX8_next_X8_in
set_option maxRecDepth 20000 in
theorem ggX8_next_X8_isSlot : GoodIn wsX8_next wsX8_isSlot := goodIn_r _ [12, 13, 6, 7, 8, 9] rfl (by decide +kernel)
set_option maxRecDepth 20000 in
theorem gX8_next_X8_isSlot : GoodIn wsX8_next (va_wsS RX8 48 yX8_isSlot wsX8_isSlot) := goodIn_app (goodIn_of _ (by decide +kernel)) ggX8_next_X8_isSlot
set_option maxRecDepth 20000 in
theorem ggX8_next_X8_findForms : GoodIn wsX8_next wsX8_findForms := goodIn_r _ [17, 2, 18, 3, 4, 5, 19, 20, 21, 22, 8, 23, 24, 25, 26, 27, 28, 29, 30, 31, 32, 33, 34, 35, 36, 37, 38, 39, 40, 41, 42, 43, 44, 45, 46, 47, 48, 49, 50, 51, 52, 6, 7, 9, 53, 54, 55, 56, 57, 58, 59, 60, 61, 62, 63, 64, 71, 72, 73, 74, 75, 76, 77, 78, 79, 80, 81, 82, 83, 84, 85, 86, 87, 88, 89, 90, 91, 92, 93, 94, 95, 96, 97, 98, 99, 100, 101, 102, 103] rfl (by decide +kernel)
set_option maxRecDepth 20000 in
theorem gX8_next_X8_findForms : GoodIn wsX8_next (wsV RX8 220 RX8 yX8_findForms wsX8_findForms) := goodIn_app (goodIn_of _ (by decide +kernel)) ggX8_next_X8_findForms
set_option maxRecDepth 20000 in
theorem ggX8_next_X8_store : GoodIn wsX8_next wsX8_store := goodIn_r _ [68, 69, 3, 70, 4, 71, 72, 73, 74, 75, 76, 77, 78, 79, 80, 81, 82, 83, 84, 85, 86, 87, 88, 89, 90, 91, 92, 93, 94, 95, 96, 97, 98, 99, 100, 101, 102, 103] rfl (by decide +kernel)
set_option maxRecDepth 20000 in
theorem gX8_next_X8_store : GoodIn wsX8_next (wsV RX8 70 RX8 yX8_store wsX8_store) := goodIn_app (goodIn_of _ (by decide +kernel)) ggX8_next_X8_store
theorem dX8_next_0 : decode cX8_next 0 = .ok (.iload_n 1, 1) := by decide +kernel
theorem dX8_next_1 : decode cX8_next 1 = .ok (.i2l, 1) := by decide +kernel
theorem dX8_next_2 : decode cX8_next 2 = .ok (.lconst 0, 1) := by decide +kernel
theorem dX8_next_3 : decode cX8_next 3 = .ok (.ldc2_w 218, 3) := by decide +kernel
theorem dX8_next_6 : decode cX8_next 6 = .ok (.invokestatic 24, 3) := by decide +kernel
theorem dX8_next_9 : decode cX8_next 9 = .ok (.ifCond .eq 34, 3) := by decide +kernel
theorem dX8_next_12 : decode cX8_next 12 = .ok (.iload_n 3, 1) := by decide +kernel
theorem dX8_next_13 : decode cX8_next 13 = .ok (.invokestatic 48, 3) := by decide +kernel
theorem dX8_next_16 : decode cX8_next 16 = .ok (.ifCond .eq 27, 3) := by decide +kernel
theorem dX8_next_19 : decode cX8_next 19 = .ok (.aload_n 0, 1) := by decide +kernel
theorem dX8_next_20 : decode cX8_next 20 = .ok (.iload_n 1, 1) := by decide +kernel
theorem dX8_next_21 : decode cX8_next 21 = .ok (.invokevirtual 220, 3) := by decide +kernel
theorem dX8_next_24 : decode cX8_next 24 = .ok (.ifCond .eq 19, 3) := by decide +kernel
theorem dX8_next_27 : decode cX8_next 27 = .ok (.iload_n 2, 1) := by decide +kernel
theorem dX8_next_28 : decode cX8_next 28 = .ok (.i2l, 1) := by decide +kernel
theorem dX8_next_29 : decode cX8_next 29 = .ok (.lconst 0, 1) := by decide +kernel
theorem dX8_next_30 : decode cX8_next 30 = .ok (.aload_n 0, 1) := by decide +kernel
theorem dX8_next_31 : decode cX8_next 31 = .ok (.getfield 206, 3) := by decide +kernel
theorem dX8_next_34 : decode cX8_next 34 = .ok (.iconst 1, 1) := by decide +kernel
theorem dX8_next_35 : decode cX8_next 35 = .ok (.isub, 1) := by decide +kernel
theorem dX8_next_36 : decode cX8_next 36 = .ok (.i2l, 1) := by decide +kernel
theorem dX8_next_37 : decode cX8_next 37 = .ok (.invokestatic 24, 3) := by decide +kernel
theorem dX8_next_40 : decode cX8_next 40 = .ok (.ifCond .ne 5, 3) := by decide +kernel
theorem dX8_next_43 : decode cX8_next 43 = .ok (.iconst (-1), 1) := by decide +kernel
theorem dX8_next_44 : decode cX8_next 44 = .ok (.ireturn, 1) := by decide +kernel
theorem dX8_next_45 : decode cX8_next 45 = .ok (.aload_n 0, 1) := by decide +kernel
theorem dX8_next_46 : decode cX8_next 46 = .ok (.iload_n 1, 1) := by decide +kernel
theorem dX8_next_47 : decode cX8_next 47 = .ok (.putfield 57, 3) := by decide +kernel
theorem dX8_next_50 : decode cX8_next 50 = .ok (.iconst 0, 1) := by decide +kernel
theorem dX8_next_51 : decode cX8_next 51 = .ok (.istore 4, 2) := by decide +kernel
theorem dX8_next_53 : decode cX8_next 53 = .ok (.iload 4, 2) := by decide +kernel
theorem dX8_next_55 : decode cX8_next 55 = .ok (.iload_n 1, 1) := by decide +kernel
theorem dX8_next_56 : decode cX8_next 56 = .ok (.if_icmp .ge 28, 3) := by decide +kernel
theorem dX8_next_59 : decode cX8_next 59 = .ok (.aload_n 0, 1) := by decide +kernel
theorem dX8_next_60 : decode cX8_next 60 = .ok (.getfield 60, 3) := by decide +kernel
theorem dX8_next_63 : decode cX8_next 63 = .ok (.iload 4, 2) := by decide +kernel
theorem dX8_next_65 : decode cX8_next 65 = .ok (.aload_n 0, 1) := by decide +kernel
theorem dX8_next_66 : decode cX8_next 66 = .ok (.getfield 209, 3) := by decide +kernel
theorem dX8_next_69 : decode cX8_next 69 = .ok (.bipush 12, 2) := by decide +kernel
theorem dX8_next_71 : decode cX8_next 71 = .ok (.iload_n 2, 1) := by decide +kernel
theorem dX8_next_72 : decode cX8_next 72 = .ok (.imul, 1) := by decide +kernel
theorem dX8_next_73 : decode cX8_next 73 = .ok (.iload 4, 2) := by decide +kernel
theorem dX8_next_75 : decode cX8_next 75 = .ok (.iadd, 1) := by decide +kernel
theorem dX8_next_76 : decode cX8_next 76 = .ok (.iaload, 1) := by decide +kernel
theorem dX8_next_77 : decode cX8_next 77 = .ok (.iastore, 1) := by decide +kernel
theorem dX8_next_78 : decode cX8_next 78 = .ok (.iinc 4 1, 3) := by decide +kernel
theorem dX8_next_81 : decode cX8_next 81 = .ok (.goto (-28), 3) := by decide +kernel
theorem dX8_next_84 : decode cX8_next 84 = .ok (.aload_n 0, 1) := by decide +kernel
theorem dX8_next_85 : decode cX8_next 85 = .ok (.iload_n 3, 1) := by decide +kernel
theorem dX8_next_86 : decode cX8_next 86 = .ok (.invokevirtual 70, 3) := by decide +kernel
theorem dX8_next_89 : decode cX8_next 89 = .ok (.ireturn, 1) := by decide +kernel
set_option maxRecDepth 20000 in
theorem ggX8_parts_X8_isSlot : GoodIn wsX8_parts wsX8_isSlot := goodIn_r _ [14, 15, 16, 17, 13, 18] rfl (by decide +kernel)
set_option maxRecDepth 20000 in
theorem gX8_parts_X8_isSlot : GoodIn wsX8_parts (va_wsS RX8 48 yX8_isSlot wsX8_isSlot) := goodIn_app (goodIn_of _ (by decide +kernel)) ggX8_parts_X8_isSlot
set_option maxRecDepth 20000 in
theorem ggX8_parts_X8_load : GoodIn wsX8_parts wsX8_load := goodIn_r _ [22, 23, 7, 6, 24, 71, 72, 73, 74, 75, 76, 77, 78, 79, 80, 81, 82, 83, 84, 85, 86, 87, 88, 89, 90, 91, 92, 93, 94, 95, 96, 97, 98, 99, 100, 101, 102, 103] rfl (by decide +kernel)
set_option maxRecDepth 20000 in
theorem gX8_parts_X8_load : GoodIn wsX8_parts (wsV RX8 63 RX8 yX8_load wsX8_load) := goodIn_app (goodIn_of _ (by decide +kernel)) ggX8_parts_X8_load
set_option maxRecDepth 20000 in
theorem ggX8_parts_X8_shortOf : GoodIn wsX8_parts wsX8_shortOf := goodIn_r _ [28, 4, 8, 7, 6, 9, 29, 30, 31, 13, 32, 33, 34, 35, 36, 37, 38, 39, 40, 41, 1, 42, 43, 44, 45, 46, 47, 48, 16, 17, 18, 49, 50, 51, 52, 71, 72, 73, 74, 75, 76, 77, 78, 79, 80, 81, 82, 83, 84, 85, 86, 87, 88, 89, 90, 91, 92, 93, 94, 95, 96, 97, 98, 99, 100, 101, 102, 103] rfl (by decide +kernel)
set_option maxRecDepth 20000 in
theorem gX8_parts_X8_shortOf : GoodIn wsX8_parts (wsV RX8 119 RX8 yX8_shortOf wsX8_shortOf) := goodIn_app (goodIn_of _ (by decide +kernel)) ggX8_parts_X8_shortOf
set_option maxRecDepth 20000 in
theorem ggX8_parts_X8_ahead : GoodIn wsX8_parts wsX8_ahead := goodIn_r _ [56, 8, 9, 4, 33, 34, 35, 13, 36, 37, 38, 39, 40, 41, 1, 42, 43, 44, 45, 46, 47, 48, 16, 17, 18, 71, 72, 73, 74, 75, 76, 77, 78, 79, 80, 81, 82, 83, 84, 85, 86, 87, 88, 89, 90, 91, 92, 93, 94, 95, 96, 97, 98, 99, 100, 101, 102, 103] rfl (by decide +kernel)
set_option maxRecDepth 20000 in
theorem gX8_parts_X8_ahead : GoodIn wsX8_parts (wsV RX8 113 RX8 yX8_ahead wsX8_ahead) := goodIn_app (goodIn_of _ (by decide +kernel)) ggX8_parts_X8_ahead
set_option maxRecDepth 20000 in
theorem ggX8_parts_X8_goesFromR : GoodIn wsX8_parts wsX8_goesFromR := goodIn_r _ [52, 8, 9, 71, 72, 73, 74, 75, 76, 77, 78, 79, 80, 81, 82, 83, 84, 85, 86, 87, 88, 89, 90, 91, 92, 93, 94, 95, 96, 97, 98, 99, 100, 101, 102, 103] rfl (by decide +kernel)
set_option maxRecDepth 20000 in
theorem gX8_parts_X8_goesFromR : GoodIn wsX8_parts (wsV RX8 107 RX8 yX8_goesFromR wsX8_goesFromR) := goodIn_app (goodIn_of _ (by decide +kernel)) ggX8_parts_X8_goesFromR
set_option maxRecDepth 20000 in
theorem ggX8_parts_X8_formOfW : GoodIn wsX8_parts wsX8_formOfW := goodIn_r _ [60, 61, 7, 6, 62, 25, 26, 27, 13, 28, 4, 8, 9, 29, 30, 31, 32, 33, 34, 35, 36, 37, 38, 39, 40, 41, 1, 42, 43, 44, 45, 46, 47, 48, 16, 17, 18, 49, 50, 51, 52, 63, 64, 65, 66, 53, 54, 55, 56, 71, 72, 73, 74, 75, 76, 77, 78, 79, 80, 81, 82, 83, 84, 85, 86, 87, 88, 89, 90, 91, 92, 93, 94, 95, 96, 97, 98, 99, 100, 101, 102, 103] rfl (by decide +kernel)
set_option maxRecDepth 20000 in
theorem gX8_parts_X8_formOfW : GoodIn wsX8_parts (wsV RX8 135 RX8 yX8_formOfW wsX8_formOfW) := goodIn_app (goodIn_of _ (by decide +kernel)) ggX8_parts_X8_formOfW
set_option maxRecDepth 20000 in
theorem ggX8_parts_X8_store : GoodIn wsX8_parts wsX8_store := goodIn_r _ [70, 23, 7, 24, 6, 71, 72, 73, 74, 75, 76, 77, 78, 79, 80, 81, 82, 83, 84, 85, 86, 87, 88, 89, 90, 91, 92, 93, 94, 95, 96, 97, 98, 99, 100, 101, 102, 103] rfl (by decide +kernel)
set_option maxRecDepth 20000 in
theorem gX8_parts_X8_store : GoodIn wsX8_parts (wsV RX8 70 RX8 yX8_store wsX8_store) := goodIn_app (goodIn_of _ (by decide +kernel)) ggX8_parts_X8_store
theorem dX8_parts_0 : decode cX8_parts 0 = .ok (.iload_n 1, 1) := by decide +kernel
theorem dX8_parts_1 : decode cX8_parts 1 = .ok (.invokestatic 48, 3) := by decide +kernel
theorem dX8_parts_4 : decode cX8_parts 4 = .ok (.ifCond .eq 24, 3) := by decide +kernel
theorem dX8_parts_7 : decode cX8_parts 7 = .ok (.iload_n 3, 1) := by decide +kernel
theorem dX8_parts_8 : decode cX8_parts 8 = .ok (.invokestatic 48, 3) := by decide +kernel
theorem dX8_parts_11 : decode cX8_parts 11 = .ok (.ifCond .eq 17, 3) := by decide +kernel
theorem dX8_parts_14 : decode cX8_parts 14 = .ok (.iload 4, 2) := by decide +kernel
theorem dX8_parts_16 : decode cX8_parts 16 = .ok (.invokestatic 48, 3) := by decide +kernel
theorem dX8_parts_19 : decode cX8_parts 19 = .ok (.ifCond .eq 9, 3) := by decide +kernel
theorem dX8_parts_22 : decode cX8_parts 22 = .ok (.iload_n 3, 1) := by decide +kernel
theorem dX8_parts_23 : decode cX8_parts 23 = .ok (.iload 4, 2) := by decide +kernel
theorem dX8_parts_25 : decode cX8_parts 25 = .ok (.if_icmp .ne 5, 3) := by decide +kernel
theorem dX8_parts_28 : decode cX8_parts 28 = .ok (.iconst (-1), 1) := by decide +kernel
theorem dX8_parts_29 : decode cX8_parts 29 = .ok (.ireturn, 1) := by decide +kernel
theorem dX8_parts_30 : decode cX8_parts 30 = .ok (.iload_n 2, 1) := by decide +kernel
theorem dX8_parts_31 : decode cX8_parts 31 = .ok (.istore 5, 2) := by decide +kernel
theorem dX8_parts_33 : decode cX8_parts 33 = .ok (.iload_n 2, 1) := by decide +kernel
theorem dX8_parts_34 : decode cX8_parts 34 = .ok (.iconst (-1), 1) := by decide +kernel
theorem dX8_parts_35 : decode cX8_parts 35 = .ok (.if_icmp .ne 47, 3) := by decide +kernel
theorem dX8_parts_38 : decode cX8_parts 38 = .ok (.iconst 0, 1) := by decide +kernel
theorem dX8_parts_39 : decode cX8_parts 39 = .ok (.istore 5, 2) := by decide +kernel
theorem dX8_parts_41 : decode cX8_parts 41 = .ok (.iconst 0, 1) := by decide +kernel
theorem dX8_parts_42 : decode cX8_parts 42 = .ok (.istore 6, 2) := by decide +kernel
theorem dX8_parts_44 : decode cX8_parts 44 = .ok (.iload 6, 2) := by decide +kernel
theorem dX8_parts_46 : decode cX8_parts 46 = .ok (.aload_n 0, 1) := by decide +kernel
theorem dX8_parts_47 : decode cX8_parts 47 = .ok (.getfield 11, 3) := by decide +kernel
theorem dX8_parts_50 : decode cX8_parts 50 = .ok (.if_icmp .ge 32, 3) := by decide +kernel
theorem dX8_parts_53 : decode cX8_parts 53 = .ok (.iload 5, 2) := by decide +kernel
theorem dX8_parts_55 : decode cX8_parts 55 = .ok (.aload_n 0, 1) := by decide +kernel
theorem dX8_parts_56 : decode cX8_parts 56 = .ok (.getfield 14, 3) := by decide +kernel
theorem dX8_parts_59 : decode cX8_parts 59 = .ok (.iload 6, 2) := by decide +kernel
theorem dX8_parts_61 : decode cX8_parts 61 = .ok (.iaload, 1) := by decide +kernel
theorem dX8_parts_62 : decode cX8_parts 62 = .ok (.ifCond .ne 10, 3) := by decide +kernel
theorem dX8_parts_65 : decode cX8_parts 65 = .ok (.iconst 1, 1) := by decide +kernel
theorem dX8_parts_66 : decode cX8_parts 66 = .ok (.iload 6, 2) := by decide +kernel
theorem dX8_parts_68 : decode cX8_parts 68 = .ok (.ishl, 1) := by decide +kernel
theorem dX8_parts_69 : decode cX8_parts 69 = .ok (.goto 4, 3) := by decide +kernel
theorem dX8_parts_72 : decode cX8_parts 72 = .ok (.iconst 0, 1) := by decide +kernel
theorem dX8_parts_73 : decode cX8_parts 73 = .ok (.ior, 1) := by decide +kernel
theorem dX8_parts_74 : decode cX8_parts 74 = .ok (.istore 5, 2) := by decide +kernel
theorem dX8_parts_76 : decode cX8_parts 76 = .ok (.iinc 6 1, 3) := by decide +kernel
theorem dX8_parts_79 : decode cX8_parts 79 = .ok (.goto (-35), 3) := by decide +kernel
theorem dX8_parts_82 : decode cX8_parts 82 = .ok (.aload_n 0, 1) := by decide +kernel
theorem dX8_parts_83 : decode cX8_parts 83 = .ok (.iload_n 1, 1) := by decide +kernel
theorem dX8_parts_84 : decode cX8_parts 84 = .ok (.invokevirtual 63, 3) := by decide +kernel
theorem dX8_parts_87 : decode cX8_parts 87 = .ok (.aload_n 0, 1) := by decide +kernel
theorem dX8_parts_88 : decode cX8_parts 88 = .ok (.invokevirtual 119, 3) := by decide +kernel
theorem dX8_parts_91 : decode cX8_parts 91 = .ok (.ifCond .ne 6, 3) := by decide +kernel
theorem dX8_parts_94 : decode cX8_parts 94 = .ok (.bipush (-4), 2) := by decide +kernel
theorem dX8_parts_96 : decode cX8_parts 96 = .ok (.ireturn, 1) := by decide +kernel
theorem dX8_parts_97 : decode cX8_parts 97 = .ok (.aload_n 0, 1) := by decide +kernel
theorem dX8_parts_98 : decode cX8_parts 98 = .ok (.iconst 0, 1) := by decide +kernel
theorem dX8_parts_99 : decode cX8_parts 99 = .ok (.putfield 126, 3) := by decide +kernel
theorem dX8_parts_102 : decode cX8_parts 102 = .ok (.iconst 0, 1) := by decide +kernel
theorem dX8_parts_103 : decode cX8_parts 103 = .ok (.istore 6, 2) := by decide +kernel
theorem dX8_parts_105 : decode cX8_parts 105 = .ok (.iload 6, 2) := by decide +kernel
theorem dX8_parts_107 : decode cX8_parts 107 = .ok (.aload_n 0, 1) := by decide +kernel
theorem dX8_parts_108 : decode cX8_parts 108 = .ok (.getfield 11, 3) := by decide +kernel
theorem dX8_parts_111 : decode cX8_parts 111 = .ok (.if_icmp .ge 80, 3) := by decide +kernel
theorem dX8_parts_114 : decode cX8_parts 114 = .ok (.iload 5, 2) := by decide +kernel
theorem dX8_parts_116 : decode cX8_parts 116 = .ok (.iload 6, 2) := by decide +kernel
theorem dX8_parts_118 : decode cX8_parts 118 = .ok (.ishr, 1) := by decide +kernel
theorem dX8_parts_119 : decode cX8_parts 119 = .ok (.iconst 1, 1) := by decide +kernel
theorem dX8_parts_120 : decode cX8_parts 120 = .ok (.iand, 1) := by decide +kernel
theorem dX8_parts_121 : decode cX8_parts 121 = .ok (.iconst 1, 1) := by decide +kernel
theorem dX8_parts_122 : decode cX8_parts 122 = .ok (.if_icmp .ne 12, 3) := by decide +kernel
theorem dX8_parts_125 : decode cX8_parts 125 = .ok (.aload_n 0, 1) := by decide +kernel
theorem dX8_parts_126 : decode cX8_parts 126 = .ok (.iload 6, 2) := by decide +kernel
theorem dX8_parts_128 : decode cX8_parts 128 = .ok (.invokevirtual 113, 3) := by decide +kernel
theorem dX8_parts_131 : decode cX8_parts 131 = .ok (.goto 4, 3) := by decide +kernel
theorem dX8_parts_134 : decode cX8_parts 134 = .ok (.iconst (-1), 1) := by decide +kernel
theorem dX8_parts_135 : decode cX8_parts 135 = .ok (.istore 7, 2) := by decide +kernel
theorem dX8_parts_137 : decode cX8_parts 137 = .ok (.aload_n 0, 1) := by decide +kernel
theorem dX8_parts_138 : decode cX8_parts 138 = .ok (.getfield 81, 3) := by decide +kernel
theorem dX8_parts_141 : decode cX8_parts 141 = .ok (.ifCond .eq 6, 3) := by decide +kernel
theorem dX8_parts_144 : decode cX8_parts 144 = .ok (.bipush (-4), 2) := by decide +kernel
theorem dX8_parts_146 : decode cX8_parts 146 = .ok (.ireturn, 1) := by decide +kernel
theorem dX8_parts_147 : decode cX8_parts 147 = .ok (.iload 7, 2) := by decide +kernel
theorem dX8_parts_149 : decode cX8_parts 149 = .ok (.ifCond .lt 36, 3) := by decide +kernel
theorem dX8_parts_152 : decode cX8_parts 152 = .ok (.aload_n 0, 1) := by decide +kernel
theorem dX8_parts_153 : decode cX8_parts 153 = .ok (.iload 7, 2) := by decide +kernel
theorem dX8_parts_155 : decode cX8_parts 155 = .ok (.invokevirtual 107, 3) := by decide +kernel
theorem dX8_parts_158 : decode cX8_parts 158 = .ok (.aload_n 0, 1) := by decide +kernel
theorem dX8_parts_159 : decode cX8_parts 159 = .ok (.getfield 129, 3) := by decide +kernel
theorem dX8_parts_162 : decode cX8_parts 162 = .ok (.aload_n 0, 1) := by decide +kernel
theorem dX8_parts_163 : decode cX8_parts 163 = .ok (.getfield 126, 3) := by decide +kernel
theorem dX8_parts_166 : decode cX8_parts 166 = .ok (.iload 6, 2) := by decide +kernel
theorem dX8_parts_168 : decode cX8_parts 168 = .ok (.iastore, 1) := by decide +kernel
theorem dX8_parts_169 : decode cX8_parts 169 = .ok (.aload_n 0, 1) := by decide +kernel
theorem dX8_parts_170 : decode cX8_parts 170 = .ok (.dup, 1) := by decide +kernel
theorem dX8_parts_171 : decode cX8_parts 171 = .ok (.getfield 126, 3) := by decide +kernel
theorem dX8_parts_174 : decode cX8_parts 174 = .ok (.iconst 1, 1) := by decide +kernel
theorem dX8_parts_175 : decode cX8_parts 175 = .ok (.iadd, 1) := by decide +kernel
theorem dX8_parts_176 : decode cX8_parts 176 = .ok (.putfield 126, 3) := by decide +kernel
theorem dX8_parts_179 : decode cX8_parts 179 = .ok (.iconst 0, 1) := by decide +kernel
theorem dX8_parts_180 : decode cX8_parts 180 = .ok (.istore 6, 2) := by decide +kernel
theorem dX8_parts_182 : decode cX8_parts 182 = .ok (.goto 6, 3) := by decide +kernel
theorem dX8_parts_185 : decode cX8_parts 185 = .ok (.iinc 6 1, 3) := by decide +kernel
theorem dX8_parts_188 : decode cX8_parts 188 = .ok (.goto (-83), 3) := by decide +kernel
theorem dX8_parts_191 : decode cX8_parts 191 = .ok (.iconst 0, 1) := by decide +kernel
theorem dX8_parts_192 : decode cX8_parts 192 = .ok (.istore 7, 2) := by decide +kernel
theorem dX8_parts_194 : decode cX8_parts 194 = .ok (.iload 7, 2) := by decide +kernel
theorem dX8_parts_196 : decode cX8_parts 196 = .ok (.aload_n 0, 1) := by decide +kernel
theorem dX8_parts_197 : decode cX8_parts 197 = .ok (.getfield 126, 3) := by decide +kernel
theorem dX8_parts_200 : decode cX8_parts 200 = .ok (.if_icmp .ge 23, 3) := by decide +kernel
theorem dX8_parts_203 : decode cX8_parts 203 = .ok (.aload_n 0, 1) := by decide +kernel
theorem dX8_parts_204 : decode cX8_parts 204 = .ok (.getfield 60, 3) := by decide +kernel
theorem dX8_parts_207 : decode cX8_parts 207 = .ok (.iload 7, 2) := by decide +kernel
theorem dX8_parts_209 : decode cX8_parts 209 = .ok (.aload_n 0, 1) := by decide +kernel
theorem dX8_parts_210 : decode cX8_parts 210 = .ok (.getfield 129, 3) := by decide +kernel
theorem dX8_parts_213 : decode cX8_parts 213 = .ok (.iload 7, 2) := by decide +kernel
theorem dX8_parts_215 : decode cX8_parts 215 = .ok (.iaload, 1) := by decide +kernel
theorem dX8_parts_216 : decode cX8_parts 216 = .ok (.iastore, 1) := by decide +kernel
theorem dX8_parts_217 : decode cX8_parts 217 = .ok (.iinc 7 1, 3) := by decide +kernel
theorem dX8_parts_220 : decode cX8_parts 220 = .ok (.goto (-26), 3) := by decide +kernel
theorem dX8_parts_223 : decode cX8_parts 223 = .ok (.aload_n 0, 1) := by decide +kernel
theorem dX8_parts_224 : decode cX8_parts 224 = .ok (.aload_n 0, 1) := by decide +kernel
theorem dX8_parts_225 : decode cX8_parts 225 = .ok (.getfield 126, 3) := by decide +kernel
theorem dX8_parts_228 : decode cX8_parts 228 = .ok (.putfield 57, 3) := by decide +kernel
theorem dX8_parts_231 : decode cX8_parts 231 = .ok (.iconst 0, 1) := by decide +kernel
theorem dX8_parts_232 : decode cX8_parts 232 = .ok (.istore 7, 2) := by decide +kernel
theorem dX8_parts_234 : decode cX8_parts 234 = .ok (.iload 7, 2) := by decide +kernel
theorem dX8_parts_236 : decode cX8_parts 236 = .ok (.aload_n 0, 1) := by decide +kernel
theorem dX8_parts_237 : decode cX8_parts 237 = .ok (.getfield 92, 3) := by decide +kernel
theorem dX8_parts_240 : decode cX8_parts 240 = .ok (.if_icmp .ge 23, 3) := by decide +kernel
theorem dX8_parts_243 : decode cX8_parts 243 = .ok (.aload_n 0, 1) := by decide +kernel
theorem dX8_parts_244 : decode cX8_parts 244 = .ok (.getfield 129, 3) := by decide +kernel
theorem dX8_parts_247 : decode cX8_parts 247 = .ok (.iload 7, 2) := by decide +kernel
theorem dX8_parts_249 : decode cX8_parts 249 = .ok (.aload_n 0, 1) := by decide +kernel
theorem dX8_parts_250 : decode cX8_parts 250 = .ok (.getfield 95, 3) := by decide +kernel
theorem dX8_parts_253 : decode cX8_parts 253 = .ok (.iload 7, 2) := by decide +kernel
theorem dX8_parts_255 : decode cX8_parts 255 = .ok (.iaload, 1) := by decide +kernel
theorem dX8_parts_256 : decode cX8_parts 256 = .ok (.iastore, 1) := by decide +kernel
theorem dX8_parts_257 : decode cX8_parts 257 = .ok (.iinc 7 1, 3) := by decide +kernel
theorem dX8_parts_260 : decode cX8_parts 260 = .ok (.goto (-26), 3) := by decide +kernel
theorem dX8_parts_263 : decode cX8_parts 263 = .ok (.aload_n 0, 1) := by decide +kernel
theorem dX8_parts_264 : decode cX8_parts 264 = .ok (.aload_n 0, 1) := by decide +kernel
theorem dX8_parts_265 : decode cX8_parts 265 = .ok (.getfield 92, 3) := by decide +kernel
theorem dX8_parts_268 : decode cX8_parts 268 = .ok (.putfield 126, 3) := by decide +kernel
theorem dX8_parts_271 : decode cX8_parts 271 = .ok (.aload_n 0, 1) := by decide +kernel
theorem dX8_parts_272 : decode cX8_parts 272 = .ok (.invokevirtual 135, 3) := by decide +kernel
theorem dX8_parts_275 : decode cX8_parts 275 = .ok (.ifCond .ne 6, 3) := by decide +kernel
theorem dX8_parts_278 : decode cX8_parts 278 = .ok (.bipush (-4), 2) := by decide +kernel
theorem dX8_parts_280 : decode cX8_parts 280 = .ok (.ireturn, 1) := by decide +kernel
theorem dX8_parts_281 : decode cX8_parts 281 = .ok (.aload_n 0, 1) := by decide +kernel
theorem dX8_parts_282 : decode cX8_parts 282 = .ok (.getfield 57, 3) := by decide +kernel
theorem dX8_parts_285 : decode cX8_parts 285 = .ok (.istore 7, 2) := by decide +kernel
theorem dX8_parts_287 : decode cX8_parts 287 = .ok (.iconst 0, 1) := by decide +kernel
theorem dX8_parts_288 : decode cX8_parts 288 = .ok (.istore 8, 2) := by decide +kernel
theorem dX8_parts_290 : decode cX8_parts 290 = .ok (.iload 8, 2) := by decide +kernel
theorem dX8_parts_292 : decode cX8_parts 292 = .ok (.aload_n 0, 1) := by decide +kernel
theorem dX8_parts_293 : decode cX8_parts 293 = .ok (.getfield 57, 3) := by decide +kernel
theorem dX8_parts_296 : decode cX8_parts 296 = .ok (.if_icmp .ge 23, 3) := by decide +kernel
theorem dX8_parts_299 : decode cX8_parts 299 = .ok (.aload_n 0, 1) := by decide +kernel
theorem dX8_parts_300 : decode cX8_parts 300 = .ok (.getfield 223, 3) := by decide +kernel
theorem dX8_parts_303 : decode cX8_parts 303 = .ok (.iload 8, 2) := by decide +kernel
theorem dX8_parts_305 : decode cX8_parts 305 = .ok (.aload_n 0, 1) := by decide +kernel
theorem dX8_parts_306 : decode cX8_parts 306 = .ok (.getfield 60, 3) := by decide +kernel
theorem dX8_parts_309 : decode cX8_parts 309 = .ok (.iload 8, 2) := by decide +kernel
theorem dX8_parts_311 : decode cX8_parts 311 = .ok (.iaload, 1) := by decide +kernel
theorem dX8_parts_312 : decode cX8_parts 312 = .ok (.iastore, 1) := by decide +kernel
theorem dX8_parts_313 : decode cX8_parts 313 = .ok (.iinc 8 1, 3) := by decide +kernel
theorem dX8_parts_316 : decode cX8_parts 316 = .ok (.goto (-26), 3) := by decide +kernel
theorem dX8_parts_319 : decode cX8_parts 319 = .ok (.aload_n 0, 1) := by decide +kernel
theorem dX8_parts_320 : decode cX8_parts 320 = .ok (.aload_n 0, 1) := by decide +kernel
theorem dX8_parts_321 : decode cX8_parts 321 = .ok (.getfield 126, 3) := by decide +kernel
theorem dX8_parts_324 : decode cX8_parts 324 = .ok (.putfield 57, 3) := by decide +kernel
theorem dX8_parts_327 : decode cX8_parts 327 = .ok (.iconst 0, 1) := by decide +kernel
theorem dX8_parts_328 : decode cX8_parts 328 = .ok (.istore 8, 2) := by decide +kernel
theorem dX8_parts_330 : decode cX8_parts 330 = .ok (.iload 8, 2) := by decide +kernel
theorem dX8_parts_332 : decode cX8_parts 332 = .ok (.aload_n 0, 1) := by decide +kernel
theorem dX8_parts_333 : decode cX8_parts 333 = .ok (.getfield 126, 3) := by decide +kernel
theorem dX8_parts_336 : decode cX8_parts 336 = .ok (.if_icmp .ge 23, 3) := by decide +kernel
theorem dX8_parts_339 : decode cX8_parts 339 = .ok (.aload_n 0, 1) := by decide +kernel
theorem dX8_parts_340 : decode cX8_parts 340 = .ok (.getfield 60, 3) := by decide +kernel
theorem dX8_parts_343 : decode cX8_parts 343 = .ok (.iload 8, 2) := by decide +kernel
theorem dX8_parts_345 : decode cX8_parts 345 = .ok (.aload_n 0, 1) := by decide +kernel
theorem dX8_parts_346 : decode cX8_parts 346 = .ok (.getfield 129, 3) := by decide +kernel
theorem dX8_parts_349 : decode cX8_parts 349 = .ok (.iload 8, 2) := by decide +kernel
theorem dX8_parts_351 : decode cX8_parts 351 = .ok (.iaload, 1) := by decide +kernel
theorem dX8_parts_352 : decode cX8_parts 352 = .ok (.iastore, 1) := by decide +kernel
theorem dX8_parts_353 : decode cX8_parts 353 = .ok (.iinc 8 1, 3) := by decide +kernel
theorem dX8_parts_356 : decode cX8_parts 356 = .ok (.goto (-26), 3) := by decide +kernel
theorem dX8_parts_359 : decode cX8_parts 359 = .ok (.aload_n 0, 1) := by decide +kernel
theorem dX8_parts_360 : decode cX8_parts 360 = .ok (.invokevirtual 135, 3) := by decide +kernel
theorem dX8_parts_363 : decode cX8_parts 363 = .ok (.ifCond .ne 6, 3) := by decide +kernel
theorem dX8_parts_366 : decode cX8_parts 366 = .ok (.bipush (-4), 2) := by decide +kernel
theorem dX8_parts_368 : decode cX8_parts 368 = .ok (.ireturn, 1) := by decide +kernel
theorem dX8_parts_369 : decode cX8_parts 369 = .ok (.aload_n 0, 1) := by decide +kernel
theorem dX8_parts_370 : decode cX8_parts 370 = .ok (.iload 4, 2) := by decide +kernel
theorem dX8_parts_372 : decode cX8_parts 372 = .ok (.invokevirtual 70, 3) := by decide +kernel
theorem dX8_parts_375 : decode cX8_parts 375 = .ok (.istore 8, 2) := by decide +kernel
theorem dX8_parts_377 : decode cX8_parts 377 = .ok (.aload_n 0, 1) := by decide +kernel
theorem dX8_parts_378 : decode cX8_parts 378 = .ok (.iload 7, 2) := by decide +kernel
theorem dX8_parts_380 : decode cX8_parts 380 = .ok (.putfield 57, 3) := by decide +kernel
theorem dX8_parts_383 : decode cX8_parts 383 = .ok (.iconst 0, 1) := by decide +kernel
theorem dX8_parts_384 : decode cX8_parts 384 = .ok (.istore 9, 2) := by decide +kernel
theorem dX8_parts_386 : decode cX8_parts 386 = .ok (.iload 9, 2) := by decide +kernel
theorem dX8_parts_388 : decode cX8_parts 388 = .ok (.iload 7, 2) := by decide +kernel
theorem dX8_parts_390 : decode cX8_parts 390 = .ok (.if_icmp .ge 23, 3) := by decide +kernel
theorem dX8_parts_393 : decode cX8_parts 393 = .ok (.aload_n 0, 1) := by decide +kernel
theorem dX8_parts_394 : decode cX8_parts 394 = .ok (.getfield 60, 3) := by decide +kernel
theorem dX8_parts_397 : decode cX8_parts 397 = .ok (.iload 9, 2) := by decide +kernel
theorem dX8_parts_399 : decode cX8_parts 399 = .ok (.aload_n 0, 1) := by decide +kernel
theorem dX8_parts_400 : decode cX8_parts 400 = .ok (.getfield 223, 3) := by decide +kernel
theorem dX8_parts_403 : decode cX8_parts 403 = .ok (.iload 9, 2) := by decide +kernel
theorem dX8_parts_405 : decode cX8_parts 405 = .ok (.iaload, 1) := by decide +kernel
theorem dX8_parts_406 : decode cX8_parts 406 = .ok (.iastore, 1) := by decide +kernel
theorem dX8_parts_407 : decode cX8_parts 407 = .ok (.iinc 9 1, 3) := by decide +kernel
theorem dX8_parts_410 : decode cX8_parts 410 = .ok (.goto (-24), 3) := by decide +kernel
theorem dX8_parts_413 : decode cX8_parts 413 = .ok (.aload_n 0, 1) := by decide +kernel
theorem dX8_parts_414 : decode cX8_parts 414 = .ok (.iload_n 3, 1) := by decide +kernel
theorem dX8_parts_415 : decode cX8_parts 415 = .ok (.invokevirtual 70, 3) := by decide +kernel
theorem dX8_parts_418 : decode cX8_parts 418 = .ok (.ireturn, 1) := by decide +kernel
set_option maxRecDepth 20000 in
theorem ggX8_findWay_X8_loadBack : GoodIn wsX8_findWay wsX8_loadBack := goodIn_r _ [6, 7, 1, 8, 9, 63, 64, 65, 66, 67, 68, 69, 70, 71, 72, 73, 74, 75, 76, 77, 78, 79, 80, 81, 82, 83, 84, 85, 86, 87, 88, 89, 90, 91, 92, 93, 94, 95] rfl (by decide +kernel)
set_option maxRecDepth 20000 in
theorem gX8_findWay_X8_loadBack : GoodIn wsX8_findWay (wsV RX8 74 RX8 yX8_loadBack wsX8_loadBack) := goodIn_app (goodIn_of _ (by decide +kernel)) ggX8_findWay_X8_loadBack
set_option maxRecDepth 20000 in
theorem ggX8_findWay_X8_loadMore : GoodIn wsX8_findWay wsX8_loadMore := goodIn_r _ [13, 1, 8, 7, 9, 63, 64, 65, 66, 67, 68, 69, 70, 71, 72, 73, 74, 75, 76, 77, 78, 79, 80, 81, 82, 83, 84, 85, 86, 87, 88, 89, 90, 91, 92, 93, 94, 95] rfl (by decide +kernel)
set_option maxRecDepth 20000 in
theorem gX8_findWay_X8_loadMore : GoodIn wsX8_findWay (wsV RX8 67 RX8 yX8_loadMore wsX8_loadMore) := goodIn_app (goodIn_of _ (by decide +kernel)) ggX8_findWay_X8_loadMore
set_option maxRecDepth 20000 in
theorem ggX8_findWay_X8_formOfW : GoodIn wsX8_findWay wsX8_formOfW := goodIn_r _ [17, 18, 7, 8, 19, 20, 21, 22, 5, 23, 24, 25, 26, 27, 28, 29, 30, 31, 32, 33, 34, 35, 36, 37, 38, 39, 40, 41, 42, 43, 44, 45, 46, 47, 48, 49, 50, 51, 52, 53, 54, 55, 56, 57, 58, 59, 60, 61, 62, 63, 64, 65, 66, 67, 68, 69, 70, 71, 72, 73, 74, 75, 76, 77, 78, 79, 80, 81, 82, 83, 84, 85, 86, 87, 88, 89, 90, 91, 92, 93, 94, 95] rfl (by decide +kernel)
set_option maxRecDepth 20000 in
theorem gX8_findWay_X8_formOfW : GoodIn wsX8_findWay (wsV RX8 135 RX8 yX8_formOfW wsX8_formOfW) := goodIn_app (goodIn_of _ (by decide +kernel)) ggX8_findWay_X8_formOfW
theorem dX8_findWay_0 : decode cX8_findWay 0 = .ok (.aload_n 0, 1) := by decide +kernel
theorem dX8_findWay_1 : decode cX8_findWay 1 = .ok (.getfield 43, 3) := by decide +kernel
theorem dX8_findWay_4 : decode cX8_findWay 4 = .ok (.iload_n 1, 1) := by decide +kernel
theorem dX8_findWay_5 : decode cX8_findWay 5 = .ok (.iaload, 1) := by decide +kernel
theorem dX8_findWay_6 : decode cX8_findWay 6 = .ok (.aload_n 0, 1) := by decide +kernel
theorem dX8_findWay_7 : decode cX8_findWay 7 = .ok (.getfield 43, 3) := by decide +kernel
theorem dX8_findWay_10 : decode cX8_findWay 10 = .ok (.iload_n 2, 1) := by decide +kernel
theorem dX8_findWay_11 : decode cX8_findWay 11 = .ok (.iaload, 1) := by decide +kernel
theorem dX8_findWay_12 : decode cX8_findWay 12 = .ok (.iadd, 1) := by decide +kernel
theorem dX8_findWay_13 : decode cX8_findWay 13 = .ok (.bipush 100, 2) := by decide +kernel
theorem dX8_findWay_15 : decode cX8_findWay 15 = .ok (.if_icmp .le 6, 3) := by decide +kernel
theorem dX8_findWay_18 : decode cX8_findWay 18 = .ok (.bipush (-3), 2) := by decide +kernel
theorem dX8_findWay_20 : decode cX8_findWay 20 = .ok (.ireturn, 1) := by decide +kernel
theorem dX8_findWay_21 : decode cX8_findWay 21 = .ok (.aload_n 0, 1) := by decide +kernel
theorem dX8_findWay_22 : decode cX8_findWay 22 = .ok (.iload_n 1, 1) := by decide +kernel
theorem dX8_findWay_23 : decode cX8_findWay 23 = .ok (.invokevirtual 74, 3) := by decide +kernel
theorem dX8_findWay_26 : decode cX8_findWay 26 = .ok (.aload_n 0, 1) := by decide +kernel
theorem dX8_findWay_27 : decode cX8_findWay 27 = .ok (.iload_n 2, 1) := by decide +kernel
theorem dX8_findWay_28 : decode cX8_findWay 28 = .ok (.invokevirtual 67, 3) := by decide +kernel
theorem dX8_findWay_31 : decode cX8_findWay 31 = .ok (.aload_n 0, 1) := by decide +kernel
theorem dX8_findWay_32 : decode cX8_findWay 32 = .ok (.invokevirtual 135, 3) := by decide +kernel
theorem dX8_findWay_35 : decode cX8_findWay 35 = .ok (.ifCond .eq 7, 3) := by decide +kernel
theorem dX8_findWay_38 : decode cX8_findWay 38 = .ok (.iconst 0, 1) := by decide +kernel
theorem dX8_findWay_39 : decode cX8_findWay 39 = .ok (.goto 5, 3) := by decide +kernel
theorem dX8_findWay_42 : decode cX8_findWay 42 = .ok (.bipush (-4), 2) := by decide +kernel
theorem dX8_findWay_44 : decode cX8_findWay 44 = .ok (.ireturn, 1) := by decide +kernel
set_option maxRecDepth 20000 in
theorem ggX8_way_X8_isSlot : GoodIn wsX8_way wsX8_isSlot := goodIn_r _ [4, 5, 6, 7, 3, 8] rfl (by decide +kernel)
set_option maxRecDepth 20000 in
theorem gX8_way_X8_isSlot : GoodIn wsX8_way (va_wsS RX8 48 yX8_isSlot wsX8_isSlot) := goodIn_app (goodIn_of _ (by decide +kernel)) ggX8_way_X8_isSlot
set_option maxRecDepth 20000 in
theorem ggX8_way_X8_findWay : GoodIn wsX8_way wsX8_findWay := goodIn_r _ [12, 13, 14, 15, 16, 3, 17, 18, 19, 20, 21, 22, 23, 24, 25, 26, 27, 28, 29, 30, 31, 32, 33, 34, 35, 36, 37, 38, 39, 40, 41, 42, 43, 44, 45, 46, 47, 48, 49, 50, 51, 52, 53, 54, 55, 56, 57, 58, 6, 7, 8, 59, 60, 61, 62, 63, 64, 65, 66, 67, 68, 69, 70, 75, 76, 77, 78, 79, 80, 81, 82, 83, 84, 85, 86, 87, 88, 89, 90, 91, 92, 93, 94, 95, 96, 97, 98, 99, 100, 101, 102, 103, 104, 105, 106, 107] rfl (by decide +kernel)
set_option maxRecDepth 20000 in
theorem gX8_way_X8_findWay : GoodIn wsX8_way (wsV RX8 226 RX8 yX8_findWay wsX8_findWay) := goodIn_app (goodIn_of _ (by decide +kernel)) ggX8_way_X8_findWay
set_option maxRecDepth 20000 in
theorem ggX8_way_X8_store : GoodIn wsX8_way wsX8_store := goodIn_r _ [74, 13, 18, 20, 19, 75, 76, 77, 78, 79, 80, 81, 82, 83, 84, 85, 86, 87, 88, 89, 90, 91, 92, 93, 94, 95, 96, 97, 98, 99, 100, 101, 102, 103, 104, 105, 106, 107] rfl (by decide +kernel)
set_option maxRecDepth 20000 in
theorem gX8_way_X8_store : GoodIn wsX8_way (wsV RX8 70 RX8 yX8_store wsX8_store) := goodIn_app (goodIn_of _ (by decide +kernel)) ggX8_way_X8_store
theorem dX8_way_0 : decode cX8_way 0 = .ok (.iload_n 1, 1) := by decide +kernel
theorem dX8_way_1 : decode cX8_way 1 = .ok (.invokestatic 48, 3) := by decide +kernel
theorem dX8_way_4 : decode cX8_way 4 = .ok (.ifCond .eq 17, 3) := by decide +kernel
theorem dX8_way_7 : decode cX8_way 7 = .ok (.iload_n 2, 1) := by decide +kernel
theorem dX8_way_8 : decode cX8_way 8 = .ok (.invokestatic 48, 3) := by decide +kernel
theorem dX8_way_11 : decode cX8_way 11 = .ok (.ifCond .eq 10, 3) := by decide +kernel
theorem dX8_way_14 : decode cX8_way 14 = .ok (.iload_n 3, 1) := by decide +kernel
theorem dX8_way_15 : decode cX8_way 15 = .ok (.invokestatic 48, 3) := by decide +kernel
theorem dX8_way_18 : decode cX8_way 18 = .ok (.ifCond .ne 5, 3) := by decide +kernel
theorem dX8_way_21 : decode cX8_way 21 = .ok (.iconst (-1), 1) := by decide +kernel
theorem dX8_way_22 : decode cX8_way 22 = .ok (.ireturn, 1) := by decide +kernel
theorem dX8_way_23 : decode cX8_way 23 = .ok (.aload_n 0, 1) := by decide +kernel
theorem dX8_way_24 : decode cX8_way 24 = .ok (.iload_n 1, 1) := by decide +kernel
theorem dX8_way_25 : decode cX8_way 25 = .ok (.iload_n 2, 1) := by decide +kernel
theorem dX8_way_26 : decode cX8_way 26 = .ok (.invokevirtual 226, 3) := by decide +kernel
theorem dX8_way_29 : decode cX8_way 29 = .ok (.istore 4, 2) := by decide +kernel
theorem dX8_way_31 : decode cX8_way 31 = .ok (.iload 4, 2) := by decide +kernel
theorem dX8_way_33 : decode cX8_way 33 = .ok (.ifCond .ge 8, 3) := by decide +kernel
theorem dX8_way_36 : decode cX8_way 36 = .ok (.iload 4, 2) := by decide +kernel
theorem dX8_way_38 : decode cX8_way 38 = .ok (.goto 8, 3) := by decide +kernel
theorem dX8_way_41 : decode cX8_way 41 = .ok (.aload_n 0, 1) := by decide +kernel
theorem dX8_way_42 : decode cX8_way 42 = .ok (.iload_n 3, 1) := by decide +kernel
theorem dX8_way_43 : decode cX8_way 43 = .ok (.invokevirtual 70, 3) := by decide +kernel
theorem dX8_way_46 : decode cX8_way 46 = .ok (.ireturn, 1) := by decide +kernel
set_option maxRecDepth 20000 in
theorem ggX8_wall_X8_isSlot : GoodIn wsX8_wall wsX8_isSlot := goodIn_r _ [11, 12, 13, 14, 10, 15] rfl (by decide +kernel)
set_option maxRecDepth 20000 in
theorem gX8_wall_X8_isSlot : GoodIn wsX8_wall (va_wsS RX8 48 yX8_isSlot wsX8_isSlot) := goodIn_app (goodIn_of _ (by decide +kernel)) ggX8_wall_X8_isSlot
set_option maxRecDepth 20000 in
theorem ggX8_wall_X8_isMirror : GoodIn wsX8_wall wsX8_isMirror := goodIn_r _ [19, 20, 13, 14, 10, 15, 90, 91, 92, 93, 94, 95, 96, 97, 98, 99, 100, 101, 102, 103, 104, 105, 106, 107, 108, 109, 110, 111, 112, 113, 114, 115, 116, 117, 118, 119, 120, 121, 122] rfl (by decide +kernel)
set_option maxRecDepth 20000 in
theorem gX8_wall_X8_isMirror : GoodIn wsX8_wall (wsV RX8 33 RX8 yX8_isMirror wsX8_isMirror) := goodIn_app (goodIn_of _ (by decide +kernel)) ggX8_wall_X8_isMirror
set_option maxRecDepth 20000 in
theorem ggX8_wall_X8_findWay : GoodIn wsX8_wall wsX8_findWay := goodIn_r _ [24, 25, 26, 27, 28, 10, 29, 3, 5, 30, 31, 32, 33, 34, 35, 36, 37, 38, 39, 40, 41, 42, 43, 44, 6, 45, 46, 47, 48, 49, 50, 51, 52, 53, 54, 7, 55, 56, 57, 58, 20, 59, 60, 61, 62, 63, 64, 65, 13, 14, 15, 66, 67, 68, 69, 70, 71, 72, 73, 74, 75, 76, 77, 90, 91, 92, 93, 94, 95, 96, 97, 98, 99, 100, 101, 102, 103, 104, 105, 106, 107, 108, 109, 110, 111, 112, 113, 114, 115, 116, 117, 118, 119, 120, 121, 122] rfl (by decide +kernel)
set_option maxRecDepth 20000 in
theorem gX8_wall_X8_findWay : GoodIn wsX8_wall (wsV RX8 226 RX8 yX8_findWay wsX8_findWay) := goodIn_app (goodIn_of _ (by decide +kernel)) ggX8_wall_X8_findWay
set_option maxRecDepth 20000 in
theorem ggX8_wall_X8_in : GoodIn wsX8_wall wsX8_in := goodIn_r _ [15] rfl (by decide +kernel)
set_option maxRecDepth 20000 in
theorem gX8_wall_X8_in : GoodIn wsX8_wall (va_wsS RX8 24 yX8_in wsX8_in) := goodIn_app (goodIn_of _ (by decide +kernel)) ggX8_wall_X8_in
set_option maxRecDepth 20000 in
theorem ggX8_wall_X8_load : GoodIn wsX8_wall wsX8_load := goodIn_r _ [81, 25, 3, 5, 30, 90, 91, 92, 93, 94, 95, 96, 97, 98, 99, 100, 101, 102, 103, 104, 105, 106, 107, 108, 109, 110, 111, 112, 113, 114, 115, 116, 117, 118, 119, 120, 121, 122] rfl (by decide +kernel)
set_option maxRecDepth 20000 in
theorem gX8_wall_X8_load : GoodIn wsX8_wall (wsV RX8 63 RX8 yX8_load wsX8_load) := goodIn_app (goodIn_of _ (by decide +kernel)) ggX8_wall_X8_load
set_option maxRecDepth 20000 in
theorem ggX8_wall_X8_own : GoodIn wsX8_wall wsX8_own := goodIn_r _ [54, 7, 90, 91, 92, 93, 94, 95, 96, 97, 98, 99, 100, 101, 102, 103, 104, 105, 106, 107, 108, 109, 110, 111, 112, 113, 114, 115, 116, 117, 118, 119, 120, 121, 122] rfl (by decide +kernel)
set_option maxRecDepth 20000 in
theorem gX8_wall_X8_own : GoodIn wsX8_wall (wsV RX8 89 RX8 yX8_own wsX8_own) := goodIn_app (goodIn_of _ (by decide +kernel)) ggX8_wall_X8_own
set_option maxRecDepth 20000 in
theorem ggX8_wall_X8_doneBy : GoodIn wsX8_wall wsX8_doneBy := goodIn_r _ [85, 3, 5, 6, 59, 60, 61, 10, 62, 7, 20, 63, 64, 65, 13, 14, 15, 90, 91, 92, 93, 94, 95, 96, 97, 98, 99, 100, 101, 102, 103, 104, 105, 106, 107, 108, 109, 110, 111, 112, 113, 114, 115, 116, 117, 118, 119, 120, 121, 122] rfl (by decide +kernel)
set_option maxRecDepth 20000 in
theorem gX8_wall_X8_doneBy : GoodIn wsX8_wall (wsV RX8 143 RX8 yX8_doneBy wsX8_doneBy) := goodIn_app (goodIn_of _ (by decide +kernel)) ggX8_wall_X8_doneBy
set_option maxRecDepth 20000 in
theorem ggX8_wall_X8_isAbove : GoodIn wsX8_wall wsX8_isAbove := goodIn_r _ [89, 20, 7, 90, 91, 92, 93, 94, 95, 96, 97, 98, 99, 100, 101, 102, 103, 104, 105, 106, 107, 108, 109, 110, 111, 112, 113, 114, 115, 116, 117, 118, 119, 120, 121, 122] rfl (by decide +kernel)
set_option maxRecDepth 20000 in
theorem gX8_wall_X8_isAbove : GoodIn wsX8_wall (wsV RX8 171 RX8 yX8_isAbove wsX8_isAbove) := goodIn_app (goodIn_of _ (by decide +kernel)) ggX8_wall_X8_isAbove
theorem dX8_wall_0 : decode cX8_wall 0 = .ok (.iload_n 1, 1) := by decide +kernel
theorem dX8_wall_1 : decode cX8_wall 1 = .ok (.invokestatic 48, 3) := by decide +kernel
theorem dX8_wall_4 : decode cX8_wall 4 = .ok (.ifCond .eq 20, 3) := by decide +kernel
theorem dX8_wall_7 : decode cX8_wall 7 = .ok (.iload_n 2, 1) := by decide +kernel
theorem dX8_wall_8 : decode cX8_wall 8 = .ok (.invokestatic 48, 3) := by decide +kernel
theorem dX8_wall_11 : decode cX8_wall 11 = .ok (.ifCond .eq 13, 3) := by decide +kernel
theorem dX8_wall_14 : decode cX8_wall 14 = .ok (.aload_n 0, 1) := by decide +kernel
theorem dX8_wall_15 : decode cX8_wall 15 = .ok (.iload 4, 2) := by decide +kernel
theorem dX8_wall_17 : decode cX8_wall 17 = .ok (.i2l, 1) := by decide +kernel
theorem dX8_wall_18 : decode cX8_wall 18 = .ok (.invokevirtual 33, 3) := by decide +kernel
theorem dX8_wall_21 : decode cX8_wall 21 = .ok (.ifCond .ne 7, 3) := by decide +kernel
theorem dX8_wall_24 : decode cX8_wall 24 = .ok (.ldc2_w 141, 3) := by decide +kernel
theorem dX8_wall_27 : decode cX8_wall 27 = .ok (.lreturn, 1) := by decide +kernel
theorem dX8_wall_28 : decode cX8_wall 28 = .ok (.aload_n 0, 1) := by decide +kernel
theorem dX8_wall_29 : decode cX8_wall 29 = .ok (.iload_n 1, 1) := by decide +kernel
theorem dX8_wall_30 : decode cX8_wall 30 = .ok (.iload_n 2, 1) := by decide +kernel
theorem dX8_wall_31 : decode cX8_wall 31 = .ok (.invokevirtual 226, 3) := by decide +kernel
theorem dX8_wall_34 : decode cX8_wall 34 = .ok (.istore 5, 2) := by decide +kernel
theorem dX8_wall_36 : decode cX8_wall 36 = .ok (.iload 5, 2) := by decide +kernel
theorem dX8_wall_38 : decode cX8_wall 38 = .ok (.bipush (-4), 2) := by decide +kernel
theorem dX8_wall_40 : decode cX8_wall 40 = .ok (.if_icmp .ne 7, 3) := by decide +kernel
theorem dX8_wall_43 : decode cX8_wall 43 = .ok (.ldc2_w 146, 3) := by decide +kernel
theorem dX8_wall_46 : decode cX8_wall 46 = .ok (.lreturn, 1) := by decide +kernel
theorem dX8_wall_47 : decode cX8_wall 47 = .ok (.iload 5, 2) := by decide +kernel
theorem dX8_wall_49 : decode cX8_wall 49 = .ok (.bipush (-3), 2) := by decide +kernel
theorem dX8_wall_51 : decode cX8_wall 51 = .ok (.if_icmp .eq 19, 3) := by decide +kernel
theorem dX8_wall_54 : decode cX8_wall 54 = .ok (.iload_n 3, 1) := by decide +kernel
theorem dX8_wall_55 : decode cX8_wall 55 = .ok (.i2l, 1) := by decide +kernel
theorem dX8_wall_56 : decode cX8_wall 56 = .ok (.lconst 0, 1) := by decide +kernel
theorem dX8_wall_57 : decode cX8_wall 57 = .ok (.aload_n 0, 1) := by decide +kernel
theorem dX8_wall_58 : decode cX8_wall 58 = .ok (.getfield 57, 3) := by decide +kernel
theorem dX8_wall_61 : decode cX8_wall 61 = .ok (.iconst 1, 1) := by decide +kernel
theorem dX8_wall_62 : decode cX8_wall 62 = .ok (.isub, 1) := by decide +kernel
theorem dX8_wall_63 : decode cX8_wall 63 = .ok (.i2l, 1) := by decide +kernel
theorem dX8_wall_64 : decode cX8_wall 64 = .ok (.invokestatic 24, 3) := by decide +kernel
theorem dX8_wall_67 : decode cX8_wall 67 = .ok (.ifCond .ne 7, 3) := by decide +kernel
theorem dX8_wall_70 : decode cX8_wall 70 = .ok (.ldc2_w 141, 3) := by decide +kernel
theorem dX8_wall_73 : decode cX8_wall 73 = .ok (.lreturn, 1) := by decide +kernel
theorem dX8_wall_74 : decode cX8_wall 74 = .ok (.iconst 0, 1) := by decide +kernel
theorem dX8_wall_75 : decode cX8_wall 75 = .ok (.istore 6, 2) := by decide +kernel
theorem dX8_wall_77 : decode cX8_wall 77 = .ok (.iload 6, 2) := by decide +kernel
theorem dX8_wall_79 : decode cX8_wall 79 = .ok (.iload_n 3, 1) := by decide +kernel
theorem dX8_wall_80 : decode cX8_wall 80 = .ok (.if_icmp .ge 23, 3) := by decide +kernel
theorem dX8_wall_83 : decode cX8_wall 83 = .ok (.aload_n 0, 1) := by decide +kernel
theorem dX8_wall_84 : decode cX8_wall 84 = .ok (.getfield 129, 3) := by decide +kernel
theorem dX8_wall_87 : decode cX8_wall 87 = .ok (.iload 6, 2) := by decide +kernel
theorem dX8_wall_89 : decode cX8_wall 89 = .ok (.aload_n 0, 1) := by decide +kernel
theorem dX8_wall_90 : decode cX8_wall 90 = .ok (.getfield 60, 3) := by decide +kernel
theorem dX8_wall_93 : decode cX8_wall 93 = .ok (.iload 6, 2) := by decide +kernel
theorem dX8_wall_95 : decode cX8_wall 95 = .ok (.iaload, 1) := by decide +kernel
theorem dX8_wall_96 : decode cX8_wall 96 = .ok (.iastore, 1) := by decide +kernel
theorem dX8_wall_97 : decode cX8_wall 97 = .ok (.iinc 6 1, 3) := by decide +kernel
theorem dX8_wall_100 : decode cX8_wall 100 = .ok (.goto (-23), 3) := by decide +kernel
theorem dX8_wall_103 : decode cX8_wall 103 = .ok (.aload_n 0, 1) := by decide +kernel
theorem dX8_wall_104 : decode cX8_wall 104 = .ok (.getfield 60, 3) := by decide +kernel
theorem dX8_wall_107 : decode cX8_wall 107 = .ok (.iload_n 3, 1) := by decide +kernel
theorem dX8_wall_108 : decode cX8_wall 108 = .ok (.iaload, 1) := by decide +kernel
theorem dX8_wall_109 : decode cX8_wall 109 = .ok (.istore 6, 2) := by decide +kernel
theorem dX8_wall_111 : decode cX8_wall 111 = .ok (.aload_n 0, 1) := by decide +kernel
theorem dX8_wall_112 : decode cX8_wall 112 = .ok (.iload_n 1, 1) := by decide +kernel
theorem dX8_wall_113 : decode cX8_wall 113 = .ok (.invokevirtual 63, 3) := by decide +kernel
theorem dX8_wall_116 : decode cX8_wall 116 = .ok (.iconst 0, 1) := by decide +kernel
theorem dX8_wall_117 : decode cX8_wall 117 = .ok (.istore 7, 2) := by decide +kernel
theorem dX8_wall_119 : decode cX8_wall 119 = .ok (.iload 7, 2) := by decide +kernel
theorem dX8_wall_121 : decode cX8_wall 121 = .ok (.iload_n 3, 1) := by decide +kernel
theorem dX8_wall_122 : decode cX8_wall 122 = .ok (.if_icmp .ge 35, 3) := by decide +kernel
theorem dX8_wall_125 : decode cX8_wall 125 = .ok (.aload_n 0, 1) := by decide +kernel
theorem dX8_wall_126 : decode cX8_wall 126 = .ok (.getfield 60, 3) := by decide +kernel
theorem dX8_wall_129 : decode cX8_wall 129 = .ok (.aload_n 0, 1) := by decide +kernel
theorem dX8_wall_130 : decode cX8_wall 130 = .ok (.getfield 57, 3) := by decide +kernel
theorem dX8_wall_133 : decode cX8_wall 133 = .ok (.aload_n 0, 1) := by decide +kernel
theorem dX8_wall_134 : decode cX8_wall 134 = .ok (.getfield 129, 3) := by decide +kernel
theorem dX8_wall_137 : decode cX8_wall 137 = .ok (.iload 7, 2) := by decide +kernel
theorem dX8_wall_139 : decode cX8_wall 139 = .ok (.iaload, 1) := by decide +kernel
theorem dX8_wall_140 : decode cX8_wall 140 = .ok (.iastore, 1) := by decide +kernel
theorem dX8_wall_141 : decode cX8_wall 141 = .ok (.aload_n 0, 1) := by decide +kernel
theorem dX8_wall_142 : decode cX8_wall 142 = .ok (.dup, 1) := by decide +kernel
theorem dX8_wall_143 : decode cX8_wall 143 = .ok (.getfield 57, 3) := by decide +kernel
theorem dX8_wall_146 : decode cX8_wall 146 = .ok (.iconst 1, 1) := by decide +kernel
theorem dX8_wall_147 : decode cX8_wall 147 = .ok (.iadd, 1) := by decide +kernel
theorem dX8_wall_148 : decode cX8_wall 148 = .ok (.putfield 57, 3) := by decide +kernel
theorem dX8_wall_151 : decode cX8_wall 151 = .ok (.iinc 7 1, 3) := by decide +kernel
theorem dX8_wall_154 : decode cX8_wall 154 = .ok (.goto (-35), 3) := by decide +kernel
theorem dX8_wall_157 : decode cX8_wall 157 = .ok (.aload_n 0, 1) := by decide +kernel
theorem dX8_wall_158 : decode cX8_wall 158 = .ok (.iconst 0, 1) := by decide +kernel
theorem dX8_wall_159 : decode cX8_wall 159 = .ok (.putfield 81, 3) := by decide +kernel
theorem dX8_wall_162 : decode cX8_wall 162 = .ok (.aload_n 0, 1) := by decide +kernel
theorem dX8_wall_163 : decode cX8_wall 163 = .ok (.iload 6, 2) := by decide +kernel
theorem dX8_wall_165 : decode cX8_wall 165 = .ok (.invokevirtual 89, 3) := by decide +kernel
theorem dX8_wall_168 : decode cX8_wall 168 = .ok (.aload_n 0, 1) := by decide +kernel
theorem dX8_wall_169 : decode cX8_wall 169 = .ok (.invokevirtual 143, 3) := by decide +kernel
theorem dX8_wall_172 : decode cX8_wall 172 = .ok (.ifCond .ne 7, 3) := by decide +kernel
theorem dX8_wall_175 : decode cX8_wall 175 = .ok (.ldc2_w 146, 3) := by decide +kernel
theorem dX8_wall_178 : decode cX8_wall 178 = .ok (.lreturn, 1) := by decide +kernel
theorem dX8_wall_179 : decode cX8_wall 179 = .ok (.aload_n 0, 1) := by decide +kernel
theorem dX8_wall_180 : decode cX8_wall 180 = .ok (.invokevirtual 171, 3) := by decide +kernel
theorem dX8_wall_183 : decode cX8_wall 183 = .ok (.ifCond .eq 13, 3) := by decide +kernel
theorem dX8_wall_186 : decode cX8_wall 186 = .ok (.aload_n 0, 1) := by decide +kernel
theorem dX8_wall_187 : decode cX8_wall 187 = .ok (.getfield 77, 3) := by decide +kernel
theorem dX8_wall_190 : decode cX8_wall 190 = .ok (.iload 4, 2) := by decide +kernel
theorem dX8_wall_192 : decode cX8_wall 192 = .ok (.laload, 1) := by decide +kernel
theorem dX8_wall_193 : decode cX8_wall 193 = .ok (.goto 12, 3) := by decide +kernel
theorem dX8_wall_196 : decode cX8_wall 196 = .ok (.lconst 0, 1) := by decide +kernel
theorem dX8_wall_197 : decode cX8_wall 197 = .ok (.aload_n 0, 1) := by decide +kernel
theorem dX8_wall_198 : decode cX8_wall 198 = .ok (.getfield 77, 3) := by decide +kernel
theorem dX8_wall_201 : decode cX8_wall 201 = .ok (.iload 4, 2) := by decide +kernel
theorem dX8_wall_203 : decode cX8_wall 203 = .ok (.laload, 1) := by decide +kernel
theorem dX8_wall_204 : decode cX8_wall 204 = .ok (.lsub, 1) := by decide +kernel
theorem dX8_wall_205 : decode cX8_wall 205 = .ok (.lreturn, 1) := by decide +kernel
theorem dX8_init_0 : decode cX8_init 0 = .ok (.aload_n 0, 1) := by decide +kernel
theorem dX8_init_1 : decode cX8_init 1 = .ok (.invokespecial 229, 3) := by decide +kernel
theorem dX8_init_4 : decode cX8_init 4 = .ok (.aload_n 0, 1) := by decide +kernel
theorem dX8_init_5 : decode cX8_init 5 = .ok (.bipush 6, 2) := by decide +kernel
theorem dX8_init_7 : decode cX8_init 7 = .ok (.newarray .int, 2) := by decide +kernel
theorem dX8_init_9 : decode cX8_init 9 = .ok (.putfield 14, 3) := by decide +kernel
theorem dX8_init_12 : decode cX8_init 12 = .ok (.aload_n 0, 1) := by decide +kernel
theorem dX8_init_13 : decode cX8_init 13 = .ok (.bipush 36, 2) := by decide +kernel
theorem dX8_init_15 : decode cX8_init 15 = .ok (.newarray .int, 2) := by decide +kernel
theorem dX8_init_17 : decode cX8_init 17 = .ok (.putfield 17, 3) := by decide +kernel
theorem dX8_init_20 : decode cX8_init 20 = .ok (.aload_n 0, 1) := by decide +kernel
theorem dX8_init_21 : decode cX8_init 21 = .ok (.sipush 688, 3) := by decide +kernel
theorem dX8_init_24 : decode cX8_init 24 = .ok (.newarray .int, 2) := by decide +kernel
theorem dX8_init_26 : decode cX8_init 26 = .ok (.putfield 7, 3) := by decide +kernel
theorem dX8_init_29 : decode cX8_init 29 = .ok (.aload_n 0, 1) := by decide +kernel
theorem dX8_init_30 : decode cX8_init 30 = .ok (.sipush 800, 3) := by decide +kernel
theorem dX8_init_33 : decode cX8_init 33 = .ok (.newarray .int, 2) := by decide +kernel
theorem dX8_init_35 : decode cX8_init 35 = .ok (.putfield 52, 3) := by decide +kernel
theorem dX8_init_38 : decode cX8_init 38 = .ok (.aload_n 0, 1) := by decide +kernel
theorem dX8_init_39 : decode cX8_init 39 = .ok (.bipush 8, 2) := by decide +kernel
theorem dX8_init_41 : decode cX8_init 41 = .ok (.newarray .int, 2) := by decide +kernel
theorem dX8_init_43 : decode cX8_init 43 = .ok (.putfield 43, 3) := by decide +kernel
theorem dX8_init_46 : decode cX8_init 46 = .ok (.aload_n 0, 1) := by decide +kernel
theorem dX8_init_47 : decode cX8_init 47 = .ok (.sipush 200, 3) := by decide +kernel
theorem dX8_init_50 : decode cX8_init 50 = .ok (.newarray .int, 2) := by decide +kernel
theorem dX8_init_52 : decode cX8_init 52 = .ok (.putfield 95, 3) := by decide +kernel
theorem dX8_init_55 : decode cX8_init 55 = .ok (.aload_n 0, 1) := by decide +kernel
theorem dX8_init_56 : decode cX8_init 56 = .ok (.sipush 200, 3) := by decide +kernel
theorem dX8_init_59 : decode cX8_init 59 = .ok (.newarray .int, 2) := by decide +kernel
theorem dX8_init_61 : decode cX8_init 61 = .ok (.putfield 116, 3) := by decide +kernel
theorem dX8_init_64 : decode cX8_init 64 = .ok (.aload_n 0, 1) := by decide +kernel
theorem dX8_init_65 : decode cX8_init 65 = .ok (.sipush 200, 3) := by decide +kernel
theorem dX8_init_68 : decode cX8_init 68 = .ok (.newarray .int, 2) := by decide +kernel
theorem dX8_init_70 : decode cX8_init 70 = .ok (.putfield 129, 3) := by decide +kernel
theorem dX8_init_73 : decode cX8_init 73 = .ok (.aload_n 0, 1) := by decide +kernel
theorem dX8_init_74 : decode cX8_init 74 = .ok (.sipush 200, 3) := by decide +kernel
theorem dX8_init_77 : decode cX8_init 77 = .ok (.newarray .int, 2) := by decide +kernel
theorem dX8_init_79 : decode cX8_init 79 = .ok (.putfield 60, 3) := by decide +kernel
theorem dX8_init_82 : decode cX8_init 82 = .ok (.aload_n 0, 1) := by decide +kernel
theorem dX8_init_83 : decode cX8_init 83 = .ok (.bipush 6, 2) := by decide +kernel
theorem dX8_init_85 : decode cX8_init 85 = .ok (.newarray .long, 2) := by decide +kernel
theorem dX8_init_87 : decode cX8_init 87 = .ok (.putfield 77, 3) := by decide +kernel
theorem dX8_init_90 : decode cX8_init 90 = .ok (.aload_n 0, 1) := by decide +kernel
theorem dX8_init_91 : decode cX8_init 91 = .ok (.bipush 36, 2) := by decide +kernel
theorem dX8_init_93 : decode cX8_init 93 = .ok (.newarray .long, 2) := by decide +kernel
theorem dX8_init_95 : decode cX8_init 95 = .ok (.putfield 148, 3) := by decide +kernel
theorem dX8_init_98 : decode cX8_init 98 = .ok (.aload_n 0, 1) := by decide +kernel
theorem dX8_init_99 : decode cX8_init 99 = .ok (.sipush 2520, 3) := by decide +kernel
theorem dX8_init_102 : decode cX8_init 102 = .ok (.newarray .long, 2) := by decide +kernel
theorem dX8_init_104 : decode cX8_init 104 = .ok (.putfield 154, 3) := by decide +kernel
theorem dX8_init_107 : decode cX8_init 107 = .ok (.aload_n 0, 1) := by decide +kernel
theorem dX8_init_108 : decode cX8_init 108 = .ok (.sipush 420, 3) := by decide +kernel
theorem dX8_init_111 : decode cX8_init 111 = .ok (.newarray .int, 2) := by decide +kernel
theorem dX8_init_113 : decode cX8_init 113 = .ok (.putfield 157, 3) := by decide +kernel
theorem dX8_init_116 : decode cX8_init 116 = .ok (.aload_n 0, 1) := by decide +kernel
theorem dX8_init_117 : decode cX8_init 117 = .ok (.sipush 12000, 3) := by decide +kernel
theorem dX8_init_120 : decode cX8_init 120 = .ok (.newarray .int, 2) := by decide +kernel
theorem dX8_init_122 : decode cX8_init 122 = .ok (.putfield 189, 3) := by decide +kernel
theorem dX8_init_125 : decode cX8_init 125 = .ok (.aload_n 0, 1) := by decide +kernel
theorem dX8_init_126 : decode cX8_init 126 = .ok (.bipush 6, 2) := by decide +kernel
theorem dX8_init_128 : decode cX8_init 128 = .ok (.newarray .int, 2) := by decide +kernel
theorem dX8_init_130 : decode cX8_init 130 = .ok (.putfield 192, 3) := by decide +kernel
theorem dX8_init_133 : decode cX8_init 133 = .ok (.aload_n 0, 1) := by decide +kernel
theorem dX8_init_134 : decode cX8_init 134 = .ok (.sipush 3612, 3) := by decide +kernel
theorem dX8_init_137 : decode cX8_init 137 = .ok (.newarray .int, 2) := by decide +kernel
theorem dX8_init_139 : decode cX8_init 139 = .ok (.putfield 209, 3) := by decide +kernel
theorem dX8_init_142 : decode cX8_init 142 = .ok (.aload_n 0, 1) := by decide +kernel
theorem dX8_init_143 : decode cX8_init 143 = .ok (.sipush 3612, 3) := by decide +kernel
theorem dX8_init_146 : decode cX8_init 146 = .ok (.newarray .int, 2) := by decide +kernel
theorem dX8_init_148 : decode cX8_init 148 = .ok (.putfield 215, 3) := by decide +kernel
theorem dX8_init_151 : decode cX8_init 151 = .ok (.aload_n 0, 1) := by decide +kernel
theorem dX8_init_152 : decode cX8_init 152 = .ok (.sipush 200, 3) := by decide +kernel
theorem dX8_init_155 : decode cX8_init 155 = .ok (.newarray .int, 2) := by decide +kernel
theorem dX8_init_157 : decode cX8_init 157 = .ok (.putfield 223, 3) := by decide +kernel
theorem dX8_init_160 : decode cX8_init 160 = .ok (.aload_n 0, 1) := by decide +kernel
theorem dX8_init_161 : decode cX8_init 161 = .ok (.iconst 4, 1) := by decide +kernel
theorem dX8_init_162 : decode cX8_init 162 = .ok (.newarray .int, 2) := by decide +kernel
theorem dX8_init_164 : decode cX8_init 164 = .ok (.putfield 234, 3) := by decide +kernel
theorem dX8_init_167 : decode cX8_init 167 = .ok (.aload_n 0, 1) := by decide +kernel
theorem dX8_init_168 : decode cX8_init 168 = .ok (.iconst 4, 1) := by decide +kernel
theorem dX8_init_169 : decode cX8_init 169 = .ok (.newarray .int, 2) := by decide +kernel
theorem dX8_init_171 : decode cX8_init 171 = .ok (.putfield 237, 3) := by decide +kernel
theorem dX8_init_174 : decode cX8_init 174 = .ok (.aload_n 0, 1) := by decide +kernel
theorem dX8_init_175 : decode cX8_init 175 = .ok (.sipush 160, 3) := by decide +kernel
theorem dX8_init_178 : decode cX8_init 178 = .ok (.newarray .long, 2) := by decide +kernel
theorem dX8_init_180 : decode cX8_init 180 = .ok (.putfield 240, 3) := by decide +kernel
theorem dX8_init_183 : decode cX8_init 183 = .ok (.aload_n 0, 1) := by decide +kernel
theorem dX8_init_184 : decode cX8_init 184 = .ok (.bipush 40, 2) := by decide +kernel
theorem dX8_init_186 : decode cX8_init 186 = .ok (.newarray .long, 2) := by decide +kernel
theorem dX8_init_188 : decode cX8_init 188 = .ok (.putfield 243, 3) := by decide +kernel
theorem dX8_init_191 : decode cX8_init 191 = .ok (.iconst 0, 1) := by decide +kernel
theorem dX8_init_192 : decode cX8_init 192 = .ok (.istore_n 1, 1) := by decide +kernel
theorem dX8_init_193 : decode cX8_init 193 = .ok (.iload_n 1, 1) := by decide +kernel
theorem dX8_init_194 : decode cX8_init 194 = .ok (.iconst 4, 1) := by decide +kernel
theorem dX8_init_195 : decode cX8_init 195 = .ok (.if_icmp .ge 16, 3) := by decide +kernel
theorem dX8_init_198 : decode cX8_init 198 = .ok (.aload_n 0, 1) := by decide +kernel
theorem dX8_init_199 : decode cX8_init 199 = .ok (.getfield 234, 3) := by decide +kernel
theorem dX8_init_202 : decode cX8_init 202 = .ok (.iload_n 1, 1) := by decide +kernel
theorem dX8_init_203 : decode cX8_init 203 = .ok (.iconst (-1), 1) := by decide +kernel
theorem dX8_init_204 : decode cX8_init 204 = .ok (.iastore, 1) := by decide +kernel
theorem dX8_init_205 : decode cX8_init 205 = .ok (.iinc 1 1, 3) := by decide +kernel
theorem dX8_init_208 : decode cX8_init 208 = .ok (.goto (-15), 3) := by decide +kernel
theorem dX8_init_211 : decode cX8_init 211 = .ok (.return_, 1) := by decide +kernel
set_option maxRecDepth 20000 in
theorem ggX8_isLeaf_X8_in : GoodIn wsX8_isLeaf wsX8_in := goodIn_r _ [5] rfl (by decide +kernel)
set_option maxRecDepth 20000 in
theorem gX8_isLeaf_X8_in : GoodIn wsX8_isLeaf (va_wsS RX8 24 yX8_in wsX8_in) := goodIn_app (goodIn_of _ (by decide +kernel)) ggX8_isLeaf_X8_in
theorem dX8_isLeaf_0 : decode cX8_isLeaf 0 = .ok (.iload_n 0, 1) := by decide +kernel
theorem dX8_isLeaf_1 : decode cX8_isLeaf 1 = .ok (.i2l, 1) := by decide +kernel
theorem dX8_isLeaf_2 : decode cX8_isLeaf 2 = .ok (.lconst 0, 1) := by decide +kernel
theorem dX8_isLeaf_3 : decode cX8_isLeaf 3 = .ok (.ldc2_w 246, 3) := by decide +kernel
theorem dX8_isLeaf_6 : decode cX8_isLeaf 6 = .ok (.invokestatic 24, 3) := by decide +kernel
theorem dX8_isLeaf_9 : decode cX8_isLeaf 9 = .ok (.ireturn, 1) := by decide +kernel
set_option maxRecDepth 20000 in
theorem ggX8_leaf_X8_isLeaf : GoodIn wsX8_leaf wsX8_isLeaf := goodIn_r _ [8, 9, 10, 11, 7, 12] rfl (by decide +kernel)
set_option maxRecDepth 20000 in
theorem gX8_leaf_X8_isLeaf : GoodIn wsX8_leaf (va_wsS RX8 248 yX8_isLeaf wsX8_isLeaf) := goodIn_app (goodIn_of _ (by decide +kernel)) ggX8_leaf_X8_isLeaf
set_option maxRecDepth 20000 in
theorem ggX8_leaf_X8_in : GoodIn wsX8_leaf wsX8_in := goodIn_r _ [12] rfl (by decide +kernel)
set_option maxRecDepth 20000 in
theorem gX8_leaf_X8_in : GoodIn wsX8_leaf (va_wsS RX8 24 yX8_in wsX8_in) := goodIn_app (goodIn_of _ (by decide +kernel)) ggX8_leaf_X8_in
theorem dX8_leaf_0 : decode cX8_leaf 0 = .ok (.iload_n 1, 1) := by decide +kernel
theorem dX8_leaf_1 : decode cX8_leaf 1 = .ok (.invokestatic 248, 3) := by decide +kernel
theorem dX8_leaf_4 : decode cX8_leaf 4 = .ok (.ifCond .eq 21, 3) := by decide +kernel
theorem dX8_leaf_7 : decode cX8_leaf 7 = .ok (.iload_n 2, 1) := by decide +kernel
theorem dX8_leaf_8 : decode cX8_leaf 8 = .ok (.i2l, 1) := by decide +kernel
theorem dX8_leaf_9 : decode cX8_leaf 9 = .ok (.lconst 0, 1) := by decide +kernel
theorem dX8_leaf_10 : decode cX8_leaf 10 = .ok (.ldc2_w 28, 3) := by decide +kernel
theorem dX8_leaf_13 : decode cX8_leaf 13 = .ok (.invokestatic 24, 3) := by decide +kernel
theorem dX8_leaf_16 : decode cX8_leaf 16 = .ok (.ifCond .eq 9, 3) := by decide +kernel
theorem dX8_leaf_19 : decode cX8_leaf 19 = .ok (.iload_n 3, 1) := by decide +kernel
theorem dX8_leaf_20 : decode cX8_leaf 20 = .ok (.bipush 40, 2) := by decide +kernel
theorem dX8_leaf_22 : decode cX8_leaf 22 = .ok (.if_icmp .le 5, 3) := by decide +kernel
theorem dX8_leaf_25 : decode cX8_leaf 25 = .ok (.iconst (-1), 1) := by decide +kernel
theorem dX8_leaf_26 : decode cX8_leaf 26 = .ok (.ireturn, 1) := by decide +kernel
theorem dX8_leaf_27 : decode cX8_leaf 27 = .ok (.iload_n 3, 1) := by decide +kernel
theorem dX8_leaf_28 : decode cX8_leaf 28 = .ok (.ifCond .ge 6, 3) := by decide +kernel
theorem dX8_leaf_31 : decode cX8_leaf 31 = .ok (.bipush (-14), 2) := by decide +kernel
theorem dX8_leaf_33 : decode cX8_leaf 33 = .ok (.ireturn, 1) := by decide +kernel
theorem dX8_leaf_34 : decode cX8_leaf 34 = .ok (.aload_n 0, 1) := by decide +kernel
theorem dX8_leaf_35 : decode cX8_leaf 35 = .ok (.getfield 234, 3) := by decide +kernel
theorem dX8_leaf_38 : decode cX8_leaf 38 = .ok (.iload_n 1, 1) := by decide +kernel
theorem dX8_leaf_39 : decode cX8_leaf 39 = .ok (.iload_n 2, 1) := by decide +kernel
theorem dX8_leaf_40 : decode cX8_leaf 40 = .ok (.iastore, 1) := by decide +kernel
theorem dX8_leaf_41 : decode cX8_leaf 41 = .ok (.aload_n 0, 1) := by decide +kernel
theorem dX8_leaf_42 : decode cX8_leaf 42 = .ok (.getfield 237, 3) := by decide +kernel
theorem dX8_leaf_45 : decode cX8_leaf 45 = .ok (.iload_n 1, 1) := by decide +kernel
theorem dX8_leaf_46 : decode cX8_leaf 46 = .ok (.iload_n 3, 1) := by decide +kernel
theorem dX8_leaf_47 : decode cX8_leaf 47 = .ok (.iastore, 1) := by decide +kernel
theorem dX8_leaf_48 : decode cX8_leaf 48 = .ok (.iconst 0, 1) := by decide +kernel
theorem dX8_leaf_49 : decode cX8_leaf 49 = .ok (.istore 4, 2) := by decide +kernel
theorem dX8_leaf_51 : decode cX8_leaf 51 = .ok (.iload 4, 2) := by decide +kernel
theorem dX8_leaf_53 : decode cX8_leaf 53 = .ok (.bipush 40, 2) := by decide +kernel
theorem dX8_leaf_55 : decode cX8_leaf 55 = .ok (.if_icmp .ge 22, 3) := by decide +kernel
theorem dX8_leaf_58 : decode cX8_leaf 58 = .ok (.aload_n 0, 1) := by decide +kernel
theorem dX8_leaf_59 : decode cX8_leaf 59 = .ok (.getfield 240, 3) := by decide +kernel
theorem dX8_leaf_62 : decode cX8_leaf 62 = .ok (.bipush 40, 2) := by decide +kernel
theorem dX8_leaf_64 : decode cX8_leaf 64 = .ok (.iload_n 1, 1) := by decide +kernel
theorem dX8_leaf_65 : decode cX8_leaf 65 = .ok (.imul, 1) := by decide +kernel
theorem dX8_leaf_66 : decode cX8_leaf 66 = .ok (.iload 4, 2) := by decide +kernel
theorem dX8_leaf_68 : decode cX8_leaf 68 = .ok (.iadd, 1) := by decide +kernel
theorem dX8_leaf_69 : decode cX8_leaf 69 = .ok (.lconst 0, 1) := by decide +kernel
theorem dX8_leaf_70 : decode cX8_leaf 70 = .ok (.lastore, 1) := by decide +kernel
theorem dX8_leaf_71 : decode cX8_leaf 71 = .ok (.iinc 4 1, 3) := by decide +kernel
theorem dX8_leaf_74 : decode cX8_leaf 74 = .ok (.goto (-23), 3) := by decide +kernel
theorem dX8_leaf_77 : decode cX8_leaf 77 = .ok (.iload_n 3, 1) := by decide +kernel
theorem dX8_leaf_78 : decode cX8_leaf 78 = .ok (.ireturn, 1) := by decide +kernel
set_option maxRecDepth 20000 in
theorem ggX8_drop_X8_isLeaf : GoodIn wsX8_drop wsX8_isLeaf := goodIn_r _ [6, 7, 8, 9, 5, 10] rfl (by decide +kernel)
set_option maxRecDepth 20000 in
theorem gX8_drop_X8_isLeaf : GoodIn wsX8_drop (va_wsS RX8 248 yX8_isLeaf wsX8_isLeaf) := goodIn_app (goodIn_of _ (by decide +kernel)) ggX8_drop_X8_isLeaf
theorem dX8_drop_0 : decode cX8_drop 0 = .ok (.iload_n 1, 1) := by decide +kernel
theorem dX8_drop_1 : decode cX8_drop 1 = .ok (.invokestatic 248, 3) := by decide +kernel
theorem dX8_drop_4 : decode cX8_drop 4 = .ok (.ifCond .ne 5, 3) := by decide +kernel
theorem dX8_drop_7 : decode cX8_drop 7 = .ok (.iconst (-1), 1) := by decide +kernel
theorem dX8_drop_8 : decode cX8_drop 8 = .ok (.ireturn, 1) := by decide +kernel
theorem dX8_drop_9 : decode cX8_drop 9 = .ok (.aload_n 0, 1) := by decide +kernel
theorem dX8_drop_10 : decode cX8_drop 10 = .ok (.getfield 234, 3) := by decide +kernel
theorem dX8_drop_13 : decode cX8_drop 13 = .ok (.iload_n 1, 1) := by decide +kernel
theorem dX8_drop_14 : decode cX8_drop 14 = .ok (.iaload, 1) := by decide +kernel
theorem dX8_drop_15 : decode cX8_drop 15 = .ok (.ifCond .ge 6, 3) := by decide +kernel
theorem dX8_drop_18 : decode cX8_drop 18 = .ok (.bipush (-11), 2) := by decide +kernel
theorem dX8_drop_20 : decode cX8_drop 20 = .ok (.ireturn, 1) := by decide +kernel
theorem dX8_drop_21 : decode cX8_drop 21 = .ok (.aload_n 0, 1) := by decide +kernel
theorem dX8_drop_22 : decode cX8_drop 22 = .ok (.getfield 234, 3) := by decide +kernel
theorem dX8_drop_25 : decode cX8_drop 25 = .ok (.iload_n 1, 1) := by decide +kernel
theorem dX8_drop_26 : decode cX8_drop 26 = .ok (.iconst (-1), 1) := by decide +kernel
theorem dX8_drop_27 : decode cX8_drop 27 = .ok (.iastore, 1) := by decide +kernel
theorem dX8_drop_28 : decode cX8_drop 28 = .ok (.aload_n 0, 1) := by decide +kernel
theorem dX8_drop_29 : decode cX8_drop 29 = .ok (.getfield 237, 3) := by decide +kernel
theorem dX8_drop_32 : decode cX8_drop 32 = .ok (.iload_n 1, 1) := by decide +kernel
theorem dX8_drop_33 : decode cX8_drop 33 = .ok (.iaload, 1) := by decide +kernel
theorem dX8_drop_34 : decode cX8_drop 34 = .ok (.ireturn, 1) := by decide +kernel
set_option maxRecDepth 20000 in
theorem ggX8_item_X8_isLeaf : GoodIn wsX8_item wsX8_isLeaf := goodIn_r _ [8, 9, 10, 11, 7, 12] rfl (by decide +kernel)
set_option maxRecDepth 20000 in
theorem gX8_item_X8_isLeaf : GoodIn wsX8_item (va_wsS RX8 248 yX8_isLeaf wsX8_isLeaf) := goodIn_app (goodIn_of _ (by decide +kernel)) ggX8_item_X8_isLeaf
set_option maxRecDepth 20000 in
theorem ggX8_item_X8_in : GoodIn wsX8_item wsX8_in := goodIn_r _ [12] rfl (by decide +kernel)
set_option maxRecDepth 20000 in
theorem gX8_item_X8_in : GoodIn wsX8_item (va_wsS RX8 24 yX8_in wsX8_in) := goodIn_app (goodIn_of _ (by decide +kernel)) ggX8_item_X8_in
theorem dX8_item_0 : decode cX8_item 0 = .ok (.iload_n 1, 1) := by decide +kernel
theorem dX8_item_1 : decode cX8_item 1 = .ok (.invokestatic 248, 3) := by decide +kernel
theorem dX8_item_4 : decode cX8_item 4 = .ok (.ifCond .eq 15, 3) := by decide +kernel
theorem dX8_item_7 : decode cX8_item 7 = .ok (.iload_n 2, 1) := by decide +kernel
theorem dX8_item_8 : decode cX8_item 8 = .ok (.i2l, 1) := by decide +kernel
theorem dX8_item_9 : decode cX8_item 9 = .ok (.lconst 0, 1) := by decide +kernel
theorem dX8_item_10 : decode cX8_item 10 = .ok (.ldc2_w 28, 3) := by decide +kernel
theorem dX8_item_13 : decode cX8_item 13 = .ok (.invokestatic 24, 3) := by decide +kernel
theorem dX8_item_16 : decode cX8_item 16 = .ok (.ifCond .ne 5, 3) := by decide +kernel
theorem dX8_item_19 : decode cX8_item 19 = .ok (.iconst (-1), 1) := by decide +kernel
theorem dX8_item_20 : decode cX8_item 20 = .ok (.ireturn, 1) := by decide +kernel
theorem dX8_item_21 : decode cX8_item 21 = .ok (.aload_n 0, 1) := by decide +kernel
theorem dX8_item_22 : decode cX8_item 22 = .ok (.getfield 234, 3) := by decide +kernel
theorem dX8_item_25 : decode cX8_item 25 = .ok (.iload_n 1, 1) := by decide +kernel
theorem dX8_item_26 : decode cX8_item 26 = .ok (.iaload, 1) := by decide +kernel
theorem dX8_item_27 : decode cX8_item 27 = .ok (.ifCond .ge 6, 3) := by decide +kernel
theorem dX8_item_30 : decode cX8_item 30 = .ok (.bipush (-11), 2) := by decide +kernel
theorem dX8_item_32 : decode cX8_item 32 = .ok (.ireturn, 1) := by decide +kernel
theorem dX8_item_33 : decode cX8_item 33 = .ok (.aload_n 0, 1) := by decide +kernel
theorem dX8_item_34 : decode cX8_item 34 = .ok (.getfield 234, 3) := by decide +kernel
theorem dX8_item_37 : decode cX8_item 37 = .ok (.iload_n 1, 1) := by decide +kernel
theorem dX8_item_38 : decode cX8_item 38 = .ok (.iaload, 1) := by decide +kernel
theorem dX8_item_39 : decode cX8_item 39 = .ok (.iload_n 2, 1) := by decide +kernel
theorem dX8_item_40 : decode cX8_item 40 = .ok (.if_icmp .eq 6, 3) := by decide +kernel
theorem dX8_item_43 : decode cX8_item 43 = .ok (.bipush (-12), 2) := by decide +kernel
theorem dX8_item_45 : decode cX8_item 45 = .ok (.ireturn, 1) := by decide +kernel
theorem dX8_item_46 : decode cX8_item 46 = .ok (.iload_n 3, 1) := by decide +kernel
theorem dX8_item_47 : decode cX8_item 47 = .ok (.i2l, 1) := by decide +kernel
theorem dX8_item_48 : decode cX8_item 48 = .ok (.lconst 0, 1) := by decide +kernel
theorem dX8_item_49 : decode cX8_item 49 = .ok (.aload_n 0, 1) := by decide +kernel
theorem dX8_item_50 : decode cX8_item 50 = .ok (.getfield 237, 3) := by decide +kernel
theorem dX8_item_53 : decode cX8_item 53 = .ok (.iload_n 1, 1) := by decide +kernel
theorem dX8_item_54 : decode cX8_item 54 = .ok (.iaload, 1) := by decide +kernel
theorem dX8_item_55 : decode cX8_item 55 = .ok (.iconst 1, 1) := by decide +kernel
theorem dX8_item_56 : decode cX8_item 56 = .ok (.isub, 1) := by decide +kernel
theorem dX8_item_57 : decode cX8_item 57 = .ok (.i2l, 1) := by decide +kernel
theorem dX8_item_58 : decode cX8_item 58 = .ok (.invokestatic 24, 3) := by decide +kernel
theorem dX8_item_61 : decode cX8_item 61 = .ok (.ifCond .ne 6, 3) := by decide +kernel
theorem dX8_item_64 : decode cX8_item 64 = .ok (.bipush (-13), 2) := by decide +kernel
theorem dX8_item_66 : decode cX8_item 66 = .ok (.ireturn, 1) := by decide +kernel
theorem dX8_item_67 : decode cX8_item 67 = .ok (.aload_n 0, 1) := by decide +kernel
theorem dX8_item_68 : decode cX8_item 68 = .ok (.getfield 240, 3) := by decide +kernel
theorem dX8_item_71 : decode cX8_item 71 = .ok (.bipush 40, 2) := by decide +kernel
theorem dX8_item_73 : decode cX8_item 73 = .ok (.iload_n 1, 1) := by decide +kernel
theorem dX8_item_74 : decode cX8_item 74 = .ok (.imul, 1) := by decide +kernel
theorem dX8_item_75 : decode cX8_item 75 = .ok (.iload_n 3, 1) := by decide +kernel
theorem dX8_item_76 : decode cX8_item 76 = .ok (.iadd, 1) := by decide +kernel
theorem dX8_item_77 : decode cX8_item 77 = .ok (.iload_n 2, 1) := by decide +kernel
theorem dX8_item_78 : decode cX8_item 78 = .ok (.ifCond .ne 11, 3) := by decide +kernel
theorem dX8_item_81 : decode cX8_item 81 = .ok (.lload 4, 2) := by decide +kernel
theorem dX8_item_83 : decode cX8_item 83 = .ok (.l2i, 1) := by decide +kernel
theorem dX8_item_84 : decode cX8_item 84 = .ok (.i2b, 1) := by decide +kernel
theorem dX8_item_85 : decode cX8_item 85 = .ok (.i2l, 1) := by decide +kernel
theorem dX8_item_86 : decode cX8_item 86 = .ok (.goto 17, 3) := by decide +kernel
theorem dX8_item_89 : decode cX8_item 89 = .ok (.iload_n 2, 1) := by decide +kernel
theorem dX8_item_90 : decode cX8_item 90 = .ok (.iconst 1, 1) := by decide +kernel
theorem dX8_item_91 : decode cX8_item 91 = .ok (.if_icmp .ne 10, 3) := by decide +kernel
theorem dX8_item_94 : decode cX8_item 94 = .ok (.lload 4, 2) := by decide +kernel
theorem dX8_item_96 : decode cX8_item 96 = .ok (.l2i, 1) := by decide +kernel
theorem dX8_item_97 : decode cX8_item 97 = .ok (.i2l, 1) := by decide +kernel
theorem dX8_item_98 : decode cX8_item 98 = .ok (.goto 5, 3) := by decide +kernel
theorem dX8_item_101 : decode cX8_item 101 = .ok (.lload 4, 2) := by decide +kernel
theorem dX8_item_103 : decode cX8_item 103 = .ok (.lastore, 1) := by decide +kernel
theorem dX8_item_104 : decode cX8_item 104 = .ok (.iconst 1, 1) := by decide +kernel
theorem dX8_item_105 : decode cX8_item 105 = .ok (.ireturn, 1) := by decide +kernel
theorem dX8_isWithin_0 : decode cX8_isWithin 0 = .ok (.iload_n 2, 1) := by decide +kernel
theorem dX8_isWithin_1 : decode cX8_isWithin 1 = .ok (.ifCond .lt 23, 3) := by decide +kernel
theorem dX8_isWithin_4 : decode cX8_isWithin 4 = .ok (.iload_n 2, 1) := by decide +kernel
theorem dX8_isWithin_5 : decode cX8_isWithin 5 = .ok (.i2l, 1) := by decide +kernel
theorem dX8_isWithin_6 : decode cX8_isWithin 6 = .ok (.iload_n 3, 1) := by decide +kernel
theorem dX8_isWithin_7 : decode cX8_isWithin 7 = .ok (.i2l, 1) := by decide +kernel
theorem dX8_isWithin_8 : decode cX8_isWithin 8 = .ok (.ladd, 1) := by decide +kernel
theorem dX8_isWithin_9 : decode cX8_isWithin 9 = .ok (.aload_n 0, 1) := by decide +kernel
theorem dX8_isWithin_10 : decode cX8_isWithin 10 = .ok (.getfield 237, 3) := by decide +kernel
theorem dX8_isWithin_13 : decode cX8_isWithin 13 = .ok (.iload_n 1, 1) := by decide +kernel
theorem dX8_isWithin_14 : decode cX8_isWithin 14 = .ok (.iaload, 1) := by decide +kernel
theorem dX8_isWithin_15 : decode cX8_isWithin 15 = .ok (.i2l, 1) := by decide +kernel
theorem dX8_isWithin_16 : decode cX8_isWithin 16 = .ok (.lcmp, 1) := by decide +kernel
theorem dX8_isWithin_17 : decode cX8_isWithin 17 = .ok (.ifCond .gt 7, 3) := by decide +kernel
theorem dX8_isWithin_20 : decode cX8_isWithin 20 = .ok (.iconst 1, 1) := by decide +kernel
theorem dX8_isWithin_21 : decode cX8_isWithin 21 = .ok (.goto 4, 3) := by decide +kernel
theorem dX8_isWithin_24 : decode cX8_isWithin 24 = .ok (.iconst 0, 1) := by decide +kernel
theorem dX8_isWithin_25 : decode cX8_isWithin 25 = .ok (.ireturn, 1) := by decide +kernel
set_option maxRecDepth 20000 in
theorem ggX8_copy_X8_isLeaf : GoodIn wsX8_copy wsX8_isLeaf := goodIn_r _ [7, 8, 9, 10, 6, 11] rfl (by decide +kernel)
set_option maxRecDepth 20000 in
theorem gX8_copy_X8_isLeaf : GoodIn wsX8_copy (va_wsS RX8 248 yX8_isLeaf wsX8_isLeaf) := goodIn_app (goodIn_of _ (by decide +kernel)) ggX8_copy_X8_isLeaf
set_option maxRecDepth 20000 in
theorem ggX8_copy_X8_isWithin : GoodIn wsX8_copy wsX8_isWithin := goodIn_r _ [15, 16, 17, 18, 19, 20, 21, 22, 23, 24, 25, 26, 27, 28, 29, 30, 31, 32, 33, 34, 35, 36, 37, 38, 39, 40, 41, 42, 43, 44, 45, 46, 47, 48, 49] rfl (by decide +kernel)
set_option maxRecDepth 20000 in
theorem gX8_copy_X8_isWithin : GoodIn wsX8_copy (wsV RX8 251 RX8 yX8_isWithin wsX8_isWithin) := goodIn_app (goodIn_of _ (by decide +kernel)) ggX8_copy_X8_isWithin
theorem dX8_copy_0 : decode cX8_copy 0 = .ok (.iload_n 1, 1) := by decide +kernel
theorem dX8_copy_1 : decode cX8_copy 1 = .ok (.invokestatic 248, 3) := by decide +kernel
theorem dX8_copy_4 : decode cX8_copy 4 = .ok (.ifCond .eq 10, 3) := by decide +kernel
theorem dX8_copy_7 : decode cX8_copy 7 = .ok (.iload_n 3, 1) := by decide +kernel
theorem dX8_copy_8 : decode cX8_copy 8 = .ok (.invokestatic 248, 3) := by decide +kernel
theorem dX8_copy_11 : decode cX8_copy 11 = .ok (.ifCond .ne 5, 3) := by decide +kernel
theorem dX8_copy_14 : decode cX8_copy 14 = .ok (.iconst (-1), 1) := by decide +kernel
theorem dX8_copy_15 : decode cX8_copy 15 = .ok (.ireturn, 1) := by decide +kernel
theorem dX8_copy_16 : decode cX8_copy 16 = .ok (.aload_n 0, 1) := by decide +kernel
theorem dX8_copy_17 : decode cX8_copy 17 = .ok (.getfield 234, 3) := by decide +kernel
theorem dX8_copy_20 : decode cX8_copy 20 = .ok (.iload_n 1, 1) := by decide +kernel
theorem dX8_copy_21 : decode cX8_copy 21 = .ok (.iaload, 1) := by decide +kernel
theorem dX8_copy_22 : decode cX8_copy 22 = .ok (.ifCond .lt 12, 3) := by decide +kernel
theorem dX8_copy_25 : decode cX8_copy 25 = .ok (.aload_n 0, 1) := by decide +kernel
theorem dX8_copy_26 : decode cX8_copy 26 = .ok (.getfield 234, 3) := by decide +kernel
theorem dX8_copy_29 : decode cX8_copy 29 = .ok (.iload_n 3, 1) := by decide +kernel
theorem dX8_copy_30 : decode cX8_copy 30 = .ok (.iaload, 1) := by decide +kernel
theorem dX8_copy_31 : decode cX8_copy 31 = .ok (.ifCond .ge 6, 3) := by decide +kernel
theorem dX8_copy_34 : decode cX8_copy 34 = .ok (.bipush (-11), 2) := by decide +kernel
theorem dX8_copy_36 : decode cX8_copy 36 = .ok (.ireturn, 1) := by decide +kernel
theorem dX8_copy_37 : decode cX8_copy 37 = .ok (.aload_n 0, 1) := by decide +kernel
theorem dX8_copy_38 : decode cX8_copy 38 = .ok (.getfield 234, 3) := by decide +kernel
theorem dX8_copy_41 : decode cX8_copy 41 = .ok (.iload_n 1, 1) := by decide +kernel
theorem dX8_copy_42 : decode cX8_copy 42 = .ok (.iaload, 1) := by decide +kernel
theorem dX8_copy_43 : decode cX8_copy 43 = .ok (.aload_n 0, 1) := by decide +kernel
theorem dX8_copy_44 : decode cX8_copy 44 = .ok (.getfield 234, 3) := by decide +kernel
theorem dX8_copy_47 : decode cX8_copy 47 = .ok (.iload_n 3, 1) := by decide +kernel
theorem dX8_copy_48 : decode cX8_copy 48 = .ok (.iaload, 1) := by decide +kernel
theorem dX8_copy_49 : decode cX8_copy 49 = .ok (.if_icmp .eq 6, 3) := by decide +kernel
theorem dX8_copy_52 : decode cX8_copy 52 = .ok (.bipush (-12), 2) := by decide +kernel
theorem dX8_copy_54 : decode cX8_copy 54 = .ok (.ireturn, 1) := by decide +kernel
theorem dX8_copy_55 : decode cX8_copy 55 = .ok (.iload 5, 2) := by decide +kernel
theorem dX8_copy_57 : decode cX8_copy 57 = .ok (.ifCond .lt 26, 3) := by decide +kernel
theorem dX8_copy_60 : decode cX8_copy 60 = .ok (.aload_n 0, 1) := by decide +kernel
theorem dX8_copy_61 : decode cX8_copy 61 = .ok (.iload_n 1, 1) := by decide +kernel
theorem dX8_copy_62 : decode cX8_copy 62 = .ok (.iload_n 2, 1) := by decide +kernel
theorem dX8_copy_63 : decode cX8_copy 63 = .ok (.iload 5, 2) := by decide +kernel
theorem dX8_copy_65 : decode cX8_copy 65 = .ok (.invokevirtual 251, 3) := by decide +kernel
theorem dX8_copy_68 : decode cX8_copy 68 = .ok (.ifCond .eq 15, 3) := by decide +kernel
theorem dX8_copy_71 : decode cX8_copy 71 = .ok (.aload_n 0, 1) := by decide +kernel
theorem dX8_copy_72 : decode cX8_copy 72 = .ok (.iload_n 3, 1) := by decide +kernel
theorem dX8_copy_73 : decode cX8_copy 73 = .ok (.iload 4, 2) := by decide +kernel
theorem dX8_copy_75 : decode cX8_copy 75 = .ok (.iload 5, 2) := by decide +kernel
theorem dX8_copy_77 : decode cX8_copy 77 = .ok (.invokevirtual 251, 3) := by decide +kernel
theorem dX8_copy_80 : decode cX8_copy 80 = .ok (.ifCond .ne 6, 3) := by decide +kernel
theorem dX8_copy_83 : decode cX8_copy 83 = .ok (.bipush (-13), 2) := by decide +kernel
theorem dX8_copy_85 : decode cX8_copy 85 = .ok (.ireturn, 1) := by decide +kernel
theorem dX8_copy_86 : decode cX8_copy 86 = .ok (.iconst 0, 1) := by decide +kernel
theorem dX8_copy_87 : decode cX8_copy 87 = .ok (.istore 6, 2) := by decide +kernel
theorem dX8_copy_89 : decode cX8_copy 89 = .ok (.iload 6, 2) := by decide +kernel
theorem dX8_copy_91 : decode cX8_copy 91 = .ok (.iload 5, 2) := by decide +kernel
theorem dX8_copy_93 : decode cX8_copy 93 = .ok (.if_icmp .ge 30, 3) := by decide +kernel
theorem dX8_copy_96 : decode cX8_copy 96 = .ok (.aload_n 0, 1) := by decide +kernel
theorem dX8_copy_97 : decode cX8_copy 97 = .ok (.getfield 243, 3) := by decide +kernel
theorem dX8_copy_100 : decode cX8_copy 100 = .ok (.iload 6, 2) := by decide +kernel
theorem dX8_copy_102 : decode cX8_copy 102 = .ok (.aload_n 0, 1) := by decide +kernel
theorem dX8_copy_103 : decode cX8_copy 103 = .ok (.getfield 240, 3) := by decide +kernel
theorem dX8_copy_106 : decode cX8_copy 106 = .ok (.bipush 40, 2) := by decide +kernel
theorem dX8_copy_108 : decode cX8_copy 108 = .ok (.iload_n 1, 1) := by decide +kernel
theorem dX8_copy_109 : decode cX8_copy 109 = .ok (.imul, 1) := by decide +kernel
theorem dX8_copy_110 : decode cX8_copy 110 = .ok (.iload_n 2, 1) := by decide +kernel
theorem dX8_copy_111 : decode cX8_copy 111 = .ok (.iadd, 1) := by decide +kernel
theorem dX8_copy_112 : decode cX8_copy 112 = .ok (.iload 6, 2) := by decide +kernel
theorem dX8_copy_114 : decode cX8_copy 114 = .ok (.iadd, 1) := by decide +kernel
theorem dX8_copy_115 : decode cX8_copy 115 = .ok (.laload, 1) := by decide +kernel
theorem dX8_copy_116 : decode cX8_copy 116 = .ok (.lastore, 1) := by decide +kernel
theorem dX8_copy_117 : decode cX8_copy 117 = .ok (.iinc 6 1, 3) := by decide +kernel
theorem dX8_copy_120 : decode cX8_copy 120 = .ok (.goto (-31), 3) := by decide +kernel
theorem dX8_copy_123 : decode cX8_copy 123 = .ok (.iconst 0, 1) := by decide +kernel
theorem dX8_copy_124 : decode cX8_copy 124 = .ok (.istore 6, 2) := by decide +kernel
theorem dX8_copy_126 : decode cX8_copy 126 = .ok (.iload 6, 2) := by decide +kernel
theorem dX8_copy_128 : decode cX8_copy 128 = .ok (.iload 5, 2) := by decide +kernel
theorem dX8_copy_130 : decode cX8_copy 130 = .ok (.if_icmp .ge 31, 3) := by decide +kernel
theorem dX8_copy_133 : decode cX8_copy 133 = .ok (.aload_n 0, 1) := by decide +kernel
theorem dX8_copy_134 : decode cX8_copy 134 = .ok (.getfield 240, 3) := by decide +kernel
theorem dX8_copy_137 : decode cX8_copy 137 = .ok (.bipush 40, 2) := by decide +kernel
theorem dX8_copy_139 : decode cX8_copy 139 = .ok (.iload_n 3, 1) := by decide +kernel
theorem dX8_copy_140 : decode cX8_copy 140 = .ok (.imul, 1) := by decide +kernel
theorem dX8_copy_141 : decode cX8_copy 141 = .ok (.iload 4, 2) := by decide +kernel
theorem dX8_copy_143 : decode cX8_copy 143 = .ok (.iadd, 1) := by decide +kernel
theorem dX8_copy_144 : decode cX8_copy 144 = .ok (.iload 6, 2) := by decide +kernel
theorem dX8_copy_146 : decode cX8_copy 146 = .ok (.iadd, 1) := by decide +kernel
theorem dX8_copy_147 : decode cX8_copy 147 = .ok (.aload_n 0, 1) := by decide +kernel
theorem dX8_copy_148 : decode cX8_copy 148 = .ok (.getfield 243, 3) := by decide +kernel
theorem dX8_copy_151 : decode cX8_copy 151 = .ok (.iload 6, 2) := by decide +kernel
theorem dX8_copy_153 : decode cX8_copy 153 = .ok (.laload, 1) := by decide +kernel
theorem dX8_copy_154 : decode cX8_copy 154 = .ok (.lastore, 1) := by decide +kernel
theorem dX8_copy_155 : decode cX8_copy 155 = .ok (.iinc 6 1, 3) := by decide +kernel
theorem dX8_copy_158 : decode cX8_copy 158 = .ok (.goto (-32), 3) := by decide +kernel
theorem dX8_copy_161 : decode cX8_copy 161 = .ok (.iload 5, 2) := by decide +kernel
theorem dX8_copy_163 : decode cX8_copy 163 = .ok (.ireturn, 1) := by decide +kernel
set_option maxRecDepth 20000 in
theorem ggX8_word_X8_isSlot : GoodIn wsX8_word wsX8_isSlot := goodIn_r _ [9, 10, 11, 12, 8, 13] rfl (by decide +kernel)
set_option maxRecDepth 20000 in
theorem gX8_word_X8_isSlot : GoodIn wsX8_word (va_wsS RX8 48 yX8_isSlot wsX8_isSlot) := goodIn_app (goodIn_of _ (by decide +kernel)) ggX8_word_X8_isSlot
set_option maxRecDepth 20000 in
theorem ggX8_word_X8_isLeaf : GoodIn wsX8_word wsX8_isLeaf := goodIn_r _ [16, 17, 11, 12, 8, 13] rfl (by decide +kernel)
set_option maxRecDepth 20000 in
theorem gX8_word_X8_isLeaf : GoodIn wsX8_word (va_wsS RX8 248 yX8_isLeaf wsX8_isLeaf) := goodIn_app (goodIn_of _ (by decide +kernel)) ggX8_word_X8_isLeaf
set_option maxRecDepth 20000 in
theorem ggX8_word_X8_in : GoodIn wsX8_word wsX8_in := goodIn_r _ [13] rfl (by decide +kernel)
set_option maxRecDepth 20000 in
theorem gX8_word_X8_in : GoodIn wsX8_word (va_wsS RX8 24 yX8_in wsX8_in) := goodIn_app (goodIn_of _ (by decide +kernel)) ggX8_word_X8_in
set_option maxRecDepth 20000 in
theorem ggX8_word_X8_isWithin : GoodIn wsX8_word wsX8_isWithin := goodIn_r _ [21, 22, 28, 29, 30, 31, 32, 33, 34, 35, 36, 37, 38, 39, 40, 41, 42, 43, 44, 45, 46, 47, 48, 49, 50, 51, 52, 53, 54, 55, 56, 57, 58, 59, 60] rfl (by decide +kernel)
set_option maxRecDepth 20000 in
theorem gX8_word_X8_isWithin : GoodIn wsX8_word (wsV RX8 251 RX8 yX8_isWithin wsX8_isWithin) := goodIn_app (goodIn_of _ (by decide +kernel)) ggX8_word_X8_isWithin
set_option maxRecDepth 20000 in
theorem ggX8_word_X8_isMirror : GoodIn wsX8_word wsX8_isMirror := goodIn_r _ [26, 27, 11, 12, 8, 13, 28, 29, 30, 31, 32, 33, 34, 35, 36, 37, 38, 39, 40, 41, 42, 43, 44, 45, 46, 47, 48, 49, 50, 51, 52, 53, 54, 55, 56, 57, 58, 59, 60] rfl (by decide +kernel)
set_option maxRecDepth 20000 in
theorem gX8_word_X8_isMirror : GoodIn wsX8_word (wsV RX8 33 RX8 yX8_isMirror wsX8_isMirror) := goodIn_app (goodIn_of _ (by decide +kernel)) ggX8_word_X8_isMirror
theorem dX8_word_0 : decode cX8_word 0 = .ok (.iload_n 1, 1) := by decide +kernel
theorem dX8_word_1 : decode cX8_word 1 = .ok (.invokestatic 48, 3) := by decide +kernel
theorem dX8_word_4 : decode cX8_word 4 = .ok (.ifCond .eq 22, 3) := by decide +kernel
theorem dX8_word_7 : decode cX8_word 7 = .ok (.iload_n 2, 1) := by decide +kernel
theorem dX8_word_8 : decode cX8_word 8 = .ok (.invokestatic 248, 3) := by decide +kernel
theorem dX8_word_11 : decode cX8_word 11 = .ok (.ifCond .eq 15, 3) := by decide +kernel
theorem dX8_word_14 : decode cX8_word 14 = .ok (.iload_n 3, 1) := by decide +kernel
theorem dX8_word_15 : decode cX8_word 15 = .ok (.i2l, 1) := by decide +kernel
theorem dX8_word_16 : decode cX8_word 16 = .ok (.lconst 0, 1) := by decide +kernel
theorem dX8_word_17 : decode cX8_word 17 = .ok (.ldc2_w 28, 3) := by decide +kernel
theorem dX8_word_20 : decode cX8_word 20 = .ok (.invokestatic 24, 3) := by decide +kernel
theorem dX8_word_23 : decode cX8_word 23 = .ok (.ifCond .ne 5, 3) := by decide +kernel
theorem dX8_word_26 : decode cX8_word 26 = .ok (.iconst (-1), 1) := by decide +kernel
theorem dX8_word_27 : decode cX8_word 27 = .ok (.ireturn, 1) := by decide +kernel
theorem dX8_word_28 : decode cX8_word 28 = .ok (.aload_n 0, 1) := by decide +kernel
theorem dX8_word_29 : decode cX8_word 29 = .ok (.getfield 234, 3) := by decide +kernel
theorem dX8_word_32 : decode cX8_word 32 = .ok (.iload_n 2, 1) := by decide +kernel
theorem dX8_word_33 : decode cX8_word 33 = .ok (.iaload, 1) := by decide +kernel
theorem dX8_word_34 : decode cX8_word 34 = .ok (.ifCond .ge 6, 3) := by decide +kernel
theorem dX8_word_37 : decode cX8_word 37 = .ok (.bipush (-11), 2) := by decide +kernel
theorem dX8_word_39 : decode cX8_word 39 = .ok (.ireturn, 1) := by decide +kernel
theorem dX8_word_40 : decode cX8_word 40 = .ok (.aload_n 0, 1) := by decide +kernel
theorem dX8_word_41 : decode cX8_word 41 = .ok (.getfield 234, 3) := by decide +kernel
theorem dX8_word_44 : decode cX8_word 44 = .ok (.iload_n 2, 1) := by decide +kernel
theorem dX8_word_45 : decode cX8_word 45 = .ok (.iaload, 1) := by decide +kernel
theorem dX8_word_46 : decode cX8_word 46 = .ok (.iload_n 3, 1) := by decide +kernel
theorem dX8_word_47 : decode cX8_word 47 = .ok (.if_icmp .eq 6, 3) := by decide +kernel
theorem dX8_word_50 : decode cX8_word 50 = .ok (.bipush (-12), 2) := by decide +kernel
theorem dX8_word_52 : decode cX8_word 52 = .ok (.ireturn, 1) := by decide +kernel
theorem dX8_word_53 : decode cX8_word 53 = .ok (.iload 5, 2) := by decide +kernel
theorem dX8_word_55 : decode cX8_word 55 = .ok (.ifCond .ge 6, 3) := by decide +kernel
theorem dX8_word_58 : decode cX8_word 58 = .ok (.bipush (-14), 2) := by decide +kernel
theorem dX8_word_60 : decode cX8_word 60 = .ok (.ireturn, 1) := by decide +kernel
theorem dX8_word_61 : decode cX8_word 61 = .ok (.aload_n 0, 1) := by decide +kernel
theorem dX8_word_62 : decode cX8_word 62 = .ok (.iload_n 2, 1) := by decide +kernel
theorem dX8_word_63 : decode cX8_word 63 = .ok (.iload 4, 2) := by decide +kernel
theorem dX8_word_65 : decode cX8_word 65 = .ok (.iload 5, 2) := by decide +kernel
theorem dX8_word_67 : decode cX8_word 67 = .ok (.invokevirtual 251, 3) := by decide +kernel
theorem dX8_word_70 : decode cX8_word 70 = .ok (.ifCond .ne 6, 3) := by decide +kernel
theorem dX8_word_73 : decode cX8_word 73 = .ok (.bipush (-13), 2) := by decide +kernel
theorem dX8_word_75 : decode cX8_word 75 = .ok (.ireturn, 1) := by decide +kernel
theorem dX8_word_76 : decode cX8_word 76 = .ok (.iconst 0, 1) := by decide +kernel
theorem dX8_word_77 : decode cX8_word 77 = .ok (.istore 6, 2) := by decide +kernel
theorem dX8_word_79 : decode cX8_word 79 = .ok (.iload 6, 2) := by decide +kernel
theorem dX8_word_81 : decode cX8_word 81 = .ok (.iload 5, 2) := by decide +kernel
theorem dX8_word_83 : decode cX8_word 83 = .ok (.if_icmp .ge 33, 3) := by decide +kernel
theorem dX8_word_86 : decode cX8_word 86 = .ok (.aload_n 0, 1) := by decide +kernel
theorem dX8_word_87 : decode cX8_word 87 = .ok (.aload_n 0, 1) := by decide +kernel
theorem dX8_word_88 : decode cX8_word 88 = .ok (.getfield 240, 3) := by decide +kernel
theorem dX8_word_91 : decode cX8_word 91 = .ok (.bipush 40, 2) := by decide +kernel
theorem dX8_word_93 : decode cX8_word 93 = .ok (.iload_n 2, 1) := by decide +kernel
theorem dX8_word_94 : decode cX8_word 94 = .ok (.imul, 1) := by decide +kernel
theorem dX8_word_95 : decode cX8_word 95 = .ok (.iload 4, 2) := by decide +kernel
theorem dX8_word_97 : decode cX8_word 97 = .ok (.iadd, 1) := by decide +kernel
theorem dX8_word_98 : decode cX8_word 98 = .ok (.iload 6, 2) := by decide +kernel
theorem dX8_word_100 : decode cX8_word 100 = .ok (.iadd, 1) := by decide +kernel
theorem dX8_word_101 : decode cX8_word 101 = .ok (.laload, 1) := by decide +kernel
theorem dX8_word_102 : decode cX8_word 102 = .ok (.invokevirtual 33, 3) := by decide +kernel
theorem dX8_word_105 : decode cX8_word 105 = .ok (.ifCond .ne 5, 3) := by decide +kernel
theorem dX8_word_108 : decode cX8_word 108 = .ok (.iconst (-1), 1) := by decide +kernel
theorem dX8_word_109 : decode cX8_word 109 = .ok (.ireturn, 1) := by decide +kernel
theorem dX8_word_110 : decode cX8_word 110 = .ok (.iinc 6 1, 3) := by decide +kernel
theorem dX8_word_113 : decode cX8_word 113 = .ok (.goto (-34), 3) := by decide +kernel
theorem dX8_word_116 : decode cX8_word 116 = .ok (.aload_n 0, 1) := by decide +kernel
theorem dX8_word_117 : decode cX8_word 117 = .ok (.getfield 43, 3) := by decide +kernel
theorem dX8_word_120 : decode cX8_word 120 = .ok (.iload_n 1, 1) := by decide +kernel
theorem dX8_word_121 : decode cX8_word 121 = .ok (.iload 5, 2) := by decide +kernel
theorem dX8_word_123 : decode cX8_word 123 = .ok (.iastore, 1) := by decide +kernel
theorem dX8_word_124 : decode cX8_word 124 = .ok (.iconst 0, 1) := by decide +kernel
theorem dX8_word_125 : decode cX8_word 125 = .ok (.istore 6, 2) := by decide +kernel
theorem dX8_word_127 : decode cX8_word 127 = .ok (.iload 6, 2) := by decide +kernel
theorem dX8_word_129 : decode cX8_word 129 = .ok (.iload 5, 2) := by decide +kernel
theorem dX8_word_131 : decode cX8_word 131 = .ok (.if_icmp .ge 37, 3) := by decide +kernel
theorem dX8_word_134 : decode cX8_word 134 = .ok (.aload_n 0, 1) := by decide +kernel
theorem dX8_word_135 : decode cX8_word 135 = .ok (.getfield 52, 3) := by decide +kernel
theorem dX8_word_138 : decode cX8_word 138 = .ok (.bipush 100, 2) := by decide +kernel
theorem dX8_word_140 : decode cX8_word 140 = .ok (.iload_n 1, 1) := by decide +kernel
theorem dX8_word_141 : decode cX8_word 141 = .ok (.imul, 1) := by decide +kernel
theorem dX8_word_142 : decode cX8_word 142 = .ok (.iload 6, 2) := by decide +kernel
theorem dX8_word_144 : decode cX8_word 144 = .ok (.iadd, 1) := by decide +kernel
theorem dX8_word_145 : decode cX8_word 145 = .ok (.aload_n 0, 1) := by decide +kernel
theorem dX8_word_146 : decode cX8_word 146 = .ok (.getfield 240, 3) := by decide +kernel
theorem dX8_word_149 : decode cX8_word 149 = .ok (.bipush 40, 2) := by decide +kernel
theorem dX8_word_151 : decode cX8_word 151 = .ok (.iload_n 2, 1) := by decide +kernel
theorem dX8_word_152 : decode cX8_word 152 = .ok (.imul, 1) := by decide +kernel
theorem dX8_word_153 : decode cX8_word 153 = .ok (.iload 4, 2) := by decide +kernel
theorem dX8_word_155 : decode cX8_word 155 = .ok (.iadd, 1) := by decide +kernel
theorem dX8_word_156 : decode cX8_word 156 = .ok (.iload 6, 2) := by decide +kernel
theorem dX8_word_158 : decode cX8_word 158 = .ok (.iadd, 1) := by decide +kernel
theorem dX8_word_159 : decode cX8_word 159 = .ok (.laload, 1) := by decide +kernel
theorem dX8_word_160 : decode cX8_word 160 = .ok (.l2i, 1) := by decide +kernel
theorem dX8_word_161 : decode cX8_word 161 = .ok (.iastore, 1) := by decide +kernel
theorem dX8_word_162 : decode cX8_word 162 = .ok (.iinc 6 1, 3) := by decide +kernel
theorem dX8_word_165 : decode cX8_word 165 = .ok (.goto (-38), 3) := by decide +kernel
theorem dX8_word_168 : decode cX8_word 168 = .ok (.iload 5, 2) := by decide +kernel
theorem dX8_word_170 : decode cX8_word 170 = .ok (.ireturn, 1) := by decide +kernel
theorem dJ9_min_7cf53_0 : decode cJ9_min_7cf53 0 = .ok (.iload_n 0, 1) := by decide +kernel
theorem dJ9_min_7cf53_1 : decode cJ9_min_7cf53 1 = .ok (.iload_n 1, 1) := by decide +kernel
theorem dJ9_min_7cf53_2 : decode cJ9_min_7cf53 2 = .ok (.if_icmp .gt 7, 3) := by decide +kernel
theorem dJ9_min_7cf53_5 : decode cJ9_min_7cf53 5 = .ok (.iload_n 0, 1) := by decide +kernel
theorem dJ9_min_7cf53_6 : decode cJ9_min_7cf53 6 = .ok (.goto 4, 3) := by decide +kernel
theorem dJ9_min_7cf53_9 : decode cJ9_min_7cf53 9 = .ok (.iload_n 1, 1) := by decide +kernel
theorem dJ9_min_7cf53_10 : decode cJ9_min_7cf53 10 = .ok (.ireturn, 1) := by decide +kernel
theorem dJ7_fill_d0a16_0 : decode cJ7_fill_d0a16 0 = .ok (.iconst 0, 1) := by decide +kernel
theorem dJ7_fill_d0a16_1 : decode cJ7_fill_d0a16 1 = .ok (.istore_n 3, 1) := by decide +kernel
theorem dJ7_fill_d0a16_2 : decode cJ7_fill_d0a16 2 = .ok (.aload_n 0, 1) := by decide +kernel
theorem dJ7_fill_d0a16_3 : decode cJ7_fill_d0a16 3 = .ok (.arraylength, 1) := by decide +kernel
theorem dJ7_fill_d0a16_4 : decode cJ7_fill_d0a16 4 = .ok (.istore 4, 2) := by decide +kernel
theorem dJ7_fill_d0a16_6 : decode cJ7_fill_d0a16 6 = .ok (.iload_n 3, 1) := by decide +kernel
theorem dJ7_fill_d0a16_7 : decode cJ7_fill_d0a16 7 = .ok (.iload 4, 2) := by decide +kernel
theorem dJ7_fill_d0a16_9 : decode cJ7_fill_d0a16 9 = .ok (.if_icmp .ge 13, 3) := by decide +kernel
theorem dJ7_fill_d0a16_12 : decode cJ7_fill_d0a16 12 = .ok (.aload_n 0, 1) := by decide +kernel
theorem dJ7_fill_d0a16_13 : decode cJ7_fill_d0a16 13 = .ok (.iload_n 3, 1) := by decide +kernel
theorem dJ7_fill_d0a16_14 : decode cJ7_fill_d0a16 14 = .ok (.lload_n 1, 1) := by decide +kernel
theorem dJ7_fill_d0a16_15 : decode cJ7_fill_d0a16 15 = .ok (.lastore, 1) := by decide +kernel
theorem dJ7_fill_d0a16_16 : decode cJ7_fill_d0a16 16 = .ok (.iinc 3 1, 3) := by decide +kernel
theorem dJ7_fill_d0a16_19 : decode cJ7_fill_d0a16 19 = .ok (.goto (-13), 3) := by decide +kernel
theorem dJ7_fill_d0a16_22 : decode cJ7_fill_d0a16 22 = .ok (.return_, 1) := by decide +kernel
