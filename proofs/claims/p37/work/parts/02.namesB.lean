theorem dX7_init_0 : decode cX7_init 0 = .ok (.aload_n 0, 1) := by decide +kernel
theorem dX7_init_1 : decode cX7_init 1 = .ok (.invokespecial 3, 3) := by decide +kernel
theorem dX7_init_4 : decode cX7_init 4 = .ok (.aload_n 0, 1) := by decide +kernel
theorem dX7_init_5 : decode cX7_init 5 = .ok (.new 9, 3) := by decide +kernel
theorem dX7_init_8 : decode cX7_init 8 = .ok (.dup, 1) := by decide +kernel
theorem dX7_init_9 : decode cX7_init 9 = .ok (.invokespecial 11, 3) := by decide +kernel
theorem dX7_init_12 : decode cX7_init 12 = .ok (.putfield 12, 3) := by decide +kernel
theorem dX7_init_15 : decode cX7_init 15 = .ok (.aload_n 0, 1) := by decide +kernel
theorem dX7_init_16 : decode cX7_init 16 = .ok (.new 16, 3) := by decide +kernel
theorem dX7_init_19 : decode cX7_init 19 = .ok (.dup, 1) := by decide +kernel
theorem dX7_init_20 : decode cX7_init 20 = .ok (.invokespecial 18, 3) := by decide +kernel
theorem dX7_init_23 : decode cX7_init 23 = .ok (.putfield 19, 3) := by decide +kernel
theorem dX7_init_26 : decode cX7_init 26 = .ok (.aload_n 0, 1) := by decide +kernel
theorem dX7_init_27 : decode cX7_init 27 = .ok (.bipush 8, 2) := by decide +kernel
theorem dX7_init_29 : decode cX7_init 29 = .ok (.anewarray 23, 3) := by decide +kernel
theorem dX7_init_32 : decode cX7_init 32 = .ok (.putfield 25, 3) := by decide +kernel
theorem dX7_init_35 : decode cX7_init 35 = .ok (.aload_n 0, 1) := by decide +kernel
theorem dX7_init_36 : decode cX7_init 36 = .ok (.iconst 4, 1) := by decide +kernel
theorem dX7_init_37 : decode cX7_init 37 = .ok (.anewarray 29, 3) := by decide +kernel
theorem dX7_init_40 : decode cX7_init 40 = .ok (.putfield 31, 3) := by decide +kernel
theorem dX7_init_43 : decode cX7_init 43 = .ok (.aload_n 0, 1) := by decide +kernel
theorem dX7_init_44 : decode cX7_init 44 = .ok (.new 35, 3) := by decide +kernel
theorem dX7_init_47 : decode cX7_init 47 = .ok (.dup, 1) := by decide +kernel
theorem dX7_init_48 : decode cX7_init 48 = .ok (.aload_n 0, 1) := by decide +kernel
theorem dX7_init_49 : decode cX7_init 49 = .ok (.getfield 12, 3) := by decide +kernel
theorem dX7_init_52 : decode cX7_init 52 = .ok (.invokespecial 37, 3) := by decide +kernel
theorem dX7_init_55 : decode cX7_init 55 = .ok (.putfield 40, 3) := by decide +kernel
theorem dX7_init_58 : decode cX7_init 58 = .ok (.aload_n 0, 1) := by decide +kernel
theorem dX7_init_59 : decode cX7_init 59 = .ok (.new 44, 3) := by decide +kernel
theorem dX7_init_62 : decode cX7_init 62 = .ok (.dup, 1) := by decide +kernel
theorem dX7_init_63 : decode cX7_init 63 = .ok (.aload_n 0, 1) := by decide +kernel
theorem dX7_init_64 : decode cX7_init 64 = .ok (.getfield 12, 3) := by decide +kernel
theorem dX7_init_67 : decode cX7_init 67 = .ok (.invokespecial 46, 3) := by decide +kernel
theorem dX7_init_70 : decode cX7_init 70 = .ok (.putfield 47, 3) := by decide +kernel
theorem dX7_init_73 : decode cX7_init 73 = .ok (.aload_n 0, 1) := by decide +kernel
theorem dX7_init_74 : decode cX7_init 74 = .ok (.new 51, 3) := by decide +kernel
theorem dX7_init_77 : decode cX7_init 77 = .ok (.dup, 1) := by decide +kernel
theorem dX7_init_78 : decode cX7_init 78 = .ok (.aload_n 0, 1) := by decide +kernel
theorem dX7_init_79 : decode cX7_init 79 = .ok (.getfield 12, 3) := by decide +kernel
theorem dX7_init_82 : decode cX7_init 82 = .ok (.invokespecial 53, 3) := by decide +kernel
theorem dX7_init_85 : decode cX7_init 85 = .ok (.putfield 54, 3) := by decide +kernel
theorem dX7_init_88 : decode cX7_init 88 = .ok (.aload_n 0, 1) := by decide +kernel
theorem dX7_init_89 : decode cX7_init 89 = .ok (.new 23, 3) := by decide +kernel
theorem dX7_init_92 : decode cX7_init 92 = .ok (.dup, 1) := by decide +kernel
theorem dX7_init_93 : decode cX7_init 93 = .ok (.invokespecial 58, 3) := by decide +kernel
theorem dX7_init_96 : decode cX7_init 96 = .ok (.putfield 59, 3) := by decide +kernel
theorem dX7_init_99 : decode cX7_init 99 = .ok (.aload_n 0, 1) := by decide +kernel
theorem dX7_init_100 : decode cX7_init 100 = .ok (.new 23, 3) := by decide +kernel
theorem dX7_init_103 : decode cX7_init 103 = .ok (.dup, 1) := by decide +kernel
theorem dX7_init_104 : decode cX7_init 104 = .ok (.invokespecial 58, 3) := by decide +kernel
theorem dX7_init_107 : decode cX7_init 107 = .ok (.putfield 63, 3) := by decide +kernel
theorem dX7_init_110 : decode cX7_init 110 = .ok (.aload_n 0, 1) := by decide +kernel
theorem dX7_init_111 : decode cX7_init 111 = .ok (.new 23, 3) := by decide +kernel
theorem dX7_init_114 : decode cX7_init 114 = .ok (.dup, 1) := by decide +kernel
theorem dX7_init_115 : decode cX7_init 115 = .ok (.invokespecial 58, 3) := by decide +kernel
theorem dX7_init_118 : decode cX7_init 118 = .ok (.putfield 66, 3) := by decide +kernel
theorem dX7_init_121 : decode cX7_init 121 = .ok (.aload_n 0, 1) := by decide +kernel
theorem dX7_init_122 : decode cX7_init 122 = .ok (.bipush 6, 2) := by decide +kernel
theorem dX7_init_124 : decode cX7_init 124 = .ok (.newarray .long, 2) := by decide +kernel
theorem dX7_init_126 : decode cX7_init 126 = .ok (.putfield 69, 3) := by decide +kernel
theorem dX7_init_129 : decode cX7_init 129 = .ok (.aload_n 0, 1) := by decide +kernel
theorem dX7_init_130 : decode cX7_init 130 = .ok (.bipush 6, 2) := by decide +kernel
theorem dX7_init_132 : decode cX7_init 132 = .ok (.bipush 6, 2) := by decide +kernel
theorem dX7_init_134 : decode cX7_init 134 = .ok (.multianewarray 73 2, 4) := by decide +kernel
theorem dX7_init_138 : decode cX7_init 138 = .ok (.putfield 75, 3) := by decide +kernel
theorem dX7_init_141 : decode cX7_init 141 = .ok (.iconst 0, 1) := by decide +kernel
theorem dX7_init_142 : decode cX7_init 142 = .ok (.istore_n 1, 1) := by decide +kernel
theorem dX7_init_143 : decode cX7_init 143 = .ok (.iload_n 1, 1) := by decide +kernel
theorem dX7_init_144 : decode cX7_init 144 = .ok (.bipush 8, 2) := by decide +kernel
theorem dX7_init_146 : decode cX7_init 146 = .ok (.if_icmp .ge 22, 3) := by decide +kernel
theorem dX7_init_149 : decode cX7_init 149 = .ok (.aload_n 0, 1) := by decide +kernel
theorem dX7_init_150 : decode cX7_init 150 = .ok (.getfield 25, 3) := by decide +kernel
theorem dX7_init_153 : decode cX7_init 153 = .ok (.iload_n 1, 1) := by decide +kernel
theorem dX7_init_154 : decode cX7_init 154 = .ok (.new 23, 3) := by decide +kernel
theorem dX7_init_157 : decode cX7_init 157 = .ok (.dup, 1) := by decide +kernel
theorem dX7_init_158 : decode cX7_init 158 = .ok (.invokespecial 58, 3) := by decide +kernel
theorem dX7_init_161 : decode cX7_init 161 = .ok (.aastore, 1) := by decide +kernel
theorem dX7_init_162 : decode cX7_init 162 = .ok (.iinc 1 1, 3) := by decide +kernel
theorem dX7_init_165 : decode cX7_init 165 = .ok (.goto (-22), 3) := by decide +kernel
theorem dX7_init_168 : decode cX7_init 168 = .ok (.iconst 0, 1) := by decide +kernel
theorem dX7_init_169 : decode cX7_init 169 = .ok (.istore_n 1, 1) := by decide +kernel
theorem dX7_init_170 : decode cX7_init 170 = .ok (.iload_n 1, 1) := by decide +kernel
theorem dX7_init_171 : decode cX7_init 171 = .ok (.iconst 4, 1) := by decide +kernel
theorem dX7_init_172 : decode cX7_init 172 = .ok (.if_icmp .ge 22, 3) := by decide +kernel
theorem dX7_init_175 : decode cX7_init 175 = .ok (.aload_n 0, 1) := by decide +kernel
theorem dX7_init_176 : decode cX7_init 176 = .ok (.getfield 31, 3) := by decide +kernel
theorem dX7_init_179 : decode cX7_init 179 = .ok (.iload_n 1, 1) := by decide +kernel
theorem dX7_init_180 : decode cX7_init 180 = .ok (.new 29, 3) := by decide +kernel
theorem dX7_init_183 : decode cX7_init 183 = .ok (.dup, 1) := by decide +kernel
theorem dX7_init_184 : decode cX7_init 184 = .ok (.invokespecial 78, 3) := by decide +kernel
theorem dX7_init_187 : decode cX7_init 187 = .ok (.aastore, 1) := by decide +kernel
theorem dX7_init_188 : decode cX7_init 188 = .ok (.iinc 1 1, 3) := by decide +kernel
theorem dX7_init_191 : decode cX7_init 191 = .ok (.goto (-21), 3) := by decide +kernel
theorem dX7_init_194 : decode cX7_init 194 = .ok (.return_, 1) := by decide +kernel
set_option maxRecDepth 20000 in
theorem ggX7_mirror_X7_isKind : GoodIn wsX7_mirror wsX7_isKind := goodIn_r _ [7] rfl (by decide +kernel)
set_option maxRecDepth 20000 in
theorem gX7_mirror_X7_isKind : GoodIn wsX7_mirror (va_wsS RX7 79 yX7_isKind wsX7_isKind) := goodIn_app (goodIn_of _ (by decide +kernel)) ggX7_mirror_X7_isKind
set_option maxRecDepth 20000 in
theorem ggX7_mirror_X1_keep : GoodIn wsX7_mirror wsX1_keep := goodIn_r _ [12, 13, 14, 15, 16, 17, 18, 19, 20, 21, 22, 23, 24, 25, 26, 27, 69, 70, 71, 66, 67, 68] rfl (by decide +kernel)
set_option maxRecDepth 20000 in
theorem gX7_mirror_X1_keep : GoodIn wsX7_mirror (wsV RX7 87 RX1 yX1_keep wsX1_keep) := goodIn_app (goodIn_of _ (by decide +kernel)) ggX7_mirror_X1_keep
set_option maxRecDepth 20000 in
theorem ggX7_mirror_X3_addMirror : GoodIn wsX7_mirror wsX3_addMirror := goodIn_r _ [31, 21, 27, 66, 67, 68] rfl (by decide +kernel)
set_option maxRecDepth 20000 in
theorem gX7_mirror_X3_addMirror : GoodIn wsX7_mirror (wsV RX7 90 RX3 yX3_addMirror wsX3_addMirror) := goodIn_app (goodIn_of _ (by decide +kernel)) ggX7_mirror_X3_addMirror
set_option maxRecDepth 20000 in
theorem ggX7_mirror_X7_startAnew : GoodIn wsX7_mirror wsX7_startAnew := goodIn_r _ [35, 36, 37, 38, 39, 40, 41, 42, 43, 44, 45, 46, 47, 48, 49, 50, 51, 52, 53, 54, 55, 56, 57, 58, 59, 60, 61, 62, 63, 64, 65, 72, 73, 74, 75, 76, 77, 78, 79, 80, 81, 82, 83, 84, 85] rfl (by decide +kernel)
set_option maxRecDepth 20000 in
theorem gX7_mirror_X7_startAnew : GoodIn wsX7_mirror (wsV RX7 94 RX7 yX7_startAnew wsX7_startAnew) := goodIn_app (goodIn_of _ (by decide +kernel)) ggX7_mirror_X7_startAnew
theorem dX7_mirror_0 : decode cX7_mirror 0 = .ok (.iload_n 1, 1) := by decide +kernel
theorem dX7_mirror_1 : decode cX7_mirror 1 = .ok (.invokestatic 79, 3) := by decide +kernel
theorem dX7_mirror_4 : decode cX7_mirror 4 = .ok (.ifCond .ne 5, 3) := by decide +kernel
theorem dX7_mirror_7 : decode cX7_mirror 7 = .ok (.iconst (-1), 1) := by decide +kernel
theorem dX7_mirror_8 : decode cX7_mirror 8 = .ok (.ireturn, 1) := by decide +kernel
theorem dX7_mirror_9 : decode cX7_mirror 9 = .ok (.aload_n 0, 1) := by decide +kernel
theorem dX7_mirror_10 : decode cX7_mirror 10 = .ok (.getfield 12, 3) := by decide +kernel
theorem dX7_mirror_13 : decode cX7_mirror 13 = .ok (.getfield 83, 3) := by decide +kernel
theorem dX7_mirror_16 : decode cX7_mirror 16 = .ok (.bipush 6, 2) := by decide +kernel
theorem dX7_mirror_18 : decode cX7_mirror 18 = .ok (.if_icmp .ne 6, 3) := by decide +kernel
theorem dX7_mirror_21 : decode cX7_mirror 21 = .ok (.bipush (-3), 2) := by decide +kernel
theorem dX7_mirror_23 : decode cX7_mirror 23 = .ok (.ireturn, 1) := by decide +kernel
theorem dX7_mirror_24 : decode cX7_mirror 24 = .ok (.aload_n 0, 1) := by decide +kernel
theorem dX7_mirror_25 : decode cX7_mirror 25 = .ok (.getfield 19, 3) := by decide +kernel
theorem dX7_mirror_28 : decode cX7_mirror 28 = .ok (.aload_n 0, 1) := by decide +kernel
theorem dX7_mirror_29 : decode cX7_mirror 29 = .ok (.getfield 12, 3) := by decide +kernel
theorem dX7_mirror_32 : decode cX7_mirror 32 = .ok (.invokevirtual 87, 3) := by decide +kernel
theorem dX7_mirror_35 : decode cX7_mirror 35 = .ok (.aload_n 0, 1) := by decide +kernel
theorem dX7_mirror_36 : decode cX7_mirror 36 = .ok (.getfield 12, 3) := by decide +kernel
theorem dX7_mirror_39 : decode cX7_mirror 39 = .ok (.iload_n 1, 1) := by decide +kernel
theorem dX7_mirror_40 : decode cX7_mirror 40 = .ok (.invokevirtual 90, 3) := by decide +kernel
theorem dX7_mirror_43 : decode cX7_mirror 43 = .ok (.istore_n 2, 1) := by decide +kernel
theorem dX7_mirror_44 : decode cX7_mirror 44 = .ok (.aload_n 0, 1) := by decide +kernel
theorem dX7_mirror_45 : decode cX7_mirror 45 = .ok (.invokevirtual 94, 3) := by decide +kernel
theorem dX7_mirror_48 : decode cX7_mirror 48 = .ok (.iload_n 2, 1) := by decide +kernel
theorem dX7_mirror_49 : decode cX7_mirror 49 = .ok (.ireturn, 1) := by decide +kernel
set_option maxRecDepth 20000 in
theorem ggX7_meet_X3_has : GoodIn wsX7_meet wsX3_has := goodIn_r _ [7, 8, 77, 78, 79] rfl (by decide +kernel)
set_option maxRecDepth 20000 in
theorem gX7_meet_X3_has : GoodIn wsX7_meet (wsV RX7 97 RX3 yX3_has wsX3_has) := goodIn_app (goodIn_of _ (by decide +kernel)) ggX7_meet_X3_has
set_option maxRecDepth 20000 in
theorem ggX7_meet_X7_areMeetingNumbers : GoodIn wsX7_meet wsX7_areMeetingNumbers := goodIn_r _ [12] rfl (by decide +kernel)
set_option maxRecDepth 20000 in
theorem gX7_meet_X7_areMeetingNumbers : GoodIn wsX7_meet (va_wsS RX7 100 yX7_areMeetingNumbers wsX7_areMeetingNumbers) := goodIn_app (goodIn_of _ (by decide +kernel)) ggX7_meet_X7_areMeetingNumbers
set_option maxRecDepth 20000 in
theorem ggX7_meet_X1_keep : GoodIn wsX7_meet wsX1_keep := goodIn_r _ [17, 18, 19, 20, 21, 22, 23, 6, 24, 25, 26, 27, 28, 29, 30, 8, 80, 81, 82, 77, 78, 79] rfl (by decide +kernel)
set_option maxRecDepth 20000 in
theorem gX7_meet_X1_keep : GoodIn wsX7_meet (wsV RX7 87 RX1 yX1_keep wsX1_keep) := goodIn_app (goodIn_of _ (by decide +kernel)) ggX7_meet_X1_keep
set_option maxRecDepth 20000 in
theorem ggX7_meet_X3_setNumbers : GoodIn wsX7_meet wsX3_setNumbers := goodIn_r _ [34, 30, 77, 78, 79] rfl (by decide +kernel)
set_option maxRecDepth 20000 in
theorem gX7_meet_X3_setNumbers : GoodIn wsX7_meet (wsV RX7 104 RX3 yX3_setNumbers wsX3_setNumbers) := goodIn_app (goodIn_of _ (by decide +kernel)) ggX7_meet_X3_setNumbers
set_option maxRecDepth 20000 in
theorem ggX7_meet_X7_startAnew : GoodIn wsX7_meet wsX7_startAnew := goodIn_r _ [38, 39, 40, 41, 42, 43, 44, 45, 46, 47, 48, 49, 50, 51, 52, 53, 54, 55, 56, 65, 66, 67, 68, 69, 70, 71, 72, 73, 74, 75, 76, 83, 84, 85, 86, 87, 88, 89, 90, 91, 92, 93, 94, 95, 96] rfl (by decide +kernel)
set_option maxRecDepth 20000 in
theorem gX7_meet_X7_startAnew : GoodIn wsX7_meet (wsV RX7 94 RX7 yX7_startAnew wsX7_startAnew) := goodIn_app (goodIn_of _ (by decide +kernel)) ggX7_meet_X7_startAnew
set_option maxRecDepth 20000 in
theorem ggX7_meet_X3_meetsAt : GoodIn wsX7_meet wsX3_meetsAt := goodIn_r _ [60, 61, 62, 63, 6, 64, 30, 77, 78, 79] rfl (by decide +kernel)
set_option maxRecDepth 20000 in
theorem gX7_meet_X3_meetsAt : GoodIn wsX7_meet (wsV RX7 108 RX3 yX3_meetsAt wsX3_meetsAt) := goodIn_app (goodIn_of _ (by decide +kernel)) ggX7_meet_X3_meetsAt
theorem dX7_meet_0 : decode cX7_meet 0 = .ok (.aload_n 0, 1) := by decide +kernel
theorem dX7_meet_1 : decode cX7_meet 1 = .ok (.getfield 12, 3) := by decide +kernel
theorem dX7_meet_4 : decode cX7_meet 4 = .ok (.iload_n 1, 1) := by decide +kernel
theorem dX7_meet_5 : decode cX7_meet 5 = .ok (.invokevirtual 97, 3) := by decide +kernel
theorem dX7_meet_8 : decode cX7_meet 8 = .ok (.ifCond .eq 28, 3) := by decide +kernel
theorem dX7_meet_11 : decode cX7_meet 11 = .ok (.aload_n 0, 1) := by decide +kernel
theorem dX7_meet_12 : decode cX7_meet 12 = .ok (.getfield 12, 3) := by decide +kernel
theorem dX7_meet_15 : decode cX7_meet 15 = .ok (.iload_n 2, 1) := by decide +kernel
theorem dX7_meet_16 : decode cX7_meet 16 = .ok (.invokevirtual 97, 3) := by decide +kernel
theorem dX7_meet_19 : decode cX7_meet 19 = .ok (.ifCond .eq 17, 3) := by decide +kernel
theorem dX7_meet_22 : decode cX7_meet 22 = .ok (.iload_n 1, 1) := by decide +kernel
theorem dX7_meet_23 : decode cX7_meet 23 = .ok (.iload_n 2, 1) := by decide +kernel
theorem dX7_meet_24 : decode cX7_meet 24 = .ok (.if_icmp .eq 12, 3) := by decide +kernel
theorem dX7_meet_27 : decode cX7_meet 27 = .ok (.iload_n 3, 1) := by decide +kernel
theorem dX7_meet_28 : decode cX7_meet 28 = .ok (.iload 4, 2) := by decide +kernel
theorem dX7_meet_30 : decode cX7_meet 30 = .ok (.invokestatic 100, 3) := by decide +kernel
theorem dX7_meet_33 : decode cX7_meet 33 = .ok (.ifCond .ne 5, 3) := by decide +kernel
theorem dX7_meet_36 : decode cX7_meet 36 = .ok (.iconst (-1), 1) := by decide +kernel
theorem dX7_meet_37 : decode cX7_meet 37 = .ok (.ireturn, 1) := by decide +kernel
theorem dX7_meet_38 : decode cX7_meet 38 = .ok (.aload_n 0, 1) := by decide +kernel
theorem dX7_meet_39 : decode cX7_meet 39 = .ok (.getfield 19, 3) := by decide +kernel
theorem dX7_meet_42 : decode cX7_meet 42 = .ok (.aload_n 0, 1) := by decide +kernel
theorem dX7_meet_43 : decode cX7_meet 43 = .ok (.getfield 12, 3) := by decide +kernel
theorem dX7_meet_46 : decode cX7_meet 46 = .ok (.invokevirtual 87, 3) := by decide +kernel
theorem dX7_meet_49 : decode cX7_meet 49 = .ok (.aload_n 0, 1) := by decide +kernel
theorem dX7_meet_50 : decode cX7_meet 50 = .ok (.getfield 12, 3) := by decide +kernel
theorem dX7_meet_53 : decode cX7_meet 53 = .ok (.iload_n 1, 1) := by decide +kernel
theorem dX7_meet_54 : decode cX7_meet 54 = .ok (.iload_n 2, 1) := by decide +kernel
theorem dX7_meet_55 : decode cX7_meet 55 = .ok (.iload_n 3, 1) := by decide +kernel
theorem dX7_meet_56 : decode cX7_meet 56 = .ok (.iload 4, 2) := by decide +kernel
theorem dX7_meet_58 : decode cX7_meet 58 = .ok (.invokevirtual 104, 3) := by decide +kernel
theorem dX7_meet_61 : decode cX7_meet 61 = .ok (.aload_n 0, 1) := by decide +kernel
theorem dX7_meet_62 : decode cX7_meet 62 = .ok (.invokevirtual 94, 3) := by decide +kernel
theorem dX7_meet_65 : decode cX7_meet 65 = .ok (.aload_n 0, 1) := by decide +kernel
theorem dX7_meet_66 : decode cX7_meet 66 = .ok (.getfield 12, 3) := by decide +kernel
theorem dX7_meet_69 : decode cX7_meet 69 = .ok (.iload_n 1, 1) := by decide +kernel
theorem dX7_meet_70 : decode cX7_meet 70 = .ok (.iload_n 2, 1) := by decide +kernel
theorem dX7_meet_71 : decode cX7_meet 71 = .ok (.invokevirtual 108, 3) := by decide +kernel
theorem dX7_meet_74 : decode cX7_meet 74 = .ok (.ireturn, 1) := by decide +kernel
set_option maxRecDepth 20000 in
theorem ggX7_less_X1_keep : GoodIn wsX7_less wsX1_keep := goodIn_r _ [8, 9, 10, 11, 12, 13, 14, 15, 16, 17, 18, 19, 20, 21, 22, 23, 70, 71, 72, 67, 68, 69] rfl (by decide +kernel)
set_option maxRecDepth 20000 in
theorem gX7_less_X1_keep : GoodIn wsX7_less (wsV RX7 87 RX1 yX1_keep wsX1_keep) := goodIn_app (goodIn_of _ (by decide +kernel)) ggX7_less_X1_keep
set_option maxRecDepth 20000 in
theorem ggX7_less_X3_removeLast : GoodIn wsX7_less wsX3_removeLast := goodIn_r _ [27, 23, 28, 29, 30, 15, 31, 22, 67, 68, 69] rfl (by decide +kernel)
set_option maxRecDepth 20000 in
theorem gX7_less_X3_removeLast : GoodIn wsX7_less (wsV RX7 112 RX3 yX3_removeLast wsX3_removeLast) := goodIn_app (goodIn_of _ (by decide +kernel)) ggX7_less_X3_removeLast
set_option maxRecDepth 20000 in
theorem ggX7_less_X7_startAnew : GoodIn wsX7_less wsX7_startAnew := goodIn_r _ [36, 37, 38, 39, 40, 41, 42, 43, 44, 45, 46, 47, 48, 49, 50, 51, 52, 53, 54, 55, 56, 57, 58, 59, 60, 61, 62, 63, 64, 65, 66, 73, 74, 75, 76, 77, 78, 79, 80, 81, 82, 83, 84, 85, 86] rfl (by decide +kernel)
set_option maxRecDepth 20000 in
theorem gX7_less_X7_startAnew : GoodIn wsX7_less (wsV RX7 94 RX7 yX7_startAnew wsX7_startAnew) := goodIn_app (goodIn_of _ (by decide +kernel)) ggX7_less_X7_startAnew
theorem dX7_less_0 : decode cX7_less 0 = .ok (.aload_n 0, 1) := by decide +kernel
theorem dX7_less_1 : decode cX7_less 1 = .ok (.getfield 12, 3) := by decide +kernel
theorem dX7_less_4 : decode cX7_less 4 = .ok (.getfield 83, 3) := by decide +kernel
theorem dX7_less_7 : decode cX7_less 7 = .ok (.ifCond .ne 6, 3) := by decide +kernel
theorem dX7_less_10 : decode cX7_less 10 = .ok (.bipush (-2), 2) := by decide +kernel
theorem dX7_less_12 : decode cX7_less 12 = .ok (.ireturn, 1) := by decide +kernel
theorem dX7_less_13 : decode cX7_less 13 = .ok (.aload_n 0, 1) := by decide +kernel
theorem dX7_less_14 : decode cX7_less 14 = .ok (.getfield 19, 3) := by decide +kernel
theorem dX7_less_17 : decode cX7_less 17 = .ok (.aload_n 0, 1) := by decide +kernel
theorem dX7_less_18 : decode cX7_less 18 = .ok (.getfield 12, 3) := by decide +kernel
theorem dX7_less_21 : decode cX7_less 21 = .ok (.invokevirtual 87, 3) := by decide +kernel
theorem dX7_less_24 : decode cX7_less 24 = .ok (.aload_n 0, 1) := by decide +kernel
theorem dX7_less_25 : decode cX7_less 25 = .ok (.getfield 12, 3) := by decide +kernel
theorem dX7_less_28 : decode cX7_less 28 = .ok (.invokevirtual 112, 3) := by decide +kernel
theorem dX7_less_31 : decode cX7_less 31 = .ok (.aload_n 0, 1) := by decide +kernel
theorem dX7_less_32 : decode cX7_less 32 = .ok (.invokevirtual 94, 3) := by decide +kernel
theorem dX7_less_35 : decode cX7_less 35 = .ok (.aload_n 0, 1) := by decide +kernel
theorem dX7_less_36 : decode cX7_less 36 = .ok (.getfield 12, 3) := by decide +kernel
theorem dX7_less_39 : decode cX7_less 39 = .ok (.getfield 83, 3) := by decide +kernel
theorem dX7_less_42 : decode cX7_less 42 = .ok (.ireturn, 1) := by decide +kernel
set_option maxRecDepth 20000 in
theorem ggX7_kind_X3_has : GoodIn wsX7_kind wsX3_has := goodIn_r _ [7, 8, 25, 26, 27] rfl (by decide +kernel)
set_option maxRecDepth 20000 in
theorem gX7_kind_X3_has : GoodIn wsX7_kind (wsV RX7 97 RX3 yX3_has wsX3_has) := goodIn_app (goodIn_of _ (by decide +kernel)) ggX7_kind_X3_has
set_option maxRecDepth 20000 in
theorem ggX7_kind_X7_isKind : GoodIn wsX7_kind wsX7_isKind := goodIn_r _ [12] rfl (by decide +kernel)
set_option maxRecDepth 20000 in
theorem gX7_kind_X7_isKind : GoodIn wsX7_kind (va_wsS RX7 79 yX7_isKind wsX7_isKind) := goodIn_app (goodIn_of _ (by decide +kernel)) ggX7_kind_X7_isKind
theorem dX7_kind_0 : decode cX7_kind 0 = .ok (.aload_n 0, 1) := by decide +kernel
theorem dX7_kind_1 : decode cX7_kind 1 = .ok (.getfield 12, 3) := by decide +kernel
theorem dX7_kind_4 : decode cX7_kind 4 = .ok (.iload_n 1, 1) := by decide +kernel
theorem dX7_kind_5 : decode cX7_kind 5 = .ok (.invokevirtual 97, 3) := by decide +kernel
theorem dX7_kind_8 : decode cX7_kind 8 = .ok (.ifCond .eq 10, 3) := by decide +kernel
theorem dX7_kind_11 : decode cX7_kind 11 = .ok (.iload_n 2, 1) := by decide +kernel
theorem dX7_kind_12 : decode cX7_kind 12 = .ok (.invokestatic 79, 3) := by decide +kernel
theorem dX7_kind_15 : decode cX7_kind 15 = .ok (.ifCond .ne 5, 3) := by decide +kernel
theorem dX7_kind_18 : decode cX7_kind 18 = .ok (.iconst (-1), 1) := by decide +kernel
theorem dX7_kind_19 : decode cX7_kind 19 = .ok (.ireturn, 1) := by decide +kernel
theorem dX7_kind_20 : decode cX7_kind 20 = .ok (.aload_n 0, 1) := by decide +kernel
theorem dX7_kind_21 : decode cX7_kind 21 = .ok (.getfield 12, 3) := by decide +kernel
theorem dX7_kind_24 : decode cX7_kind 24 = .ok (.getfield 115, 3) := by decide +kernel
theorem dX7_kind_27 : decode cX7_kind 27 = .ok (.iload_n 1, 1) := by decide +kernel
theorem dX7_kind_28 : decode cX7_kind 28 = .ok (.iaload, 1) := by decide +kernel
theorem dX7_kind_29 : decode cX7_kind 29 = .ok (.istore_n 3, 1) := by decide +kernel
theorem dX7_kind_30 : decode cX7_kind 30 = .ok (.aload_n 0, 1) := by decide +kernel
theorem dX7_kind_31 : decode cX7_kind 31 = .ok (.getfield 12, 3) := by decide +kernel
theorem dX7_kind_34 : decode cX7_kind 34 = .ok (.getfield 115, 3) := by decide +kernel
theorem dX7_kind_37 : decode cX7_kind 37 = .ok (.iload_n 1, 1) := by decide +kernel
theorem dX7_kind_38 : decode cX7_kind 38 = .ok (.iload_n 2, 1) := by decide +kernel
theorem dX7_kind_39 : decode cX7_kind 39 = .ok (.iastore, 1) := by decide +kernel
theorem dX7_kind_40 : decode cX7_kind 40 = .ok (.iload_n 3, 1) := by decide +kernel
theorem dX7_kind_41 : decode cX7_kind 41 = .ok (.ireturn, 1) := by decide +kernel
set_option maxRecDepth 20000 in
theorem ggX7_undo_X1_takeBack : GoodIn wsX7_undo wsX1_takeBack := goodIn_r _ [8, 9, 10, 11, 12, 13, 14, 15, 16, 17, 18, 19, 20, 21, 22, 23, 59, 60, 61, 62, 63, 64] rfl (by decide +kernel)
set_option maxRecDepth 20000 in
theorem gX7_undo_X1_takeBack : GoodIn wsX7_undo (wsV RX7 122 RX1 yX1_takeBack wsX1_takeBack) := goodIn_app (goodIn_of _ (by decide +kernel)) ggX7_undo_X1_takeBack
set_option maxRecDepth 20000 in
theorem ggX7_undo_X7_startAnew : GoodIn wsX7_undo wsX7_startAnew := goodIn_r _ [28, 29, 30, 31, 32, 33, 34, 35, 36, 37, 38, 39, 40, 41, 42, 43, 44, 45, 46, 47, 48, 49, 50, 51, 52, 53, 54, 55, 56, 57, 58, 65, 66, 67, 68, 69, 70, 71, 72, 73, 74, 75, 76, 77, 78] rfl (by decide +kernel)
set_option maxRecDepth 20000 in
theorem gX7_undo_X7_startAnew : GoodIn wsX7_undo (wsV RX7 94 RX7 yX7_startAnew wsX7_startAnew) := goodIn_app (goodIn_of _ (by decide +kernel)) ggX7_undo_X7_startAnew
theorem dX7_undo_0 : decode cX7_undo 0 = .ok (.aload_n 0, 1) := by decide +kernel
theorem dX7_undo_1 : decode cX7_undo 1 = .ok (.getfield 19, 3) := by decide +kernel
theorem dX7_undo_4 : decode cX7_undo 4 = .ok (.getfield 119, 3) := by decide +kernel
theorem dX7_undo_7 : decode cX7_undo 7 = .ok (.ifCond .ne 6, 3) := by decide +kernel
theorem dX7_undo_10 : decode cX7_undo 10 = .ok (.bipush (-2), 2) := by decide +kernel
theorem dX7_undo_12 : decode cX7_undo 12 = .ok (.ireturn, 1) := by decide +kernel
theorem dX7_undo_13 : decode cX7_undo 13 = .ok (.aload_n 0, 1) := by decide +kernel
theorem dX7_undo_14 : decode cX7_undo 14 = .ok (.getfield 19, 3) := by decide +kernel
theorem dX7_undo_17 : decode cX7_undo 17 = .ok (.aload_n 0, 1) := by decide +kernel
theorem dX7_undo_18 : decode cX7_undo 18 = .ok (.getfield 12, 3) := by decide +kernel
theorem dX7_undo_21 : decode cX7_undo 21 = .ok (.invokevirtual 122, 3) := by decide +kernel
theorem dX7_undo_24 : decode cX7_undo 24 = .ok (.aload_n 0, 1) := by decide +kernel
theorem dX7_undo_25 : decode cX7_undo 25 = .ok (.invokevirtual 94, 3) := by decide +kernel
theorem dX7_undo_28 : decode cX7_undo 28 = .ok (.aload_n 0, 1) := by decide +kernel
theorem dX7_undo_29 : decode cX7_undo 29 = .ok (.getfield 19, 3) := by decide +kernel
theorem dX7_undo_32 : decode cX7_undo 32 = .ok (.getfield 119, 3) := by decide +kernel
theorem dX7_undo_35 : decode cX7_undo 35 = .ok (.ireturn, 1) := by decide +kernel
set_option maxRecDepth 20000 in
theorem ggX7_told_X3_has : GoodIn wsX7_told wsX3_has := goodIn_r _ [8, 9, 32, 33, 34] rfl (by decide +kernel)
set_option maxRecDepth 20000 in
theorem gX7_told_X3_has : GoodIn wsX7_told (wsV RX7 97 RX3 yX3_has wsX3_has) := goodIn_app (goodIn_of _ (by decide +kernel)) ggX7_told_X3_has
set_option maxRecDepth 20000 in
theorem ggX7_told_X3_number : GoodIn wsX7_told wsX3_number := goodIn_r _ [13, 14, 32, 33, 34] rfl (by decide +kernel)
set_option maxRecDepth 20000 in
theorem gX7_told_X3_number : GoodIn wsX7_told (wsV RX7 125 RX3 yX3_number wsX3_number) := goodIn_app (goodIn_of _ (by decide +kernel)) ggX7_told_X3_number
set_option maxRecDepth 20000 in
theorem ggX7_told_X3_meetsAt : GoodIn wsX7_told wsX3_meetsAt := goodIn_r _ [18, 19, 11, 12, 7, 13, 14, 32, 33, 34] rfl (by decide +kernel)
set_option maxRecDepth 20000 in
theorem gX7_told_X3_meetsAt : GoodIn wsX7_told (wsV RX7 108 RX3 yX3_meetsAt wsX3_meetsAt) := goodIn_app (goodIn_of _ (by decide +kernel)) ggX7_told_X3_meetsAt
theorem dX7_told_0 : decode cX7_told 0 = .ok (.iload_n 1, 1) := by decide +kernel
theorem dX7_told_1 : decode cX7_told 1 = .ok (.iconst 3, 1) := by decide +kernel
theorem dX7_told_2 : decode cX7_told 2 = .ok (.if_icmp .ne 11, 3) := by decide +kernel
theorem dX7_told_5 : decode cX7_told 5 = .ok (.aload_n 0, 1) := by decide +kernel
theorem dX7_told_6 : decode cX7_told 6 = .ok (.getfield 12, 3) := by decide +kernel
theorem dX7_told_9 : decode cX7_told 9 = .ok (.getfield 83, 3) := by decide +kernel
theorem dX7_told_12 : decode cX7_told 12 = .ok (.ireturn, 1) := by decide +kernel
theorem dX7_told_13 : decode cX7_told 13 = .ok (.aload_n 0, 1) := by decide +kernel
theorem dX7_told_14 : decode cX7_told 14 = .ok (.getfield 12, 3) := by decide +kernel
theorem dX7_told_17 : decode cX7_told 17 = .ok (.iload_n 2, 1) := by decide +kernel
theorem dX7_told_18 : decode cX7_told 18 = .ok (.invokevirtual 97, 3) := by decide +kernel
theorem dX7_told_21 : decode cX7_told 21 = .ok (.ifCond .ne 5, 3) := by decide +kernel
theorem dX7_told_24 : decode cX7_told 24 = .ok (.iconst (-1), 1) := by decide +kernel
theorem dX7_told_25 : decode cX7_told 25 = .ok (.ireturn, 1) := by decide +kernel
theorem dX7_told_26 : decode cX7_told 26 = .ok (.iload_n 1, 1) := by decide +kernel
theorem dX7_told_27 : decode cX7_told 27 = .ok (.ifCond .ne 13, 3) := by decide +kernel
theorem dX7_told_30 : decode cX7_told 30 = .ok (.aload_n 0, 1) := by decide +kernel
theorem dX7_told_31 : decode cX7_told 31 = .ok (.getfield 12, 3) := by decide +kernel
theorem dX7_told_34 : decode cX7_told 34 = .ok (.getfield 115, 3) := by decide +kernel
theorem dX7_told_37 : decode cX7_told 37 = .ok (.iload_n 2, 1) := by decide +kernel
theorem dX7_told_38 : decode cX7_told 38 = .ok (.iaload, 1) := by decide +kernel
theorem dX7_told_39 : decode cX7_told 39 = .ok (.ireturn, 1) := by decide +kernel
theorem dX7_told_40 : decode cX7_told 40 = .ok (.aload_n 0, 1) := by decide +kernel
theorem dX7_told_41 : decode cX7_told 41 = .ok (.getfield 12, 3) := by decide +kernel
theorem dX7_told_44 : decode cX7_told 44 = .ok (.iload_n 3, 1) := by decide +kernel
theorem dX7_told_45 : decode cX7_told 45 = .ok (.invokevirtual 97, 3) := by decide +kernel
theorem dX7_told_48 : decode cX7_told 48 = .ok (.ifCond .ne 5, 3) := by decide +kernel
theorem dX7_told_51 : decode cX7_told 51 = .ok (.iconst (-1), 1) := by decide +kernel
theorem dX7_told_52 : decode cX7_told 52 = .ok (.ireturn, 1) := by decide +kernel
theorem dX7_told_53 : decode cX7_told 53 = .ok (.iload_n 1, 1) := by decide +kernel
theorem dX7_told_54 : decode cX7_told 54 = .ok (.iconst 1, 1) := by decide +kernel
theorem dX7_told_55 : decode cX7_told 55 = .ok (.if_icmp .ne 13, 3) := by decide +kernel
theorem dX7_told_58 : decode cX7_told 58 = .ok (.aload_n 0, 1) := by decide +kernel
theorem dX7_told_59 : decode cX7_told 59 = .ok (.getfield 12, 3) := by decide +kernel
theorem dX7_told_62 : decode cX7_told 62 = .ok (.iload_n 2, 1) := by decide +kernel
theorem dX7_told_63 : decode cX7_told 63 = .ok (.iload_n 3, 1) := by decide +kernel
theorem dX7_told_64 : decode cX7_told 64 = .ok (.invokevirtual 125, 3) := by decide +kernel
theorem dX7_told_67 : decode cX7_told 67 = .ok (.ireturn, 1) := by decide +kernel
theorem dX7_told_68 : decode cX7_told 68 = .ok (.iload_n 1, 1) := by decide +kernel
theorem dX7_told_69 : decode cX7_told 69 = .ok (.iconst 2, 1) := by decide +kernel
theorem dX7_told_70 : decode cX7_told 70 = .ok (.if_icmp .ne 15, 3) := by decide +kernel
theorem dX7_told_73 : decode cX7_told 73 = .ok (.aload_n 0, 1) := by decide +kernel
theorem dX7_told_74 : decode cX7_told 74 = .ok (.getfield 12, 3) := by decide +kernel
theorem dX7_told_77 : decode cX7_told 77 = .ok (.iload_n 2, 1) := by decide +kernel
theorem dX7_told_78 : decode cX7_told 78 = .ok (.iload_n 3, 1) := by decide +kernel
theorem dX7_told_79 : decode cX7_told 79 = .ok (.invokevirtual 108, 3) := by decide +kernel
theorem dX7_told_82 : decode cX7_told 82 = .ok (.goto 4, 3) := by decide +kernel
theorem dX7_told_85 : decode cX7_told 85 = .ok (.iconst (-1), 1) := by decide +kernel
theorem dX7_told_86 : decode cX7_told 86 = .ok (.ireturn, 1) := by decide +kernel
set_option maxRecDepth 20000 in
theorem ggX7_clear_X7_isSlot : GoodIn wsX7_clear wsX7_isSlot := goodIn_r _ [6] rfl (by decide +kernel)
set_option maxRecDepth 20000 in
theorem gX7_clear_X7_isSlot : GoodIn wsX7_clear (va_wsS RX7 128 yX7_isSlot wsX7_isSlot) := goodIn_app (goodIn_of _ (by decide +kernel)) ggX7_clear_X7_isSlot
theorem dX7_clear_0 : decode cX7_clear 0 = .ok (.iload_n 1, 1) := by decide +kernel
theorem dX7_clear_1 : decode cX7_clear 1 = .ok (.invokestatic 128, 3) := by decide +kernel
theorem dX7_clear_4 : decode cX7_clear 4 = .ok (.ifCond .ne 5, 3) := by decide +kernel
theorem dX7_clear_7 : decode cX7_clear 7 = .ok (.iconst (-1), 1) := by decide +kernel
theorem dX7_clear_8 : decode cX7_clear 8 = .ok (.ireturn, 1) := by decide +kernel
theorem dX7_clear_9 : decode cX7_clear 9 = .ok (.aload_n 0, 1) := by decide +kernel
theorem dX7_clear_10 : decode cX7_clear 10 = .ok (.getfield 25, 3) := by decide +kernel
theorem dX7_clear_13 : decode cX7_clear 13 = .ok (.iload_n 1, 1) := by decide +kernel
theorem dX7_clear_14 : decode cX7_clear 14 = .ok (.aaload, 1) := by decide +kernel
theorem dX7_clear_15 : decode cX7_clear 15 = .ok (.getfield 131, 3) := by decide +kernel
theorem dX7_clear_18 : decode cX7_clear 18 = .ok (.istore_n 2, 1) := by decide +kernel
theorem dX7_clear_19 : decode cX7_clear 19 = .ok (.aload_n 0, 1) := by decide +kernel
theorem dX7_clear_20 : decode cX7_clear 20 = .ok (.getfield 25, 3) := by decide +kernel
theorem dX7_clear_23 : decode cX7_clear 23 = .ok (.iload_n 1, 1) := by decide +kernel
theorem dX7_clear_24 : decode cX7_clear 24 = .ok (.aaload, 1) := by decide +kernel
theorem dX7_clear_25 : decode cX7_clear 25 = .ok (.iconst 0, 1) := by decide +kernel
theorem dX7_clear_26 : decode cX7_clear 26 = .ok (.putfield 131, 3) := by decide +kernel
theorem dX7_clear_29 : decode cX7_clear 29 = .ok (.iload_n 2, 1) := by decide +kernel
theorem dX7_clear_30 : decode cX7_clear 30 = .ok (.ireturn, 1) := by decide +kernel
set_option maxRecDepth 20000 in
theorem ggX7_put_X7_isSlot : GoodIn wsX7_put wsX7_isSlot := goodIn_r _ [7] rfl (by decide +kernel)
set_option maxRecDepth 20000 in
theorem gX7_put_X7_isSlot : GoodIn wsX7_put (va_wsS RX7 128 yX7_isSlot wsX7_isSlot) := goodIn_app (goodIn_of _ (by decide +kernel)) ggX7_put_X7_isSlot
set_option maxRecDepth 20000 in
theorem ggX7_put_X3_has : GoodIn wsX7_put wsX3_has := goodIn_r _ [12, 13, 35, 36, 37] rfl (by decide +kernel)
set_option maxRecDepth 20000 in
theorem gX7_put_X3_has : GoodIn wsX7_put (wsV RX7 97 RX3 yX3_has wsX3_has) := goodIn_app (goodIn_of _ (by decide +kernel)) ggX7_put_X3_has
set_option maxRecDepth 20000 in
theorem ggX7_put_X6_add : GoodIn wsX7_put wsX6_add := goodIn_r _ [18, 19, 20, 33, 34] rfl (by decide +kernel)
set_option maxRecDepth 20000 in
theorem gX7_put_X6_add : GoodIn wsX7_put (wsV RX7 134 RX6 yX6_add wsX6_add) := goodIn_app (goodIn_of _ (by decide +kernel)) ggX7_put_X6_add
theorem dX7_put_0 : decode cX7_put 0 = .ok (.iload_n 1, 1) := by decide +kernel
theorem dX7_put_1 : decode cX7_put 1 = .ok (.invokestatic 128, 3) := by decide +kernel
theorem dX7_put_4 : decode cX7_put 4 = .ok (.ifCond .eq 14, 3) := by decide +kernel
theorem dX7_put_7 : decode cX7_put 7 = .ok (.aload_n 0, 1) := by decide +kernel
theorem dX7_put_8 : decode cX7_put 8 = .ok (.getfield 12, 3) := by decide +kernel
theorem dX7_put_11 : decode cX7_put 11 = .ok (.iload_n 2, 1) := by decide +kernel
theorem dX7_put_12 : decode cX7_put 12 = .ok (.invokevirtual 97, 3) := by decide +kernel
theorem dX7_put_15 : decode cX7_put 15 = .ok (.ifCond .ne 5, 3) := by decide +kernel
theorem dX7_put_18 : decode cX7_put 18 = .ok (.iconst (-1), 1) := by decide +kernel
theorem dX7_put_19 : decode cX7_put 19 = .ok (.ireturn, 1) := by decide +kernel
theorem dX7_put_20 : decode cX7_put 20 = .ok (.aload_n 0, 1) := by decide +kernel
theorem dX7_put_21 : decode cX7_put 21 = .ok (.getfield 25, 3) := by decide +kernel
theorem dX7_put_24 : decode cX7_put 24 = .ok (.iload_n 1, 1) := by decide +kernel
theorem dX7_put_25 : decode cX7_put 25 = .ok (.aaload, 1) := by decide +kernel
theorem dX7_put_26 : decode cX7_put 26 = .ok (.getfield 131, 3) := by decide +kernel
theorem dX7_put_29 : decode cX7_put 29 = .ok (.bipush 100, 2) := by decide +kernel
theorem dX7_put_31 : decode cX7_put 31 = .ok (.if_icmp .ne 6, 3) := by decide +kernel
theorem dX7_put_34 : decode cX7_put 34 = .ok (.bipush (-3), 2) := by decide +kernel
theorem dX7_put_36 : decode cX7_put 36 = .ok (.ireturn, 1) := by decide +kernel
theorem dX7_put_37 : decode cX7_put 37 = .ok (.aload_n 0, 1) := by decide +kernel
theorem dX7_put_38 : decode cX7_put 38 = .ok (.getfield 25, 3) := by decide +kernel
theorem dX7_put_41 : decode cX7_put 41 = .ok (.iload_n 1, 1) := by decide +kernel
theorem dX7_put_42 : decode cX7_put 42 = .ok (.aaload, 1) := by decide +kernel
theorem dX7_put_43 : decode cX7_put 43 = .ok (.iload_n 2, 1) := by decide +kernel
theorem dX7_put_44 : decode cX7_put 44 = .ok (.invokevirtual 134, 3) := by decide +kernel
theorem dX7_put_47 : decode cX7_put 47 = .ok (.aload_n 0, 1) := by decide +kernel
theorem dX7_put_48 : decode cX7_put 48 = .ok (.getfield 25, 3) := by decide +kernel
theorem dX7_put_51 : decode cX7_put 51 = .ok (.iload_n 1, 1) := by decide +kernel
theorem dX7_put_52 : decode cX7_put 52 = .ok (.aaload, 1) := by decide +kernel
theorem dX7_put_53 : decode cX7_put 53 = .ok (.getfield 131, 3) := by decide +kernel
theorem dX7_put_56 : decode cX7_put 56 = .ok (.ireturn, 1) := by decide +kernel
set_option maxRecDepth 20000 in
theorem ggX7_word_X7_isSlot : GoodIn wsX7_word wsX7_isSlot := goodIn_r _ [10] rfl (by decide +kernel)
set_option maxRecDepth 20000 in
theorem gX7_word_X7_isSlot : GoodIn wsX7_word (va_wsS RX7 128 yX7_isSlot wsX7_isSlot) := goodIn_app (goodIn_of _ (by decide +kernel)) ggX7_word_X7_isSlot
set_option maxRecDepth 20000 in
theorem ggX7_word_X7_isLeaf : GoodIn wsX7_word wsX7_isLeaf := goodIn_r _ [13] rfl (by decide +kernel)
set_option maxRecDepth 20000 in
theorem gX7_word_X7_isLeaf : GoodIn wsX7_word (va_wsS RX7 138 yX7_isLeaf wsX7_isLeaf) := goodIn_app (goodIn_of _ (by decide +kernel)) ggX7_word_X7_isLeaf
set_option maxRecDepth 20000 in
theorem ggX7_word_X7_isLane : GoodIn wsX7_word wsX7_isLane := goodIn_r _ [16] rfl (by decide +kernel)
set_option maxRecDepth 20000 in
theorem gX7_word_X7_isLane : GoodIn wsX7_word (va_wsS RX7 141 yX7_isLane wsX7_isLane) := goodIn_app (goodIn_of _ (by decide +kernel)) ggX7_word_X7_isLane
set_option maxRecDepth 20000 in
theorem ggX7_word_X2_find : GoodIn wsX7_word wsX2_find := goodIn_r _ [21, 22, 23, 63, 64, 65, 66] rfl (by decide +kernel)
set_option maxRecDepth 20000 in
theorem gX7_word_X2_find : GoodIn wsX7_word (wsV RX7 144 RX2 yX2_find wsX2_find) := goodIn_app (goodIn_of _ (by decide +kernel)) ggX7_word_X2_find
set_option maxRecDepth 20000 in
theorem ggX7_word_X2_hasItems : GoodIn wsX7_word wsX2_hasItems := goodIn_r _ [27, 28, 63, 64, 65, 66] rfl (by decide +kernel)
set_option maxRecDepth 20000 in
theorem gX7_word_X2_hasItems : GoodIn wsX7_word (wsV RX7 147 RX2 yX2_hasItems wsX2_hasItems) := goodIn_app (goodIn_of _ (by decide +kernel)) ggX7_word_X2_hasItems
set_option maxRecDepth 20000 in
theorem ggX7_word_X6_add : GoodIn wsX7_word wsX6_add := goodIn_r _ [33, 34, 35, 61, 62] rfl (by decide +kernel)
set_option maxRecDepth 20000 in
theorem gX7_word_X6_add : GoodIn wsX7_word (wsV RX7 134 RX6 yX6_add wsX6_add) := goodIn_app (goodIn_of _ (by decide +kernel)) ggX7_word_X6_add
set_option maxRecDepth 20000 in
theorem ggX7_word_X7_store : GoodIn wsX7_word wsX7_store := goodIn_r _ [39, 40, 3, 41, 42, 43, 32, 44, 34, 35, 45, 46, 47, 48, 49, 50, 51, 52, 53, 54, 55, 56, 57, 58, 59, 60, 61, 62] rfl (by decide +kernel)
set_option maxRecDepth 20000 in
theorem gX7_word_X7_store : GoodIn wsX7_word (wsV RX7 153 RX7 yX7_store wsX7_store) := goodIn_app (goodIn_of _ (by decide +kernel)) ggX7_word_X7_store
theorem dX7_word_0 : decode cX7_word 0 = .ok (.iload_n 1, 1) := by decide +kernel
theorem dX7_word_1 : decode cX7_word 1 = .ok (.invokestatic 128, 3) := by decide +kernel
theorem dX7_word_4 : decode cX7_word 4 = .ok (.ifCond .eq 17, 3) := by decide +kernel
theorem dX7_word_7 : decode cX7_word 7 = .ok (.iload_n 2, 1) := by decide +kernel
theorem dX7_word_8 : decode cX7_word 8 = .ok (.invokestatic 138, 3) := by decide +kernel
theorem dX7_word_11 : decode cX7_word 11 = .ok (.ifCond .eq 10, 3) := by decide +kernel
theorem dX7_word_14 : decode cX7_word 14 = .ok (.iload_n 3, 1) := by decide +kernel
theorem dX7_word_15 : decode cX7_word 15 = .ok (.invokestatic 141, 3) := by decide +kernel
theorem dX7_word_18 : decode cX7_word 18 = .ok (.ifCond .ne 5, 3) := by decide +kernel
theorem dX7_word_21 : decode cX7_word 21 = .ok (.iconst (-1), 1) := by decide +kernel
theorem dX7_word_22 : decode cX7_word 22 = .ok (.ireturn, 1) := by decide +kernel
theorem dX7_word_23 : decode cX7_word 23 = .ok (.aload_n 0, 1) := by decide +kernel
theorem dX7_word_24 : decode cX7_word 24 = .ok (.getfield 31, 3) := by decide +kernel
theorem dX7_word_27 : decode cX7_word 27 = .ok (.iload_n 2, 1) := by decide +kernel
theorem dX7_word_28 : decode cX7_word 28 = .ok (.aaload, 1) := by decide +kernel
theorem dX7_word_29 : decode cX7_word 29 = .ok (.astore 6, 2) := by decide +kernel
theorem dX7_word_31 : decode cX7_word 31 = .ok (.aload 6, 2) := by decide +kernel
theorem dX7_word_33 : decode cX7_word 33 = .ok (.iload_n 3, 1) := by decide +kernel
theorem dX7_word_34 : decode cX7_word 34 = .ok (.invokevirtual 144, 3) := by decide +kernel
theorem dX7_word_37 : decode cX7_word 37 = .ok (.istore 7, 2) := by decide +kernel
theorem dX7_word_39 : decode cX7_word 39 = .ok (.iload 7, 2) := by decide +kernel
theorem dX7_word_41 : decode cX7_word 41 = .ok (.ifCond .eq 6, 3) := by decide +kernel
theorem dX7_word_44 : decode cX7_word 44 = .ok (.iload 7, 2) := by decide +kernel
theorem dX7_word_46 : decode cX7_word 46 = .ok (.ireturn, 1) := by decide +kernel
theorem dX7_word_47 : decode cX7_word 47 = .ok (.iload 5, 2) := by decide +kernel
theorem dX7_word_49 : decode cX7_word 49 = .ok (.ifCond .ge 6, 3) := by decide +kernel
theorem dX7_word_52 : decode cX7_word 52 = .ok (.bipush (-14), 2) := by decide +kernel
theorem dX7_word_54 : decode cX7_word 54 = .ok (.ireturn, 1) := by decide +kernel
theorem dX7_word_55 : decode cX7_word 55 = .ok (.aload 6, 2) := by decide +kernel
theorem dX7_word_57 : decode cX7_word 57 = .ok (.iload 4, 2) := by decide +kernel
theorem dX7_word_59 : decode cX7_word 59 = .ok (.iload 5, 2) := by decide +kernel
theorem dX7_word_61 : decode cX7_word 61 = .ok (.invokevirtual 147, 3) := by decide +kernel
theorem dX7_word_64 : decode cX7_word 64 = .ok (.ifCond .ne 6, 3) := by decide +kernel
theorem dX7_word_67 : decode cX7_word 67 = .ok (.bipush (-13), 2) := by decide +kernel
theorem dX7_word_69 : decode cX7_word 69 = .ok (.ireturn, 1) := by decide +kernel
theorem dX7_word_70 : decode cX7_word 70 = .ok (.aload_n 0, 1) := by decide +kernel
theorem dX7_word_71 : decode cX7_word 71 = .ok (.getfield 59, 3) := by decide +kernel
theorem dX7_word_74 : decode cX7_word 74 = .ok (.iconst 0, 1) := by decide +kernel
theorem dX7_word_75 : decode cX7_word 75 = .ok (.putfield 131, 3) := by decide +kernel
theorem dX7_word_78 : decode cX7_word 78 = .ok (.iconst 0, 1) := by decide +kernel
theorem dX7_word_79 : decode cX7_word 79 = .ok (.istore 8, 2) := by decide +kernel
theorem dX7_word_81 : decode cX7_word 81 = .ok (.iload 8, 2) := by decide +kernel
theorem dX7_word_83 : decode cX7_word 83 = .ok (.iload 5, 2) := by decide +kernel
theorem dX7_word_85 : decode cX7_word 85 = .ok (.if_icmp .ge 55, 3) := by decide +kernel
theorem dX7_word_88 : decode cX7_word 88 = .ok (.aload 6, 2) := by decide +kernel
theorem dX7_word_90 : decode cX7_word 90 = .ok (.getfield 150, 3) := by decide +kernel
theorem dX7_word_93 : decode cX7_word 93 = .ok (.iload 4, 2) := by decide +kernel
theorem dX7_word_95 : decode cX7_word 95 = .ok (.iload 8, 2) := by decide +kernel
theorem dX7_word_97 : decode cX7_word 97 = .ok (.iadd, 1) := by decide +kernel
theorem dX7_word_98 : decode cX7_word 98 = .ok (.laload, 1) := by decide +kernel
theorem dX7_word_99 : decode cX7_word 99 = .ok (.lstore 9, 2) := by decide +kernel
theorem dX7_word_101 : decode cX7_word 101 = .ok (.lload 9, 2) := by decide +kernel
theorem dX7_word_103 : decode cX7_word 103 = .ok (.lconst 0, 1) := by decide +kernel
theorem dX7_word_104 : decode cX7_word 104 = .ok (.lcmp, 1) := by decide +kernel
theorem dX7_word_105 : decode cX7_word 105 = .ok (.ifCond .lt 17, 3) := by decide +kernel
theorem dX7_word_108 : decode cX7_word 108 = .ok (.lload 9, 2) := by decide +kernel
theorem dX7_word_110 : decode cX7_word 110 = .ok (.aload_n 0, 1) := by decide +kernel
theorem dX7_word_111 : decode cX7_word 111 = .ok (.getfield 12, 3) := by decide +kernel
theorem dX7_word_114 : decode cX7_word 114 = .ok (.getfield 83, 3) := by decide +kernel
theorem dX7_word_117 : decode cX7_word 117 = .ok (.i2l, 1) := by decide +kernel
theorem dX7_word_118 : decode cX7_word 118 = .ok (.lcmp, 1) := by decide +kernel
theorem dX7_word_119 : decode cX7_word 119 = .ok (.ifCond .lt 5, 3) := by decide +kernel
theorem dX7_word_122 : decode cX7_word 122 = .ok (.iconst (-1), 1) := by decide +kernel
theorem dX7_word_123 : decode cX7_word 123 = .ok (.ireturn, 1) := by decide +kernel
theorem dX7_word_124 : decode cX7_word 124 = .ok (.aload_n 0, 1) := by decide +kernel
theorem dX7_word_125 : decode cX7_word 125 = .ok (.getfield 59, 3) := by decide +kernel
theorem dX7_word_128 : decode cX7_word 128 = .ok (.lload 9, 2) := by decide +kernel
theorem dX7_word_130 : decode cX7_word 130 = .ok (.l2i, 1) := by decide +kernel
theorem dX7_word_131 : decode cX7_word 131 = .ok (.invokevirtual 134, 3) := by decide +kernel
theorem dX7_word_134 : decode cX7_word 134 = .ok (.iinc 8 1, 3) := by decide +kernel
theorem dX7_word_137 : decode cX7_word 137 = .ok (.goto (-56), 3) := by decide +kernel
theorem dX7_word_140 : decode cX7_word 140 = .ok (.aload_n 0, 1) := by decide +kernel
theorem dX7_word_141 : decode cX7_word 141 = .ok (.aload_n 0, 1) := by decide +kernel
theorem dX7_word_142 : decode cX7_word 142 = .ok (.getfield 59, 3) := by decide +kernel
theorem dX7_word_145 : decode cX7_word 145 = .ok (.iload_n 1, 1) := by decide +kernel
theorem dX7_word_146 : decode cX7_word 146 = .ok (.invokevirtual 153, 3) := by decide +kernel
theorem dX7_word_149 : decode cX7_word 149 = .ok (.ireturn, 1) := by decide +kernel
set_option maxRecDepth 20000 in
theorem ggX7_at_X7_isSlot : GoodIn wsX7_at wsX7_isSlot := goodIn_r _ [7] rfl (by decide +kernel)
set_option maxRecDepth 20000 in
theorem gX7_at_X7_isSlot : GoodIn wsX7_at (va_wsS RX7 128 yX7_isSlot wsX7_isSlot) := goodIn_app (goodIn_of _ (by decide +kernel)) ggX7_at_X7_isSlot
theorem dX7_at_0 : decode cX7_at 0 = .ok (.iload_n 1, 1) := by decide +kernel
theorem dX7_at_1 : decode cX7_at 1 = .ok (.invokestatic 128, 3) := by decide +kernel
theorem dX7_at_4 : decode cX7_at 4 = .ok (.ifCond .ne 5, 3) := by decide +kernel
theorem dX7_at_7 : decode cX7_at 7 = .ok (.iconst (-1), 1) := by decide +kernel
theorem dX7_at_8 : decode cX7_at 8 = .ok (.ireturn, 1) := by decide +kernel
theorem dX7_at_9 : decode cX7_at 9 = .ok (.aload_n 0, 1) := by decide +kernel
theorem dX7_at_10 : decode cX7_at 10 = .ok (.getfield 25, 3) := by decide +kernel
theorem dX7_at_13 : decode cX7_at 13 = .ok (.iload_n 1, 1) := by decide +kernel
theorem dX7_at_14 : decode cX7_at 14 = .ok (.aaload, 1) := by decide +kernel
theorem dX7_at_15 : decode cX7_at 15 = .ok (.astore_n 3, 1) := by decide +kernel
theorem dX7_at_16 : decode cX7_at 16 = .ok (.iload_n 2, 1) := by decide +kernel
theorem dX7_at_17 : decode cX7_at 17 = .ok (.iconst (-1), 1) := by decide +kernel
theorem dX7_at_18 : decode cX7_at 18 = .ok (.if_icmp .ne 8, 3) := by decide +kernel
theorem dX7_at_21 : decode cX7_at 21 = .ok (.aload_n 3, 1) := by decide +kernel
theorem dX7_at_22 : decode cX7_at 22 = .ok (.getfield 131, 3) := by decide +kernel
theorem dX7_at_25 : decode cX7_at 25 = .ok (.ireturn, 1) := by decide +kernel
theorem dX7_at_26 : decode cX7_at 26 = .ok (.iload_n 2, 1) := by decide +kernel
theorem dX7_at_27 : decode cX7_at 27 = .ok (.ifCond .lt 20, 3) := by decide +kernel
theorem dX7_at_30 : decode cX7_at 30 = .ok (.iload_n 2, 1) := by decide +kernel
theorem dX7_at_31 : decode cX7_at 31 = .ok (.aload_n 3, 1) := by decide +kernel
theorem dX7_at_32 : decode cX7_at 32 = .ok (.getfield 131, 3) := by decide +kernel
theorem dX7_at_35 : decode cX7_at 35 = .ok (.if_icmp .ge 12, 3) := by decide +kernel
theorem dX7_at_38 : decode cX7_at 38 = .ok (.aload_n 3, 1) := by decide +kernel
theorem dX7_at_39 : decode cX7_at 39 = .ok (.getfield 157, 3) := by decide +kernel
theorem dX7_at_42 : decode cX7_at 42 = .ok (.iload_n 2, 1) := by decide +kernel
theorem dX7_at_43 : decode cX7_at 43 = .ok (.iaload, 1) := by decide +kernel
theorem dX7_at_44 : decode cX7_at 44 = .ok (.goto 4, 3) := by decide +kernel
theorem dX7_at_47 : decode cX7_at 47 = .ok (.iconst (-1), 1) := by decide +kernel
theorem dX7_at_48 : decode cX7_at 48 = .ok (.ireturn, 1) := by decide +kernel
set_option maxRecDepth 20000 in
theorem ggX7_times_X7_isSlot : GoodIn wsX7_times wsX7_isSlot := goodIn_r _ [7] rfl (by decide +kernel)
set_option maxRecDepth 20000 in
theorem gX7_times_X7_isSlot : GoodIn wsX7_times (va_wsS RX7 128 yX7_isSlot wsX7_isSlot) := goodIn_app (goodIn_of _ (by decide +kernel)) ggX7_times_X7_isSlot
set_option maxRecDepth 20000 in
theorem ggX7_times_X6_take : GoodIn wsX7_times wsX6_take := goodIn_r _ [12, 13, 14, 15, 16, 17, 18, 39, 40] rfl (by decide +kernel)
set_option maxRecDepth 20000 in
theorem gX7_times_X6_take : GoodIn wsX7_times (wsV RX7 160 RX6 yX6_take wsX6_take) := goodIn_app (goodIn_of _ (by decide +kernel)) ggX7_times_X6_take
set_option maxRecDepth 20000 in
theorem ggX7_times_X6_append : GoodIn wsX7_times wsX6_append := goodIn_r _ [22, 13, 14, 15, 16, 17, 18, 39, 40] rfl (by decide +kernel)
set_option maxRecDepth 20000 in
theorem gX7_times_X6_append : GoodIn wsX7_times (wsV RX7 164 RX6 yX6_append wsX6_append) := goodIn_app (goodIn_of _ (by decide +kernel)) ggX7_times_X6_append
set_option maxRecDepth 20000 in
theorem ggX7_times_X7_store : GoodIn wsX7_times wsX7_store := goodIn_r _ [26, 1, 2, 8, 9, 10, 11, 12, 13, 14, 15, 16, 17, 18, 27, 28, 29, 30, 31, 32, 33, 34, 35, 36, 37, 38, 39, 40] rfl (by decide +kernel)
set_option maxRecDepth 20000 in
theorem gX7_times_X7_store : GoodIn wsX7_times (wsV RX7 153 RX7 yX7_store wsX7_store) := goodIn_app (goodIn_of _ (by decide +kernel)) ggX7_times_X7_store
theorem dX7_times_0 : decode cX7_times 0 = .ok (.iload_n 1, 1) := by decide +kernel
theorem dX7_times_1 : decode cX7_times 1 = .ok (.invokestatic 128, 3) := by decide +kernel
theorem dX7_times_4 : decode cX7_times 4 = .ok (.ifCond .eq 17, 3) := by decide +kernel
theorem dX7_times_7 : decode cX7_times 7 = .ok (.iload_n 2, 1) := by decide +kernel
theorem dX7_times_8 : decode cX7_times 8 = .ok (.invokestatic 128, 3) := by decide +kernel
theorem dX7_times_11 : decode cX7_times 11 = .ok (.ifCond .eq 10, 3) := by decide +kernel
theorem dX7_times_14 : decode cX7_times 14 = .ok (.iload_n 3, 1) := by decide +kernel
theorem dX7_times_15 : decode cX7_times 15 = .ok (.invokestatic 128, 3) := by decide +kernel
theorem dX7_times_18 : decode cX7_times 18 = .ok (.ifCond .ne 5, 3) := by decide +kernel
theorem dX7_times_21 : decode cX7_times 21 = .ok (.iconst (-1), 1) := by decide +kernel
theorem dX7_times_22 : decode cX7_times 22 = .ok (.ireturn, 1) := by decide +kernel
theorem dX7_times_23 : decode cX7_times 23 = .ok (.aload_n 0, 1) := by decide +kernel
theorem dX7_times_24 : decode cX7_times 24 = .ok (.getfield 25, 3) := by decide +kernel
theorem dX7_times_27 : decode cX7_times 27 = .ok (.iload_n 1, 1) := by decide +kernel
theorem dX7_times_28 : decode cX7_times 28 = .ok (.aaload, 1) := by decide +kernel
theorem dX7_times_29 : decode cX7_times 29 = .ok (.getfield 131, 3) := by decide +kernel
theorem dX7_times_32 : decode cX7_times 32 = .ok (.aload_n 0, 1) := by decide +kernel
theorem dX7_times_33 : decode cX7_times 33 = .ok (.getfield 25, 3) := by decide +kernel
theorem dX7_times_36 : decode cX7_times 36 = .ok (.iload_n 2, 1) := by decide +kernel
theorem dX7_times_37 : decode cX7_times 37 = .ok (.aaload, 1) := by decide +kernel
theorem dX7_times_38 : decode cX7_times 38 = .ok (.getfield 131, 3) := by decide +kernel
theorem dX7_times_41 : decode cX7_times 41 = .ok (.iadd, 1) := by decide +kernel
theorem dX7_times_42 : decode cX7_times 42 = .ok (.bipush 100, 2) := by decide +kernel
theorem dX7_times_44 : decode cX7_times 44 = .ok (.if_icmp .le 6, 3) := by decide +kernel
theorem dX7_times_47 : decode cX7_times 47 = .ok (.bipush (-3), 2) := by decide +kernel
theorem dX7_times_49 : decode cX7_times 49 = .ok (.ireturn, 1) := by decide +kernel
theorem dX7_times_50 : decode cX7_times 50 = .ok (.aload_n 0, 1) := by decide +kernel
theorem dX7_times_51 : decode cX7_times 51 = .ok (.getfield 59, 3) := by decide +kernel
theorem dX7_times_54 : decode cX7_times 54 = .ok (.aload_n 0, 1) := by decide +kernel
theorem dX7_times_55 : decode cX7_times 55 = .ok (.getfield 25, 3) := by decide +kernel
theorem dX7_times_58 : decode cX7_times 58 = .ok (.iload_n 1, 1) := by decide +kernel
theorem dX7_times_59 : decode cX7_times 59 = .ok (.aaload, 1) := by decide +kernel
theorem dX7_times_60 : decode cX7_times 60 = .ok (.invokevirtual 160, 3) := by decide +kernel
theorem dX7_times_63 : decode cX7_times 63 = .ok (.aload_n 0, 1) := by decide +kernel
theorem dX7_times_64 : decode cX7_times 64 = .ok (.getfield 59, 3) := by decide +kernel
theorem dX7_times_67 : decode cX7_times 67 = .ok (.aload_n 0, 1) := by decide +kernel
theorem dX7_times_68 : decode cX7_times 68 = .ok (.getfield 25, 3) := by decide +kernel
theorem dX7_times_71 : decode cX7_times 71 = .ok (.iload_n 2, 1) := by decide +kernel
theorem dX7_times_72 : decode cX7_times 72 = .ok (.aaload, 1) := by decide +kernel
theorem dX7_times_73 : decode cX7_times 73 = .ok (.invokevirtual 164, 3) := by decide +kernel
theorem dX7_times_76 : decode cX7_times 76 = .ok (.aload_n 0, 1) := by decide +kernel
theorem dX7_times_77 : decode cX7_times 77 = .ok (.aload_n 0, 1) := by decide +kernel
theorem dX7_times_78 : decode cX7_times 78 = .ok (.getfield 59, 3) := by decide +kernel
theorem dX7_times_81 : decode cX7_times 81 = .ok (.iload_n 3, 1) := by decide +kernel
theorem dX7_times_82 : decode cX7_times 82 = .ok (.invokevirtual 153, 3) := by decide +kernel
theorem dX7_times_85 : decode cX7_times 85 = .ok (.ireturn, 1) := by decide +kernel
set_option maxRecDepth 20000 in
theorem ggX7_back_X7_isSlot : GoodIn wsX7_back wsX7_isSlot := goodIn_r _ [6] rfl (by decide +kernel)
set_option maxRecDepth 20000 in
theorem gX7_back_X7_isSlot : GoodIn wsX7_back (va_wsS RX7 128 yX7_isSlot wsX7_isSlot) := goodIn_app (goodIn_of _ (by decide +kernel)) ggX7_back_X7_isSlot
set_option maxRecDepth 20000 in
theorem ggX7_back_X6_takeInverted : GoodIn wsX7_back wsX6_takeInverted := goodIn_r _ [11, 12, 13, 39, 40] rfl (by decide +kernel)
set_option maxRecDepth 20000 in
theorem gX7_back_X6_takeInverted : GoodIn wsX7_back (wsV RX7 167 RX6 yX6_takeInverted wsX6_takeInverted) := goodIn_app (goodIn_of _ (by decide +kernel)) ggX7_back_X6_takeInverted
set_option maxRecDepth 20000 in
theorem ggX7_back_X7_store : GoodIn wsX7_back wsX7_store := goodIn_r _ [17, 2, 18, 19, 20, 21, 10, 22, 13, 12, 23, 24, 25, 26, 27, 28, 29, 30, 31, 32, 33, 34, 35, 36, 37, 38, 39, 40] rfl (by decide +kernel)
set_option maxRecDepth 20000 in
theorem gX7_back_X7_store : GoodIn wsX7_back (wsV RX7 153 RX7 yX7_store wsX7_store) := goodIn_app (goodIn_of _ (by decide +kernel)) ggX7_back_X7_store
theorem dX7_back_0 : decode cX7_back 0 = .ok (.iload_n 1, 1) := by decide +kernel
theorem dX7_back_1 : decode cX7_back 1 = .ok (.invokestatic 128, 3) := by decide +kernel
theorem dX7_back_4 : decode cX7_back 4 = .ok (.ifCond .eq 10, 3) := by decide +kernel
theorem dX7_back_7 : decode cX7_back 7 = .ok (.iload_n 2, 1) := by decide +kernel
theorem dX7_back_8 : decode cX7_back 8 = .ok (.invokestatic 128, 3) := by decide +kernel
theorem dX7_back_11 : decode cX7_back 11 = .ok (.ifCond .ne 5, 3) := by decide +kernel
theorem dX7_back_14 : decode cX7_back 14 = .ok (.iconst (-1), 1) := by decide +kernel
theorem dX7_back_15 : decode cX7_back 15 = .ok (.ireturn, 1) := by decide +kernel
theorem dX7_back_16 : decode cX7_back 16 = .ok (.aload_n 0, 1) := by decide +kernel
theorem dX7_back_17 : decode cX7_back 17 = .ok (.getfield 59, 3) := by decide +kernel
theorem dX7_back_20 : decode cX7_back 20 = .ok (.aload_n 0, 1) := by decide +kernel
theorem dX7_back_21 : decode cX7_back 21 = .ok (.getfield 25, 3) := by decide +kernel
theorem dX7_back_24 : decode cX7_back 24 = .ok (.iload_n 1, 1) := by decide +kernel
theorem dX7_back_25 : decode cX7_back 25 = .ok (.aaload, 1) := by decide +kernel
theorem dX7_back_26 : decode cX7_back 26 = .ok (.invokevirtual 167, 3) := by decide +kernel
theorem dX7_back_29 : decode cX7_back 29 = .ok (.aload_n 0, 1) := by decide +kernel
theorem dX7_back_30 : decode cX7_back 30 = .ok (.aload_n 0, 1) := by decide +kernel
theorem dX7_back_31 : decode cX7_back 31 = .ok (.getfield 59, 3) := by decide +kernel
theorem dX7_back_34 : decode cX7_back 34 = .ok (.iload_n 2, 1) := by decide +kernel
theorem dX7_back_35 : decode cX7_back 35 = .ok (.invokevirtual 153, 3) := by decide +kernel
theorem dX7_back_38 : decode cX7_back 38 = .ok (.ireturn, 1) := by decide +kernel
set_option maxRecDepth 20000 in
theorem ggX7_without_X7_isSlot : GoodIn wsX7_without wsX7_isSlot := goodIn_r _ [10] rfl (by decide +kernel)
set_option maxRecDepth 20000 in
theorem gX7_without_X7_isSlot : GoodIn wsX7_without (va_wsS RX7 128 yX7_isSlot wsX7_isSlot) := goodIn_app (goodIn_of _ (by decide +kernel)) ggX7_without_X7_isSlot
set_option maxRecDepth 20000 in
theorem ggX7_without_X6_add : GoodIn wsX7_without wsX6_add := goodIn_r _ [15, 16, 17, 42, 43] rfl (by decide +kernel)
set_option maxRecDepth 20000 in
theorem gX7_without_X6_add : GoodIn wsX7_without (wsV RX7 134 RX6 yX6_add wsX6_add) := goodIn_app (goodIn_of _ (by decide +kernel)) ggX7_without_X6_add
set_option maxRecDepth 20000 in
theorem ggX7_without_X7_store : GoodIn wsX7_without wsX7_store := goodIn_r _ [21, 1, 3, 22, 23, 24, 14, 25, 16, 17, 26, 27, 28, 29, 30, 31, 32, 33, 34, 35, 36, 37, 38, 39, 40, 41, 42, 43] rfl (by decide +kernel)
set_option maxRecDepth 20000 in
theorem gX7_without_X7_store : GoodIn wsX7_without (wsV RX7 153 RX7 yX7_store wsX7_store) := goodIn_app (goodIn_of _ (by decide +kernel)) ggX7_without_X7_store
theorem dX7_without_0 : decode cX7_without 0 = .ok (.iload_n 1, 1) := by decide +kernel
theorem dX7_without_1 : decode cX7_without 1 = .ok (.invokestatic 128, 3) := by decide +kernel
theorem dX7_without_4 : decode cX7_without 4 = .ok (.ifCond .eq 10, 3) := by decide +kernel
theorem dX7_without_7 : decode cX7_without 7 = .ok (.iload_n 2, 1) := by decide +kernel
theorem dX7_without_8 : decode cX7_without 8 = .ok (.invokestatic 128, 3) := by decide +kernel
theorem dX7_without_11 : decode cX7_without 11 = .ok (.ifCond .ne 5, 3) := by decide +kernel
theorem dX7_without_14 : decode cX7_without 14 = .ok (.iconst (-1), 1) := by decide +kernel
theorem dX7_without_15 : decode cX7_without 15 = .ok (.ireturn, 1) := by decide +kernel
theorem dX7_without_16 : decode cX7_without 16 = .ok (.aload_n 0, 1) := by decide +kernel
theorem dX7_without_17 : decode cX7_without 17 = .ok (.getfield 25, 3) := by decide +kernel
theorem dX7_without_20 : decode cX7_without 20 = .ok (.iload_n 1, 1) := by decide +kernel
theorem dX7_without_21 : decode cX7_without 21 = .ok (.aaload, 1) := by decide +kernel
theorem dX7_without_22 : decode cX7_without 22 = .ok (.astore_n 3, 1) := by decide +kernel
theorem dX7_without_23 : decode cX7_without 23 = .ok (.aload_n 0, 1) := by decide +kernel
theorem dX7_without_24 : decode cX7_without 24 = .ok (.getfield 59, 3) := by decide +kernel
theorem dX7_without_27 : decode cX7_without 27 = .ok (.iconst 0, 1) := by decide +kernel
theorem dX7_without_28 : decode cX7_without 28 = .ok (.putfield 131, 3) := by decide +kernel
theorem dX7_without_31 : decode cX7_without 31 = .ok (.iconst 0, 1) := by decide +kernel
theorem dX7_without_32 : decode cX7_without 32 = .ok (.istore 4, 2) := by decide +kernel
theorem dX7_without_34 : decode cX7_without 34 = .ok (.iload 4, 2) := by decide +kernel
theorem dX7_without_36 : decode cX7_without 36 = .ok (.aload_n 3, 1) := by decide +kernel
theorem dX7_without_37 : decode cX7_without 37 = .ok (.getfield 131, 3) := by decide +kernel
theorem dX7_without_40 : decode cX7_without 40 = .ok (.if_icmp .ge 42, 3) := by decide +kernel
theorem dX7_without_43 : decode cX7_without 43 = .ok (.aload_n 0, 1) := by decide +kernel
theorem dX7_without_44 : decode cX7_without 44 = .ok (.getfield 12, 3) := by decide +kernel
theorem dX7_without_47 : decode cX7_without 47 = .ok (.getfield 115, 3) := by decide +kernel
theorem dX7_without_50 : decode cX7_without 50 = .ok (.aload_n 3, 1) := by decide +kernel
theorem dX7_without_51 : decode cX7_without 51 = .ok (.getfield 157, 3) := by decide +kernel
theorem dX7_without_54 : decode cX7_without 54 = .ok (.iload 4, 2) := by decide +kernel
theorem dX7_without_56 : decode cX7_without 56 = .ok (.iaload, 1) := by decide +kernel
theorem dX7_without_57 : decode cX7_without 57 = .ok (.iaload, 1) := by decide +kernel
theorem dX7_without_58 : decode cX7_without 58 = .ok (.iconst 2, 1) := by decide +kernel
theorem dX7_without_59 : decode cX7_without 59 = .ok (.if_icmp .eq 17, 3) := by decide +kernel
theorem dX7_without_62 : decode cX7_without 62 = .ok (.aload_n 0, 1) := by decide +kernel
theorem dX7_without_63 : decode cX7_without 63 = .ok (.getfield 59, 3) := by decide +kernel
theorem dX7_without_66 : decode cX7_without 66 = .ok (.aload_n 3, 1) := by decide +kernel
theorem dX7_without_67 : decode cX7_without 67 = .ok (.getfield 157, 3) := by decide +kernel
theorem dX7_without_70 : decode cX7_without 70 = .ok (.iload 4, 2) := by decide +kernel
theorem dX7_without_72 : decode cX7_without 72 = .ok (.iaload, 1) := by decide +kernel
theorem dX7_without_73 : decode cX7_without 73 = .ok (.invokevirtual 134, 3) := by decide +kernel
theorem dX7_without_76 : decode cX7_without 76 = .ok (.iinc 4 1, 3) := by decide +kernel
theorem dX7_without_79 : decode cX7_without 79 = .ok (.goto (-45), 3) := by decide +kernel
theorem dX7_without_82 : decode cX7_without 82 = .ok (.aload_n 0, 1) := by decide +kernel
theorem dX7_without_83 : decode cX7_without 83 = .ok (.aload_n 0, 1) := by decide +kernel
theorem dX7_without_84 : decode cX7_without 84 = .ok (.getfield 59, 3) := by decide +kernel
theorem dX7_without_87 : decode cX7_without 87 = .ok (.iload_n 2, 1) := by decide +kernel
theorem dX7_without_88 : decode cX7_without 88 = .ok (.invokevirtual 153, 3) := by decide +kernel
theorem dX7_without_91 : decode cX7_without 91 = .ok (.ireturn, 1) := by decide +kernel
set_option maxRecDepth 20000 in
theorem ggX7_cut_X7_isSlot : GoodIn wsX7_cut wsX7_isSlot := goodIn_r _ [7] rfl (by decide +kernel)
set_option maxRecDepth 20000 in
theorem gX7_cut_X7_isSlot : GoodIn wsX7_cut (va_wsS RX7 128 yX7_isSlot wsX7_isSlot) := goodIn_app (goodIn_of _ (by decide +kernel)) ggX7_cut_X7_isSlot
set_option maxRecDepth 20000 in
theorem ggX7_cut_X6_hasTwoFrom : GoodIn wsX7_cut wsX6_hasTwoFrom := goodIn_r _ [12, 13, 35, 36] rfl (by decide +kernel)
set_option maxRecDepth 20000 in
theorem gX7_cut_X6_hasTwoFrom : GoodIn wsX7_cut (wsV RX7 170 RX6 yX6_hasTwoFrom wsX6_hasTwoFrom) := goodIn_app (goodIn_of _ (by decide +kernel)) ggX7_cut_X6_hasTwoFrom
set_option maxRecDepth 20000 in
theorem ggX7_cut_X6_removeAt : GoodIn wsX7_cut wsX6_removeAt := goodIn_r _ [17, 18, 13, 19, 20, 21, 22, 35, 36] rfl (by decide +kernel)
set_option maxRecDepth 20000 in
theorem gX7_cut_X6_removeAt : GoodIn wsX7_cut (wsV RX7 173 RX6 yX6_removeAt wsX6_removeAt) := goodIn_app (goodIn_of _ (by decide +kernel)) ggX7_cut_X6_removeAt
theorem dX7_cut_0 : decode cX7_cut 0 = .ok (.iload_n 1, 1) := by decide +kernel
theorem dX7_cut_1 : decode cX7_cut 1 = .ok (.invokestatic 128, 3) := by decide +kernel
theorem dX7_cut_4 : decode cX7_cut 4 = .ok (.ifCond .eq 16, 3) := by decide +kernel
theorem dX7_cut_7 : decode cX7_cut 7 = .ok (.aload_n 0, 1) := by decide +kernel
theorem dX7_cut_8 : decode cX7_cut 8 = .ok (.getfield 25, 3) := by decide +kernel
theorem dX7_cut_11 : decode cX7_cut 11 = .ok (.iload_n 1, 1) := by decide +kernel
theorem dX7_cut_12 : decode cX7_cut 12 = .ok (.aaload, 1) := by decide +kernel
theorem dX7_cut_13 : decode cX7_cut 13 = .ok (.iload_n 2, 1) := by decide +kernel
theorem dX7_cut_14 : decode cX7_cut 14 = .ok (.invokevirtual 170, 3) := by decide +kernel
theorem dX7_cut_17 : decode cX7_cut 17 = .ok (.ifCond .ne 5, 3) := by decide +kernel
theorem dX7_cut_20 : decode cX7_cut 20 = .ok (.iconst (-1), 1) := by decide +kernel
theorem dX7_cut_21 : decode cX7_cut 21 = .ok (.ireturn, 1) := by decide +kernel
theorem dX7_cut_22 : decode cX7_cut 22 = .ok (.aload_n 0, 1) := by decide +kernel
theorem dX7_cut_23 : decode cX7_cut 23 = .ok (.getfield 25, 3) := by decide +kernel
theorem dX7_cut_26 : decode cX7_cut 26 = .ok (.iload_n 1, 1) := by decide +kernel
theorem dX7_cut_27 : decode cX7_cut 27 = .ok (.aaload, 1) := by decide +kernel
theorem dX7_cut_28 : decode cX7_cut 28 = .ok (.astore_n 3, 1) := by decide +kernel
theorem dX7_cut_29 : decode cX7_cut 29 = .ok (.aload_n 3, 1) := by decide +kernel
theorem dX7_cut_30 : decode cX7_cut 30 = .ok (.getfield 157, 3) := by decide +kernel
theorem dX7_cut_33 : decode cX7_cut 33 = .ok (.iload_n 2, 1) := by decide +kernel
theorem dX7_cut_34 : decode cX7_cut 34 = .ok (.iaload, 1) := by decide +kernel
theorem dX7_cut_35 : decode cX7_cut 35 = .ok (.aload_n 3, 1) := by decide +kernel
theorem dX7_cut_36 : decode cX7_cut 36 = .ok (.getfield 157, 3) := by decide +kernel
theorem dX7_cut_39 : decode cX7_cut 39 = .ok (.iload_n 2, 1) := by decide +kernel
theorem dX7_cut_40 : decode cX7_cut 40 = .ok (.iconst 1, 1) := by decide +kernel
theorem dX7_cut_41 : decode cX7_cut 41 = .ok (.iadd, 1) := by decide +kernel
theorem dX7_cut_42 : decode cX7_cut 42 = .ok (.iaload, 1) := by decide +kernel
theorem dX7_cut_43 : decode cX7_cut 43 = .ok (.if_icmp .eq 6, 3) := by decide +kernel
theorem dX7_cut_46 : decode cX7_cut 46 = .ok (.bipush (-2), 2) := by decide +kernel
theorem dX7_cut_48 : decode cX7_cut 48 = .ok (.ireturn, 1) := by decide +kernel
theorem dX7_cut_49 : decode cX7_cut 49 = .ok (.aload_n 3, 1) := by decide +kernel
theorem dX7_cut_50 : decode cX7_cut 50 = .ok (.iload_n 2, 1) := by decide +kernel
theorem dX7_cut_51 : decode cX7_cut 51 = .ok (.invokevirtual 173, 3) := by decide +kernel
theorem dX7_cut_54 : decode cX7_cut 54 = .ok (.aload_n 3, 1) := by decide +kernel
theorem dX7_cut_55 : decode cX7_cut 55 = .ok (.iload_n 2, 1) := by decide +kernel
theorem dX7_cut_56 : decode cX7_cut 56 = .ok (.invokevirtual 173, 3) := by decide +kernel
theorem dX7_cut_59 : decode cX7_cut 59 = .ok (.aload_n 3, 1) := by decide +kernel
theorem dX7_cut_60 : decode cX7_cut 60 = .ok (.getfield 131, 3) := by decide +kernel
theorem dX7_cut_63 : decode cX7_cut 63 = .ok (.ireturn, 1) := by decide +kernel
set_option maxRecDepth 20000 in
theorem ggX7_change_X7_isSlot : GoodIn wsX7_change wsX7_isSlot := goodIn_r _ [7] rfl (by decide +kernel)
set_option maxRecDepth 20000 in
theorem gX7_change_X7_isSlot : GoodIn wsX7_change (va_wsS RX7 128 yX7_isSlot wsX7_isSlot) := goodIn_app (goodIn_of _ (by decide +kernel)) ggX7_change_X7_isSlot
set_option maxRecDepth 20000 in
theorem ggX7_change_X6_hasTwoFrom : GoodIn wsX7_change wsX6_hasTwoFrom := goodIn_r _ [12, 13, 41, 42] rfl (by decide +kernel)
set_option maxRecDepth 20000 in
theorem gX7_change_X6_hasTwoFrom : GoodIn wsX7_change (wsV RX7 170 RX6 yX6_hasTwoFrom wsX6_hasTwoFrom) := goodIn_app (goodIn_of _ (by decide +kernel)) ggX7_change_X6_hasTwoFrom
set_option maxRecDepth 20000 in
theorem ggX7_change_X3_meetsAt : GoodIn wsX7_change wsX3_meetsAt := goodIn_r _ [18, 19, 20, 21, 17, 22, 23, 43, 44, 45] rfl (by decide +kernel)
set_option maxRecDepth 20000 in
theorem gX7_change_X3_meetsAt : GoodIn wsX7_change (wsV RX7 108 RX3 yX3_meetsAt wsX3_meetsAt) := goodIn_app (goodIn_of _ (by decide +kernel)) ggX7_change_X3_meetsAt
set_option maxRecDepth 20000 in
theorem ggX7_change_X6_isInTurn : GoodIn wsX7_change wsX6_isInTurn := goodIn_r _ [27, 13, 28, 41, 42] rfl (by decide +kernel)
set_option maxRecDepth 20000 in
theorem gX7_change_X6_isInTurn : GoodIn wsX7_change (wsV RX7 176 RX6 yX6_isInTurn wsX6_isInTurn) := goodIn_app (goodIn_of _ (by decide +kernel)) ggX7_change_X6_isInTurn
theorem dX7_change_0 : decode cX7_change 0 = .ok (.iload_n 1, 1) := by decide +kernel
theorem dX7_change_1 : decode cX7_change 1 = .ok (.invokestatic 128, 3) := by decide +kernel
theorem dX7_change_4 : decode cX7_change 4 = .ok (.ifCond .eq 16, 3) := by decide +kernel
theorem dX7_change_7 : decode cX7_change 7 = .ok (.aload_n 0, 1) := by decide +kernel
theorem dX7_change_8 : decode cX7_change 8 = .ok (.getfield 25, 3) := by decide +kernel
theorem dX7_change_11 : decode cX7_change 11 = .ok (.iload_n 1, 1) := by decide +kernel
theorem dX7_change_12 : decode cX7_change 12 = .ok (.aaload, 1) := by decide +kernel
theorem dX7_change_13 : decode cX7_change 13 = .ok (.iload_n 2, 1) := by decide +kernel
theorem dX7_change_14 : decode cX7_change 14 = .ok (.invokevirtual 170, 3) := by decide +kernel
theorem dX7_change_17 : decode cX7_change 17 = .ok (.ifCond .ne 5, 3) := by decide +kernel
theorem dX7_change_20 : decode cX7_change 20 = .ok (.iconst (-1), 1) := by decide +kernel
theorem dX7_change_21 : decode cX7_change 21 = .ok (.ireturn, 1) := by decide +kernel
theorem dX7_change_22 : decode cX7_change 22 = .ok (.aload_n 0, 1) := by decide +kernel
theorem dX7_change_23 : decode cX7_change 23 = .ok (.getfield 25, 3) := by decide +kernel
theorem dX7_change_26 : decode cX7_change 26 = .ok (.iload_n 1, 1) := by decide +kernel
theorem dX7_change_27 : decode cX7_change 27 = .ok (.aaload, 1) := by decide +kernel
theorem dX7_change_28 : decode cX7_change 28 = .ok (.astore_n 3, 1) := by decide +kernel
theorem dX7_change_29 : decode cX7_change 29 = .ok (.aload_n 3, 1) := by decide +kernel
theorem dX7_change_30 : decode cX7_change 30 = .ok (.getfield 157, 3) := by decide +kernel
theorem dX7_change_33 : decode cX7_change 33 = .ok (.iload_n 2, 1) := by decide +kernel
theorem dX7_change_34 : decode cX7_change 34 = .ok (.iaload, 1) := by decide +kernel
theorem dX7_change_35 : decode cX7_change 35 = .ok (.istore 4, 2) := by decide +kernel
theorem dX7_change_37 : decode cX7_change 37 = .ok (.aload_n 3, 1) := by decide +kernel
theorem dX7_change_38 : decode cX7_change 38 = .ok (.getfield 157, 3) := by decide +kernel
theorem dX7_change_41 : decode cX7_change 41 = .ok (.iload_n 2, 1) := by decide +kernel
theorem dX7_change_42 : decode cX7_change 42 = .ok (.iconst 1, 1) := by decide +kernel
theorem dX7_change_43 : decode cX7_change 43 = .ok (.iadd, 1) := by decide +kernel
theorem dX7_change_44 : decode cX7_change 44 = .ok (.iaload, 1) := by decide +kernel
theorem dX7_change_45 : decode cX7_change 45 = .ok (.istore 5, 2) := by decide +kernel
theorem dX7_change_47 : decode cX7_change 47 = .ok (.aload_n 0, 1) := by decide +kernel
theorem dX7_change_48 : decode cX7_change 48 = .ok (.getfield 12, 3) := by decide +kernel
theorem dX7_change_51 : decode cX7_change 51 = .ok (.iload 4, 2) := by decide +kernel
theorem dX7_change_53 : decode cX7_change 53 = .ok (.iload 5, 2) := by decide +kernel
theorem dX7_change_55 : decode cX7_change 55 = .ok (.invokevirtual 108, 3) := by decide +kernel
theorem dX7_change_58 : decode cX7_change 58 = .ok (.istore 6, 2) := by decide +kernel
theorem dX7_change_60 : decode cX7_change 60 = .ok (.iload 4, 2) := by decide +kernel
theorem dX7_change_62 : decode cX7_change 62 = .ok (.iload 5, 2) := by decide +kernel
theorem dX7_change_64 : decode cX7_change 64 = .ok (.if_icmp .eq 18, 3) := by decide +kernel
theorem dX7_change_67 : decode cX7_change 67 = .ok (.iload 6, 2) := by decide +kernel
theorem dX7_change_69 : decode cX7_change 69 = .ok (.ifCond .eq 13, 3) := by decide +kernel
theorem dX7_change_72 : decode cX7_change 72 = .ok (.aload_n 3, 1) := by decide +kernel
theorem dX7_change_73 : decode cX7_change 73 = .ok (.iload_n 2, 1) := by decide +kernel
theorem dX7_change_74 : decode cX7_change 74 = .ok (.iload 6, 2) := by decide +kernel
theorem dX7_change_76 : decode cX7_change 76 = .ok (.invokevirtual 176, 3) := by decide +kernel
theorem dX7_change_79 : decode cX7_change 79 = .ok (.ifCond .ne 6, 3) := by decide +kernel
theorem dX7_change_82 : decode cX7_change 82 = .ok (.bipush (-2), 2) := by decide +kernel
theorem dX7_change_84 : decode cX7_change 84 = .ok (.ireturn, 1) := by decide +kernel
theorem dX7_change_85 : decode cX7_change 85 = .ok (.iconst 0, 1) := by decide +kernel
theorem dX7_change_86 : decode cX7_change 86 = .ok (.istore 7, 2) := by decide +kernel
theorem dX7_change_88 : decode cX7_change 88 = .ok (.iload 7, 2) := by decide +kernel
theorem dX7_change_90 : decode cX7_change 90 = .ok (.iload 6, 2) := by decide +kernel
theorem dX7_change_92 : decode cX7_change 92 = .ok (.if_icmp .ge 32, 3) := by decide +kernel
theorem dX7_change_95 : decode cX7_change 95 = .ok (.aload_n 3, 1) := by decide +kernel
theorem dX7_change_96 : decode cX7_change 96 = .ok (.getfield 157, 3) := by decide +kernel
theorem dX7_change_99 : decode cX7_change 99 = .ok (.iload_n 2, 1) := by decide +kernel
theorem dX7_change_100 : decode cX7_change 100 = .ok (.iload 7, 2) := by decide +kernel
theorem dX7_change_102 : decode cX7_change 102 = .ok (.iadd, 1) := by decide +kernel
theorem dX7_change_103 : decode cX7_change 103 = .ok (.iload 7, 2) := by decide +kernel
theorem dX7_change_105 : decode cX7_change 105 = .ok (.iconst 2, 1) := by decide +kernel
theorem dX7_change_106 : decode cX7_change 106 = .ok (.irem, 1) := by decide +kernel
theorem dX7_change_107 : decode cX7_change 107 = .ok (.ifCond .ne 8, 3) := by decide +kernel
theorem dX7_change_110 : decode cX7_change 110 = .ok (.iload 5, 2) := by decide +kernel
theorem dX7_change_112 : decode cX7_change 112 = .ok (.goto 5, 3) := by decide +kernel
theorem dX7_change_115 : decode cX7_change 115 = .ok (.iload 4, 2) := by decide +kernel
theorem dX7_change_117 : decode cX7_change 117 = .ok (.iastore, 1) := by decide +kernel
theorem dX7_change_118 : decode cX7_change 118 = .ok (.iinc 7 1, 3) := by decide +kernel
theorem dX7_change_121 : decode cX7_change 121 = .ok (.goto (-33), 3) := by decide +kernel
theorem dX7_change_124 : decode cX7_change 124 = .ok (.iload 6, 2) := by decide +kernel
theorem dX7_change_126 : decode cX7_change 126 = .ok (.ireturn, 1) := by decide +kernel
set_option maxRecDepth 20000 in
theorem ggX7_shorten_X7_isSlot : GoodIn wsX7_shorten wsX7_isSlot := goodIn_r _ [7] rfl (by decide +kernel)
set_option maxRecDepth 20000 in
theorem gX7_shorten_X7_isSlot : GoodIn wsX7_shorten (va_wsS RX7 128 yX7_isSlot wsX7_isSlot) := goodIn_app (goodIn_of _ (by decide +kernel)) ggX7_shorten_X7_isSlot
set_option maxRecDepth 20000 in
theorem ggX7_shorten_X5_makeShort : GoodIn wsX7_shorten wsX5_makeShort := goodIn_r _ [12, 13, 14, 15, 16, 17, 11, 18, 19, 20, 21, 6, 22, 23, 24, 25, 26, 27, 28, 29, 30, 31, 32, 33, 34, 35, 36, 37, 38, 39, 40, 41, 42, 43, 44, 45, 46, 47, 48, 49, 50, 51, 52, 53, 54, 55, 56, 78, 79, 80, 81, 82, 83, 84, 85] rfl (by decide +kernel)
set_option maxRecDepth 20000 in
theorem gX7_shorten_X5_makeShort : GoodIn wsX7_shorten (wsV RX7 179 RX5 yX5_makeShort wsX5_makeShort) := goodIn_app (goodIn_of _ (by decide +kernel)) ggX7_shorten_X5_makeShort
set_option maxRecDepth 20000 in
theorem ggX7_shorten_X7_store : GoodIn wsX7_shorten wsX7_store := goodIn_r _ [60, 2, 61, 62, 63, 64, 45, 65, 47, 48, 53, 54, 55, 56, 66, 67, 68, 69, 70, 71, 72, 73, 74, 75, 76, 77, 78, 79] rfl (by decide +kernel)
set_option maxRecDepth 20000 in
theorem gX7_shorten_X7_store : GoodIn wsX7_shorten (wsV RX7 153 RX7 yX7_store wsX7_store) := goodIn_app (goodIn_of _ (by decide +kernel)) ggX7_shorten_X7_store
theorem dX7_shorten_0 : decode cX7_shorten 0 = .ok (.iload_n 1, 1) := by decide +kernel
theorem dX7_shorten_1 : decode cX7_shorten 1 = .ok (.invokestatic 128, 3) := by decide +kernel
theorem dX7_shorten_4 : decode cX7_shorten 4 = .ok (.ifCond .eq 10, 3) := by decide +kernel
theorem dX7_shorten_7 : decode cX7_shorten 7 = .ok (.iload_n 2, 1) := by decide +kernel
theorem dX7_shorten_8 : decode cX7_shorten 8 = .ok (.invokestatic 128, 3) := by decide +kernel
theorem dX7_shorten_11 : decode cX7_shorten 11 = .ok (.ifCond .ne 5, 3) := by decide +kernel
theorem dX7_shorten_14 : decode cX7_shorten 14 = .ok (.iconst (-1), 1) := by decide +kernel
theorem dX7_shorten_15 : decode cX7_shorten 15 = .ok (.ireturn, 1) := by decide +kernel
theorem dX7_shorten_16 : decode cX7_shorten 16 = .ok (.aload_n 0, 1) := by decide +kernel
theorem dX7_shorten_17 : decode cX7_shorten 17 = .ok (.getfield 40, 3) := by decide +kernel
theorem dX7_shorten_20 : decode cX7_shorten 20 = .ok (.aload_n 0, 1) := by decide +kernel
theorem dX7_shorten_21 : decode cX7_shorten 21 = .ok (.getfield 25, 3) := by decide +kernel
theorem dX7_shorten_24 : decode cX7_shorten 24 = .ok (.iload_n 1, 1) := by decide +kernel
theorem dX7_shorten_25 : decode cX7_shorten 25 = .ok (.aaload, 1) := by decide +kernel
theorem dX7_shorten_26 : decode cX7_shorten 26 = .ok (.aload_n 0, 1) := by decide +kernel
theorem dX7_shorten_27 : decode cX7_shorten 27 = .ok (.getfield 59, 3) := by decide +kernel
theorem dX7_shorten_30 : decode cX7_shorten 30 = .ok (.invokevirtual 179, 3) := by decide +kernel
theorem dX7_shorten_33 : decode cX7_shorten 33 = .ok (.ifCond .eq 15, 3) := by decide +kernel
theorem dX7_shorten_36 : decode cX7_shorten 36 = .ok (.aload_n 0, 1) := by decide +kernel
theorem dX7_shorten_37 : decode cX7_shorten 37 = .ok (.aload_n 0, 1) := by decide +kernel
theorem dX7_shorten_38 : decode cX7_shorten 38 = .ok (.getfield 59, 3) := by decide +kernel
theorem dX7_shorten_41 : decode cX7_shorten 41 = .ok (.iload_n 2, 1) := by decide +kernel
theorem dX7_shorten_42 : decode cX7_shorten 42 = .ok (.invokevirtual 153, 3) := by decide +kernel
theorem dX7_shorten_45 : decode cX7_shorten 45 = .ok (.goto 5, 3) := by decide +kernel
theorem dX7_shorten_48 : decode cX7_shorten 48 = .ok (.bipush (-4), 2) := by decide +kernel
theorem dX7_shorten_50 : decode cX7_shorten 50 = .ok (.ireturn, 1) := by decide +kernel
set_option maxRecDepth 20000 in
theorem ggX7_form_X7_isSlot : GoodIn wsX7_form wsX7_isSlot := goodIn_r _ [7] rfl (by decide +kernel)
set_option maxRecDepth 20000 in
theorem gX7_form_X7_isSlot : GoodIn wsX7_form (va_wsS RX7 128 yX7_isSlot wsX7_isSlot) := goodIn_app (goodIn_of _ (by decide +kernel)) ggX7_form_X7_isSlot
set_option maxRecDepth 20000 in
theorem ggX7_form_X5_makeForm : GoodIn wsX7_form wsX5_makeForm := goodIn_r _ [12, 13, 14, 15, 16, 17, 11, 18, 19, 20, 21, 22, 23, 24, 25, 26, 6, 27, 28, 29, 30, 31, 32, 33, 34, 35, 36, 37, 38, 39, 40, 41, 42, 43, 44, 45, 46, 47, 48, 49, 50, 51, 52, 53, 54, 55, 56, 57, 58, 59, 60, 61, 62, 63, 64, 65, 66, 67, 68, 69, 70, 71, 72, 73, 74, 96, 97, 98, 99, 100, 101, 102, 103] rfl (by decide +kernel)
set_option maxRecDepth 20000 in
theorem gX7_form_X5_makeForm : GoodIn wsX7_form (wsV RX7 183 RX5 yX5_makeForm wsX5_makeForm) := goodIn_app (goodIn_of _ (by decide +kernel)) ggX7_form_X5_makeForm
set_option maxRecDepth 20000 in
theorem ggX7_form_X7_store : GoodIn wsX7_form wsX7_store := goodIn_r _ [78, 2, 79, 80, 81, 82, 50, 83, 52, 53, 58, 59, 60, 61, 84, 85, 86, 87, 88, 89, 90, 91, 92, 93, 94, 95, 99, 100] rfl (by decide +kernel)
set_option maxRecDepth 20000 in
theorem gX7_form_X7_store : GoodIn wsX7_form (wsV RX7 153 RX7 yX7_store wsX7_store) := goodIn_app (goodIn_of _ (by decide +kernel)) ggX7_form_X7_store
theorem dX7_form_0 : decode cX7_form 0 = .ok (.iload_n 1, 1) := by decide +kernel
theorem dX7_form_1 : decode cX7_form 1 = .ok (.invokestatic 128, 3) := by decide +kernel
theorem dX7_form_4 : decode cX7_form 4 = .ok (.ifCond .eq 10, 3) := by decide +kernel
theorem dX7_form_7 : decode cX7_form 7 = .ok (.iload_n 2, 1) := by decide +kernel
theorem dX7_form_8 : decode cX7_form 8 = .ok (.invokestatic 128, 3) := by decide +kernel
theorem dX7_form_11 : decode cX7_form 11 = .ok (.ifCond .ne 5, 3) := by decide +kernel
theorem dX7_form_14 : decode cX7_form 14 = .ok (.iconst (-1), 1) := by decide +kernel
theorem dX7_form_15 : decode cX7_form 15 = .ok (.ireturn, 1) := by decide +kernel
theorem dX7_form_16 : decode cX7_form 16 = .ok (.aload_n 0, 1) := by decide +kernel
theorem dX7_form_17 : decode cX7_form 17 = .ok (.getfield 40, 3) := by decide +kernel
theorem dX7_form_20 : decode cX7_form 20 = .ok (.aload_n 0, 1) := by decide +kernel
theorem dX7_form_21 : decode cX7_form 21 = .ok (.getfield 25, 3) := by decide +kernel
theorem dX7_form_24 : decode cX7_form 24 = .ok (.iload_n 1, 1) := by decide +kernel
theorem dX7_form_25 : decode cX7_form 25 = .ok (.aaload, 1) := by decide +kernel
theorem dX7_form_26 : decode cX7_form 26 = .ok (.aload_n 0, 1) := by decide +kernel
theorem dX7_form_27 : decode cX7_form 27 = .ok (.getfield 59, 3) := by decide +kernel
theorem dX7_form_30 : decode cX7_form 30 = .ok (.invokevirtual 183, 3) := by decide +kernel
theorem dX7_form_33 : decode cX7_form 33 = .ok (.ifCond .eq 15, 3) := by decide +kernel
theorem dX7_form_36 : decode cX7_form 36 = .ok (.aload_n 0, 1) := by decide +kernel
theorem dX7_form_37 : decode cX7_form 37 = .ok (.aload_n 0, 1) := by decide +kernel
theorem dX7_form_38 : decode cX7_form 38 = .ok (.getfield 59, 3) := by decide +kernel
theorem dX7_form_41 : decode cX7_form 41 = .ok (.iload_n 2, 1) := by decide +kernel
theorem dX7_form_42 : decode cX7_form 42 = .ok (.invokevirtual 153, 3) := by decide +kernel
theorem dX7_form_45 : decode cX7_form 45 = .ok (.goto 5, 3) := by decide +kernel
theorem dX7_form_48 : decode cX7_form 48 = .ok (.bipush (-4), 2) := by decide +kernel
theorem dX7_form_50 : decode cX7_form 50 = .ok (.ireturn, 1) := by decide +kernel
set_option maxRecDepth 20000 in
theorem ggX7_same_X7_isSlot : GoodIn wsX7_same wsX7_isSlot := goodIn_r _ [8] rfl (by decide +kernel)
set_option maxRecDepth 20000 in
theorem gX7_same_X7_isSlot : GoodIn wsX7_same (va_wsS RX7 128 yX7_isSlot wsX7_isSlot) := goodIn_app (goodIn_of _ (by decide +kernel)) ggX7_same_X7_isSlot
set_option maxRecDepth 20000 in
theorem ggX7_same_X5_makeForm : GoodIn wsX7_same wsX5_makeForm := goodIn_r _ [13, 14, 15, 16, 17, 18, 12, 19, 20, 21, 22, 23, 24, 25, 26, 27, 7, 28, 29, 30, 31, 32, 33, 34, 35, 36, 37, 38, 39, 40, 41, 42, 43, 44, 45, 46, 47, 48, 49, 50, 51, 52, 53, 54, 55, 56, 57, 58, 59, 60, 61, 62, 63, 64, 65, 66, 67, 68, 69, 70, 71, 72, 73, 74, 75, 92, 93, 94, 95, 96, 97, 98, 99] rfl (by decide +kernel)
set_option maxRecDepth 20000 in
theorem gX7_same_X5_makeForm : GoodIn wsX7_same (wsV RX7 183 RX5 yX5_makeForm wsX5_makeForm) := goodIn_app (goodIn_of _ (by decide +kernel)) ggX7_same_X5_makeForm
set_option maxRecDepth 20000 in
theorem ggX7_same_X6_isLike : GoodIn wsX7_same wsX6_isLike := goodIn_r _ [79, 54, 53, 95, 96] rfl (by decide +kernel)
set_option maxRecDepth 20000 in
theorem gX7_same_X6_isLike : GoodIn wsX7_same (wsV RX7 186 RX6 yX6_isLike wsX6_isLike) := goodIn_app (goodIn_of _ (by decide +kernel)) ggX7_same_X6_isLike
theorem dX7_same_0 : decode cX7_same 0 = .ok (.iload_n 1, 1) := by decide +kernel
theorem dX7_same_1 : decode cX7_same 1 = .ok (.invokestatic 128, 3) := by decide +kernel
theorem dX7_same_4 : decode cX7_same 4 = .ok (.ifCond .eq 10, 3) := by decide +kernel
theorem dX7_same_7 : decode cX7_same 7 = .ok (.iload_n 2, 1) := by decide +kernel
theorem dX7_same_8 : decode cX7_same 8 = .ok (.invokestatic 128, 3) := by decide +kernel
theorem dX7_same_11 : decode cX7_same 11 = .ok (.ifCond .ne 5, 3) := by decide +kernel
theorem dX7_same_14 : decode cX7_same 14 = .ok (.iconst (-1), 1) := by decide +kernel
theorem dX7_same_15 : decode cX7_same 15 = .ok (.ireturn, 1) := by decide +kernel
theorem dX7_same_16 : decode cX7_same 16 = .ok (.aload_n 0, 1) := by decide +kernel
theorem dX7_same_17 : decode cX7_same 17 = .ok (.getfield 40, 3) := by decide +kernel
theorem dX7_same_20 : decode cX7_same 20 = .ok (.aload_n 0, 1) := by decide +kernel
theorem dX7_same_21 : decode cX7_same 21 = .ok (.getfield 25, 3) := by decide +kernel
theorem dX7_same_24 : decode cX7_same 24 = .ok (.iload_n 1, 1) := by decide +kernel
theorem dX7_same_25 : decode cX7_same 25 = .ok (.aaload, 1) := by decide +kernel
theorem dX7_same_26 : decode cX7_same 26 = .ok (.aload_n 0, 1) := by decide +kernel
theorem dX7_same_27 : decode cX7_same 27 = .ok (.getfield 59, 3) := by decide +kernel
theorem dX7_same_30 : decode cX7_same 30 = .ok (.invokevirtual 183, 3) := by decide +kernel
theorem dX7_same_33 : decode cX7_same 33 = .ok (.ifCond .eq 23, 3) := by decide +kernel
theorem dX7_same_36 : decode cX7_same 36 = .ok (.aload_n 0, 1) := by decide +kernel
theorem dX7_same_37 : decode cX7_same 37 = .ok (.getfield 40, 3) := by decide +kernel
theorem dX7_same_40 : decode cX7_same 40 = .ok (.aload_n 0, 1) := by decide +kernel
theorem dX7_same_41 : decode cX7_same 41 = .ok (.getfield 25, 3) := by decide +kernel
theorem dX7_same_44 : decode cX7_same 44 = .ok (.iload_n 2, 1) := by decide +kernel
theorem dX7_same_45 : decode cX7_same 45 = .ok (.aaload, 1) := by decide +kernel
theorem dX7_same_46 : decode cX7_same 46 = .ok (.aload_n 0, 1) := by decide +kernel
theorem dX7_same_47 : decode cX7_same 47 = .ok (.getfield 63, 3) := by decide +kernel
theorem dX7_same_50 : decode cX7_same 50 = .ok (.invokevirtual 183, 3) := by decide +kernel
theorem dX7_same_53 : decode cX7_same 53 = .ok (.ifCond .ne 6, 3) := by decide +kernel
theorem dX7_same_56 : decode cX7_same 56 = .ok (.bipush (-4), 2) := by decide +kernel
theorem dX7_same_58 : decode cX7_same 58 = .ok (.ireturn, 1) := by decide +kernel
theorem dX7_same_59 : decode cX7_same 59 = .ok (.aload_n 0, 1) := by decide +kernel
theorem dX7_same_60 : decode cX7_same 60 = .ok (.getfield 59, 3) := by decide +kernel
theorem dX7_same_63 : decode cX7_same 63 = .ok (.aload_n 0, 1) := by decide +kernel
theorem dX7_same_64 : decode cX7_same 64 = .ok (.getfield 63, 3) := by decide +kernel
theorem dX7_same_67 : decode cX7_same 67 = .ok (.invokevirtual 186, 3) := by decide +kernel
theorem dX7_same_70 : decode cX7_same 70 = .ok (.ifCond .eq 7, 3) := by decide +kernel
theorem dX7_same_73 : decode cX7_same 73 = .ok (.iconst 1, 1) := by decide +kernel
theorem dX7_same_74 : decode cX7_same 74 = .ok (.goto 4, 3) := by decide +kernel
theorem dX7_same_77 : decode cX7_same 77 = .ok (.iconst 0, 1) := by decide +kernel
theorem dX7_same_78 : decode cX7_same 78 = .ok (.ireturn, 1) := by decide +kernel
set_option maxRecDepth 20000 in
theorem ggX7_downs_X7_isSlot : GoodIn wsX7_downs wsX7_isSlot := goodIn_r _ [9] rfl (by decide +kernel)
set_option maxRecDepth 20000 in
theorem gX7_downs_X7_isSlot : GoodIn wsX7_downs (va_wsS RX7 128 yX7_isSlot wsX7_isSlot) := goodIn_app (goodIn_of _ (by decide +kernel)) ggX7_downs_X7_isSlot
set_option maxRecDepth 20000 in
theorem ggX7_downs_X5_makeShort : GoodIn wsX7_downs wsX5_makeShort := goodIn_r _ [14, 15, 16, 17, 18, 19, 13, 20, 21, 22, 23, 8, 24, 25, 26, 27, 28, 29, 30, 31, 32, 33, 34, 35, 36, 37, 38, 39, 40, 41, 42, 43, 44, 45, 46, 47, 48, 49, 50, 51, 52, 53, 54, 55, 56, 57, 58, 79, 80, 81, 82, 83, 76, 77, 78] rfl (by decide +kernel)
set_option maxRecDepth 20000 in
theorem gX7_downs_X5_makeShort : GoodIn wsX7_downs (wsV RX7 179 RX5 yX5_makeShort wsX5_makeShort) := goodIn_app (goodIn_of _ (by decide +kernel)) ggX7_downs_X5_makeShort
set_option maxRecDepth 20000 in
theorem ggX7_downs_X5_goesAhead : GoodIn wsX7_downs wsX5_goesAhead := goodIn_r _ [62, 21, 15, 16, 22, 23, 8, 24, 25, 26, 27, 28, 29, 30, 31, 32, 33, 34, 35, 36, 37, 38, 39, 40, 41, 42, 43, 81, 82, 83, 79, 80, 76, 77, 78] rfl (by decide +kernel)
set_option maxRecDepth 20000 in
theorem gX7_downs_X5_goesAhead : GoodIn wsX7_downs (wsV RX7 190 RX5 yX5_goesAhead wsX5_goesAhead) := goodIn_app (goodIn_of _ (by decide +kernel)) ggX7_downs_X5_goesAhead
set_option maxRecDepth 20000 in
theorem ggX7_downs_X5_goesBehind : GoodIn wsX7_downs wsX5_goesBehind := goodIn_r _ [20, 21, 15, 16, 22, 23, 8, 24, 25, 26, 27, 28, 29, 30, 31, 32, 33, 34, 35, 36, 37, 38, 39, 40, 41, 42, 43, 81, 82, 83, 79, 80, 76, 77, 78] rfl (by decide +kernel)
set_option maxRecDepth 20000 in
theorem gX7_downs_X5_goesBehind : GoodIn wsX7_downs (wsV RX7 193 RX5 yX5_goesBehind wsX5_goesBehind) := goodIn_app (goodIn_of _ (by decide +kernel)) ggX7_downs_X5_goesBehind
theorem dX7_downs_0 : decode cX7_downs 0 = .ok (.iload_n 1, 1) := by decide +kernel
theorem dX7_downs_1 : decode cX7_downs 1 = .ok (.invokestatic 128, 3) := by decide +kernel
theorem dX7_downs_4 : decode cX7_downs 4 = .ok (.ifCond .ne 5, 3) := by decide +kernel
theorem dX7_downs_7 : decode cX7_downs 7 = .ok (.iconst (-1), 1) := by decide +kernel
theorem dX7_downs_8 : decode cX7_downs 8 = .ok (.ireturn, 1) := by decide +kernel
theorem dX7_downs_9 : decode cX7_downs 9 = .ok (.aload_n 0, 1) := by decide +kernel
theorem dX7_downs_10 : decode cX7_downs 10 = .ok (.getfield 40, 3) := by decide +kernel
theorem dX7_downs_13 : decode cX7_downs 13 = .ok (.aload_n 0, 1) := by decide +kernel
theorem dX7_downs_14 : decode cX7_downs 14 = .ok (.getfield 25, 3) := by decide +kernel
theorem dX7_downs_17 : decode cX7_downs 17 = .ok (.iload_n 1, 1) := by decide +kernel
theorem dX7_downs_18 : decode cX7_downs 18 = .ok (.aaload, 1) := by decide +kernel
theorem dX7_downs_19 : decode cX7_downs 19 = .ok (.aload_n 0, 1) := by decide +kernel
theorem dX7_downs_20 : decode cX7_downs 20 = .ok (.getfield 59, 3) := by decide +kernel
theorem dX7_downs_23 : decode cX7_downs 23 = .ok (.invokevirtual 179, 3) := by decide +kernel
theorem dX7_downs_26 : decode cX7_downs 26 = .ok (.ifCond .ne 6, 3) := by decide +kernel
theorem dX7_downs_29 : decode cX7_downs 29 = .ok (.bipush (-4), 2) := by decide +kernel
theorem dX7_downs_31 : decode cX7_downs 31 = .ok (.ireturn, 1) := by decide +kernel
theorem dX7_downs_32 : decode cX7_downs 32 = .ok (.iconst 0, 1) := by decide +kernel
theorem dX7_downs_33 : decode cX7_downs 33 = .ok (.istore_n 3, 1) := by decide +kernel
theorem dX7_downs_34 : decode cX7_downs 34 = .ok (.iconst 0, 1) := by decide +kernel
theorem dX7_downs_35 : decode cX7_downs 35 = .ok (.istore 4, 2) := by decide +kernel
theorem dX7_downs_37 : decode cX7_downs 37 = .ok (.iload 4, 2) := by decide +kernel
theorem dX7_downs_39 : decode cX7_downs 39 = .ok (.aload_n 0, 1) := by decide +kernel
theorem dX7_downs_40 : decode cX7_downs 40 = .ok (.getfield 12, 3) := by decide +kernel
theorem dX7_downs_43 : decode cX7_downs 43 = .ok (.getfield 83, 3) := by decide +kernel
theorem dX7_downs_46 : decode cX7_downs 46 = .ok (.if_icmp .ge 67, 3) := by decide +kernel
theorem dX7_downs_49 : decode cX7_downs 49 = .ok (.iload_n 2, 1) := by decide +kernel
theorem dX7_downs_50 : decode cX7_downs 50 = .ok (.ifCond .eq 19, 3) := by decide +kernel
theorem dX7_downs_53 : decode cX7_downs 53 = .ok (.aload_n 0, 1) := by decide +kernel
theorem dX7_downs_54 : decode cX7_downs 54 = .ok (.getfield 40, 3) := by decide +kernel
theorem dX7_downs_57 : decode cX7_downs 57 = .ok (.aload_n 0, 1) := by decide +kernel
theorem dX7_downs_58 : decode cX7_downs 58 = .ok (.getfield 59, 3) := by decide +kernel
theorem dX7_downs_61 : decode cX7_downs 61 = .ok (.iload 4, 2) := by decide +kernel
theorem dX7_downs_63 : decode cX7_downs 63 = .ok (.invokevirtual 190, 3) := by decide +kernel
theorem dX7_downs_66 : decode cX7_downs 66 = .ok (.goto 16, 3) := by decide +kernel
theorem dX7_downs_69 : decode cX7_downs 69 = .ok (.aload_n 0, 1) := by decide +kernel
theorem dX7_downs_70 : decode cX7_downs 70 = .ok (.getfield 40, 3) := by decide +kernel
theorem dX7_downs_73 : decode cX7_downs 73 = .ok (.aload_n 0, 1) := by decide +kernel
theorem dX7_downs_74 : decode cX7_downs 74 = .ok (.getfield 59, 3) := by decide +kernel
theorem dX7_downs_77 : decode cX7_downs 77 = .ok (.iload 4, 2) := by decide +kernel
theorem dX7_downs_79 : decode cX7_downs 79 = .ok (.invokevirtual 193, 3) := by decide +kernel
theorem dX7_downs_82 : decode cX7_downs 82 = .ok (.istore 5, 2) := by decide +kernel
theorem dX7_downs_84 : decode cX7_downs 84 = .ok (.iload 5, 2) := by decide +kernel
theorem dX7_downs_86 : decode cX7_downs 86 = .ok (.bipush (-4), 2) := by decide +kernel
theorem dX7_downs_88 : decode cX7_downs 88 = .ok (.if_icmp .ne 6, 3) := by decide +kernel
theorem dX7_downs_91 : decode cX7_downs 91 = .ok (.bipush (-4), 2) := by decide +kernel
theorem dX7_downs_93 : decode cX7_downs 93 = .ok (.ireturn, 1) := by decide +kernel
theorem dX7_downs_94 : decode cX7_downs 94 = .ok (.iload 5, 2) := by decide +kernel
theorem dX7_downs_96 : decode cX7_downs 96 = .ok (.iconst (-1), 1) := by decide +kernel
theorem dX7_downs_97 : decode cX7_downs 97 = .ok (.if_icmp .eq 10, 3) := by decide +kernel
theorem dX7_downs_100 : decode cX7_downs 100 = .ok (.iload_n 3, 1) := by decide +kernel
theorem dX7_downs_101 : decode cX7_downs 101 = .ok (.iconst 1, 1) := by decide +kernel
theorem dX7_downs_102 : decode cX7_downs 102 = .ok (.iload 4, 2) := by decide +kernel
theorem dX7_downs_104 : decode cX7_downs 104 = .ok (.ishl, 1) := by decide +kernel
theorem dX7_downs_105 : decode cX7_downs 105 = .ok (.ior, 1) := by decide +kernel
theorem dX7_downs_106 : decode cX7_downs 106 = .ok (.istore_n 3, 1) := by decide +kernel
theorem dX7_downs_107 : decode cX7_downs 107 = .ok (.iinc 4 1, 3) := by decide +kernel
theorem dX7_downs_110 : decode cX7_downs 110 = .ok (.goto (-73), 3) := by decide +kernel
theorem dX7_downs_113 : decode cX7_downs 113 = .ok (.iload_n 3, 1) := by decide +kernel
theorem dX7_downs_114 : decode cX7_downs 114 = .ok (.ireturn, 1) := by decide +kernel
set_option maxRecDepth 20000 in
theorem ggX7_does_X7_isSlot : GoodIn wsX7_does wsX7_isSlot := goodIn_r _ [10] rfl (by decide +kernel)
set_option maxRecDepth 20000 in
theorem gX7_does_X7_isSlot : GoodIn wsX7_does (va_wsS RX7 128 yX7_isSlot wsX7_isSlot) := goodIn_app (goodIn_of _ (by decide +kernel)) ggX7_does_X7_isSlot
set_option maxRecDepth 20000 in
theorem ggX7_does_X3_has : GoodIn wsX7_does wsX3_has := goodIn_r _ [15, 16, 54, 55, 56] rfl (by decide +kernel)
set_option maxRecDepth 20000 in
theorem gX7_does_X3_has : GoodIn wsX7_does (wsV RX7 97 RX3 yX3_has wsX3_has) := goodIn_app (goodIn_of _ (by decide +kernel)) ggX7_does_X3_has
set_option maxRecDepth 20000 in
theorem ggX7_does_X7_setOwn : GoodIn wsX7_does wsX7_setOwn := goodIn_r _ [19, 20, 21, 22, 23] rfl (by decide +kernel)
set_option maxRecDepth 20000 in
theorem gX7_does_X7_setOwn : GoodIn wsX7_does (va_wsS RX7 198 yX7_setOwn wsX7_setOwn) := goodIn_app (goodIn_of _ (by decide +kernel)) ggX7_does_X7_setOwn
set_option maxRecDepth 20000 in
theorem ggX7_does_X3_turnBy : GoodIn wsX7_does wsX3_turnBy := goodIn_r _ [27, 28, 29, 30, 31, 14, 32, 33, 34, 35, 36, 37, 38, 16, 39, 52, 53, 54, 55, 56] rfl (by decide +kernel)
set_option maxRecDepth 20000 in
theorem gX7_does_X3_turnBy : GoodIn wsX7_does (wsV RX7 202 RX3 yX3_turnBy wsX3_turnBy) := goodIn_app (goodIn_of _ (by decide +kernel)) ggX7_does_X3_turnBy
theorem dX7_does_0 : decode cX7_does 0 = .ok (.iload_n 1, 1) := by decide +kernel
theorem dX7_does_1 : decode cX7_does 1 = .ok (.invokestatic 128, 3) := by decide +kernel
theorem dX7_does_4 : decode cX7_does 4 = .ok (.ifCond .eq 25, 3) := by decide +kernel
theorem dX7_does_7 : decode cX7_does 7 = .ok (.aload_n 0, 1) := by decide +kernel
theorem dX7_does_8 : decode cX7_does 8 = .ok (.getfield 12, 3) := by decide +kernel
theorem dX7_does_11 : decode cX7_does 11 = .ok (.iload_n 2, 1) := by decide +kernel
theorem dX7_does_12 : decode cX7_does 12 = .ok (.invokevirtual 97, 3) := by decide +kernel
theorem dX7_does_15 : decode cX7_does 15 = .ok (.ifCond .eq 14, 3) := by decide +kernel
theorem dX7_does_18 : decode cX7_does 18 = .ok (.aload_n 0, 1) := by decide +kernel
theorem dX7_does_19 : decode cX7_does 19 = .ok (.getfield 12, 3) := by decide +kernel
theorem dX7_does_22 : decode cX7_does 22 = .ok (.iload_n 3, 1) := by decide +kernel
theorem dX7_does_23 : decode cX7_does 23 = .ok (.invokevirtual 97, 3) := by decide +kernel
theorem dX7_does_26 : decode cX7_does 26 = .ok (.ifCond .ne 7, 3) := by decide +kernel
theorem dX7_does_29 : decode cX7_does 29 = .ok (.ldc2_w 196, 3) := by decide +kernel
theorem dX7_does_32 : decode cX7_does 32 = .ok (.lreturn, 1) := by decide +kernel
theorem dX7_does_33 : decode cX7_does 33 = .ok (.aload_n 0, 1) := by decide +kernel
theorem dX7_does_34 : decode cX7_does 34 = .ok (.getfield 69, 3) := by decide +kernel
theorem dX7_does_37 : decode cX7_does 37 = .ok (.iload_n 2, 1) := by decide +kernel
theorem dX7_does_38 : decode cX7_does 38 = .ok (.invokestatic 198, 3) := by decide +kernel
theorem dX7_does_41 : decode cX7_does 41 = .ok (.aload_n 0, 1) := by decide +kernel
theorem dX7_does_42 : decode cX7_does 42 = .ok (.getfield 12, 3) := by decide +kernel
theorem dX7_does_45 : decode cX7_does 45 = .ok (.aload_n 0, 1) := by decide +kernel
theorem dX7_does_46 : decode cX7_does 46 = .ok (.getfield 25, 3) := by decide +kernel
theorem dX7_does_49 : decode cX7_does 49 = .ok (.iload_n 1, 1) := by decide +kernel
theorem dX7_does_50 : decode cX7_does 50 = .ok (.aaload, 1) := by decide +kernel
theorem dX7_does_51 : decode cX7_does 51 = .ok (.aload_n 0, 1) := by decide +kernel
theorem dX7_does_52 : decode cX7_does 52 = .ok (.getfield 25, 3) := by decide +kernel
theorem dX7_does_55 : decode cX7_does 55 = .ok (.iload_n 1, 1) := by decide +kernel
theorem dX7_does_56 : decode cX7_does 56 = .ok (.aaload, 1) := by decide +kernel
theorem dX7_does_57 : decode cX7_does 57 = .ok (.getfield 131, 3) := by decide +kernel
theorem dX7_does_60 : decode cX7_does 60 = .ok (.aload_n 0, 1) := by decide +kernel
theorem dX7_does_61 : decode cX7_does 61 = .ok (.getfield 69, 3) := by decide +kernel
theorem dX7_does_64 : decode cX7_does 64 = .ok (.invokevirtual 202, 3) := by decide +kernel
theorem dX7_does_67 : decode cX7_does 67 = .ok (.ifCond .eq 12, 3) := by decide +kernel
theorem dX7_does_70 : decode cX7_does 70 = .ok (.aload_n 0, 1) := by decide +kernel
theorem dX7_does_71 : decode cX7_does 71 = .ok (.getfield 69, 3) := by decide +kernel
theorem dX7_does_74 : decode cX7_does 74 = .ok (.iload_n 3, 1) := by decide +kernel
theorem dX7_does_75 : decode cX7_does 75 = .ok (.laload, 1) := by decide +kernel
theorem dX7_does_76 : decode cX7_does 76 = .ok (.goto 6, 3) := by decide +kernel
theorem dX7_does_79 : decode cX7_does 79 = .ok (.ldc2_w 206, 3) := by decide +kernel
theorem dX7_does_82 : decode cX7_does 82 = .ok (.lreturn, 1) := by decide +kernel
set_option maxRecDepth 20000 in
theorem ggX7_order_X7_isSlot : GoodIn wsX7_order wsX7_isSlot := goodIn_r _ [9] rfl (by decide +kernel)
set_option maxRecDepth 20000 in
theorem gX7_order_X7_isSlot : GoodIn wsX7_order (va_wsS RX7 128 yX7_isSlot wsX7_isSlot) := goodIn_app (goodIn_of _ (by decide +kernel)) ggX7_order_X7_isSlot
set_option maxRecDepth 20000 in
theorem ggX7_order_X7_setOwn : GoodIn wsX7_order wsX7_setOwn := goodIn_r _ [12, 13, 14, 15, 16] rfl (by decide +kernel)
set_option maxRecDepth 20000 in
theorem gX7_order_X7_setOwn : GoodIn wsX7_order (va_wsS RX7 198 yX7_setOwn wsX7_setOwn) := goodIn_app (goodIn_of _ (by decide +kernel)) ggX7_order_X7_setOwn
set_option maxRecDepth 20000 in
theorem ggX7_order_X3_turnBy : GoodIn wsX7_order wsX3_turnBy := goodIn_r _ [21, 22, 23, 24, 25, 20, 26, 27, 28, 29, 30, 31, 32, 33, 34, 53, 54, 50, 51, 52] rfl (by decide +kernel)
set_option maxRecDepth 20000 in
theorem gX7_order_X3_turnBy : GoodIn wsX7_order (wsV RX7 202 RX3 yX3_turnBy wsX3_turnBy) := goodIn_app (goodIn_of _ (by decide +kernel)) ggX7_order_X3_turnBy
set_option maxRecDepth 20000 in
theorem ggX7_order_X7_isOwn : GoodIn wsX7_order wsX7_isOwn := goodIn_r _ [37] rfl (by decide +kernel)
set_option maxRecDepth 20000 in
theorem gX7_order_X7_isOwn : GoodIn wsX7_order (va_wsS RX7 208 yX7_isOwn wsX7_isOwn) := goodIn_app (goodIn_of _ (by decide +kernel)) ggX7_order_X7_isOwn
theorem dX7_order_0 : decode cX7_order 0 = .ok (.iload_n 1, 1) := by decide +kernel
theorem dX7_order_1 : decode cX7_order 1 = .ok (.invokestatic 128, 3) := by decide +kernel
theorem dX7_order_4 : decode cX7_order 4 = .ok (.ifCond .ne 5, 3) := by decide +kernel
theorem dX7_order_7 : decode cX7_order 7 = .ok (.iconst (-1), 1) := by decide +kernel
theorem dX7_order_8 : decode cX7_order 8 = .ok (.ireturn, 1) := by decide +kernel
theorem dX7_order_9 : decode cX7_order 9 = .ok (.iconst 0, 1) := by decide +kernel
theorem dX7_order_10 : decode cX7_order 10 = .ok (.istore_n 2, 1) := by decide +kernel
theorem dX7_order_11 : decode cX7_order 11 = .ok (.iload_n 2, 1) := by decide +kernel
theorem dX7_order_12 : decode cX7_order 12 = .ok (.aload_n 0, 1) := by decide +kernel
theorem dX7_order_13 : decode cX7_order 13 = .ok (.getfield 12, 3) := by decide +kernel
theorem dX7_order_16 : decode cX7_order 16 = .ok (.getfield 83, 3) := by decide +kernel
theorem dX7_order_19 : decode cX7_order 19 = .ok (.if_icmp .ge 19, 3) := by decide +kernel
theorem dX7_order_22 : decode cX7_order 22 = .ok (.aload_n 0, 1) := by decide +kernel
theorem dX7_order_23 : decode cX7_order 23 = .ok (.getfield 75, 3) := by decide +kernel
theorem dX7_order_26 : decode cX7_order 26 = .ok (.iload_n 2, 1) := by decide +kernel
theorem dX7_order_27 : decode cX7_order 27 = .ok (.aaload, 1) := by decide +kernel
theorem dX7_order_28 : decode cX7_order 28 = .ok (.iload_n 2, 1) := by decide +kernel
theorem dX7_order_29 : decode cX7_order 29 = .ok (.invokestatic 198, 3) := by decide +kernel
theorem dX7_order_32 : decode cX7_order 32 = .ok (.iinc 2 1, 3) := by decide +kernel
theorem dX7_order_35 : decode cX7_order 35 = .ok (.goto (-24), 3) := by decide +kernel
theorem dX7_order_38 : decode cX7_order 38 = .ok (.iconst 1, 1) := by decide +kernel
theorem dX7_order_39 : decode cX7_order 39 = .ok (.istore_n 2, 1) := by decide +kernel
theorem dX7_order_40 : decode cX7_order 40 = .ok (.iload_n 2, 1) := by decide +kernel
theorem dX7_order_41 : decode cX7_order 41 = .ok (.bipush 30, 2) := by decide +kernel
theorem dX7_order_43 : decode cX7_order 43 = .ok (.if_icmp .gt 91, 3) := by decide +kernel
theorem dX7_order_46 : decode cX7_order 46 = .ok (.iconst 0, 1) := by decide +kernel
theorem dX7_order_47 : decode cX7_order 47 = .ok (.istore_n 3, 1) := by decide +kernel
theorem dX7_order_48 : decode cX7_order 48 = .ok (.iconst 0, 1) := by decide +kernel
theorem dX7_order_49 : decode cX7_order 49 = .ok (.istore 4, 2) := by decide +kernel
theorem dX7_order_51 : decode cX7_order 51 = .ok (.iload 4, 2) := by decide +kernel
theorem dX7_order_53 : decode cX7_order 53 = .ok (.aload_n 0, 1) := by decide +kernel
theorem dX7_order_54 : decode cX7_order 54 = .ok (.getfield 12, 3) := by decide +kernel
theorem dX7_order_57 : decode cX7_order 57 = .ok (.getfield 83, 3) := by decide +kernel
theorem dX7_order_60 : decode cX7_order 60 = .ok (.if_icmp .ge 62, 3) := by decide +kernel
theorem dX7_order_63 : decode cX7_order 63 = .ok (.aload_n 0, 1) := by decide +kernel
theorem dX7_order_64 : decode cX7_order 64 = .ok (.getfield 12, 3) := by decide +kernel
theorem dX7_order_67 : decode cX7_order 67 = .ok (.aload_n 0, 1) := by decide +kernel
theorem dX7_order_68 : decode cX7_order 68 = .ok (.getfield 25, 3) := by decide +kernel
theorem dX7_order_71 : decode cX7_order 71 = .ok (.iload_n 1, 1) := by decide +kernel
theorem dX7_order_72 : decode cX7_order 72 = .ok (.aaload, 1) := by decide +kernel
theorem dX7_order_73 : decode cX7_order 73 = .ok (.aload_n 0, 1) := by decide +kernel
theorem dX7_order_74 : decode cX7_order 74 = .ok (.getfield 25, 3) := by decide +kernel
theorem dX7_order_77 : decode cX7_order 77 = .ok (.iload_n 1, 1) := by decide +kernel
theorem dX7_order_78 : decode cX7_order 78 = .ok (.aaload, 1) := by decide +kernel
theorem dX7_order_79 : decode cX7_order 79 = .ok (.getfield 131, 3) := by decide +kernel
theorem dX7_order_82 : decode cX7_order 82 = .ok (.aload_n 0, 1) := by decide +kernel
theorem dX7_order_83 : decode cX7_order 83 = .ok (.getfield 75, 3) := by decide +kernel
theorem dX7_order_86 : decode cX7_order 86 = .ok (.iload 4, 2) := by decide +kernel
theorem dX7_order_88 : decode cX7_order 88 = .ok (.aaload, 1) := by decide +kernel
theorem dX7_order_89 : decode cX7_order 89 = .ok (.invokevirtual 202, 3) := by decide +kernel
theorem dX7_order_92 : decode cX7_order 92 = .ok (.ifCond .ne 6, 3) := by decide +kernel
theorem dX7_order_95 : decode cX7_order 95 = .ok (.bipush (-4), 2) := by decide +kernel
theorem dX7_order_97 : decode cX7_order 97 = .ok (.ireturn, 1) := by decide +kernel
theorem dX7_order_98 : decode cX7_order 98 = .ok (.aload_n 0, 1) := by decide +kernel
theorem dX7_order_99 : decode cX7_order 99 = .ok (.getfield 75, 3) := by decide +kernel
theorem dX7_order_102 : decode cX7_order 102 = .ok (.iload 4, 2) := by decide +kernel
theorem dX7_order_104 : decode cX7_order 104 = .ok (.aaload, 1) := by decide +kernel
theorem dX7_order_105 : decode cX7_order 105 = .ok (.iload 4, 2) := by decide +kernel
theorem dX7_order_107 : decode cX7_order 107 = .ok (.invokestatic 208, 3) := by decide +kernel
theorem dX7_order_110 : decode cX7_order 110 = .ok (.ifCond .ne 6, 3) := by decide +kernel
theorem dX7_order_113 : decode cX7_order 113 = .ok (.iinc 3 1, 3) := by decide +kernel
theorem dX7_order_116 : decode cX7_order 116 = .ok (.iinc 4 1, 3) := by decide +kernel
theorem dX7_order_119 : decode cX7_order 119 = .ok (.goto (-68), 3) := by decide +kernel
theorem dX7_order_122 : decode cX7_order 122 = .ok (.iload_n 3, 1) := by decide +kernel
theorem dX7_order_123 : decode cX7_order 123 = .ok (.ifCond .ne 5, 3) := by decide +kernel
theorem dX7_order_126 : decode cX7_order 126 = .ok (.iload_n 2, 1) := by decide +kernel
theorem dX7_order_127 : decode cX7_order 127 = .ok (.ireturn, 1) := by decide +kernel
theorem dX7_order_128 : decode cX7_order 128 = .ok (.iinc 2 1, 3) := by decide +kernel
theorem dX7_order_131 : decode cX7_order 131 = .ok (.goto (-91), 3) := by decide +kernel
theorem dX7_order_134 : decode cX7_order 134 = .ok (.bipush (-2), 2) := by decide +kernel
theorem dX7_order_136 : decode cX7_order 136 = .ok (.ireturn, 1) := by decide +kernel
set_option maxRecDepth 20000 in
theorem ggX7_below_X7_isSlot : GoodIn wsX7_below wsX7_isSlot := goodIn_r _ [10] rfl (by decide +kernel)
set_option maxRecDepth 20000 in
theorem gX7_below_X7_isSlot : GoodIn wsX7_below (va_wsS RX7 128 yX7_isSlot wsX7_isSlot) := goodIn_app (goodIn_of _ (by decide +kernel)) ggX7_below_X7_isSlot
set_option maxRecDepth 20000 in
theorem ggX7_below_X5_makeShort : GoodIn wsX7_below wsX5_makeShort := goodIn_r _ [15, 16, 17, 18, 19, 20, 14, 21, 22, 23, 24, 9, 25, 26, 27, 28, 29, 30, 31, 32, 33, 34, 35, 36, 37, 38, 39, 40, 41, 42, 43, 44, 45, 46, 47, 48, 49, 50, 51, 52, 53, 54, 55, 56, 57, 58, 59, 74, 75, 76, 77, 78, 79, 80, 81] rfl (by decide +kernel)
set_option maxRecDepth 20000 in
theorem gX7_below_X5_makeShort : GoodIn wsX7_below (wsV RX7 179 RX5 yX5_makeShort wsX5_makeShort) := goodIn_app (goodIn_of _ (by decide +kernel)) ggX7_below_X5_makeShort
set_option maxRecDepth 20000 in
theorem ggX7_below_X5_goesBehind : GoodIn wsX7_below wsX5_goesBehind := goodIn_r _ [21, 22, 16, 17, 23, 24, 9, 25, 26, 27, 28, 29, 30, 31, 32, 33, 34, 35, 36, 37, 38, 39, 40, 41, 42, 43, 44, 76, 77, 78, 74, 75, 79, 80, 81] rfl (by decide +kernel)
set_option maxRecDepth 20000 in
theorem gX7_below_X5_goesBehind : GoodIn wsX7_below (wsV RX7 193 RX5 yX5_goesBehind wsX5_goesBehind) := goodIn_app (goodIn_of _ (by decide +kernel)) ggX7_below_X5_goesBehind
set_option maxRecDepth 20000 in
theorem ggX7_below_X6_removeAt : GoodIn wsX7_below wsX6_removeAt := goodIn_r _ [55, 50, 51, 56, 57, 58, 59, 74, 75] rfl (by decide +kernel)
set_option maxRecDepth 20000 in
theorem gX7_below_X6_removeAt : GoodIn wsX7_below (wsV RX7 173 RX6 yX6_removeAt wsX6_removeAt) := goodIn_app (goodIn_of _ (by decide +kernel)) ggX7_below_X6_removeAt
theorem dX7_below_0 : decode cX7_below 0 = .ok (.iload_n 1, 1) := by decide +kernel
theorem dX7_below_1 : decode cX7_below 1 = .ok (.invokestatic 128, 3) := by decide +kernel
theorem dX7_below_4 : decode cX7_below 4 = .ok (.ifCond .eq 10, 3) := by decide +kernel
theorem dX7_below_7 : decode cX7_below 7 = .ok (.iload_n 2, 1) := by decide +kernel
theorem dX7_below_8 : decode cX7_below 8 = .ok (.invokestatic 128, 3) := by decide +kernel
theorem dX7_below_11 : decode cX7_below 11 = .ok (.ifCond .ne 5, 3) := by decide +kernel
theorem dX7_below_14 : decode cX7_below 14 = .ok (.iconst (-1), 1) := by decide +kernel
theorem dX7_below_15 : decode cX7_below 15 = .ok (.ireturn, 1) := by decide +kernel
theorem dX7_below_16 : decode cX7_below 16 = .ok (.aload_n 0, 1) := by decide +kernel
theorem dX7_below_17 : decode cX7_below 17 = .ok (.getfield 40, 3) := by decide +kernel
theorem dX7_below_20 : decode cX7_below 20 = .ok (.aload_n 0, 1) := by decide +kernel
theorem dX7_below_21 : decode cX7_below 21 = .ok (.getfield 25, 3) := by decide +kernel
theorem dX7_below_24 : decode cX7_below 24 = .ok (.iload_n 1, 1) := by decide +kernel
theorem dX7_below_25 : decode cX7_below 25 = .ok (.aaload, 1) := by decide +kernel
theorem dX7_below_26 : decode cX7_below 26 = .ok (.aload_n 0, 1) := by decide +kernel
theorem dX7_below_27 : decode cX7_below 27 = .ok (.getfield 59, 3) := by decide +kernel
theorem dX7_below_30 : decode cX7_below 30 = .ok (.invokevirtual 179, 3) := by decide +kernel
theorem dX7_below_33 : decode cX7_below 33 = .ok (.ifCond .eq 23, 3) := by decide +kernel
theorem dX7_below_36 : decode cX7_below 36 = .ok (.aload_n 0, 1) := by decide +kernel
theorem dX7_below_37 : decode cX7_below 37 = .ok (.getfield 40, 3) := by decide +kernel
theorem dX7_below_40 : decode cX7_below 40 = .ok (.aload_n 0, 1) := by decide +kernel
theorem dX7_below_41 : decode cX7_below 41 = .ok (.getfield 25, 3) := by decide +kernel
theorem dX7_below_44 : decode cX7_below 44 = .ok (.iload_n 2, 1) := by decide +kernel
theorem dX7_below_45 : decode cX7_below 45 = .ok (.aaload, 1) := by decide +kernel
theorem dX7_below_46 : decode cX7_below 46 = .ok (.aload_n 0, 1) := by decide +kernel
theorem dX7_below_47 : decode cX7_below 47 = .ok (.getfield 63, 3) := by decide +kernel
theorem dX7_below_50 : decode cX7_below 50 = .ok (.invokevirtual 179, 3) := by decide +kernel
theorem dX7_below_53 : decode cX7_below 53 = .ok (.ifCond .ne 6, 3) := by decide +kernel
theorem dX7_below_56 : decode cX7_below 56 = .ok (.bipush (-4), 2) := by decide +kernel
theorem dX7_below_58 : decode cX7_below 58 = .ok (.ireturn, 1) := by decide +kernel
theorem dX7_below_59 : decode cX7_below 59 = .ok (.aload_n 0, 1) := by decide +kernel
theorem dX7_below_60 : decode cX7_below 60 = .ok (.getfield 63, 3) := by decide +kernel
theorem dX7_below_63 : decode cX7_below 63 = .ok (.getfield 131, 3) := by decide +kernel
theorem dX7_below_66 : decode cX7_below 66 = .ok (.iconst 1, 1) := by decide +kernel
theorem dX7_below_67 : decode cX7_below 67 = .ok (.isub, 1) := by decide +kernel
theorem dX7_below_68 : decode cX7_below 68 = .ok (.istore_n 3, 1) := by decide +kernel
theorem dX7_below_69 : decode cX7_below 69 = .ok (.iload_n 3, 1) := by decide +kernel
theorem dX7_below_70 : decode cX7_below 70 = .ok (.ifCond .lt 56, 3) := by decide +kernel
theorem dX7_below_73 : decode cX7_below 73 = .ok (.aload_n 0, 1) := by decide +kernel
theorem dX7_below_74 : decode cX7_below 74 = .ok (.getfield 40, 3) := by decide +kernel
theorem dX7_below_77 : decode cX7_below 77 = .ok (.aload_n 0, 1) := by decide +kernel
theorem dX7_below_78 : decode cX7_below 78 = .ok (.getfield 59, 3) := by decide +kernel
theorem dX7_below_81 : decode cX7_below 81 = .ok (.aload_n 0, 1) := by decide +kernel
theorem dX7_below_82 : decode cX7_below 82 = .ok (.getfield 63, 3) := by decide +kernel
theorem dX7_below_85 : decode cX7_below 85 = .ok (.getfield 157, 3) := by decide +kernel
theorem dX7_below_88 : decode cX7_below 88 = .ok (.iload_n 3, 1) := by decide +kernel
theorem dX7_below_89 : decode cX7_below 89 = .ok (.iaload, 1) := by decide +kernel
theorem dX7_below_90 : decode cX7_below 90 = .ok (.invokevirtual 193, 3) := by decide +kernel
theorem dX7_below_93 : decode cX7_below 93 = .ok (.istore 4, 2) := by decide +kernel
theorem dX7_below_95 : decode cX7_below 95 = .ok (.iload 4, 2) := by decide +kernel
theorem dX7_below_97 : decode cX7_below 97 = .ok (.bipush (-4), 2) := by decide +kernel
theorem dX7_below_99 : decode cX7_below 99 = .ok (.if_icmp .ne 6, 3) := by decide +kernel
theorem dX7_below_102 : decode cX7_below 102 = .ok (.bipush (-4), 2) := by decide +kernel
theorem dX7_below_104 : decode cX7_below 104 = .ok (.ireturn, 1) := by decide +kernel
theorem dX7_below_105 : decode cX7_below 105 = .ok (.iload 4, 2) := by decide +kernel
theorem dX7_below_107 : decode cX7_below 107 = .ok (.iconst (-1), 1) := by decide +kernel
theorem dX7_below_108 : decode cX7_below 108 = .ok (.if_icmp .eq 12, 3) := by decide +kernel
theorem dX7_below_111 : decode cX7_below 111 = .ok (.aload_n 0, 1) := by decide +kernel
theorem dX7_below_112 : decode cX7_below 112 = .ok (.getfield 59, 3) := by decide +kernel
theorem dX7_below_115 : decode cX7_below 115 = .ok (.iload 4, 2) := by decide +kernel
theorem dX7_below_117 : decode cX7_below 117 = .ok (.invokevirtual 173, 3) := by decide +kernel
theorem dX7_below_120 : decode cX7_below 120 = .ok (.iinc 3 (-1), 3) := by decide +kernel
theorem dX7_below_123 : decode cX7_below 123 = .ok (.goto (-54), 3) := by decide +kernel
theorem dX7_below_126 : decode cX7_below 126 = .ok (.aload_n 0, 1) := by decide +kernel
theorem dX7_below_127 : decode cX7_below 127 = .ok (.getfield 59, 3) := by decide +kernel
theorem dX7_below_130 : decode cX7_below 130 = .ok (.getfield 131, 3) := by decide +kernel
theorem dX7_below_133 : decode cX7_below 133 = .ok (.ifCond .ne 7, 3) := by decide +kernel
theorem dX7_below_136 : decode cX7_below 136 = .ok (.iconst 1, 1) := by decide +kernel
theorem dX7_below_137 : decode cX7_below 137 = .ok (.goto 4, 3) := by decide +kernel
theorem dX7_below_140 : decode cX7_below 140 = .ok (.iconst 0, 1) := by decide +kernel
theorem dX7_below_141 : decode cX7_below 141 = .ok (.ireturn, 1) := by decide +kernel
set_option maxRecDepth 20000 in
theorem ggX7_roots_X4_reaches : GoodIn wsX7_roots wsX4_reaches := goodIn_r _ [6, 7, 8, 9, 10, 11, 5, 12, 13, 14, 15, 16, 17, 18, 19, 20, 21, 22, 23, 24, 25, 26, 27, 28, 29, 30, 31, 32, 33, 34, 35, 36, 37, 38, 39, 40, 41, 42, 43, 44, 45, 46, 47, 48, 49, 66, 67, 68, 69, 70, 71, 72, 73, 74] rfl (by decide +kernel)
set_option maxRecDepth 20000 in
theorem gX7_roots_X4_reaches : GoodIn wsX7_roots (wsV RX7 212 RX4 yX4_reaches wsX4_reaches) := goodIn_app (goodIn_of _ (by decide +kernel)) ggX7_roots_X4_reaches
set_option maxRecDepth 20000 in
theorem ggX7_roots_X4_ofHeight : GoodIn wsX7_roots wsX4_ofHeight := goodIn_r _ [53, 13, 66, 67, 68, 69, 70, 71] rfl (by decide +kernel)
set_option maxRecDepth 20000 in
theorem gX7_roots_X4_ofHeight : GoodIn wsX7_roots (wsV RX7 215 RX4 yX4_ofHeight wsX4_ofHeight) := goodIn_app (goodIn_of _ (by decide +kernel)) ggX7_roots_X4_ofHeight
theorem dX7_roots_0 : decode cX7_roots 0 = .ok (.iload_n 1, 1) := by decide +kernel
theorem dX7_roots_1 : decode cX7_roots 1 = .ok (.iconst 1, 1) := by decide +kernel
theorem dX7_roots_2 : decode cX7_roots 2 = .ok (.if_icmp .lt 9, 3) := by decide +kernel
theorem dX7_roots_5 : decode cX7_roots 5 = .ok (.iload_n 1, 1) := by decide +kernel
theorem dX7_roots_6 : decode cX7_roots 6 = .ok (.bipush 40, 2) := by decide +kernel
theorem dX7_roots_8 : decode cX7_roots 8 = .ok (.if_icmp .le 5, 3) := by decide +kernel
theorem dX7_roots_11 : decode cX7_roots 11 = .ok (.iconst (-1), 1) := by decide +kernel
theorem dX7_roots_12 : decode cX7_roots 12 = .ok (.ireturn, 1) := by decide +kernel
theorem dX7_roots_13 : decode cX7_roots 13 = .ok (.aload_n 0, 1) := by decide +kernel
theorem dX7_roots_14 : decode cX7_roots 14 = .ok (.getfield 47, 3) := by decide +kernel
theorem dX7_roots_17 : decode cX7_roots 17 = .ok (.iload_n 1, 1) := by decide +kernel
theorem dX7_roots_18 : decode cX7_roots 18 = .ok (.invokevirtual 212, 3) := by decide +kernel
theorem dX7_roots_21 : decode cX7_roots 21 = .ok (.ifCond .eq 14, 3) := by decide +kernel
theorem dX7_roots_24 : decode cX7_roots 24 = .ok (.aload_n 0, 1) := by decide +kernel
theorem dX7_roots_25 : decode cX7_roots 25 = .ok (.getfield 47, 3) := by decide +kernel
theorem dX7_roots_28 : decode cX7_roots 28 = .ok (.iload_n 1, 1) := by decide +kernel
theorem dX7_roots_29 : decode cX7_roots 29 = .ok (.invokevirtual 215, 3) := by decide +kernel
theorem dX7_roots_32 : decode cX7_roots 32 = .ok (.goto 5, 3) := by decide +kernel
theorem dX7_roots_35 : decode cX7_roots 35 = .ok (.bipush (-3), 2) := by decide +kernel
theorem dX7_roots_37 : decode cX7_roots 37 = .ok (.ireturn, 1) := by decide +kernel
set_option maxRecDepth 20000 in
theorem ggX7_root_X3_has : GoodIn wsX7_root wsX3_has := goodIn_r _ [7, 8, 76, 77, 78] rfl (by decide +kernel)
set_option maxRecDepth 20000 in
theorem gX7_root_X3_has : GoodIn wsX7_root (wsV RX7 97 RX3 yX3_has wsX3_has) := goodIn_app (goodIn_of _ (by decide +kernel)) ggX7_root_X3_has
set_option maxRecDepth 20000 in
theorem ggX7_root_X4_holds : GoodIn wsX7_root wsX4_holds := goodIn_r _ [13, 14, 15, 16, 17, 18, 12, 19, 20, 21, 22, 23, 24, 25, 26, 27, 28, 29, 30, 31, 32, 33, 34, 35, 36, 37, 38, 39, 40, 41, 42, 43, 44, 45, 46, 47, 48, 49, 50, 51, 52, 53, 54, 55, 56, 57, 6, 58, 59, 79, 80, 81, 82, 83, 84, 76, 77, 78] rfl (by decide +kernel)
set_option maxRecDepth 20000 in
theorem gX7_root_X4_holds : GoodIn wsX7_root (wsV RX7 218 RX4 yX4_holds wsX4_holds) := goodIn_app (goodIn_of _ (by decide +kernel)) ggX7_root_X4_holds
set_option maxRecDepth 20000 in
theorem ggX7_root_X4_numberOf : GoodIn wsX7_root wsX4_numberOf := goodIn_r _ [63, 28, 44, 45, 12, 46, 79, 80, 81, 82, 83, 84] rfl (by decide +kernel)
set_option maxRecDepth 20000 in
theorem gX7_root_X4_numberOf : GoodIn wsX7_root (wsV RX7 221 RX4 yX4_numberOf wsX4_numberOf) := goodIn_app (goodIn_of _ (by decide +kernel)) ggX7_root_X4_numberOf
theorem dX7_root_0 : decode cX7_root 0 = .ok (.iload_n 1, 1) := by decide +kernel
theorem dX7_root_1 : decode cX7_root 1 = .ok (.ifCond .lt 25, 3) := by decide +kernel
theorem dX7_root_4 : decode cX7_root 4 = .ok (.aload_n 0, 1) := by decide +kernel
theorem dX7_root_5 : decode cX7_root 5 = .ok (.getfield 12, 3) := by decide +kernel
theorem dX7_root_8 : decode cX7_root 8 = .ok (.iload_n 2, 1) := by decide +kernel
theorem dX7_root_9 : decode cX7_root 9 = .ok (.invokevirtual 97, 3) := by decide +kernel
theorem dX7_root_12 : decode cX7_root 12 = .ok (.ifCond .eq 14, 3) := by decide +kernel
theorem dX7_root_15 : decode cX7_root 15 = .ok (.aload_n 0, 1) := by decide +kernel
theorem dX7_root_16 : decode cX7_root 16 = .ok (.getfield 47, 3) := by decide +kernel
theorem dX7_root_19 : decode cX7_root 19 = .ok (.iload_n 1, 1) := by decide +kernel
theorem dX7_root_20 : decode cX7_root 20 = .ok (.invokevirtual 218, 3) := by decide +kernel
theorem dX7_root_23 : decode cX7_root 23 = .ok (.ifCond .ne 5, 3) := by decide +kernel
theorem dX7_root_26 : decode cX7_root 26 = .ok (.iconst (-1), 1) := by decide +kernel
theorem dX7_root_27 : decode cX7_root 27 = .ok (.ireturn, 1) := by decide +kernel
theorem dX7_root_28 : decode cX7_root 28 = .ok (.aload_n 0, 1) := by decide +kernel
theorem dX7_root_29 : decode cX7_root 29 = .ok (.getfield 47, 3) := by decide +kernel
theorem dX7_root_32 : decode cX7_root 32 = .ok (.iload_n 1, 1) := by decide +kernel
theorem dX7_root_33 : decode cX7_root 33 = .ok (.iload_n 2, 1) := by decide +kernel
theorem dX7_root_34 : decode cX7_root 34 = .ok (.invokevirtual 221, 3) := by decide +kernel
theorem dX7_root_37 : decode cX7_root 37 = .ok (.ireturn, 1) := by decide +kernel
set_option maxRecDepth 20000 in
theorem ggX7_ends_X4_countAll : GoodIn wsX7_ends wsX4_countAll := goodIn_r _ [6, 7, 8, 9, 10, 11, 12, 13, 5, 14, 15, 16, 17, 18, 19, 20, 21, 22, 23, 24, 25, 26, 27, 28, 29, 30, 31, 32, 33, 34, 35, 36, 37, 38, 39, 40, 41, 42, 43, 44, 45, 46, 47, 48, 49, 50, 51, 52, 53, 66, 67, 68, 69, 70, 71, 72, 73, 74] rfl (by decide +kernel)
set_option maxRecDepth 20000 in
theorem gX7_ends_X4_countAll : GoodIn wsX7_ends (wsV RX7 224 RX4 yX4_countAll wsX4_countAll) := goodIn_app (goodIn_of _ (by decide +kernel)) ggX7_ends_X4_countAll
theorem dX7_ends_0 : decode cX7_ends 0 = .ok (.aload_n 0, 1) := by decide +kernel
theorem dX7_ends_1 : decode cX7_ends 1 = .ok (.getfield 47, 3) := by decide +kernel
theorem dX7_ends_4 : decode cX7_ends 4 = .ok (.invokevirtual 224, 3) := by decide +kernel
theorem dX7_ends_7 : decode cX7_ends 7 = .ok (.ireturn, 1) := by decide +kernel
set_option maxRecDepth 20000 in
theorem ggX7_count_X4_countAll : GoodIn wsX7_count wsX4_countAll := goodIn_r _ [7, 8, 9, 10, 11, 12, 13, 14, 6, 15, 16, 17, 18, 19, 20, 21, 22, 23, 24, 25, 26, 27, 28, 29, 30, 31, 32, 33, 34, 35, 36, 37, 38, 39, 40, 41, 42, 43, 44, 45, 46, 47, 48, 49, 50, 51, 52, 53, 54, 75, 76, 77, 78, 79, 80, 81, 82, 83] rfl (by decide +kernel)
set_option maxRecDepth 20000 in
theorem gX7_count_X4_countAll : GoodIn wsX7_count (wsV RX7 224 RX4 yX4_countAll wsX4_countAll) := goodIn_app (goodIn_of _ (by decide +kernel)) ggX7_count_X4_countAll
set_option maxRecDepth 20000 in
theorem ggX7_count_X4_countWords : GoodIn wsX7_count wsX4_countWords := goodIn_r _ [58, 59, 60, 61, 6, 62, 8, 75, 76, 77, 78, 79, 80] rfl (by decide +kernel)
set_option maxRecDepth 20000 in
theorem gX7_count_X4_countWords : GoodIn wsX7_count (wsV RX7 230 RX4 yX4_countWords wsX4_countWords) := goodIn_app (goodIn_of _ (by decide +kernel)) ggX7_count_X4_countWords
theorem dX7_count_0 : decode cX7_count 0 = .ok (.aload_n 0, 1) := by decide +kernel
theorem dX7_count_1 : decode cX7_count 1 = .ok (.getfield 47, 3) := by decide +kernel
theorem dX7_count_4 : decode cX7_count 4 = .ok (.invokevirtual 224, 3) := by decide +kernel
theorem dX7_count_7 : decode cX7_count 7 = .ok (.bipush (-2), 2) := by decide +kernel
theorem dX7_count_9 : decode cX7_count 9 = .ok (.if_icmp .ne 9, 3) := by decide +kernel
theorem dX7_count_12 : decode cX7_count 12 = .ok (.ldc2_w 228, 3) := by decide +kernel
theorem dX7_count_15 : decode cX7_count 15 = .ok (.goto 10, 3) := by decide +kernel
theorem dX7_count_18 : decode cX7_count 18 = .ok (.aload_n 0, 1) := by decide +kernel
theorem dX7_count_19 : decode cX7_count 19 = .ok (.getfield 47, 3) := by decide +kernel
theorem dX7_count_22 : decode cX7_count 22 = .ok (.invokevirtual 230, 3) := by decide +kernel
theorem dX7_count_25 : decode cX7_count 25 = .ok (.lreturn, 1) := by decide +kernel
set_option maxRecDepth 20000 in
theorem ggX7_longest_X7_isSlot : GoodIn wsX7_longest wsX7_isSlot := goodIn_r _ [8] rfl (by decide +kernel)
set_option maxRecDepth 20000 in
theorem gX7_longest_X7_isSlot : GoodIn wsX7_longest (va_wsS RX7 128 yX7_isSlot wsX7_isSlot) := goodIn_app (goodIn_of _ (by decide +kernel)) ggX7_longest_X7_isSlot
set_option maxRecDepth 20000 in
theorem ggX7_longest_X4_countAll : GoodIn wsX7_longest wsX4_countAll := goodIn_r _ [13, 14, 15, 16, 17, 18, 19, 20, 12, 21, 22, 23, 24, 25, 26, 27, 28, 29, 30, 31, 32, 33, 34, 35, 36, 37, 38, 39, 40, 41, 42, 43, 44, 45, 46, 47, 48, 49, 50, 51, 52, 53, 54, 55, 56, 57, 58, 59, 60, 125, 126, 127, 128, 129, 130, 131, 132, 133] rfl (by decide +kernel)
set_option maxRecDepth 20000 in
theorem gX7_longest_X4_countAll : GoodIn wsX7_longest (wsV RX7 224 RX4 yX4_countAll wsX4_countAll) := goodIn_app (goodIn_of _ (by decide +kernel)) ggX7_longest_X4_countAll
set_option maxRecDepth 20000 in
theorem ggX7_longest_X5_leastUp : GoodIn wsX7_longest wsX5_leastUp := goodIn_r _ [65, 66, 67, 68, 69, 70, 64, 71, 72, 73, 74, 75, 7, 76, 77, 78, 79, 80, 81, 82, 83, 84, 85, 58, 86, 87, 88, 89, 90, 91, 92, 93, 60, 134, 135, 136, 131, 132, 133, 123, 124] rfl (by decide +kernel)
set_option maxRecDepth 20000 in
theorem gX7_longest_X5_leastUp : GoodIn wsX7_longest (wsV RX7 234 RX5 yX5_leastUp wsX5_leastUp) := goodIn_app (goodIn_of _ (by decide +kernel)) ggX7_longest_X5_leastUp
set_option maxRecDepth 20000 in
theorem ggX7_longest_X6_add : GoodIn wsX7_longest wsX6_add := goodIn_r _ [98, 99, 100, 123, 124] rfl (by decide +kernel)
set_option maxRecDepth 20000 in
theorem gX7_longest_X6_add : GoodIn wsX7_longest (wsV RX7 134 RX6 yX6_add wsX6_add) := goodIn_app (goodIn_of _ (by decide +kernel)) ggX7_longest_X6_add
set_option maxRecDepth 20000 in
theorem ggX7_longest_X7_store : GoodIn wsX7_longest wsX7_store := goodIn_r _ [104, 105, 3, 106, 107, 108, 97, 109, 99, 100, 110, 37, 38, 39, 111, 112, 113, 114, 115, 116, 117, 118, 119, 120, 121, 122, 123, 124] rfl (by decide +kernel)
set_option maxRecDepth 20000 in
theorem gX7_longest_X7_store : GoodIn wsX7_longest (wsV RX7 153 RX7 yX7_store wsX7_store) := goodIn_app (goodIn_of _ (by decide +kernel)) ggX7_longest_X7_store
theorem dX7_longest_0 : decode cX7_longest 0 = .ok (.iload_n 1, 1) := by decide +kernel
theorem dX7_longest_1 : decode cX7_longest 1 = .ok (.invokestatic 128, 3) := by decide +kernel
theorem dX7_longest_4 : decode cX7_longest 4 = .ok (.ifCond .ne 5, 3) := by decide +kernel
theorem dX7_longest_7 : decode cX7_longest 7 = .ok (.iconst (-1), 1) := by decide +kernel
theorem dX7_longest_8 : decode cX7_longest 8 = .ok (.ireturn, 1) := by decide +kernel
theorem dX7_longest_9 : decode cX7_longest 9 = .ok (.aload_n 0, 1) := by decide +kernel
theorem dX7_longest_10 : decode cX7_longest 10 = .ok (.getfield 47, 3) := by decide +kernel
theorem dX7_longest_13 : decode cX7_longest 13 = .ok (.invokevirtual 224, 3) := by decide +kernel
theorem dX7_longest_16 : decode cX7_longest 16 = .ok (.istore_n 2, 1) := by decide +kernel
theorem dX7_longest_17 : decode cX7_longest 17 = .ok (.iload_n 2, 1) := by decide +kernel
theorem dX7_longest_18 : decode cX7_longest 18 = .ok (.bipush (-2), 2) := by decide +kernel
theorem dX7_longest_20 : decode cX7_longest 20 = .ok (.if_icmp .ne 6, 3) := by decide +kernel
theorem dX7_longest_23 : decode cX7_longest 23 = .ok (.bipush (-2), 2) := by decide +kernel
theorem dX7_longest_25 : decode cX7_longest 25 = .ok (.ireturn, 1) := by decide +kernel
theorem dX7_longest_26 : decode cX7_longest 26 = .ok (.aload_n 0, 1) := by decide +kernel
theorem dX7_longest_27 : decode cX7_longest 27 = .ok (.getfield 59, 3) := by decide +kernel
theorem dX7_longest_30 : decode cX7_longest 30 = .ok (.iconst 0, 1) := by decide +kernel
theorem dX7_longest_31 : decode cX7_longest 31 = .ok (.putfield 131, 3) := by decide +kernel
theorem dX7_longest_34 : decode cX7_longest 34 = .ok (.iconst 0, 1) := by decide +kernel
theorem dX7_longest_35 : decode cX7_longest 35 = .ok (.istore_n 3, 1) := by decide +kernel
theorem dX7_longest_36 : decode cX7_longest 36 = .ok (.iload_n 3, 1) := by decide +kernel
theorem dX7_longest_37 : decode cX7_longest 37 = .ok (.iload_n 2, 1) := by decide +kernel
theorem dX7_longest_38 : decode cX7_longest 38 = .ok (.if_icmp .ge 37, 3) := by decide +kernel
theorem dX7_longest_41 : decode cX7_longest 41 = .ok (.aload_n 0, 1) := by decide +kernel
theorem dX7_longest_42 : decode cX7_longest 42 = .ok (.getfield 40, 3) := by decide +kernel
theorem dX7_longest_45 : decode cX7_longest 45 = .ok (.aload_n 0, 1) := by decide +kernel
theorem dX7_longest_46 : decode cX7_longest 46 = .ok (.getfield 59, 3) := by decide +kernel
theorem dX7_longest_49 : decode cX7_longest 49 = .ok (.invokevirtual 234, 3) := by decide +kernel
theorem dX7_longest_52 : decode cX7_longest 52 = .ok (.istore 4, 2) := by decide +kernel
theorem dX7_longest_54 : decode cX7_longest 54 = .ok (.iload 4, 2) := by decide +kernel
theorem dX7_longest_56 : decode cX7_longest 56 = .ok (.iconst (-1), 1) := by decide +kernel
theorem dX7_longest_57 : decode cX7_longest 57 = .ok (.if_icmp .eq 12, 3) := by decide +kernel
theorem dX7_longest_60 : decode cX7_longest 60 = .ok (.aload_n 0, 1) := by decide +kernel
theorem dX7_longest_61 : decode cX7_longest 61 = .ok (.getfield 59, 3) := by decide +kernel
theorem dX7_longest_64 : decode cX7_longest 64 = .ok (.iload 4, 2) := by decide +kernel
theorem dX7_longest_66 : decode cX7_longest 66 = .ok (.invokevirtual 134, 3) := by decide +kernel
theorem dX7_longest_69 : decode cX7_longest 69 = .ok (.iinc 3 1, 3) := by decide +kernel
theorem dX7_longest_72 : decode cX7_longest 72 = .ok (.goto (-36), 3) := by decide +kernel
theorem dX7_longest_75 : decode cX7_longest 75 = .ok (.aload_n 0, 1) := by decide +kernel
theorem dX7_longest_76 : decode cX7_longest 76 = .ok (.aload_n 0, 1) := by decide +kernel
theorem dX7_longest_77 : decode cX7_longest 77 = .ok (.getfield 59, 3) := by decide +kernel
theorem dX7_longest_80 : decode cX7_longest 80 = .ok (.iload_n 1, 1) := by decide +kernel
theorem dX7_longest_81 : decode cX7_longest 81 = .ok (.invokevirtual 153, 3) := by decide +kernel
theorem dX7_longest_84 : decode cX7_longest 84 = .ok (.ireturn, 1) := by decide +kernel
set_option maxRecDepth 20000 in
theorem ggX7_forms_X0_reaches : GoodIn wsX7_forms wsX0_reaches := goodIn_r _ [6, 7, 8, 9, 10, 11, 5, 12, 13, 14, 15, 16, 17, 18, 19, 20, 21, 22, 23, 24, 25, 26, 27, 28, 29, 30, 31, 32, 33, 34, 35, 36, 37, 38, 39, 40, 41, 58, 59, 60, 61, 62, 63, 64, 65, 66] rfl (by decide +kernel)
set_option maxRecDepth 20000 in
theorem gX7_forms_X0_reaches : GoodIn wsX7_forms (wsV RX7 238 RX0 yX0_reaches wsX0_reaches) := goodIn_app (goodIn_of _ (by decide +kernel)) ggX7_forms_X0_reaches
set_option maxRecDepth 20000 in
theorem ggX7_forms_X0_ofLength : GoodIn wsX7_forms wsX0_ofLength := goodIn_r _ [45, 13, 58, 59, 60, 61, 62, 63] rfl (by decide +kernel)
set_option maxRecDepth 20000 in
theorem gX7_forms_X0_ofLength : GoodIn wsX7_forms (wsV RX7 239 RX0 yX0_ofLength wsX0_ofLength) := goodIn_app (goodIn_of _ (by decide +kernel)) ggX7_forms_X0_ofLength
theorem dX7_forms_0 : decode cX7_forms 0 = .ok (.iload_n 1, 1) := by decide +kernel
theorem dX7_forms_1 : decode cX7_forms 1 = .ok (.ifCond .lt 9, 3) := by decide +kernel
theorem dX7_forms_4 : decode cX7_forms 4 = .ok (.iload_n 1, 1) := by decide +kernel
theorem dX7_forms_5 : decode cX7_forms 5 = .ok (.bipush 12, 2) := by decide +kernel
theorem dX7_forms_7 : decode cX7_forms 7 = .ok (.if_icmp .le 5, 3) := by decide +kernel
theorem dX7_forms_10 : decode cX7_forms 10 = .ok (.iconst (-1), 1) := by decide +kernel
theorem dX7_forms_11 : decode cX7_forms 11 = .ok (.ireturn, 1) := by decide +kernel
theorem dX7_forms_12 : decode cX7_forms 12 = .ok (.aload_n 0, 1) := by decide +kernel
theorem dX7_forms_13 : decode cX7_forms 13 = .ok (.getfield 54, 3) := by decide +kernel
theorem dX7_forms_16 : decode cX7_forms 16 = .ok (.iload_n 1, 1) := by decide +kernel
theorem dX7_forms_17 : decode cX7_forms 17 = .ok (.invokevirtual 238, 3) := by decide +kernel
theorem dX7_forms_20 : decode cX7_forms 20 = .ok (.ifCond .eq 14, 3) := by decide +kernel
theorem dX7_forms_23 : decode cX7_forms 23 = .ok (.aload_n 0, 1) := by decide +kernel
theorem dX7_forms_24 : decode cX7_forms 24 = .ok (.getfield 54, 3) := by decide +kernel
theorem dX7_forms_27 : decode cX7_forms 27 = .ok (.iload_n 1, 1) := by decide +kernel
theorem dX7_forms_28 : decode cX7_forms 28 = .ok (.invokevirtual 239, 3) := by decide +kernel
theorem dX7_forms_31 : decode cX7_forms 31 = .ok (.goto 5, 3) := by decide +kernel
theorem dX7_forms_34 : decode cX7_forms 34 = .ok (.bipush (-3), 2) := by decide +kernel
theorem dX7_forms_36 : decode cX7_forms 36 = .ok (.ireturn, 1) := by decide +kernel
set_option maxRecDepth 20000 in
theorem ggX7_next_X7_isSlot : GoodIn wsX7_next wsX7_isSlot := goodIn_r _ [6] rfl (by decide +kernel)
set_option maxRecDepth 20000 in
theorem gX7_next_X7_isSlot : GoodIn wsX7_next (va_wsS RX7 128 yX7_isSlot wsX7_isSlot) := goodIn_app (goodIn_of _ (by decide +kernel)) ggX7_next_X7_isSlot
set_option maxRecDepth 20000 in
theorem ggX7_next_X0_reaches : GoodIn wsX7_next wsX0_reaches := goodIn_r _ [11, 12, 13, 14, 15, 16, 10, 17, 18, 19, 20, 21, 22, 23, 24, 25, 26, 27, 5, 28, 29, 30, 31, 32, 33, 34, 35, 36, 37, 38, 39, 40, 41, 42, 43, 44, 45, 85, 86, 87, 88, 89, 90, 91, 92, 93] rfl (by decide +kernel)
set_option maxRecDepth 20000 in
theorem gX7_next_X0_reaches : GoodIn wsX7_next (wsV RX7 238 RX0 yX0_reaches wsX0_reaches) := goodIn_app (goodIn_of _ (by decide +kernel)) ggX7_next_X0_reaches
set_option maxRecDepth 20000 in
theorem ggX7_next_X0_ofLength : GoodIn wsX7_next wsX0_ofLength := goodIn_r _ [49, 18, 85, 86, 87, 88, 89, 90] rfl (by decide +kernel)
set_option maxRecDepth 20000 in
theorem gX7_next_X0_ofLength : GoodIn wsX7_next (wsV RX7 239 RX0 yX0_ofLength wsX0_ofLength) := goodIn_app (goodIn_of _ (by decide +kernel)) ggX7_next_X0_ofLength
set_option maxRecDepth 20000 in
theorem ggX7_next_X0_spell : GoodIn wsX7_next wsX0_spell := goodIn_r _ [53, 54, 55, 33, 34, 35, 10, 36, 21, 94, 95, 85, 86, 87, 88, 89, 90] rfl (by decide +kernel)
set_option maxRecDepth 20000 in
theorem gX7_next_X0_spell : GoodIn wsX7_next (wsV RX7 242 RX0 yX0_spell wsX0_spell) := goodIn_app (goodIn_of _ (by decide +kernel)) ggX7_next_X0_spell
set_option maxRecDepth 20000 in
theorem ggX7_next_X7_store : GoodIn wsX7_next wsX7_store := goodIn_r _ [59, 60, 61, 62, 63, 64, 65, 66, 67, 68, 69, 70, 71, 72, 73, 74, 75, 76, 77, 78, 79, 80, 81, 82, 83, 84, 94, 95] rfl (by decide +kernel)
set_option maxRecDepth 20000 in
theorem gX7_next_X7_store : GoodIn wsX7_next (wsV RX7 153 RX7 yX7_store wsX7_store) := goodIn_app (goodIn_of _ (by decide +kernel)) ggX7_next_X7_store
theorem dX7_next_0 : decode cX7_next 0 = .ok (.iload_n 3, 1) := by decide +kernel
theorem dX7_next_1 : decode cX7_next 1 = .ok (.invokestatic 128, 3) := by decide +kernel
theorem dX7_next_4 : decode cX7_next 4 = .ok (.ifCond .eq 24, 3) := by decide +kernel
theorem dX7_next_7 : decode cX7_next 7 = .ok (.iload_n 1, 1) := by decide +kernel
theorem dX7_next_8 : decode cX7_next 8 = .ok (.ifCond .lt 20, 3) := by decide +kernel
theorem dX7_next_11 : decode cX7_next 11 = .ok (.iload_n 1, 1) := by decide +kernel
theorem dX7_next_12 : decode cX7_next 12 = .ok (.bipush 12, 2) := by decide +kernel
theorem dX7_next_14 : decode cX7_next 14 = .ok (.if_icmp .gt 14, 3) := by decide +kernel
theorem dX7_next_17 : decode cX7_next 17 = .ok (.aload_n 0, 1) := by decide +kernel
theorem dX7_next_18 : decode cX7_next 18 = .ok (.getfield 54, 3) := by decide +kernel
theorem dX7_next_21 : decode cX7_next 21 = .ok (.iload_n 1, 1) := by decide +kernel
theorem dX7_next_22 : decode cX7_next 22 = .ok (.invokevirtual 238, 3) := by decide +kernel
theorem dX7_next_25 : decode cX7_next 25 = .ok (.ifCond .ne 5, 3) := by decide +kernel
theorem dX7_next_28 : decode cX7_next 28 = .ok (.iconst (-1), 1) := by decide +kernel
theorem dX7_next_29 : decode cX7_next 29 = .ok (.ireturn, 1) := by decide +kernel
theorem dX7_next_30 : decode cX7_next 30 = .ok (.iload_n 2, 1) := by decide +kernel
theorem dX7_next_31 : decode cX7_next 31 = .ok (.ifCond .lt 15, 3) := by decide +kernel
theorem dX7_next_34 : decode cX7_next 34 = .ok (.iload_n 2, 1) := by decide +kernel
theorem dX7_next_35 : decode cX7_next 35 = .ok (.aload_n 0, 1) := by decide +kernel
theorem dX7_next_36 : decode cX7_next 36 = .ok (.getfield 54, 3) := by decide +kernel
theorem dX7_next_39 : decode cX7_next 39 = .ok (.iload_n 1, 1) := by decide +kernel
theorem dX7_next_40 : decode cX7_next 40 = .ok (.invokevirtual 239, 3) := by decide +kernel
theorem dX7_next_43 : decode cX7_next 43 = .ok (.if_icmp .lt 5, 3) := by decide +kernel
theorem dX7_next_46 : decode cX7_next 46 = .ok (.iconst (-1), 1) := by decide +kernel
theorem dX7_next_47 : decode cX7_next 47 = .ok (.ireturn, 1) := by decide +kernel
theorem dX7_next_48 : decode cX7_next 48 = .ok (.aload_n 0, 1) := by decide +kernel
theorem dX7_next_49 : decode cX7_next 49 = .ok (.getfield 54, 3) := by decide +kernel
theorem dX7_next_52 : decode cX7_next 52 = .ok (.iload_n 1, 1) := by decide +kernel
theorem dX7_next_53 : decode cX7_next 53 = .ok (.iload_n 2, 1) := by decide +kernel
theorem dX7_next_54 : decode cX7_next 54 = .ok (.aload_n 0, 1) := by decide +kernel
theorem dX7_next_55 : decode cX7_next 55 = .ok (.getfield 59, 3) := by decide +kernel
theorem dX7_next_58 : decode cX7_next 58 = .ok (.invokevirtual 242, 3) := by decide +kernel
theorem dX7_next_61 : decode cX7_next 61 = .ok (.aload_n 0, 1) := by decide +kernel
theorem dX7_next_62 : decode cX7_next 62 = .ok (.aload_n 0, 1) := by decide +kernel
theorem dX7_next_63 : decode cX7_next 63 = .ok (.getfield 59, 3) := by decide +kernel
theorem dX7_next_66 : decode cX7_next 66 = .ok (.iload_n 3, 1) := by decide +kernel
theorem dX7_next_67 : decode cX7_next 67 = .ok (.invokevirtual 153, 3) := by decide +kernel
theorem dX7_next_70 : decode cX7_next 70 = .ok (.ireturn, 1) := by decide +kernel
set_option maxRecDepth 20000 in
theorem ggX7_parts_X7_isSlot : GoodIn wsX7_parts wsX7_isSlot := goodIn_r _ [11] rfl (by decide +kernel)
set_option maxRecDepth 20000 in
theorem gX7_parts_X7_isSlot : GoodIn wsX7_parts (va_wsS RX7 128 yX7_isSlot wsX7_isSlot) := goodIn_app (goodIn_of _ (by decide +kernel)) ggX7_parts_X7_isSlot
set_option maxRecDepth 20000 in
theorem ggX7_parts_X3_partBits : GoodIn wsX7_parts wsX3_partBits := goodIn_r _ [16, 17, 18, 108, 109, 110] rfl (by decide +kernel)
set_option maxRecDepth 20000 in
theorem gX7_parts_X3_partBits : GoodIn wsX7_parts (wsV RX7 246 RX3 yX3_partBits wsX3_partBits) := goodIn_app (goodIn_of _ (by decide +kernel)) ggX7_parts_X3_partBits
set_option maxRecDepth 20000 in
theorem ggX7_parts_X5_makeShort : GoodIn wsX7_parts wsX5_makeShort := goodIn_r _ [23, 24, 25, 26, 27, 28, 22, 29, 30, 31, 32, 10, 33, 34, 35, 36, 37, 38, 39, 40, 41, 42, 15, 43, 44, 45, 46, 47, 48, 49, 17, 50, 51, 52, 53, 54, 55, 56, 57, 58, 59, 60, 61, 62, 63, 64, 65, 106, 107, 111, 112, 113, 108, 109, 110] rfl (by decide +kernel)
set_option maxRecDepth 20000 in
theorem gX7_parts_X5_makeShort : GoodIn wsX7_parts (wsV RX7 179 RX5 yX5_makeShort wsX5_makeShort) := goodIn_app (goodIn_of _ (by decide +kernel)) ggX7_parts_X5_makeShort
set_option maxRecDepth 20000 in
theorem ggX7_parts_X5_moveDowns : GoodIn wsX7_parts wsX5_moveDowns := goodIn_r _ [69, 24, 70, 71, 72, 22, 73, 31, 74, 75, 76, 77, 78, 30, 25, 32, 10, 33, 34, 35, 36, 37, 38, 39, 40, 41, 42, 15, 43, 44, 45, 46, 47, 48, 49, 17, 50, 58, 59, 60, 54, 61, 56, 57, 62, 63, 64, 65, 51, 52, 53, 55, 106, 107, 111, 112, 113, 108, 109, 110] rfl (by decide +kernel)
set_option maxRecDepth 20000 in
theorem gX7_parts_X5_moveDowns : GoodIn wsX7_parts (wsV RX7 249 RX5 yX5_moveDowns wsX5_moveDowns) := goodIn_app (goodIn_of _ (by decide +kernel)) ggX7_parts_X5_moveDowns
set_option maxRecDepth 20000 in
theorem ggX7_parts_X5_makeForm : GoodIn wsX7_parts wsX5_makeForm := goodIn_r _ [82, 83, 24, 84, 20, 21, 22, 23, 25, 26, 27, 28, 29, 30, 31, 32, 10, 33, 34, 35, 36, 37, 38, 39, 40, 41, 42, 15, 43, 44, 45, 46, 47, 48, 49, 17, 50, 51, 52, 53, 54, 55, 56, 57, 58, 59, 60, 61, 62, 63, 64, 65, 85, 67, 68, 69, 70, 71, 72, 73, 74, 75, 76, 77, 78, 111, 112, 113, 106, 107, 108, 109, 110] rfl (by decide +kernel)
set_option maxRecDepth 20000 in
theorem gX7_parts_X5_makeForm : GoodIn wsX7_parts (wsV RX7 183 RX5 yX5_makeForm wsX5_makeForm) := goodIn_app (goodIn_of _ (by decide +kernel)) ggX7_parts_X5_makeForm
set_option maxRecDepth 20000 in
theorem ggX7_parts_X7_store : GoodIn wsX7_parts wsX7_store := goodIn_r _ [89, 3, 6, 90, 91, 92, 54, 93, 56, 57, 62, 63, 64, 65, 94, 95, 96, 97, 98, 99, 100, 101, 102, 103, 104, 105, 106, 107] rfl (by decide +kernel)
set_option maxRecDepth 20000 in
theorem gX7_parts_X7_store : GoodIn wsX7_parts (wsV RX7 153 RX7 yX7_store wsX7_store) := goodIn_app (goodIn_of _ (by decide +kernel)) ggX7_parts_X7_store
theorem dX7_parts_0 : decode cX7_parts 0 = .ok (.iload_n 1, 1) := by decide +kernel
theorem dX7_parts_1 : decode cX7_parts 1 = .ok (.invokestatic 128, 3) := by decide +kernel
theorem dX7_parts_4 : decode cX7_parts 4 = .ok (.ifCond .eq 24, 3) := by decide +kernel
theorem dX7_parts_7 : decode cX7_parts 7 = .ok (.iload_n 3, 1) := by decide +kernel
theorem dX7_parts_8 : decode cX7_parts 8 = .ok (.invokestatic 128, 3) := by decide +kernel
theorem dX7_parts_11 : decode cX7_parts 11 = .ok (.ifCond .eq 17, 3) := by decide +kernel
theorem dX7_parts_14 : decode cX7_parts 14 = .ok (.iload 4, 2) := by decide +kernel
theorem dX7_parts_16 : decode cX7_parts 16 = .ok (.invokestatic 128, 3) := by decide +kernel
theorem dX7_parts_19 : decode cX7_parts 19 = .ok (.ifCond .eq 9, 3) := by decide +kernel
theorem dX7_parts_22 : decode cX7_parts 22 = .ok (.iload_n 3, 1) := by decide +kernel
theorem dX7_parts_23 : decode cX7_parts 23 = .ok (.iload 4, 2) := by decide +kernel
theorem dX7_parts_25 : decode cX7_parts 25 = .ok (.if_icmp .ne 5, 3) := by decide +kernel
theorem dX7_parts_28 : decode cX7_parts 28 = .ok (.iconst (-1), 1) := by decide +kernel
theorem dX7_parts_29 : decode cX7_parts 29 = .ok (.ireturn, 1) := by decide +kernel
theorem dX7_parts_30 : decode cX7_parts 30 = .ok (.iload_n 2, 1) := by decide +kernel
theorem dX7_parts_31 : decode cX7_parts 31 = .ok (.iconst (-1), 1) := by decide +kernel
theorem dX7_parts_32 : decode cX7_parts 32 = .ok (.if_icmp .ne 13, 3) := by decide +kernel
theorem dX7_parts_35 : decode cX7_parts 35 = .ok (.aload_n 0, 1) := by decide +kernel
theorem dX7_parts_36 : decode cX7_parts 36 = .ok (.getfield 12, 3) := by decide +kernel
theorem dX7_parts_39 : decode cX7_parts 39 = .ok (.invokevirtual 246, 3) := by decide +kernel
theorem dX7_parts_42 : decode cX7_parts 42 = .ok (.goto 4, 3) := by decide +kernel
theorem dX7_parts_45 : decode cX7_parts 45 = .ok (.iload_n 2, 1) := by decide +kernel
theorem dX7_parts_46 : decode cX7_parts 46 = .ok (.istore 5, 2) := by decide +kernel
theorem dX7_parts_48 : decode cX7_parts 48 = .ok (.aload_n 0, 1) := by decide +kernel
theorem dX7_parts_49 : decode cX7_parts 49 = .ok (.getfield 40, 3) := by decide +kernel
theorem dX7_parts_52 : decode cX7_parts 52 = .ok (.aload_n 0, 1) := by decide +kernel
theorem dX7_parts_53 : decode cX7_parts 53 = .ok (.getfield 25, 3) := by decide +kernel
theorem dX7_parts_56 : decode cX7_parts 56 = .ok (.iload_n 1, 1) := by decide +kernel
theorem dX7_parts_57 : decode cX7_parts 57 = .ok (.aaload, 1) := by decide +kernel
theorem dX7_parts_58 : decode cX7_parts 58 = .ok (.aload_n 0, 1) := by decide +kernel
theorem dX7_parts_59 : decode cX7_parts 59 = .ok (.getfield 63, 3) := by decide +kernel
theorem dX7_parts_62 : decode cX7_parts 62 = .ok (.invokevirtual 179, 3) := by decide +kernel
theorem dX7_parts_65 : decode cX7_parts 65 = .ok (.ifCond .ne 6, 3) := by decide +kernel
theorem dX7_parts_68 : decode cX7_parts 68 = .ok (.bipush (-4), 2) := by decide +kernel
theorem dX7_parts_70 : decode cX7_parts 70 = .ok (.ireturn, 1) := by decide +kernel
theorem dX7_parts_71 : decode cX7_parts 71 = .ok (.aload_n 0, 1) := by decide +kernel
theorem dX7_parts_72 : decode cX7_parts 72 = .ok (.getfield 66, 3) := by decide +kernel
theorem dX7_parts_75 : decode cX7_parts 75 = .ok (.iconst 0, 1) := by decide +kernel
theorem dX7_parts_76 : decode cX7_parts 76 = .ok (.putfield 131, 3) := by decide +kernel
theorem dX7_parts_79 : decode cX7_parts 79 = .ok (.aload_n 0, 1) := by decide +kernel
theorem dX7_parts_80 : decode cX7_parts 80 = .ok (.getfield 40, 3) := by decide +kernel
theorem dX7_parts_83 : decode cX7_parts 83 = .ok (.aload_n 0, 1) := by decide +kernel
theorem dX7_parts_84 : decode cX7_parts 84 = .ok (.getfield 63, 3) := by decide +kernel
theorem dX7_parts_87 : decode cX7_parts 87 = .ok (.iload 5, 2) := by decide +kernel
theorem dX7_parts_89 : decode cX7_parts 89 = .ok (.aload_n 0, 1) := by decide +kernel
theorem dX7_parts_90 : decode cX7_parts 90 = .ok (.getfield 66, 3) := by decide +kernel
theorem dX7_parts_93 : decode cX7_parts 93 = .ok (.invokevirtual 249, 3) := by decide +kernel
theorem dX7_parts_96 : decode cX7_parts 96 = .ok (.ifCond .ne 6, 3) := by decide +kernel
theorem dX7_parts_99 : decode cX7_parts 99 = .ok (.bipush (-4), 2) := by decide +kernel
theorem dX7_parts_101 : decode cX7_parts 101 = .ok (.ireturn, 1) := by decide +kernel
theorem dX7_parts_102 : decode cX7_parts 102 = .ok (.aload_n 0, 1) := by decide +kernel
theorem dX7_parts_103 : decode cX7_parts 103 = .ok (.getfield 40, 3) := by decide +kernel
theorem dX7_parts_106 : decode cX7_parts 106 = .ok (.aload_n 0, 1) := by decide +kernel
theorem dX7_parts_107 : decode cX7_parts 107 = .ok (.getfield 66, 3) := by decide +kernel
theorem dX7_parts_110 : decode cX7_parts 110 = .ok (.aload_n 0, 1) := by decide +kernel
theorem dX7_parts_111 : decode cX7_parts 111 = .ok (.getfield 59, 3) := by decide +kernel
theorem dX7_parts_114 : decode cX7_parts 114 = .ok (.invokevirtual 183, 3) := by decide +kernel
theorem dX7_parts_117 : decode cX7_parts 117 = .ok (.ifCond .eq 21, 3) := by decide +kernel
theorem dX7_parts_120 : decode cX7_parts 120 = .ok (.aload_n 0, 1) := by decide +kernel
theorem dX7_parts_121 : decode cX7_parts 121 = .ok (.getfield 40, 3) := by decide +kernel
theorem dX7_parts_124 : decode cX7_parts 124 = .ok (.aload_n 0, 1) := by decide +kernel
theorem dX7_parts_125 : decode cX7_parts 125 = .ok (.getfield 63, 3) := by decide +kernel
theorem dX7_parts_128 : decode cX7_parts 128 = .ok (.aload_n 0, 1) := by decide +kernel
theorem dX7_parts_129 : decode cX7_parts 129 = .ok (.getfield 66, 3) := by decide +kernel
theorem dX7_parts_132 : decode cX7_parts 132 = .ok (.invokevirtual 183, 3) := by decide +kernel
theorem dX7_parts_135 : decode cX7_parts 135 = .ok (.ifCond .ne 6, 3) := by decide +kernel
theorem dX7_parts_138 : decode cX7_parts 138 = .ok (.bipush (-4), 2) := by decide +kernel
theorem dX7_parts_140 : decode cX7_parts 140 = .ok (.ireturn, 1) := by decide +kernel
theorem dX7_parts_141 : decode cX7_parts 141 = .ok (.aload_n 0, 1) := by decide +kernel
theorem dX7_parts_142 : decode cX7_parts 142 = .ok (.aload_n 0, 1) := by decide +kernel
theorem dX7_parts_143 : decode cX7_parts 143 = .ok (.getfield 66, 3) := by decide +kernel
theorem dX7_parts_146 : decode cX7_parts 146 = .ok (.iload 4, 2) := by decide +kernel
theorem dX7_parts_148 : decode cX7_parts 148 = .ok (.invokevirtual 153, 3) := by decide +kernel
theorem dX7_parts_151 : decode cX7_parts 151 = .ok (.pop, 1) := by decide +kernel
theorem dX7_parts_152 : decode cX7_parts 152 = .ok (.aload_n 0, 1) := by decide +kernel
theorem dX7_parts_153 : decode cX7_parts 153 = .ok (.aload_n 0, 1) := by decide +kernel
theorem dX7_parts_154 : decode cX7_parts 154 = .ok (.getfield 59, 3) := by decide +kernel
theorem dX7_parts_157 : decode cX7_parts 157 = .ok (.iload_n 3, 1) := by decide +kernel
theorem dX7_parts_158 : decode cX7_parts 158 = .ok (.invokevirtual 153, 3) := by decide +kernel
theorem dX7_parts_161 : decode cX7_parts 161 = .ok (.ireturn, 1) := by decide +kernel
set_option maxRecDepth 20000 in
theorem ggX7_way_X7_isSlot : GoodIn wsX7_way wsX7_isSlot := goodIn_r _ [7] rfl (by decide +kernel)
set_option maxRecDepth 20000 in
theorem gX7_way_X7_isSlot : GoodIn wsX7_way (va_wsS RX7 128 yX7_isSlot wsX7_isSlot) := goodIn_app (goodIn_of _ (by decide +kernel)) ggX7_way_X7_isSlot
set_option maxRecDepth 20000 in
theorem ggX7_way_X7_joinWay : GoodIn wsX7_way wsX7_joinWay := goodIn_r _ [11, 12, 13, 2, 14, 15, 16, 17, 18, 19, 20, 21, 22, 23, 24, 25, 26, 27, 28, 97, 98, 99, 100, 101, 102, 103, 104, 105, 106, 107, 108, 109, 110] rfl (by decide +kernel)
set_option maxRecDepth 20000 in
theorem gX7_way_X7_joinWay : GoodIn wsX7_way (wsV RX7 253 RX7 yX7_joinWay wsX7_joinWay) := goodIn_app (goodIn_of _ (by decide +kernel)) ggX7_way_X7_joinWay
set_option maxRecDepth 20000 in
theorem ggX7_way_X5_makeForm : GoodIn wsX7_way wsX5_makeForm := goodIn_r _ [33, 34, 35, 36, 37, 38, 32, 39, 40, 41, 42, 43, 44, 45, 46, 47, 6, 48, 49, 50, 51, 52, 53, 54, 55, 56, 57, 58, 59, 60, 61, 62, 63, 64, 65, 66, 67, 68, 69, 70, 17, 71, 20, 19, 72, 73, 74, 75, 25, 26, 27, 28, 76, 77, 78, 79, 80, 81, 82, 83, 84, 85, 86, 87, 88, 111, 112, 113, 109, 110, 114, 115, 116] rfl (by decide +kernel)
set_option maxRecDepth 20000 in
theorem gX7_way_X5_makeForm : GoodIn wsX7_way (wsV RX7 183 RX5 yX5_makeForm wsX5_makeForm) := goodIn_app (goodIn_of _ (by decide +kernel)) ggX7_way_X5_makeForm
set_option maxRecDepth 20000 in
theorem ggX7_way_X7_store : GoodIn wsX7_way wsX7_store := goodIn_r _ [92, 12, 13, 93, 94, 95, 17, 96, 20, 19, 25, 26, 27, 28, 97, 98, 99, 100, 101, 102, 103, 104, 105, 106, 107, 108, 109, 110] rfl (by decide +kernel)
set_option maxRecDepth 20000 in
theorem gX7_way_X7_store : GoodIn wsX7_way (wsV RX7 153 RX7 yX7_store wsX7_store) := goodIn_app (goodIn_of _ (by decide +kernel)) ggX7_way_X7_store
theorem dX7_way_0 : decode cX7_way 0 = .ok (.iload_n 1, 1) := by decide +kernel
theorem dX7_way_1 : decode cX7_way 1 = .ok (.invokestatic 128, 3) := by decide +kernel
theorem dX7_way_4 : decode cX7_way 4 = .ok (.ifCond .eq 17, 3) := by decide +kernel
theorem dX7_way_7 : decode cX7_way 7 = .ok (.iload_n 2, 1) := by decide +kernel
theorem dX7_way_8 : decode cX7_way 8 = .ok (.invokestatic 128, 3) := by decide +kernel
theorem dX7_way_11 : decode cX7_way 11 = .ok (.ifCond .eq 10, 3) := by decide +kernel
theorem dX7_way_14 : decode cX7_way 14 = .ok (.iload_n 3, 1) := by decide +kernel
theorem dX7_way_15 : decode cX7_way 15 = .ok (.invokestatic 128, 3) := by decide +kernel
theorem dX7_way_18 : decode cX7_way 18 = .ok (.ifCond .ne 5, 3) := by decide +kernel
theorem dX7_way_21 : decode cX7_way 21 = .ok (.iconst (-1), 1) := by decide +kernel
theorem dX7_way_22 : decode cX7_way 22 = .ok (.ireturn, 1) := by decide +kernel
theorem dX7_way_23 : decode cX7_way 23 = .ok (.aload_n 0, 1) := by decide +kernel
theorem dX7_way_24 : decode cX7_way 24 = .ok (.iload_n 1, 1) := by decide +kernel
theorem dX7_way_25 : decode cX7_way 25 = .ok (.iload_n 2, 1) := by decide +kernel
theorem dX7_way_26 : decode cX7_way 26 = .ok (.invokevirtual 253, 3) := by decide +kernel
theorem dX7_way_29 : decode cX7_way 29 = .ok (.ifCond .ne 6, 3) := by decide +kernel
theorem dX7_way_32 : decode cX7_way 32 = .ok (.bipush (-3), 2) := by decide +kernel
theorem dX7_way_34 : decode cX7_way 34 = .ok (.ireturn, 1) := by decide +kernel
theorem dX7_way_35 : decode cX7_way 35 = .ok (.aload_n 0, 1) := by decide +kernel
theorem dX7_way_36 : decode cX7_way 36 = .ok (.getfield 40, 3) := by decide +kernel
theorem dX7_way_39 : decode cX7_way 39 = .ok (.aload_n 0, 1) := by decide +kernel
theorem dX7_way_40 : decode cX7_way 40 = .ok (.getfield 66, 3) := by decide +kernel
theorem dX7_way_43 : decode cX7_way 43 = .ok (.aload_n 0, 1) := by decide +kernel
theorem dX7_way_44 : decode cX7_way 44 = .ok (.getfield 59, 3) := by decide +kernel
theorem dX7_way_47 : decode cX7_way 47 = .ok (.invokevirtual 183, 3) := by decide +kernel
theorem dX7_way_50 : decode cX7_way 50 = .ok (.ifCond .eq 15, 3) := by decide +kernel
theorem dX7_way_53 : decode cX7_way 53 = .ok (.aload_n 0, 1) := by decide +kernel
theorem dX7_way_54 : decode cX7_way 54 = .ok (.aload_n 0, 1) := by decide +kernel
theorem dX7_way_55 : decode cX7_way 55 = .ok (.getfield 59, 3) := by decide +kernel
theorem dX7_way_58 : decode cX7_way 58 = .ok (.iload_n 3, 1) := by decide +kernel
theorem dX7_way_59 : decode cX7_way 59 = .ok (.invokevirtual 153, 3) := by decide +kernel
theorem dX7_way_62 : decode cX7_way 62 = .ok (.goto 5, 3) := by decide +kernel
theorem dX7_way_65 : decode cX7_way 65 = .ok (.bipush (-4), 2) := by decide +kernel
theorem dX7_way_67 : decode cX7_way 67 = .ok (.ireturn, 1) := by decide +kernel
set_option maxRecDepth 20000 in
theorem ggX7_wall_X7_isSlot : GoodIn wsX7_wall wsX7_isSlot := goodIn_r _ [14] rfl (by decide +kernel)
set_option maxRecDepth 20000 in
theorem gX7_wall_X7_isSlot : GoodIn wsX7_wall (va_wsS RX7 128 yX7_isSlot wsX7_isSlot) := goodIn_app (goodIn_of _ (by decide +kernel)) ggX7_wall_X7_isSlot
set_option maxRecDepth 20000 in
theorem ggX7_wall_X3_has : GoodIn wsX7_wall wsX3_has := goodIn_r _ [19, 20, 122, 123, 124] rfl (by decide +kernel)
set_option maxRecDepth 20000 in
theorem gX7_wall_X3_has : GoodIn wsX7_wall (wsV RX7 97 RX3 yX3_has wsX3_has) := goodIn_app (goodIn_of _ (by decide +kernel)) ggX7_wall_X3_has
set_option maxRecDepth 20000 in
theorem ggX7_wall_X7_joinWay : GoodIn wsX7_wall wsX7_joinWay := goodIn_r _ [24, 10, 7, 4, 25, 26, 27, 28, 29, 30, 31, 32, 33, 34, 35, 36, 37, 38, 39, 108, 109, 110, 111, 112, 113, 114, 115, 116, 117, 118, 119, 120, 121] rfl (by decide +kernel)
set_option maxRecDepth 20000 in
theorem gX7_wall_X7_joinWay : GoodIn wsX7_wall (wsV RX7 253 RX7 yX7_joinWay wsX7_joinWay) := goodIn_app (goodIn_of _ (by decide +kernel)) ggX7_wall_X7_joinWay
set_option maxRecDepth 20000 in
theorem ggX7_wall_X5_makeForm : GoodIn wsX7_wall wsX5_makeForm := goodIn_r _ [44, 45, 46, 47, 48, 49, 43, 50, 51, 52, 53, 54, 55, 56, 57, 58, 13, 59, 60, 61, 62, 63, 64, 65, 66, 67, 68, 18, 69, 70, 71, 72, 73, 74, 75, 20, 76, 77, 78, 79, 28, 80, 31, 30, 81, 82, 83, 84, 36, 37, 38, 39, 85, 86, 87, 88, 89, 90, 91, 92, 93, 94, 95, 96, 97, 125, 126, 127, 120, 121, 122, 123, 124] rfl (by decide +kernel)
set_option maxRecDepth 20000 in
theorem gX7_wall_X5_makeForm : GoodIn wsX7_wall (wsV RX7 183 RX5 yX5_makeForm wsX5_makeForm) := goodIn_app (goodIn_of _ (by decide +kernel)) ggX7_wall_X5_makeForm
set_option maxRecDepth 20000 in
theorem ggX7_wall_X7_setOwn : GoodIn wsX7_wall wsX7_setOwn := goodIn_r _ [59, 60, 61, 62, 63] rfl (by decide +kernel)
set_option maxRecDepth 20000 in
theorem gX7_wall_X7_setOwn : GoodIn wsX7_wall (va_wsS RX7 198 yX7_setOwn wsX7_setOwn) := goodIn_app (goodIn_of _ (by decide +kernel)) ggX7_wall_X7_setOwn
set_option maxRecDepth 20000 in
theorem ggX7_wall_X3_turnBy : GoodIn wsX7_wall wsX3_turnBy := goodIn_r _ [102, 103, 104, 67, 68, 18, 69, 70, 71, 72, 73, 74, 75, 20, 76, 120, 121, 122, 123, 124] rfl (by decide +kernel)
set_option maxRecDepth 20000 in
theorem gX7_wall_X3_turnBy : GoodIn wsX7_wall (wsV RX7 202 RX3 yX3_turnBy wsX3_turnBy) := goodIn_app (goodIn_of _ (by decide +kernel)) ggX7_wall_X3_turnBy
set_option maxRecDepth 20000 in
theorem ggX7_wall_X7_hasBelowZero : GoodIn wsX7_wall wsX7_hasBelowZero := goodIn_r _ [107] rfl (by decide +kernel)
set_option maxRecDepth 20000 in
theorem gX7_wall_X7_hasBelowZero : GoodIn wsX7_wall (va_wsS RX7 256 yX7_hasBelowZero wsX7_hasBelowZero) := goodIn_app (goodIn_of _ (by decide +kernel)) ggX7_wall_X7_hasBelowZero
theorem dX7_wall_0 : decode cX7_wall 0 = .ok (.iload_n 1, 1) := by decide +kernel
theorem dX7_wall_1 : decode cX7_wall 1 = .ok (.invokestatic 128, 3) := by decide +kernel
theorem dX7_wall_4 : decode cX7_wall 4 = .ok (.ifCond .eq 35, 3) := by decide +kernel
theorem dX7_wall_7 : decode cX7_wall 7 = .ok (.iload_n 2, 1) := by decide +kernel
theorem dX7_wall_8 : decode cX7_wall 8 = .ok (.invokestatic 128, 3) := by decide +kernel
theorem dX7_wall_11 : decode cX7_wall 11 = .ok (.ifCond .eq 28, 3) := by decide +kernel
theorem dX7_wall_14 : decode cX7_wall 14 = .ok (.iload_n 3, 1) := by decide +kernel
theorem dX7_wall_15 : decode cX7_wall 15 = .ok (.ifCond .lt 24, 3) := by decide +kernel
theorem dX7_wall_18 : decode cX7_wall 18 = .ok (.aload_n 0, 1) := by decide +kernel
theorem dX7_wall_19 : decode cX7_wall 19 = .ok (.getfield 12, 3) := by decide +kernel
theorem dX7_wall_22 : decode cX7_wall 22 = .ok (.iload 4, 2) := by decide +kernel
theorem dX7_wall_24 : decode cX7_wall 24 = .ok (.invokevirtual 97, 3) := by decide +kernel
theorem dX7_wall_27 : decode cX7_wall 27 = .ok (.ifCond .eq 12, 3) := by decide +kernel
theorem dX7_wall_30 : decode cX7_wall 30 = .ok (.aload_n 0, 1) := by decide +kernel
theorem dX7_wall_31 : decode cX7_wall 31 = .ok (.iload_n 1, 1) := by decide +kernel
theorem dX7_wall_32 : decode cX7_wall 32 = .ok (.iload_n 2, 1) := by decide +kernel
theorem dX7_wall_33 : decode cX7_wall 33 = .ok (.invokevirtual 253, 3) := by decide +kernel
theorem dX7_wall_36 : decode cX7_wall 36 = .ok (.ifCond .ne 7, 3) := by decide +kernel
theorem dX7_wall_39 : decode cX7_wall 39 = .ok (.ldc2_w 196, 3) := by decide +kernel
theorem dX7_wall_42 : decode cX7_wall 42 = .ok (.lreturn, 1) := by decide +kernel
theorem dX7_wall_43 : decode cX7_wall 43 = .ok (.aload_n 0, 1) := by decide +kernel
theorem dX7_wall_44 : decode cX7_wall 44 = .ok (.getfield 40, 3) := by decide +kernel
theorem dX7_wall_47 : decode cX7_wall 47 = .ok (.aload_n 0, 1) := by decide +kernel
theorem dX7_wall_48 : decode cX7_wall 48 = .ok (.getfield 66, 3) := by decide +kernel
theorem dX7_wall_51 : decode cX7_wall 51 = .ok (.aload_n 0, 1) := by decide +kernel
theorem dX7_wall_52 : decode cX7_wall 52 = .ok (.getfield 59, 3) := by decide +kernel
theorem dX7_wall_55 : decode cX7_wall 55 = .ok (.invokevirtual 183, 3) := by decide +kernel
theorem dX7_wall_58 : decode cX7_wall 58 = .ok (.ifCond .ne 7, 3) := by decide +kernel
theorem dX7_wall_61 : decode cX7_wall 61 = .ok (.ldc2_w 206, 3) := by decide +kernel
theorem dX7_wall_64 : decode cX7_wall 64 = .ok (.lreturn, 1) := by decide +kernel
theorem dX7_wall_65 : decode cX7_wall 65 = .ok (.iload_n 3, 1) := by decide +kernel
theorem dX7_wall_66 : decode cX7_wall 66 = .ok (.aload_n 0, 1) := by decide +kernel
theorem dX7_wall_67 : decode cX7_wall 67 = .ok (.getfield 59, 3) := by decide +kernel
theorem dX7_wall_70 : decode cX7_wall 70 = .ok (.getfield 131, 3) := by decide +kernel
theorem dX7_wall_73 : decode cX7_wall 73 = .ok (.if_icmp .lt 7, 3) := by decide +kernel
theorem dX7_wall_76 : decode cX7_wall 76 = .ok (.ldc2_w 196, 3) := by decide +kernel
theorem dX7_wall_79 : decode cX7_wall 79 = .ok (.lreturn, 1) := by decide +kernel
theorem dX7_wall_80 : decode cX7_wall 80 = .ok (.aload_n 0, 1) := by decide +kernel
theorem dX7_wall_81 : decode cX7_wall 81 = .ok (.getfield 69, 3) := by decide +kernel
theorem dX7_wall_84 : decode cX7_wall 84 = .ok (.aload_n 0, 1) := by decide +kernel
theorem dX7_wall_85 : decode cX7_wall 85 = .ok (.getfield 59, 3) := by decide +kernel
theorem dX7_wall_88 : decode cX7_wall 88 = .ok (.getfield 157, 3) := by decide +kernel
theorem dX7_wall_91 : decode cX7_wall 91 = .ok (.iload_n 3, 1) := by decide +kernel
theorem dX7_wall_92 : decode cX7_wall 92 = .ok (.iaload, 1) := by decide +kernel
theorem dX7_wall_93 : decode cX7_wall 93 = .ok (.invokestatic 198, 3) := by decide +kernel
theorem dX7_wall_96 : decode cX7_wall 96 = .ok (.aload_n 0, 1) := by decide +kernel
theorem dX7_wall_97 : decode cX7_wall 97 = .ok (.getfield 12, 3) := by decide +kernel
theorem dX7_wall_100 : decode cX7_wall 100 = .ok (.aload_n 0, 1) := by decide +kernel
theorem dX7_wall_101 : decode cX7_wall 101 = .ok (.getfield 59, 3) := by decide +kernel
theorem dX7_wall_104 : decode cX7_wall 104 = .ok (.iload_n 3, 1) := by decide +kernel
theorem dX7_wall_105 : decode cX7_wall 105 = .ok (.aload_n 0, 1) := by decide +kernel
theorem dX7_wall_106 : decode cX7_wall 106 = .ok (.getfield 69, 3) := by decide +kernel
theorem dX7_wall_109 : decode cX7_wall 109 = .ok (.invokevirtual 202, 3) := by decide +kernel
theorem dX7_wall_112 : decode cX7_wall 112 = .ok (.ifCond .eq 32, 3) := by decide +kernel
theorem dX7_wall_115 : decode cX7_wall 115 = .ok (.aload_n 0, 1) := by decide +kernel
theorem dX7_wall_116 : decode cX7_wall 116 = .ok (.getfield 12, 3) := by decide +kernel
theorem dX7_wall_119 : decode cX7_wall 119 = .ok (.aload_n 0, 1) := by decide +kernel
theorem dX7_wall_120 : decode cX7_wall 120 = .ok (.getfield 25, 3) := by decide +kernel
theorem dX7_wall_123 : decode cX7_wall 123 = .ok (.iload_n 1, 1) := by decide +kernel
theorem dX7_wall_124 : decode cX7_wall 124 = .ok (.aaload, 1) := by decide +kernel
theorem dX7_wall_125 : decode cX7_wall 125 = .ok (.aload_n 0, 1) := by decide +kernel
theorem dX7_wall_126 : decode cX7_wall 126 = .ok (.getfield 25, 3) := by decide +kernel
theorem dX7_wall_129 : decode cX7_wall 129 = .ok (.iload_n 1, 1) := by decide +kernel
theorem dX7_wall_130 : decode cX7_wall 130 = .ok (.aaload, 1) := by decide +kernel
theorem dX7_wall_131 : decode cX7_wall 131 = .ok (.getfield 131, 3) := by decide +kernel
theorem dX7_wall_134 : decode cX7_wall 134 = .ok (.aload_n 0, 1) := by decide +kernel
theorem dX7_wall_135 : decode cX7_wall 135 = .ok (.getfield 69, 3) := by decide +kernel
theorem dX7_wall_138 : decode cX7_wall 138 = .ok (.invokevirtual 202, 3) := by decide +kernel
theorem dX7_wall_141 : decode cX7_wall 141 = .ok (.ifCond .ne 7, 3) := by decide +kernel
theorem dX7_wall_144 : decode cX7_wall 144 = .ok (.ldc2_w 206, 3) := by decide +kernel
theorem dX7_wall_147 : decode cX7_wall 147 = .ok (.lreturn, 1) := by decide +kernel
theorem dX7_wall_148 : decode cX7_wall 148 = .ok (.aload_n 0, 1) := by decide +kernel
theorem dX7_wall_149 : decode cX7_wall 149 = .ok (.getfield 69, 3) := by decide +kernel
theorem dX7_wall_152 : decode cX7_wall 152 = .ok (.invokestatic 256, 3) := by decide +kernel
theorem dX7_wall_155 : decode cX7_wall 155 = .ok (.ifCond .eq 14, 3) := by decide +kernel
theorem dX7_wall_158 : decode cX7_wall 158 = .ok (.aload_n 0, 1) := by decide +kernel
theorem dX7_wall_159 : decode cX7_wall 159 = .ok (.getfield 69, 3) := by decide +kernel
theorem dX7_wall_162 : decode cX7_wall 162 = .ok (.iload 4, 2) := by decide +kernel
theorem dX7_wall_164 : decode cX7_wall 164 = .ok (.laload, 1) := by decide +kernel
theorem dX7_wall_165 : decode cX7_wall 165 = .ok (.lneg, 1) := by decide +kernel
theorem dX7_wall_166 : decode cX7_wall 166 = .ok (.goto 10, 3) := by decide +kernel
theorem dX7_wall_169 : decode cX7_wall 169 = .ok (.aload_n 0, 1) := by decide +kernel
theorem dX7_wall_170 : decode cX7_wall 170 = .ok (.getfield 69, 3) := by decide +kernel
theorem dX7_wall_173 : decode cX7_wall 173 = .ok (.iload 4, 2) := by decide +kernel
theorem dX7_wall_175 : decode cX7_wall 175 = .ok (.laload, 1) := by decide +kernel
theorem dX7_wall_176 : decode cX7_wall 176 = .ok (.lreturn, 1) := by decide +kernel
set_option maxRecDepth 20000 in
theorem ggX7_leaf_X7_isLeaf : GoodIn wsX7_leaf wsX7_isLeaf := goodIn_r _ [5] rfl (by decide +kernel)
set_option maxRecDepth 20000 in
theorem gX7_leaf_X7_isLeaf : GoodIn wsX7_leaf (va_wsS RX7 138 yX7_isLeaf wsX7_isLeaf) := goodIn_app (goodIn_of _ (by decide +kernel)) ggX7_leaf_X7_isLeaf
set_option maxRecDepth 20000 in
theorem ggX7_leaf_X7_isLane : GoodIn wsX7_leaf wsX7_isLane := goodIn_r _ [8] rfl (by decide +kernel)
set_option maxRecDepth 20000 in
theorem gX7_leaf_X7_isLane : GoodIn wsX7_leaf (va_wsS RX7 141 yX7_isLane wsX7_isLane) := goodIn_app (goodIn_of _ (by decide +kernel)) ggX7_leaf_X7_isLane
set_option maxRecDepth 20000 in
theorem ggX7_leaf_X2_hold : GoodIn wsX7_leaf wsX2_hold := goodIn_r _ [13, 14, 15, 16, 17, 18, 19, 20, 21, 34, 35, 36, 37] rfl (by decide +kernel)
set_option maxRecDepth 20000 in
theorem gX7_leaf_X2_hold : GoodIn wsX7_leaf (wsV RX7 260 RX2 yX2_hold wsX2_hold) := goodIn_app (goodIn_of _ (by decide +kernel)) ggX7_leaf_X2_hold
theorem dX7_leaf_0 : decode cX7_leaf 0 = .ok (.iload_n 1, 1) := by decide +kernel
theorem dX7_leaf_1 : decode cX7_leaf 1 = .ok (.invokestatic 138, 3) := by decide +kernel
theorem dX7_leaf_4 : decode cX7_leaf 4 = .ok (.ifCond .eq 16, 3) := by decide +kernel
theorem dX7_leaf_7 : decode cX7_leaf 7 = .ok (.iload_n 2, 1) := by decide +kernel
theorem dX7_leaf_8 : decode cX7_leaf 8 = .ok (.invokestatic 141, 3) := by decide +kernel
theorem dX7_leaf_11 : decode cX7_leaf 11 = .ok (.ifCond .eq 9, 3) := by decide +kernel
theorem dX7_leaf_14 : decode cX7_leaf 14 = .ok (.iload_n 3, 1) := by decide +kernel
theorem dX7_leaf_15 : decode cX7_leaf 15 = .ok (.bipush 40, 2) := by decide +kernel
theorem dX7_leaf_17 : decode cX7_leaf 17 = .ok (.if_icmp .le 5, 3) := by decide +kernel
theorem dX7_leaf_20 : decode cX7_leaf 20 = .ok (.iconst (-1), 1) := by decide +kernel
theorem dX7_leaf_21 : decode cX7_leaf 21 = .ok (.ireturn, 1) := by decide +kernel
theorem dX7_leaf_22 : decode cX7_leaf 22 = .ok (.iload_n 3, 1) := by decide +kernel
theorem dX7_leaf_23 : decode cX7_leaf 23 = .ok (.ifCond .ge 6, 3) := by decide +kernel
theorem dX7_leaf_26 : decode cX7_leaf 26 = .ok (.bipush (-14), 2) := by decide +kernel
theorem dX7_leaf_28 : decode cX7_leaf 28 = .ok (.ireturn, 1) := by decide +kernel
theorem dX7_leaf_29 : decode cX7_leaf 29 = .ok (.aload_n 0, 1) := by decide +kernel
theorem dX7_leaf_30 : decode cX7_leaf 30 = .ok (.getfield 31, 3) := by decide +kernel
theorem dX7_leaf_33 : decode cX7_leaf 33 = .ok (.iload_n 1, 1) := by decide +kernel
theorem dX7_leaf_34 : decode cX7_leaf 34 = .ok (.aaload, 1) := by decide +kernel
theorem dX7_leaf_35 : decode cX7_leaf 35 = .ok (.iload_n 2, 1) := by decide +kernel
theorem dX7_leaf_36 : decode cX7_leaf 36 = .ok (.iload_n 3, 1) := by decide +kernel
theorem dX7_leaf_37 : decode cX7_leaf 37 = .ok (.invokevirtual 260, 3) := by decide +kernel
theorem dX7_leaf_40 : decode cX7_leaf 40 = .ok (.iload_n 3, 1) := by decide +kernel
theorem dX7_leaf_41 : decode cX7_leaf 41 = .ok (.ireturn, 1) := by decide +kernel
set_option maxRecDepth 20000 in
theorem ggX7_drop_X7_isLeaf : GoodIn wsX7_drop wsX7_isLeaf := goodIn_r _ [7] rfl (by decide +kernel)
set_option maxRecDepth 20000 in
theorem gX7_drop_X7_isLeaf : GoodIn wsX7_drop (va_wsS RX7 138 yX7_isLeaf wsX7_isLeaf) := goodIn_app (goodIn_of _ (by decide +kernel)) ggX7_drop_X7_isLeaf
theorem dX7_drop_0 : decode cX7_drop 0 = .ok (.iload_n 1, 1) := by decide +kernel
theorem dX7_drop_1 : decode cX7_drop 1 = .ok (.invokestatic 138, 3) := by decide +kernel
theorem dX7_drop_4 : decode cX7_drop 4 = .ok (.ifCond .ne 5, 3) := by decide +kernel
theorem dX7_drop_7 : decode cX7_drop 7 = .ok (.iconst (-1), 1) := by decide +kernel
theorem dX7_drop_8 : decode cX7_drop 8 = .ok (.ireturn, 1) := by decide +kernel
theorem dX7_drop_9 : decode cX7_drop 9 = .ok (.aload_n 0, 1) := by decide +kernel
theorem dX7_drop_10 : decode cX7_drop 10 = .ok (.getfield 31, 3) := by decide +kernel
theorem dX7_drop_13 : decode cX7_drop 13 = .ok (.iload_n 1, 1) := by decide +kernel
theorem dX7_drop_14 : decode cX7_drop 14 = .ok (.aaload, 1) := by decide +kernel
theorem dX7_drop_15 : decode cX7_drop 15 = .ok (.getfield 264, 3) := by decide +kernel
theorem dX7_drop_18 : decode cX7_drop 18 = .ok (.ifCond .ne 6, 3) := by decide +kernel
theorem dX7_drop_21 : decode cX7_drop 21 = .ok (.bipush (-11), 2) := by decide +kernel
theorem dX7_drop_23 : decode cX7_drop 23 = .ok (.ireturn, 1) := by decide +kernel
theorem dX7_drop_24 : decode cX7_drop 24 = .ok (.aload_n 0, 1) := by decide +kernel
theorem dX7_drop_25 : decode cX7_drop 25 = .ok (.getfield 31, 3) := by decide +kernel
theorem dX7_drop_28 : decode cX7_drop 28 = .ok (.iload_n 1, 1) := by decide +kernel
theorem dX7_drop_29 : decode cX7_drop 29 = .ok (.aaload, 1) := by decide +kernel
theorem dX7_drop_30 : decode cX7_drop 30 = .ok (.iconst 0, 1) := by decide +kernel
theorem dX7_drop_31 : decode cX7_drop 31 = .ok (.putfield 264, 3) := by decide +kernel
theorem dX7_drop_34 : decode cX7_drop 34 = .ok (.aload_n 0, 1) := by decide +kernel
theorem dX7_drop_35 : decode cX7_drop 35 = .ok (.getfield 31, 3) := by decide +kernel
theorem dX7_drop_38 : decode cX7_drop 38 = .ok (.iload_n 1, 1) := by decide +kernel
theorem dX7_drop_39 : decode cX7_drop 39 = .ok (.aaload, 1) := by decide +kernel
theorem dX7_drop_40 : decode cX7_drop 40 = .ok (.getfield 268, 3) := by decide +kernel
theorem dX7_drop_43 : decode cX7_drop 43 = .ok (.ireturn, 1) := by decide +kernel
set_option maxRecDepth 20000 in
theorem ggX7_item_X7_isLeaf : GoodIn wsX7_item wsX7_isLeaf := goodIn_r _ [6] rfl (by decide +kernel)
set_option maxRecDepth 20000 in
theorem gX7_item_X7_isLeaf : GoodIn wsX7_item (va_wsS RX7 138 yX7_isLeaf wsX7_isLeaf) := goodIn_app (goodIn_of _ (by decide +kernel)) ggX7_item_X7_isLeaf
set_option maxRecDepth 20000 in
theorem ggX7_item_X7_isLane : GoodIn wsX7_item wsX7_isLane := goodIn_r _ [9] rfl (by decide +kernel)
set_option maxRecDepth 20000 in
theorem gX7_item_X7_isLane : GoodIn wsX7_item (va_wsS RX7 141 yX7_isLane wsX7_isLane) := goodIn_app (goodIn_of _ (by decide +kernel)) ggX7_item_X7_isLane
set_option maxRecDepth 20000 in
theorem ggX7_item_X2_find : GoodIn wsX7_item wsX2_find := goodIn_r _ [14, 15, 16, 37, 38, 39, 40] rfl (by decide +kernel)
set_option maxRecDepth 20000 in
theorem gX7_item_X2_find : GoodIn wsX7_item (wsV RX7 144 RX2 yX2_find wsX2_find) := goodIn_app (goodIn_of _ (by decide +kernel)) ggX7_item_X2_find
set_option maxRecDepth 20000 in
theorem ggX7_item_X2_hasItems : GoodIn wsX7_item wsX2_hasItems := goodIn_r _ [20, 21, 37, 38, 39, 40] rfl (by decide +kernel)
set_option maxRecDepth 20000 in
theorem gX7_item_X2_hasItems : GoodIn wsX7_item (wsV RX7 147 RX2 yX2_hasItems wsX2_hasItems) := goodIn_app (goodIn_of _ (by decide +kernel)) ggX7_item_X2_hasItems
set_option maxRecDepth 20000 in
theorem ggX7_item_X7_lowestBits : GoodIn wsX7_item wsX7_lowestBits := goodIn_r _ [24] rfl (by decide +kernel)
set_option maxRecDepth 20000 in
theorem gX7_item_X7_lowestBits : GoodIn wsX7_item (va_wsS RX7 269 yX7_lowestBits wsX7_lowestBits) := goodIn_app (goodIn_of _ (by decide +kernel)) ggX7_item_X7_lowestBits
theorem dX7_item_0 : decode cX7_item 0 = .ok (.iload_n 1, 1) := by decide +kernel
theorem dX7_item_1 : decode cX7_item 1 = .ok (.invokestatic 138, 3) := by decide +kernel
theorem dX7_item_4 : decode cX7_item 4 = .ok (.ifCond .eq 10, 3) := by decide +kernel
theorem dX7_item_7 : decode cX7_item 7 = .ok (.iload_n 2, 1) := by decide +kernel
theorem dX7_item_8 : decode cX7_item 8 = .ok (.invokestatic 141, 3) := by decide +kernel
theorem dX7_item_11 : decode cX7_item 11 = .ok (.ifCond .ne 5, 3) := by decide +kernel
theorem dX7_item_14 : decode cX7_item 14 = .ok (.iconst (-1), 1) := by decide +kernel
theorem dX7_item_15 : decode cX7_item 15 = .ok (.ireturn, 1) := by decide +kernel
theorem dX7_item_16 : decode cX7_item 16 = .ok (.aload_n 0, 1) := by decide +kernel
theorem dX7_item_17 : decode cX7_item 17 = .ok (.getfield 31, 3) := by decide +kernel
theorem dX7_item_20 : decode cX7_item 20 = .ok (.iload_n 1, 1) := by decide +kernel
theorem dX7_item_21 : decode cX7_item 21 = .ok (.aaload, 1) := by decide +kernel
theorem dX7_item_22 : decode cX7_item 22 = .ok (.astore 6, 2) := by decide +kernel
theorem dX7_item_24 : decode cX7_item 24 = .ok (.aload 6, 2) := by decide +kernel
theorem dX7_item_26 : decode cX7_item 26 = .ok (.iload_n 2, 1) := by decide +kernel
theorem dX7_item_27 : decode cX7_item 27 = .ok (.invokevirtual 144, 3) := by decide +kernel
theorem dX7_item_30 : decode cX7_item 30 = .ok (.istore 7, 2) := by decide +kernel
theorem dX7_item_32 : decode cX7_item 32 = .ok (.iload 7, 2) := by decide +kernel
theorem dX7_item_34 : decode cX7_item 34 = .ok (.ifCond .eq 6, 3) := by decide +kernel
theorem dX7_item_37 : decode cX7_item 37 = .ok (.iload 7, 2) := by decide +kernel
theorem dX7_item_39 : decode cX7_item 39 = .ok (.ireturn, 1) := by decide +kernel
theorem dX7_item_40 : decode cX7_item 40 = .ok (.aload 6, 2) := by decide +kernel
theorem dX7_item_42 : decode cX7_item 42 = .ok (.iload_n 3, 1) := by decide +kernel
theorem dX7_item_43 : decode cX7_item 43 = .ok (.iconst 1, 1) := by decide +kernel
theorem dX7_item_44 : decode cX7_item 44 = .ok (.invokevirtual 147, 3) := by decide +kernel
theorem dX7_item_47 : decode cX7_item 47 = .ok (.ifCond .ne 6, 3) := by decide +kernel
theorem dX7_item_50 : decode cX7_item 50 = .ok (.bipush (-13), 2) := by decide +kernel
theorem dX7_item_52 : decode cX7_item 52 = .ok (.ireturn, 1) := by decide +kernel
theorem dX7_item_53 : decode cX7_item 53 = .ok (.aload 6, 2) := by decide +kernel
theorem dX7_item_55 : decode cX7_item 55 = .ok (.getfield 150, 3) := by decide +kernel
theorem dX7_item_58 : decode cX7_item 58 = .ok (.iload_n 3, 1) := by decide +kernel
theorem dX7_item_59 : decode cX7_item 59 = .ok (.iload_n 2, 1) := by decide +kernel
theorem dX7_item_60 : decode cX7_item 60 = .ok (.lload 4, 2) := by decide +kernel
theorem dX7_item_62 : decode cX7_item 62 = .ok (.invokestatic 269, 3) := by decide +kernel
theorem dX7_item_65 : decode cX7_item 65 = .ok (.lastore, 1) := by decide +kernel
theorem dX7_item_66 : decode cX7_item 66 = .ok (.iconst 1, 1) := by decide +kernel
theorem dX7_item_67 : decode cX7_item 67 = .ok (.ireturn, 1) := by decide +kernel
set_option maxRecDepth 20000 in
theorem ggX7_copy_X7_isLeaf : GoodIn wsX7_copy wsX7_isLeaf := goodIn_r _ [12] rfl (by decide +kernel)
set_option maxRecDepth 20000 in
theorem gX7_copy_X7_isLeaf : GoodIn wsX7_copy (va_wsS RX7 138 yX7_isLeaf wsX7_isLeaf) := goodIn_app (goodIn_of _ (by decide +kernel)) ggX7_copy_X7_isLeaf
set_option maxRecDepth 20000 in
theorem ggX7_copy_X2_hasItems : GoodIn wsX7_copy wsX2_hasItems := goodIn_r _ [17, 18, 31, 32, 33, 34] rfl (by decide +kernel)
set_option maxRecDepth 20000 in
theorem gX7_copy_X2_hasItems : GoodIn wsX7_copy (wsV RX7 147 RX2 yX2_hasItems wsX2_hasItems) := goodIn_app (goodIn_of _ (by decide +kernel)) ggX7_copy_X2_hasItems
theorem dX7_copy_0 : decode cX7_copy 0 = .ok (.iload_n 1, 1) := by decide +kernel
theorem dX7_copy_1 : decode cX7_copy 1 = .ok (.invokestatic 138, 3) := by decide +kernel
theorem dX7_copy_4 : decode cX7_copy 4 = .ok (.ifCond .eq 10, 3) := by decide +kernel
theorem dX7_copy_7 : decode cX7_copy 7 = .ok (.iload_n 3, 1) := by decide +kernel
theorem dX7_copy_8 : decode cX7_copy 8 = .ok (.invokestatic 138, 3) := by decide +kernel
theorem dX7_copy_11 : decode cX7_copy 11 = .ok (.ifCond .ne 5, 3) := by decide +kernel
theorem dX7_copy_14 : decode cX7_copy 14 = .ok (.iconst (-1), 1) := by decide +kernel
theorem dX7_copy_15 : decode cX7_copy 15 = .ok (.ireturn, 1) := by decide +kernel
theorem dX7_copy_16 : decode cX7_copy 16 = .ok (.aload_n 0, 1) := by decide +kernel
theorem dX7_copy_17 : decode cX7_copy 17 = .ok (.getfield 31, 3) := by decide +kernel
theorem dX7_copy_20 : decode cX7_copy 20 = .ok (.iload_n 1, 1) := by decide +kernel
theorem dX7_copy_21 : decode cX7_copy 21 = .ok (.aaload, 1) := by decide +kernel
theorem dX7_copy_22 : decode cX7_copy 22 = .ok (.astore 6, 2) := by decide +kernel
theorem dX7_copy_24 : decode cX7_copy 24 = .ok (.aload_n 0, 1) := by decide +kernel
theorem dX7_copy_25 : decode cX7_copy 25 = .ok (.getfield 31, 3) := by decide +kernel
theorem dX7_copy_28 : decode cX7_copy 28 = .ok (.iload_n 3, 1) := by decide +kernel
theorem dX7_copy_29 : decode cX7_copy 29 = .ok (.aaload, 1) := by decide +kernel
theorem dX7_copy_30 : decode cX7_copy 30 = .ok (.astore 7, 2) := by decide +kernel
theorem dX7_copy_32 : decode cX7_copy 32 = .ok (.aload 6, 2) := by decide +kernel
theorem dX7_copy_34 : decode cX7_copy 34 = .ok (.getfield 264, 3) := by decide +kernel
theorem dX7_copy_37 : decode cX7_copy 37 = .ok (.ifCond .eq 11, 3) := by decide +kernel
theorem dX7_copy_40 : decode cX7_copy 40 = .ok (.aload 7, 2) := by decide +kernel
theorem dX7_copy_42 : decode cX7_copy 42 = .ok (.getfield 264, 3) := by decide +kernel
theorem dX7_copy_45 : decode cX7_copy 45 = .ok (.ifCond .ne 6, 3) := by decide +kernel
theorem dX7_copy_48 : decode cX7_copy 48 = .ok (.bipush (-11), 2) := by decide +kernel
theorem dX7_copy_50 : decode cX7_copy 50 = .ok (.ireturn, 1) := by decide +kernel
theorem dX7_copy_51 : decode cX7_copy 51 = .ok (.aload 6, 2) := by decide +kernel
theorem dX7_copy_53 : decode cX7_copy 53 = .ok (.getfield 273, 3) := by decide +kernel
theorem dX7_copy_56 : decode cX7_copy 56 = .ok (.aload 7, 2) := by decide +kernel
theorem dX7_copy_58 : decode cX7_copy 58 = .ok (.getfield 273, 3) := by decide +kernel
theorem dX7_copy_61 : decode cX7_copy 61 = .ok (.if_icmp .eq 6, 3) := by decide +kernel
theorem dX7_copy_64 : decode cX7_copy 64 = .ok (.bipush (-12), 2) := by decide +kernel
theorem dX7_copy_66 : decode cX7_copy 66 = .ok (.ireturn, 1) := by decide +kernel
theorem dX7_copy_67 : decode cX7_copy 67 = .ok (.aload 6, 2) := by decide +kernel
theorem dX7_copy_69 : decode cX7_copy 69 = .ok (.iload_n 2, 1) := by decide +kernel
theorem dX7_copy_70 : decode cX7_copy 70 = .ok (.iload 5, 2) := by decide +kernel
theorem dX7_copy_72 : decode cX7_copy 72 = .ok (.invokevirtual 147, 3) := by decide +kernel
theorem dX7_copy_75 : decode cX7_copy 75 = .ok (.ifCond .eq 15, 3) := by decide +kernel
theorem dX7_copy_78 : decode cX7_copy 78 = .ok (.aload 7, 2) := by decide +kernel
theorem dX7_copy_80 : decode cX7_copy 80 = .ok (.iload 4, 2) := by decide +kernel
theorem dX7_copy_82 : decode cX7_copy 82 = .ok (.iload 5, 2) := by decide +kernel
theorem dX7_copy_84 : decode cX7_copy 84 = .ok (.invokevirtual 147, 3) := by decide +kernel
theorem dX7_copy_87 : decode cX7_copy 87 = .ok (.ifCond .ne 6, 3) := by decide +kernel
theorem dX7_copy_90 : decode cX7_copy 90 = .ok (.bipush (-13), 2) := by decide +kernel
theorem dX7_copy_92 : decode cX7_copy 92 = .ok (.ireturn, 1) := by decide +kernel
theorem dX7_copy_93 : decode cX7_copy 93 = .ok (.aload 6, 2) := by decide +kernel
theorem dX7_copy_95 : decode cX7_copy 95 = .ok (.getfield 150, 3) := by decide +kernel
theorem dX7_copy_98 : decode cX7_copy 98 = .ok (.iload_n 2, 1) := by decide +kernel
theorem dX7_copy_99 : decode cX7_copy 99 = .ok (.aload 7, 2) := by decide +kernel
theorem dX7_copy_101 : decode cX7_copy 101 = .ok (.getfield 150, 3) := by decide +kernel
theorem dX7_copy_104 : decode cX7_copy 104 = .ok (.iload 4, 2) := by decide +kernel
theorem dX7_copy_106 : decode cX7_copy 106 = .ok (.iload 5, 2) := by decide +kernel
theorem dX7_copy_108 : decode cX7_copy 108 = .ok (.invokestatic 276, 3) := by decide +kernel
theorem dX7_copy_111 : decode cX7_copy 111 = .ok (.iload 5, 2) := by decide +kernel
theorem dX7_copy_113 : decode cX7_copy 113 = .ok (.ireturn, 1) := by decide +kernel
theorem dX7_isKind_0 : decode cX7_isKind 0 = .ok (.iload_n 0, 1) := by decide +kernel
theorem dX7_isKind_1 : decode cX7_isKind 1 = .ok (.ifCond .lt 12, 3) := by decide +kernel
theorem dX7_isKind_4 : decode cX7_isKind 4 = .ok (.iload_n 0, 1) := by decide +kernel
theorem dX7_isKind_5 : decode cX7_isKind 5 = .ok (.iconst 3, 1) := by decide +kernel
theorem dX7_isKind_6 : decode cX7_isKind 6 = .ok (.if_icmp .ge 7, 3) := by decide +kernel
theorem dX7_isKind_9 : decode cX7_isKind 9 = .ok (.iconst 1, 1) := by decide +kernel
theorem dX7_isKind_10 : decode cX7_isKind 10 = .ok (.goto 4, 3) := by decide +kernel
theorem dX7_isKind_13 : decode cX7_isKind 13 = .ok (.iconst 0, 1) := by decide +kernel
theorem dX7_isKind_14 : decode cX7_isKind 14 = .ok (.ireturn, 1) := by decide +kernel
theorem dX7_isSlot_0 : decode cX7_isSlot 0 = .ok (.iload_n 0, 1) := by decide +kernel
theorem dX7_isSlot_1 : decode cX7_isSlot 1 = .ok (.ifCond .lt 13, 3) := by decide +kernel
theorem dX7_isSlot_4 : decode cX7_isSlot 4 = .ok (.iload_n 0, 1) := by decide +kernel
theorem dX7_isSlot_5 : decode cX7_isSlot 5 = .ok (.bipush 8, 2) := by decide +kernel
theorem dX7_isSlot_7 : decode cX7_isSlot 7 = .ok (.if_icmp .ge 7, 3) := by decide +kernel
theorem dX7_isSlot_10 : decode cX7_isSlot 10 = .ok (.iconst 1, 1) := by decide +kernel
theorem dX7_isSlot_11 : decode cX7_isSlot 11 = .ok (.goto 4, 3) := by decide +kernel
theorem dX7_isSlot_14 : decode cX7_isSlot 14 = .ok (.iconst 0, 1) := by decide +kernel
theorem dX7_isSlot_15 : decode cX7_isSlot 15 = .ok (.ireturn, 1) := by decide +kernel
theorem dX7_isLeaf_0 : decode cX7_isLeaf 0 = .ok (.iload_n 0, 1) := by decide +kernel
theorem dX7_isLeaf_1 : decode cX7_isLeaf 1 = .ok (.ifCond .lt 12, 3) := by decide +kernel
theorem dX7_isLeaf_4 : decode cX7_isLeaf 4 = .ok (.iload_n 0, 1) := by decide +kernel
theorem dX7_isLeaf_5 : decode cX7_isLeaf 5 = .ok (.iconst 4, 1) := by decide +kernel
theorem dX7_isLeaf_6 : decode cX7_isLeaf 6 = .ok (.if_icmp .ge 7, 3) := by decide +kernel
theorem dX7_isLeaf_9 : decode cX7_isLeaf 9 = .ok (.iconst 1, 1) := by decide +kernel
theorem dX7_isLeaf_10 : decode cX7_isLeaf 10 = .ok (.goto 4, 3) := by decide +kernel
theorem dX7_isLeaf_13 : decode cX7_isLeaf 13 = .ok (.iconst 0, 1) := by decide +kernel
theorem dX7_isLeaf_14 : decode cX7_isLeaf 14 = .ok (.ireturn, 1) := by decide +kernel
theorem dX7_isLane_0 : decode cX7_isLane 0 = .ok (.iload_n 0, 1) := by decide +kernel
theorem dX7_isLane_1 : decode cX7_isLane 1 = .ok (.ifCond .lt 12, 3) := by decide +kernel
theorem dX7_isLane_4 : decode cX7_isLane 4 = .ok (.iload_n 0, 1) := by decide +kernel
theorem dX7_isLane_5 : decode cX7_isLane 5 = .ok (.iconst 3, 1) := by decide +kernel
theorem dX7_isLane_6 : decode cX7_isLane 6 = .ok (.if_icmp .ge 7, 3) := by decide +kernel
theorem dX7_isLane_9 : decode cX7_isLane 9 = .ok (.iconst 1, 1) := by decide +kernel
theorem dX7_isLane_10 : decode cX7_isLane 10 = .ok (.goto 4, 3) := by decide +kernel
theorem dX7_isLane_13 : decode cX7_isLane 13 = .ok (.iconst 0, 1) := by decide +kernel
theorem dX7_isLane_14 : decode cX7_isLane 14 = .ok (.ireturn, 1) := by decide +kernel
theorem dX7_areMeetingNumbers_0 : decode cX7_areMeetingNumbers 0 = .ok (.iload_n 0, 1) := by decide +kernel
theorem dX7_areMeetingNumbers_1 : decode cX7_areMeetingNumbers 1 = .ok (.ifCond .lt 17, 3) := by decide +kernel
theorem dX7_areMeetingNumbers_4 : decode cX7_areMeetingNumbers 4 = .ok (.iload_n 1, 1) := by decide +kernel
theorem dX7_areMeetingNumbers_5 : decode cX7_areMeetingNumbers 5 = .ok (.ifCond .lt 13, 3) := by decide +kernel
theorem dX7_areMeetingNumbers_8 : decode cX7_areMeetingNumbers 8 = .ok (.iload_n 0, 1) := by decide +kernel
theorem dX7_areMeetingNumbers_9 : decode cX7_areMeetingNumbers 9 = .ok (.iconst 4, 1) := by decide +kernel
theorem dX7_areMeetingNumbers_10 : decode cX7_areMeetingNumbers 10 = .ok (.if_icmp .gt 8, 3) := by decide +kernel
theorem dX7_areMeetingNumbers_13 : decode cX7_areMeetingNumbers 13 = .ok (.iload_n 1, 1) := by decide +kernel
theorem dX7_areMeetingNumbers_14 : decode cX7_areMeetingNumbers 14 = .ok (.iconst 4, 1) := by decide +kernel
theorem dX7_areMeetingNumbers_15 : decode cX7_areMeetingNumbers 15 = .ok (.if_icmp .le 5, 3) := by decide +kernel
theorem dX7_areMeetingNumbers_18 : decode cX7_areMeetingNumbers 18 = .ok (.iconst 0, 1) := by decide +kernel
theorem dX7_areMeetingNumbers_19 : decode cX7_areMeetingNumbers 19 = .ok (.ireturn, 1) := by decide +kernel
theorem dX7_areMeetingNumbers_20 : decode cX7_areMeetingNumbers 20 = .ok (.iload_n 0, 1) := by decide +kernel
theorem dX7_areMeetingNumbers_21 : decode cX7_areMeetingNumbers 21 = .ok (.ifCond .ne 7, 3) := by decide +kernel
theorem dX7_areMeetingNumbers_24 : decode cX7_areMeetingNumbers 24 = .ok (.iconst 1, 1) := by decide +kernel
theorem dX7_areMeetingNumbers_25 : decode cX7_areMeetingNumbers 25 = .ok (.goto 4, 3) := by decide +kernel
theorem dX7_areMeetingNumbers_28 : decode cX7_areMeetingNumbers 28 = .ok (.iconst 0, 1) := by decide +kernel
theorem dX7_areMeetingNumbers_29 : decode cX7_areMeetingNumbers 29 = .ok (.iload_n 1, 1) := by decide +kernel
theorem dX7_areMeetingNumbers_30 : decode cX7_areMeetingNumbers 30 = .ok (.ifCond .ne 7, 3) := by decide +kernel
theorem dX7_areMeetingNumbers_33 : decode cX7_areMeetingNumbers 33 = .ok (.iconst 1, 1) := by decide +kernel
theorem dX7_areMeetingNumbers_34 : decode cX7_areMeetingNumbers 34 = .ok (.goto 4, 3) := by decide +kernel
theorem dX7_areMeetingNumbers_37 : decode cX7_areMeetingNumbers 37 = .ok (.iconst 0, 1) := by decide +kernel
theorem dX7_areMeetingNumbers_38 : decode cX7_areMeetingNumbers 38 = .ok (.if_icmp .ne 14, 3) := by decide +kernel
theorem dX7_areMeetingNumbers_41 : decode cX7_areMeetingNumbers 41 = .ok (.iload_n 0, 1) := by decide +kernel
theorem dX7_areMeetingNumbers_42 : decode cX7_areMeetingNumbers 42 = .ok (.iload_n 1, 1) := by decide +kernel
theorem dX7_areMeetingNumbers_43 : decode cX7_areMeetingNumbers 43 = .ok (.imul, 1) := by decide +kernel
theorem dX7_areMeetingNumbers_44 : decode cX7_areMeetingNumbers 44 = .ok (.iconst 4, 1) := by decide +kernel
theorem dX7_areMeetingNumbers_45 : decode cX7_areMeetingNumbers 45 = .ok (.if_icmp .gt 7, 3) := by decide +kernel
theorem dX7_areMeetingNumbers_48 : decode cX7_areMeetingNumbers 48 = .ok (.iconst 1, 1) := by decide +kernel
theorem dX7_areMeetingNumbers_49 : decode cX7_areMeetingNumbers 49 = .ok (.goto 4, 3) := by decide +kernel
theorem dX7_areMeetingNumbers_52 : decode cX7_areMeetingNumbers 52 = .ok (.iconst 0, 1) := by decide +kernel
theorem dX7_areMeetingNumbers_53 : decode cX7_areMeetingNumbers 53 = .ok (.ireturn, 1) := by decide +kernel
theorem dX7_lowestBits_0 : decode cX7_lowestBits 0 = .ok (.iload_n 0, 1) := by decide +kernel
theorem dX7_lowestBits_1 : decode cX7_lowestBits 1 = .ok (.ifCond .ne 8, 3) := by decide +kernel
theorem dX7_lowestBits_4 : decode cX7_lowestBits 4 = .ok (.lload_n 1, 1) := by decide +kernel
theorem dX7_lowestBits_5 : decode cX7_lowestBits 5 = .ok (.l2i, 1) := by decide +kernel
theorem dX7_lowestBits_6 : decode cX7_lowestBits 6 = .ok (.i2b, 1) := by decide +kernel
theorem dX7_lowestBits_7 : decode cX7_lowestBits 7 = .ok (.i2l, 1) := by decide +kernel
theorem dX7_lowestBits_8 : decode cX7_lowestBits 8 = .ok (.lreturn, 1) := by decide +kernel
theorem dX7_lowestBits_9 : decode cX7_lowestBits 9 = .ok (.iload_n 0, 1) := by decide +kernel
theorem dX7_lowestBits_10 : decode cX7_lowestBits 10 = .ok (.iconst 1, 1) := by decide +kernel
theorem dX7_lowestBits_11 : decode cX7_lowestBits 11 = .ok (.if_icmp .ne 9, 3) := by decide +kernel
theorem dX7_lowestBits_14 : decode cX7_lowestBits 14 = .ok (.lload_n 1, 1) := by decide +kernel
theorem dX7_lowestBits_15 : decode cX7_lowestBits 15 = .ok (.l2i, 1) := by decide +kernel
theorem dX7_lowestBits_16 : decode cX7_lowestBits 16 = .ok (.i2l, 1) := by decide +kernel
theorem dX7_lowestBits_17 : decode cX7_lowestBits 17 = .ok (.goto 4, 3) := by decide +kernel
theorem dX7_lowestBits_20 : decode cX7_lowestBits 20 = .ok (.lload_n 1, 1) := by decide +kernel
theorem dX7_lowestBits_21 : decode cX7_lowestBits 21 = .ok (.lreturn, 1) := by decide +kernel
set_option maxRecDepth 20000 in
theorem ggX7_setOwn_J7_fill_d0a16 : GoodIn wsX7_setOwn wsJ7_fill_d0a16 := goodIn_r _ [4] rfl (by decide +kernel)
set_option maxRecDepth 20000 in
theorem gX7_setOwn_J7_fill_d0a16 : GoodIn wsX7_setOwn (va_wsS RX7 282 yJ7_fill_d0a16 wsJ7_fill_d0a16) := goodIn_app (goodIn_of _ (by decide +kernel)) ggX7_setOwn_J7_fill_d0a16
theorem dX7_setOwn_0 : decode cX7_setOwn 0 = .ok (.aload_n 0, 1) := by decide +kernel
theorem dX7_setOwn_1 : decode cX7_setOwn 1 = .ok (.lconst 0, 1) := by decide +kernel
theorem dX7_setOwn_2 : decode cX7_setOwn 2 = .ok (.invokestatic 282, 3) := by decide +kernel
theorem dX7_setOwn_5 : decode cX7_setOwn 5 = .ok (.aload_n 0, 1) := by decide +kernel
theorem dX7_setOwn_6 : decode cX7_setOwn 6 = .ok (.iload_n 1, 1) := by decide +kernel
theorem dX7_setOwn_7 : decode cX7_setOwn 7 = .ok (.lconst 1, 1) := by decide +kernel
theorem dX7_setOwn_8 : decode cX7_setOwn 8 = .ok (.lastore, 1) := by decide +kernel
theorem dX7_setOwn_9 : decode cX7_setOwn 9 = .ok (.return_, 1) := by decide +kernel
theorem dX7_isOwn_0 : decode cX7_isOwn 0 = .ok (.aload_n 0, 1) := by decide +kernel
theorem dX7_isOwn_1 : decode cX7_isOwn 1 = .ok (.iload_n 1, 1) := by decide +kernel
theorem dX7_isOwn_2 : decode cX7_isOwn 2 = .ok (.laload, 1) := by decide +kernel
theorem dX7_isOwn_3 : decode cX7_isOwn 3 = .ok (.lconst 1, 1) := by decide +kernel
theorem dX7_isOwn_4 : decode cX7_isOwn 4 = .ok (.lcmp, 1) := by decide +kernel
theorem dX7_isOwn_5 : decode cX7_isOwn 5 = .ok (.ifCond .eq 5, 3) := by decide +kernel
theorem dX7_isOwn_8 : decode cX7_isOwn 8 = .ok (.iconst 0, 1) := by decide +kernel
theorem dX7_isOwn_9 : decode cX7_isOwn 9 = .ok (.ireturn, 1) := by decide +kernel
theorem dX7_isOwn_10 : decode cX7_isOwn 10 = .ok (.iconst 0, 1) := by decide +kernel
theorem dX7_isOwn_11 : decode cX7_isOwn 11 = .ok (.istore_n 2, 1) := by decide +kernel
theorem dX7_isOwn_12 : decode cX7_isOwn 12 = .ok (.iload_n 2, 1) := by decide +kernel
theorem dX7_isOwn_13 : decode cX7_isOwn 13 = .ok (.aload_n 0, 1) := by decide +kernel
theorem dX7_isOwn_14 : decode cX7_isOwn 14 = .ok (.arraylength, 1) := by decide +kernel
theorem dX7_isOwn_15 : decode cX7_isOwn 15 = .ok (.if_icmp .ge 24, 3) := by decide +kernel
theorem dX7_isOwn_18 : decode cX7_isOwn 18 = .ok (.iload_n 2, 1) := by decide +kernel
theorem dX7_isOwn_19 : decode cX7_isOwn 19 = .ok (.iload_n 1, 1) := by decide +kernel
theorem dX7_isOwn_20 : decode cX7_isOwn 20 = .ok (.if_icmp .eq 13, 3) := by decide +kernel
theorem dX7_isOwn_23 : decode cX7_isOwn 23 = .ok (.aload_n 0, 1) := by decide +kernel
theorem dX7_isOwn_24 : decode cX7_isOwn 24 = .ok (.iload_n 2, 1) := by decide +kernel
theorem dX7_isOwn_25 : decode cX7_isOwn 25 = .ok (.laload, 1) := by decide +kernel
theorem dX7_isOwn_26 : decode cX7_isOwn 26 = .ok (.lconst 0, 1) := by decide +kernel
theorem dX7_isOwn_27 : decode cX7_isOwn 27 = .ok (.lcmp, 1) := by decide +kernel
theorem dX7_isOwn_28 : decode cX7_isOwn 28 = .ok (.ifCond .eq 5, 3) := by decide +kernel
theorem dX7_isOwn_31 : decode cX7_isOwn 31 = .ok (.iconst 0, 1) := by decide +kernel
theorem dX7_isOwn_32 : decode cX7_isOwn 32 = .ok (.ireturn, 1) := by decide +kernel
theorem dX7_isOwn_33 : decode cX7_isOwn 33 = .ok (.iinc 2 1, 3) := by decide +kernel
theorem dX7_isOwn_36 : decode cX7_isOwn 36 = .ok (.goto (-24), 3) := by decide +kernel
theorem dX7_isOwn_39 : decode cX7_isOwn 39 = .ok (.iconst 1, 1) := by decide +kernel
theorem dX7_isOwn_40 : decode cX7_isOwn 40 = .ok (.ireturn, 1) := by decide +kernel
theorem dX7_hasBelowZero_0 : decode cX7_hasBelowZero 0 = .ok (.iconst 0, 1) := by decide +kernel
theorem dX7_hasBelowZero_1 : decode cX7_hasBelowZero 1 = .ok (.istore_n 1, 1) := by decide +kernel
theorem dX7_hasBelowZero_2 : decode cX7_hasBelowZero 2 = .ok (.iload_n 1, 1) := by decide +kernel
theorem dX7_hasBelowZero_3 : decode cX7_hasBelowZero 3 = .ok (.aload_n 0, 1) := by decide +kernel
theorem dX7_hasBelowZero_4 : decode cX7_hasBelowZero 4 = .ok (.arraylength, 1) := by decide +kernel
theorem dX7_hasBelowZero_5 : decode cX7_hasBelowZero 5 = .ok (.if_icmp .ge 19, 3) := by decide +kernel
theorem dX7_hasBelowZero_8 : decode cX7_hasBelowZero 8 = .ok (.aload_n 0, 1) := by decide +kernel
theorem dX7_hasBelowZero_9 : decode cX7_hasBelowZero 9 = .ok (.iload_n 1, 1) := by decide +kernel
theorem dX7_hasBelowZero_10 : decode cX7_hasBelowZero 10 = .ok (.laload, 1) := by decide +kernel
theorem dX7_hasBelowZero_11 : decode cX7_hasBelowZero 11 = .ok (.lconst 0, 1) := by decide +kernel
theorem dX7_hasBelowZero_12 : decode cX7_hasBelowZero 12 = .ok (.lcmp, 1) := by decide +kernel
theorem dX7_hasBelowZero_13 : decode cX7_hasBelowZero 13 = .ok (.ifCond .ge 5, 3) := by decide +kernel
theorem dX7_hasBelowZero_16 : decode cX7_hasBelowZero 16 = .ok (.iconst 1, 1) := by decide +kernel
theorem dX7_hasBelowZero_17 : decode cX7_hasBelowZero 17 = .ok (.ireturn, 1) := by decide +kernel
theorem dX7_hasBelowZero_18 : decode cX7_hasBelowZero 18 = .ok (.iinc 1 1, 3) := by decide +kernel
theorem dX7_hasBelowZero_21 : decode cX7_hasBelowZero 21 = .ok (.goto (-19), 3) := by decide +kernel
theorem dX7_hasBelowZero_24 : decode cX7_hasBelowZero 24 = .ok (.iconst 0, 1) := by decide +kernel
theorem dX7_hasBelowZero_25 : decode cX7_hasBelowZero 25 = .ok (.ireturn, 1) := by decide +kernel
set_option maxRecDepth 20000 in
theorem ggX7_startAnew_X4_forget : GoodIn wsX7_startAnew wsX4_forget := goodIn_r _ [9, 10, 11, 33, 34, 35, 36, 37, 38] rfl (by decide +kernel)
set_option maxRecDepth 20000 in
theorem gX7_startAnew_X4_forget : GoodIn wsX7_startAnew (wsV RX7 288 RX4 yX4_forget wsX4_forget) := goodIn_app (goodIn_of _ (by decide +kernel)) ggX7_startAnew_X4_forget
set_option maxRecDepth 20000 in
theorem ggX7_startAnew_X0_forget : GoodIn wsX7_startAnew wsX0_forget := goodIn_r _ [16, 17, 18, 39, 40, 41, 42, 43, 44] rfl (by decide +kernel)
set_option maxRecDepth 20000 in
theorem gX7_startAnew_X0_forget : GoodIn wsX7_startAnew (wsV RX7 291 RX0 yX0_forget wsX0_forget) := goodIn_app (goodIn_of _ (by decide +kernel)) ggX7_startAnew_X0_forget
theorem dX7_startAnew_0 : decode cX7_startAnew 0 = .ok (.iconst 0, 1) := by decide +kernel
theorem dX7_startAnew_1 : decode cX7_startAnew 1 = .ok (.istore_n 1, 1) := by decide +kernel
theorem dX7_startAnew_2 : decode cX7_startAnew 2 = .ok (.iload_n 1, 1) := by decide +kernel
theorem dX7_startAnew_3 : decode cX7_startAnew 3 = .ok (.bipush 8, 2) := by decide +kernel
theorem dX7_startAnew_5 : decode cX7_startAnew 5 = .ok (.if_icmp .ge 19, 3) := by decide +kernel
theorem dX7_startAnew_8 : decode cX7_startAnew 8 = .ok (.aload_n 0, 1) := by decide +kernel
theorem dX7_startAnew_9 : decode cX7_startAnew 9 = .ok (.getfield 25, 3) := by decide +kernel
theorem dX7_startAnew_12 : decode cX7_startAnew 12 = .ok (.iload_n 1, 1) := by decide +kernel
theorem dX7_startAnew_13 : decode cX7_startAnew 13 = .ok (.aaload, 1) := by decide +kernel
theorem dX7_startAnew_14 : decode cX7_startAnew 14 = .ok (.iconst 0, 1) := by decide +kernel
theorem dX7_startAnew_15 : decode cX7_startAnew 15 = .ok (.putfield 131, 3) := by decide +kernel
theorem dX7_startAnew_18 : decode cX7_startAnew 18 = .ok (.iinc 1 1, 3) := by decide +kernel
theorem dX7_startAnew_21 : decode cX7_startAnew 21 = .ok (.goto (-19), 3) := by decide +kernel
theorem dX7_startAnew_24 : decode cX7_startAnew 24 = .ok (.aload_n 0, 1) := by decide +kernel
theorem dX7_startAnew_25 : decode cX7_startAnew 25 = .ok (.getfield 47, 3) := by decide +kernel
theorem dX7_startAnew_28 : decode cX7_startAnew 28 = .ok (.invokevirtual 288, 3) := by decide +kernel
theorem dX7_startAnew_31 : decode cX7_startAnew 31 = .ok (.aload_n 0, 1) := by decide +kernel
theorem dX7_startAnew_32 : decode cX7_startAnew 32 = .ok (.getfield 54, 3) := by decide +kernel
theorem dX7_startAnew_35 : decode cX7_startAnew 35 = .ok (.invokevirtual 291, 3) := by decide +kernel
theorem dX7_startAnew_38 : decode cX7_startAnew 38 = .ok (.return_, 1) := by decide +kernel
set_option maxRecDepth 20000 in
theorem ggX7_store_X6_take : GoodIn wsX7_store wsX6_take := goodIn_r _ [7, 8, 9, 10, 11, 12, 13, 26, 27] rfl (by decide +kernel)
set_option maxRecDepth 20000 in
theorem gX7_store_X6_take : GoodIn wsX7_store (wsV RX7 160 RX6 yX6_take wsX6_take) := goodIn_app (goodIn_of _ (by decide +kernel)) ggX7_store_X6_take
theorem dX7_store_0 : decode cX7_store 0 = .ok (.aload_n 0, 1) := by decide +kernel
theorem dX7_store_1 : decode cX7_store 1 = .ok (.getfield 25, 3) := by decide +kernel
theorem dX7_store_4 : decode cX7_store 4 = .ok (.iload_n 2, 1) := by decide +kernel
theorem dX7_store_5 : decode cX7_store 5 = .ok (.aaload, 1) := by decide +kernel
theorem dX7_store_6 : decode cX7_store 6 = .ok (.aload_n 1, 1) := by decide +kernel
theorem dX7_store_7 : decode cX7_store 7 = .ok (.invokevirtual 160, 3) := by decide +kernel
theorem dX7_store_10 : decode cX7_store 10 = .ok (.aload_n 1, 1) := by decide +kernel
theorem dX7_store_11 : decode cX7_store 11 = .ok (.getfield 131, 3) := by decide +kernel
theorem dX7_store_14 : decode cX7_store 14 = .ok (.ireturn, 1) := by decide +kernel
set_option maxRecDepth 20000 in
theorem ggX7_joinWay_X6_takeInverted : GoodIn wsX7_joinWay wsX6_takeInverted := goodIn_r _ [8, 9, 10, 31, 32] rfl (by decide +kernel)
set_option maxRecDepth 20000 in
theorem gX7_joinWay_X6_takeInverted : GoodIn wsX7_joinWay (wsV RX7 167 RX6 yX6_takeInverted wsX6_takeInverted) := goodIn_app (goodIn_of _ (by decide +kernel)) ggX7_joinWay_X6_takeInverted
set_option maxRecDepth 20000 in
theorem ggX7_joinWay_X6_append : GoodIn wsX7_joinWay wsX6_append := goodIn_r _ [14, 10, 9, 15, 16, 17, 18, 31, 32] rfl (by decide +kernel)
set_option maxRecDepth 20000 in
theorem gX7_joinWay_X6_append : GoodIn wsX7_joinWay (wsV RX7 164 RX6 yX6_append wsX6_append) := goodIn_app (goodIn_of _ (by decide +kernel)) ggX7_joinWay_X6_append
theorem dX7_joinWay_0 : decode cX7_joinWay 0 = .ok (.aload_n 0, 1) := by decide +kernel
theorem dX7_joinWay_1 : decode cX7_joinWay 1 = .ok (.getfield 25, 3) := by decide +kernel
theorem dX7_joinWay_4 : decode cX7_joinWay 4 = .ok (.iload_n 1, 1) := by decide +kernel
theorem dX7_joinWay_5 : decode cX7_joinWay 5 = .ok (.aaload, 1) := by decide +kernel
theorem dX7_joinWay_6 : decode cX7_joinWay 6 = .ok (.getfield 131, 3) := by decide +kernel
theorem dX7_joinWay_9 : decode cX7_joinWay 9 = .ok (.aload_n 0, 1) := by decide +kernel
theorem dX7_joinWay_10 : decode cX7_joinWay 10 = .ok (.getfield 25, 3) := by decide +kernel
theorem dX7_joinWay_13 : decode cX7_joinWay 13 = .ok (.iload_n 2, 1) := by decide +kernel
theorem dX7_joinWay_14 : decode cX7_joinWay 14 = .ok (.aaload, 1) := by decide +kernel
theorem dX7_joinWay_15 : decode cX7_joinWay 15 = .ok (.getfield 131, 3) := by decide +kernel
theorem dX7_joinWay_18 : decode cX7_joinWay 18 = .ok (.iadd, 1) := by decide +kernel
theorem dX7_joinWay_19 : decode cX7_joinWay 19 = .ok (.bipush 100, 2) := by decide +kernel
theorem dX7_joinWay_21 : decode cX7_joinWay 21 = .ok (.if_icmp .le 5, 3) := by decide +kernel
theorem dX7_joinWay_24 : decode cX7_joinWay 24 = .ok (.iconst 0, 1) := by decide +kernel
theorem dX7_joinWay_25 : decode cX7_joinWay 25 = .ok (.ireturn, 1) := by decide +kernel
theorem dX7_joinWay_26 : decode cX7_joinWay 26 = .ok (.aload_n 0, 1) := by decide +kernel
theorem dX7_joinWay_27 : decode cX7_joinWay 27 = .ok (.getfield 66, 3) := by decide +kernel
theorem dX7_joinWay_30 : decode cX7_joinWay 30 = .ok (.aload_n 0, 1) := by decide +kernel
theorem dX7_joinWay_31 : decode cX7_joinWay 31 = .ok (.getfield 25, 3) := by decide +kernel
theorem dX7_joinWay_34 : decode cX7_joinWay 34 = .ok (.iload_n 1, 1) := by decide +kernel
theorem dX7_joinWay_35 : decode cX7_joinWay 35 = .ok (.aaload, 1) := by decide +kernel
theorem dX7_joinWay_36 : decode cX7_joinWay 36 = .ok (.invokevirtual 167, 3) := by decide +kernel
theorem dX7_joinWay_39 : decode cX7_joinWay 39 = .ok (.aload_n 0, 1) := by decide +kernel
theorem dX7_joinWay_40 : decode cX7_joinWay 40 = .ok (.getfield 66, 3) := by decide +kernel
theorem dX7_joinWay_43 : decode cX7_joinWay 43 = .ok (.aload_n 0, 1) := by decide +kernel
theorem dX7_joinWay_44 : decode cX7_joinWay 44 = .ok (.getfield 25, 3) := by decide +kernel
theorem dX7_joinWay_47 : decode cX7_joinWay 47 = .ok (.iload_n 2, 1) := by decide +kernel
theorem dX7_joinWay_48 : decode cX7_joinWay 48 = .ok (.aaload, 1) := by decide +kernel
theorem dX7_joinWay_49 : decode cX7_joinWay 49 = .ok (.invokevirtual 164, 3) := by decide +kernel
theorem dX7_joinWay_52 : decode cX7_joinWay 52 = .ok (.iconst 1, 1) := by decide +kernel
theorem dX7_joinWay_53 : decode cX7_joinWay 53 = .ok (.ireturn, 1) := by decide +kernel
