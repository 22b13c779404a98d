theorem dX8_undo_48 : decode cX8_undo 48 = .ok (.iinc 1 1, 3) := by decide +kernel
theorem dX8_undo_51 : decode cX8_undo 51 = .ok (.goto (-29), 3) := by decide +kernel
theorem dX8_undo_54 : decode cX8_undo 54 = .ok (.aload_n 0, 1) := by decide +kernel
theorem dX8_undo_55 : decode cX8_undo 55 = .ok (.getfield 124, 3) := by decide +kernel
theorem dX8_undo_58 : decode cX8_undo 58 = .ok (.ireturn, 1) := by decide +kernel
set_option maxRecDepth 20000 in
theorem ggX8_keep_X8_in : GoodIn wsX8_keep wsX8_in := goodIn_r _ [7] (by decide +kernel) (by decide +kernel)
set_option maxRecDepth 20000 in
theorem gX8_keep_X8_in : GoodIn wsX8_keep (va_wsS RX8 44 yX8_in wsX8_in) := goodIn_app (goodIn_of _ (by decide +kernel)) ggX8_keep_X8_in
theorem dX8_keep_0 : decode cX8_keep 0 = .ok (.iload_n 1, 1) := by decide +kernel
theorem dX8_keep_1 : decode cX8_keep 1 = .ok (.i2l, 1) := by decide +kernel
theorem dX8_keep_2 : decode cX8_keep 2 = .ok (.lconst 0, 1) := by decide +kernel
theorem dX8_keep_3 : decode cX8_keep 3 = .ok (.lconst 1, 1) := by decide +kernel
theorem dX8_keep_4 : decode cX8_keep 4 = .ok (.invokestatic 44, 3) := by decide +kernel
theorem dX8_keep_7 : decode cX8_keep 7 = .ok (.ifCond .ne 6, 3) := by decide +kernel
theorem dX8_keep_10 : decode cX8_keep 10 = .ok (.bipush (-2), 2) := by decide +kernel
theorem dX8_keep_12 : decode cX8_keep 12 = .ok (.ireturn, 1) := by decide +kernel
theorem dX8_keep_13 : decode cX8_keep 13 = .ok (.iconst 0, 1) := by decide +kernel
theorem dX8_keep_14 : decode cX8_keep 14 = .ok (.istore_n 2, 1) := by decide +kernel
theorem dX8_keep_15 : decode cX8_keep 15 = .ok (.iload_n 2, 1) := by decide +kernel
theorem dX8_keep_16 : decode cX8_keep 16 = .ok (.bipush 73, 2) := by decide +kernel
theorem dX8_keep_18 : decode cX8_keep 18 = .ok (.if_icmp .ge 26, 3) := by decide +kernel
theorem dX8_keep_21 : decode cX8_keep 21 = .ok (.aload_n 0, 1) := by decide +kernel
theorem dX8_keep_22 : decode cX8_keep 22 = .ok (.getfield 29, 3) := by decide +kernel
theorem dX8_keep_25 : decode cX8_keep 25 = .ok (.bipush 73, 2) := by decide +kernel
theorem dX8_keep_27 : decode cX8_keep 27 = .ok (.iload_n 1, 1) := by decide +kernel
theorem dX8_keep_28 : decode cX8_keep 28 = .ok (.imul, 1) := by decide +kernel
theorem dX8_keep_29 : decode cX8_keep 29 = .ok (.iload_n 2, 1) := by decide +kernel
theorem dX8_keep_30 : decode cX8_keep 30 = .ok (.iadd, 1) := by decide +kernel
theorem dX8_keep_31 : decode cX8_keep 31 = .ok (.aload_n 0, 1) := by decide +kernel
theorem dX8_keep_32 : decode cX8_keep 32 = .ok (.getfield 13, 3) := by decide +kernel
theorem dX8_keep_35 : decode cX8_keep 35 = .ok (.iload_n 2, 1) := by decide +kernel
theorem dX8_keep_36 : decode cX8_keep 36 = .ok (.iaload, 1) := by decide +kernel
theorem dX8_keep_37 : decode cX8_keep 37 = .ok (.iastore, 1) := by decide +kernel
theorem dX8_keep_38 : decode cX8_keep 38 = .ok (.iinc 2 1, 3) := by decide +kernel
theorem dX8_keep_41 : decode cX8_keep 41 = .ok (.goto (-26), 3) := by decide +kernel
theorem dX8_keep_44 : decode cX8_keep 44 = .ok (.aload_n 0, 1) := by decide +kernel
theorem dX8_keep_45 : decode cX8_keep 45 = .ok (.getfield 25, 3) := by decide +kernel
theorem dX8_keep_48 : decode cX8_keep 48 = .ok (.iload_n 1, 1) := by decide +kernel
theorem dX8_keep_49 : decode cX8_keep 49 = .ok (.iconst 1, 1) := by decide +kernel
theorem dX8_keep_50 : decode cX8_keep 50 = .ok (.bastore, 1) := by decide +kernel
theorem dX8_keep_51 : decode cX8_keep 51 = .ok (.aload_n 0, 1) := by decide +kernel
theorem dX8_keep_52 : decode cX8_keep 52 = .ok (.getfield 13, 3) := by decide +kernel
theorem dX8_keep_55 : decode cX8_keep 55 = .ok (.bipush 72, 2) := by decide +kernel
theorem dX8_keep_57 : decode cX8_keep 57 = .ok (.iaload, 1) := by decide +kernel
theorem dX8_keep_58 : decode cX8_keep 58 = .ok (.ireturn, 1) := by decide +kernel
set_option maxRecDepth 20000 in
theorem ggX8_back_X8_in : GoodIn wsX8_back wsX8_in := goodIn_r _ [8] (by decide +kernel) (by decide +kernel)
set_option maxRecDepth 20000 in
theorem gX8_back_X8_in : GoodIn wsX8_back (va_wsS RX8 44 yX8_in wsX8_in) := goodIn_app (goodIn_of _ (by decide +kernel)) ggX8_back_X8_in
theorem dX8_back_0 : decode cX8_back 0 = .ok (.iload_n 1, 1) := by decide +kernel
theorem dX8_back_1 : decode cX8_back 1 = .ok (.i2l, 1) := by decide +kernel
theorem dX8_back_2 : decode cX8_back 2 = .ok (.lconst 0, 1) := by decide +kernel
theorem dX8_back_3 : decode cX8_back 3 = .ok (.lconst 1, 1) := by decide +kernel
theorem dX8_back_4 : decode cX8_back 4 = .ok (.invokestatic 44, 3) := by decide +kernel
theorem dX8_back_7 : decode cX8_back 7 = .ok (.ifCond .ne 6, 3) := by decide +kernel
theorem dX8_back_10 : decode cX8_back 10 = .ok (.bipush (-2), 2) := by decide +kernel
theorem dX8_back_12 : decode cX8_back 12 = .ok (.ireturn, 1) := by decide +kernel
theorem dX8_back_13 : decode cX8_back 13 = .ok (.aload_n 0, 1) := by decide +kernel
theorem dX8_back_14 : decode cX8_back 14 = .ok (.getfield 25, 3) := by decide +kernel
theorem dX8_back_17 : decode cX8_back 17 = .ok (.iload_n 1, 1) := by decide +kernel
theorem dX8_back_18 : decode cX8_back 18 = .ok (.baload, 1) := by decide +kernel
theorem dX8_back_19 : decode cX8_back 19 = .ok (.ifCond .ne 6, 3) := by decide +kernel
theorem dX8_back_22 : decode cX8_back 22 = .ok (.bipush (-4), 2) := by decide +kernel
theorem dX8_back_24 : decode cX8_back 24 = .ok (.ireturn, 1) := by decide +kernel
theorem dX8_back_25 : decode cX8_back 25 = .ok (.iconst 0, 1) := by decide +kernel
theorem dX8_back_26 : decode cX8_back 26 = .ok (.istore_n 2, 1) := by decide +kernel
theorem dX8_back_27 : decode cX8_back 27 = .ok (.iload_n 2, 1) := by decide +kernel
theorem dX8_back_28 : decode cX8_back 28 = .ok (.bipush 73, 2) := by decide +kernel
theorem dX8_back_30 : decode cX8_back 30 = .ok (.if_icmp .ge 26, 3) := by decide +kernel
theorem dX8_back_33 : decode cX8_back 33 = .ok (.aload_n 0, 1) := by decide +kernel
theorem dX8_back_34 : decode cX8_back 34 = .ok (.getfield 13, 3) := by decide +kernel
theorem dX8_back_37 : decode cX8_back 37 = .ok (.iload_n 2, 1) := by decide +kernel
theorem dX8_back_38 : decode cX8_back 38 = .ok (.aload_n 0, 1) := by decide +kernel
theorem dX8_back_39 : decode cX8_back 39 = .ok (.getfield 29, 3) := by decide +kernel
theorem dX8_back_42 : decode cX8_back 42 = .ok (.bipush 73, 2) := by decide +kernel
theorem dX8_back_44 : decode cX8_back 44 = .ok (.iload_n 1, 1) := by decide +kernel
theorem dX8_back_45 : decode cX8_back 45 = .ok (.imul, 1) := by decide +kernel
theorem dX8_back_46 : decode cX8_back 46 = .ok (.iload_n 2, 1) := by decide +kernel
theorem dX8_back_47 : decode cX8_back 47 = .ok (.iadd, 1) := by decide +kernel
theorem dX8_back_48 : decode cX8_back 48 = .ok (.iaload, 1) := by decide +kernel
theorem dX8_back_49 : decode cX8_back 49 = .ok (.iastore, 1) := by decide +kernel
theorem dX8_back_50 : decode cX8_back 50 = .ok (.iinc 2 1, 3) := by decide +kernel
theorem dX8_back_53 : decode cX8_back 53 = .ok (.goto (-26), 3) := by decide +kernel
theorem dX8_back_56 : decode cX8_back 56 = .ok (.aload_n 0, 1) := by decide +kernel
theorem dX8_back_57 : decode cX8_back 57 = .ok (.iconst 0, 1) := by decide +kernel
theorem dX8_back_58 : decode cX8_back 58 = .ok (.putfield 124, 3) := by decide +kernel
theorem dX8_back_61 : decode cX8_back 61 = .ok (.aload_n 0, 1) := by decide +kernel
theorem dX8_back_62 : decode cX8_back 62 = .ok (.getfield 13, 3) := by decide +kernel
theorem dX8_back_65 : decode cX8_back 65 = .ok (.bipush 72, 2) := by decide +kernel
theorem dX8_back_67 : decode cX8_back 67 = .ok (.iaload, 1) := by decide +kernel
theorem dX8_back_68 : decode cX8_back 68 = .ok (.ireturn, 1) := by decide +kernel
set_option maxRecDepth 20000 in
theorem ggX8_best_X8_isPerson : GoodIn wsX8_best wsX8_isPerson := goodIn_r _ [7, 2, 8, 9, 6, 10, 39, 40, 41, 42, 43, 44, 45, 46, 47, 48, 49, 50, 51, 52, 53, 54, 55, 56] (by decide +kernel) (by decide +kernel)
set_option maxRecDepth 20000 in
theorem gX8_best_X8_isPerson : GoodIn wsX8_best (wsV RX8 145 RX8 yX8_isPerson wsX8_isPerson) := goodIn_app (goodIn_of _ (by decide +kernel)) ggX8_best_X8_isPerson
set_option maxRecDepth 20000 in
theorem ggX8_best_X8_in : GoodIn wsX8_best wsX8_in := goodIn_r _ [10] (by decide +kernel) (by decide +kernel)
set_option maxRecDepth 20000 in
theorem gX8_best_X8_in : GoodIn wsX8_best (va_wsS RX8 44 yX8_in wsX8_in) := goodIn_app (goodIn_of _ (by decide +kernel)) ggX8_best_X8_in
set_option maxRecDepth 20000 in
theorem ggX8_best_X8_thereBy : GoodIn wsX8_best wsX8_thereBy := goodIn_r _ [14, 1, 15, 16, 17, 6, 18, 2, 39, 40, 41, 42, 43, 44, 45, 46, 47, 48, 49, 50, 51, 52, 53, 54, 55, 56] (by decide +kernel) (by decide +kernel)
set_option maxRecDepth 20000 in
theorem gX8_best_X8_thereBy : GoodIn wsX8_best (wsV RX8 130 RX8 yX8_thereBy wsX8_thereBy) := goodIn_app (goodIn_of _ (by decide +kernel)) ggX8_best_X8_thereBy
set_option maxRecDepth 20000 in
theorem ggX8_best_X8_fineOf : GoodIn wsX8_best wsX8_fineOf := goodIn_r _ [22, 1, 23, 24, 25, 6, 26, 27, 28, 29, 30, 2, 11, 12, 13, 14, 15, 16, 17, 18, 8, 9, 10, 31, 32, 33, 34, 35, 36, 37, 38, 39, 40, 41, 42, 43, 44, 45, 46, 47, 48, 49, 50, 51, 52, 53, 54, 55, 56] (by decide +kernel) (by decide +kernel)
set_option maxRecDepth 20000 in
theorem gX8_best_X8_fineOf : GoodIn wsX8_best (wsV RX8 151 RX8 yX8_fineOf wsX8_fineOf) := goodIn_app (goodIn_of _ (by decide +kernel)) ggX8_best_X8_fineOf
theorem dX8_best_0 : decode cX8_best 0 = .ok (.aload_n 0, 1) := by decide +kernel
theorem dX8_best_1 : decode cX8_best 1 = .ok (.iload_n 1, 1) := by decide +kernel
theorem dX8_best_2 : decode cX8_best 2 = .ok (.invokevirtual 145, 3) := by decide +kernel
theorem dX8_best_5 : decode cX8_best 5 = .ok (.ifCond .ne 6, 3) := by decide +kernel
theorem dX8_best_8 : decode cX8_best 8 = .ok (.bipush (-2), 2) := by decide +kernel
theorem dX8_best_10 : decode cX8_best 10 = .ok (.ireturn, 1) := by decide +kernel
theorem dX8_best_11 : decode cX8_best 11 = .ok (.iload_n 2, 1) := by decide +kernel
theorem dX8_best_12 : decode cX8_best 12 = .ok (.i2l, 1) := by decide +kernel
theorem dX8_best_13 : decode cX8_best 13 = .ok (.lconst 0, 1) := by decide +kernel
theorem dX8_best_14 : decode cX8_best 14 = .ok (.lconst 1, 1) := by decide +kernel
theorem dX8_best_15 : decode cX8_best 15 = .ok (.invokestatic 44, 3) := by decide +kernel
theorem dX8_best_18 : decode cX8_best 18 = .ok (.ifCond .ne 6, 3) := by decide +kernel
theorem dX8_best_21 : decode cX8_best 21 = .ok (.bipush (-3), 2) := by decide +kernel
theorem dX8_best_23 : decode cX8_best 23 = .ok (.ireturn, 1) := by decide +kernel
theorem dX8_best_24 : decode cX8_best 24 = .ok (.aload_n 0, 1) := by decide +kernel
theorem dX8_best_25 : decode cX8_best 25 = .ok (.getfield 13, 3) := by decide +kernel
theorem dX8_best_28 : decode cX8_best 28 = .ok (.bipush 60, 2) := by decide +kernel
theorem dX8_best_30 : decode cX8_best 30 = .ok (.iload_n 1, 1) := by decide +kernel
theorem dX8_best_31 : decode cX8_best 31 = .ok (.iadd, 1) := by decide +kernel
theorem dX8_best_32 : decode cX8_best 32 = .ok (.iaload, 1) := by decide +kernel
theorem dX8_best_33 : decode cX8_best 33 = .ok (.istore_n 3, 1) := by decide +kernel
theorem dX8_best_34 : decode cX8_best 34 = .ok (.iconst (-1), 1) := by decide +kernel
theorem dX8_best_35 : decode cX8_best 35 = .ok (.istore 4, 2) := by decide +kernel
theorem dX8_best_37 : decode cX8_best 37 = .ok (.iconst 0, 1) := by decide +kernel
theorem dX8_best_38 : decode cX8_best 38 = .ok (.istore 5, 2) := by decide +kernel
theorem dX8_best_40 : decode cX8_best 40 = .ok (.iconst 0, 1) := by decide +kernel
theorem dX8_best_41 : decode cX8_best 41 = .ok (.istore 6, 2) := by decide +kernel
theorem dX8_best_43 : decode cX8_best 43 = .ok (.iload 6, 2) := by decide +kernel
theorem dX8_best_45 : decode cX8_best 45 = .ok (.bipush 60, 2) := by decide +kernel
theorem dX8_best_47 : decode cX8_best 47 = .ok (.if_icmp .ge 90, 3) := by decide +kernel
theorem dX8_best_50 : decode cX8_best 50 = .ok (.aload_n 0, 1) := by decide +kernel
theorem dX8_best_51 : decode cX8_best 51 = .ok (.getfield 13, 3) := by decide +kernel
theorem dX8_best_54 : decode cX8_best 54 = .ok (.bipush 60, 2) := by decide +kernel
theorem dX8_best_56 : decode cX8_best 56 = .ok (.iload_n 1, 1) := by decide +kernel
theorem dX8_best_57 : decode cX8_best 57 = .ok (.iadd, 1) := by decide +kernel
theorem dX8_best_58 : decode cX8_best 58 = .ok (.iload 6, 2) := by decide +kernel
theorem dX8_best_60 : decode cX8_best 60 = .ok (.iastore, 1) := by decide +kernel
theorem dX8_best_61 : decode cX8_best 61 = .ok (.aload_n 0, 1) := by decide +kernel
theorem dX8_best_62 : decode cX8_best 62 = .ok (.iload_n 1, 1) := by decide +kernel
theorem dX8_best_63 : decode cX8_best 63 = .ok (.iload 6, 2) := by decide +kernel
theorem dX8_best_65 : decode cX8_best 65 = .ok (.invokevirtual 130, 3) := by decide +kernel
theorem dX8_best_68 : decode cX8_best 68 = .ok (.aload_n 0, 1) := by decide +kernel
theorem dX8_best_69 : decode cX8_best 69 = .ok (.getfield 7, 3) := by decide +kernel
theorem dX8_best_72 : decode cX8_best 72 = .ok (.bipush 13, 2) := by decide +kernel
theorem dX8_best_74 : decode cX8_best 74 = .ok (.iload_n 1, 1) := by decide +kernel
theorem dX8_best_75 : decode cX8_best 75 = .ok (.iadd, 1) := by decide +kernel
theorem dX8_best_76 : decode cX8_best 76 = .ok (.iaload, 1) := by decide +kernel
theorem dX8_best_77 : decode cX8_best 77 = .ok (.iadd, 1) := by decide +kernel
theorem dX8_best_78 : decode cX8_best 78 = .ok (.bipush 60, 2) := by decide +kernel
theorem dX8_best_80 : decode cX8_best 80 = .ok (.if_icmp .gt 7, 3) := by decide +kernel
theorem dX8_best_83 : decode cX8_best 83 = .ok (.iconst 1, 1) := by decide +kernel
theorem dX8_best_84 : decode cX8_best 84 = .ok (.goto 4, 3) := by decide +kernel
theorem dX8_best_87 : decode cX8_best 87 = .ok (.iconst 0, 1) := by decide +kernel
theorem dX8_best_88 : decode cX8_best 88 = .ok (.istore 7, 2) := by decide +kernel
theorem dX8_best_90 : decode cX8_best 90 = .ok (.iload 7, 2) := by decide +kernel
theorem dX8_best_92 : decode cX8_best 92 = .ok (.ifCond .eq 11, 3) := by decide +kernel
theorem dX8_best_95 : decode cX8_best 95 = .ok (.aload_n 0, 1) := by decide +kernel
theorem dX8_best_96 : decode cX8_best 96 = .ok (.iload_n 1, 1) := by decide +kernel
theorem dX8_best_97 : decode cX8_best 97 = .ok (.invokevirtual 151, 3) := by decide +kernel
theorem dX8_best_100 : decode cX8_best 100 = .ok (.goto 4, 3) := by decide +kernel
theorem dX8_best_103 : decode cX8_best 103 = .ok (.iconst 0, 1) := by decide +kernel
theorem dX8_best_104 : decode cX8_best 104 = .ok (.istore 8, 2) := by decide +kernel
theorem dX8_best_106 : decode cX8_best 106 = .ok (.iload 7, 2) := by decide +kernel
theorem dX8_best_108 : decode cX8_best 108 = .ok (.ifCond .eq 23, 3) := by decide +kernel
theorem dX8_best_111 : decode cX8_best 111 = .ok (.iload 4, 2) := by decide +kernel
theorem dX8_best_113 : decode cX8_best 113 = .ok (.ifCond .lt 10, 3) := by decide +kernel
theorem dX8_best_116 : decode cX8_best 116 = .ok (.iload 8, 2) := by decide +kernel
theorem dX8_best_118 : decode cX8_best 118 = .ok (.iload 5, 2) := by decide +kernel
theorem dX8_best_120 : decode cX8_best 120 = .ok (.if_icmp .ge 11, 3) := by decide +kernel
theorem dX8_best_123 : decode cX8_best 123 = .ok (.iload 6, 2) := by decide +kernel
theorem dX8_best_125 : decode cX8_best 125 = .ok (.istore 4, 2) := by decide +kernel
theorem dX8_best_127 : decode cX8_best 127 = .ok (.iload 8, 2) := by decide +kernel
theorem dX8_best_129 : decode cX8_best 129 = .ok (.istore 5, 2) := by decide +kernel
theorem dX8_best_131 : decode cX8_best 131 = .ok (.iinc 6 1, 3) := by decide +kernel
theorem dX8_best_134 : decode cX8_best 134 = .ok (.goto (-91), 3) := by decide +kernel
theorem dX8_best_137 : decode cX8_best 137 = .ok (.aload_n 0, 1) := by decide +kernel
theorem dX8_best_138 : decode cX8_best 138 = .ok (.getfield 13, 3) := by decide +kernel
theorem dX8_best_141 : decode cX8_best 141 = .ok (.bipush 60, 2) := by decide +kernel
theorem dX8_best_143 : decode cX8_best 143 = .ok (.iload_n 1, 1) := by decide +kernel
theorem dX8_best_144 : decode cX8_best 144 = .ok (.iadd, 1) := by decide +kernel
theorem dX8_best_145 : decode cX8_best 145 = .ok (.iload_n 3, 1) := by decide +kernel
theorem dX8_best_146 : decode cX8_best 146 = .ok (.iastore, 1) := by decide +kernel
theorem dX8_best_147 : decode cX8_best 147 = .ok (.iload 4, 2) := by decide +kernel
theorem dX8_best_149 : decode cX8_best 149 = .ok (.ifCond .ge 7, 3) := by decide +kernel
theorem dX8_best_152 : decode cX8_best 152 = .ok (.iconst (-1), 1) := by decide +kernel
theorem dX8_best_153 : decode cX8_best 153 = .ok (.goto 14, 3) := by decide +kernel
theorem dX8_best_156 : decode cX8_best 156 = .ok (.iload_n 2, 1) := by decide +kernel
theorem dX8_best_157 : decode cX8_best 157 = .ok (.ifCond .ne 8, 3) := by decide +kernel
theorem dX8_best_160 : decode cX8_best 160 = .ok (.iload 4, 2) := by decide +kernel
theorem dX8_best_162 : decode cX8_best 162 = .ok (.goto 5, 3) := by decide +kernel
theorem dX8_best_165 : decode cX8_best 165 = .ok (.iload 5, 2) := by decide +kernel
theorem dX8_best_167 : decode cX8_best 167 = .ok (.ireturn, 1) := by decide +kernel
set_option maxRecDepth 20000 in
theorem ggX8_arePeople_X8_in : GoodIn wsX8_arePeople wsX8_in := goodIn_r _ [5] (by decide +kernel) (by decide +kernel)
set_option maxRecDepth 20000 in
theorem gX8_arePeople_X8_in : GoodIn wsX8_arePeople (va_wsS RX8 44 yX8_in wsX8_in) := goodIn_app (goodIn_of _ (by decide +kernel)) ggX8_arePeople_X8_in
theorem dX8_arePeople_0 : decode cX8_arePeople 0 = .ok (.iload_n 1, 1) := by decide +kernel
theorem dX8_arePeople_1 : decode cX8_arePeople 1 = .ok (.i2l, 1) := by decide +kernel
theorem dX8_arePeople_2 : decode cX8_arePeople 2 = .ok (.lconst 0, 1) := by decide +kernel
theorem dX8_arePeople_3 : decode cX8_arePeople 3 = .ok (.iconst 1, 1) := by decide +kernel
theorem dX8_arePeople_4 : decode cX8_arePeople 4 = .ok (.aload_n 0, 1) := by decide +kernel
theorem dX8_arePeople_5 : decode cX8_arePeople 5 = .ok (.getfield 7, 3) := by decide +kernel
theorem dX8_arePeople_8 : decode cX8_arePeople 8 = .ok (.iconst 0, 1) := by decide +kernel
theorem dX8_arePeople_9 : decode cX8_arePeople 9 = .ok (.iaload, 1) := by decide +kernel
theorem dX8_arePeople_10 : decode cX8_arePeople 10 = .ok (.ishl, 1) := by decide +kernel
theorem dX8_arePeople_11 : decode cX8_arePeople 11 = .ok (.iconst 1, 1) := by decide +kernel
theorem dX8_arePeople_12 : decode cX8_arePeople 12 = .ok (.isub, 1) := by decide +kernel
theorem dX8_arePeople_13 : decode cX8_arePeople 13 = .ok (.i2l, 1) := by decide +kernel
theorem dX8_arePeople_14 : decode cX8_arePeople 14 = .ok (.invokestatic 44, 3) := by decide +kernel
theorem dX8_arePeople_17 : decode cX8_arePeople 17 = .ok (.ireturn, 1) := by decide +kernel
theorem dX8_isOrder_0 : decode cX8_isOrder 0 = .ok (.iload_n 1, 1) := by decide +kernel
theorem dX8_isOrder_1 : decode cX8_isOrder 1 = .ok (.istore 4, 2) := by decide +kernel
theorem dX8_isOrder_3 : decode cX8_isOrder 3 = .ok (.iconst 0, 1) := by decide +kernel
theorem dX8_isOrder_4 : decode cX8_isOrder 4 = .ok (.istore 5, 2) := by decide +kernel
theorem dX8_isOrder_6 : decode cX8_isOrder 6 = .ok (.iload_n 3, 1) := by decide +kernel
theorem dX8_isOrder_7 : decode cX8_isOrder 7 = .ok (.iconst 1, 1) := by decide +kernel
theorem dX8_isOrder_8 : decode cX8_isOrder 8 = .ok (.isub, 1) := by decide +kernel
theorem dX8_isOrder_9 : decode cX8_isOrder 9 = .ok (.istore 6, 2) := by decide +kernel
theorem dX8_isOrder_11 : decode cX8_isOrder 11 = .ok (.iload 6, 2) := by decide +kernel
theorem dX8_isOrder_13 : decode cX8_isOrder 13 = .ok (.ifCond .lt 42, 3) := by decide +kernel
theorem dX8_isOrder_16 : decode cX8_isOrder 16 = .ok (.aload_n 0, 1) := by decide +kernel
theorem dX8_isOrder_17 : decode cX8_isOrder 17 = .ok (.getfield 32, 3) := by decide +kernel
theorem dX8_isOrder_20 : decode cX8_isOrder 20 = .ok (.iload 6, 2) := by decide +kernel
theorem dX8_isOrder_22 : decode cX8_isOrder 22 = .ok (.iload 4, 2) := by decide +kernel
theorem dX8_isOrder_24 : decode cX8_isOrder 24 = .ok (.bipush 6, 2) := by decide +kernel
theorem dX8_isOrder_26 : decode cX8_isOrder 26 = .ok (.irem, 1) := by decide +kernel
theorem dX8_isOrder_27 : decode cX8_isOrder 27 = .ok (.iastore, 1) := by decide +kernel
theorem dX8_isOrder_28 : decode cX8_isOrder 28 = .ok (.iload 5, 2) := by decide +kernel
theorem dX8_isOrder_30 : decode cX8_isOrder 30 = .ok (.iconst 1, 1) := by decide +kernel
theorem dX8_isOrder_31 : decode cX8_isOrder 31 = .ok (.aload_n 0, 1) := by decide +kernel
theorem dX8_isOrder_32 : decode cX8_isOrder 32 = .ok (.getfield 32, 3) := by decide +kernel
theorem dX8_isOrder_35 : decode cX8_isOrder 35 = .ok (.iload 6, 2) := by decide +kernel
theorem dX8_isOrder_37 : decode cX8_isOrder 37 = .ok (.iaload, 1) := by decide +kernel
theorem dX8_isOrder_38 : decode cX8_isOrder 38 = .ok (.ishl, 1) := by decide +kernel
theorem dX8_isOrder_39 : decode cX8_isOrder 39 = .ok (.ior, 1) := by decide +kernel
theorem dX8_isOrder_40 : decode cX8_isOrder 40 = .ok (.istore 5, 2) := by decide +kernel
theorem dX8_isOrder_42 : decode cX8_isOrder 42 = .ok (.iload 4, 2) := by decide +kernel
theorem dX8_isOrder_44 : decode cX8_isOrder 44 = .ok (.bipush 6, 2) := by decide +kernel
theorem dX8_isOrder_46 : decode cX8_isOrder 46 = .ok (.idiv, 1) := by decide +kernel
theorem dX8_isOrder_47 : decode cX8_isOrder 47 = .ok (.istore 4, 2) := by decide +kernel
theorem dX8_isOrder_49 : decode cX8_isOrder 49 = .ok (.iinc 6 (-1), 3) := by decide +kernel
theorem dX8_isOrder_52 : decode cX8_isOrder 52 = .ok (.goto (-41), 3) := by decide +kernel
theorem dX8_isOrder_55 : decode cX8_isOrder 55 = .ok (.iload 5, 2) := by decide +kernel
theorem dX8_isOrder_57 : decode cX8_isOrder 57 = .ok (.iload_n 2, 1) := by decide +kernel
theorem dX8_isOrder_58 : decode cX8_isOrder 58 = .ok (.if_icmp .ne 7, 3) := by decide +kernel
theorem dX8_isOrder_61 : decode cX8_isOrder 61 = .ok (.iconst 1, 1) := by decide +kernel
theorem dX8_isOrder_62 : decode cX8_isOrder 62 = .ok (.goto 4, 3) := by decide +kernel
theorem dX8_isOrder_65 : decode cX8_isOrder 65 = .ok (.iconst 0, 1) := by decide +kernel
theorem dX8_isOrder_66 : decode cX8_isOrder 66 = .ok (.ireturn, 1) := by decide +kernel
set_option maxRecDepth 20000 in
theorem ggX8_rowFine_X8_thereBy : GoodIn wsX8_rowFine wsX8_thereBy := goodIn_r _ [8, 1, 9, 10, 11, 7, 12, 3, 36, 37, 38, 39, 40, 41, 42, 43, 44, 45, 46, 47, 48, 49, 50, 51, 52, 53] (by decide +kernel) (by decide +kernel)
set_option maxRecDepth 20000 in
theorem gX8_rowFine_X8_thereBy : GoodIn wsX8_rowFine (wsV RX8 130 RX8 yX8_thereBy wsX8_thereBy) := goodIn_app (goodIn_of _ (by decide +kernel)) ggX8_rowFine_X8_thereBy
set_option maxRecDepth 20000 in
theorem ggX8_rowFine_X8_fineOf : GoodIn wsX8_rowFine wsX8_fineOf := goodIn_r _ [16, 1, 17, 18, 19, 7, 20, 21, 22, 23, 24, 3, 4, 5, 6, 8, 9, 10, 11, 12, 25, 26, 27, 28, 29, 30, 31, 32, 33, 34, 35, 36, 37, 38, 39, 40, 41, 42, 43, 44, 45, 46, 47, 48, 49, 50, 51, 52, 53] (by decide +kernel) (by decide +kernel)
set_option maxRecDepth 20000 in
theorem gX8_rowFine_X8_fineOf : GoodIn wsX8_rowFine (wsV RX8 151 RX8 yX8_fineOf wsX8_fineOf) := goodIn_app (goodIn_of _ (by decide +kernel)) ggX8_rowFine_X8_fineOf
theorem dX8_rowFine_0 : decode cX8_rowFine 0 = .ok (.iconst 0, 1) := by decide +kernel
theorem dX8_rowFine_1 : decode cX8_rowFine 1 = .ok (.istore_n 3, 1) := by decide +kernel
theorem dX8_rowFine_2 : decode cX8_rowFine 2 = .ok (.iload_n 3, 1) := by decide +kernel
theorem dX8_rowFine_3 : decode cX8_rowFine 3 = .ok (.bipush 6, 2) := by decide +kernel
theorem dX8_rowFine_5 : decode cX8_rowFine 5 = .ok (.if_icmp .ge 19, 3) := by decide +kernel
theorem dX8_rowFine_8 : decode cX8_rowFine 8 = .ok (.aload_n 0, 1) := by decide +kernel
theorem dX8_rowFine_9 : decode cX8_rowFine 9 = .ok (.getfield 13, 3) := by decide +kernel
theorem dX8_rowFine_12 : decode cX8_rowFine 12 = .ok (.bipush 60, 2) := by decide +kernel
theorem dX8_rowFine_14 : decode cX8_rowFine 14 = .ok (.iload_n 3, 1) := by decide +kernel
theorem dX8_rowFine_15 : decode cX8_rowFine 15 = .ok (.iadd, 1) := by decide +kernel
theorem dX8_rowFine_16 : decode cX8_rowFine 16 = .ok (.iconst (-1), 1) := by decide +kernel
theorem dX8_rowFine_17 : decode cX8_rowFine 17 = .ok (.iastore, 1) := by decide +kernel
theorem dX8_rowFine_18 : decode cX8_rowFine 18 = .ok (.iinc 3 1, 3) := by decide +kernel
theorem dX8_rowFine_21 : decode cX8_rowFine 21 = .ok (.goto (-19), 3) := by decide +kernel
theorem dX8_rowFine_24 : decode cX8_rowFine 24 = .ok (.iload_n 2, 1) := by decide +kernel
theorem dX8_rowFine_25 : decode cX8_rowFine 25 = .ok (.istore_n 3, 1) := by decide +kernel
theorem dX8_rowFine_26 : decode cX8_rowFine 26 = .ok (.iconst 1, 1) := by decide +kernel
theorem dX8_rowFine_27 : decode cX8_rowFine 27 = .ok (.istore 4, 2) := by decide +kernel
theorem dX8_rowFine_29 : decode cX8_rowFine 29 = .ok (.iconst 0, 1) := by decide +kernel
theorem dX8_rowFine_30 : decode cX8_rowFine 30 = .ok (.istore 5, 2) := by decide +kernel
theorem dX8_rowFine_32 : decode cX8_rowFine 32 = .ok (.iload 5, 2) := by decide +kernel
theorem dX8_rowFine_34 : decode cX8_rowFine 34 = .ok (.iload_n 1, 1) := by decide +kernel
theorem dX8_rowFine_35 : decode cX8_rowFine 35 = .ok (.if_icmp .ge 72, 3) := by decide +kernel
theorem dX8_rowFine_38 : decode cX8_rowFine 38 = .ok (.iload 4, 2) := by decide +kernel
theorem dX8_rowFine_40 : decode cX8_rowFine 40 = .ok (.ifCond .eq 13, 3) := by decide +kernel
theorem dX8_rowFine_43 : decode cX8_rowFine 43 = .ok (.iload_n 3, 1) := by decide +kernel
theorem dX8_rowFine_44 : decode cX8_rowFine 44 = .ok (.bipush 60, 2) := by decide +kernel
theorem dX8_rowFine_46 : decode cX8_rowFine 46 = .ok (.if_icmp .ge 7, 3) := by decide +kernel
theorem dX8_rowFine_49 : decode cX8_rowFine 49 = .ok (.iconst 1, 1) := by decide +kernel
theorem dX8_rowFine_50 : decode cX8_rowFine 50 = .ok (.goto 4, 3) := by decide +kernel
theorem dX8_rowFine_53 : decode cX8_rowFine 53 = .ok (.iconst 0, 1) := by decide +kernel
theorem dX8_rowFine_54 : decode cX8_rowFine 54 = .ok (.istore 4, 2) := by decide +kernel
theorem dX8_rowFine_56 : decode cX8_rowFine 56 = .ok (.aload_n 0, 1) := by decide +kernel
theorem dX8_rowFine_57 : decode cX8_rowFine 57 = .ok (.getfield 13, 3) := by decide +kernel
theorem dX8_rowFine_60 : decode cX8_rowFine 60 = .ok (.bipush 60, 2) := by decide +kernel
theorem dX8_rowFine_62 : decode cX8_rowFine 62 = .ok (.aload_n 0, 1) := by decide +kernel
theorem dX8_rowFine_63 : decode cX8_rowFine 63 = .ok (.getfield 32, 3) := by decide +kernel
theorem dX8_rowFine_66 : decode cX8_rowFine 66 = .ok (.iload 5, 2) := by decide +kernel
theorem dX8_rowFine_68 : decode cX8_rowFine 68 = .ok (.iaload, 1) := by decide +kernel
theorem dX8_rowFine_69 : decode cX8_rowFine 69 = .ok (.iadd, 1) := by decide +kernel
theorem dX8_rowFine_70 : decode cX8_rowFine 70 = .ok (.iload_n 3, 1) := by decide +kernel
theorem dX8_rowFine_71 : decode cX8_rowFine 71 = .ok (.iastore, 1) := by decide +kernel
theorem dX8_rowFine_72 : decode cX8_rowFine 72 = .ok (.aload_n 0, 1) := by decide +kernel
theorem dX8_rowFine_73 : decode cX8_rowFine 73 = .ok (.aload_n 0, 1) := by decide +kernel
theorem dX8_rowFine_74 : decode cX8_rowFine 74 = .ok (.getfield 32, 3) := by decide +kernel
theorem dX8_rowFine_77 : decode cX8_rowFine 77 = .ok (.iload 5, 2) := by decide +kernel
theorem dX8_rowFine_79 : decode cX8_rowFine 79 = .ok (.iaload, 1) := by decide +kernel
theorem dX8_rowFine_80 : decode cX8_rowFine 80 = .ok (.iload_n 3, 1) := by decide +kernel
theorem dX8_rowFine_81 : decode cX8_rowFine 81 = .ok (.invokevirtual 130, 3) := by decide +kernel
theorem dX8_rowFine_84 : decode cX8_rowFine 84 = .ok (.aload_n 0, 1) := by decide +kernel
theorem dX8_rowFine_85 : decode cX8_rowFine 85 = .ok (.getfield 7, 3) := by decide +kernel
theorem dX8_rowFine_88 : decode cX8_rowFine 88 = .ok (.bipush 13, 2) := by decide +kernel
theorem dX8_rowFine_90 : decode cX8_rowFine 90 = .ok (.aload_n 0, 1) := by decide +kernel
theorem dX8_rowFine_91 : decode cX8_rowFine 91 = .ok (.getfield 32, 3) := by decide +kernel
theorem dX8_rowFine_94 : decode cX8_rowFine 94 = .ok (.iload 5, 2) := by decide +kernel
theorem dX8_rowFine_96 : decode cX8_rowFine 96 = .ok (.iaload, 1) := by decide +kernel
theorem dX8_rowFine_97 : decode cX8_rowFine 97 = .ok (.iadd, 1) := by decide +kernel
theorem dX8_rowFine_98 : decode cX8_rowFine 98 = .ok (.iaload, 1) := by decide +kernel
theorem dX8_rowFine_99 : decode cX8_rowFine 99 = .ok (.iadd, 1) := by decide +kernel
theorem dX8_rowFine_100 : decode cX8_rowFine 100 = .ok (.istore_n 3, 1) := by decide +kernel
theorem dX8_rowFine_101 : decode cX8_rowFine 101 = .ok (.iinc 5 1, 3) := by decide +kernel
theorem dX8_rowFine_104 : decode cX8_rowFine 104 = .ok (.goto (-72), 3) := by decide +kernel
theorem dX8_rowFine_107 : decode cX8_rowFine 107 = .ok (.iconst 0, 1) := by decide +kernel
theorem dX8_rowFine_108 : decode cX8_rowFine 108 = .ok (.istore 5, 2) := by decide +kernel
theorem dX8_rowFine_110 : decode cX8_rowFine 110 = .ok (.iconst 0, 1) := by decide +kernel
theorem dX8_rowFine_111 : decode cX8_rowFine 111 = .ok (.istore 6, 2) := by decide +kernel
theorem dX8_rowFine_113 : decode cX8_rowFine 113 = .ok (.iload 6, 2) := by decide +kernel
theorem dX8_rowFine_115 : decode cX8_rowFine 115 = .ok (.iload_n 1, 1) := by decide +kernel
theorem dX8_rowFine_116 : decode cX8_rowFine 116 = .ok (.if_icmp .ge 25, 3) := by decide +kernel
theorem dX8_rowFine_119 : decode cX8_rowFine 119 = .ok (.iload 5, 2) := by decide +kernel
theorem dX8_rowFine_121 : decode cX8_rowFine 121 = .ok (.aload_n 0, 1) := by decide +kernel
theorem dX8_rowFine_122 : decode cX8_rowFine 122 = .ok (.aload_n 0, 1) := by decide +kernel
theorem dX8_rowFine_123 : decode cX8_rowFine 123 = .ok (.getfield 32, 3) := by decide +kernel
theorem dX8_rowFine_126 : decode cX8_rowFine 126 = .ok (.iload 6, 2) := by decide +kernel
theorem dX8_rowFine_128 : decode cX8_rowFine 128 = .ok (.iaload, 1) := by decide +kernel
theorem dX8_rowFine_129 : decode cX8_rowFine 129 = .ok (.invokevirtual 151, 3) := by decide +kernel
theorem dX8_rowFine_132 : decode cX8_rowFine 132 = .ok (.iadd, 1) := by decide +kernel
theorem dX8_rowFine_133 : decode cX8_rowFine 133 = .ok (.istore 5, 2) := by decide +kernel
theorem dX8_rowFine_135 : decode cX8_rowFine 135 = .ok (.iinc 6 1, 3) := by decide +kernel
theorem dX8_rowFine_138 : decode cX8_rowFine 138 = .ok (.goto (-25), 3) := by decide +kernel
theorem dX8_rowFine_141 : decode cX8_rowFine 141 = .ok (.iload 4, 2) := by decide +kernel
theorem dX8_rowFine_143 : decode cX8_rowFine 143 = .ok (.ifCond .eq 8, 3) := by decide +kernel
theorem dX8_rowFine_146 : decode cX8_rowFine 146 = .ok (.iload 5, 2) := by decide +kernel
theorem dX8_rowFine_148 : decode cX8_rowFine 148 = .ok (.goto 4, 3) := by decide +kernel
theorem dX8_rowFine_151 : decode cX8_rowFine 151 = .ok (.iconst (-1), 1) := by decide +kernel
theorem dX8_rowFine_152 : decode cX8_rowFine 152 = .ok (.ireturn, 1) := by decide +kernel
set_option maxRecDepth 20000 in
theorem ggX8_order_X8_arePeople : GoodIn wsX8_order wsX8_arePeople := goodIn_r _ [10, 11, 12, 13, 9, 14, 54, 55, 56, 57, 58, 59, 60, 61, 62, 63, 64, 65, 66, 67, 68, 69, 70, 71] (by decide +kernel) (by decide +kernel)
set_option maxRecDepth 20000 in
theorem gX8_order_X8_arePeople : GoodIn wsX8_order (wsV RX8 168 RX8 yX8_arePeople wsX8_arePeople) := goodIn_app (goodIn_of _ (by decide +kernel)) ggX8_order_X8_arePeople
set_option maxRecDepth 20000 in
theorem ggX8_order_X8_in : GoodIn wsX8_order wsX8_in := goodIn_r _ [14] (by decide +kernel) (by decide +kernel)
set_option maxRecDepth 20000 in
theorem gX8_order_X8_in : GoodIn wsX8_order (va_wsS RX8 44 yX8_in wsX8_in) := goodIn_app (goodIn_of _ (by decide +kernel)) ggX8_order_X8_in
set_option maxRecDepth 20000 in
theorem ggX8_order_X8_ones : GoodIn wsX8_order wsX8_ones := goodIn_r _ [17] (by decide +kernel) (by decide +kernel)
set_option maxRecDepth 20000 in
theorem gX8_order_X8_ones : GoodIn wsX8_order (va_wsS RX8 173 yX8_ones wsX8_ones) := goodIn_app (goodIn_of _ (by decide +kernel)) ggX8_order_X8_ones
set_option maxRecDepth 20000 in
theorem ggX8_order_X8_isOrder : GoodIn wsX8_order wsX8_isOrder := goodIn_r _ [21, 5, 54, 55, 56, 57, 58, 59, 60, 61, 62, 63, 64, 65, 66, 67, 68, 69, 70, 71] (by decide +kernel) (by decide +kernel)
set_option maxRecDepth 20000 in
theorem gX8_order_X8_isOrder : GoodIn wsX8_order (wsV RX8 176 RX8 yX8_isOrder wsX8_isOrder) := goodIn_app (goodIn_of _ (by decide +kernel)) ggX8_order_X8_isOrder
set_option maxRecDepth 20000 in
theorem ggX8_order_X8_rowFine : GoodIn wsX8_order wsX8_rowFine := goodIn_r _ [25, 4, 5, 11, 26, 27, 28, 9, 29, 30, 31, 32, 33, 34, 35, 36, 37, 38, 39, 40, 41, 42, 43, 44, 45, 12, 13, 14, 46, 47, 48, 49, 50, 51, 52, 53, 54, 55, 56, 57, 58, 59, 60, 61, 62, 63, 64, 65, 66, 67, 68, 69, 70, 71] (by decide +kernel) (by decide +kernel)
set_option maxRecDepth 20000 in
theorem gX8_order_X8_rowFine : GoodIn wsX8_order (wsV RX8 180 RX8 yX8_rowFine wsX8_rowFine) := goodIn_app (goodIn_of _ (by decide +kernel)) ggX8_order_X8_rowFine
theorem dX8_order_0 : decode cX8_order 0 = .ok (.aload_n 0, 1) := by decide +kernel
theorem dX8_order_1 : decode cX8_order 1 = .ok (.iload_n 1, 1) := by decide +kernel
theorem dX8_order_2 : decode cX8_order 2 = .ok (.invokevirtual 168, 3) := by decide +kernel
theorem dX8_order_5 : decode cX8_order 5 = .ok (.ifCond .ne 6, 3) := by decide +kernel
theorem dX8_order_8 : decode cX8_order 8 = .ok (.bipush (-2), 2) := by decide +kernel
theorem dX8_order_10 : decode cX8_order 10 = .ok (.ireturn, 1) := by decide +kernel
theorem dX8_order_11 : decode cX8_order 11 = .ok (.iload_n 2, 1) := by decide +kernel
theorem dX8_order_12 : decode cX8_order 12 = .ok (.i2l, 1) := by decide +kernel
theorem dX8_order_13 : decode cX8_order 13 = .ok (.lconst 0, 1) := by decide +kernel
theorem dX8_order_14 : decode cX8_order 14 = .ok (.ldc2_w 157, 3) := by decide +kernel
theorem dX8_order_17 : decode cX8_order 17 = .ok (.invokestatic 44, 3) := by decide +kernel
theorem dX8_order_20 : decode cX8_order 20 = .ok (.ifCond .eq 15, 3) := by decide +kernel
theorem dX8_order_23 : decode cX8_order 23 = .ok (.iload_n 3, 1) := by decide +kernel
theorem dX8_order_24 : decode cX8_order 24 = .ok (.i2l, 1) := by decide +kernel
theorem dX8_order_25 : decode cX8_order 25 = .ok (.lconst 0, 1) := by decide +kernel
theorem dX8_order_26 : decode cX8_order 26 = .ok (.ldc2_w 171, 3) := by decide +kernel
theorem dX8_order_29 : decode cX8_order 29 = .ok (.invokestatic 44, 3) := by decide +kernel
theorem dX8_order_32 : decode cX8_order 32 = .ok (.ifCond .ne 6, 3) := by decide +kernel
theorem dX8_order_35 : decode cX8_order 35 = .ok (.bipush (-3), 2) := by decide +kernel
theorem dX8_order_37 : decode cX8_order 37 = .ok (.ireturn, 1) := by decide +kernel
theorem dX8_order_38 : decode cX8_order 38 = .ok (.iconst 0, 1) := by decide +kernel
theorem dX8_order_39 : decode cX8_order 39 = .ok (.istore 4, 2) := by decide +kernel
theorem dX8_order_41 : decode cX8_order 41 = .ok (.iload 4, 2) := by decide +kernel
theorem dX8_order_43 : decode cX8_order 43 = .ok (.bipush 6, 2) := by decide +kernel
theorem dX8_order_45 : decode cX8_order 45 = .ok (.if_icmp .ge 26, 3) := by decide +kernel
theorem dX8_order_48 : decode cX8_order 48 = .ok (.aload_n 0, 1) := by decide +kernel
theorem dX8_order_49 : decode cX8_order 49 = .ok (.getfield 35, 3) := by decide +kernel
theorem dX8_order_52 : decode cX8_order 52 = .ok (.iload 4, 2) := by decide +kernel
theorem dX8_order_54 : decode cX8_order 54 = .ok (.aload_n 0, 1) := by decide +kernel
theorem dX8_order_55 : decode cX8_order 55 = .ok (.getfield 13, 3) := by decide +kernel
theorem dX8_order_58 : decode cX8_order 58 = .ok (.bipush 60, 2) := by decide +kernel
theorem dX8_order_60 : decode cX8_order 60 = .ok (.iload 4, 2) := by decide +kernel
theorem dX8_order_62 : decode cX8_order 62 = .ok (.iadd, 1) := by decide +kernel
theorem dX8_order_63 : decode cX8_order 63 = .ok (.iaload, 1) := by decide +kernel
theorem dX8_order_64 : decode cX8_order 64 = .ok (.iastore, 1) := by decide +kernel
theorem dX8_order_65 : decode cX8_order 65 = .ok (.iinc 4 1, 3) := by decide +kernel
theorem dX8_order_68 : decode cX8_order 68 = .ok (.goto (-27), 3) := by decide +kernel
theorem dX8_order_71 : decode cX8_order 71 = .ok (.iload_n 1, 1) := by decide +kernel
theorem dX8_order_72 : decode cX8_order 72 = .ok (.invokestatic 173, 3) := by decide +kernel
theorem dX8_order_75 : decode cX8_order 75 = .ok (.istore 4, 2) := by decide +kernel
theorem dX8_order_77 : decode cX8_order 77 = .ok (.iconst 1, 1) := by decide +kernel
theorem dX8_order_78 : decode cX8_order 78 = .ok (.istore 5, 2) := by decide +kernel
theorem dX8_order_80 : decode cX8_order 80 = .ok (.iconst 0, 1) := by decide +kernel
theorem dX8_order_81 : decode cX8_order 81 = .ok (.istore 6, 2) := by decide +kernel
theorem dX8_order_83 : decode cX8_order 83 = .ok (.iload 6, 2) := by decide +kernel
theorem dX8_order_85 : decode cX8_order 85 = .ok (.iload 4, 2) := by decide +kernel
theorem dX8_order_87 : decode cX8_order 87 = .ok (.if_icmp .ge 16, 3) := by decide +kernel
theorem dX8_order_90 : decode cX8_order 90 = .ok (.iload 5, 2) := by decide +kernel
theorem dX8_order_92 : decode cX8_order 92 = .ok (.bipush 6, 2) := by decide +kernel
theorem dX8_order_94 : decode cX8_order 94 = .ok (.imul, 1) := by decide +kernel
theorem dX8_order_95 : decode cX8_order 95 = .ok (.istore 5, 2) := by decide +kernel
theorem dX8_order_97 : decode cX8_order 97 = .ok (.iinc 6 1, 3) := by decide +kernel
theorem dX8_order_100 : decode cX8_order 100 = .ok (.goto (-17), 3) := by decide +kernel
theorem dX8_order_103 : decode cX8_order 103 = .ok (.iconst (-1), 1) := by decide +kernel
theorem dX8_order_104 : decode cX8_order 104 = .ok (.istore 6, 2) := by decide +kernel
theorem dX8_order_106 : decode cX8_order 106 = .ok (.iconst 0, 1) := by decide +kernel
theorem dX8_order_107 : decode cX8_order 107 = .ok (.istore 7, 2) := by decide +kernel
theorem dX8_order_109 : decode cX8_order 109 = .ok (.iconst 0, 1) := by decide +kernel
theorem dX8_order_110 : decode cX8_order 110 = .ok (.istore 8, 2) := by decide +kernel
theorem dX8_order_112 : decode cX8_order 112 = .ok (.iload 8, 2) := by decide +kernel
theorem dX8_order_114 : decode cX8_order 114 = .ok (.iload 5, 2) := by decide +kernel
theorem dX8_order_116 : decode cX8_order 116 = .ok (.if_icmp .ge 55, 3) := by decide +kernel
theorem dX8_order_119 : decode cX8_order 119 = .ok (.aload_n 0, 1) := by decide +kernel
theorem dX8_order_120 : decode cX8_order 120 = .ok (.iload 8, 2) := by decide +kernel
theorem dX8_order_122 : decode cX8_order 122 = .ok (.iload_n 1, 1) := by decide +kernel
theorem dX8_order_123 : decode cX8_order 123 = .ok (.iload 4, 2) := by decide +kernel
theorem dX8_order_125 : decode cX8_order 125 = .ok (.invokevirtual 176, 3) := by decide +kernel
theorem dX8_order_128 : decode cX8_order 128 = .ok (.ifCond .eq 37, 3) := by decide +kernel
theorem dX8_order_131 : decode cX8_order 131 = .ok (.aload_n 0, 1) := by decide +kernel
theorem dX8_order_132 : decode cX8_order 132 = .ok (.iload 4, 2) := by decide +kernel
theorem dX8_order_134 : decode cX8_order 134 = .ok (.iload_n 2, 1) := by decide +kernel
theorem dX8_order_135 : decode cX8_order 135 = .ok (.invokevirtual 180, 3) := by decide +kernel
theorem dX8_order_138 : decode cX8_order 138 = .ok (.istore 9, 2) := by decide +kernel
theorem dX8_order_140 : decode cX8_order 140 = .ok (.iload 9, 2) := by decide +kernel
theorem dX8_order_142 : decode cX8_order 142 = .ok (.ifCond .lt 23, 3) := by decide +kernel
theorem dX8_order_145 : decode cX8_order 145 = .ok (.iload 6, 2) := by decide +kernel
theorem dX8_order_147 : decode cX8_order 147 = .ok (.ifCond .lt 10, 3) := by decide +kernel
theorem dX8_order_150 : decode cX8_order 150 = .ok (.iload 9, 2) := by decide +kernel
theorem dX8_order_152 : decode cX8_order 152 = .ok (.iload 7, 2) := by decide +kernel
theorem dX8_order_154 : decode cX8_order 154 = .ok (.if_icmp .ge 11, 3) := by decide +kernel
theorem dX8_order_157 : decode cX8_order 157 = .ok (.iload 8, 2) := by decide +kernel
theorem dX8_order_159 : decode cX8_order 159 = .ok (.istore 6, 2) := by decide +kernel
theorem dX8_order_161 : decode cX8_order 161 = .ok (.iload 9, 2) := by decide +kernel
theorem dX8_order_163 : decode cX8_order 163 = .ok (.istore 7, 2) := by decide +kernel
theorem dX8_order_165 : decode cX8_order 165 = .ok (.iinc 8 1, 3) := by decide +kernel
theorem dX8_order_168 : decode cX8_order 168 = .ok (.goto (-56), 3) := by decide +kernel
theorem dX8_order_171 : decode cX8_order 171 = .ok (.iconst 0, 1) := by decide +kernel
theorem dX8_order_172 : decode cX8_order 172 = .ok (.istore 8, 2) := by decide +kernel
theorem dX8_order_174 : decode cX8_order 174 = .ok (.iload 8, 2) := by decide +kernel
theorem dX8_order_176 : decode cX8_order 176 = .ok (.bipush 6, 2) := by decide +kernel
theorem dX8_order_178 : decode cX8_order 178 = .ok (.if_icmp .ge 26, 3) := by decide +kernel
theorem dX8_order_181 : decode cX8_order 181 = .ok (.aload_n 0, 1) := by decide +kernel
theorem dX8_order_182 : decode cX8_order 182 = .ok (.getfield 13, 3) := by decide +kernel
theorem dX8_order_185 : decode cX8_order 185 = .ok (.bipush 60, 2) := by decide +kernel
theorem dX8_order_187 : decode cX8_order 187 = .ok (.iload 8, 2) := by decide +kernel
theorem dX8_order_189 : decode cX8_order 189 = .ok (.iadd, 1) := by decide +kernel
theorem dX8_order_190 : decode cX8_order 190 = .ok (.aload_n 0, 1) := by decide +kernel
theorem dX8_order_191 : decode cX8_order 191 = .ok (.getfield 35, 3) := by decide +kernel
theorem dX8_order_194 : decode cX8_order 194 = .ok (.iload 8, 2) := by decide +kernel
theorem dX8_order_196 : decode cX8_order 196 = .ok (.iaload, 1) := by decide +kernel
theorem dX8_order_197 : decode cX8_order 197 = .ok (.iastore, 1) := by decide +kernel
theorem dX8_order_198 : decode cX8_order 198 = .ok (.iinc 8 1, 3) := by decide +kernel
theorem dX8_order_201 : decode cX8_order 201 = .ok (.goto (-27), 3) := by decide +kernel
theorem dX8_order_204 : decode cX8_order 204 = .ok (.iload 6, 2) := by decide +kernel
theorem dX8_order_206 : decode cX8_order 206 = .ok (.ifCond .lt 9, 3) := by decide +kernel
theorem dX8_order_209 : decode cX8_order 209 = .ok (.iload_n 3, 1) := by decide +kernel
theorem dX8_order_210 : decode cX8_order 210 = .ok (.iload 4, 2) := by decide +kernel
theorem dX8_order_212 : decode cX8_order 212 = .ok (.if_icmp .le 5, 3) := by decide +kernel
theorem dX8_order_215 : decode cX8_order 215 = .ok (.iconst (-1), 1) := by decide +kernel
theorem dX8_order_216 : decode cX8_order 216 = .ok (.ireturn, 1) := by decide +kernel
theorem dX8_order_217 : decode cX8_order 217 = .ok (.aload_n 0, 1) := by decide +kernel
theorem dX8_order_218 : decode cX8_order 218 = .ok (.iload 6, 2) := by decide +kernel
theorem dX8_order_220 : decode cX8_order 220 = .ok (.iload_n 1, 1) := by decide +kernel
theorem dX8_order_221 : decode cX8_order 221 = .ok (.iload 4, 2) := by decide +kernel
theorem dX8_order_223 : decode cX8_order 223 = .ok (.invokevirtual 176, 3) := by decide +kernel
theorem dX8_order_226 : decode cX8_order 226 = .ok (.pop, 1) := by decide +kernel
theorem dX8_order_227 : decode cX8_order 227 = .ok (.iload_n 3, 1) := by decide +kernel
theorem dX8_order_228 : decode cX8_order 228 = .ok (.ifCond .ne 8, 3) := by decide +kernel
theorem dX8_order_231 : decode cX8_order 231 = .ok (.iload 7, 2) := by decide +kernel
theorem dX8_order_233 : decode cX8_order 233 = .ok (.goto 11, 3) := by decide +kernel
theorem dX8_order_236 : decode cX8_order 236 = .ok (.aload_n 0, 1) := by decide +kernel
theorem dX8_order_237 : decode cX8_order 237 = .ok (.getfield 32, 3) := by decide +kernel
theorem dX8_order_240 : decode cX8_order 240 = .ok (.iload_n 3, 1) := by decide +kernel
theorem dX8_order_241 : decode cX8_order 241 = .ok (.iconst 1, 1) := by decide +kernel
theorem dX8_order_242 : decode cX8_order 242 = .ok (.isub, 1) := by decide +kernel
theorem dX8_order_243 : decode cX8_order 243 = .ok (.iaload, 1) := by decide +kernel
theorem dX8_order_244 : decode cX8_order 244 = .ok (.ireturn, 1) := by decide +kernel
set_option maxRecDepth 20000 in
theorem ggX8_reached_X8_thereBy : GoodIn wsX8_reached wsX8_thereBy := goodIn_r _ [6, 7, 8, 9, 10, 5, 11, 1, 12, 13, 14, 15, 16, 17, 18, 19, 20, 21, 22, 23, 24, 25, 26, 27, 28, 29] (by decide +kernel) (by decide +kernel)
set_option maxRecDepth 20000 in
theorem gX8_reached_X8_thereBy : GoodIn wsX8_reached (wsV RX8 130 RX8 yX8_thereBy wsX8_thereBy) := goodIn_app (goodIn_of _ (by decide +kernel)) ggX8_reached_X8_thereBy
theorem dX8_reached_0 : decode cX8_reached 0 = .ok (.lconst 0, 1) := by decide +kernel
theorem dX8_reached_1 : decode cX8_reached 1 = .ok (.lstore_n 1, 1) := by decide +kernel
theorem dX8_reached_2 : decode cX8_reached 2 = .ok (.iconst 0, 1) := by decide +kernel
theorem dX8_reached_3 : decode cX8_reached 3 = .ok (.istore_n 3, 1) := by decide +kernel
theorem dX8_reached_4 : decode cX8_reached 4 = .ok (.iload_n 3, 1) := by decide +kernel
theorem dX8_reached_5 : decode cX8_reached 5 = .ok (.aload_n 0, 1) := by decide +kernel
theorem dX8_reached_6 : decode cX8_reached 6 = .ok (.getfield 7, 3) := by decide +kernel
theorem dX8_reached_9 : decode cX8_reached 9 = .ok (.iconst 0, 1) := by decide +kernel
theorem dX8_reached_10 : decode cX8_reached 10 = .ok (.iaload, 1) := by decide +kernel
theorem dX8_reached_11 : decode cX8_reached 11 = .ok (.if_icmp .ge 37, 3) := by decide +kernel
theorem dX8_reached_14 : decode cX8_reached 14 = .ok (.aload_n 0, 1) := by decide +kernel
theorem dX8_reached_15 : decode cX8_reached 15 = .ok (.iload_n 3, 1) := by decide +kernel
theorem dX8_reached_16 : decode cX8_reached 16 = .ok (.iconst 0, 1) := by decide +kernel
theorem dX8_reached_17 : decode cX8_reached 17 = .ok (.invokevirtual 130, 3) := by decide +kernel
theorem dX8_reached_20 : decode cX8_reached 20 = .ok (.istore 4, 2) := by decide +kernel
theorem dX8_reached_22 : decode cX8_reached 22 = .ok (.iload 4, 2) := by decide +kernel
theorem dX8_reached_24 : decode cX8_reached 24 = .ok (.bipush 60, 2) := by decide +kernel
theorem dX8_reached_26 : decode cX8_reached 26 = .ok (.if_icmp .ge 16, 3) := by decide +kernel
theorem dX8_reached_29 : decode cX8_reached 29 = .ok (.lload_n 1, 1) := by decide +kernel
theorem dX8_reached_30 : decode cX8_reached 30 = .ok (.lconst 1, 1) := by decide +kernel
theorem dX8_reached_31 : decode cX8_reached 31 = .ok (.iload 4, 2) := by decide +kernel
theorem dX8_reached_33 : decode cX8_reached 33 = .ok (.lshl, 1) := by decide +kernel
theorem dX8_reached_34 : decode cX8_reached 34 = .ok (.lor, 1) := by decide +kernel
theorem dX8_reached_35 : decode cX8_reached 35 = .ok (.lstore_n 1, 1) := by decide +kernel
theorem dX8_reached_36 : decode cX8_reached 36 = .ok (.iinc 4 1, 3) := by decide +kernel
theorem dX8_reached_39 : decode cX8_reached 39 = .ok (.goto (-17), 3) := by decide +kernel
theorem dX8_reached_42 : decode cX8_reached 42 = .ok (.iinc 3 1, 3) := by decide +kernel
theorem dX8_reached_45 : decode cX8_reached 45 = .ok (.goto (-41), 3) := by decide +kernel
theorem dX8_reached_48 : decode cX8_reached 48 = .ok (.lload_n 1, 1) := by decide +kernel
theorem dX8_reached_49 : decode cX8_reached 49 = .ok (.lreturn, 1) := by decide +kernel
set_option maxRecDepth 20000 in
theorem ggX8_free_X8_isPerson : GoodIn wsX8_free wsX8_isPerson := goodIn_r _ [6, 7, 8, 9, 5, 10, 20, 21, 22, 23, 24, 25, 26, 27, 28, 29, 30, 31, 32, 33, 34, 35, 36, 37] (by decide +kernel) (by decide +kernel)
set_option maxRecDepth 20000 in
theorem gX8_free_X8_isPerson : GoodIn wsX8_free (wsV RX8 145 RX8 yX8_isPerson wsX8_isPerson) := goodIn_app (goodIn_of _ (by decide +kernel)) ggX8_free_X8_isPerson
set_option maxRecDepth 20000 in
theorem ggX8_free_X8_costs : GoodIn wsX8_free wsX8_costs := goodIn_r _ [14, 15, 7, 16, 17, 18, 5, 19, 20, 21, 22, 23, 24, 25, 26, 27, 28, 29, 30, 31, 32, 33, 34, 35, 36, 37] (by decide +kernel) (by decide +kernel)
set_option maxRecDepth 20000 in
theorem gX8_free_X8_costs : GoodIn wsX8_free (wsV RX8 139 RX8 yX8_costs wsX8_costs) := goodIn_app (goodIn_of _ (by decide +kernel)) ggX8_free_X8_costs
theorem dX8_free_0 : decode cX8_free 0 = .ok (.aload_n 0, 1) := by decide +kernel
theorem dX8_free_1 : decode cX8_free 1 = .ok (.iload_n 1, 1) := by decide +kernel
theorem dX8_free_2 : decode cX8_free 2 = .ok (.invokevirtual 145, 3) := by decide +kernel
theorem dX8_free_5 : decode cX8_free 5 = .ok (.ifCond .ne 7, 3) := by decide +kernel
theorem dX8_free_8 : decode cX8_free 8 = .ok (.ldc2_w 183, 3) := by decide +kernel
theorem dX8_free_11 : decode cX8_free 11 = .ok (.lreturn, 1) := by decide +kernel
theorem dX8_free_12 : decode cX8_free 12 = .ok (.lconst 0, 1) := by decide +kernel
theorem dX8_free_13 : decode cX8_free 13 = .ok (.lstore_n 2, 1) := by decide +kernel
theorem dX8_free_14 : decode cX8_free 14 = .ok (.iconst 0, 1) := by decide +kernel
theorem dX8_free_15 : decode cX8_free 15 = .ok (.istore 4, 2) := by decide +kernel
theorem dX8_free_17 : decode cX8_free 17 = .ok (.iload 4, 2) := by decide +kernel
theorem dX8_free_19 : decode cX8_free 19 = .ok (.bipush 60, 2) := by decide +kernel
theorem dX8_free_21 : decode cX8_free 21 = .ok (.if_icmp .ge 30, 3) := by decide +kernel
theorem dX8_free_24 : decode cX8_free 24 = .ok (.lload_n 2, 1) := by decide +kernel
theorem dX8_free_25 : decode cX8_free 25 = .ok (.aload_n 0, 1) := by decide +kernel
theorem dX8_free_26 : decode cX8_free 26 = .ok (.iload_n 1, 1) := by decide +kernel
theorem dX8_free_27 : decode cX8_free 27 = .ok (.iload 4, 2) := by decide +kernel
theorem dX8_free_29 : decode cX8_free 29 = .ok (.invokevirtual 139, 3) := by decide +kernel
theorem dX8_free_32 : decode cX8_free 32 = .ok (.ifCond .ne 10, 3) := by decide +kernel
theorem dX8_free_35 : decode cX8_free 35 = .ok (.lconst 1, 1) := by decide +kernel
theorem dX8_free_36 : decode cX8_free 36 = .ok (.iload 4, 2) := by decide +kernel
theorem dX8_free_38 : decode cX8_free 38 = .ok (.lshl, 1) := by decide +kernel
theorem dX8_free_39 : decode cX8_free 39 = .ok (.goto 4, 3) := by decide +kernel
theorem dX8_free_42 : decode cX8_free 42 = .ok (.lconst 0, 1) := by decide +kernel
theorem dX8_free_43 : decode cX8_free 43 = .ok (.lor, 1) := by decide +kernel
theorem dX8_free_44 : decode cX8_free 44 = .ok (.lstore_n 2, 1) := by decide +kernel
theorem dX8_free_45 : decode cX8_free 45 = .ok (.iinc 4 1, 3) := by decide +kernel
theorem dX8_free_48 : decode cX8_free 48 = .ok (.goto (-31), 3) := by decide +kernel
theorem dX8_free_51 : decode cX8_free 51 = .ok (.lload_n 2, 1) := by decide +kernel
theorem dX8_free_52 : decode cX8_free 52 = .ok (.lreturn, 1) := by decide +kernel
set_option maxRecDepth 20000 in
theorem ggX8_ropes_X8_in : GoodIn wsX8_ropes wsX8_in := goodIn_r _ [6] (by decide +kernel) (by decide +kernel)
set_option maxRecDepth 20000 in
theorem gX8_ropes_X8_in : GoodIn wsX8_ropes (va_wsS RX8 44 yX8_in wsX8_in) := goodIn_app (goodIn_of _ (by decide +kernel)) ggX8_ropes_X8_in
set_option maxRecDepth 20000 in
theorem ggX8_ropes_X8_fullFine : GoodIn wsX8_ropes wsX8_fullFine := goodIn_r _ [10, 11, 12, 13, 5, 14, 15, 2, 16, 17, 18, 19, 20, 21, 22, 23, 3, 4, 6, 24, 25, 26, 27, 28, 29, 30, 31, 32, 33, 34, 35, 36, 37, 38, 39, 40, 41, 42, 43, 44, 45, 46, 47, 48, 49] (by decide +kernel) (by decide +kernel)
set_option maxRecDepth 20000 in
theorem gX8_ropes_X8_fullFine : GoodIn wsX8_ropes (wsV RX8 142 RX8 yX8_fullFine wsX8_fullFine) := goodIn_app (goodIn_of _ (by decide +kernel)) ggX8_ropes_X8_fullFine
theorem dX8_ropes_0 : decode cX8_ropes 0 = .ok (.iload_n 1, 1) := by decide +kernel
theorem dX8_ropes_1 : decode cX8_ropes 1 = .ok (.i2l, 1) := by decide +kernel
theorem dX8_ropes_2 : decode cX8_ropes 2 = .ok (.lconst 0, 1) := by decide +kernel
theorem dX8_ropes_3 : decode cX8_ropes 3 = .ok (.ldc2_w 185, 3) := by decide +kernel
theorem dX8_ropes_6 : decode cX8_ropes 6 = .ok (.invokestatic 44, 3) := by decide +kernel
theorem dX8_ropes_9 : decode cX8_ropes 9 = .ok (.ifCond .ne 6, 3) := by decide +kernel
theorem dX8_ropes_12 : decode cX8_ropes 12 = .ok (.bipush (-3), 2) := by decide +kernel
theorem dX8_ropes_14 : decode cX8_ropes 14 = .ok (.ireturn, 1) := by decide +kernel
theorem dX8_ropes_15 : decode cX8_ropes 15 = .ok (.iconst 0, 1) := by decide +kernel
theorem dX8_ropes_16 : decode cX8_ropes 16 = .ok (.istore_n 2, 1) := by decide +kernel
theorem dX8_ropes_17 : decode cX8_ropes 17 = .ok (.iconst 1, 1) := by decide +kernel
theorem dX8_ropes_18 : decode cX8_ropes 18 = .ok (.istore_n 3, 1) := by decide +kernel
theorem dX8_ropes_19 : decode cX8_ropes 19 = .ok (.iconst 0, 1) := by decide +kernel
theorem dX8_ropes_20 : decode cX8_ropes 20 = .ok (.istore 4, 2) := by decide +kernel
theorem dX8_ropes_22 : decode cX8_ropes 22 = .ok (.iload 4, 2) := by decide +kernel
theorem dX8_ropes_24 : decode cX8_ropes 24 = .ok (.aload_n 0, 1) := by decide +kernel
theorem dX8_ropes_25 : decode cX8_ropes 25 = .ok (.getfield 7, 3) := by decide +kernel
theorem dX8_ropes_28 : decode cX8_ropes 28 = .ok (.iconst 0, 1) := by decide +kernel
theorem dX8_ropes_29 : decode cX8_ropes 29 = .ok (.iaload, 1) := by decide +kernel
theorem dX8_ropes_30 : decode cX8_ropes 30 = .ok (.if_icmp .ge 52, 3) := by decide +kernel
theorem dX8_ropes_33 : decode cX8_ropes 33 = .ok (.aload_n 0, 1) := by decide +kernel
theorem dX8_ropes_34 : decode cX8_ropes 34 = .ok (.iload 4, 2) := by decide +kernel
theorem dX8_ropes_36 : decode cX8_ropes 36 = .ok (.invokevirtual 142, 3) := by decide +kernel
theorem dX8_ropes_39 : decode cX8_ropes 39 = .ok (.istore 5, 2) := by decide +kernel
theorem dX8_ropes_41 : decode cX8_ropes 41 = .ok (.iload_n 2, 1) := by decide +kernel
theorem dX8_ropes_42 : decode cX8_ropes 42 = .ok (.iload 5, 2) := by decide +kernel
theorem dX8_ropes_44 : decode cX8_ropes 44 = .ok (.iload_n 1, 1) := by decide +kernel
theorem dX8_ropes_45 : decode cX8_ropes 45 = .ok (.if_icmp .le 10, 3) := by decide +kernel
theorem dX8_ropes_48 : decode cX8_ropes 48 = .ok (.iconst 1, 1) := by decide +kernel
theorem dX8_ropes_49 : decode cX8_ropes 49 = .ok (.iload 4, 2) := by decide +kernel
theorem dX8_ropes_51 : decode cX8_ropes 51 = .ok (.ishl, 1) := by decide +kernel
theorem dX8_ropes_52 : decode cX8_ropes 52 = .ok (.goto 4, 3) := by decide +kernel
theorem dX8_ropes_55 : decode cX8_ropes 55 = .ok (.iconst 0, 1) := by decide +kernel
theorem dX8_ropes_56 : decode cX8_ropes 56 = .ok (.ior, 1) := by decide +kernel
theorem dX8_ropes_57 : decode cX8_ropes 57 = .ok (.istore_n 2, 1) := by decide +kernel
theorem dX8_ropes_58 : decode cX8_ropes 58 = .ok (.iload_n 3, 1) := by decide +kernel
theorem dX8_ropes_59 : decode cX8_ropes 59 = .ok (.ifCond .eq 15, 3) := by decide +kernel
theorem dX8_ropes_62 : decode cX8_ropes 62 = .ok (.iload 5, 2) := by decide +kernel
theorem dX8_ropes_64 : decode cX8_ropes 64 = .ok (.iconst 2, 1) := by decide +kernel
theorem dX8_ropes_65 : decode cX8_ropes 65 = .ok (.idiv, 1) := by decide +kernel
theorem dX8_ropes_66 : decode cX8_ropes 66 = .ok (.iload_n 1, 1) := by decide +kernel
theorem dX8_ropes_67 : decode cX8_ropes 67 = .ok (.if_icmp .gt 7, 3) := by decide +kernel
theorem dX8_ropes_70 : decode cX8_ropes 70 = .ok (.iconst 1, 1) := by decide +kernel
theorem dX8_ropes_71 : decode cX8_ropes 71 = .ok (.goto 4, 3) := by decide +kernel
theorem dX8_ropes_74 : decode cX8_ropes 74 = .ok (.iconst 0, 1) := by decide +kernel
theorem dX8_ropes_75 : decode cX8_ropes 75 = .ok (.istore_n 3, 1) := by decide +kernel
theorem dX8_ropes_76 : decode cX8_ropes 76 = .ok (.iinc 4 1, 3) := by decide +kernel
theorem dX8_ropes_79 : decode cX8_ropes 79 = .ok (.goto (-57), 3) := by decide +kernel
theorem dX8_ropes_82 : decode cX8_ropes 82 = .ok (.iload_n 3, 1) := by decide +kernel
theorem dX8_ropes_83 : decode cX8_ropes 83 = .ok (.ifCond .eq 7, 3) := by decide +kernel
theorem dX8_ropes_86 : decode cX8_ropes 86 = .ok (.iload_n 2, 1) := by decide +kernel
theorem dX8_ropes_87 : decode cX8_ropes 87 = .ok (.goto 4, 3) := by decide +kernel
theorem dX8_ropes_90 : decode cX8_ropes 90 = .ok (.iconst (-1), 1) := by decide +kernel
theorem dX8_ropes_91 : decode cX8_ropes 91 = .ok (.ireturn, 1) := by decide +kernel
set_option maxRecDepth 20000 in
theorem ggX8_together_X8_isPerson : GoodIn wsX8_together wsX8_isPerson := goodIn_r _ [5, 6, 7, 8, 4, 9, 23, 24, 25, 26, 27, 28, 29, 30, 31, 32, 33, 34, 35, 36, 37, 38, 39, 40] (by decide +kernel) (by decide +kernel)
set_option maxRecDepth 20000 in
theorem gX8_together_X8_isPerson : GoodIn wsX8_together (wsV RX8 145 RX8 yX8_isPerson wsX8_isPerson) := goodIn_app (goodIn_of _ (by decide +kernel)) ggX8_together_X8_isPerson
set_option maxRecDepth 20000 in
theorem ggX8_together_X8_standsIn : GoodIn wsX8_together wsX8_standsIn := goodIn_r _ [13, 14, 6, 15, 16, 17, 4, 18, 19, 20, 21, 22, 7, 8, 9, 23, 24, 25, 26, 27, 28, 29, 30, 31, 32, 33, 34, 35, 36, 37, 38, 39, 40] (by decide +kernel) (by decide +kernel)
set_option maxRecDepth 20000 in
theorem gX8_together_X8_standsIn : GoodIn wsX8_together (wsV RX8 136 RX8 yX8_standsIn wsX8_standsIn) := goodIn_app (goodIn_of _ (by decide +kernel)) ggX8_together_X8_standsIn
theorem dX8_together_0 : decode cX8_together 0 = .ok (.aload_n 0, 1) := by decide +kernel
theorem dX8_together_1 : decode cX8_together 1 = .ok (.iload_n 1, 1) := by decide +kernel
theorem dX8_together_2 : decode cX8_together 2 = .ok (.invokevirtual 145, 3) := by decide +kernel
theorem dX8_together_5 : decode cX8_together 5 = .ok (.ifCond .eq 16, 3) := by decide +kernel
theorem dX8_together_8 : decode cX8_together 8 = .ok (.aload_n 0, 1) := by decide +kernel
theorem dX8_together_9 : decode cX8_together 9 = .ok (.iload_n 2, 1) := by decide +kernel
theorem dX8_together_10 : decode cX8_together 10 = .ok (.invokevirtual 145, 3) := by decide +kernel
theorem dX8_together_13 : decode cX8_together 13 = .ok (.ifCond .eq 8, 3) := by decide +kernel
theorem dX8_together_16 : decode cX8_together 16 = .ok (.iload_n 1, 1) := by decide +kernel
theorem dX8_together_17 : decode cX8_together 17 = .ok (.iload_n 2, 1) := by decide +kernel
theorem dX8_together_18 : decode cX8_together 18 = .ok (.if_icmp .ne 6, 3) := by decide +kernel
theorem dX8_together_21 : decode cX8_together 21 = .ok (.bipush (-2), 2) := by decide +kernel
theorem dX8_together_23 : decode cX8_together 23 = .ok (.ireturn, 1) := by decide +kernel
theorem dX8_together_24 : decode cX8_together 24 = .ok (.iconst 0, 1) := by decide +kernel
theorem dX8_together_25 : decode cX8_together 25 = .ok (.istore_n 3, 1) := by decide +kernel
theorem dX8_together_26 : decode cX8_together 26 = .ok (.iconst 0, 1) := by decide +kernel
theorem dX8_together_27 : decode cX8_together 27 = .ok (.istore 4, 2) := by decide +kernel
theorem dX8_together_29 : decode cX8_together 29 = .ok (.iload 4, 2) := by decide +kernel
theorem dX8_together_31 : decode cX8_together 31 = .ok (.bipush 60, 2) := by decide +kernel
theorem dX8_together_33 : decode cX8_together 33 = .ok (.if_icmp .ge 37, 3) := by decide +kernel
theorem dX8_together_36 : decode cX8_together 36 = .ok (.iload_n 3, 1) := by decide +kernel
theorem dX8_together_37 : decode cX8_together 37 = .ok (.aload_n 0, 1) := by decide +kernel
theorem dX8_together_38 : decode cX8_together 38 = .ok (.iload_n 1, 1) := by decide +kernel
theorem dX8_together_39 : decode cX8_together 39 = .ok (.iload 4, 2) := by decide +kernel
theorem dX8_together_41 : decode cX8_together 41 = .ok (.invokevirtual 136, 3) := by decide +kernel
theorem dX8_together_44 : decode cX8_together 44 = .ok (.ifCond .eq 17, 3) := by decide +kernel
theorem dX8_together_47 : decode cX8_together 47 = .ok (.aload_n 0, 1) := by decide +kernel
theorem dX8_together_48 : decode cX8_together 48 = .ok (.iload_n 2, 1) := by decide +kernel
theorem dX8_together_49 : decode cX8_together 49 = .ok (.iload 4, 2) := by decide +kernel
theorem dX8_together_51 : decode cX8_together 51 = .ok (.invokevirtual 136, 3) := by decide +kernel
theorem dX8_together_54 : decode cX8_together 54 = .ok (.ifCond .eq 7, 3) := by decide +kernel
theorem dX8_together_57 : decode cX8_together 57 = .ok (.iconst 1, 1) := by decide +kernel
theorem dX8_together_58 : decode cX8_together 58 = .ok (.goto 4, 3) := by decide +kernel
theorem dX8_together_61 : decode cX8_together 61 = .ok (.iconst 0, 1) := by decide +kernel
theorem dX8_together_62 : decode cX8_together 62 = .ok (.iadd, 1) := by decide +kernel
theorem dX8_together_63 : decode cX8_together 63 = .ok (.istore_n 3, 1) := by decide +kernel
theorem dX8_together_64 : decode cX8_together 64 = .ok (.iinc 4 1, 3) := by decide +kernel
theorem dX8_together_67 : decode cX8_together 67 = .ok (.goto (-38), 3) := by decide +kernel
theorem dX8_together_70 : decode cX8_together 70 = .ok (.iload_n 3, 1) := by decide +kernel
theorem dX8_together_71 : decode cX8_together 71 = .ok (.ireturn, 1) := by decide +kernel
set_option maxRecDepth 20000 in
theorem ggX8_seen_X8_isPerson : GoodIn wsX8_seen wsX8_isPerson := goodIn_r _ [8, 9, 10, 11, 7, 12, 13, 14, 15, 16, 17, 18, 19, 20, 21, 22, 23, 24, 25, 26, 27, 28, 29, 30] (by decide +kernel) (by decide +kernel)
set_option maxRecDepth 20000 in
theorem gX8_seen_X8_isPerson : GoodIn wsX8_seen (wsV RX8 145 RX8 yX8_isPerson wsX8_isPerson) := goodIn_app (goodIn_of _ (by decide +kernel)) ggX8_seen_X8_isPerson
set_option maxRecDepth 20000 in
theorem ggX8_seen_X8_in : GoodIn wsX8_seen wsX8_in := goodIn_r _ [12] (by decide +kernel) (by decide +kernel)
set_option maxRecDepth 20000 in
theorem gX8_seen_X8_in : GoodIn wsX8_seen (va_wsS RX8 44 yX8_in wsX8_in) := goodIn_app (goodIn_of _ (by decide +kernel)) ggX8_seen_X8_in
theorem dX8_seen_0 : decode cX8_seen 0 = .ok (.aload_n 0, 1) := by decide +kernel
theorem dX8_seen_1 : decode cX8_seen 1 = .ok (.iload_n 1, 1) := by decide +kernel
theorem dX8_seen_2 : decode cX8_seen 2 = .ok (.invokevirtual 145, 3) := by decide +kernel
theorem dX8_seen_5 : decode cX8_seen 5 = .ok (.ifCond .ne 6, 3) := by decide +kernel
theorem dX8_seen_8 : decode cX8_seen 8 = .ok (.bipush (-2), 2) := by decide +kernel
theorem dX8_seen_10 : decode cX8_seen 10 = .ok (.ireturn, 1) := by decide +kernel
theorem dX8_seen_11 : decode cX8_seen 11 = .ok (.iload_n 2, 1) := by decide +kernel
theorem dX8_seen_12 : decode cX8_seen 12 = .ok (.i2l, 1) := by decide +kernel
theorem dX8_seen_13 : decode cX8_seen 13 = .ok (.lconst 0, 1) := by decide +kernel
theorem dX8_seen_14 : decode cX8_seen 14 = .ok (.ldc2_w 185, 3) := by decide +kernel
theorem dX8_seen_17 : decode cX8_seen 17 = .ok (.invokestatic 44, 3) := by decide +kernel
theorem dX8_seen_20 : decode cX8_seen 20 = .ok (.ifCond .ne 6, 3) := by decide +kernel
