theorem dX8_seen_23 : decode cX8_seen 23 = .ok (.bipush (-3), 2) := by decide +kernel
theorem dX8_seen_25 : decode cX8_seen 25 = .ok (.ireturn, 1) := by decide +kernel
theorem dX8_seen_26 : decode cX8_seen 26 = .ok (.aload_n 0, 1) := by decide +kernel
theorem dX8_seen_27 : decode cX8_seen 27 = .ok (.getfield 121, 3) := by decide +kernel
theorem dX8_seen_30 : decode cX8_seen 30 = .ok (.bipush 6, 2) := by decide +kernel
theorem dX8_seen_32 : decode cX8_seen 32 = .ok (.if_icmp .ne 6, 3) := by decide +kernel
theorem dX8_seen_35 : decode cX8_seen 35 = .ok (.bipush (-5), 2) := by decide +kernel
theorem dX8_seen_37 : decode cX8_seen 37 = .ok (.ireturn, 1) := by decide +kernel
theorem dX8_seen_38 : decode cX8_seen 38 = .ok (.aload_n 0, 1) := by decide +kernel
theorem dX8_seen_39 : decode cX8_seen 39 = .ok (.getfield 38, 3) := by decide +kernel
theorem dX8_seen_42 : decode cX8_seen 42 = .ok (.iconst 2, 1) := by decide +kernel
theorem dX8_seen_43 : decode cX8_seen 43 = .ok (.aload_n 0, 1) := by decide +kernel
theorem dX8_seen_44 : decode cX8_seen 44 = .ok (.getfield 121, 3) := by decide +kernel
theorem dX8_seen_47 : decode cX8_seen 47 = .ok (.imul, 1) := by decide +kernel
theorem dX8_seen_48 : decode cX8_seen 48 = .ok (.iload_n 1, 1) := by decide +kernel
theorem dX8_seen_49 : decode cX8_seen 49 = .ok (.iastore, 1) := by decide +kernel
theorem dX8_seen_50 : decode cX8_seen 50 = .ok (.aload_n 0, 1) := by decide +kernel
theorem dX8_seen_51 : decode cX8_seen 51 = .ok (.getfield 38, 3) := by decide +kernel
theorem dX8_seen_54 : decode cX8_seen 54 = .ok (.iconst 2, 1) := by decide +kernel
theorem dX8_seen_55 : decode cX8_seen 55 = .ok (.aload_n 0, 1) := by decide +kernel
theorem dX8_seen_56 : decode cX8_seen 56 = .ok (.getfield 121, 3) := by decide +kernel
theorem dX8_seen_59 : decode cX8_seen 59 = .ok (.imul, 1) := by decide +kernel
theorem dX8_seen_60 : decode cX8_seen 60 = .ok (.iconst 1, 1) := by decide +kernel
theorem dX8_seen_61 : decode cX8_seen 61 = .ok (.iadd, 1) := by decide +kernel
theorem dX8_seen_62 : decode cX8_seen 62 = .ok (.iload_n 2, 1) := by decide +kernel
theorem dX8_seen_63 : decode cX8_seen 63 = .ok (.iastore, 1) := by decide +kernel
theorem dX8_seen_64 : decode cX8_seen 64 = .ok (.aload_n 0, 1) := by decide +kernel
theorem dX8_seen_65 : decode cX8_seen 65 = .ok (.dup, 1) := by decide +kernel
theorem dX8_seen_66 : decode cX8_seen 66 = .ok (.getfield 121, 3) := by decide +kernel
theorem dX8_seen_69 : decode cX8_seen 69 = .ok (.iconst 1, 1) := by decide +kernel
theorem dX8_seen_70 : decode cX8_seen 70 = .ok (.iadd, 1) := by decide +kernel
theorem dX8_seen_71 : decode cX8_seen 71 = .ok (.putfield 121, 3) := by decide +kernel
theorem dX8_seen_74 : decode cX8_seen 74 = .ok (.aload_n 0, 1) := by decide +kernel
theorem dX8_seen_75 : decode cX8_seen 75 = .ok (.getfield 121, 3) := by decide +kernel
theorem dX8_seen_78 : decode cX8_seen 78 = .ok (.ireturn, 1) := by decide +kernel
theorem dX8_forget_0 : decode cX8_forget 0 = .ok (.aload_n 0, 1) := by decide +kernel
theorem dX8_forget_1 : decode cX8_forget 1 = .ok (.getfield 121, 3) := by decide +kernel
theorem dX8_forget_4 : decode cX8_forget 4 = .ok (.istore_n 1, 1) := by decide +kernel
theorem dX8_forget_5 : decode cX8_forget 5 = .ok (.aload_n 0, 1) := by decide +kernel
theorem dX8_forget_6 : decode cX8_forget 6 = .ok (.iconst 0, 1) := by decide +kernel
theorem dX8_forget_7 : decode cX8_forget 7 = .ok (.putfield 121, 3) := by decide +kernel
theorem dX8_forget_10 : decode cX8_forget 10 = .ok (.iload_n 1, 1) := by decide +kernel
theorem dX8_forget_11 : decode cX8_forget 11 = .ok (.ireturn, 1) := by decide +kernel
set_option maxRecDepth 20000 in
theorem ggX8_clocks_X8_fineOf : GoodIn wsX8_clocks wsX8_fineOf := goodIn_r _ [8, 1, 9, 10, 11, 7, 12, 13, 14, 15, 16, 17, 18, 19, 20, 21, 22, 23, 24, 25, 26, 27, 28, 29, 30, 31, 32, 33, 34, 35, 36, 37, 38, 39, 40, 41, 42, 43, 44, 45, 46, 47, 48, 49, 50, 51, 52, 53, 54] (by decide +kernel) (by decide +kernel)
set_option maxRecDepth 20000 in
theorem gX8_clocks_X8_fineOf : GoodIn wsX8_clocks (wsV RX8 151 RX8 yX8_fineOf wsX8_fineOf) := goodIn_app (goodIn_of _ (by decide +kernel)) ggX8_clocks_X8_fineOf
theorem dX8_clocks_0 : decode cX8_clocks 0 = .ok (.aload_n 0, 1) := by decide +kernel
theorem dX8_clocks_1 : decode cX8_clocks 1 = .ok (.getfield 13, 3) := by decide +kernel
theorem dX8_clocks_4 : decode cX8_clocks 4 = .ok (.bipush 72, 2) := by decide +kernel
theorem dX8_clocks_6 : decode cX8_clocks 6 = .ok (.iaload, 1) := by decide +kernel
theorem dX8_clocks_7 : decode cX8_clocks 7 = .ok (.istore_n 1, 1) := by decide +kernel
theorem dX8_clocks_8 : decode cX8_clocks 8 = .ok (.iconst 0, 1) := by decide +kernel
theorem dX8_clocks_9 : decode cX8_clocks 9 = .ok (.istore_n 2, 1) := by decide +kernel
theorem dX8_clocks_10 : decode cX8_clocks 10 = .ok (.iconst 0, 1) := by decide +kernel
theorem dX8_clocks_11 : decode cX8_clocks 11 = .ok (.istore_n 3, 1) := by decide +kernel
theorem dX8_clocks_12 : decode cX8_clocks 12 = .ok (.iload_n 3, 1) := by decide +kernel
theorem dX8_clocks_13 : decode cX8_clocks 13 = .ok (.bipush 10, 2) := by decide +kernel
theorem dX8_clocks_15 : decode cX8_clocks 15 = .ok (.if_icmp .ge 92, 3) := by decide +kernel
theorem dX8_clocks_18 : decode cX8_clocks 18 = .ok (.aload_n 0, 1) := by decide +kernel
theorem dX8_clocks_19 : decode cX8_clocks 19 = .ok (.getfield 13, 3) := by decide +kernel
theorem dX8_clocks_22 : decode cX8_clocks 22 = .ok (.bipush 72, 2) := by decide +kernel
theorem dX8_clocks_24 : decode cX8_clocks 24 = .ok (.iload_n 3, 1) := by decide +kernel
theorem dX8_clocks_25 : decode cX8_clocks 25 = .ok (.iastore, 1) := by decide +kernel
theorem dX8_clocks_26 : decode cX8_clocks 26 = .ok (.iconst 1, 1) := by decide +kernel
theorem dX8_clocks_27 : decode cX8_clocks 27 = .ok (.istore 4, 2) := by decide +kernel
theorem dX8_clocks_29 : decode cX8_clocks 29 = .ok (.iconst 0, 1) := by decide +kernel
theorem dX8_clocks_30 : decode cX8_clocks 30 = .ok (.istore 5, 2) := by decide +kernel
theorem dX8_clocks_32 : decode cX8_clocks 32 = .ok (.iload 5, 2) := by decide +kernel
theorem dX8_clocks_34 : decode cX8_clocks 34 = .ok (.aload_n 0, 1) := by decide +kernel
theorem dX8_clocks_35 : decode cX8_clocks 35 = .ok (.getfield 121, 3) := by decide +kernel
theorem dX8_clocks_38 : decode cX8_clocks 38 = .ok (.if_icmp .ge 48, 3) := by decide +kernel
theorem dX8_clocks_41 : decode cX8_clocks 41 = .ok (.iload 4, 2) := by decide +kernel
theorem dX8_clocks_43 : decode cX8_clocks 43 = .ok (.ifCond .eq 34, 3) := by decide +kernel
theorem dX8_clocks_46 : decode cX8_clocks 46 = .ok (.aload_n 0, 1) := by decide +kernel
theorem dX8_clocks_47 : decode cX8_clocks 47 = .ok (.aload_n 0, 1) := by decide +kernel
theorem dX8_clocks_48 : decode cX8_clocks 48 = .ok (.getfield 38, 3) := by decide +kernel
theorem dX8_clocks_51 : decode cX8_clocks 51 = .ok (.iconst 2, 1) := by decide +kernel
theorem dX8_clocks_52 : decode cX8_clocks 52 = .ok (.iload 5, 2) := by decide +kernel
theorem dX8_clocks_54 : decode cX8_clocks 54 = .ok (.imul, 1) := by decide +kernel
theorem dX8_clocks_55 : decode cX8_clocks 55 = .ok (.iaload, 1) := by decide +kernel
theorem dX8_clocks_56 : decode cX8_clocks 56 = .ok (.invokevirtual 151, 3) := by decide +kernel
theorem dX8_clocks_59 : decode cX8_clocks 59 = .ok (.aload_n 0, 1) := by decide +kernel
theorem dX8_clocks_60 : decode cX8_clocks 60 = .ok (.getfield 38, 3) := by decide +kernel
theorem dX8_clocks_63 : decode cX8_clocks 63 = .ok (.iconst 2, 1) := by decide +kernel
theorem dX8_clocks_64 : decode cX8_clocks 64 = .ok (.iload 5, 2) := by decide +kernel
theorem dX8_clocks_66 : decode cX8_clocks 66 = .ok (.imul, 1) := by decide +kernel
theorem dX8_clocks_67 : decode cX8_clocks 67 = .ok (.iconst 1, 1) := by decide +kernel
theorem dX8_clocks_68 : decode cX8_clocks 68 = .ok (.iadd, 1) := by decide +kernel
theorem dX8_clocks_69 : decode cX8_clocks 69 = .ok (.iaload, 1) := by decide +kernel
theorem dX8_clocks_70 : decode cX8_clocks 70 = .ok (.if_icmp .ne 7, 3) := by decide +kernel
theorem dX8_clocks_73 : decode cX8_clocks 73 = .ok (.iconst 1, 1) := by decide +kernel
theorem dX8_clocks_74 : decode cX8_clocks 74 = .ok (.goto 4, 3) := by decide +kernel
theorem dX8_clocks_77 : decode cX8_clocks 77 = .ok (.iconst 0, 1) := by decide +kernel
theorem dX8_clocks_78 : decode cX8_clocks 78 = .ok (.istore 4, 2) := by decide +kernel
theorem dX8_clocks_80 : decode cX8_clocks 80 = .ok (.iinc 5 1, 3) := by decide +kernel
theorem dX8_clocks_83 : decode cX8_clocks 83 = .ok (.goto (-51), 3) := by decide +kernel
theorem dX8_clocks_86 : decode cX8_clocks 86 = .ok (.iload_n 2, 1) := by decide +kernel
theorem dX8_clocks_87 : decode cX8_clocks 87 = .ok (.iload 4, 2) := by decide +kernel
theorem dX8_clocks_89 : decode cX8_clocks 89 = .ok (.ifCond .eq 9, 3) := by decide +kernel
theorem dX8_clocks_92 : decode cX8_clocks 92 = .ok (.iconst 1, 1) := by decide +kernel
theorem dX8_clocks_93 : decode cX8_clocks 93 = .ok (.iload_n 3, 1) := by decide +kernel
theorem dX8_clocks_94 : decode cX8_clocks 94 = .ok (.ishl, 1) := by decide +kernel
theorem dX8_clocks_95 : decode cX8_clocks 95 = .ok (.goto 4, 3) := by decide +kernel
theorem dX8_clocks_98 : decode cX8_clocks 98 = .ok (.iconst 0, 1) := by decide +kernel
theorem dX8_clocks_99 : decode cX8_clocks 99 = .ok (.ior, 1) := by decide +kernel
theorem dX8_clocks_100 : decode cX8_clocks 100 = .ok (.istore_n 2, 1) := by decide +kernel
theorem dX8_clocks_101 : decode cX8_clocks 101 = .ok (.iinc 3 1, 3) := by decide +kernel
theorem dX8_clocks_104 : decode cX8_clocks 104 = .ok (.goto (-92), 3) := by decide +kernel
theorem dX8_clocks_107 : decode cX8_clocks 107 = .ok (.aload_n 0, 1) := by decide +kernel
theorem dX8_clocks_108 : decode cX8_clocks 108 = .ok (.getfield 13, 3) := by decide +kernel
theorem dX8_clocks_111 : decode cX8_clocks 111 = .ok (.bipush 72, 2) := by decide +kernel
theorem dX8_clocks_113 : decode cX8_clocks 113 = .ok (.iload_n 1, 1) := by decide +kernel
theorem dX8_clocks_114 : decode cX8_clocks 114 = .ok (.iastore, 1) := by decide +kernel
theorem dX8_clocks_115 : decode cX8_clocks 115 = .ok (.iload_n 2, 1) := by decide +kernel
theorem dX8_clocks_116 : decode cX8_clocks 116 = .ok (.ireturn, 1) := by decide +kernel
set_option maxRecDepth 20000 in
theorem ggX8_clear_X8_isPerson : GoodIn wsX8_clear wsX8_isPerson := goodIn_r _ [7, 8, 9, 10, 6, 11, 35, 36, 37, 38, 39, 40, 41, 42, 43, 44, 45, 46, 47, 48, 49, 50, 51, 52] (by decide +kernel) (by decide +kernel)
set_option maxRecDepth 20000 in
theorem gX8_clear_X8_isPerson : GoodIn wsX8_clear (wsV RX8 145 RX8 yX8_isPerson wsX8_isPerson) := goodIn_app (goodIn_of _ (by decide +kernel)) ggX8_clear_X8_isPerson
set_option maxRecDepth 20000 in
theorem ggX8_clear_X8_in : GoodIn wsX8_clear wsX8_in := goodIn_r _ [11] (by decide +kernel) (by decide +kernel)
set_option maxRecDepth 20000 in
theorem gX8_clear_X8_in : GoodIn wsX8_clear (va_wsS RX8 44 yX8_in wsX8_in) := goodIn_app (goodIn_of _ (by decide +kernel)) ggX8_clear_X8_in
set_option maxRecDepth 20000 in
theorem ggX8_clear_X8_standMany : GoodIn wsX8_clear wsX8_standMany := goodIn_r _ [15, 16, 17, 18, 6, 19, 20, 8, 21, 22, 23, 24, 25, 26, 27, 28, 9, 10, 11, 35, 36, 37, 38, 39, 40, 41, 42, 43, 44, 45, 46, 47, 48, 49, 50, 51, 52] (by decide +kernel) (by decide +kernel)
set_option maxRecDepth 20000 in
theorem gX8_clear_X8_standMany : GoodIn wsX8_clear (wsV RX8 148 RX8 yX8_standMany wsX8_standMany) := goodIn_app (goodIn_of _ (by decide +kernel)) ggX8_clear_X8_standMany
set_option maxRecDepth 20000 in
theorem ggX8_clear_X8_has : GoodIn wsX8_clear wsX8_has := goodIn_r _ [31] (by decide +kernel) (by decide +kernel)
set_option maxRecDepth 20000 in
theorem gX8_clear_X8_has : GoodIn wsX8_clear (va_wsS RX8 189 yX8_has wsX8_has) := goodIn_app (goodIn_of _ (by decide +kernel)) ggX8_clear_X8_has
set_option maxRecDepth 20000 in
theorem ggX8_clear_X8_ones : GoodIn wsX8_clear wsX8_ones := goodIn_r _ [34] (by decide +kernel) (by decide +kernel)
set_option maxRecDepth 20000 in
theorem gX8_clear_X8_ones : GoodIn wsX8_clear (va_wsS RX8 173 yX8_ones wsX8_ones) := goodIn_app (goodIn_of _ (by decide +kernel)) ggX8_clear_X8_ones
theorem dX8_clear_0 : decode cX8_clear 0 = .ok (.aload_n 0, 1) := by decide +kernel
theorem dX8_clear_1 : decode cX8_clear 1 = .ok (.iload_n 1, 1) := by decide +kernel
theorem dX8_clear_2 : decode cX8_clear 2 = .ok (.invokevirtual 145, 3) := by decide +kernel
theorem dX8_clear_5 : decode cX8_clear 5 = .ok (.ifCond .ne 6, 3) := by decide +kernel
theorem dX8_clear_8 : decode cX8_clear 8 = .ok (.bipush (-2), 2) := by decide +kernel
theorem dX8_clear_10 : decode cX8_clear 10 = .ok (.ireturn, 1) := by decide +kernel
theorem dX8_clear_11 : decode cX8_clear 11 = .ok (.iload_n 2, 1) := by decide +kernel
theorem dX8_clear_12 : decode cX8_clear 12 = .ok (.i2l, 1) := by decide +kernel
theorem dX8_clear_13 : decode cX8_clear 13 = .ok (.lconst 0, 1) := by decide +kernel
theorem dX8_clear_14 : decode cX8_clear 14 = .ok (.ldc2_w 171, 3) := by decide +kernel
theorem dX8_clear_17 : decode cX8_clear 17 = .ok (.invokestatic 44, 3) := by decide +kernel
theorem dX8_clear_20 : decode cX8_clear 20 = .ok (.ifCond .eq 26, 3) := by decide +kernel
theorem dX8_clear_23 : decode cX8_clear 23 = .ok (.iload_n 3, 1) := by decide +kernel
theorem dX8_clear_24 : decode cX8_clear 24 = .ok (.i2l, 1) := by decide +kernel
theorem dX8_clear_25 : decode cX8_clear 25 = .ok (.lconst 0, 1) := by decide +kernel
theorem dX8_clear_26 : decode cX8_clear 26 = .ok (.ldc2_w 187, 3) := by decide +kernel
theorem dX8_clear_29 : decode cX8_clear 29 = .ok (.invokestatic 44, 3) := by decide +kernel
theorem dX8_clear_32 : decode cX8_clear 32 = .ok (.ifCond .eq 14, 3) := by decide +kernel
theorem dX8_clear_35 : decode cX8_clear 35 = .ok (.iload 4, 2) := by decide +kernel
theorem dX8_clear_37 : decode cX8_clear 37 = .ok (.i2l, 1) := by decide +kernel
theorem dX8_clear_38 : decode cX8_clear 38 = .ok (.lconst 0, 1) := by decide +kernel
theorem dX8_clear_39 : decode cX8_clear 39 = .ok (.lconst 1, 1) := by decide +kernel
theorem dX8_clear_40 : decode cX8_clear 40 = .ok (.invokestatic 44, 3) := by decide +kernel
theorem dX8_clear_43 : decode cX8_clear 43 = .ok (.ifCond .ne 6, 3) := by decide +kernel
theorem dX8_clear_46 : decode cX8_clear 46 = .ok (.bipush (-3), 2) := by decide +kernel
theorem dX8_clear_48 : decode cX8_clear 48 = .ok (.ireturn, 1) := by decide +kernel
theorem dX8_clear_49 : decode cX8_clear 49 = .ok (.aload_n 0, 1) := by decide +kernel
theorem dX8_clear_50 : decode cX8_clear 50 = .ok (.iload_n 1, 1) := by decide +kernel
theorem dX8_clear_51 : decode cX8_clear 51 = .ok (.invokevirtual 148, 3) := by decide +kernel
theorem dX8_clear_54 : decode cX8_clear 54 = .ok (.istore 5, 2) := by decide +kernel
theorem dX8_clear_56 : decode cX8_clear 56 = .ok (.iconst 0, 1) := by decide +kernel
theorem dX8_clear_57 : decode cX8_clear 57 = .ok (.istore 6, 2) := by decide +kernel
theorem dX8_clear_59 : decode cX8_clear 59 = .ok (.iconst 1, 1) := by decide +kernel
theorem dX8_clear_60 : decode cX8_clear 60 = .ok (.istore 7, 2) := by decide +kernel
theorem dX8_clear_62 : decode cX8_clear 62 = .ok (.iconst 0, 1) := by decide +kernel
theorem dX8_clear_63 : decode cX8_clear 63 = .ok (.istore 8, 2) := by decide +kernel
theorem dX8_clear_65 : decode cX8_clear 65 = .ok (.iload 8, 2) := by decide +kernel
theorem dX8_clear_67 : decode cX8_clear 67 = .ok (.iload 5, 2) := by decide +kernel
theorem dX8_clear_69 : decode cX8_clear 69 = .ok (.if_icmp .ge 16, 3) := by decide +kernel
theorem dX8_clear_72 : decode cX8_clear 72 = .ok (.iload 7, 2) := by decide +kernel
theorem dX8_clear_74 : decode cX8_clear 74 = .ok (.bipush 10, 2) := by decide +kernel
theorem dX8_clear_76 : decode cX8_clear 76 = .ok (.imul, 1) := by decide +kernel
theorem dX8_clear_77 : decode cX8_clear 77 = .ok (.istore 7, 2) := by decide +kernel
theorem dX8_clear_79 : decode cX8_clear 79 = .ok (.iinc 8 1, 3) := by decide +kernel
theorem dX8_clear_82 : decode cX8_clear 82 = .ok (.goto (-17), 3) := by decide +kernel
theorem dX8_clear_85 : decode cX8_clear 85 = .ok (.iconst 0, 1) := by decide +kernel
theorem dX8_clear_86 : decode cX8_clear 86 = .ok (.istore 8, 2) := by decide +kernel
theorem dX8_clear_88 : decode cX8_clear 88 = .ok (.iload 8, 2) := by decide +kernel
theorem dX8_clear_90 : decode cX8_clear 90 = .ok (.iconst 1, 1) := by decide +kernel
theorem dX8_clear_91 : decode cX8_clear 91 = .ok (.iload 5, 2) := by decide +kernel
theorem dX8_clear_93 : decode cX8_clear 93 = .ok (.ishl, 1) := by decide +kernel
theorem dX8_clear_94 : decode cX8_clear 94 = .ok (.if_icmp .ge 71, 3) := by decide +kernel
theorem dX8_clear_97 : decode cX8_clear 97 = .ok (.iconst 1, 1) := by decide +kernel
theorem dX8_clear_98 : decode cX8_clear 98 = .ok (.istore 9, 2) := by decide +kernel
theorem dX8_clear_100 : decode cX8_clear 100 = .ok (.iconst 0, 1) := by decide +kernel
theorem dX8_clear_101 : decode cX8_clear 101 = .ok (.istore 10, 2) := by decide +kernel
theorem dX8_clear_103 : decode cX8_clear 103 = .ok (.iload 10, 2) := by decide +kernel
theorem dX8_clear_105 : decode cX8_clear 105 = .ok (.iload 5, 2) := by decide +kernel
theorem dX8_clear_107 : decode cX8_clear 107 = .ok (.if_icmp .ge 32, 3) := by decide +kernel
theorem dX8_clear_110 : decode cX8_clear 110 = .ok (.iload 9, 2) := by decide +kernel
theorem dX8_clear_112 : decode cX8_clear 112 = .ok (.iload 8, 2) := by decide +kernel
theorem dX8_clear_114 : decode cX8_clear 114 = .ok (.iload 10, 2) := by decide +kernel
theorem dX8_clear_116 : decode cX8_clear 116 = .ok (.invokestatic 189, 3) := by decide +kernel
theorem dX8_clear_119 : decode cX8_clear 119 = .ok (.ifCond .eq 10, 3) := by decide +kernel
theorem dX8_clear_122 : decode cX8_clear 122 = .ok (.bipush 10, 2) := by decide +kernel
theorem dX8_clear_124 : decode cX8_clear 124 = .ok (.iload_n 3, 1) := by decide +kernel
theorem dX8_clear_125 : decode cX8_clear 125 = .ok (.isub, 1) := by decide +kernel
theorem dX8_clear_126 : decode cX8_clear 126 = .ok (.goto 4, 3) := by decide +kernel
theorem dX8_clear_129 : decode cX8_clear 129 = .ok (.iload_n 3, 1) := by decide +kernel
theorem dX8_clear_130 : decode cX8_clear 130 = .ok (.imul, 1) := by decide +kernel
theorem dX8_clear_131 : decode cX8_clear 131 = .ok (.istore 9, 2) := by decide +kernel
theorem dX8_clear_133 : decode cX8_clear 133 = .ok (.iinc 10 1, 3) := by decide +kernel
theorem dX8_clear_136 : decode cX8_clear 136 = .ok (.goto (-33), 3) := by decide +kernel
theorem dX8_clear_139 : decode cX8_clear 139 = .ok (.iload 6, 2) := by decide +kernel
theorem dX8_clear_141 : decode cX8_clear 141 = .ok (.iload 8, 2) := by decide +kernel
theorem dX8_clear_143 : decode cX8_clear 143 = .ok (.invokestatic 173, 3) := by decide +kernel
theorem dX8_clear_146 : decode cX8_clear 146 = .ok (.iload_n 2, 1) := by decide +kernel
theorem dX8_clear_147 : decode cX8_clear 147 = .ok (.if_icmp .lt 8, 3) := by decide +kernel
theorem dX8_clear_150 : decode cX8_clear 150 = .ok (.iload 9, 2) := by decide +kernel
theorem dX8_clear_152 : decode cX8_clear 152 = .ok (.goto 4, 3) := by decide +kernel
theorem dX8_clear_155 : decode cX8_clear 155 = .ok (.iconst 0, 1) := by decide +kernel
theorem dX8_clear_156 : decode cX8_clear 156 = .ok (.iadd, 1) := by decide +kernel
theorem dX8_clear_157 : decode cX8_clear 157 = .ok (.istore 6, 2) := by decide +kernel
theorem dX8_clear_159 : decode cX8_clear 159 = .ok (.iinc 8 1, 3) := by decide +kernel
theorem dX8_clear_162 : decode cX8_clear 162 = .ok (.goto (-74), 3) := by decide +kernel
theorem dX8_clear_165 : decode cX8_clear 165 = .ok (.iload 6, 2) := by decide +kernel
theorem dX8_clear_167 : decode cX8_clear 167 = .ok (.istore 8, 2) := by decide +kernel
theorem dX8_clear_169 : decode cX8_clear 169 = .ok (.iload 7, 2) := by decide +kernel
theorem dX8_clear_171 : decode cX8_clear 171 = .ok (.istore 9, 2) := by decide +kernel
theorem dX8_clear_173 : decode cX8_clear 173 = .ok (.iload 9, 2) := by decide +kernel
theorem dX8_clear_175 : decode cX8_clear 175 = .ok (.ifCond .eq 21, 3) := by decide +kernel
theorem dX8_clear_178 : decode cX8_clear 178 = .ok (.iload 8, 2) := by decide +kernel
theorem dX8_clear_180 : decode cX8_clear 180 = .ok (.iload 9, 2) := by decide +kernel
theorem dX8_clear_182 : decode cX8_clear 182 = .ok (.irem, 1) := by decide +kernel
theorem dX8_clear_183 : decode cX8_clear 183 = .ok (.istore 10, 2) := by decide +kernel
theorem dX8_clear_185 : decode cX8_clear 185 = .ok (.iload 9, 2) := by decide +kernel
theorem dX8_clear_187 : decode cX8_clear 187 = .ok (.istore 8, 2) := by decide +kernel
theorem dX8_clear_189 : decode cX8_clear 189 = .ok (.iload 10, 2) := by decide +kernel
theorem dX8_clear_191 : decode cX8_clear 191 = .ok (.istore 9, 2) := by decide +kernel
theorem dX8_clear_193 : decode cX8_clear 193 = .ok (.goto (-20), 3) := by decide +kernel
theorem dX8_clear_196 : decode cX8_clear 196 = .ok (.iload 4, 2) := by decide +kernel
theorem dX8_clear_198 : decode cX8_clear 198 = .ok (.ifCond .ne 11, 3) := by decide +kernel
theorem dX8_clear_201 : decode cX8_clear 201 = .ok (.iload 6, 2) := by decide +kernel
theorem dX8_clear_203 : decode cX8_clear 203 = .ok (.iload 8, 2) := by decide +kernel
theorem dX8_clear_205 : decode cX8_clear 205 = .ok (.idiv, 1) := by decide +kernel
theorem dX8_clear_206 : decode cX8_clear 206 = .ok (.goto 8, 3) := by decide +kernel
theorem dX8_clear_209 : decode cX8_clear 209 = .ok (.iload 7, 2) := by decide +kernel
theorem dX8_clear_211 : decode cX8_clear 211 = .ok (.iload 8, 2) := by decide +kernel
theorem dX8_clear_213 : decode cX8_clear 213 = .ok (.idiv, 1) := by decide +kernel
theorem dX8_clear_214 : decode cX8_clear 214 = .ok (.ireturn, 1) := by decide +kernel
set_option maxRecDepth 20000 in
theorem ggX8_count_X8_fineOf : GoodIn wsX8_count wsX8_fineOf := goodIn_r _ [10, 2, 11, 12, 13, 9, 14, 15, 16, 17, 18, 1, 19, 20, 21, 22, 23, 24, 25, 26, 27, 28, 29, 30, 31, 32, 33, 34, 35, 36, 37, 38, 39, 40, 41, 42, 43, 44, 45, 46, 47, 48, 49, 50, 51, 52, 53, 54, 55] (by decide +kernel) (by decide +kernel)
set_option maxRecDepth 20000 in
theorem gX8_count_X8_fineOf : GoodIn wsX8_count (wsV RX8 151 RX8 yX8_fineOf wsX8_fineOf) := goodIn_app (goodIn_of _ (by decide +kernel)) ggX8_count_X8_fineOf
theorem dX8_count_0 : decode cX8_count 0 = .ok (.iconst 0, 1) := by decide +kernel
theorem dX8_count_1 : decode cX8_count 1 = .ok (.istore_n 2, 1) := by decide +kernel
theorem dX8_count_2 : decode cX8_count 2 = .ok (.iconst 0, 1) := by decide +kernel
theorem dX8_count_3 : decode cX8_count 3 = .ok (.istore_n 3, 1) := by decide +kernel
theorem dX8_count_4 : decode cX8_count 4 = .ok (.iconst 0, 1) := by decide +kernel
theorem dX8_count_5 : decode cX8_count 5 = .ok (.istore 4, 2) := by decide +kernel
theorem dX8_count_7 : decode cX8_count 7 = .ok (.iconst 0, 1) := by decide +kernel
theorem dX8_count_8 : decode cX8_count 8 = .ok (.istore 5, 2) := by decide +kernel
theorem dX8_count_10 : decode cX8_count 10 = .ok (.iload 5, 2) := by decide +kernel
theorem dX8_count_12 : decode cX8_count 12 = .ok (.aload_n 0, 1) := by decide +kernel
theorem dX8_count_13 : decode cX8_count 13 = .ok (.getfield 7, 3) := by decide +kernel
theorem dX8_count_16 : decode cX8_count 16 = .ok (.iconst 0, 1) := by decide +kernel
theorem dX8_count_17 : decode cX8_count 17 = .ok (.iaload, 1) := by decide +kernel
theorem dX8_count_18 : decode cX8_count 18 = .ok (.if_icmp .ge 60, 3) := by decide +kernel
theorem dX8_count_21 : decode cX8_count 21 = .ok (.iload_n 2, 1) := by decide +kernel
theorem dX8_count_22 : decode cX8_count 22 = .ok (.aload_n 0, 1) := by decide +kernel
theorem dX8_count_23 : decode cX8_count 23 = .ok (.getfield 13, 3) := by decide +kernel
theorem dX8_count_26 : decode cX8_count 26 = .ok (.bipush 60, 2) := by decide +kernel
theorem dX8_count_28 : decode cX8_count 28 = .ok (.iload 5, 2) := by decide +kernel
theorem dX8_count_30 : decode cX8_count 30 = .ok (.iadd, 1) := by decide +kernel
theorem dX8_count_31 : decode cX8_count 31 = .ok (.iaload, 1) := by decide +kernel
theorem dX8_count_32 : decode cX8_count 32 = .ok (.ifCond .lt 10, 3) := by decide +kernel
theorem dX8_count_35 : decode cX8_count 35 = .ok (.iconst 1, 1) := by decide +kernel
theorem dX8_count_36 : decode cX8_count 36 = .ok (.iload 5, 2) := by decide +kernel
theorem dX8_count_38 : decode cX8_count 38 = .ok (.ishl, 1) := by decide +kernel
theorem dX8_count_39 : decode cX8_count 39 = .ok (.goto 4, 3) := by decide +kernel
theorem dX8_count_42 : decode cX8_count 42 = .ok (.iconst 0, 1) := by decide +kernel
theorem dX8_count_43 : decode cX8_count 43 = .ok (.ior, 1) := by decide +kernel
theorem dX8_count_44 : decode cX8_count 44 = .ok (.istore_n 2, 1) := by decide +kernel
theorem dX8_count_45 : decode cX8_count 45 = .ok (.iload_n 3, 1) := by decide +kernel
theorem dX8_count_46 : decode cX8_count 46 = .ok (.aload_n 0, 1) := by decide +kernel
theorem dX8_count_47 : decode cX8_count 47 = .ok (.iload 5, 2) := by decide +kernel
theorem dX8_count_49 : decode cX8_count 49 = .ok (.invokevirtual 151, 3) := by decide +kernel
theorem dX8_count_52 : decode cX8_count 52 = .ok (.iadd, 1) := by decide +kernel
theorem dX8_count_53 : decode cX8_count 53 = .ok (.istore_n 3, 1) := by decide +kernel
theorem dX8_count_54 : decode cX8_count 54 = .ok (.iload 4, 2) := by decide +kernel
theorem dX8_count_56 : decode cX8_count 56 = .ok (.aload_n 0, 1) := by decide +kernel
theorem dX8_count_57 : decode cX8_count 57 = .ok (.getfield 13, 3) := by decide +kernel
theorem dX8_count_60 : decode cX8_count 60 = .ok (.bipush 66, 2) := by decide +kernel
theorem dX8_count_62 : decode cX8_count 62 = .ok (.iload 5, 2) := by decide +kernel
theorem dX8_count_64 : decode cX8_count 64 = .ok (.iadd, 1) := by decide +kernel
theorem dX8_count_65 : decode cX8_count 65 = .ok (.iaload, 1) := by decide +kernel
theorem dX8_count_66 : decode cX8_count 66 = .ok (.iload 5, 2) := by decide +kernel
theorem dX8_count_68 : decode cX8_count 68 = .ok (.ishl, 1) := by decide +kernel
theorem dX8_count_69 : decode cX8_count 69 = .ok (.ior, 1) := by decide +kernel
theorem dX8_count_70 : decode cX8_count 70 = .ok (.istore 4, 2) := by decide +kernel
theorem dX8_count_72 : decode cX8_count 72 = .ok (.iinc 5 1, 3) := by decide +kernel
theorem dX8_count_75 : decode cX8_count 75 = .ok (.goto (-65), 3) := by decide +kernel
theorem dX8_count_78 : decode cX8_count 78 = .ok (.iconst 0, 1) := by decide +kernel
theorem dX8_count_79 : decode cX8_count 79 = .ok (.istore 5, 2) := by decide +kernel
theorem dX8_count_81 : decode cX8_count 81 = .ok (.iconst 0, 1) := by decide +kernel
theorem dX8_count_82 : decode cX8_count 82 = .ok (.istore 6, 2) := by decide +kernel
theorem dX8_count_84 : decode cX8_count 84 = .ok (.iconst 0, 1) := by decide +kernel
theorem dX8_count_85 : decode cX8_count 85 = .ok (.istore 7, 2) := by decide +kernel
theorem dX8_count_87 : decode cX8_count 87 = .ok (.iload 7, 2) := by decide +kernel
theorem dX8_count_89 : decode cX8_count 89 = .ok (.bipush 60, 2) := by decide +kernel
theorem dX8_count_91 : decode cX8_count 91 = .ok (.if_icmp .ge 44, 3) := by decide +kernel
theorem dX8_count_94 : decode cX8_count 94 = .ok (.iload 5, 2) := by decide +kernel
theorem dX8_count_96 : decode cX8_count 96 = .ok (.aload_n 0, 1) := by decide +kernel
theorem dX8_count_97 : decode cX8_count 97 = .ok (.getfield 13, 3) := by decide +kernel
theorem dX8_count_100 : decode cX8_count 100 = .ok (.iload 7, 2) := by decide +kernel
theorem dX8_count_102 : decode cX8_count 102 = .ok (.iaload, 1) := by decide +kernel
theorem dX8_count_103 : decode cX8_count 103 = .ok (.ifCond .lt 7, 3) := by decide +kernel
theorem dX8_count_106 : decode cX8_count 106 = .ok (.iconst 1, 1) := by decide +kernel
theorem dX8_count_107 : decode cX8_count 107 = .ok (.goto 4, 3) := by decide +kernel
theorem dX8_count_110 : decode cX8_count 110 = .ok (.iconst 0, 1) := by decide +kernel
theorem dX8_count_111 : decode cX8_count 111 = .ok (.iadd, 1) := by decide +kernel
theorem dX8_count_112 : decode cX8_count 112 = .ok (.istore 5, 2) := by decide +kernel
theorem dX8_count_114 : decode cX8_count 114 = .ok (.iload 6, 2) := by decide +kernel
theorem dX8_count_116 : decode cX8_count 116 = .ok (.aload_n 0, 1) := by decide +kernel
theorem dX8_count_117 : decode cX8_count 117 = .ok (.getfield 7, 3) := by decide +kernel
theorem dX8_count_120 : decode cX8_count 120 = .ok (.bipush 85, 2) := by decide +kernel
theorem dX8_count_122 : decode cX8_count 122 = .ok (.iload 7, 2) := by decide +kernel
theorem dX8_count_124 : decode cX8_count 124 = .ok (.iadd, 1) := by decide +kernel
theorem dX8_count_125 : decode cX8_count 125 = .ok (.iaload, 1) := by decide +kernel
theorem dX8_count_126 : decode cX8_count 126 = .ok (.iadd, 1) := by decide +kernel
theorem dX8_count_127 : decode cX8_count 127 = .ok (.istore 6, 2) := by decide +kernel
theorem dX8_count_129 : decode cX8_count 129 = .ok (.iinc 7 1, 3) := by decide +kernel
theorem dX8_count_132 : decode cX8_count 132 = .ok (.goto (-45), 3) := by decide +kernel
theorem dX8_count_135 : decode cX8_count 135 = .ok (.iload_n 1, 1) := by decide +kernel
theorem dX8_count_136 : decode cX8_count 136 = .ok (.tableswitch 99 0 9 #[56, 63, 71, 73, 75, 78, 81, 84, 89, 94], 56) := by decide +kernel
theorem dX8_count_192 : decode cX8_count 192 = .ok (.aload_n 0, 1) := by decide +kernel
theorem dX8_count_193 : decode cX8_count 193 = .ok (.getfield 7, 3) := by decide +kernel
theorem dX8_count_196 : decode cX8_count 196 = .ok (.iconst 0, 1) := by decide +kernel
theorem dX8_count_197 : decode cX8_count 197 = .ok (.iaload, 1) := by decide +kernel
theorem dX8_count_198 : decode cX8_count 198 = .ok (.ireturn, 1) := by decide +kernel
theorem dX8_count_199 : decode cX8_count 199 = .ok (.aload_n 0, 1) := by decide +kernel
theorem dX8_count_200 : decode cX8_count 200 = .ok (.getfield 13, 3) := by decide +kernel
theorem dX8_count_203 : decode cX8_count 203 = .ok (.bipush 72, 2) := by decide +kernel
theorem dX8_count_205 : decode cX8_count 205 = .ok (.iaload, 1) := by decide +kernel
theorem dX8_count_206 : decode cX8_count 206 = .ok (.ireturn, 1) := by decide +kernel
theorem dX8_count_207 : decode cX8_count 207 = .ok (.iload_n 2, 1) := by decide +kernel
theorem dX8_count_208 : decode cX8_count 208 = .ok (.ireturn, 1) := by decide +kernel
theorem dX8_count_209 : decode cX8_count 209 = .ok (.iload_n 3, 1) := by decide +kernel
theorem dX8_count_210 : decode cX8_count 210 = .ok (.ireturn, 1) := by decide +kernel
theorem dX8_count_211 : decode cX8_count 211 = .ok (.iload 5, 2) := by decide +kernel
theorem dX8_count_213 : decode cX8_count 213 = .ok (.ireturn, 1) := by decide +kernel
theorem dX8_count_214 : decode cX8_count 214 = .ok (.iload 6, 2) := by decide +kernel
theorem dX8_count_216 : decode cX8_count 216 = .ok (.ireturn, 1) := by decide +kernel
theorem dX8_count_217 : decode cX8_count 217 = .ok (.iload 4, 2) := by decide +kernel
theorem dX8_count_219 : decode cX8_count 219 = .ok (.ireturn, 1) := by decide +kernel
theorem dX8_count_220 : decode cX8_count 220 = .ok (.aload_n 0, 1) := by decide +kernel
theorem dX8_count_221 : decode cX8_count 221 = .ok (.getfield 121, 3) := by decide +kernel
theorem dX8_count_224 : decode cX8_count 224 = .ok (.ireturn, 1) := by decide +kernel
theorem dX8_count_225 : decode cX8_count 225 = .ok (.aload_n 0, 1) := by decide +kernel
theorem dX8_count_226 : decode cX8_count 226 = .ok (.getfield 124, 3) := by decide +kernel
theorem dX8_count_229 : decode cX8_count 229 = .ok (.ireturn, 1) := by decide +kernel
theorem dX8_count_230 : decode cX8_count 230 = .ok (.aload_n 0, 1) := by decide +kernel
theorem dX8_count_231 : decode cX8_count 231 = .ok (.getfield 50, 3) := by decide +kernel
theorem dX8_count_234 : decode cX8_count 234 = .ok (.ireturn, 1) := by decide +kernel
theorem dX8_count_235 : decode cX8_count 235 = .ok (.bipush (-3), 2) := by decide +kernel
theorem dX8_count_237 : decode cX8_count 237 = .ok (.ireturn, 1) := by decide +kernel
theorem dJ13_bitCount_95d88_0 : decode cJ13_bitCount_95d88 0 = .ok (.lload_n 0, 1) := by decide +kernel
theorem dJ13_bitCount_95d88_1 : decode cJ13_bitCount_95d88 1 = .ok (.lload_n 0, 1) := by decide +kernel
theorem dJ13_bitCount_95d88_2 : decode cJ13_bitCount_95d88 2 = .ok (.iconst 1, 1) := by decide +kernel
theorem dJ13_bitCount_95d88_3 : decode cJ13_bitCount_95d88 3 = .ok (.lushr, 1) := by decide +kernel
theorem dJ13_bitCount_95d88_4 : decode cJ13_bitCount_95d88 4 = .ok (.ldc2_w 314, 3) := by decide +kernel
theorem dJ13_bitCount_95d88_7 : decode cJ13_bitCount_95d88 7 = .ok (.land, 1) := by decide +kernel
theorem dJ13_bitCount_95d88_8 : decode cJ13_bitCount_95d88 8 = .ok (.lsub, 1) := by decide +kernel
theorem dJ13_bitCount_95d88_9 : decode cJ13_bitCount_95d88 9 = .ok (.lstore_n 0, 1) := by decide +kernel
theorem dJ13_bitCount_95d88_10 : decode cJ13_bitCount_95d88 10 = .ok (.lload_n 0, 1) := by decide +kernel
theorem dJ13_bitCount_95d88_11 : decode cJ13_bitCount_95d88 11 = .ok (.ldc2_w 316, 3) := by decide +kernel
theorem dJ13_bitCount_95d88_14 : decode cJ13_bitCount_95d88 14 = .ok (.land, 1) := by decide +kernel
theorem dJ13_bitCount_95d88_15 : decode cJ13_bitCount_95d88 15 = .ok (.lload_n 0, 1) := by decide +kernel
theorem dJ13_bitCount_95d88_16 : decode cJ13_bitCount_95d88 16 = .ok (.iconst 2, 1) := by decide +kernel
theorem dJ13_bitCount_95d88_17 : decode cJ13_bitCount_95d88 17 = .ok (.lushr, 1) := by decide +kernel
theorem dJ13_bitCount_95d88_18 : decode cJ13_bitCount_95d88 18 = .ok (.ldc2_w 316, 3) := by decide +kernel
theorem dJ13_bitCount_95d88_21 : decode cJ13_bitCount_95d88 21 = .ok (.land, 1) := by decide +kernel
theorem dJ13_bitCount_95d88_22 : decode cJ13_bitCount_95d88 22 = .ok (.ladd, 1) := by decide +kernel
theorem dJ13_bitCount_95d88_23 : decode cJ13_bitCount_95d88 23 = .ok (.lstore_n 0, 1) := by decide +kernel
theorem dJ13_bitCount_95d88_24 : decode cJ13_bitCount_95d88 24 = .ok (.lload_n 0, 1) := by decide +kernel
theorem dJ13_bitCount_95d88_25 : decode cJ13_bitCount_95d88 25 = .ok (.lload_n 0, 1) := by decide +kernel
theorem dJ13_bitCount_95d88_26 : decode cJ13_bitCount_95d88 26 = .ok (.iconst 4, 1) := by decide +kernel
theorem dJ13_bitCount_95d88_27 : decode cJ13_bitCount_95d88 27 = .ok (.lushr, 1) := by decide +kernel
theorem dJ13_bitCount_95d88_28 : decode cJ13_bitCount_95d88 28 = .ok (.ladd, 1) := by decide +kernel
theorem dJ13_bitCount_95d88_29 : decode cJ13_bitCount_95d88 29 = .ok (.ldc2_w 318, 3) := by decide +kernel
theorem dJ13_bitCount_95d88_32 : decode cJ13_bitCount_95d88 32 = .ok (.land, 1) := by decide +kernel
theorem dJ13_bitCount_95d88_33 : decode cJ13_bitCount_95d88 33 = .ok (.lstore_n 0, 1) := by decide +kernel
theorem dJ13_bitCount_95d88_34 : decode cJ13_bitCount_95d88 34 = .ok (.lload_n 0, 1) := by decide +kernel
theorem dJ13_bitCount_95d88_35 : decode cJ13_bitCount_95d88 35 = .ok (.lload_n 0, 1) := by decide +kernel
theorem dJ13_bitCount_95d88_36 : decode cJ13_bitCount_95d88 36 = .ok (.bipush 8, 2) := by decide +kernel
theorem dJ13_bitCount_95d88_38 : decode cJ13_bitCount_95d88 38 = .ok (.lushr, 1) := by decide +kernel
theorem dJ13_bitCount_95d88_39 : decode cJ13_bitCount_95d88 39 = .ok (.ladd, 1) := by decide +kernel
theorem dJ13_bitCount_95d88_40 : decode cJ13_bitCount_95d88 40 = .ok (.lstore_n 0, 1) := by decide +kernel
theorem dJ13_bitCount_95d88_41 : decode cJ13_bitCount_95d88 41 = .ok (.lload_n 0, 1) := by decide +kernel
theorem dJ13_bitCount_95d88_42 : decode cJ13_bitCount_95d88 42 = .ok (.lload_n 0, 1) := by decide +kernel
theorem dJ13_bitCount_95d88_43 : decode cJ13_bitCount_95d88 43 = .ok (.bipush 16, 2) := by decide +kernel
theorem dJ13_bitCount_95d88_45 : decode cJ13_bitCount_95d88 45 = .ok (.lushr, 1) := by decide +kernel
theorem dJ13_bitCount_95d88_46 : decode cJ13_bitCount_95d88 46 = .ok (.ladd, 1) := by decide +kernel
theorem dJ13_bitCount_95d88_47 : decode cJ13_bitCount_95d88 47 = .ok (.lstore_n 0, 1) := by decide +kernel
theorem dJ13_bitCount_95d88_48 : decode cJ13_bitCount_95d88 48 = .ok (.lload_n 0, 1) := by decide +kernel
theorem dJ13_bitCount_95d88_49 : decode cJ13_bitCount_95d88 49 = .ok (.lload_n 0, 1) := by decide +kernel
theorem dJ13_bitCount_95d88_50 : decode cJ13_bitCount_95d88 50 = .ok (.bipush 32, 2) := by decide +kernel
theorem dJ13_bitCount_95d88_52 : decode cJ13_bitCount_95d88 52 = .ok (.lushr, 1) := by decide +kernel
theorem dJ13_bitCount_95d88_53 : decode cJ13_bitCount_95d88 53 = .ok (.ladd, 1) := by decide +kernel
theorem dJ13_bitCount_95d88_54 : decode cJ13_bitCount_95d88 54 = .ok (.lstore_n 0, 1) := by decide +kernel
theorem dJ13_bitCount_95d88_55 : decode cJ13_bitCount_95d88 55 = .ok (.lload_n 0, 1) := by decide +kernel
theorem dJ13_bitCount_95d88_56 : decode cJ13_bitCount_95d88 56 = .ok (.l2i, 1) := by decide +kernel
theorem dJ13_bitCount_95d88_57 : decode cJ13_bitCount_95d88 57 = .ok (.bipush 127, 2) := by decide +kernel
theorem dJ13_bitCount_95d88_59 : decode cJ13_bitCount_95d88 59 = .ok (.iand, 1) := by decide +kernel
theorem dJ13_bitCount_95d88_60 : decode cJ13_bitCount_95d88 60 = .ok (.ireturn, 1) := by decide +kernel
theorem dJ9_max_7cf53_0 : decode cJ9_max_7cf53 0 = .ok (.iload_n 0, 1) := by decide +kernel
theorem dJ9_max_7cf53_1 : decode cJ9_max_7cf53 1 = .ok (.iload_n 1, 1) := by decide +kernel
theorem dJ9_max_7cf53_2 : decode cJ9_max_7cf53 2 = .ok (.if_icmp .lt 7, 3) := by decide +kernel
theorem dJ9_max_7cf53_5 : decode cJ9_max_7cf53 5 = .ok (.iload_n 0, 1) := by decide +kernel
theorem dJ9_max_7cf53_6 : decode cJ9_max_7cf53 6 = .ok (.goto 4, 3) := by decide +kernel
theorem dJ9_max_7cf53_9 : decode cJ9_max_7cf53 9 = .ok (.iload_n 1, 1) := by decide +kernel
theorem dJ9_max_7cf53_10 : decode cJ9_max_7cf53 10 = .ok (.ireturn, 1) := by decide +kernel
theorem dJ9_min_7cf53_0 : decode cJ9_min_7cf53 0 = .ok (.iload_n 0, 1) := by decide +kernel
theorem dJ9_min_7cf53_1 : decode cJ9_min_7cf53 1 = .ok (.iload_n 1, 1) := by decide +kernel
theorem dJ9_min_7cf53_2 : decode cJ9_min_7cf53 2 = .ok (.if_icmp .gt 7, 3) := by decide +kernel
theorem dJ9_min_7cf53_5 : decode cJ9_min_7cf53 5 = .ok (.iload_n 0, 1) := by decide +kernel
theorem dJ9_min_7cf53_6 : decode cJ9_min_7cf53 6 = .ok (.goto 4, 3) := by decide +kernel
theorem dJ9_min_7cf53_9 : decode cJ9_min_7cf53 9 = .ok (.iload_n 1, 1) := by decide +kernel
theorem dJ9_min_7cf53_10 : decode cJ9_min_7cf53 10 = .ok (.ireturn, 1) := by decide +kernel
set_option maxRecDepth 20000 in
theorem ggJ0_length_8abf5_J0_coder_7d493 : GoodIn wsJ0_length_8abf5 wsJ0_coder_7d493 := goodIn_r _ [6, 7, 8] (by decide +kernel) (by decide +kernel)
set_option maxRecDepth 20000 in
theorem gJ0_length_8abf5_J0_coder_7d493 : GoodIn wsJ0_length_8abf5 (wsV RJ0 335 RJ0 yJ0_coder_7d493 wsJ0_coder_7d493) := goodIn_app (goodIn_of _ (by decide +kernel)) ggJ0_length_8abf5_J0_coder_7d493
theorem dJ0_length_8abf5_0 : decode cJ0_length_8abf5 0 = .ok (.aload_n 0, 1) := by decide +kernel
theorem dJ0_length_8abf5_1 : decode cJ0_length_8abf5 1 = .ok (.getfield 9, 3) := by decide +kernel
theorem dJ0_length_8abf5_4 : decode cJ0_length_8abf5 4 = .ok (.arraylength, 1) := by decide +kernel
theorem dJ0_length_8abf5_5 : decode cJ0_length_8abf5 5 = .ok (.aload_n 0, 1) := by decide +kernel
theorem dJ0_length_8abf5_6 : decode cJ0_length_8abf5 6 = .ok (.invokevirtual 335, 3) := by decide +kernel
theorem dJ0_length_8abf5_9 : decode cJ0_length_8abf5 9 = .ok (.ishr, 1) := by decide +kernel
theorem dJ0_length_8abf5_10 : decode cJ0_length_8abf5 10 = .ok (.ireturn, 1) := by decide +kernel
set_option maxRecDepth 20000 in
theorem ggJ0_charAt_5068e_J0_isLatin1_aae02 : GoodIn wsJ0_charAt_5068e wsJ0_isLatin1_aae02 := goodIn_r _ [6, 7, 8] (by decide +kernel) (by decide +kernel)
set_option maxRecDepth 20000 in
theorem gJ0_charAt_5068e_J0_isLatin1_aae02 : GoodIn wsJ0_charAt_5068e (wsV RJ0 492 RJ0 yJ0_isLatin1_aae02 wsJ0_isLatin1_aae02) := goodIn_app (goodIn_of _ (by decide +kernel)) ggJ0_charAt_5068e_J0_isLatin1_aae02
set_option maxRecDepth 20000 in
theorem ggJ0_charAt_5068e_J1_charAt_3b067 : GoodIn wsJ0_charAt_5068e wsJ1_charAt_3b067 := goodIn_r _ [12, 13, 14, 5, 15, 16, 17, 18, 19, 20] (by decide +kernel) (by decide +kernel)
set_option maxRecDepth 20000 in
theorem gJ0_charAt_5068e_J1_charAt_3b067 : GoodIn wsJ0_charAt_5068e (va_wsS RJ0 495 yJ1_charAt_3b067 wsJ1_charAt_3b067) := goodIn_app (goodIn_of _ (by decide +kernel)) ggJ0_charAt_5068e_J1_charAt_3b067
set_option maxRecDepth 20000 in
theorem ggJ0_charAt_5068e_J2_charAt_3b067 : GoodIn wsJ0_charAt_5068e wsJ2_charAt_3b067 := goodIn_r _ [24, 25, 26, 23, 27, 28, 29, 30, 31, 14, 5, 15, 16, 17, 18, 19, 20, 32, 33, 34, 35, 36, 37] (by decide +kernel) (by decide +kernel)
set_option maxRecDepth 20000 in
theorem gJ0_charAt_5068e_J2_charAt_3b067 : GoodIn wsJ0_charAt_5068e (va_wsS RJ0 498 yJ2_charAt_3b067 wsJ2_charAt_3b067) := goodIn_app (goodIn_of _ (by decide +kernel)) ggJ0_charAt_5068e_J2_charAt_3b067
theorem dJ0_charAt_5068e_0 : decode cJ0_charAt_5068e 0 = .ok (.aload_n 0, 1) := by decide +kernel
theorem dJ0_charAt_5068e_1 : decode cJ0_charAt_5068e 1 = .ok (.invokevirtual 492, 3) := by decide +kernel
theorem dJ0_charAt_5068e_4 : decode cJ0_charAt_5068e 4 = .ok (.ifCond .eq 12, 3) := by decide +kernel
theorem dJ0_charAt_5068e_7 : decode cJ0_charAt_5068e 7 = .ok (.aload_n 0, 1) := by decide +kernel
theorem dJ0_charAt_5068e_8 : decode cJ0_charAt_5068e 8 = .ok (.getfield 9, 3) := by decide +kernel
theorem dJ0_charAt_5068e_11 : decode cJ0_charAt_5068e 11 = .ok (.iload_n 1, 1) := by decide +kernel
theorem dJ0_charAt_5068e_12 : decode cJ0_charAt_5068e 12 = .ok (.invokestatic 495, 3) := by decide +kernel
theorem dJ0_charAt_5068e_15 : decode cJ0_charAt_5068e 15 = .ok (.ireturn, 1) := by decide +kernel
theorem dJ0_charAt_5068e_16 : decode cJ0_charAt_5068e 16 = .ok (.aload_n 0, 1) := by decide +kernel
theorem dJ0_charAt_5068e_17 : decode cJ0_charAt_5068e 17 = .ok (.getfield 9, 3) := by decide +kernel
theorem dJ0_charAt_5068e_20 : decode cJ0_charAt_5068e 20 = .ok (.iload_n 1, 1) := by decide +kernel
theorem dJ0_charAt_5068e_21 : decode cJ0_charAt_5068e 21 = .ok (.invokestatic 498, 3) := by decide +kernel
theorem dJ0_charAt_5068e_24 : decode cJ0_charAt_5068e 24 = .ok (.ireturn, 1) := by decide +kernel
theorem dJ0_coder_7d493_0 : decode cJ0_coder_7d493 0 = .ok (.getstatic 38, 3) := by decide +kernel
theorem dJ0_coder_7d493_3 : decode cJ0_coder_7d493 3 = .ok (.ifCond .eq 10, 3) := by decide +kernel
theorem dJ0_coder_7d493_6 : decode cJ0_coder_7d493 6 = .ok (.aload_n 0, 1) := by decide +kernel
theorem dJ0_coder_7d493_7 : decode cJ0_coder_7d493 7 = .ok (.getfield 15, 3) := by decide +kernel
theorem dJ0_coder_7d493_10 : decode cJ0_coder_7d493 10 = .ok (.goto 4, 3) := by decide +kernel
theorem dJ0_coder_7d493_13 : decode cJ0_coder_7d493 13 = .ok (.iconst 1, 1) := by decide +kernel
theorem dJ0_coder_7d493_14 : decode cJ0_coder_7d493 14 = .ok (.ireturn, 1) := by decide +kernel
theorem dJ0_isLatin1_aae02_0 : decode cJ0_isLatin1_aae02 0 = .ok (.getstatic 38, 3) := by decide +kernel
theorem dJ0_isLatin1_aae02_3 : decode cJ0_isLatin1_aae02 3 = .ok (.ifCond .eq 14, 3) := by decide +kernel
theorem dJ0_isLatin1_aae02_6 : decode cJ0_isLatin1_aae02 6 = .ok (.aload_n 0, 1) := by decide +kernel
theorem dJ0_isLatin1_aae02_7 : decode cJ0_isLatin1_aae02 7 = .ok (.getfield 15, 3) := by decide +kernel
theorem dJ0_isLatin1_aae02_10 : decode cJ0_isLatin1_aae02 10 = .ok (.ifCond .ne 7, 3) := by decide +kernel
theorem dJ0_isLatin1_aae02_13 : decode cJ0_isLatin1_aae02 13 = .ok (.iconst 1, 1) := by decide +kernel
theorem dJ0_isLatin1_aae02_14 : decode cJ0_isLatin1_aae02 14 = .ok (.goto 4, 3) := by decide +kernel
theorem dJ0_isLatin1_aae02_17 : decode cJ0_isLatin1_aae02 17 = .ok (.iconst 0, 1) := by decide +kernel
theorem dJ0_isLatin1_aae02_18 : decode cJ0_isLatin1_aae02 18 = .ok (.ireturn, 1) := by decide +kernel
set_option maxRecDepth 20000 in
theorem ggJ0_checkIndex_df160_J3_checkIndex_8e157 : GoodIn wsJ0_checkIndex_df160 wsJ3_checkIndex_8e157 := goodIn_r _ [5] (by decide +kernel) (by decide +kernel)
set_option maxRecDepth 20000 in
theorem gJ0_checkIndex_df160_J3_checkIndex_8e157 : GoodIn wsJ0_checkIndex_df160 (va_wsS RJ0 1059 yJ3_checkIndex_8e157 wsJ3_checkIndex_8e157) := goodIn_app (goodIn_of _ (by decide +kernel)) ggJ0_checkIndex_df160_J3_checkIndex_8e157
theorem dJ0_checkIndex_df160_0 : decode cJ0_checkIndex_df160 0 = .ok (.iload_n 0, 1) := by decide +kernel
theorem dJ0_checkIndex_df160_1 : decode cJ0_checkIndex_df160 1 = .ok (.iload_n 1, 1) := by decide +kernel
theorem dJ0_checkIndex_df160_2 : decode cJ0_checkIndex_df160 2 = .ok (.getstatic 1053, 3) := by decide +kernel
theorem dJ0_checkIndex_df160_5 : decode cJ0_checkIndex_df160 5 = .ok (.invokestatic 1059, 3) := by decide +kernel
theorem dJ0_checkIndex_df160_8 : decode cJ0_checkIndex_df160 8 = .ok (.pop, 1) := by decide +kernel
theorem dJ0_checkIndex_df160_9 : decode cJ0_checkIndex_df160 9 = .ok (.return_, 1) := by decide +kernel
set_option maxRecDepth 20000 in
theorem ggJ1_charAt_3b067_J0_checkIndex_df160 : GoodIn wsJ1_charAt_3b067 wsJ0_checkIndex_df160 := goodIn_r _ [4, 5, 6, 7, 8, 9] (by decide +kernel) (by decide +kernel)
set_option maxRecDepth 20000 in
theorem gJ1_charAt_3b067_J0_checkIndex_df160 : GoodIn wsJ1_charAt_3b067 (va_wsS RJ1 9 yJ0_checkIndex_df160 wsJ0_checkIndex_df160) := goodIn_app (goodIn_of _ (by decide +kernel)) ggJ1_charAt_3b067_J0_checkIndex_df160
theorem dJ1_charAt_3b067_0 : decode cJ1_charAt_3b067 0 = .ok (.iload_n 1, 1) := by decide +kernel
theorem dJ1_charAt_3b067_1 : decode cJ1_charAt_3b067 1 = .ok (.aload_n 0, 1) := by decide +kernel
theorem dJ1_charAt_3b067_2 : decode cJ1_charAt_3b067 2 = .ok (.arraylength, 1) := by decide +kernel
theorem dJ1_charAt_3b067_3 : decode cJ1_charAt_3b067 3 = .ok (.invokestatic 9, 3) := by decide +kernel
theorem dJ1_charAt_3b067_6 : decode cJ1_charAt_3b067 6 = .ok (.aload_n 0, 1) := by decide +kernel
theorem dJ1_charAt_3b067_7 : decode cJ1_charAt_3b067 7 = .ok (.iload_n 1, 1) := by decide +kernel
theorem dJ1_charAt_3b067_8 : decode cJ1_charAt_3b067 8 = .ok (.baload, 1) := by decide +kernel
theorem dJ1_charAt_3b067_9 : decode cJ1_charAt_3b067 9 = .ok (.sipush 255, 3) := by decide +kernel
theorem dJ1_charAt_3b067_12 : decode cJ1_charAt_3b067 12 = .ok (.iand, 1) := by decide +kernel
theorem dJ1_charAt_3b067_13 : decode cJ1_charAt_3b067 13 = .ok (.i2c, 1) := by decide +kernel
theorem dJ1_charAt_3b067_14 : decode cJ1_charAt_3b067 14 = .ok (.ireturn, 1) := by decide +kernel
set_option maxRecDepth 20000 in
theorem ggJ2_getChar_3b067_J2_length_9d52b : GoodIn wsJ2_getChar_3b067 wsJ2_length_9d52b := goodIn_r _ [7] (by decide +kernel) (by decide +kernel)
set_option maxRecDepth 20000 in
theorem gJ2_getChar_3b067_J2_length_9d52b : GoodIn wsJ2_getChar_3b067 (va_wsS RJ2 48 yJ2_length_9d52b wsJ2_length_9d52b) := goodIn_app (goodIn_of _ (by decide +kernel)) ggJ2_getChar_3b067_J2_length_9d52b
theorem dJ2_getChar_3b067_0 : decode cJ2_getChar_3b067 0 = .ok (.getstatic 44, 3) := by decide +kernel
theorem dJ2_getChar_3b067_3 : decode cJ2_getChar_3b067 3 = .ok (.ifCond .ne 25, 3) := by decide +kernel
theorem dJ2_getChar_3b067_6 : decode cJ2_getChar_3b067 6 = .ok (.iload_n 1, 1) := by decide +kernel
theorem dJ2_getChar_3b067_7 : decode cJ2_getChar_3b067 7 = .ok (.ifCond .lt 11, 3) := by decide +kernel
theorem dJ2_getChar_3b067_10 : decode cJ2_getChar_3b067 10 = .ok (.iload_n 1, 1) := by decide +kernel
theorem dJ2_getChar_3b067_11 : decode cJ2_getChar_3b067 11 = .ok (.aload_n 0, 1) := by decide +kernel
theorem dJ2_getChar_3b067_12 : decode cJ2_getChar_3b067 12 = .ok (.invokestatic 48, 3) := by decide +kernel
theorem dJ2_getChar_3b067_15 : decode cJ2_getChar_3b067 15 = .ok (.if_icmp .lt 13, 3) := by decide +kernel
theorem dJ2_getChar_3b067_18 : decode cJ2_getChar_3b067 18 = .ok (.new 52, 3) := by decide +kernel
theorem dJ2_getChar_3b067_21 : decode cJ2_getChar_3b067 21 = .ok (.dup, 1) := by decide +kernel
theorem dJ2_getChar_3b067_22 : decode cJ2_getChar_3b067 22 = .ok (.ldc 54, 2) := by decide +kernel
theorem dJ2_getChar_3b067_24 : decode cJ2_getChar_3b067 24 = .ok (.invokespecial 56, 3) := by decide +kernel
theorem dJ2_getChar_3b067_27 : decode cJ2_getChar_3b067 27 = .ok (.athrow, 1) := by decide +kernel
theorem dJ2_getChar_3b067_28 : decode cJ2_getChar_3b067 28 = .ok (.iload_n 1, 1) := by decide +kernel
theorem dJ2_getChar_3b067_29 : decode cJ2_getChar_3b067 29 = .ok (.iconst 1, 1) := by decide +kernel
theorem dJ2_getChar_3b067_30 : decode cJ2_getChar_3b067 30 = .ok (.ishl, 1) := by decide +kernel
theorem dJ2_getChar_3b067_31 : decode cJ2_getChar_3b067 31 = .ok (.istore_n 1, 1) := by decide +kernel
theorem dJ2_getChar_3b067_32 : decode cJ2_getChar_3b067 32 = .ok (.aload_n 0, 1) := by decide +kernel
theorem dJ2_getChar_3b067_33 : decode cJ2_getChar_3b067 33 = .ok (.iload_n 1, 1) := by decide +kernel
theorem dJ2_getChar_3b067_34 : decode cJ2_getChar_3b067 34 = .ok (.iinc 1 1, 3) := by decide +kernel
theorem dJ2_getChar_3b067_37 : decode cJ2_getChar_3b067 37 = .ok (.baload, 1) := by decide +kernel
theorem dJ2_getChar_3b067_38 : decode cJ2_getChar_3b067 38 = .ok (.sipush 255, 3) := by decide +kernel
theorem dJ2_getChar_3b067_41 : decode cJ2_getChar_3b067 41 = .ok (.iand, 1) := by decide +kernel
theorem dJ2_getChar_3b067_42 : decode cJ2_getChar_3b067 42 = .ok (.getstatic 59, 3) := by decide +kernel
theorem dJ2_getChar_3b067_45 : decode cJ2_getChar_3b067 45 = .ok (.ishl, 1) := by decide +kernel
theorem dJ2_getChar_3b067_46 : decode cJ2_getChar_3b067 46 = .ok (.aload_n 0, 1) := by decide +kernel
theorem dJ2_getChar_3b067_47 : decode cJ2_getChar_3b067 47 = .ok (.iload_n 1, 1) := by decide +kernel
theorem dJ2_getChar_3b067_48 : decode cJ2_getChar_3b067 48 = .ok (.baload, 1) := by decide +kernel
theorem dJ2_getChar_3b067_49 : decode cJ2_getChar_3b067 49 = .ok (.sipush 255, 3) := by decide +kernel
theorem dJ2_getChar_3b067_52 : decode cJ2_getChar_3b067 52 = .ok (.iand, 1) := by decide +kernel
theorem dJ2_getChar_3b067_53 : decode cJ2_getChar_3b067 53 = .ok (.getstatic 63, 3) := by decide +kernel
theorem dJ2_getChar_3b067_56 : decode cJ2_getChar_3b067 56 = .ok (.ishl, 1) := by decide +kernel
theorem dJ2_getChar_3b067_57 : decode cJ2_getChar_3b067 57 = .ok (.ior, 1) := by decide +kernel
theorem dJ2_getChar_3b067_58 : decode cJ2_getChar_3b067 58 = .ok (.i2c, 1) := by decide +kernel
theorem dJ2_getChar_3b067_59 : decode cJ2_getChar_3b067 59 = .ok (.ireturn, 1) := by decide +kernel
theorem dJ2_length_9d52b_0 : decode cJ2_length_9d52b 0 = .ok (.aload_n 0, 1) := by decide +kernel
theorem dJ2_length_9d52b_1 : decode cJ2_length_9d52b 1 = .ok (.arraylength, 1) := by decide +kernel
theorem dJ2_length_9d52b_2 : decode cJ2_length_9d52b 2 = .ok (.iconst 1, 1) := by decide +kernel
theorem dJ2_length_9d52b_3 : decode cJ2_length_9d52b 3 = .ok (.ishr, 1) := by decide +kernel
theorem dJ2_length_9d52b_4 : decode cJ2_length_9d52b 4 = .ok (.ireturn, 1) := by decide +kernel
set_option maxRecDepth 20000 in
theorem ggJ2_charAt_3b067_J2_checkIndex_2214a : GoodIn wsJ2_charAt_3b067 wsJ2_checkIndex_2214a := goodIn_r _ [4, 5, 6, 3, 7, 8, 9, 10, 11, 12, 13, 14, 15, 16] (by decide +kernel) (by decide +kernel)
set_option maxRecDepth 20000 in
theorem gJ2_charAt_3b067_J2_checkIndex_2214a : GoodIn wsJ2_charAt_3b067 (va_wsS RJ2 67 yJ2_checkIndex_2214a wsJ2_checkIndex_2214a) := goodIn_app (goodIn_of _ (by decide +kernel)) ggJ2_charAt_3b067_J2_checkIndex_2214a
set_option maxRecDepth 20000 in
theorem ggJ2_charAt_3b067_J2_getChar_3b067 : GoodIn wsJ2_charAt_3b067 wsJ2_getChar_3b067 := goodIn_r _ [19, 20, 21, 22, 5, 6, 3, 7] (by decide +kernel) (by decide +kernel)
set_option maxRecDepth 20000 in
theorem gJ2_charAt_3b067_J2_getChar_3b067 : GoodIn wsJ2_charAt_3b067 (va_wsS RJ2 71 yJ2_getChar_3b067 wsJ2_getChar_3b067) := goodIn_app (goodIn_of _ (by decide +kernel)) ggJ2_charAt_3b067_J2_getChar_3b067
theorem dJ2_charAt_3b067_0 : decode cJ2_charAt_3b067 0 = .ok (.iload_n 1, 1) := by decide +kernel
theorem dJ2_charAt_3b067_1 : decode cJ2_charAt_3b067 1 = .ok (.aload_n 0, 1) := by decide +kernel
theorem dJ2_charAt_3b067_2 : decode cJ2_charAt_3b067 2 = .ok (.invokestatic 67, 3) := by decide +kernel
theorem dJ2_charAt_3b067_5 : decode cJ2_charAt_3b067 5 = .ok (.aload_n 0, 1) := by decide +kernel
theorem dJ2_charAt_3b067_6 : decode cJ2_charAt_3b067 6 = .ok (.iload_n 1, 1) := by decide +kernel
theorem dJ2_charAt_3b067_7 : decode cJ2_charAt_3b067 7 = .ok (.invokestatic 71, 3) := by decide +kernel
theorem dJ2_charAt_3b067_10 : decode cJ2_charAt_3b067 10 = .ok (.ireturn, 1) := by decide +kernel
set_option maxRecDepth 20000 in
theorem ggJ2_checkIndex_2214a_J2_length_9d52b : GoodIn wsJ2_checkIndex_2214a wsJ2_length_9d52b := goodIn_r _ [4] (by decide +kernel) (by decide +kernel)
set_option maxRecDepth 20000 in
theorem gJ2_checkIndex_2214a_J2_length_9d52b : GoodIn wsJ2_checkIndex_2214a (va_wsS RJ2 48 yJ2_length_9d52b wsJ2_length_9d52b) := goodIn_app (goodIn_of _ (by decide +kernel)) ggJ2_checkIndex_2214a_J2_length_9d52b
set_option maxRecDepth 20000 in
theorem ggJ2_checkIndex_2214a_J0_checkIndex_df160 : GoodIn wsJ2_checkIndex_2214a wsJ0_checkIndex_df160 := goodIn_r _ [8, 9, 10, 11, 12, 13] (by decide +kernel) (by decide +kernel)
set_option maxRecDepth 20000 in
theorem gJ2_checkIndex_2214a_J0_checkIndex_df160 : GoodIn wsJ2_checkIndex_2214a (va_wsS RJ2 414 yJ0_checkIndex_df160 wsJ0_checkIndex_df160) := goodIn_app (goodIn_of _ (by decide +kernel)) ggJ2_checkIndex_2214a_J0_checkIndex_df160
theorem dJ2_checkIndex_2214a_0 : decode cJ2_checkIndex_2214a 0 = .ok (.iload_n 0, 1) := by decide +kernel
theorem dJ2_checkIndex_2214a_1 : decode cJ2_checkIndex_2214a 1 = .ok (.aload_n 1, 1) := by decide +kernel
theorem dJ2_checkIndex_2214a_2 : decode cJ2_checkIndex_2214a 2 = .ok (.invokestatic 48, 3) := by decide +kernel
theorem dJ2_checkIndex_2214a_5 : decode cJ2_checkIndex_2214a 5 = .ok (.invokestatic 414, 3) := by decide +kernel
theorem dJ2_checkIndex_2214a_8 : decode cJ2_checkIndex_2214a 8 = .ok (.return_, 1) := by decide +kernel
theorem dJ3_checkIndex_8e157_0 : decode cJ3_checkIndex_8e157 0 = .ok (.iload_n 0, 1) := by decide +kernel
theorem dJ3_checkIndex_8e157_1 : decode cJ3_checkIndex_8e157 1 = .ok (.ifCond .lt 8, 3) := by decide +kernel
theorem dJ3_checkIndex_8e157_4 : decode cJ3_checkIndex_8e157 4 = .ok (.iload_n 0, 1) := by decide +kernel
theorem dJ3_checkIndex_8e157_5 : decode cJ3_checkIndex_8e157 5 = .ok (.iload_n 1, 1) := by decide +kernel
theorem dJ3_checkIndex_8e157_6 : decode cJ3_checkIndex_8e157 6 = .ok (.if_icmp .lt 10, 3) := by decide +kernel
theorem dJ3_checkIndex_8e157_9 : decode cJ3_checkIndex_8e157 9 = .ok (.aload_n 2, 1) := by decide +kernel
theorem dJ3_checkIndex_8e157_10 : decode cJ3_checkIndex_8e157 10 = .ok (.iload_n 0, 1) := by decide +kernel
theorem dJ3_checkIndex_8e157_11 : decode cJ3_checkIndex_8e157 11 = .ok (.iload_n 1, 1) := by decide +kernel
theorem dJ3_checkIndex_8e157_12 : decode cJ3_checkIndex_8e157 12 = .ok (.invokestatic 95, 3) := by decide +kernel
theorem dJ3_checkIndex_8e157_15 : decode cJ3_checkIndex_8e157 15 = .ok (.athrow, 1) := by decide +kernel
theorem dJ3_checkIndex_8e157_16 : decode cJ3_checkIndex_8e157 16 = .ok (.iload_n 0, 1) := by decide +kernel
theorem dJ3_checkIndex_8e157_17 : decode cJ3_checkIndex_8e157 17 = .ok (.ireturn, 1) := by decide +kernel
set_option maxRecDepth 20000 in
theorem ggL_law_X7_init : GoodIn wsL_law wsX7_init := goodIn_r _ [8, 9, 10, 11, 12, 13, 14, 15, 16, 17, 18, 19, 20, 21, 22, 23, 24, 25, 26, 27, 28, 29, 30, 31, 32, 33, 34, 35, 36, 37, 38, 39, 40, 41, 42, 43, 44, 45, 46, 47, 48, 49, 50, 51, 52, 53, 54, 55, 56, 57, 58, 59, 60, 61, 62, 63, 64, 65, 66, 67, 68, 69, 70, 71, 72, 73, 74, 75, 76, 77, 78, 79, 80, 81, 82, 83, 84, 85, 86, 87, 88, 89, 90, 91, 92, 93, 94, 95, 96, 97, 98, 99, 100, 101, 102, 103, 104, 881, 882, 883, 884, 885, 886, 854, 855, 856, 857, 858, 859, 860, 861, 862, 887, 888, 889, 890, 891, 892, 893, 894, 895, 896, 897, 898, 899, 900, 901, 902, 903, 904, 905, 906, 907, 908, 909, 910, 911] (by decide +kernel) (by decide +kernel)
set_option maxRecDepth 20000 in
theorem gL_law_X7_init : GoodIn wsL_law (wsX7_init) := ggL_law_X7_init
set_option maxRecDepth 20000 in
theorem ggL_law_X8_init : GoodIn wsL_law wsX8_init := goodIn_r _ [107, 108, 10, 11, 46, 109, 110, 111, 112, 113, 114, 115, 116, 117, 118, 119, 120, 121, 122, 5, 123, 863, 864, 865, 866, 867, 868, 869, 870, 871, 872, 873, 874, 875, 876, 877, 878, 879, 880] (by decide +kernel) (by decide +kernel)
set_option maxRecDepth 20000 in
theorem gL_law_X8_init : GoodIn wsL_law (wsX8_init) := ggL_law_X8_init
set_option maxRecDepth 20000 in
theorem ggL_law_X7_write : GoodIn wsL_law wsX7_write := goodIn_r _ [127, 15, 128, 129, 2, 130, 131, 132, 133, 14, 134, 48, 47, 135, 136, 137, 138, 854, 855, 856, 857, 858, 859, 860, 861, 862, 881, 882, 883, 884, 885, 886] (by decide +kernel) (by decide +kernel)
set_option maxRecDepth 20000 in
theorem gL_law_X7_write : GoodIn wsL_law (wsV RL 13 RX7 yX7_write wsX7_write) := goodIn_app (goodIn_of _ (by decide +kernel)) ggL_law_X7_write
set_option maxRecDepth 20000 in
theorem ggL_law_X8_write : GoodIn wsL_law wsX8_write := goodIn_r _ [142, 143, 144, 111, 145, 146, 5, 147, 863, 864, 865, 866, 867, 868, 869, 870, 871, 872, 873, 874, 875, 876, 877, 878, 879, 880] (by decide +kernel) (by decide +kernel)
set_option maxRecDepth 20000 in
theorem gL_law_X8_write : GoodIn wsL_law (wsV RL 17 RX8 yX8_write wsX8_write) := goodIn_app (goodIn_of _ (by decide +kernel)) ggL_law_X8_write
set_option maxRecDepth 20000 in
theorem ggL_law_X7_erase : GoodIn wsL_law wsX7_erase := goodIn_r _ [151, 15, 135, 136, 137, 14, 138, 48, 152, 153, 154, 155, 854, 855, 856, 857, 858, 859, 860, 861, 862, 881, 882, 883, 884, 885, 886] (by decide +kernel) (by decide +kernel)
set_option maxRecDepth 20000 in
theorem gL_law_X7_erase : GoodIn wsL_law (wsV RL 18 RX7 yX7_erase wsX7_erase) := goodIn_app (goodIn_of _ (by decide +kernel)) ggL_law_X7_erase
set_option maxRecDepth 20000 in
theorem ggL_law_X8_erase : GoodIn wsL_law wsX8_erase := goodIn_r _ [159, 144, 863, 864, 865, 866, 867, 868, 869, 870, 871, 872, 873, 874, 875, 876, 877, 878, 879, 880] (by decide +kernel) (by decide +kernel)
set_option maxRecDepth 20000 in
theorem gL_law_X8_erase : GoodIn wsL_law (wsV RL 22 RX8 yX8_erase wsX8_erase) := goodIn_app (goodIn_of _ (by decide +kernel)) ggL_law_X8_erase
set_option maxRecDepth 20000 in
theorem ggL_law_X7_fault : GoodIn wsL_law wsX7_fault := goodIn_r _ [163, 20, 19, 15, 164, 165, 166, 18, 167, 53, 54, 55, 56, 58, 59, 60, 168, 169, 170, 14, 171, 172, 173, 174, 175, 176, 177, 178, 179, 180, 181, 182, 183, 48, 184, 185, 186, 187, 47, 188, 189, 190, 191, 192, 193, 194, 195, 196, 197, 198, 199, 200, 201, 202, 203, 204, 205, 206, 207, 208, 209, 210, 211, 212, 213, 214, 215, 216, 217, 218, 219, 220, 221, 222, 223, 224, 225, 226, 227, 228, 229, 230, 231, 232, 233, 234, 235, 236, 237, 238, 239, 240, 241, 242, 243, 244, 245, 246, 247, 248, 249, 250, 251, 252, 253, 254, 255, 256, 257, 258, 259, 129, 2, 130, 260, 261, 262, 263, 264, 265, 266, 267, 268, 269, 270, 271, 272, 273, 274, 275, 276, 277, 278, 279, 854, 855, 856, 857, 858, 859, 860, 861, 862, 887, 888, 889, 890, 891, 892, 893, 881, 882, 883, 884, 885, 886] (by decide +kernel) (by decide +kernel)
set_option maxRecDepth 20000 in
theorem gL_law_X7_fault : GoodIn wsL_law (wsV RL 23 RX7 yX7_fault wsX7_fault) := goodIn_app (goodIn_of _ (by decide +kernel)) ggL_law_X7_fault
set_option maxRecDepth 20000 in
theorem ggL_law_X8_fault : GoodIn wsL_law wsX8_fault := goodIn_r _ [283, 284, 285, 286, 287, 5, 288, 289, 290, 112, 109, 291, 292, 293, 294, 295, 296, 144, 297, 298, 299, 300, 111, 301, 302, 303, 304, 145, 146, 147, 305, 306, 307, 308, 309, 310, 311, 312, 313, 314, 315, 316, 317, 318, 319, 320, 321, 322, 323, 324, 325, 326, 327, 328, 329, 330, 331, 332, 333, 334, 335, 336, 863, 864, 865, 866, 867, 868, 869, 870, 871, 872, 873, 874, 875, 876, 877, 878, 879, 880] (by decide +kernel) (by decide +kernel)
set_option maxRecDepth 20000 in
theorem gL_law_X8_fault : GoodIn wsL_law (wsV RL 26 RX8 yX8_fault wsX8_fault) := goodIn_app (goodIn_of _ (by decide +kernel)) ggL_law_X8_fault
set_option maxRecDepth 20000 in
theorem ggL_law_X7_top : GoodIn wsL_law wsX7_top := goodIn_r _ [340, 20, 19, 15, 24, 32, 40, 41, 164, 165, 166, 18, 167, 53, 54, 55, 56, 58, 59, 60, 168, 169, 170, 14, 171, 172, 173, 174, 175, 176, 177, 178, 179, 180, 181, 182, 183, 48, 184, 185, 186, 187, 47, 188, 189, 190, 191, 192, 193, 194, 195, 196, 197, 198, 199, 200, 201, 202, 203, 204, 205, 206, 207, 208, 209, 210, 211, 212, 213, 214, 215, 216, 217, 218, 219, 220, 221, 222, 223, 224, 225, 226, 227, 228, 229, 230, 231, 232, 233, 234, 235, 236, 237, 238, 239, 240, 241, 242, 243, 244, 245, 246, 247, 248, 249, 250, 251, 252, 253, 254, 255, 256, 257, 258, 259, 129, 2, 130, 260, 261, 262, 263, 264, 265, 266, 267, 268, 269, 270, 271, 272, 273, 274, 275, 276, 277, 278, 279, 341, 342, 343, 23, 344, 65, 66, 67, 68, 345, 346, 347, 348, 349, 350, 351, 31, 352, 83, 353, 354, 355, 39, 356, 104, 152, 153, 154, 155, 357, 358, 359, 360, 854, 855, 856, 857, 858, 859, 860, 861, 862, 887, 888, 889, 890, 891, 892, 893, 881, 882, 883, 884, 885, 886, 894, 895, 896, 897, 901, 902, 903, 909, 910, 911] (by decide +kernel) (by decide +kernel)
set_option maxRecDepth 20000 in
theorem gL_law_X7_top : GoodIn wsL_law (wsV RL 27 RX7 yX7_top wsX7_top) := goodIn_app (goodIn_of _ (by decide +kernel)) ggL_law_X7_top
set_option maxRecDepth 20000 in
theorem ggL_law_X8_top : GoodIn wsL_law wsX8_top := goodIn_r _ [364, 144, 109, 112, 365, 366, 115, 290, 285, 286, 287, 5, 288, 289, 291, 292, 293, 294, 295, 296, 284, 297, 298, 299, 300, 111, 301, 302, 303, 304, 145, 146, 147, 305, 306, 307, 308, 309, 310, 311, 312, 313, 314, 315, 316, 317, 318, 319, 320, 321, 322, 323, 324, 325, 326, 327, 328, 329, 330, 331, 332, 333, 334, 335, 336, 120, 121, 122, 123, 110, 863, 864, 865, 866, 867, 868, 869, 870, 871, 872, 873, 874, 875, 876, 877, 878, 879, 880] (by decide +kernel) (by decide +kernel)
set_option maxRecDepth 20000 in
theorem gL_law_X8_top : GoodIn wsL_law (wsV RL 30 RX8 yX8_top wsX8_top) := goodIn_app (goodIn_of _ (by decide +kernel)) ggL_law_X8_top
set_option maxRecDepth 20000 in
theorem ggL_law_X7_person : GoodIn wsL_law wsX7_person := goodIn_r _ [370, 19, 24, 28, 371, 372, 373, 18, 374, 59, 375, 376, 377, 378, 53, 379, 380, 381, 382, 54, 383, 384, 385, 386, 55, 387, 388, 389, 390, 56, 391, 392, 393, 23, 394, 65, 395, 396, 397, 398, 67, 399, 400, 401, 2, 402, 403, 404, 405, 406, 407, 408, 409, 27, 410, 74, 411, 412, 413, 414, 415, 268, 269, 270, 416, 417, 418, 419, 420, 421, 422, 423, 424, 425, 426, 427, 428, 429, 430, 431, 75, 432, 433, 434, 435, 436, 437, 438, 439, 440, 441, 442, 443, 444, 445, 446, 447, 448, 66, 449, 450, 451, 452, 453, 454, 455, 456, 457, 458, 459, 460, 461, 462, 463, 464, 854, 855, 856, 857, 858, 859, 860, 861, 862, 894, 895, 896, 897, 887, 888, 889, 890, 891, 892, 893, 898, 899, 900] (by decide +kernel) (by decide +kernel)
set_option maxRecDepth 20000 in
theorem gL_law_X7_person : GoodIn wsL_law (wsV RL 31 RX7 yX7_person wsX7_person) := goodIn_app (goodIn_of _ (by decide +kernel)) ggL_law_X7_person
set_option maxRecDepth 20000 in
theorem ggL_law_X8_person : GoodIn wsL_law wsX8_person := goodIn_r _ [468, 109, 110, 469, 470, 471, 5, 472, 145, 146, 147, 473, 474, 475, 476, 477, 478, 479, 480, 481, 482, 483, 484, 485, 486, 487, 488, 489, 490, 491, 492, 493, 494, 495, 496, 497, 498, 499, 500, 501, 502, 503, 504, 505, 506, 507, 508, 863, 864, 865, 866, 867, 868, 869, 870, 871, 872, 873, 874, 875, 876, 877, 878, 879, 880] (by decide +kernel) (by decide +kernel)
set_option maxRecDepth 20000 in
theorem gL_law_X8_person : GoodIn wsL_law (wsV RL 35 RX8 yX8_person wsX8_person) := goodIn_app (goodIn_of _ (by decide +kernel)) ggL_law_X8_person
set_option maxRecDepth 20000 in
theorem ggL_law_X7_second : GoodIn wsL_law wsX7_second := goodIn_r _ [512, 24, 19, 128, 129, 2, 130, 513, 514, 515, 23, 516, 66, 517, 518, 519, 520, 403, 404, 405, 406, 28, 391, 392, 393, 394, 65, 407, 408, 409, 27, 410, 74, 411, 412, 413, 18, 414, 53, 54, 415, 384, 385, 386, 55, 268, 269, 270, 854, 855, 856, 857, 858, 859, 860, 861, 862, 887, 888, 889, 890, 891, 892, 893, 894, 895, 896, 897, 898, 899, 900] (by decide +kernel) (by decide +kernel)
set_option maxRecDepth 20000 in
theorem gL_law_X7_second : GoodIn wsL_law (wsV RL 36 RX7 yX7_second wsX7_second) := goodIn_app (goodIn_of _ (by decide +kernel)) ggL_law_X7_second
set_option maxRecDepth 20000 in
theorem ggL_law_X8_second : GoodIn wsL_law wsX8_second := goodIn_r _ [524, 525, 526, 109, 110, 145, 146, 5, 147, 477, 478, 479, 480, 481, 482, 483, 484, 485, 486, 487, 488, 863, 864, 865, 866, 867, 868, 869, 870, 871, 872, 873, 874, 875, 876, 877, 878, 879, 880] (by decide +kernel) (by decide +kernel)
set_option maxRecDepth 20000 in
theorem gL_law_X8_second : GoodIn wsL_law (wsV RL 39 RX8 yX8_second wsX8_second) := goodIn_app (goodIn_of _ (by decide +kernel)) ggL_law_X8_second
set_option maxRecDepth 20000 in
theorem ggL_law_X7_as : GoodIn wsL_law wsX7_as := goodIn_r _ [530, 19, 531, 371, 372, 373, 18, 374, 59, 128, 129, 2, 130, 375, 376, 377, 378, 53, 532, 533, 534, 416, 412, 413, 414, 54, 535, 452, 453, 454, 56, 854, 855, 856, 857, 858, 859, 860, 861, 862, 887, 888, 889, 890, 891, 892, 893] (by decide +kernel) (by decide +kernel)
set_option maxRecDepth 20000 in
theorem gL_law_X7_as : GoodIn wsL_law (wsV RL 40 RX7 yX7_as wsX7_as) := goodIn_app (goodIn_of _ (by decide +kernel)) ggL_law_X7_as
set_option maxRecDepth 20000 in
theorem ggL_law_X8_as : GoodIn wsL_law wsX8_as := goodIn_r _ [539, 540, 109, 469, 470, 471, 5, 472, 145, 146, 147, 501, 502, 503, 504, 485, 486, 487, 488, 863, 864, 865, 866, 867, 868, 869, 870, 871, 872, 873, 874, 875, 876, 877, 878, 879, 880] (by decide +kernel) (by decide +kernel)
set_option maxRecDepth 20000 in
theorem gL_law_X8_as : GoodIn wsL_law (wsV RL 43 RX8 yX8_as wsX8_as) := goodIn_app (goodIn_of _ (by decide +kernel)) ggL_law_X8_as
set_option maxRecDepth 20000 in
theorem ggL_law_X7_start : GoodIn wsL_law wsX7_start := goodIn_r _ [544, 19, 32, 24, 371, 372, 373, 18, 374, 59, 128, 129, 2, 130, 545, 546, 547, 31, 548, 81, 82, 83, 549, 550, 90, 551, 552, 553, 554, 35, 555, 92, 93, 94, 95, 96, 556, 557, 558, 23, 559, 65, 416, 412, 413, 414, 53, 54, 854, 855, 856, 857, 858, 859, 860, 861, 862, 894, 895, 896, 897, 887, 888, 889, 890, 891, 892, 893, 901, 902, 903, 904, 905, 906, 907, 908] (by decide +kernel) (by decide +kernel)
set_option maxRecDepth 20000 in
theorem gL_law_X7_start : GoodIn wsL_law (wsV RL 44 RX7 yX7_start wsX7_start) := goodIn_app (goodIn_of _ (by decide +kernel)) ggL_law_X7_start
set_option maxRecDepth 20000 in
theorem ggL_law_X8_start : GoodIn wsL_law wsX8_start := goodIn_r _ [563, 525, 110, 469, 470, 471, 5, 472, 109, 145, 146, 147, 564, 565, 566, 567, 366, 113, 481, 482, 483, 484, 485, 486, 487, 488, 863, 864, 865, 866, 867, 868, 869, 870, 871, 872, 873, 874, 875, 876, 877, 878, 879, 880] (by decide +kernel) (by decide +kernel)
set_option maxRecDepth 20000 in
theorem gL_law_X8_start : GoodIn wsL_law (wsV RL 47 RX8 yX8_start wsX8_start) := goodIn_app (goodIn_of _ (by decide +kernel)) ggL_law_X8_start
set_option maxRecDepth 20000 in
theorem ggL_law_X7_stays : GoodIn wsL_law wsX7_stays := goodIn_r _ [571, 19, 24, 32, 371, 372, 373, 18, 374, 59, 391, 392, 393, 23, 394, 65, 545, 546, 547, 31, 548, 81, 82, 83, 549, 550, 90, 551, 552, 553, 554, 35, 555, 92, 93, 94, 95, 96, 556, 557, 558, 559, 854, 855, 856, 857, 858, 859, 860, 861, 862, 887, 888, 889, 890, 891, 892, 893, 894, 895, 896, 897, 901, 902, 903, 904, 905, 906, 907, 908] (by decide +kernel) (by decide +kernel)
set_option maxRecDepth 20000 in
theorem gL_law_X7_stays : GoodIn wsL_law (wsV RL 48 RX7 yX7_stays wsX7_stays) := goodIn_app (goodIn_of _ (by decide +kernel)) ggL_law_X7_stays
set_option maxRecDepth 20000 in
theorem ggL_law_X8_stays : GoodIn wsL_law wsX8_stays := goodIn_r _ [575, 110, 469, 470, 471, 5, 472, 109, 145, 146, 147, 564, 565, 566, 567, 366, 113, 863, 864, 865, 866, 867, 868, 869, 870, 871, 872, 873, 874, 875, 876, 877, 878, 879, 880] (by decide +kernel) (by decide +kernel)
set_option maxRecDepth 20000 in
theorem gL_law_X8_stays : GoodIn wsL_law (wsV RL 51 RX8 yX8_stays wsX8_stays) := goodIn_app (goodIn_of _ (by decide +kernel)) ggL_law_X8_stays
set_option maxRecDepth 20000 in
theorem ggL_law_X7_rope : GoodIn wsL_law wsX7_rope := goodIn_r _ [579, 19, 32, 24, 371, 372, 373, 18, 374, 59, 128, 129, 2, 130, 545, 546, 547, 31, 548, 81, 82, 83, 549, 550, 90, 551, 552, 553, 554, 35, 555, 92, 93, 94, 95, 96, 395, 396, 397, 23, 398, 67, 580, 581, 582, 583, 854, 855, 856, 857, 858, 859, 860, 861, 862, 887, 888, 889, 890, 891, 892, 893, 901, 902, 903, 904, 905, 906, 907, 908, 894, 895, 896, 897] (by decide +kernel) (by decide +kernel)
set_option maxRecDepth 20000 in
theorem gL_law_X7_rope : GoodIn wsL_law (wsV RL 52 RX7 yX7_rope wsX7_rope) := goodIn_app (goodIn_of _ (by decide +kernel)) ggL_law_X7_rope
set_option maxRecDepth 20000 in
theorem ggL_law_X8_rope : GoodIn wsL_law wsX8_rope := goodIn_r _ [587, 110, 469, 470, 471, 5, 472, 109, 145, 146, 147, 564, 565, 566, 567, 366, 113, 863, 864, 865, 866, 867, 868, 869, 870, 871, 872, 873, 874, 875, 876, 877, 878, 879, 880] (by decide +kernel) (by decide +kernel)
set_option maxRecDepth 20000 in
theorem gL_law_X8_rope : GoodIn wsL_law (wsV RL 55 RX8 yX8_rope wsX8_rope) := goodIn_app (goodIn_of _ (by decide +kernel)) ggL_law_X8_rope
set_option maxRecDepth 20000 in
theorem ggL_law_X7_clock : GoodIn wsL_law wsX7_clock := goodIn_r _ [591, 32, 24, 128, 129, 2, 130, 545, 546, 547, 31, 548, 81, 82, 83, 549, 550, 90, 551, 552, 553, 554, 35, 555, 92, 93, 94, 95, 96, 854, 855, 856, 857, 858, 859, 860, 861, 862, 894, 895, 896, 897, 901, 902, 903, 904, 905, 906, 907, 908] (by decide +kernel) (by decide +kernel)
set_option maxRecDepth 20000 in
theorem gL_law_X7_clock : GoodIn wsL_law (wsV RL 56 RX7 yX7_clock wsX7_clock) := goodIn_app (goodIn_of _ (by decide +kernel)) ggL_law_X7_clock
set_option maxRecDepth 20000 in
theorem ggL_law_X8_clock : GoodIn wsL_law wsX8_clock := goodIn_r _ [595, 596, 110, 145, 146, 5, 147, 564, 565, 566, 567, 366, 113, 863, 864, 865, 866, 867, 868, 869, 870, 871, 872, 873, 874, 875, 876, 877, 878, 879, 880] (by decide +kernel) (by decide +kernel)
set_option maxRecDepth 20000 in
theorem gL_law_X8_clock : GoodIn wsL_law (wsV RL 59 RX8 yX8_clock wsX8_clock) := goodIn_app (goodIn_of _ (by decide +kernel)) ggL_law_X8_clock
set_option maxRecDepth 20000 in
theorem ggL_law_X7_halve : GoodIn wsL_law wsX7_halve := goodIn_r _ [600, 24, 32, 601, 602, 603, 2, 604, 19, 371, 372, 373, 18, 374, 59, 464, 446, 447, 23, 448, 66, 417, 418, 419, 420, 421, 422, 423, 545, 546, 547, 31, 548, 81, 82, 83, 549, 550, 90, 551, 552, 553, 554, 35, 555, 92, 93, 94, 95, 96, 605, 606, 607, 608, 609, 610, 611, 612, 854, 855, 856, 857, 858, 859, 860, 861, 862, 887, 888, 889, 890, 891, 892, 893, 894, 895, 896, 897, 901, 902, 903, 904, 905, 906, 907, 908] (by decide +kernel) (by decide +kernel)
set_option maxRecDepth 20000 in
theorem gL_law_X7_halve : GoodIn wsL_law (wsV RL 60 RX7 yX7_halve wsX7_halve) := goodIn_app (goodIn_of _ (by decide +kernel)) ggL_law_X7_halve
set_option maxRecDepth 20000 in
theorem ggL_law_X8_halve : GoodIn wsL_law wsX8_halve := goodIn_r _ [616, 110, 469, 470, 471, 5, 472, 109, 145, 146, 147, 505, 506, 507, 508, 564, 565, 566, 567, 366, 113, 863, 864, 865, 866, 867, 868, 869, 870, 871, 872, 873, 874, 875, 876, 877, 878, 879, 880] (by decide +kernel) (by decide +kernel)
set_option maxRecDepth 20000 in
theorem gL_law_X8_halve : GoodIn wsL_law (wsV RL 63 RX8 yX8_halve wsX8_halve) := goodIn_app (goodIn_of _ (by decide +kernel)) ggL_law_X8_halve
set_option maxRecDepth 20000 in
theorem ggL_law_X7_sell : GoodIn wsL_law wsX7_sell := goodIn_r _ [620, 19, 24, 32, 371, 372, 373, 18, 374, 59, 128, 129, 2, 130, 513, 514, 515, 23, 516, 66, 545, 546, 547, 31, 548, 81, 82, 83, 549, 550, 90, 551, 552, 553, 554, 35, 555, 92, 93, 94, 95, 96, 608, 609, 610, 611, 612, 854, 855, 856, 857, 858, 859, 860, 861, 862, 887, 888, 889, 890, 891, 892, 893, 894, 895, 896, 897, 901, 902, 903, 904, 905, 906, 907, 908] (by decide +kernel) (by decide +kernel)
set_option maxRecDepth 20000 in
theorem gL_law_X7_sell : GoodIn wsL_law (wsV RL 64 RX7 yX7_sell wsX7_sell) := goodIn_app (goodIn_of _ (by decide +kernel)) ggL_law_X7_sell
set_option maxRecDepth 20000 in
theorem ggL_law_X8_sell : GoodIn wsL_law wsX8_sell := goodIn_r _ [624, 525, 110, 469, 470, 471, 5, 472, 109, 145, 146, 147, 564, 565, 566, 567, 366, 113, 863, 864, 865, 866, 867, 868, 869, 870, 871, 872, 873, 874, 875, 876, 877, 878, 879, 880] (by decide +kernel) (by decide +kernel)
set_option maxRecDepth 20000 in
theorem gL_law_X8_sell : GoodIn wsL_law (wsV RL 67 RX8 yX8_sell wsX8_sell) := goodIn_app (goodIn_of _ (by decide +kernel)) ggL_law_X8_sell
set_option maxRecDepth 20000 in
theorem ggL_law_X7_undo : GoodIn wsL_law wsX7_undo := goodIn_r _ [628, 32, 24, 629, 630, 631, 31, 632, 83, 82, 81, 633, 634, 635, 35, 636, 92, 93, 94, 95, 96, 637, 638, 639, 640, 854, 855, 856, 857, 858, 859, 860, 861, 862, 901, 902, 903, 904, 905, 906, 907, 908, 894, 895, 896, 897] (by decide +kernel) (by decide +kernel)
