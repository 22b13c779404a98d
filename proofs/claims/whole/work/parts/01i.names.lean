theorem dX8_fullFine_10 : decode cX8_fullFine 10 = .ok (.aload_n 0, 1) := by decide +kernel
theorem dX8_fullFine_11 : decode cX8_fullFine 11 = .ok (.iload_n 1, 1) := by decide +kernel
theorem dX8_fullFine_12 : decode cX8_fullFine 12 = .ok (.iload_n 3, 1) := by decide +kernel
theorem dX8_fullFine_13 : decode cX8_fullFine 13 = .ok (.invokevirtual 136, 3) := by decide +kernel
theorem dX8_fullFine_16 : decode cX8_fullFine 16 = .ok (.ifCond .eq 62, 3) := by decide +kernel
theorem dX8_fullFine_19 : decode cX8_fullFine 19 = .ok (.iconst 0, 1) := by decide +kernel
theorem dX8_fullFine_20 : decode cX8_fullFine 20 = .ok (.istore 4, 2) := by decide +kernel
theorem dX8_fullFine_22 : decode cX8_fullFine 22 = .ok (.iconst 0, 1) := by decide +kernel
theorem dX8_fullFine_23 : decode cX8_fullFine 23 = .ok (.istore 5, 2) := by decide +kernel
theorem dX8_fullFine_25 : decode cX8_fullFine 25 = .ok (.iload 5, 2) := by decide +kernel
theorem dX8_fullFine_27 : decode cX8_fullFine 27 = .ok (.iload_n 1, 1) := by decide +kernel
theorem dX8_fullFine_28 : decode cX8_fullFine 28 = .ok (.if_icmp .ge 29, 3) := by decide +kernel
theorem dX8_fullFine_31 : decode cX8_fullFine 31 = .ok (.iload 4, 2) := by decide +kernel
theorem dX8_fullFine_33 : decode cX8_fullFine 33 = .ok (.aload_n 0, 1) := by decide +kernel
theorem dX8_fullFine_34 : decode cX8_fullFine 34 = .ok (.iload 5, 2) := by decide +kernel
theorem dX8_fullFine_36 : decode cX8_fullFine 36 = .ok (.iload_n 3, 1) := by decide +kernel
theorem dX8_fullFine_37 : decode cX8_fullFine 37 = .ok (.invokevirtual 136, 3) := by decide +kernel
theorem dX8_fullFine_40 : decode cX8_fullFine 40 = .ok (.ifCond .eq 7, 3) := by decide +kernel
theorem dX8_fullFine_43 : decode cX8_fullFine 43 = .ok (.iconst 1, 1) := by decide +kernel
theorem dX8_fullFine_44 : decode cX8_fullFine 44 = .ok (.goto 4, 3) := by decide +kernel
theorem dX8_fullFine_47 : decode cX8_fullFine 47 = .ok (.iconst 0, 1) := by decide +kernel
theorem dX8_fullFine_48 : decode cX8_fullFine 48 = .ok (.iadd, 1) := by decide +kernel
theorem dX8_fullFine_49 : decode cX8_fullFine 49 = .ok (.istore 4, 2) := by decide +kernel
theorem dX8_fullFine_51 : decode cX8_fullFine 51 = .ok (.iinc 5 1, 3) := by decide +kernel
theorem dX8_fullFine_54 : decode cX8_fullFine 54 = .ok (.goto (-29), 3) := by decide +kernel
theorem dX8_fullFine_57 : decode cX8_fullFine 57 = .ok (.iload_n 2, 1) := by decide +kernel
theorem dX8_fullFine_58 : decode cX8_fullFine 58 = .ok (.aload_n 0, 1) := by decide +kernel
theorem dX8_fullFine_59 : decode cX8_fullFine 59 = .ok (.iload_n 1, 1) := by decide +kernel
theorem dX8_fullFine_60 : decode cX8_fullFine 60 = .ok (.iload_n 3, 1) := by decide +kernel
theorem dX8_fullFine_61 : decode cX8_fullFine 61 = .ok (.invokevirtual 139, 3) := by decide +kernel
theorem dX8_fullFine_64 : decode cX8_fullFine 64 = .ok (.iload 4, 2) := by decide +kernel
theorem dX8_fullFine_66 : decode cX8_fullFine 66 = .ok (.iconst 1, 1) := by decide +kernel
theorem dX8_fullFine_67 : decode cX8_fullFine 67 = .ok (.if_icmp .le 7, 3) := by decide +kernel
theorem dX8_fullFine_70 : decode cX8_fullFine 70 = .ok (.iconst 1, 1) := by decide +kernel
theorem dX8_fullFine_71 : decode cX8_fullFine 71 = .ok (.goto 4, 3) := by decide +kernel
theorem dX8_fullFine_74 : decode cX8_fullFine 74 = .ok (.iconst 0, 1) := by decide +kernel
theorem dX8_fullFine_75 : decode cX8_fullFine 75 = .ok (.iadd, 1) := by decide +kernel
theorem dX8_fullFine_76 : decode cX8_fullFine 76 = .ok (.iadd, 1) := by decide +kernel
theorem dX8_fullFine_77 : decode cX8_fullFine 77 = .ok (.istore_n 2, 1) := by decide +kernel
theorem dX8_fullFine_78 : decode cX8_fullFine 78 = .ok (.iinc 3 1, 3) := by decide +kernel
theorem dX8_fullFine_81 : decode cX8_fullFine 81 = .ok (.goto (-77), 3) := by decide +kernel
theorem dX8_fullFine_84 : decode cX8_fullFine 84 = .ok (.iload_n 2, 1) := by decide +kernel
theorem dX8_fullFine_85 : decode cX8_fullFine 85 = .ok (.ireturn, 1) := by decide +kernel
set_option maxRecDepth 20000 in
theorem ggX8_fineOf_X8_fullFine : GoodIn wsX8_fineOf wsX8_fullFine := goodIn_r _ [6, 7, 8, 9, 5, 10, 1, 11, 12, 13, 14, 15, 16, 17, 18, 19, 20, 21, 22, 23, 24, 25, 26, 27, 28, 29, 30, 31, 32, 33, 34, 35, 36, 37, 38, 39, 40, 41, 42, 43, 44, 45, 46, 47, 48] (by decide +kernel) (by decide +kernel)
set_option maxRecDepth 20000 in
theorem gX8_fineOf_X8_fullFine : GoodIn wsX8_fineOf (wsV RX8 142 RX8 yX8_fullFine wsX8_fullFine) := goodIn_app (goodIn_of _ (by decide +kernel)) ggX8_fineOf_X8_fullFine
theorem dX8_fineOf_0 : decode cX8_fineOf 0 = .ok (.aload_n 0, 1) := by decide +kernel
theorem dX8_fineOf_1 : decode cX8_fineOf 1 = .ok (.getfield 13, 3) := by decide +kernel
theorem dX8_fineOf_4 : decode cX8_fineOf 4 = .ok (.bipush 66, 2) := by decide +kernel
theorem dX8_fineOf_6 : decode cX8_fineOf 6 = .ok (.iload_n 1, 1) := by decide +kernel
theorem dX8_fineOf_7 : decode cX8_fineOf 7 = .ok (.iadd, 1) := by decide +kernel
theorem dX8_fineOf_8 : decode cX8_fineOf 8 = .ok (.iaload, 1) := by decide +kernel
theorem dX8_fineOf_9 : decode cX8_fineOf 9 = .ok (.iconst 1, 1) := by decide +kernel
theorem dX8_fineOf_10 : decode cX8_fineOf 10 = .ok (.if_icmp .ne 13, 3) := by decide +kernel
theorem dX8_fineOf_13 : decode cX8_fineOf 13 = .ok (.aload_n 0, 1) := by decide +kernel
theorem dX8_fineOf_14 : decode cX8_fineOf 14 = .ok (.iload_n 1, 1) := by decide +kernel
theorem dX8_fineOf_15 : decode cX8_fineOf 15 = .ok (.invokevirtual 142, 3) := by decide +kernel
theorem dX8_fineOf_18 : decode cX8_fineOf 18 = .ok (.iconst 2, 1) := by decide +kernel
theorem dX8_fineOf_19 : decode cX8_fineOf 19 = .ok (.idiv, 1) := by decide +kernel
theorem dX8_fineOf_20 : decode cX8_fineOf 20 = .ok (.goto 8, 3) := by decide +kernel
theorem dX8_fineOf_23 : decode cX8_fineOf 23 = .ok (.aload_n 0, 1) := by decide +kernel
theorem dX8_fineOf_24 : decode cX8_fineOf 24 = .ok (.iload_n 1, 1) := by decide +kernel
theorem dX8_fineOf_25 : decode cX8_fineOf 25 = .ok (.invokevirtual 142, 3) := by decide +kernel
theorem dX8_fineOf_28 : decode cX8_fineOf 28 = .ok (.ireturn, 1) := by decide +kernel
set_option maxRecDepth 20000 in
theorem ggX8_standMany_X8_standsIn : GoodIn wsX8_standMany wsX8_standsIn := goodIn_r _ [5, 6, 7, 8, 9, 10, 4, 11, 12, 13, 14, 15, 16, 17, 18, 19, 20, 21, 22, 23, 24, 25, 26, 27, 28, 29, 30, 31, 32, 33, 34, 35, 36] (by decide +kernel) (by decide +kernel)
set_option maxRecDepth 20000 in
theorem gX8_standMany_X8_standsIn : GoodIn wsX8_standMany (wsV RX8 136 RX8 yX8_standsIn wsX8_standsIn) := goodIn_app (goodIn_of _ (by decide +kernel)) ggX8_standMany_X8_standsIn
theorem dX8_standMany_0 : decode cX8_standMany 0 = .ok (.iconst 0, 1) := by decide +kernel
theorem dX8_standMany_1 : decode cX8_standMany 1 = .ok (.istore_n 2, 1) := by decide +kernel
theorem dX8_standMany_2 : decode cX8_standMany 2 = .ok (.iconst 0, 1) := by decide +kernel
theorem dX8_standMany_3 : decode cX8_standMany 3 = .ok (.istore_n 3, 1) := by decide +kernel
theorem dX8_standMany_4 : decode cX8_standMany 4 = .ok (.iload_n 3, 1) := by decide +kernel
theorem dX8_standMany_5 : decode cX8_standMany 5 = .ok (.bipush 60, 2) := by decide +kernel
theorem dX8_standMany_7 : decode cX8_standMany 7 = .ok (.if_icmp .ge 26, 3) := by decide +kernel
theorem dX8_standMany_10 : decode cX8_standMany 10 = .ok (.iload_n 2, 1) := by decide +kernel
theorem dX8_standMany_11 : decode cX8_standMany 11 = .ok (.aload_n 0, 1) := by decide +kernel
theorem dX8_standMany_12 : decode cX8_standMany 12 = .ok (.iload_n 1, 1) := by decide +kernel
theorem dX8_standMany_13 : decode cX8_standMany 13 = .ok (.iload_n 3, 1) := by decide +kernel
theorem dX8_standMany_14 : decode cX8_standMany 14 = .ok (.invokevirtual 136, 3) := by decide +kernel
theorem dX8_standMany_17 : decode cX8_standMany 17 = .ok (.ifCond .eq 7, 3) := by decide +kernel
theorem dX8_standMany_20 : decode cX8_standMany 20 = .ok (.iconst 1, 1) := by decide +kernel
theorem dX8_standMany_21 : decode cX8_standMany 21 = .ok (.goto 4, 3) := by decide +kernel
theorem dX8_standMany_24 : decode cX8_standMany 24 = .ok (.iconst 0, 1) := by decide +kernel
theorem dX8_standMany_25 : decode cX8_standMany 25 = .ok (.iadd, 1) := by decide +kernel
theorem dX8_standMany_26 : decode cX8_standMany 26 = .ok (.istore_n 2, 1) := by decide +kernel
theorem dX8_standMany_27 : decode cX8_standMany 27 = .ok (.iinc 3 1, 3) := by decide +kernel
theorem dX8_standMany_30 : decode cX8_standMany 30 = .ok (.goto (-26), 3) := by decide +kernel
theorem dX8_standMany_33 : decode cX8_standMany 33 = .ok (.iload_n 2, 1) := by decide +kernel
theorem dX8_standMany_34 : decode cX8_standMany 34 = .ok (.ireturn, 1) := by decide +kernel
theorem dX8_ownMany_0 : decode cX8_ownMany 0 = .ok (.iconst 0, 1) := by decide +kernel
theorem dX8_ownMany_1 : decode cX8_ownMany 1 = .ok (.istore_n 2, 1) := by decide +kernel
theorem dX8_ownMany_2 : decode cX8_ownMany 2 = .ok (.iconst 0, 1) := by decide +kernel
theorem dX8_ownMany_3 : decode cX8_ownMany 3 = .ok (.istore_n 3, 1) := by decide +kernel
theorem dX8_ownMany_4 : decode cX8_ownMany 4 = .ok (.iload_n 3, 1) := by decide +kernel
theorem dX8_ownMany_5 : decode cX8_ownMany 5 = .ok (.bipush 60, 2) := by decide +kernel
theorem dX8_ownMany_7 : decode cX8_ownMany 7 = .ok (.if_icmp .ge 27, 3) := by decide +kernel
theorem dX8_ownMany_10 : decode cX8_ownMany 10 = .ok (.iload_n 2, 1) := by decide +kernel
theorem dX8_ownMany_11 : decode cX8_ownMany 11 = .ok (.aload_n 0, 1) := by decide +kernel
theorem dX8_ownMany_12 : decode cX8_ownMany 12 = .ok (.getfield 13, 3) := by decide +kernel
theorem dX8_ownMany_15 : decode cX8_ownMany 15 = .ok (.iload_n 3, 1) := by decide +kernel
theorem dX8_ownMany_16 : decode cX8_ownMany 16 = .ok (.iaload, 1) := by decide +kernel
theorem dX8_ownMany_17 : decode cX8_ownMany 17 = .ok (.iload_n 1, 1) := by decide +kernel
theorem dX8_ownMany_18 : decode cX8_ownMany 18 = .ok (.if_icmp .ne 7, 3) := by decide +kernel
theorem dX8_ownMany_21 : decode cX8_ownMany 21 = .ok (.iconst 1, 1) := by decide +kernel
theorem dX8_ownMany_22 : decode cX8_ownMany 22 = .ok (.goto 4, 3) := by decide +kernel
theorem dX8_ownMany_25 : decode cX8_ownMany 25 = .ok (.iconst 0, 1) := by decide +kernel
theorem dX8_ownMany_26 : decode cX8_ownMany 26 = .ok (.iadd, 1) := by decide +kernel
theorem dX8_ownMany_27 : decode cX8_ownMany 27 = .ok (.istore_n 2, 1) := by decide +kernel
theorem dX8_ownMany_28 : decode cX8_ownMany 28 = .ok (.iinc 3 1, 3) := by decide +kernel
theorem dX8_ownMany_31 : decode cX8_ownMany 31 = .ok (.goto (-27), 3) := by decide +kernel
theorem dX8_ownMany_34 : decode cX8_ownMany 34 = .ok (.iload_n 2, 1) := by decide +kernel
theorem dX8_ownMany_35 : decode cX8_ownMany 35 = .ok (.ireturn, 1) := by decide +kernel
set_option maxRecDepth 20000 in
theorem ggX8_person_X8_isPerson : GoodIn wsX8_person wsX8_isPerson := goodIn_r _ [7, 1, 8, 9, 6, 10, 47, 48, 49, 50, 51, 52, 53, 54, 55, 56, 57, 58, 59, 60, 61, 62, 63, 64] (by decide +kernel) (by decide +kernel)
set_option maxRecDepth 20000 in
theorem gX8_person_X8_isPerson : GoodIn wsX8_person (wsV RX8 145 RX8 yX8_isPerson wsX8_isPerson) := goodIn_app (goodIn_of _ (by decide +kernel)) ggX8_person_X8_isPerson
set_option maxRecDepth 20000 in
theorem ggX8_person_X8_standMany : GoodIn wsX8_person wsX8_standMany := goodIn_r _ [14, 15, 16, 17, 6, 18, 2, 1, 19, 20, 21, 22, 23, 24, 25, 26, 8, 9, 10, 47, 48, 49, 50, 51, 52, 53, 54, 55, 56, 57, 58, 59, 60, 61, 62, 63, 64] (by decide +kernel) (by decide +kernel)
set_option maxRecDepth 20000 in
theorem gX8_person_X8_standMany : GoodIn wsX8_person (wsV RX8 148 RX8 yX8_standMany wsX8_standMany) := goodIn_app (goodIn_of _ (by decide +kernel)) ggX8_person_X8_standMany
set_option maxRecDepth 20000 in
theorem ggX8_person_X8_thereBy : GoodIn wsX8_person wsX8_thereBy := goodIn_r _ [22, 2, 23, 24, 25, 6, 26, 1, 47, 48, 49, 50, 51, 52, 53, 54, 55, 56, 57, 58, 59, 60, 61, 62, 63, 64] (by decide +kernel) (by decide +kernel)
set_option maxRecDepth 20000 in
theorem gX8_person_X8_thereBy : GoodIn wsX8_person (wsV RX8 130 RX8 yX8_thereBy wsX8_thereBy) := goodIn_app (goodIn_of _ (by decide +kernel)) ggX8_person_X8_thereBy
set_option maxRecDepth 20000 in
theorem ggX8_person_X8_fineOf : GoodIn wsX8_person wsX8_fineOf := goodIn_r _ [30, 2, 31, 32, 33, 6, 34, 15, 16, 17, 18, 1, 19, 20, 21, 22, 23, 24, 25, 26, 8, 9, 10, 35, 36, 37, 38, 39, 40, 41, 42, 47, 48, 49, 50, 51, 52, 53, 54, 55, 56, 57, 58, 59, 60, 61, 62, 63, 64] (by decide +kernel) (by decide +kernel)
set_option maxRecDepth 20000 in
theorem gX8_person_X8_fineOf : GoodIn wsX8_person (wsV RX8 151 RX8 yX8_fineOf wsX8_fineOf) := goodIn_app (goodIn_of _ (by decide +kernel)) ggX8_person_X8_fineOf
set_option maxRecDepth 20000 in
theorem ggX8_person_X8_ownMany : GoodIn wsX8_person wsX8_ownMany := goodIn_r _ [46, 2, 47, 48, 49, 50, 51, 52, 53, 54, 55, 56, 57, 58, 59, 60, 61, 62, 63, 64] (by decide +kernel) (by decide +kernel)
set_option maxRecDepth 20000 in
theorem gX8_person_X8_ownMany : GoodIn wsX8_person (wsV RX8 154 RX8 yX8_ownMany wsX8_ownMany) := goodIn_app (goodIn_of _ (by decide +kernel)) ggX8_person_X8_ownMany
theorem dX8_person_0 : decode cX8_person 0 = .ok (.aload_n 0, 1) := by decide +kernel
theorem dX8_person_1 : decode cX8_person 1 = .ok (.iload_n 1, 1) := by decide +kernel
theorem dX8_person_2 : decode cX8_person 2 = .ok (.invokevirtual 145, 3) := by decide +kernel
theorem dX8_person_5 : decode cX8_person 5 = .ok (.ifCond .ne 6, 3) := by decide +kernel
theorem dX8_person_8 : decode cX8_person 8 = .ok (.bipush (-2), 2) := by decide +kernel
theorem dX8_person_10 : decode cX8_person 10 = .ok (.ireturn, 1) := by decide +kernel
theorem dX8_person_11 : decode cX8_person 11 = .ok (.iload_n 2, 1) := by decide +kernel
theorem dX8_person_12 : decode cX8_person 12 = .ok (.tableswitch 160 0 9 #[56, 65, 75, 85, 95, 105, 115, 142, 148, 154], 56) := by decide +kernel
theorem dX8_person_68 : decode cX8_person 68 = .ok (.aload_n 0, 1) := by decide +kernel
theorem dX8_person_69 : decode cX8_person 69 = .ok (.getfield 7, 3) := by decide +kernel
theorem dX8_person_72 : decode cX8_person 72 = .ok (.iconst 1, 1) := by decide +kernel
theorem dX8_person_73 : decode cX8_person 73 = .ok (.iload_n 1, 1) := by decide +kernel
theorem dX8_person_74 : decode cX8_person 74 = .ok (.iadd, 1) := by decide +kernel
theorem dX8_person_75 : decode cX8_person 75 = .ok (.iaload, 1) := by decide +kernel
theorem dX8_person_76 : decode cX8_person 76 = .ok (.ireturn, 1) := by decide +kernel
theorem dX8_person_77 : decode cX8_person 77 = .ok (.aload_n 0, 1) := by decide +kernel
theorem dX8_person_78 : decode cX8_person 78 = .ok (.getfield 7, 3) := by decide +kernel
theorem dX8_person_81 : decode cX8_person 81 = .ok (.bipush 7, 2) := by decide +kernel
theorem dX8_person_83 : decode cX8_person 83 = .ok (.iload_n 1, 1) := by decide +kernel
theorem dX8_person_84 : decode cX8_person 84 = .ok (.iadd, 1) := by decide +kernel
theorem dX8_person_85 : decode cX8_person 85 = .ok (.iaload, 1) := by decide +kernel
theorem dX8_person_86 : decode cX8_person 86 = .ok (.ireturn, 1) := by decide +kernel
theorem dX8_person_87 : decode cX8_person 87 = .ok (.aload_n 0, 1) := by decide +kernel
theorem dX8_person_88 : decode cX8_person 88 = .ok (.getfield 7, 3) := by decide +kernel
theorem dX8_person_91 : decode cX8_person 91 = .ok (.bipush 13, 2) := by decide +kernel
theorem dX8_person_93 : decode cX8_person 93 = .ok (.iload_n 1, 1) := by decide +kernel
theorem dX8_person_94 : decode cX8_person 94 = .ok (.iadd, 1) := by decide +kernel
theorem dX8_person_95 : decode cX8_person 95 = .ok (.iaload, 1) := by decide +kernel
theorem dX8_person_96 : decode cX8_person 96 = .ok (.ireturn, 1) := by decide +kernel
theorem dX8_person_97 : decode cX8_person 97 = .ok (.aload_n 0, 1) := by decide +kernel
theorem dX8_person_98 : decode cX8_person 98 = .ok (.getfield 7, 3) := by decide +kernel
theorem dX8_person_101 : decode cX8_person 101 = .ok (.bipush 19, 2) := by decide +kernel
theorem dX8_person_103 : decode cX8_person 103 = .ok (.iload_n 1, 1) := by decide +kernel
theorem dX8_person_104 : decode cX8_person 104 = .ok (.iadd, 1) := by decide +kernel
theorem dX8_person_105 : decode cX8_person 105 = .ok (.iaload, 1) := by decide +kernel
theorem dX8_person_106 : decode cX8_person 106 = .ok (.ireturn, 1) := by decide +kernel
theorem dX8_person_107 : decode cX8_person 107 = .ok (.aload_n 0, 1) := by decide +kernel
theorem dX8_person_108 : decode cX8_person 108 = .ok (.getfield 13, 3) := by decide +kernel
theorem dX8_person_111 : decode cX8_person 111 = .ok (.bipush 60, 2) := by decide +kernel
theorem dX8_person_113 : decode cX8_person 113 = .ok (.iload_n 1, 1) := by decide +kernel
theorem dX8_person_114 : decode cX8_person 114 = .ok (.iadd, 1) := by decide +kernel
theorem dX8_person_115 : decode cX8_person 115 = .ok (.iaload, 1) := by decide +kernel
theorem dX8_person_116 : decode cX8_person 116 = .ok (.ireturn, 1) := by decide +kernel
theorem dX8_person_117 : decode cX8_person 117 = .ok (.aload_n 0, 1) := by decide +kernel
theorem dX8_person_118 : decode cX8_person 118 = .ok (.getfield 13, 3) := by decide +kernel
theorem dX8_person_121 : decode cX8_person 121 = .ok (.bipush 66, 2) := by decide +kernel
theorem dX8_person_123 : decode cX8_person 123 = .ok (.iload_n 1, 1) := by decide +kernel
theorem dX8_person_124 : decode cX8_person 124 = .ok (.iadd, 1) := by decide +kernel
theorem dX8_person_125 : decode cX8_person 125 = .ok (.iaload, 1) := by decide +kernel
theorem dX8_person_126 : decode cX8_person 126 = .ok (.ireturn, 1) := by decide +kernel
theorem dX8_person_127 : decode cX8_person 127 = .ok (.aload_n 0, 1) := by decide +kernel
theorem dX8_person_128 : decode cX8_person 128 = .ok (.iload_n 1, 1) := by decide +kernel
theorem dX8_person_129 : decode cX8_person 129 = .ok (.invokevirtual 148, 3) := by decide +kernel
theorem dX8_person_132 : decode cX8_person 132 = .ok (.ifCond .ne 7, 3) := by decide +kernel
theorem dX8_person_135 : decode cX8_person 135 = .ok (.iconst (-1), 1) := by decide +kernel
theorem dX8_person_136 : decode cX8_person 136 = .ok (.goto 17, 3) := by decide +kernel
theorem dX8_person_139 : decode cX8_person 139 = .ok (.aload_n 0, 1) := by decide +kernel
theorem dX8_person_140 : decode cX8_person 140 = .ok (.iload_n 1, 1) := by decide +kernel
theorem dX8_person_141 : decode cX8_person 141 = .ok (.aload_n 0, 1) := by decide +kernel
theorem dX8_person_142 : decode cX8_person 142 = .ok (.getfield 13, 3) := by decide +kernel
theorem dX8_person_145 : decode cX8_person 145 = .ok (.bipush 60, 2) := by decide +kernel
theorem dX8_person_147 : decode cX8_person 147 = .ok (.iload_n 1, 1) := by decide +kernel
theorem dX8_person_148 : decode cX8_person 148 = .ok (.iadd, 1) := by decide +kernel
theorem dX8_person_149 : decode cX8_person 149 = .ok (.iaload, 1) := by decide +kernel
theorem dX8_person_150 : decode cX8_person 150 = .ok (.invokevirtual 130, 3) := by decide +kernel
theorem dX8_person_153 : decode cX8_person 153 = .ok (.ireturn, 1) := by decide +kernel
theorem dX8_person_154 : decode cX8_person 154 = .ok (.aload_n 0, 1) := by decide +kernel
theorem dX8_person_155 : decode cX8_person 155 = .ok (.iload_n 1, 1) := by decide +kernel
theorem dX8_person_156 : decode cX8_person 156 = .ok (.invokevirtual 148, 3) := by decide +kernel
theorem dX8_person_159 : decode cX8_person 159 = .ok (.ireturn, 1) := by decide +kernel
theorem dX8_person_160 : decode cX8_person 160 = .ok (.aload_n 0, 1) := by decide +kernel
theorem dX8_person_161 : decode cX8_person 161 = .ok (.iload_n 1, 1) := by decide +kernel
theorem dX8_person_162 : decode cX8_person 162 = .ok (.invokevirtual 151, 3) := by decide +kernel
theorem dX8_person_165 : decode cX8_person 165 = .ok (.ireturn, 1) := by decide +kernel
theorem dX8_person_166 : decode cX8_person 166 = .ok (.aload_n 0, 1) := by decide +kernel
theorem dX8_person_167 : decode cX8_person 167 = .ok (.iload_n 1, 1) := by decide +kernel
theorem dX8_person_168 : decode cX8_person 168 = .ok (.invokevirtual 154, 3) := by decide +kernel
theorem dX8_person_171 : decode cX8_person 171 = .ok (.ireturn, 1) := by decide +kernel
theorem dX8_person_172 : decode cX8_person 172 = .ok (.bipush (-3), 2) := by decide +kernel
theorem dX8_person_174 : decode cX8_person 174 = .ok (.ireturn, 1) := by decide +kernel
set_option maxRecDepth 20000 in
theorem ggX8_second_X8_in : GoodIn wsX8_second wsX8_in := goodIn_r _ [8] (by decide +kernel) (by decide +kernel)
set_option maxRecDepth 20000 in
theorem gX8_second_X8_in : GoodIn wsX8_second (va_wsS RX8 44 yX8_in wsX8_in) := goodIn_app (goodIn_of _ (by decide +kernel)) ggX8_second_X8_in
set_option maxRecDepth 20000 in
theorem ggX8_second_X8_standsIn : GoodIn wsX8_second wsX8_standsIn := goodIn_r _ [12, 4, 3, 13, 14, 15, 7, 16, 17, 18, 19, 20, 5, 6, 8, 21, 22, 23, 24, 25, 26, 27, 28, 29, 30, 31, 32, 33, 34, 35, 36, 37, 38] (by decide +kernel) (by decide +kernel)
set_option maxRecDepth 20000 in
theorem gX8_second_X8_standsIn : GoodIn wsX8_second (wsV RX8 136 RX8 yX8_standsIn wsX8_standsIn) := goodIn_app (goodIn_of _ (by decide +kernel)) ggX8_second_X8_standsIn
theorem dX8_second_0 : decode cX8_second 0 = .ok (.iload_n 1, 1) := by decide +kernel
theorem dX8_second_1 : decode cX8_second 1 = .ok (.i2l, 1) := by decide +kernel
theorem dX8_second_2 : decode cX8_second 2 = .ok (.lconst 0, 1) := by decide +kernel
theorem dX8_second_3 : decode cX8_second 3 = .ok (.ldc2_w 157, 3) := by decide +kernel
theorem dX8_second_6 : decode cX8_second 6 = .ok (.invokestatic 44, 3) := by decide +kernel
theorem dX8_second_9 : decode cX8_second 9 = .ok (.ifCond .eq 15, 3) := by decide +kernel
theorem dX8_second_12 : decode cX8_second 12 = .ok (.iload_n 2, 1) := by decide +kernel
theorem dX8_second_13 : decode cX8_second 13 = .ok (.i2l, 1) := by decide +kernel
theorem dX8_second_14 : decode cX8_second 14 = .ok (.lconst 0, 1) := by decide +kernel
theorem dX8_second_15 : decode cX8_second 15 = .ok (.ldc2_w 159, 3) := by decide +kernel
theorem dX8_second_18 : decode cX8_second 18 = .ok (.invokestatic 44, 3) := by decide +kernel
theorem dX8_second_21 : decode cX8_second 21 = .ok (.ifCond .ne 6, 3) := by decide +kernel
theorem dX8_second_24 : decode cX8_second 24 = .ok (.bipush (-3), 2) := by decide +kernel
theorem dX8_second_26 : decode cX8_second 26 = .ok (.ireturn, 1) := by decide +kernel
theorem dX8_second_27 : decode cX8_second 27 = .ok (.iconst 0, 1) := by decide +kernel
theorem dX8_second_28 : decode cX8_second 28 = .ok (.istore_n 3, 1) := by decide +kernel
theorem dX8_second_29 : decode cX8_second 29 = .ok (.iconst 0, 1) := by decide +kernel
theorem dX8_second_30 : decode cX8_second 30 = .ok (.istore 4, 2) := by decide +kernel
theorem dX8_second_32 : decode cX8_second 32 = .ok (.iload 4, 2) := by decide +kernel
theorem dX8_second_34 : decode cX8_second 34 = .ok (.aload_n 0, 1) := by decide +kernel
theorem dX8_second_35 : decode cX8_second 35 = .ok (.getfield 7, 3) := by decide +kernel
theorem dX8_second_38 : decode cX8_second 38 = .ok (.iconst 0, 1) := by decide +kernel
theorem dX8_second_39 : decode cX8_second 39 = .ok (.iaload, 1) := by decide +kernel
theorem dX8_second_40 : decode cX8_second 40 = .ok (.if_icmp .ge 30, 3) := by decide +kernel
theorem dX8_second_43 : decode cX8_second 43 = .ok (.iload_n 3, 1) := by decide +kernel
theorem dX8_second_44 : decode cX8_second 44 = .ok (.aload_n 0, 1) := by decide +kernel
theorem dX8_second_45 : decode cX8_second 45 = .ok (.iload 4, 2) := by decide +kernel
theorem dX8_second_47 : decode cX8_second 47 = .ok (.iload_n 1, 1) := by decide +kernel
theorem dX8_second_48 : decode cX8_second 48 = .ok (.invokevirtual 136, 3) := by decide +kernel
theorem dX8_second_51 : decode cX8_second 51 = .ok (.ifCond .eq 10, 3) := by decide +kernel
theorem dX8_second_54 : decode cX8_second 54 = .ok (.iconst 1, 1) := by decide +kernel
theorem dX8_second_55 : decode cX8_second 55 = .ok (.iload 4, 2) := by decide +kernel
theorem dX8_second_57 : decode cX8_second 57 = .ok (.ishl, 1) := by decide +kernel
theorem dX8_second_58 : decode cX8_second 58 = .ok (.goto 4, 3) := by decide +kernel
theorem dX8_second_61 : decode cX8_second 61 = .ok (.iconst 0, 1) := by decide +kernel
theorem dX8_second_62 : decode cX8_second 62 = .ok (.ior, 1) := by decide +kernel
theorem dX8_second_63 : decode cX8_second 63 = .ok (.istore_n 3, 1) := by decide +kernel
theorem dX8_second_64 : decode cX8_second 64 = .ok (.iinc 4 1, 3) := by decide +kernel
theorem dX8_second_67 : decode cX8_second 67 = .ok (.goto (-35), 3) := by decide +kernel
theorem dX8_second_70 : decode cX8_second 70 = .ok (.iload_n 2, 1) := by decide +kernel
theorem dX8_second_71 : decode cX8_second 71 = .ok (.ifCond .ne 12, 3) := by decide +kernel
theorem dX8_second_74 : decode cX8_second 74 = .ok (.aload_n 0, 1) := by decide +kernel
theorem dX8_second_75 : decode cX8_second 75 = .ok (.getfield 13, 3) := by decide +kernel
theorem dX8_second_78 : decode cX8_second 78 = .ok (.iload_n 1, 1) := by decide +kernel
theorem dX8_second_79 : decode cX8_second 79 = .ok (.iaload, 1) := by decide +kernel
theorem dX8_second_80 : decode cX8_second 80 = .ok (.goto 21, 3) := by decide +kernel
theorem dX8_second_83 : decode cX8_second 83 = .ok (.iload_n 2, 1) := by decide +kernel
theorem dX8_second_84 : decode cX8_second 84 = .ok (.iconst 1, 1) := by decide +kernel
theorem dX8_second_85 : decode cX8_second 85 = .ok (.if_icmp .ne 15, 3) := by decide +kernel
theorem dX8_second_88 : decode cX8_second 88 = .ok (.aload_n 0, 1) := by decide +kernel
theorem dX8_second_89 : decode cX8_second 89 = .ok (.getfield 7, 3) := by decide +kernel
theorem dX8_second_92 : decode cX8_second 92 = .ok (.bipush 85, 2) := by decide +kernel
theorem dX8_second_94 : decode cX8_second 94 = .ok (.iload_n 1, 1) := by decide +kernel
theorem dX8_second_95 : decode cX8_second 95 = .ok (.iadd, 1) := by decide +kernel
theorem dX8_second_96 : decode cX8_second 96 = .ok (.iaload, 1) := by decide +kernel
theorem dX8_second_97 : decode cX8_second 97 = .ok (.goto 4, 3) := by decide +kernel
theorem dX8_second_100 : decode cX8_second 100 = .ok (.iload_n 3, 1) := by decide +kernel
theorem dX8_second_101 : decode cX8_second 101 = .ok (.ireturn, 1) := by decide +kernel
set_option maxRecDepth 20000 in
theorem ggX8_as_X8_isPerson : GoodIn wsX8_as wsX8_isPerson := goodIn_r _ [7, 2, 8, 9, 6, 10, 19, 20, 21, 22, 23, 24, 25, 26, 27, 28, 29, 30, 31, 32, 33, 34, 35, 36] (by decide +kernel) (by decide +kernel)
set_option maxRecDepth 20000 in
theorem gX8_as_X8_isPerson : GoodIn wsX8_as (wsV RX8 145 RX8 yX8_isPerson wsX8_isPerson) := goodIn_app (goodIn_of _ (by decide +kernel)) ggX8_as_X8_isPerson
set_option maxRecDepth 20000 in
theorem ggX8_as_X8_in : GoodIn wsX8_as wsX8_in := goodIn_r _ [10] (by decide +kernel) (by decide +kernel)
set_option maxRecDepth 20000 in
theorem gX8_as_X8_in : GoodIn wsX8_as (va_wsS RX8 44 yX8_in wsX8_in) := goodIn_app (goodIn_of _ (by decide +kernel)) ggX8_as_X8_in
set_option maxRecDepth 20000 in
theorem ggX8_as_X8_costOf : GoodIn wsX8_as wsX8_costOf := goodIn_r _ [14, 2, 19, 20, 21, 22, 23, 24, 25, 26, 27, 28, 29, 30, 31, 32, 33, 34, 35, 36] (by decide +kernel) (by decide +kernel)
set_option maxRecDepth 20000 in
theorem gX8_as_X8_costOf : GoodIn wsX8_as (wsV RX8 133 RX8 yX8_costOf wsX8_costOf) := goodIn_app (goodIn_of _ (by decide +kernel)) ggX8_as_X8_costOf
set_option maxRecDepth 20000 in
theorem ggX8_as_X8_walkOf : GoodIn wsX8_as wsX8_walkOf := goodIn_r _ [18, 2, 19, 20, 21, 22, 23, 24, 25, 26, 27, 28, 29, 30, 31, 32, 33, 34, 35, 36] (by decide +kernel) (by decide +kernel)
set_option maxRecDepth 20000 in
theorem gX8_as_X8_walkOf : GoodIn wsX8_as (wsV RX8 127 RX8 yX8_walkOf wsX8_walkOf) := goodIn_app (goodIn_of _ (by decide +kernel)) ggX8_as_X8_walkOf
theorem dX8_as_0 : decode cX8_as 0 = .ok (.aload_n 0, 1) := by decide +kernel
theorem dX8_as_1 : decode cX8_as 1 = .ok (.iload_n 1, 1) := by decide +kernel
theorem dX8_as_2 : decode cX8_as 2 = .ok (.invokevirtual 145, 3) := by decide +kernel
theorem dX8_as_5 : decode cX8_as 5 = .ok (.ifCond .ne 6, 3) := by decide +kernel
theorem dX8_as_8 : decode cX8_as 8 = .ok (.bipush (-2), 2) := by decide +kernel
theorem dX8_as_10 : decode cX8_as 10 = .ok (.ireturn, 1) := by decide +kernel
theorem dX8_as_11 : decode cX8_as 11 = .ok (.iload_n 2, 1) := by decide +kernel
theorem dX8_as_12 : decode cX8_as 12 = .ok (.i2l, 1) := by decide +kernel
theorem dX8_as_13 : decode cX8_as 13 = .ok (.lconst 0, 1) := by decide +kernel
theorem dX8_as_14 : decode cX8_as 14 = .ok (.ldc2_w 161, 3) := by decide +kernel
theorem dX8_as_17 : decode cX8_as 17 = .ok (.invokestatic 44, 3) := by decide +kernel
theorem dX8_as_20 : decode cX8_as 20 = .ok (.ifCond .ne 6, 3) := by decide +kernel
theorem dX8_as_23 : decode cX8_as 23 = .ok (.bipush (-3), 2) := by decide +kernel
theorem dX8_as_25 : decode cX8_as 25 = .ok (.ireturn, 1) := by decide +kernel
theorem dX8_as_26 : decode cX8_as 26 = .ok (.aload_n 0, 1) := by decide +kernel
theorem dX8_as_27 : decode cX8_as 27 = .ok (.getfield 7, 3) := by decide +kernel
theorem dX8_as_30 : decode cX8_as 30 = .ok (.iconst 1, 1) := by decide +kernel
theorem dX8_as_31 : decode cX8_as 31 = .ok (.iload_n 1, 1) := by decide +kernel
theorem dX8_as_32 : decode cX8_as 32 = .ok (.iadd, 1) := by decide +kernel
theorem dX8_as_33 : decode cX8_as 33 = .ok (.iaload, 1) := by decide +kernel
theorem dX8_as_34 : decode cX8_as 34 = .ok (.istore_n 3, 1) := by decide +kernel
theorem dX8_as_35 : decode cX8_as 35 = .ok (.iload_n 2, 1) := by decide +kernel
theorem dX8_as_36 : decode cX8_as 36 = .ok (.ifCond .eq 25, 3) := by decide +kernel
theorem dX8_as_39 : decode cX8_as 39 = .ok (.iload_n 2, 1) := by decide +kernel
theorem dX8_as_40 : decode cX8_as 40 = .ok (.iconst 1, 1) := by decide +kernel
theorem dX8_as_41 : decode cX8_as 41 = .ok (.if_icmp .ne 8, 3) := by decide +kernel
theorem dX8_as_44 : decode cX8_as 44 = .ok (.iload_n 3, 1) := by decide +kernel
theorem dX8_as_45 : decode cX8_as 45 = .ok (.iconst 3, 1) := by decide +kernel
theorem dX8_as_46 : decode cX8_as 46 = .ok (.if_icmp .lt 15, 3) := by decide +kernel
theorem dX8_as_49 : decode cX8_as 49 = .ok (.iload_n 2, 1) := by decide +kernel
theorem dX8_as_50 : decode cX8_as 50 = .ok (.iconst 1, 1) := by decide +kernel
theorem dX8_as_51 : decode cX8_as 51 = .ok (.if_icmp .le 14, 3) := by decide +kernel
theorem dX8_as_54 : decode cX8_as 54 = .ok (.iload_n 3, 1) := by decide +kernel
theorem dX8_as_55 : decode cX8_as 55 = .ok (.iload_n 2, 1) := by decide +kernel
theorem dX8_as_56 : decode cX8_as 56 = .ok (.iconst 1, 1) := by decide +kernel
theorem dX8_as_57 : decode cX8_as 57 = .ok (.isub, 1) := by decide +kernel
theorem dX8_as_58 : decode cX8_as 58 = .ok (.if_icmp .ne 7, 3) := by decide +kernel
theorem dX8_as_61 : decode cX8_as 61 = .ok (.iconst 1, 1) := by decide +kernel
theorem dX8_as_62 : decode cX8_as 62 = .ok (.goto 4, 3) := by decide +kernel
theorem dX8_as_65 : decode cX8_as 65 = .ok (.iconst 0, 1) := by decide +kernel
theorem dX8_as_66 : decode cX8_as 66 = .ok (.istore 4, 2) := by decide +kernel
theorem dX8_as_68 : decode cX8_as 68 = .ok (.iload 4, 2) := by decide +kernel
theorem dX8_as_70 : decode cX8_as 70 = .ok (.ifCond .eq 20, 3) := by decide +kernel
theorem dX8_as_73 : decode cX8_as 73 = .ok (.bipush 100, 2) := by decide +kernel
theorem dX8_as_75 : decode cX8_as 75 = .ok (.aload_n 0, 1) := by decide +kernel
theorem dX8_as_76 : decode cX8_as 76 = .ok (.iload_n 1, 1) := by decide +kernel
theorem dX8_as_77 : decode cX8_as 77 = .ok (.invokevirtual 133, 3) := by decide +kernel
theorem dX8_as_80 : decode cX8_as 80 = .ok (.imul, 1) := by decide +kernel
theorem dX8_as_81 : decode cX8_as 81 = .ok (.aload_n 0, 1) := by decide +kernel
theorem dX8_as_82 : decode cX8_as 82 = .ok (.iload_n 1, 1) := by decide +kernel
theorem dX8_as_83 : decode cX8_as 83 = .ok (.invokevirtual 127, 3) := by decide +kernel
theorem dX8_as_86 : decode cX8_as 86 = .ok (.iadd, 1) := by decide +kernel
theorem dX8_as_87 : decode cX8_as 87 = .ok (.goto 5, 3) := by decide +kernel
theorem dX8_as_90 : decode cX8_as 90 = .ok (.bipush (-4), 2) := by decide +kernel
theorem dX8_as_92 : decode cX8_as 92 = .ok (.ireturn, 1) := by decide +kernel
theorem dX8_note_0 : decode cX8_note 0 = .ok (.aload_n 0, 1) := by decide +kernel
theorem dX8_note_1 : decode cX8_note 1 = .ok (.getfield 124, 3) := by decide +kernel
theorem dX8_note_4 : decode cX8_note 4 = .ok (.bipush 8, 2) := by decide +kernel
theorem dX8_note_6 : decode cX8_note 6 = .ok (.if_icmp .ne 43, 3) := by decide +kernel
theorem dX8_note_9 : decode cX8_note 9 = .ok (.iconst 0, 1) := by decide +kernel
theorem dX8_note_10 : decode cX8_note 10 = .ok (.istore_n 1, 1) := by decide +kernel
theorem dX8_note_11 : decode cX8_note 11 = .ok (.iload_n 1, 1) := by decide +kernel
theorem dX8_note_12 : decode cX8_note 12 = .ok (.sipush 511, 3) := by decide +kernel
theorem dX8_note_15 : decode cX8_note 15 = .ok (.if_icmp .ge 24, 3) := by decide +kernel
theorem dX8_note_18 : decode cX8_note 18 = .ok (.aload_n 0, 1) := by decide +kernel
theorem dX8_note_19 : decode cX8_note 19 = .ok (.getfield 22, 3) := by decide +kernel
theorem dX8_note_22 : decode cX8_note 22 = .ok (.iload_n 1, 1) := by decide +kernel
theorem dX8_note_23 : decode cX8_note 23 = .ok (.aload_n 0, 1) := by decide +kernel
theorem dX8_note_24 : decode cX8_note 24 = .ok (.getfield 22, 3) := by decide +kernel
theorem dX8_note_27 : decode cX8_note 27 = .ok (.iload_n 1, 1) := by decide +kernel
theorem dX8_note_28 : decode cX8_note 28 = .ok (.bipush 73, 2) := by decide +kernel
theorem dX8_note_30 : decode cX8_note 30 = .ok (.iadd, 1) := by decide +kernel
theorem dX8_note_31 : decode cX8_note 31 = .ok (.iaload, 1) := by decide +kernel
theorem dX8_note_32 : decode cX8_note 32 = .ok (.iastore, 1) := by decide +kernel
theorem dX8_note_33 : decode cX8_note 33 = .ok (.iinc 1 1, 3) := by decide +kernel
theorem dX8_note_36 : decode cX8_note 36 = .ok (.goto (-25), 3) := by decide +kernel
theorem dX8_note_39 : decode cX8_note 39 = .ok (.aload_n 0, 1) := by decide +kernel
theorem dX8_note_40 : decode cX8_note 40 = .ok (.dup, 1) := by decide +kernel
theorem dX8_note_41 : decode cX8_note 41 = .ok (.getfield 124, 3) := by decide +kernel
theorem dX8_note_44 : decode cX8_note 44 = .ok (.iconst 1, 1) := by decide +kernel
theorem dX8_note_45 : decode cX8_note 45 = .ok (.isub, 1) := by decide +kernel
theorem dX8_note_46 : decode cX8_note 46 = .ok (.putfield 124, 3) := by decide +kernel
theorem dX8_note_49 : decode cX8_note 49 = .ok (.iconst 0, 1) := by decide +kernel
theorem dX8_note_50 : decode cX8_note 50 = .ok (.istore_n 1, 1) := by decide +kernel
theorem dX8_note_51 : decode cX8_note 51 = .ok (.iload_n 1, 1) := by decide +kernel
theorem dX8_note_52 : decode cX8_note 52 = .ok (.bipush 73, 2) := by decide +kernel
theorem dX8_note_54 : decode cX8_note 54 = .ok (.if_icmp .ge 29, 3) := by decide +kernel
theorem dX8_note_57 : decode cX8_note 57 = .ok (.aload_n 0, 1) := by decide +kernel
theorem dX8_note_58 : decode cX8_note 58 = .ok (.getfield 22, 3) := by decide +kernel
theorem dX8_note_61 : decode cX8_note 61 = .ok (.bipush 73, 2) := by decide +kernel
theorem dX8_note_63 : decode cX8_note 63 = .ok (.aload_n 0, 1) := by decide +kernel
theorem dX8_note_64 : decode cX8_note 64 = .ok (.getfield 124, 3) := by decide +kernel
theorem dX8_note_67 : decode cX8_note 67 = .ok (.imul, 1) := by decide +kernel
theorem dX8_note_68 : decode cX8_note 68 = .ok (.iload_n 1, 1) := by decide +kernel
theorem dX8_note_69 : decode cX8_note 69 = .ok (.iadd, 1) := by decide +kernel
theorem dX8_note_70 : decode cX8_note 70 = .ok (.aload_n 0, 1) := by decide +kernel
theorem dX8_note_71 : decode cX8_note 71 = .ok (.getfield 13, 3) := by decide +kernel
theorem dX8_note_74 : decode cX8_note 74 = .ok (.iload_n 1, 1) := by decide +kernel
theorem dX8_note_75 : decode cX8_note 75 = .ok (.iaload, 1) := by decide +kernel
theorem dX8_note_76 : decode cX8_note 76 = .ok (.iastore, 1) := by decide +kernel
theorem dX8_note_77 : decode cX8_note 77 = .ok (.iinc 1 1, 3) := by decide +kernel
theorem dX8_note_80 : decode cX8_note 80 = .ok (.goto (-29), 3) := by decide +kernel
theorem dX8_note_83 : decode cX8_note 83 = .ok (.aload_n 0, 1) := by decide +kernel
theorem dX8_note_84 : decode cX8_note 84 = .ok (.dup, 1) := by decide +kernel
theorem dX8_note_85 : decode cX8_note 85 = .ok (.getfield 124, 3) := by decide +kernel
theorem dX8_note_88 : decode cX8_note 88 = .ok (.iconst 1, 1) := by decide +kernel
theorem dX8_note_89 : decode cX8_note 89 = .ok (.iadd, 1) := by decide +kernel
theorem dX8_note_90 : decode cX8_note 90 = .ok (.putfield 124, 3) := by decide +kernel
theorem dX8_note_93 : decode cX8_note 93 = .ok (.return_, 1) := by decide +kernel
set_option maxRecDepth 20000 in
theorem ggX8_start_X8_isPerson : GoodIn wsX8_start wsX8_isPerson := goodIn_r _ [7, 8, 9, 10, 6, 11, 26, 27, 28, 29, 30, 31, 32, 33, 34, 35, 36, 37, 38, 39, 40, 41, 42, 43] (by decide +kernel) (by decide +kernel)
set_option maxRecDepth 20000 in
theorem gX8_start_X8_isPerson : GoodIn wsX8_start (wsV RX8 145 RX8 yX8_isPerson wsX8_isPerson) := goodIn_app (goodIn_of _ (by decide +kernel)) ggX8_start_X8_isPerson
set_option maxRecDepth 20000 in
theorem ggX8_start_X8_in : GoodIn wsX8_start wsX8_in := goodIn_r _ [11] (by decide +kernel) (by decide +kernel)
set_option maxRecDepth 20000 in
theorem gX8_start_X8_in : GoodIn wsX8_start (va_wsS RX8 44 yX8_in wsX8_in) := goodIn_app (goodIn_of _ (by decide +kernel)) ggX8_start_X8_in
set_option maxRecDepth 20000 in
theorem ggX8_start_X8_note : GoodIn wsX8_start wsX8_note := goodIn_r _ [15, 16, 17, 2, 26, 27, 28, 29, 30, 31, 32, 33, 34, 35, 36, 37, 38, 39, 40, 41, 42, 43] (by decide +kernel) (by decide +kernel)
set_option maxRecDepth 20000 in
theorem gX8_start_X8_note : GoodIn wsX8_start (wsV RX8 163 RX8 yX8_note wsX8_note) := goodIn_app (goodIn_of _ (by decide +kernel)) ggX8_start_X8_note
set_option maxRecDepth 20000 in
theorem ggX8_start_X8_thereBy : GoodIn wsX8_start wsX8_thereBy := goodIn_r _ [21, 2, 22, 23, 24, 6, 25, 8, 26, 27, 28, 29, 30, 31, 32, 33, 34, 35, 36, 37, 38, 39, 40, 41, 42, 43] (by decide +kernel) (by decide +kernel)
set_option maxRecDepth 20000 in
theorem gX8_start_X8_thereBy : GoodIn wsX8_start (wsV RX8 130 RX8 yX8_thereBy wsX8_thereBy) := goodIn_app (goodIn_of _ (by decide +kernel)) ggX8_start_X8_thereBy
theorem dX8_start_0 : decode cX8_start 0 = .ok (.aload_n 0, 1) := by decide +kernel
theorem dX8_start_1 : decode cX8_start 1 = .ok (.iload_n 1, 1) := by decide +kernel
theorem dX8_start_2 : decode cX8_start 2 = .ok (.invokevirtual 145, 3) := by decide +kernel
theorem dX8_start_5 : decode cX8_start 5 = .ok (.ifCond .ne 6, 3) := by decide +kernel
theorem dX8_start_8 : decode cX8_start 8 = .ok (.bipush (-2), 2) := by decide +kernel
theorem dX8_start_10 : decode cX8_start 10 = .ok (.ireturn, 1) := by decide +kernel
theorem dX8_start_11 : decode cX8_start 11 = .ok (.iload_n 2, 1) := by decide +kernel
theorem dX8_start_12 : decode cX8_start 12 = .ok (.i2l, 1) := by decide +kernel
theorem dX8_start_13 : decode cX8_start 13 = .ok (.lconst 0, 1) := by decide +kernel
theorem dX8_start_14 : decode cX8_start 14 = .ok (.ldc2_w 157, 3) := by decide +kernel
theorem dX8_start_17 : decode cX8_start 17 = .ok (.invokestatic 44, 3) := by decide +kernel
theorem dX8_start_20 : decode cX8_start 20 = .ok (.ifCond .ne 6, 3) := by decide +kernel
theorem dX8_start_23 : decode cX8_start 23 = .ok (.bipush (-3), 2) := by decide +kernel
theorem dX8_start_25 : decode cX8_start 25 = .ok (.ireturn, 1) := by decide +kernel
theorem dX8_start_26 : decode cX8_start 26 = .ok (.aload_n 0, 1) := by decide +kernel
theorem dX8_start_27 : decode cX8_start 27 = .ok (.invokevirtual 163, 3) := by decide +kernel
theorem dX8_start_30 : decode cX8_start 30 = .ok (.aload_n 0, 1) := by decide +kernel
theorem dX8_start_31 : decode cX8_start 31 = .ok (.getfield 13, 3) := by decide +kernel
theorem dX8_start_34 : decode cX8_start 34 = .ok (.bipush 60, 2) := by decide +kernel
theorem dX8_start_36 : decode cX8_start 36 = .ok (.iload_n 1, 1) := by decide +kernel
theorem dX8_start_37 : decode cX8_start 37 = .ok (.iadd, 1) := by decide +kernel
theorem dX8_start_38 : decode cX8_start 38 = .ok (.iload_n 2, 1) := by decide +kernel
theorem dX8_start_39 : decode cX8_start 39 = .ok (.iastore, 1) := by decide +kernel
theorem dX8_start_40 : decode cX8_start 40 = .ok (.aload_n 0, 1) := by decide +kernel
theorem dX8_start_41 : decode cX8_start 41 = .ok (.iload_n 1, 1) := by decide +kernel
theorem dX8_start_42 : decode cX8_start 42 = .ok (.iload_n 2, 1) := by decide +kernel
theorem dX8_start_43 : decode cX8_start 43 = .ok (.invokevirtual 130, 3) := by decide +kernel
theorem dX8_start_46 : decode cX8_start 46 = .ok (.ireturn, 1) := by decide +kernel
set_option maxRecDepth 20000 in
theorem ggX8_stays_X8_isPerson : GoodIn wsX8_stays wsX8_isPerson := goodIn_r _ [6, 7, 8, 9, 5, 10, 17, 18, 19, 20, 21, 22, 23, 24, 25, 26, 27, 28, 29, 30, 31, 32, 33, 34] (by decide +kernel) (by decide +kernel)
set_option maxRecDepth 20000 in
theorem gX8_stays_X8_isPerson : GoodIn wsX8_stays (wsV RX8 145 RX8 yX8_isPerson wsX8_isPerson) := goodIn_app (goodIn_of _ (by decide +kernel)) ggX8_stays_X8_isPerson
set_option maxRecDepth 20000 in
theorem ggX8_stays_X8_note : GoodIn wsX8_stays wsX8_note := goodIn_r _ [14, 15, 16, 1, 17, 18, 19, 20, 21, 22, 23, 24, 25, 26, 27, 28, 29, 30, 31, 32, 33, 34] (by decide +kernel) (by decide +kernel)
set_option maxRecDepth 20000 in
theorem gX8_stays_X8_note : GoodIn wsX8_stays (wsV RX8 163 RX8 yX8_note wsX8_note) := goodIn_app (goodIn_of _ (by decide +kernel)) ggX8_stays_X8_note
theorem dX8_stays_0 : decode cX8_stays 0 = .ok (.aload_n 0, 1) := by decide +kernel
theorem dX8_stays_1 : decode cX8_stays 1 = .ok (.iload_n 1, 1) := by decide +kernel
theorem dX8_stays_2 : decode cX8_stays 2 = .ok (.invokevirtual 145, 3) := by decide +kernel
theorem dX8_stays_5 : decode cX8_stays 5 = .ok (.ifCond .ne 6, 3) := by decide +kernel
theorem dX8_stays_8 : decode cX8_stays 8 = .ok (.bipush (-2), 2) := by decide +kernel
theorem dX8_stays_10 : decode cX8_stays 10 = .ok (.ireturn, 1) := by decide +kernel
theorem dX8_stays_11 : decode cX8_stays 11 = .ok (.aload_n 0, 1) := by decide +kernel
theorem dX8_stays_12 : decode cX8_stays 12 = .ok (.getfield 13, 3) := by decide +kernel
theorem dX8_stays_15 : decode cX8_stays 15 = .ok (.bipush 60, 2) := by decide +kernel
theorem dX8_stays_17 : decode cX8_stays 17 = .ok (.iload_n 1, 1) := by decide +kernel
theorem dX8_stays_18 : decode cX8_stays 18 = .ok (.iadd, 1) := by decide +kernel
theorem dX8_stays_19 : decode cX8_stays 19 = .ok (.iaload, 1) := by decide +kernel
theorem dX8_stays_20 : decode cX8_stays 20 = .ok (.istore_n 2, 1) := by decide +kernel
theorem dX8_stays_21 : decode cX8_stays 21 = .ok (.iload_n 2, 1) := by decide +kernel
theorem dX8_stays_22 : decode cX8_stays 22 = .ok (.ifCond .ge 6, 3) := by decide +kernel
theorem dX8_stays_25 : decode cX8_stays 25 = .ok (.bipush (-4), 2) := by decide +kernel
theorem dX8_stays_27 : decode cX8_stays 27 = .ok (.ireturn, 1) := by decide +kernel
theorem dX8_stays_28 : decode cX8_stays 28 = .ok (.aload_n 0, 1) := by decide +kernel
theorem dX8_stays_29 : decode cX8_stays 29 = .ok (.invokevirtual 163, 3) := by decide +kernel
theorem dX8_stays_32 : decode cX8_stays 32 = .ok (.aload_n 0, 1) := by decide +kernel
theorem dX8_stays_33 : decode cX8_stays 33 = .ok (.getfield 13, 3) := by decide +kernel
theorem dX8_stays_36 : decode cX8_stays 36 = .ok (.bipush 60, 2) := by decide +kernel
theorem dX8_stays_38 : decode cX8_stays 38 = .ok (.iload_n 1, 1) := by decide +kernel
theorem dX8_stays_39 : decode cX8_stays 39 = .ok (.iadd, 1) := by decide +kernel
theorem dX8_stays_40 : decode cX8_stays 40 = .ok (.iconst (-1), 1) := by decide +kernel
theorem dX8_stays_41 : decode cX8_stays 41 = .ok (.iastore, 1) := by decide +kernel
theorem dX8_stays_42 : decode cX8_stays 42 = .ok (.iload_n 2, 1) := by decide +kernel
theorem dX8_stays_43 : decode cX8_stays 43 = .ok (.ireturn, 1) := by decide +kernel
set_option maxRecDepth 20000 in
theorem ggX8_rope_X8_isPerson : GoodIn wsX8_rope wsX8_isPerson := goodIn_r _ [6, 7, 8, 9, 5, 10, 17, 18, 19, 20, 21, 22, 23, 24, 25, 26, 27, 28, 29, 30, 31, 32, 33, 34] (by decide +kernel) (by decide +kernel)
set_option maxRecDepth 20000 in
theorem gX8_rope_X8_isPerson : GoodIn wsX8_rope (wsV RX8 145 RX8 yX8_isPerson wsX8_isPerson) := goodIn_app (goodIn_of _ (by decide +kernel)) ggX8_rope_X8_isPerson
set_option maxRecDepth 20000 in
theorem ggX8_rope_X8_in : GoodIn wsX8_rope wsX8_in := goodIn_r _ [10] (by decide +kernel) (by decide +kernel)
set_option maxRecDepth 20000 in
theorem gX8_rope_X8_in : GoodIn wsX8_rope (va_wsS RX8 44 yX8_in wsX8_in) := goodIn_app (goodIn_of _ (by decide +kernel)) ggX8_rope_X8_in
set_option maxRecDepth 20000 in
theorem ggX8_rope_X8_note : GoodIn wsX8_rope wsX8_note := goodIn_r _ [14, 15, 16, 1, 17, 18, 19, 20, 21, 22, 23, 24, 25, 26, 27, 28, 29, 30, 31, 32, 33, 34] (by decide +kernel) (by decide +kernel)
set_option maxRecDepth 20000 in
theorem gX8_rope_X8_note : GoodIn wsX8_rope (wsV RX8 163 RX8 yX8_note wsX8_note) := goodIn_app (goodIn_of _ (by decide +kernel)) ggX8_rope_X8_note
theorem dX8_rope_0 : decode cX8_rope 0 = .ok (.aload_n 0, 1) := by decide +kernel
theorem dX8_rope_1 : decode cX8_rope 1 = .ok (.iload_n 1, 1) := by decide +kernel
theorem dX8_rope_2 : decode cX8_rope 2 = .ok (.invokevirtual 145, 3) := by decide +kernel
theorem dX8_rope_5 : decode cX8_rope 5 = .ok (.ifCond .ne 6, 3) := by decide +kernel
theorem dX8_rope_8 : decode cX8_rope 8 = .ok (.bipush (-2), 2) := by decide +kernel
theorem dX8_rope_10 : decode cX8_rope 10 = .ok (.ireturn, 1) := by decide +kernel
theorem dX8_rope_11 : decode cX8_rope 11 = .ok (.iload_n 2, 1) := by decide +kernel
theorem dX8_rope_12 : decode cX8_rope 12 = .ok (.i2l, 1) := by decide +kernel
theorem dX8_rope_13 : decode cX8_rope 13 = .ok (.lconst 0, 1) := by decide +kernel
theorem dX8_rope_14 : decode cX8_rope 14 = .ok (.lconst 1, 1) := by decide +kernel
theorem dX8_rope_15 : decode cX8_rope 15 = .ok (.invokestatic 44, 3) := by decide +kernel
theorem dX8_rope_18 : decode cX8_rope 18 = .ok (.ifCond .ne 6, 3) := by decide +kernel
theorem dX8_rope_21 : decode cX8_rope 21 = .ok (.bipush (-3), 2) := by decide +kernel
theorem dX8_rope_23 : decode cX8_rope 23 = .ok (.ireturn, 1) := by decide +kernel
theorem dX8_rope_24 : decode cX8_rope 24 = .ok (.aload_n 0, 1) := by decide +kernel
theorem dX8_rope_25 : decode cX8_rope 25 = .ok (.invokevirtual 163, 3) := by decide +kernel
theorem dX8_rope_28 : decode cX8_rope 28 = .ok (.aload_n 0, 1) := by decide +kernel
theorem dX8_rope_29 : decode cX8_rope 29 = .ok (.getfield 13, 3) := by decide +kernel
theorem dX8_rope_32 : decode cX8_rope 32 = .ok (.bipush 66, 2) := by decide +kernel
theorem dX8_rope_34 : decode cX8_rope 34 = .ok (.iload_n 1, 1) := by decide +kernel
theorem dX8_rope_35 : decode cX8_rope 35 = .ok (.iadd, 1) := by decide +kernel
theorem dX8_rope_36 : decode cX8_rope 36 = .ok (.iaload, 1) := by decide +kernel
theorem dX8_rope_37 : decode cX8_rope 37 = .ok (.istore_n 3, 1) := by decide +kernel
theorem dX8_rope_38 : decode cX8_rope 38 = .ok (.aload_n 0, 1) := by decide +kernel
theorem dX8_rope_39 : decode cX8_rope 39 = .ok (.getfield 13, 3) := by decide +kernel
theorem dX8_rope_42 : decode cX8_rope 42 = .ok (.bipush 66, 2) := by decide +kernel
theorem dX8_rope_44 : decode cX8_rope 44 = .ok (.iload_n 1, 1) := by decide +kernel
theorem dX8_rope_45 : decode cX8_rope 45 = .ok (.iadd, 1) := by decide +kernel
theorem dX8_rope_46 : decode cX8_rope 46 = .ok (.iload_n 2, 1) := by decide +kernel
theorem dX8_rope_47 : decode cX8_rope 47 = .ok (.iastore, 1) := by decide +kernel
theorem dX8_rope_48 : decode cX8_rope 48 = .ok (.iload_n 3, 1) := by decide +kernel
theorem dX8_rope_49 : decode cX8_rope 49 = .ok (.ireturn, 1) := by decide +kernel
set_option maxRecDepth 20000 in
theorem ggX8_clock_X8_in : GoodIn wsX8_clock wsX8_in := goodIn_r _ [6] (by decide +kernel) (by decide +kernel)
set_option maxRecDepth 20000 in
theorem gX8_clock_X8_in : GoodIn wsX8_clock (va_wsS RX8 44 yX8_in wsX8_in) := goodIn_app (goodIn_of _ (by decide +kernel)) ggX8_clock_X8_in
set_option maxRecDepth 20000 in
theorem ggX8_clock_X8_note : GoodIn wsX8_clock wsX8_note := goodIn_r _ [10, 11, 12, 2, 13, 14, 15, 16, 17, 18, 19, 20, 21, 22, 23, 24, 25, 26, 27, 28, 29, 30] (by decide +kernel) (by decide +kernel)
set_option maxRecDepth 20000 in
theorem gX8_clock_X8_note : GoodIn wsX8_clock (wsV RX8 163 RX8 yX8_note wsX8_note) := goodIn_app (goodIn_of _ (by decide +kernel)) ggX8_clock_X8_note
theorem dX8_clock_0 : decode cX8_clock 0 = .ok (.iload_n 1, 1) := by decide +kernel
theorem dX8_clock_1 : decode cX8_clock 1 = .ok (.i2l, 1) := by decide +kernel
theorem dX8_clock_2 : decode cX8_clock 2 = .ok (.lconst 0, 1) := by decide +kernel
theorem dX8_clock_3 : decode cX8_clock 3 = .ok (.ldc2_w 166, 3) := by decide +kernel
theorem dX8_clock_6 : decode cX8_clock 6 = .ok (.invokestatic 44, 3) := by decide +kernel
theorem dX8_clock_9 : decode cX8_clock 9 = .ok (.ifCond .ne 6, 3) := by decide +kernel
theorem dX8_clock_12 : decode cX8_clock 12 = .ok (.bipush (-3), 2) := by decide +kernel
theorem dX8_clock_14 : decode cX8_clock 14 = .ok (.ireturn, 1) := by decide +kernel
theorem dX8_clock_15 : decode cX8_clock 15 = .ok (.aload_n 0, 1) := by decide +kernel
theorem dX8_clock_16 : decode cX8_clock 16 = .ok (.invokevirtual 163, 3) := by decide +kernel
theorem dX8_clock_19 : decode cX8_clock 19 = .ok (.aload_n 0, 1) := by decide +kernel
theorem dX8_clock_20 : decode cX8_clock 20 = .ok (.getfield 13, 3) := by decide +kernel
theorem dX8_clock_23 : decode cX8_clock 23 = .ok (.bipush 72, 2) := by decide +kernel
theorem dX8_clock_25 : decode cX8_clock 25 = .ok (.iaload, 1) := by decide +kernel
theorem dX8_clock_26 : decode cX8_clock 26 = .ok (.istore_n 2, 1) := by decide +kernel
theorem dX8_clock_27 : decode cX8_clock 27 = .ok (.aload_n 0, 1) := by decide +kernel
theorem dX8_clock_28 : decode cX8_clock 28 = .ok (.getfield 13, 3) := by decide +kernel
theorem dX8_clock_31 : decode cX8_clock 31 = .ok (.bipush 72, 2) := by decide +kernel
theorem dX8_clock_33 : decode cX8_clock 33 = .ok (.iload_n 1, 1) := by decide +kernel
theorem dX8_clock_34 : decode cX8_clock 34 = .ok (.iastore, 1) := by decide +kernel
theorem dX8_clock_35 : decode cX8_clock 35 = .ok (.iload_n 2, 1) := by decide +kernel
theorem dX8_clock_36 : decode cX8_clock 36 = .ok (.ireturn, 1) := by decide +kernel
set_option maxRecDepth 20000 in
theorem ggX8_halve_X8_isPerson : GoodIn wsX8_halve wsX8_isPerson := goodIn_r _ [6, 7, 8, 9, 5, 10, 21, 22, 23, 24, 25, 26, 27, 28, 29, 30, 31, 32, 33, 34, 35, 36, 37, 38] (by decide +kernel) (by decide +kernel)
set_option maxRecDepth 20000 in
theorem gX8_halve_X8_isPerson : GoodIn wsX8_halve (wsV RX8 145 RX8 yX8_isPerson wsX8_isPerson) := goodIn_app (goodIn_of _ (by decide +kernel)) ggX8_halve_X8_isPerson
set_option maxRecDepth 20000 in
theorem ggX8_halve_X8_ownMany : GoodIn wsX8_halve wsX8_ownMany := goodIn_r _ [14, 1, 21, 22, 23, 24, 25, 26, 27, 28, 29, 30, 31, 32, 33, 34, 35, 36, 37, 38] (by decide +kernel) (by decide +kernel)
set_option maxRecDepth 20000 in
theorem gX8_halve_X8_ownMany : GoodIn wsX8_halve (wsV RX8 154 RX8 yX8_ownMany wsX8_ownMany) := goodIn_app (goodIn_of _ (by decide +kernel)) ggX8_halve_X8_ownMany
set_option maxRecDepth 20000 in
theorem ggX8_halve_X8_note : GoodIn wsX8_halve wsX8_note := goodIn_r _ [18, 19, 20, 1, 21, 22, 23, 24, 25, 26, 27, 28, 29, 30, 31, 32, 33, 34, 35, 36, 37, 38] (by decide +kernel) (by decide +kernel)
set_option maxRecDepth 20000 in
theorem gX8_halve_X8_note : GoodIn wsX8_halve (wsV RX8 163 RX8 yX8_note wsX8_note) := goodIn_app (goodIn_of _ (by decide +kernel)) ggX8_halve_X8_note
theorem dX8_halve_0 : decode cX8_halve 0 = .ok (.aload_n 0, 1) := by decide +kernel
theorem dX8_halve_1 : decode cX8_halve 1 = .ok (.iload_n 1, 1) := by decide +kernel
theorem dX8_halve_2 : decode cX8_halve 2 = .ok (.invokevirtual 145, 3) := by decide +kernel
theorem dX8_halve_5 : decode cX8_halve 5 = .ok (.ifCond .eq 16, 3) := by decide +kernel
theorem dX8_halve_8 : decode cX8_halve 8 = .ok (.aload_n 0, 1) := by decide +kernel
theorem dX8_halve_9 : decode cX8_halve 9 = .ok (.iload_n 2, 1) := by decide +kernel
theorem dX8_halve_10 : decode cX8_halve 10 = .ok (.invokevirtual 145, 3) := by decide +kernel
theorem dX8_halve_13 : decode cX8_halve 13 = .ok (.ifCond .eq 8, 3) := by decide +kernel
theorem dX8_halve_16 : decode cX8_halve 16 = .ok (.iload_n 1, 1) := by decide +kernel
theorem dX8_halve_17 : decode cX8_halve 17 = .ok (.iload_n 2, 1) := by decide +kernel
theorem dX8_halve_18 : decode cX8_halve 18 = .ok (.if_icmp .ne 6, 3) := by decide +kernel
theorem dX8_halve_21 : decode cX8_halve 21 = .ok (.bipush (-2), 2) := by decide +kernel
theorem dX8_halve_23 : decode cX8_halve 23 = .ok (.ireturn, 1) := by decide +kernel
theorem dX8_halve_24 : decode cX8_halve 24 = .ok (.aload_n 0, 1) := by decide +kernel
theorem dX8_halve_25 : decode cX8_halve 25 = .ok (.iload_n 1, 1) := by decide +kernel
theorem dX8_halve_26 : decode cX8_halve 26 = .ok (.invokevirtual 154, 3) := by decide +kernel
theorem dX8_halve_29 : decode cX8_halve 29 = .ok (.iconst 2, 1) := by decide +kernel
theorem dX8_halve_30 : decode cX8_halve 30 = .ok (.if_icmp .ge 6, 3) := by decide +kernel
theorem dX8_halve_33 : decode cX8_halve 33 = .ok (.bipush (-4), 2) := by decide +kernel
theorem dX8_halve_35 : decode cX8_halve 35 = .ok (.ireturn, 1) := by decide +kernel
theorem dX8_halve_36 : decode cX8_halve 36 = .ok (.aload_n 0, 1) := by decide +kernel
theorem dX8_halve_37 : decode cX8_halve 37 = .ok (.invokevirtual 163, 3) := by decide +kernel
theorem dX8_halve_40 : decode cX8_halve 40 = .ok (.iconst 0, 1) := by decide +kernel
theorem dX8_halve_41 : decode cX8_halve 41 = .ok (.istore_n 3, 1) := by decide +kernel
theorem dX8_halve_42 : decode cX8_halve 42 = .ok (.iconst 0, 1) := by decide +kernel
theorem dX8_halve_43 : decode cX8_halve 43 = .ok (.istore 4, 2) := by decide +kernel
theorem dX8_halve_45 : decode cX8_halve 45 = .ok (.iconst 0, 1) := by decide +kernel
theorem dX8_halve_46 : decode cX8_halve 46 = .ok (.istore 5, 2) := by decide +kernel
theorem dX8_halve_48 : decode cX8_halve 48 = .ok (.iload 5, 2) := by decide +kernel
theorem dX8_halve_50 : decode cX8_halve 50 = .ok (.bipush 60, 2) := by decide +kernel
theorem dX8_halve_52 : decode cX8_halve 52 = .ok (.if_icmp .ge 40, 3) := by decide +kernel
theorem dX8_halve_55 : decode cX8_halve 55 = .ok (.aload_n 0, 1) := by decide +kernel
theorem dX8_halve_56 : decode cX8_halve 56 = .ok (.getfield 13, 3) := by decide +kernel
theorem dX8_halve_59 : decode cX8_halve 59 = .ok (.iload 5, 2) := by decide +kernel
theorem dX8_halve_61 : decode cX8_halve 61 = .ok (.iaload, 1) := by decide +kernel
theorem dX8_halve_62 : decode cX8_halve 62 = .ok (.iload_n 1, 1) := by decide +kernel
theorem dX8_halve_63 : decode cX8_halve 63 = .ok (.if_icmp .ne 23, 3) := by decide +kernel
theorem dX8_halve_66 : decode cX8_halve 66 = .ok (.iinc 3 1, 3) := by decide +kernel
theorem dX8_halve_69 : decode cX8_halve 69 = .ok (.iload_n 3, 1) := by decide +kernel
theorem dX8_halve_70 : decode cX8_halve 70 = .ok (.iconst 2, 1) := by decide +kernel
theorem dX8_halve_71 : decode cX8_halve 71 = .ok (.irem, 1) := by decide +kernel
theorem dX8_halve_72 : decode cX8_halve 72 = .ok (.ifCond .ne 14, 3) := by decide +kernel
theorem dX8_halve_75 : decode cX8_halve 75 = .ok (.aload_n 0, 1) := by decide +kernel
theorem dX8_halve_76 : decode cX8_halve 76 = .ok (.getfield 13, 3) := by decide +kernel
theorem dX8_halve_79 : decode cX8_halve 79 = .ok (.iload 5, 2) := by decide +kernel
theorem dX8_halve_81 : decode cX8_halve 81 = .ok (.iload_n 2, 1) := by decide +kernel
theorem dX8_halve_82 : decode cX8_halve 82 = .ok (.iastore, 1) := by decide +kernel
theorem dX8_halve_83 : decode cX8_halve 83 = .ok (.iinc 4 1, 3) := by decide +kernel
theorem dX8_halve_86 : decode cX8_halve 86 = .ok (.iinc 5 1, 3) := by decide +kernel
theorem dX8_halve_89 : decode cX8_halve 89 = .ok (.goto (-41), 3) := by decide +kernel
theorem dX8_halve_92 : decode cX8_halve 92 = .ok (.iload 4, 2) := by decide +kernel
theorem dX8_halve_94 : decode cX8_halve 94 = .ok (.ireturn, 1) := by decide +kernel
set_option maxRecDepth 20000 in
theorem ggX8_sell_X8_isPerson : GoodIn wsX8_sell wsX8_isPerson := goodIn_r _ [7, 8, 9, 10, 6, 11, 18, 19, 20, 21, 22, 23, 24, 25, 26, 27, 28, 29, 30, 31, 32, 33, 34, 35] (by decide +kernel) (by decide +kernel)
set_option maxRecDepth 20000 in
theorem gX8_sell_X8_isPerson : GoodIn wsX8_sell (wsV RX8 145 RX8 yX8_isPerson wsX8_isPerson) := goodIn_app (goodIn_of _ (by decide +kernel)) ggX8_sell_X8_isPerson
set_option maxRecDepth 20000 in
theorem ggX8_sell_X8_in : GoodIn wsX8_sell wsX8_in := goodIn_r _ [11] (by decide +kernel) (by decide +kernel)
set_option maxRecDepth 20000 in
theorem gX8_sell_X8_in : GoodIn wsX8_sell (va_wsS RX8 44 yX8_in wsX8_in) := goodIn_app (goodIn_of _ (by decide +kernel)) ggX8_sell_X8_in
set_option maxRecDepth 20000 in
theorem ggX8_sell_X8_note : GoodIn wsX8_sell wsX8_note := goodIn_r _ [15, 16, 17, 2, 18, 19, 20, 21, 22, 23, 24, 25, 26, 27, 28, 29, 30, 31, 32, 33, 34, 35] (by decide +kernel) (by decide +kernel)
set_option maxRecDepth 20000 in
theorem gX8_sell_X8_note : GoodIn wsX8_sell (wsV RX8 163 RX8 yX8_note wsX8_note) := goodIn_app (goodIn_of _ (by decide +kernel)) ggX8_sell_X8_note
theorem dX8_sell_0 : decode cX8_sell 0 = .ok (.iload_n 2, 1) := by decide +kernel
theorem dX8_sell_1 : decode cX8_sell 1 = .ok (.iconst (-1), 1) := by decide +kernel
theorem dX8_sell_2 : decode cX8_sell 2 = .ok (.if_icmp .eq 14, 3) := by decide +kernel
theorem dX8_sell_5 : decode cX8_sell 5 = .ok (.aload_n 0, 1) := by decide +kernel
theorem dX8_sell_6 : decode cX8_sell 6 = .ok (.iload_n 2, 1) := by decide +kernel
theorem dX8_sell_7 : decode cX8_sell 7 = .ok (.invokevirtual 145, 3) := by decide +kernel
theorem dX8_sell_10 : decode cX8_sell 10 = .ok (.ifCond .ne 6, 3) := by decide +kernel
theorem dX8_sell_13 : decode cX8_sell 13 = .ok (.bipush (-2), 2) := by decide +kernel
theorem dX8_sell_15 : decode cX8_sell 15 = .ok (.ireturn, 1) := by decide +kernel
theorem dX8_sell_16 : decode cX8_sell 16 = .ok (.iload_n 1, 1) := by decide +kernel
theorem dX8_sell_17 : decode cX8_sell 17 = .ok (.i2l, 1) := by decide +kernel
theorem dX8_sell_18 : decode cX8_sell 18 = .ok (.lconst 0, 1) := by decide +kernel
theorem dX8_sell_19 : decode cX8_sell 19 = .ok (.ldc2_w 157, 3) := by decide +kernel
theorem dX8_sell_22 : decode cX8_sell 22 = .ok (.invokestatic 44, 3) := by decide +kernel
theorem dX8_sell_25 : decode cX8_sell 25 = .ok (.ifCond .ne 6, 3) := by decide +kernel
theorem dX8_sell_28 : decode cX8_sell 28 = .ok (.bipush (-3), 2) := by decide +kernel
theorem dX8_sell_30 : decode cX8_sell 30 = .ok (.ireturn, 1) := by decide +kernel
theorem dX8_sell_31 : decode cX8_sell 31 = .ok (.aload_n 0, 1) := by decide +kernel
theorem dX8_sell_32 : decode cX8_sell 32 = .ok (.getfield 13, 3) := by decide +kernel
theorem dX8_sell_35 : decode cX8_sell 35 = .ok (.iload_n 1, 1) := by decide +kernel
theorem dX8_sell_36 : decode cX8_sell 36 = .ok (.iaload, 1) := by decide +kernel
theorem dX8_sell_37 : decode cX8_sell 37 = .ok (.istore_n 3, 1) := by decide +kernel
theorem dX8_sell_38 : decode cX8_sell 38 = .ok (.iload_n 3, 1) := by decide +kernel
theorem dX8_sell_39 : decode cX8_sell 39 = .ok (.iload_n 2, 1) := by decide +kernel
theorem dX8_sell_40 : decode cX8_sell 40 = .ok (.if_icmp .ne 6, 3) := by decide +kernel
theorem dX8_sell_43 : decode cX8_sell 43 = .ok (.bipush (-4), 2) := by decide +kernel
theorem dX8_sell_45 : decode cX8_sell 45 = .ok (.ireturn, 1) := by decide +kernel
theorem dX8_sell_46 : decode cX8_sell 46 = .ok (.aload_n 0, 1) := by decide +kernel
theorem dX8_sell_47 : decode cX8_sell 47 = .ok (.invokevirtual 163, 3) := by decide +kernel
theorem dX8_sell_50 : decode cX8_sell 50 = .ok (.aload_n 0, 1) := by decide +kernel
theorem dX8_sell_51 : decode cX8_sell 51 = .ok (.getfield 13, 3) := by decide +kernel
theorem dX8_sell_54 : decode cX8_sell 54 = .ok (.iload_n 1, 1) := by decide +kernel
theorem dX8_sell_55 : decode cX8_sell 55 = .ok (.iload_n 2, 1) := by decide +kernel
theorem dX8_sell_56 : decode cX8_sell 56 = .ok (.iastore, 1) := by decide +kernel
theorem dX8_sell_57 : decode cX8_sell 57 = .ok (.iload_n 3, 1) := by decide +kernel
theorem dX8_sell_58 : decode cX8_sell 58 = .ok (.ireturn, 1) := by decide +kernel
theorem dX8_undo_0 : decode cX8_undo 0 = .ok (.aload_n 0, 1) := by decide +kernel
theorem dX8_undo_1 : decode cX8_undo 1 = .ok (.getfield 124, 3) := by decide +kernel
theorem dX8_undo_4 : decode cX8_undo 4 = .ok (.ifCond .ne 6, 3) := by decide +kernel
theorem dX8_undo_7 : decode cX8_undo 7 = .ok (.bipush (-4), 2) := by decide +kernel
theorem dX8_undo_9 : decode cX8_undo 9 = .ok (.ireturn, 1) := by decide +kernel
theorem dX8_undo_10 : decode cX8_undo 10 = .ok (.aload_n 0, 1) := by decide +kernel
theorem dX8_undo_11 : decode cX8_undo 11 = .ok (.dup, 1) := by decide +kernel
theorem dX8_undo_12 : decode cX8_undo 12 = .ok (.getfield 124, 3) := by decide +kernel
theorem dX8_undo_15 : decode cX8_undo 15 = .ok (.iconst 1, 1) := by decide +kernel
theorem dX8_undo_16 : decode cX8_undo 16 = .ok (.isub, 1) := by decide +kernel
theorem dX8_undo_17 : decode cX8_undo 17 = .ok (.putfield 124, 3) := by decide +kernel
theorem dX8_undo_20 : decode cX8_undo 20 = .ok (.iconst 0, 1) := by decide +kernel
theorem dX8_undo_21 : decode cX8_undo 21 = .ok (.istore_n 1, 1) := by decide +kernel
theorem dX8_undo_22 : decode cX8_undo 22 = .ok (.iload_n 1, 1) := by decide +kernel
theorem dX8_undo_23 : decode cX8_undo 23 = .ok (.bipush 73, 2) := by decide +kernel
theorem dX8_undo_25 : decode cX8_undo 25 = .ok (.if_icmp .ge 29, 3) := by decide +kernel
theorem dX8_undo_28 : decode cX8_undo 28 = .ok (.aload_n 0, 1) := by decide +kernel
theorem dX8_undo_29 : decode cX8_undo 29 = .ok (.getfield 13, 3) := by decide +kernel
theorem dX8_undo_32 : decode cX8_undo 32 = .ok (.iload_n 1, 1) := by decide +kernel
theorem dX8_undo_33 : decode cX8_undo 33 = .ok (.aload_n 0, 1) := by decide +kernel
theorem dX8_undo_34 : decode cX8_undo 34 = .ok (.getfield 22, 3) := by decide +kernel
theorem dX8_undo_37 : decode cX8_undo 37 = .ok (.bipush 73, 2) := by decide +kernel
theorem dX8_undo_39 : decode cX8_undo 39 = .ok (.aload_n 0, 1) := by decide +kernel
theorem dX8_undo_40 : decode cX8_undo 40 = .ok (.getfield 124, 3) := by decide +kernel
theorem dX8_undo_43 : decode cX8_undo 43 = .ok (.imul, 1) := by decide +kernel
theorem dX8_undo_44 : decode cX8_undo 44 = .ok (.iload_n 1, 1) := by decide +kernel
theorem dX8_undo_45 : decode cX8_undo 45 = .ok (.iadd, 1) := by decide +kernel
theorem dX8_undo_46 : decode cX8_undo 46 = .ok (.iaload, 1) := by decide +kernel
theorem dX8_undo_47 : decode cX8_undo 47 = .ok (.iastore, 1) := by decide +kernel
