theorem dX8_ownMany_7 : decode cX8_ownMany 7 = .ok (.if_icmp .ge 27, 3) := by decide +kernel
theorem dX8_ownMany_10 : decode cX8_ownMany 10 = .ok (.iload_n 2, 1) := by decide +kernel
theorem dX8_ownMany_11 : decode cX8_ownMany 11 = .ok (.aload_n 0, 1) := by decide +kernel
theorem dX8_ownMany_12 : decode cX8_ownMany 12 = .ok (.getfield 13, 3) := by decide +kernel
theorem dX8_ownMany_15 : decode cX8_ownMany 15 = .ok (.iload_n 3, 1) := by decide +kernel
theorem dX8_ownMany_16 : decode cX8_ownMany 16 = .ok (.iaload, 1) := by decide +kernel
theorem dX8_ownMany_17 : decode cX8_ownMany 17 = .ok (.iload_n 1, 1) := by decide +kernel
theorem dX8_ownMany_18 : decode cX8_ownMany 18 = .ok (.if_icmp .ne 7, 3) := by decide +kernel
theorem dX8_ownMany_21 : decode cX8_ownMany 21 = .ok (.iconst 1, 1) := by decide +kernel
theorem dX8_ownMany_22 : decode cX8_ownMany 22 = .ok (.goto 4, 3) := by decide +kernel
theorem dX8_ownMany_25 : decode cX8_ownMany 25 = .ok (.iconst 0, 1) := by decide +kernel
theorem dX8_ownMany_26 : decode cX8_ownMany 26 = .ok (.iadd, 1) := by decide +kernel
theorem dX8_ownMany_27 : decode cX8_ownMany 27 = .ok (.istore_n 2, 1) := by decide +kernel
theorem dX8_ownMany_28 : decode cX8_ownMany 28 = .ok (.iinc 3 1, 3) := by decide +kernel
theorem dX8_ownMany_31 : decode cX8_ownMany 31 = .ok (.goto (-27), 3) := by decide +kernel
theorem dX8_ownMany_34 : decode cX8_ownMany 34 = .ok (.iload_n 2, 1) := by decide +kernel
theorem dX8_ownMany_35 : decode cX8_ownMany 35 = .ok (.ireturn, 1) := by decide +kernel
set_option maxRecDepth 20000 in
theorem ggX8_person_X8_isPerson : GoodIn wsX8_person wsX8_isPerson := goodIn_r _ [7, 1, 8, 9, 6, 10, 47, 48, 49, 50, 51, 52, 53, 54, 55, 56, 57, 58, 59, 60, 61, 62, 63, 64] (by decide +kernel) (by decide +kernel)
set_option maxRecDepth 20000 in
theorem gX8_person_X8_isPerson : GoodIn wsX8_person (wsV RX8 145 RX8 yX8_isPerson wsX8_isPerson) := goodIn_app (goodIn_of _ (by decide +kernel)) ggX8_person_X8_isPerson
set_option maxRecDepth 20000 in
theorem ggX8_person_X8_standMany : GoodIn wsX8_person wsX8_standMany := goodIn_r _ [14, 15, 16, 17, 6, 18, 2, 1, 19, 20, 21, 22, 23, 24, 25, 26, 8, 9, 10, 47, 48, 49, 50, 51, 52, 53, 54, 55, 56, 57, 58, 59, 60, 61, 62, 63, 64] (by decide +kernel) (by decide +kernel)
set_option maxRecDepth 20000 in
theorem gX8_person_X8_standMany : GoodIn wsX8_person (wsV RX8 148 RX8 yX8_standMany wsX8_standMany) := goodIn_app (goodIn_of _ (by decide +kernel)) ggX8_person_X8_standMany
set_option maxRecDepth 20000 in
theorem ggX8_person_X8_thereBy : GoodIn wsX8_person wsX8_thereBy := goodIn_r _ [22, 2, 23, 24, 25, 6, 26, 1, 47, 48, 49, 50, 51, 52, 53, 54, 55, 56, 57, 58, 59, 60, 61, 62, 63, 64] (by decide +kernel) (by decide +kernel)
set_option maxRecDepth 20000 in
theorem gX8_person_X8_thereBy : GoodIn wsX8_person (wsV RX8 130 RX8 yX8_thereBy wsX8_thereBy) := goodIn_app (goodIn_of _ (by decide +kernel)) ggX8_person_X8_thereBy
set_option maxRecDepth 20000 in
theorem ggX8_person_X8_fineOf : GoodIn wsX8_person wsX8_fineOf := goodIn_r _ [30, 2, 31, 32, 33, 6, 34, 15, 16, 17, 18, 1, 19, 20, 21, 22, 23, 24, 25, 26, 8, 9, 10, 35, 36, 37, 38, 39, 40, 41, 42, 47, 48, 49, 50, 51, 52, 53, 54, 55, 56, 57, 58, 59, 60, 61, 62, 63, 64] (by decide +kernel) (by decide +kernel)
set_option maxRecDepth 20000 in
theorem gX8_person_X8_fineOf : GoodIn wsX8_person (wsV RX8 151 RX8 yX8_fineOf wsX8_fineOf) := goodIn_app (goodIn_of _ (by decide +kernel)) ggX8_person_X8_fineOf
set_option maxRecDepth 20000 in
theorem ggX8_person_X8_ownMany : GoodIn wsX8_person wsX8_ownMany := goodIn_r _ [46, 2, 47, 48, 49, 50, 51, 52, 53, 54, 55, 56, 57, 58, 59, 60, 61, 62, 63, 64] (by decide +kernel) (by decide +kernel)
set_option maxRecDepth 20000 in
theorem gX8_person_X8_ownMany : GoodIn wsX8_person (wsV RX8 154 RX8 yX8_ownMany wsX8_ownMany) := goodIn_app (goodIn_of _ (by decide +kernel)) ggX8_person_X8_ownMany
theorem dX8_person_0 : decode cX8_person 0 = .ok (.aload_n 0, 1) := by decide +kernel
theorem dX8_person_1 : decode cX8_person 1 = .ok (.iload_n 1, 1) := by decide +kernel
theorem dX8_person_2 : decode cX8_person 2 = .ok (.invokevirtual 145, 3) := by decide +kernel
theorem dX8_person_5 : decode cX8_person 5 = .ok (.ifCond .ne 6, 3) := by decide +kernel
theorem dX8_person_8 : decode cX8_person 8 = .ok (.bipush (-2), 2) := by decide +kernel
theorem dX8_person_10 : decode cX8_person 10 = .ok (.ireturn, 1) := by decide +kernel
theorem dX8_person_11 : decode cX8_person 11 = .ok (.iload_n 2, 1) := by decide +kernel
theorem dX8_person_12 : decode cX8_person 12 = .ok (.tableswitch 160 0 9 #[56, 65, 75, 85, 95, 105, 115, 142, 148, 154], 56) := by decide +kernel
theorem dX8_person_68 : decode cX8_person 68 = .ok (.aload_n 0, 1) := by decide +kernel
theorem dX8_person_69 : decode cX8_person 69 = .ok (.getfield 7, 3) := by decide +kernel
theorem dX8_person_72 : decode cX8_person 72 = .ok (.iconst 1, 1) := by decide +kernel
theorem dX8_person_73 : decode cX8_person 73 = .ok (.iload_n 1, 1) := by decide +kernel
theorem dX8_person_74 : decode cX8_person 74 = .ok (.iadd, 1) := by decide +kernel
theorem dX8_person_75 : decode cX8_person 75 = .ok (.iaload, 1) := by decide +kernel
theorem dX8_person_76 : decode cX8_person 76 = .ok (.ireturn, 1) := by decide +kernel
theorem dX8_person_77 : decode cX8_person 77 = .ok (.aload_n 0, 1) := by decide +kernel
theorem dX8_person_78 : decode cX8_person 78 = .ok (.getfield 7, 3) := by decide +kernel
theorem dX8_person_81 : decode cX8_person 81 = .ok (.bipush 7, 2) := by decide +kernel
theorem dX8_person_83 : decode cX8_person 83 = .ok (.iload_n 1, 1) := by decide +kernel
theorem dX8_person_84 : decode cX8_person 84 = .ok (.iadd, 1) := by decide +kernel
theorem dX8_person_85 : decode cX8_person 85 = .ok (.iaload, 1) := by decide +kernel
theorem dX8_person_86 : decode cX8_person 86 = .ok (.ireturn, 1) := by decide +kernel
theorem dX8_person_87 : decode cX8_person 87 = .ok (.aload_n 0, 1) := by decide +kernel
theorem dX8_person_88 : decode cX8_person 88 = .ok (.getfield 7, 3) := by decide +kernel
theorem dX8_person_91 : decode cX8_person 91 = .ok (.bipush 13, 2) := by decide +kernel
theorem dX8_person_93 : decode cX8_person 93 = .ok (.iload_n 1, 1) := by decide +kernel
theorem dX8_person_94 : decode cX8_person 94 = .ok (.iadd, 1) := by decide +kernel
theorem dX8_person_95 : decode cX8_person 95 = .ok (.iaload, 1) := by decide +kernel
theorem dX8_person_96 : decode cX8_person 96 = .ok (.ireturn, 1) := by decide +kernel
theorem dX8_person_97 : decode cX8_person 97 = .ok (.aload_n 0, 1) := by decide +kernel
theorem dX8_person_98 : decode cX8_person 98 = .ok (.getfield 7, 3) := by decide +kernel
theorem dX8_person_101 : decode cX8_person 101 = .ok (.bipush 19, 2) := by decide +kernel
theorem dX8_person_103 : decode cX8_person 103 = .ok (.iload_n 1, 1) := by decide +kernel
theorem dX8_person_104 : decode cX8_person 104 = .ok (.iadd, 1) := by decide +kernel
theorem dX8_person_105 : decode cX8_person 105 = .ok (.iaload, 1) := by decide +kernel
theorem dX8_person_106 : decode cX8_person 106 = .ok (.ireturn, 1) := by decide +kernel
theorem dX8_person_107 : decode cX8_person 107 = .ok (.aload_n 0, 1) := by decide +kernel
theorem dX8_person_108 : decode cX8_person 108 = .ok (.getfield 13, 3) := by decide +kernel
theorem dX8_person_111 : decode cX8_person 111 = .ok (.bipush 60, 2) := by decide +kernel
theorem dX8_person_113 : decode cX8_person 113 = .ok (.iload_n 1, 1) := by decide +kernel
theorem dX8_person_114 : decode cX8_person 114 = .ok (.iadd, 1) := by decide +kernel
theorem dX8_person_115 : decode cX8_person 115 = .ok (.iaload, 1) := by decide +kernel
theorem dX8_person_116 : decode cX8_person 116 = .ok (.ireturn, 1) := by decide +kernel
theorem dX8_person_117 : decode cX8_person 117 = .ok (.aload_n 0, 1) := by decide +kernel
theorem dX8_person_118 : decode cX8_person 118 = .ok (.getfield 13, 3) := by decide +kernel
theorem dX8_person_121 : decode cX8_person 121 = .ok (.bipush 66, 2) := by decide +kernel
theorem dX8_person_123 : decode cX8_person 123 = .ok (.iload_n 1, 1) := by decide +kernel
theorem dX8_person_124 : decode cX8_person 124 = .ok (.iadd, 1) := by decide +kernel
theorem dX8_person_125 : decode cX8_person 125 = .ok (.iaload, 1) := by decide +kernel
theorem dX8_person_126 : decode cX8_person 126 = .ok (.ireturn, 1) := by decide +kernel
theorem dX8_person_127 : decode cX8_person 127 = .ok (.aload_n 0, 1) := by decide +kernel
theorem dX8_person_128 : decode cX8_person 128 = .ok (.iload_n 1, 1) := by decide +kernel
theorem dX8_person_129 : decode cX8_person 129 = .ok (.invokevirtual 148, 3) := by decide +kernel
theorem dX8_person_132 : decode cX8_person 132 = .ok (.ifCond .ne 7, 3) := by decide +kernel
theorem dX8_person_135 : decode cX8_person 135 = .ok (.iconst (-1), 1) := by decide +kernel
theorem dX8_person_136 : decode cX8_person 136 = .ok (.goto 17, 3) := by decide +kernel
theorem dX8_person_139 : decode cX8_person 139 = .ok (.aload_n 0, 1) := by decide +kernel
theorem dX8_person_140 : decode cX8_person 140 = .ok (.iload_n 1, 1) := by decide +kernel
theorem dX8_person_141 : decode cX8_person 141 = .ok (.aload_n 0, 1) := by decide +kernel
theorem dX8_person_142 : decode cX8_person 142 = .ok (.getfield 13, 3) := by decide +kernel
theorem dX8_person_145 : decode cX8_person 145 = .ok (.bipush 60, 2) := by decide +kernel
theorem dX8_person_147 : decode cX8_person 147 = .ok (.iload_n 1, 1) := by decide +kernel
theorem dX8_person_148 : decode cX8_person 148 = .ok (.iadd, 1) := by decide +kernel
theorem dX8_person_149 : decode cX8_person 149 = .ok (.iaload, 1) := by decide +kernel
theorem dX8_person_150 : decode cX8_person 150 = .ok (.invokevirtual 130, 3) := by decide +kernel
theorem dX8_person_153 : decode cX8_person 153 = .ok (.ireturn, 1) := by decide +kernel
theorem dX8_person_154 : decode cX8_person 154 = .ok (.aload_n 0, 1) := by decide +kernel
theorem dX8_person_155 : decode cX8_person 155 = .ok (.iload_n 1, 1) := by decide +kernel
theorem dX8_person_156 : decode cX8_person 156 = .ok (.invokevirtual 148, 3) := by decide +kernel
theorem dX8_person_159 : decode cX8_person 159 = .ok (.ireturn, 1) := by decide +kernel
theorem dX8_person_160 : decode cX8_person 160 = .ok (.aload_n 0, 1) := by decide +kernel
theorem dX8_person_161 : decode cX8_person 161 = .ok (.iload_n 1, 1) := by decide +kernel
theorem dX8_person_162 : decode cX8_person 162 = .ok (.invokevirtual 151, 3) := by decide +kernel
theorem dX8_person_165 : decode cX8_person 165 = .ok (.ireturn, 1) := by decide +kernel
theorem dX8_person_166 : decode cX8_person 166 = .ok (.aload_n 0, 1) := by decide +kernel
theorem dX8_person_167 : decode cX8_person 167 = .ok (.iload_n 1, 1) := by decide +kernel
theorem dX8_person_168 : decode cX8_person 168 = .ok (.invokevirtual 154, 3) := by decide +kernel
theorem dX8_person_171 : decode cX8_person 171 = .ok (.ireturn, 1) := by decide +kernel
theorem dX8_person_172 : decode cX8_person 172 = .ok (.bipush (-3), 2) := by decide +kernel
theorem dX8_person_174 : decode cX8_person 174 = .ok (.ireturn, 1) := by decide +kernel
set_option maxRecDepth 20000 in
theorem ggX8_second_X8_in : GoodIn wsX8_second wsX8_in := goodIn_r _ [8] (by decide +kernel) (by decide +kernel)
set_option maxRecDepth 20000 in
theorem gX8_second_X8_in : GoodIn wsX8_second (va_wsS RX8 44 yX8_in wsX8_in) := goodIn_app (goodIn_of _ (by decide +kernel)) ggX8_second_X8_in
set_option maxRecDepth 20000 in
theorem ggX8_second_X8_standsIn : GoodIn wsX8_second wsX8_standsIn := goodIn_r _ [12, 4, 3, 13, 14, 15, 7, 16, 17, 18, 19, 20, 5, 6, 8, 21, 22, 23, 24, 25, 26, 27, 28, 29, 30, 31, 32, 33, 34, 35, 36, 37, 38] (by decide +kernel) (by decide +kernel)
set_option maxRecDepth 20000 in
theorem gX8_second_X8_standsIn : GoodIn wsX8_second (wsV RX8 136 RX8 yX8_standsIn wsX8_standsIn) := goodIn_app (goodIn_of _ (by decide +kernel)) ggX8_second_X8_standsIn
theorem dX8_second_0 : decode cX8_second 0 = .ok (.iload_n 1, 1) := by decide +kernel
theorem dX8_second_1 : decode cX8_second 1 = .ok (.i2l, 1) := by decide +kernel
theorem dX8_second_2 : decode cX8_second 2 = .ok (.lconst 0, 1) := by decide +kernel
theorem dX8_second_3 : decode cX8_second 3 = .ok (.ldc2_w 157, 3) := by decide +kernel
theorem dX8_second_6 : decode cX8_second 6 = .ok (.invokestatic 44, 3) := by decide +kernel
theorem dX8_second_9 : decode cX8_second 9 = .ok (.ifCond .eq 15, 3) := by decide +kernel
theorem dX8_second_12 : decode cX8_second 12 = .ok (.iload_n 2, 1) := by decide +kernel
theorem dX8_second_13 : decode cX8_second 13 = .ok (.i2l, 1) := by decide +kernel
theorem dX8_second_14 : decode cX8_second 14 = .ok (.lconst 0, 1) := by decide +kernel
theorem dX8_second_15 : decode cX8_second 15 = .ok (.ldc2_w 159, 3) := by decide +kernel
theorem dX8_second_18 : decode cX8_second 18 = .ok (.invokestatic 44, 3) := by decide +kernel
theorem dX8_second_21 : decode cX8_second 21 = .ok (.ifCond .ne 6, 3) := by decide +kernel
theorem dX8_second_24 : decode cX8_second 24 = .ok (.bipush (-3), 2) := by decide +kernel
theorem dX8_second_26 : decode cX8_second 26 = .ok (.ireturn, 1) := by decide +kernel
theorem dX8_second_27 : decode cX8_second 27 = .ok (.iconst 0, 1) := by decide +kernel
theorem dX8_second_28 : decode cX8_second 28 = .ok (.istore_n 3, 1) := by decide +kernel
theorem dX8_second_29 : decode cX8_second 29 = .ok (.iconst 0, 1) := by decide +kernel
theorem dX8_second_30 : decode cX8_second 30 = .ok (.istore 4, 2) := by decide +kernel
theorem dX8_second_32 : decode cX8_second 32 = .ok (.iload 4, 2) := by decide +kernel
theorem dX8_second_34 : decode cX8_second 34 = .ok (.aload_n 0, 1) := by decide +kernel
theorem dX8_second_35 : decode cX8_second 35 = .ok (.getfield 7, 3) := by decide +kernel
theorem dX8_second_38 : decode cX8_second 38 = .ok (.iconst 0, 1) := by decide +kernel
theorem dX8_second_39 : decode cX8_second 39 = .ok (.iaload, 1) := by decide +kernel
theorem dX8_second_40 : decode cX8_second 40 = .ok (.if_icmp .ge 30, 3) := by decide +kernel
theorem dX8_second_43 : decode cX8_second 43 = .ok (.iload_n 3, 1) := by decide +kernel
theorem dX8_second_44 : decode cX8_second 44 = .ok (.aload_n 0, 1) := by decide +kernel
theorem dX8_second_45 : decode cX8_second 45 = .ok (.iload 4, 2) := by decide +kernel
theorem dX8_second_47 : decode cX8_second 47 = .ok (.iload_n 1, 1) := by decide +kernel
theorem dX8_second_48 : decode cX8_second 48 = .ok (.invokevirtual 136, 3) := by decide +kernel
theorem dX8_second_51 : decode cX8_second 51 = .ok (.ifCond .eq 10, 3) := by decide +kernel
theorem dX8_second_54 : decode cX8_second 54 = .ok (.iconst 1, 1) := by decide +kernel
theorem dX8_second_55 : decode cX8_second 55 = .ok (.iload 4, 2) := by decide +kernel
theorem dX8_second_57 : decode cX8_second 57 = .ok (.ishl, 1) := by decide +kernel
theorem dX8_second_58 : decode cX8_second 58 = .ok (.goto 4, 3) := by decide +kernel
theorem dX8_second_61 : decode cX8_second 61 = .ok (.iconst 0, 1) := by decide +kernel
theorem dX8_second_62 : decode cX8_second 62 = .ok (.ior, 1) := by decide +kernel
theorem dX8_second_63 : decode cX8_second 63 = .ok (.istore_n 3, 1) := by decide +kernel
theorem dX8_second_64 : decode cX8_second 64 = .ok (.iinc 4 1, 3) := by decide +kernel
theorem dX8_second_67 : decode cX8_second 67 = .ok (.goto (-35), 3) := by decide +kernel
theorem dX8_second_70 : decode cX8_second 70 = .ok (.iload_n 2, 1) := by decide +kernel
theorem dX8_second_71 : decode cX8_second 71 = .ok (.ifCond .ne 12, 3) := by decide +kernel
theorem dX8_second_74 : decode cX8_second 74 = .ok (.aload_n 0, 1) := by decide +kernel
theorem dX8_second_75 : decode cX8_second 75 = .ok (.getfield 13, 3) := by decide +kernel
theorem dX8_second_78 : decode cX8_second 78 = .ok (.iload_n 1, 1) := by decide +kernel
theorem dX8_second_79 : decode cX8_second 79 = .ok (.iaload, 1) := by decide +kernel
theorem dX8_second_80 : decode cX8_second 80 = .ok (.goto 21, 3) := by decide +kernel
theorem dX8_second_83 : decode cX8_second 83 = .ok (.iload_n 2, 1) := by decide +kernel
theorem dX8_second_84 : decode cX8_second 84 = .ok (.iconst 1, 1) := by decide +kernel
theorem dX8_second_85 : decode cX8_second 85 = .ok (.if_icmp .ne 15, 3) := by decide +kernel
theorem dX8_second_88 : decode cX8_second 88 = .ok (.aload_n 0, 1) := by decide +kernel
theorem dX8_second_89 : decode cX8_second 89 = .ok (.getfield 7, 3) := by decide +kernel
theorem dX8_second_92 : decode cX8_second 92 = .ok (.bipush 85, 2) := by decide +kernel
theorem dX8_second_94 : decode cX8_second 94 = .ok (.iload_n 1, 1) := by decide +kernel
theorem dX8_second_95 : decode cX8_second 95 = .ok (.iadd, 1) := by decide +kernel
theorem dX8_second_96 : decode cX8_second 96 = .ok (.iaload, 1) := by decide +kernel
theorem dX8_second_97 : decode cX8_second 97 = .ok (.goto 4, 3) := by decide +kernel
theorem dX8_second_100 : decode cX8_second 100 = .ok (.iload_n 3, 1) := by decide +kernel
theorem dX8_second_101 : decode cX8_second 101 = .ok (.ireturn, 1) := by decide +kernel
set_option maxRecDepth 20000 in
theorem ggX8_as_X8_isPerson : GoodIn wsX8_as wsX8_isPerson := goodIn_r _ [7, 2, 8, 9, 6, 10, 19, 20, 21, 22, 23, 24, 25, 26, 27, 28, 29, 30, 31, 32, 33, 34, 35, 36] (by decide +kernel) (by decide +kernel)
set_option maxRecDepth 20000 in
theorem gX8_as_X8_isPerson : GoodIn wsX8_as (wsV RX8 145 RX8 yX8_isPerson wsX8_isPerson) := goodIn_app (goodIn_of _ (by decide +kernel)) ggX8_as_X8_isPerson
set_option maxRecDepth 20000 in
theorem ggX8_as_X8_in : GoodIn wsX8_as wsX8_in := goodIn_r _ [10] (by decide +kernel) (by decide +kernel)
set_option maxRecDepth 20000 in
theorem gX8_as_X8_in : GoodIn wsX8_as (va_wsS RX8 44 yX8_in wsX8_in) := goodIn_app (goodIn_of _ (by decide +kernel)) ggX8_as_X8_in
set_option maxRecDepth 20000 in
theorem ggX8_as_X8_costOf : GoodIn wsX8_as wsX8_costOf := goodIn_r _ [14, 2, 19, 20, 21, 22, 23, 24, 25, 26, 27, 28, 29, 30, 31, 32, 33, 34, 35, 36] (by decide +kernel) (by decide +kernel)
set_option maxRecDepth 20000 in
theorem gX8_as_X8_costOf : GoodIn wsX8_as (wsV RX8 133 RX8 yX8_costOf wsX8_costOf) := goodIn_app (goodIn_of _ (by decide +kernel)) ggX8_as_X8_costOf
set_option maxRecDepth 20000 in
theorem ggX8_as_X8_walkOf : GoodIn wsX8_as wsX8_walkOf := goodIn_r _ [18, 2, 19, 20, 21, 22, 23, 24, 25, 26, 27, 28, 29, 30, 31, 32, 33, 34, 35, 36] (by decide +kernel) (by decide +kernel)
set_option maxRecDepth 20000 in
theorem gX8_as_X8_walkOf : GoodIn wsX8_as (wsV RX8 127 RX8 yX8_walkOf wsX8_walkOf) := goodIn_app (goodIn_of _ (by decide +kernel)) ggX8_as_X8_walkOf
theorem dX8_as_0 : decode cX8_as 0 = .ok (.aload_n 0, 1) := by decide +kernel
theorem dX8_as_1 : decode cX8_as 1 = .ok (.iload_n 1, 1) := by decide +kernel
theorem dX8_as_2 : decode cX8_as 2 = .ok (.invokevirtual 145, 3) := by decide +kernel
theorem dX8_as_5 : decode cX8_as 5 = .ok (.ifCond .ne 6, 3) := by decide +kernel
theorem dX8_as_8 : decode cX8_as 8 = .ok (.bipush (-2), 2) := by decide +kernel
theorem dX8_as_10 : decode cX8_as 10 = .ok (.ireturn, 1) := by decide +kernel
theorem dX8_as_11 : decode cX8_as 11 = .ok (.iload_n 2, 1) := by decide +kernel
theorem dX8_as_12 : decode cX8_as 12 = .ok (.i2l, 1) := by decide +kernel
theorem dX8_as_13 : decode cX8_as 13 = .ok (.lconst 0, 1) := by decide +kernel
theorem dX8_as_14 : decode cX8_as 14 = .ok (.ldc2_w 161, 3) := by decide +kernel
theorem dX8_as_17 : decode cX8_as 17 = .ok (.invokestatic 44, 3) := by decide +kernel
theorem dX8_as_20 : decode cX8_as 20 = .ok (.ifCond .ne 6, 3) := by decide +kernel
theorem dX8_as_23 : decode cX8_as 23 = .ok (.bipush (-3), 2) := by decide +kernel
theorem dX8_as_25 : decode cX8_as 25 = .ok (.ireturn, 1) := by decide +kernel
theorem dX8_as_26 : decode cX8_as 26 = .ok (.aload_n 0, 1) := by decide +kernel
theorem dX8_as_27 : decode cX8_as 27 = .ok (.getfield 7, 3) := by decide +kernel
theorem dX8_as_30 : decode cX8_as 30 = .ok (.iconst 1, 1) := by decide +kernel
theorem dX8_as_31 : decode cX8_as 31 = .ok (.iload_n 1, 1) := by decide +kernel
theorem dX8_as_32 : decode cX8_as 32 = .ok (.iadd, 1) := by decide +kernel
theorem dX8_as_33 : decode cX8_as 33 = .ok (.iaload, 1) := by decide +kernel
theorem dX8_as_34 : decode cX8_as 34 = .ok (.istore_n 3, 1) := by decide +kernel
theorem dX8_as_35 : decode cX8_as 35 = .ok (.iload_n 2, 1) := by decide +kernel
theorem dX8_as_36 : decode cX8_as 36 = .ok (.ifCond .eq 25, 3) := by decide +kernel
theorem dX8_as_39 : decode cX8_as 39 = .ok (.iload_n 2, 1) := by decide +kernel
theorem dX8_as_40 : decode cX8_as 40 = .ok (.iconst 1, 1) := by decide +kernel
theorem dX8_as_41 : decode cX8_as 41 = .ok (.if_icmp .ne 8, 3) := by decide +kernel
theorem dX8_as_44 : decode cX8_as 44 = .ok (.iload_n 3, 1) := by decide +kernel
theorem dX8_as_45 : decode cX8_as 45 = .ok (.iconst 3, 1) := by decide +kernel
theorem dX8_as_46 : decode cX8_as 46 = .ok (.if_icmp .lt 15, 3) := by decide +kernel
theorem dX8_as_49 : decode cX8_as 49 = .ok (.iload_n 2, 1) := by decide +kernel
theorem dX8_as_50 : decode cX8_as 50 = .ok (.iconst 1, 1) := by decide +kernel
theorem dX8_as_51 : decode cX8_as 51 = .ok (.if_icmp .le 14, 3) := by decide +kernel
theorem dX8_as_54 : decode cX8_as 54 = .ok (.iload_n 3, 1) := by decide +kernel
theorem dX8_as_55 : decode cX8_as 55 = .ok (.iload_n 2, 1) := by decide +kernel
theorem dX8_as_56 : decode cX8_as 56 = .ok (.iconst 1, 1) := by decide +kernel
theorem dX8_as_57 : decode cX8_as 57 = .ok (.isub, 1) := by decide +kernel
theorem dX8_as_58 : decode cX8_as 58 = .ok (.if_icmp .ne 7, 3) := by decide +kernel
theorem dX8_as_61 : decode cX8_as 61 = .ok (.iconst 1, 1) := by decide +kernel
theorem dX8_as_62 : decode cX8_as 62 = .ok (.goto 4, 3) := by decide +kernel
theorem dX8_as_65 : decode cX8_as 65 = .ok (.iconst 0, 1) := by decide +kernel
theorem dX8_as_66 : decode cX8_as 66 = .ok (.istore 4, 2) := by decide +kernel
theorem dX8_as_68 : decode cX8_as 68 = .ok (.iload 4, 2) := by decide +kernel
theorem dX8_as_70 : decode cX8_as 70 = .ok (.ifCond .eq 20, 3) := by decide +kernel
theorem dX8_as_73 : decode cX8_as 73 = .ok (.bipush 100, 2) := by decide +kernel
theorem dX8_as_75 : decode cX8_as 75 = .ok (.aload_n 0, 1) := by decide +kernel
theorem dX8_as_76 : decode cX8_as 76 = .ok (.iload_n 1, 1) := by decide +kernel
theorem dX8_as_77 : decode cX8_as 77 = .ok (.invokevirtual 133, 3) := by decide +kernel
theorem dX8_as_80 : decode cX8_as 80 = .ok (.imul, 1) := by decide +kernel
theorem dX8_as_81 : decode cX8_as 81 = .ok (.aload_n 0, 1) := by decide +kernel
theorem dX8_as_82 : decode cX8_as 82 = .ok (.iload_n 1, 1) := by decide +kernel
theorem dX8_as_83 : decode cX8_as 83 = .ok (.invokevirtual 127, 3) := by decide +kernel
theorem dX8_as_86 : decode cX8_as 86 = .ok (.iadd, 1) := by decide +kernel
theorem dX8_as_87 : decode cX8_as 87 = .ok (.goto 5, 3) := by decide +kernel
theorem dX8_as_90 : decode cX8_as 90 = .ok (.bipush (-4), 2) := by decide +kernel
theorem dX8_as_92 : decode cX8_as 92 = .ok (.ireturn, 1) := by decide +kernel
theorem dX8_note_0 : decode cX8_note 0 = .ok (.aload_n 0, 1) := by decide +kernel
theorem dX8_note_1 : decode cX8_note 1 = .ok (.getfield 124, 3) := by decide +kernel
theorem dX8_note_4 : decode cX8_note 4 = .ok (.bipush 8, 2) := by decide +kernel
theorem dX8_note_6 : decode cX8_note 6 = .ok (.if_icmp .ne 43, 3) := by decide +kernel
theorem dX8_note_9 : decode cX8_note 9 = .ok (.iconst 0, 1) := by decide +kernel
theorem dX8_note_10 : decode cX8_note 10 = .ok (.istore_n 1, 1) := by decide +kernel
theorem dX8_note_11 : decode cX8_note 11 = .ok (.iload_n 1, 1) := by decide +kernel
theorem dX8_note_12 : decode cX8_note 12 = .ok (.sipush 511, 3) := by decide +kernel
theorem dX8_note_15 : decode cX8_note 15 = .ok (.if_icmp .ge 24, 3) := by decide +kernel
theorem dX8_note_18 : decode cX8_note 18 = .ok (.aload_n 0, 1) := by decide +kernel
theorem dX8_note_19 : decode cX8_note 19 = .ok (.getfield 22, 3) := by decide +kernel
theorem dX8_note_22 : decode cX8_note 22 = .ok (.iload_n 1, 1) := by decide +kernel
theorem dX8_note_23 : decode cX8_note 23 = .ok (.aload_n 0, 1) := by decide +kernel
theorem dX8_note_24 : decode cX8_note 24 = .ok (.getfield 22, 3) := by decide +kernel
theorem dX8_note_27 : decode cX8_note 27 = .ok (.iload_n 1, 1) := by decide +kernel
theorem dX8_note_28 : decode cX8_note 28 = .ok (.bipush 73, 2) := by decide +kernel
theorem dX8_note_30 : decode cX8_note 30 = .ok (.iadd, 1) := by decide +kernel
theorem dX8_note_31 : decode cX8_note 31 = .ok (.iaload, 1) := by decide +kernel
theorem dX8_note_32 : decode cX8_note 32 = .ok (.iastore, 1) := by decide +kernel
theorem dX8_note_33 : decode cX8_note 33 = .ok (.iinc 1 1, 3) := by decide +kernel
theorem dX8_note_36 : decode cX8_note 36 = .ok (.goto (-25), 3) := by decide +kernel
theorem dX8_note_39 : decode cX8_note 39 = .ok (.aload_n 0, 1) := by decide +kernel
theorem dX8_note_40 : decode cX8_note 40 = .ok (.dup, 1) := by decide +kernel
theorem dX8_note_41 : decode cX8_note 41 = .ok (.getfield 124, 3) := by decide +kernel
theorem dX8_note_44 : decode cX8_note 44 = .ok (.iconst 1, 1) := by decide +kernel
theorem dX8_note_45 : decode cX8_note 45 = .ok (.isub, 1) := by decide +kernel
theorem dX8_note_46 : decode cX8_note 46 = .ok (.putfield 124, 3) := by decide +kernel
theorem dX8_note_49 : decode cX8_note 49 = .ok (.iconst 0, 1) := by decide +kernel
theorem dX8_note_50 : decode cX8_note 50 = .ok (.istore_n 1, 1) := by decide +kernel
theorem dX8_note_51 : decode cX8_note 51 = .ok (.iload_n 1, 1) := by decide +kernel
theorem dX8_note_52 : decode cX8_note 52 = .ok (.bipush 73, 2) := by decide +kernel
theorem dX8_note_54 : decode cX8_note 54 = .ok (.if_icmp .ge 29, 3) := by decide +kernel
theorem dX8_note_57 : decode cX8_note 57 = .ok (.aload_n 0, 1) := by decide +kernel
theorem dX8_note_58 : decode cX8_note 58 = .ok (.getfield 22, 3) := by decide +kernel
theorem dX8_note_61 : decode cX8_note 61 = .ok (.bipush 73, 2) := by decide +kernel
theorem dX8_note_63 : decode cX8_note 63 = .ok (.aload_n 0, 1) := by decide +kernel
theorem dX8_note_64 : decode cX8_note 64 = .ok (.getfield 124, 3) := by decide +kernel
theorem dX8_note_67 : decode cX8_note 67 = .ok (.imul, 1) := by decide +kernel
theorem dX8_note_68 : decode cX8_note 68 = .ok (.iload_n 1, 1) := by decide +kernel
theorem dX8_note_69 : decode cX8_note 69 = .ok (.iadd, 1) := by decide +kernel
theorem dX8_note_70 : decode cX8_note 70 = .ok (.aload_n 0, 1) := by decide +kernel
theorem dX8_note_71 : decode cX8_note 71 = .ok (.getfield 13, 3) := by decide +kernel
theorem dX8_note_74 : decode cX8_note 74 = .ok (.iload_n 1, 1) := by decide +kernel
theorem dX8_note_75 : decode cX8_note 75 = .ok (.iaload, 1) := by decide +kernel
theorem dX8_note_76 : decode cX8_note 76 = .ok (.iastore, 1) := by decide +kernel
theorem dX8_note_77 : decode cX8_note 77 = .ok (.iinc 1 1, 3) := by decide +kernel
theorem dX8_note_80 : decode cX8_note 80 = .ok (.goto (-29), 3) := by decide +kernel
theorem dX8_note_83 : decode cX8_note 83 = .ok (.aload_n 0, 1) := by decide +kernel
theorem dX8_note_84 : decode cX8_note 84 = .ok (.dup, 1) := by decide +kernel
theorem dX8_note_85 : decode cX8_note 85 = .ok (.getfield 124, 3) := by decide +kernel
theorem dX8_note_88 : decode cX8_note 88 = .ok (.iconst 1, 1) := by decide +kernel
theorem dX8_note_89 : decode cX8_note 89 = .ok (.iadd, 1) := by decide +kernel
theorem dX8_note_90 : decode cX8_note 90 = .ok (.putfield 124, 3) := by decide +kernel
theorem dX8_note_93 : decode cX8_note 93 = .ok (.return_, 1) := by decide +kernel
set_option maxRecDepth 20000 in
theorem ggX8_start_X8_isPerson : GoodIn wsX8_start wsX8_isPerson := goodIn_r _ [7, 8, 9, 10, 6, 11, 26, 27, 28, 29, 30, 31, 32, 33, 34, 35, 36, 37, 38, 39, 40, 41, 42, 43] (by decide +kernel) (by decide +kernel)
set_option maxRecDepth 20000 in
theorem gX8_start_X8_isPerson : GoodIn wsX8_start (wsV RX8 145 RX8 yX8_isPerson wsX8_isPerson) := goodIn_app (goodIn_of _ (by decide +kernel)) ggX8_start_X8_isPerson
set_option maxRecDepth 20000 in
theorem ggX8_start_X8_in : GoodIn wsX8_start wsX8_in := goodIn_r _ [11] (by decide +kernel) (by decide +kernel)
set_option maxRecDepth 20000 in
theorem gX8_start_X8_in : GoodIn wsX8_start (va_wsS RX8 44 yX8_in wsX8_in) := goodIn_app (goodIn_of _ (by decide +kernel)) ggX8_start_X8_in
set_option maxRecDepth 20000 in
theorem ggX8_start_X8_note : GoodIn wsX8_start wsX8_note := goodIn_r _ [15, 16, 17, 2, 26, 27, 28, 29, 30, 31, 32, 33, 34, 35, 36, 37, 38, 39, 40, 41, 42, 43] (by decide +kernel) (by decide +kernel)
set_option maxRecDepth 20000 in
theorem gX8_start_X8_note : GoodIn wsX8_start (wsV RX8 163 RX8 yX8_note wsX8_note) := goodIn_app (goodIn_of _ (by decide +kernel)) ggX8_start_X8_note
set_option maxRecDepth 20000 in
theorem ggX8_start_X8_thereBy : GoodIn wsX8_start wsX8_thereBy := goodIn_r _ [21, 2, 22, 23, 24, 6, 25, 8, 26, 27, 28, 29, 30, 31, 32, 33, 34, 35, 36, 37, 38, 39, 40, 41, 42, 43] (by decide +kernel) (by decide +kernel)
set_option maxRecDepth 20000 in
theorem gX8_start_X8_thereBy : GoodIn wsX8_start (wsV RX8 130 RX8 yX8_thereBy wsX8_thereBy) := goodIn_app (goodIn_of _ (by decide +kernel)) ggX8_start_X8_thereBy
theorem dX8_start_0 : decode cX8_start 0 = .ok (.aload_n 0, 1) := by decide +kernel
theorem dX8_start_1 : decode cX8_start 1 = .ok (.iload_n 1, 1) := by decide +kernel
theorem dX8_start_2 : decode cX8_start 2 = .ok (.invokevirtual 145, 3) := by decide +kernel
theorem dX8_start_5 : decode cX8_start 5 = .ok (.ifCond .ne 6, 3) := by decide +kernel
theorem dX8_start_8 : decode cX8_start 8 = .ok (.bipush (-2), 2) := by decide +kernel
theorem dX8_start_10 : decode cX8_start 10 = .ok (.ireturn, 1) := by decide +kernel
theorem dX8_start_11 : decode cX8_start 11 = .ok (.iload_n 2, 1) := by decide +kernel
theorem dX8_start_12 : decode cX8_start 12 = .ok (.i2l, 1) := by decide +kernel
theorem dX8_start_13 : decode cX8_start 13 = .ok (.lconst 0, 1) := by decide +kernel
theorem dX8_start_14 : decode cX8_start 14 = .ok (.ldc2_w 157, 3) := by decide +kernel
theorem dX8_start_17 : decode cX8_start 17 = .ok (.invokestatic 44, 3) := by decide +kernel
theorem dX8_start_20 : decode cX8_start 20 = .ok (.ifCond .ne 6, 3) := by decide +kernel
theorem dX8_start_23 : decode cX8_start 23 = .ok (.bipush (-3), 2) := by decide +kernel
theorem dX8_start_25 : decode cX8_start 25 = .ok (.ireturn, 1) := by decide +kernel
theorem dX8_start_26 : decode cX8_start 26 = .ok (.aload_n 0, 1) := by decide +kernel
theorem dX8_start_27 : decode cX8_start 27 = .ok (.invokevirtual 163, 3) := by decide +kernel
theorem dX8_start_30 : decode cX8_start 30 = .ok (.aload_n 0, 1) := by decide +kernel
theorem dX8_start_31 : decode cX8_start 31 = .ok (.getfield 13, 3) := by decide +kernel
theorem dX8_start_34 : decode cX8_start 34 = .ok (.bipush 60, 2) := by decide +kernel
theorem dX8_start_36 : decode cX8_start 36 = .ok (.iload_n 1, 1) := by decide +kernel
theorem dX8_start_37 : decode cX8_start 37 = .ok (.iadd, 1) := by decide +kernel
theorem dX8_start_38 : decode cX8_start 38 = .ok (.iload_n 2, 1) := by decide +kernel
theorem dX8_start_39 : decode cX8_start 39 = .ok (.iastore, 1) := by decide +kernel
theorem dX8_start_40 : decode cX8_start 40 = .ok (.aload_n 0, 1) := by decide +kernel
theorem dX8_start_41 : decode cX8_start 41 = .ok (.iload_n 1, 1) := by decide +kernel
theorem dX8_start_42 : decode cX8_start 42 = .ok (.iload_n 2, 1) := by decide +kernel
theorem dX8_start_43 : decode cX8_start 43 = .ok (.invokevirtual 130, 3) := by decide +kernel
theorem dX8_start_46 : decode cX8_start 46 = .ok (.ireturn, 1) := by decide +kernel
set_option maxRecDepth 20000 in
theorem ggX8_stays_X8_isPerson : GoodIn wsX8_stays wsX8_isPerson := goodIn_r _ [6, 7, 8, 9, 5, 10, 17, 18, 19, 20, 21, 22, 23, 24, 25, 26, 27, 28, 29, 30, 31, 32, 33, 34] (by decide +kernel) (by decide +kernel)
set_option maxRecDepth 20000 in
theorem gX8_stays_X8_isPerson : GoodIn wsX8_stays (wsV RX8 145 RX8 yX8_isPerson wsX8_isPerson) := goodIn_app (goodIn_of _ (by decide +kernel)) ggX8_stays_X8_isPerson
set_option maxRecDepth 20000 in
theorem ggX8_stays_X8_note : GoodIn wsX8_stays wsX8_note := goodIn_r _ [14, 15, 16, 1, 17, 18, 19, 20, 21, 22, 23, 24, 25, 26, 27, 28, 29, 30, 31, 32, 33, 34] (by decide +kernel) (by decide +kernel)
set_option maxRecDepth 20000 in
theorem gX8_stays_X8_note : GoodIn wsX8_stays (wsV RX8 163 RX8 yX8_note wsX8_note) := goodIn_app (goodIn_of _ (by decide +kernel)) ggX8_stays_X8_note
theorem dX8_stays_0 : decode cX8_stays 0 = .ok (.aload_n 0, 1) := by decide +kernel
theorem dX8_stays_1 : decode cX8_stays 1 = .ok (.iload_n 1, 1) := by decide +kernel
theorem dX8_stays_2 : decode cX8_stays 2 = .ok (.invokevirtual 145, 3) := by decide +kernel
theorem dX8_stays_5 : decode cX8_stays 5 = .ok (.ifCond .ne 6, 3) := by decide +kernel
theorem dX8_stays_8 : decode cX8_stays 8 = .ok (.bipush (-2), 2) := by decide +kernel
theorem dX8_stays_10 : decode cX8_stays 10 = .ok (.ireturn, 1) := by decide +kernel
theorem dX8_stays_11 : decode cX8_stays 11 = .ok (.aload_n 0, 1) := by decide +kernel
theorem dX8_stays_12 : decode cX8_stays 12 = .ok (.getfield 13, 3) := by decide +kernel
theorem dX8_stays_15 : decode cX8_stays 15 = .ok (.bipush 60, 2) := by decide +kernel
theorem dX8_stays_17 : decode cX8_stays 17 = .ok (.iload_n 1, 1) := by decide +kernel
theorem dX8_stays_18 : decode cX8_stays 18 = .ok (.iadd, 1) := by decide +kernel
theorem dX8_stays_19 : decode cX8_stays 19 = .ok (.iaload, 1) := by decide +kernel
theorem dX8_stays_20 : decode cX8_stays 20 = .ok (.istore_n 2, 1) := by decide +kernel
theorem dX8_stays_21 : decode cX8_stays 21 = .ok (.iload_n 2, 1) := by decide +kernel
theorem dX8_stays_22 : decode cX8_stays 22 = .ok (.ifCond .ge 6, 3) := by decide +kernel
theorem dX8_stays_25 : decode cX8_stays 25 = .ok (.bipush (-4), 2) := by decide +kernel
theorem dX8_stays_27 : decode cX8_stays 27 = .ok (.ireturn, 1) := by decide +kernel
theorem dX8_stays_28 : decode cX8_stays 28 = .ok (.aload_n 0, 1) := by decide +kernel
theorem dX8_stays_29 : decode cX8_stays 29 = .ok (.invokevirtual 163, 3) := by decide +kernel
theorem dX8_stays_32 : decode cX8_stays 32 = .ok (.aload_n 0, 1) := by decide +kernel
theorem dX8_stays_33 : decode cX8_stays 33 = .ok (.getfield 13, 3) := by decide +kernel
theorem dX8_stays_36 : decode cX8_stays 36 = .ok (.bipush 60, 2) := by decide +kernel
theorem dX8_stays_38 : decode cX8_stays 38 = .ok (.iload_n 1, 1) := by decide +kernel
theorem dX8_stays_39 : decode cX8_stays 39 = .ok (.iadd, 1) := by decide +kernel
theorem dX8_stays_40 : decode cX8_stays 40 = .ok (.iconst (-1), 1) := by decide +kernel
theorem dX8_stays_41 : decode cX8_stays 41 = .ok (.iastore, 1) := by decide +kernel
theorem dX8_stays_42 : decode cX8_stays 42 = .ok (.iload_n 2, 1) := by decide +kernel
theorem dX8_stays_43 : decode cX8_stays 43 = .ok (.ireturn, 1) := by decide +kernel
set_option maxRecDepth 20000 in
theorem ggX8_rope_X8_isPerson : GoodIn wsX8_rope wsX8_isPerson := goodIn_r _ [6, 7, 8, 9, 5, 10, 17, 18, 19, 20, 21, 22, 23, 24, 25, 26, 27, 28, 29, 30, 31, 32, 33, 34] (by decide +kernel) (by decide +kernel)
set_option maxRecDepth 20000 in
theorem gX8_rope_X8_isPerson : GoodIn wsX8_rope (wsV RX8 145 RX8 yX8_isPerson wsX8_isPerson) := goodIn_app (goodIn_of _ (by decide +kernel)) ggX8_rope_X8_isPerson
set_option maxRecDepth 20000 in
theorem ggX8_rope_X8_in : GoodIn wsX8_rope wsX8_in := goodIn_r _ [10] (by decide +kernel) (by decide +kernel)
set_option maxRecDepth 20000 in
theorem gX8_rope_X8_in : GoodIn wsX8_rope (va_wsS RX8 44 yX8_in wsX8_in) := goodIn_app (goodIn_of _ (by decide +kernel)) ggX8_rope_X8_in
set_option maxRecDepth 20000 in
theorem ggX8_rope_X8_note : GoodIn wsX8_rope wsX8_note := goodIn_r _ [14, 15, 16, 1, 17, 18, 19, 20, 21, 22, 23, 24, 25, 26, 27, 28, 29, 30, 31, 32, 33, 34] (by decide +kernel) (by decide +kernel)
set_option maxRecDepth 20000 in
theorem gX8_rope_X8_note : GoodIn wsX8_rope (wsV RX8 163 RX8 yX8_note wsX8_note) := goodIn_app (goodIn_of _ (by decide +kernel)) ggX8_rope_X8_note
theorem dX8_rope_0 : decode cX8_rope 0 = .ok (.aload_n 0, 1) := by decide +kernel
theorem dX8_rope_1 : decode cX8_rope 1 = .ok (.iload_n 1, 1) := by decide +kernel
theorem dX8_rope_2 : decode cX8_rope 2 = .ok (.invokevirtual 145, 3) := by decide +kernel
theorem dX8_rope_5 : decode cX8_rope 5 = .ok (.ifCond .ne 6, 3) := by decide +kernel
theorem dX8_rope_8 : decode cX8_rope 8 = .ok (.bipush (-2), 2) := by decide +kernel
theorem dX8_rope_10 : decode cX8_rope 10 = .ok (.ireturn, 1) := by decide +kernel
theorem dX8_rope_11 : decode cX8_rope 11 = .ok (.iload_n 2, 1) := by decide +kernel
theorem dX8_rope_12 : decode cX8_rope 12 = .ok (.i2l, 1) := by decide +kernel
theorem dX8_rope_13 : decode cX8_rope 13 = .ok (.lconst 0, 1) := by decide +kernel
theorem dX8_rope_14 : decode cX8_rope 14 = .ok (.lconst 1, 1) := by decide +kernel
theorem dX8_rope_15 : decode cX8_rope 15 = .ok (.invokestatic 44, 3) := by decide +kernel
theorem dX8_rope_18 : decode cX8_rope 18 = .ok (.ifCond .ne 6, 3) := by decide +kernel
theorem dX8_rope_21 : decode cX8_rope 21 = .ok (.bipush (-3), 2) := by decide +kernel
theorem dX8_rope_23 : decode cX8_rope 23 = .ok (.ireturn, 1) := by decide +kernel
theorem dX8_rope_24 : decode cX8_rope 24 = .ok (.aload_n 0, 1) := by decide +kernel
theorem dX8_rope_25 : decode cX8_rope 25 = .ok (.invokevirtual 163, 3) := by decide +kernel
theorem dX8_rope_28 : decode cX8_rope 28 = .ok (.aload_n 0, 1) := by decide +kernel
theorem dX8_rope_29 : decode cX8_rope 29 = .ok (.getfield 13, 3) := by decide +kernel
theorem dX8_rope_32 : decode cX8_rope 32 = .ok (.bipush 66, 2) := by decide +kernel
theorem dX8_rope_34 : decode cX8_rope 34 = .ok (.iload_n 1, 1) := by decide +kernel
theorem dX8_rope_35 : decode cX8_rope 35 = .ok (.iadd, 1) := by decide +kernel
theorem dX8_rope_36 : decode cX8_rope 36 = .ok (.iaload, 1) := by decide +kernel
theorem dX8_rope_37 : decode cX8_rope 37 = .ok (.istore_n 3, 1) := by decide +kernel
theorem dX8_rope_38 : decode cX8_rope 38 = .ok (.aload_n 0, 1) := by decide +kernel
theorem dX8_rope_39 : decode cX8_rope 39 = .ok (.getfield 13, 3) := by decide +kernel
theorem dX8_rope_42 : decode cX8_rope 42 = .ok (.bipush 66, 2) := by decide +kernel
theorem dX8_rope_44 : decode cX8_rope 44 = .ok (.iload_n 1, 1) := by decide +kernel
theorem dX8_rope_45 : decode cX8_rope 45 = .ok (.iadd, 1) := by decide +kernel
theorem dX8_rope_46 : decode cX8_rope 46 = .ok (.iload_n 2, 1) := by decide +kernel
theorem dX8_rope_47 : decode cX8_rope 47 = .ok (.iastore, 1) := by decide +kernel
theorem dX8_rope_48 : decode cX8_rope 48 = .ok (.iload_n 3, 1) := by decide +kernel
theorem dX8_rope_49 : decode cX8_rope 49 = .ok (.ireturn, 1) := by decide +kernel
set_option maxRecDepth 20000 in
theorem ggX8_clock_X8_in : GoodIn wsX8_clock wsX8_in := goodIn_r _ [6] (by decide +kernel) (by decide +kernel)
set_option maxRecDepth 20000 in
theorem gX8_clock_X8_in : GoodIn wsX8_clock (va_wsS RX8 44 yX8_in wsX8_in) := goodIn_app (goodIn_of _ (by decide +kernel)) ggX8_clock_X8_in
set_option maxRecDepth 20000 in
theorem ggX8_clock_X8_note : GoodIn wsX8_clock wsX8_note := goodIn_r _ [10, 11, 12, 2, 13, 14, 15, 16, 17, 18, 19, 20, 21, 22, 23, 24, 25, 26, 27, 28, 29, 30] (by decide +kernel) (by decide +kernel)
set_option maxRecDepth 20000 in
theorem gX8_clock_X8_note : GoodIn wsX8_clock (wsV RX8 163 RX8 yX8_note wsX8_note) := goodIn_app (goodIn_of _ (by decide +kernel)) ggX8_clock_X8_note
theorem dX8_clock_0 : decode cX8_clock 0 = .ok (.iload_n 1, 1) := by decide +kernel
theorem dX8_clock_1 : decode cX8_clock 1 = .ok (.i2l, 1) := by decide +kernel
theorem dX8_clock_2 : decode cX8_clock 2 = .ok (.lconst 0, 1) := by decide +kernel
theorem dX8_clock_3 : decode cX8_clock 3 = .ok (.ldc2_w 166, 3) := by decide +kernel
theorem dX8_clock_6 : decode cX8_clock 6 = .ok (.invokestatic 44, 3) := by decide +kernel
theorem dX8_clock_9 : decode cX8_clock 9 = .ok (.ifCond .ne 6, 3) := by decide +kernel
theorem dX8_clock_12 : decode cX8_clock 12 = .ok (.bipush (-3), 2) := by decide +kernel
theorem dX8_clock_14 : decode cX8_clock 14 = .ok (.ireturn, 1) := by decide +kernel
theorem dX8_clock_15 : decode cX8_clock 15 = .ok (.aload_n 0, 1) := by decide +kernel
theorem dX8_clock_16 : decode cX8_clock 16 = .ok (.invokevirtual 163, 3) := by decide +kernel
theorem dX8_clock_19 : decode cX8_clock 19 = .ok (.aload_n 0, 1) := by decide +kernel
theorem dX8_clock_20 : decode cX8_clock 20 = .ok (.getfield 13, 3) := by decide +kernel
theorem dX8_clock_23 : decode cX8_clock 23 = .ok (.bipush 72, 2) := by decide +kernel
theorem dX8_clock_25 : decode cX8_clock 25 = .ok (.iaload, 1) := by decide +kernel
theorem dX8_clock_26 : decode cX8_clock 26 = .ok (.istore_n 2, 1) := by decide +kernel
theorem dX8_clock_27 : decode cX8_clock 27 = .ok (.aload_n 0, 1) := by decide +kernel
theorem dX8_clock_28 : decode cX8_clock 28 = .ok (.getfield 13, 3) := by decide +kernel
theorem dX8_clock_31 : decode cX8_clock 31 = .ok (.bipush 72, 2) := by decide +kernel
theorem dX8_clock_33 : decode cX8_clock 33 = .ok (.iload_n 1, 1) := by decide +kernel
theorem dX8_clock_34 : decode cX8_clock 34 = .ok (.iastore, 1) := by decide +kernel
theorem dX8_clock_35 : decode cX8_clock 35 = .ok (.iload_n 2, 1) := by decide +kernel
theorem dX8_clock_36 : decode cX8_clock 36 = .ok (.ireturn, 1) := by decide +kernel
set_option maxRecDepth 20000 in
theorem ggX8_halve_X8_isPerson : GoodIn wsX8_halve wsX8_isPerson := goodIn_r _ [6, 7, 8, 9, 5, 10, 21, 22, 23, 24, 25, 26, 27, 28, 29, 30, 31, 32, 33, 34, 35, 36, 37, 38] (by decide +kernel) (by decide +kernel)
set_option maxRecDepth 20000 in
theorem gX8_halve_X8_isPerson : GoodIn wsX8_halve (wsV RX8 145 RX8 yX8_isPerson wsX8_isPerson) := goodIn_app (goodIn_of _ (by decide +kernel)) ggX8_halve_X8_isPerson
set_option maxRecDepth 20000 in
theorem ggX8_halve_X8_ownMany : GoodIn wsX8_halve wsX8_ownMany := goodIn_r _ [14, 1, 21, 22, 23, 24, 25, 26, 27, 28, 29, 30, 31, 32, 33, 34, 35, 36, 37, 38] (by decide +kernel) (by decide +kernel)
set_option maxRecDepth 20000 in
theorem gX8_halve_X8_ownMany : GoodIn wsX8_halve (wsV RX8 154 RX8 yX8_ownMany wsX8_ownMany) := goodIn_app (goodIn_of _ (by decide +kernel)) ggX8_halve_X8_ownMany
set_option maxRecDepth 20000 in
theorem ggX8_halve_X8_note : GoodIn wsX8_halve wsX8_note := goodIn_r _ [18, 19, 20, 1, 21, 22, 23, 24, 25, 26, 27, 28, 29, 30, 31, 32, 33, 34, 35, 36, 37, 38] (by decide +kernel) (by decide +kernel)
set_option maxRecDepth 20000 in
theorem gX8_halve_X8_note : GoodIn wsX8_halve (wsV RX8 163 RX8 yX8_note wsX8_note) := goodIn_app (goodIn_of _ (by decide +kernel)) ggX8_halve_X8_note
theorem dX8_halve_0 : decode cX8_halve 0 = .ok (.aload_n 0, 1) := by decide +kernel
theorem dX8_halve_1 : decode cX8_halve 1 = .ok (.iload_n 1, 1) := by decide +kernel
theorem dX8_halve_2 : decode cX8_halve 2 = .ok (.invokevirtual 145, 3) := by decide +kernel
theorem dX8_halve_5 : decode cX8_halve 5 = .ok (.ifCond .eq 16, 3) := by decide +kernel
theorem dX8_halve_8 : decode cX8_halve 8 = .ok (.aload_n 0, 1) := by decide +kernel
theorem dX8_halve_9 : decode cX8_halve 9 = .ok (.iload_n 2, 1) := by decide +kernel
theorem dX8_halve_10 : decode cX8_halve 10 = .ok (.invokevirtual 145, 3) := by decide +kernel
theorem dX8_halve_13 : decode cX8_halve 13 = .ok (.ifCond .eq 8, 3) := by decide +kernel
theorem dX8_halve_16 : decode cX8_halve 16 = .ok (.iload_n 1, 1) := by decide +kernel
theorem dX8_halve_17 : decode cX8_halve 17 = .ok (.iload_n 2, 1) := by decide +kernel
theorem dX8_halve_18 : decode cX8_halve 18 = .ok (.if_icmp .ne 6, 3) := by decide +kernel
theorem dX8_halve_21 : decode cX8_halve 21 = .ok (.bipush (-2), 2) := by decide +kernel
theorem dX8_halve_23 : decode cX8_halve 23 = .ok (.ireturn, 1) := by decide +kernel
theorem dX8_halve_24 : decode cX8_halve 24 = .ok (.aload_n 0, 1) := by decide +kernel
theorem dX8_halve_25 : decode cX8_halve 25 = .ok (.iload_n 1, 1) := by decide +kernel
theorem dX8_halve_26 : decode cX8_halve 26 = .ok (.invokevirtual 154, 3) := by decide +kernel
theorem dX8_halve_29 : decode cX8_halve 29 = .ok (.iconst 2, 1) := by decide +kernel
theorem dX8_halve_30 : decode cX8_halve 30 = .ok (.if_icmp .ge 6, 3) := by decide +kernel
theorem dX8_halve_33 : decode cX8_halve 33 = .ok (.bipush (-4), 2) := by decide +kernel
theorem dX8_halve_35 : decode cX8_halve 35 = .ok (.ireturn, 1) := by decide +kernel
theorem dX8_halve_36 : decode cX8_halve 36 = .ok (.aload_n 0, 1) := by decide +kernel
theorem dX8_halve_37 : decode cX8_halve 37 = .ok (.invokevirtual 163, 3) := by decide +kernel
theorem dX8_halve_40 : decode cX8_halve 40 = .ok (.iconst 0, 1) := by decide +kernel
theorem dX8_halve_41 : decode cX8_halve 41 = .ok (.istore_n 3, 1) := by decide +kernel
theorem dX8_halve_42 : decode cX8_halve 42 = .ok (.iconst 0, 1) := by decide +kernel
theorem dX8_halve_43 : decode cX8_halve 43 = .ok (.istore 4, 2) := by decide +kernel
theorem dX8_halve_45 : decode cX8_halve 45 = .ok (.iconst 0, 1) := by decide +kernel
theorem dX8_halve_46 : decode cX8_halve 46 = .ok (.istore 5, 2) := by decide +kernel
theorem dX8_halve_48 : decode cX8_halve 48 = .ok (.iload 5, 2) := by decide +kernel
theorem dX8_halve_50 : decode cX8_halve 50 = .ok (.bipush 60, 2) := by decide +kernel
theorem dX8_halve_52 : decode cX8_halve 52 = .ok (.if_icmp .ge 40, 3) := by decide +kernel
theorem dX8_halve_55 : decode cX8_halve 55 = .ok (.aload_n 0, 1) := by decide +kernel
theorem dX8_halve_56 : decode cX8_halve 56 = .ok (.getfield 13, 3) := by decide +kernel
theorem dX8_halve_59 : decode cX8_halve 59 = .ok (.iload 5, 2) := by decide +kernel
theorem dX8_halve_61 : decode cX8_halve 61 = .ok (.iaload, 1) := by decide +kernel
theorem dX8_halve_62 : decode cX8_halve 62 = .ok (.iload_n 1, 1) := by decide +kernel
theorem dX8_halve_63 : decode cX8_halve 63 = .ok (.if_icmp .ne 23, 3) := by decide +kernel
theorem dX8_halve_66 : decode cX8_halve 66 = .ok (.iinc 3 1, 3) := by decide +kernel
theorem dX8_halve_69 : decode cX8_halve 69 = .ok (.iload_n 3, 1) := by decide +kernel
theorem dX8_halve_70 : decode cX8_halve 70 = .ok (.iconst 2, 1) := by decide +kernel
theorem dX8_halve_71 : decode cX8_halve 71 = .ok (.irem, 1) := by decide +kernel
theorem dX8_halve_72 : decode cX8_halve 72 = .ok (.ifCond .ne 14, 3) := by decide +kernel
theorem dX8_halve_75 : decode cX8_halve 75 = .ok (.aload_n 0, 1) := by decide +kernel
theorem dX8_halve_76 : decode cX8_halve 76 = .ok (.getfield 13, 3) := by decide +kernel
theorem dX8_halve_79 : decode cX8_halve 79 = .ok (.iload 5, 2) := by decide +kernel
theorem dX8_halve_81 : decode cX8_halve 81 = .ok (.iload_n 2, 1) := by decide +kernel
theorem dX8_halve_82 : decode cX8_halve 82 = .ok (.iastore, 1) := by decide +kernel
theorem dX8_halve_83 : decode cX8_halve 83 = .ok (.iinc 4 1, 3) := by decide +kernel
theorem dX8_halve_86 : decode cX8_halve 86 = .ok (.iinc 5 1, 3) := by decide +kernel
theorem dX8_halve_89 : decode cX8_halve 89 = .ok (.goto (-41), 3) := by decide +kernel
theorem dX8_halve_92 : decode cX8_halve 92 = .ok (.iload 4, 2) := by decide +kernel
theorem dX8_halve_94 : decode cX8_halve 94 = .ok (.ireturn, 1) := by decide +kernel
set_option maxRecDepth 20000 in
theorem ggX8_sell_X8_isPerson : GoodIn wsX8_sell wsX8_isPerson := goodIn_r _ [7, 8, 9, 10, 6, 11, 18, 19, 20, 21, 22, 23, 24, 25, 26, 27, 28, 29, 30, 31, 32, 33, 34, 35] (by decide +kernel) (by decide +kernel)
set_option maxRecDepth 20000 in
theorem gX8_sell_X8_isPerson : GoodIn wsX8_sell (wsV RX8 145 RX8 yX8_isPerson wsX8_isPerson) := goodIn_app (goodIn_of _ (by decide +kernel)) ggX8_sell_X8_isPerson
set_option maxRecDepth 20000 in
theorem ggX8_sell_X8_in : GoodIn wsX8_sell wsX8_in := goodIn_r _ [11] (by decide +kernel) (by decide +kernel)
set_option maxRecDepth 20000 in
theorem gX8_sell_X8_in : GoodIn wsX8_sell (va_wsS RX8 44 yX8_in wsX8_in) := goodIn_app (goodIn_of _ (by decide +kernel)) ggX8_sell_X8_in
set_option maxRecDepth 20000 in
theorem ggX8_sell_X8_note : GoodIn wsX8_sell wsX8_note := goodIn_r _ [15, 16, 17, 2, 18, 19, 20, 21, 22, 23, 24, 25, 26, 27, 28, 29, 30, 31, 32, 33, 34, 35] (by decide +kernel) (by decide +kernel)
set_option maxRecDepth 20000 in
theorem gX8_sell_X8_note : GoodIn wsX8_sell (wsV RX8 163 RX8 yX8_note wsX8_note) := goodIn_app (goodIn_of _ (by decide +kernel)) ggX8_sell_X8_note
theorem dX8_sell_0 : decode cX8_sell 0 = .ok (.iload_n 2, 1) := by decide +kernel
theorem dX8_sell_1 : decode cX8_sell 1 = .ok (.iconst (-1), 1) := by decide +kernel
theorem dX8_sell_2 : decode cX8_sell 2 = .ok (.if_icmp .eq 14, 3) := by decide +kernel
theorem dX8_sell_5 : decode cX8_sell 5 = .ok (.aload_n 0, 1) := by decide +kernel
theorem dX8_sell_6 : decode cX8_sell 6 = .ok (.iload_n 2, 1) := by decide +kernel
theorem dX8_sell_7 : decode cX8_sell 7 = .ok (.invokevirtual 145, 3) := by decide +kernel
theorem dX8_sell_10 : decode cX8_sell 10 = .ok (.ifCond .ne 6, 3) := by decide +kernel
theorem dX8_sell_13 : decode cX8_sell 13 = .ok (.bipush (-2), 2) := by decide +kernel
theorem dX8_sell_15 : decode cX8_sell 15 = .ok (.ireturn, 1) := by decide +kernel
theorem dX8_sell_16 : decode cX8_sell 16 = .ok (.iload_n 1, 1) := by decide +kernel
theorem dX8_sell_17 : decode cX8_sell 17 = .ok (.i2l, 1) := by decide +kernel
theorem dX8_sell_18 : decode cX8_sell 18 = .ok (.lconst 0, 1) := by decide +kernel
theorem dX8_sell_19 : decode cX8_sell 19 = .ok (.ldc2_w 157, 3) := by decide +kernel
theorem dX8_sell_22 : decode cX8_sell 22 = .ok (.invokestatic 44, 3) := by decide +kernel
theorem dX8_sell_25 : decode cX8_sell 25 = .ok (.ifCond .ne 6, 3) := by decide +kernel
theorem dX8_sell_28 : decode cX8_sell 28 = .ok (.bipush (-3), 2) := by decide +kernel
theorem dX8_sell_30 : decode cX8_sell 30 = .ok (.ireturn, 1) := by decide +kernel
theorem dX8_sell_31 : decode cX8_sell 31 = .ok (.aload_n 0, 1) := by decide +kernel
theorem dX8_sell_32 : decode cX8_sell 32 = .ok (.getfield 13, 3) := by decide +kernel
theorem dX8_sell_35 : decode cX8_sell 35 = .ok (.iload_n 1, 1) := by decide +kernel
theorem dX8_sell_36 : decode cX8_sell 36 = .ok (.iaload, 1) := by decide +kernel
theorem dX8_sell_37 : decode cX8_sell 37 = .ok (.istore_n 3, 1) := by decide +kernel
theorem dX8_sell_38 : decode cX8_sell 38 = .ok (.iload_n 3, 1) := by decide +kernel
theorem dX8_sell_39 : decode cX8_sell 39 = .ok (.iload_n 2, 1) := by decide +kernel
theorem dX8_sell_40 : decode cX8_sell 40 = .ok (.if_icmp .ne 6, 3) := by decide +kernel
theorem dX8_sell_43 : decode cX8_sell 43 = .ok (.bipush (-4), 2) := by decide +kernel
theorem dX8_sell_45 : decode cX8_sell 45 = .ok (.ireturn, 1) := by decide +kernel
theorem dX8_sell_46 : decode cX8_sell 46 = .ok (.aload_n 0, 1) := by decide +kernel
theorem dX8_sell_47 : decode cX8_sell 47 = .ok (.invokevirtual 163, 3) := by decide +kernel
theorem dX8_sell_50 : decode cX8_sell 50 = .ok (.aload_n 0, 1) := by decide +kernel
theorem dX8_sell_51 : decode cX8_sell 51 = .ok (.getfield 13, 3) := by decide +kernel
theorem dX8_sell_54 : decode cX8_sell 54 = .ok (.iload_n 1, 1) := by decide +kernel
theorem dX8_sell_55 : decode cX8_sell 55 = .ok (.iload_n 2, 1) := by decide +kernel
theorem dX8_sell_56 : decode cX8_sell 56 = .ok (.iastore, 1) := by decide +kernel
theorem dX8_sell_57 : decode cX8_sell 57 = .ok (.iload_n 3, 1) := by decide +kernel
theorem dX8_sell_58 : decode cX8_sell 58 = .ok (.ireturn, 1) := by decide +kernel
theorem dX8_undo_0 : decode cX8_undo 0 = .ok (.aload_n 0, 1) := by decide +kernel
theorem dX8_undo_1 : decode cX8_undo 1 = .ok (.getfield 124, 3) := by decide +kernel
theorem dX8_undo_4 : decode cX8_undo 4 = .ok (.ifCond .ne 6, 3) := by decide +kernel
theorem dX8_undo_7 : decode cX8_undo 7 = .ok (.bipush (-4), 2) := by decide +kernel
theorem dX8_undo_9 : decode cX8_undo 9 = .ok (.ireturn, 1) := by decide +kernel
theorem dX8_undo_10 : decode cX8_undo 10 = .ok (.aload_n 0, 1) := by decide +kernel
theorem dX8_undo_11 : decode cX8_undo 11 = .ok (.dup, 1) := by decide +kernel
theorem dX8_undo_12 : decode cX8_undo 12 = .ok (.getfield 124, 3) := by decide +kernel
theorem dX8_undo_15 : decode cX8_undo 15 = .ok (.iconst 1, 1) := by decide +kernel
theorem dX8_undo_16 : decode cX8_undo 16 = .ok (.isub, 1) := by decide +kernel
theorem dX8_undo_17 : decode cX8_undo 17 = .ok (.putfield 124, 3) := by decide +kernel
theorem dX8_undo_20 : decode cX8_undo 20 = .ok (.iconst 0, 1) := by decide +kernel
theorem dX8_undo_21 : decode cX8_undo 21 = .ok (.istore_n 1, 1) := by decide +kernel
theorem dX8_undo_22 : decode cX8_undo 22 = .ok (.iload_n 1, 1) := by decide +kernel
theorem dX8_undo_23 : decode cX8_undo 23 = .ok (.bipush 73, 2) := by decide +kernel
theorem dX8_undo_25 : decode cX8_undo 25 = .ok (.if_icmp .ge 29, 3) := by decide +kernel
theorem dX8_undo_28 : decode cX8_undo 28 = .ok (.aload_n 0, 1) := by decide +kernel
theorem dX8_undo_29 : decode cX8_undo 29 = .ok (.getfield 13, 3) := by decide +kernel
theorem dX8_undo_32 : decode cX8_undo 32 = .ok (.iload_n 1, 1) := by decide +kernel
theorem dX8_undo_33 : decode cX8_undo 33 = .ok (.aload_n 0, 1) := by decide +kernel
theorem dX8_undo_34 : decode cX8_undo 34 = .ok (.getfield 22, 3) := by decide +kernel
theorem dX8_undo_37 : decode cX8_undo 37 = .ok (.bipush 73, 2) := by decide +kernel
theorem dX8_undo_39 : decode cX8_undo 39 = .ok (.aload_n 0, 1) := by decide +kernel
theorem dX8_undo_40 : decode cX8_undo 40 = .ok (.getfield 124, 3) := by decide +kernel
theorem dX8_undo_43 : decode cX8_undo 43 = .ok (.imul, 1) := by decide +kernel
theorem dX8_undo_44 : decode cX8_undo 44 = .ok (.iload_n 1, 1) := by decide +kernel
theorem dX8_undo_45 : decode cX8_undo 45 = .ok (.iadd, 1) := by decide +kernel
theorem dX8_undo_46 : decode cX8_undo 46 = .ok (.iaload, 1) := by decide +kernel
theorem dX8_undo_47 : decode cX8_undo 47 = .ok (.iastore, 1) := by decide +kernel
theorem dX8_undo_48 : decode cX8_undo 48 = .ok (.iinc 1 1, 3) := by decide +kernel
theorem dX8_undo_51 : decode cX8_undo 51 = .ok (.goto (-29), 3) := by decide +kernel
theorem dX8_undo_54 : decode cX8_undo 54 = .ok (.aload_n 0, 1) := by decide +kernel
theorem dX8_undo_55 : decode cX8_undo 55 = .ok (.getfield 124, 3) := by decide +kernel
theorem dX8_undo_58 : decode cX8_undo 58 = .ok (.ireturn, 1) := by decide +kernel
set_option maxRecDepth 20000 in
theorem ggX8_keep_X8_in : GoodIn wsX8_keep wsX8_in := goodIn_r _ [7] (by decide +kernel) (by decide +kernel)
set_option maxRecDepth 20000 in
theorem gX8_keep_X8_in : GoodIn wsX8_keep (va_wsS RX8 44 yX8_in wsX8_in) := goodIn_app (goodIn_of _ (by decide +kernel)) ggX8_keep_X8_in
theorem dX8_keep_0 : decode cX8_keep 0 = .ok (.iload_n 1, 1) := by decide +kernel
theorem dX8_keep_1 : decode cX8_keep 1 = .ok (.i2l, 1) := by decide +kernel
theorem dX8_keep_2 : decode cX8_keep 2 = .ok (.lconst 0, 1) := by decide +kernel
theorem dX8_keep_3 : decode cX8_keep 3 = .ok (.lconst 1, 1) := by decide +kernel
theorem dX8_keep_4 : decode cX8_keep 4 = .ok (.invokestatic 44, 3) := by decide +kernel
theorem dX8_keep_7 : decode cX8_keep 7 = .ok (.ifCond .ne 6, 3) := by decide +kernel
theorem dX8_keep_10 : decode cX8_keep 10 = .ok (.bipush (-2), 2) := by decide +kernel
theorem dX8_keep_12 : decode cX8_keep 12 = .ok (.ireturn, 1) := by decide +kernel
theorem dX8_keep_13 : decode cX8_keep 13 = .ok (.iconst 0, 1) := by decide +kernel
theorem dX8_keep_14 : decode cX8_keep 14 = .ok (.istore_n 2, 1) := by decide +kernel
theorem dX8_keep_15 : decode cX8_keep 15 = .ok (.iload_n 2, 1) := by decide +kernel
theorem dX8_keep_16 : decode cX8_keep 16 = .ok (.bipush 73, 2) := by decide +kernel
theorem dX8_keep_18 : decode cX8_keep 18 = .ok (.if_icmp .ge 26, 3) := by decide +kernel
theorem dX8_keep_21 : decode cX8_keep 21 = .ok (.aload_n 0, 1) := by decide +kernel
theorem dX8_keep_22 : decode cX8_keep 22 = .ok (.getfield 29, 3) := by decide +kernel
theorem dX8_keep_25 : decode cX8_keep 25 = .ok (.bipush 73, 2) := by decide +kernel
theorem dX8_keep_27 : decode cX8_keep 27 = .ok (.iload_n 1, 1) := by decide +kernel
theorem dX8_keep_28 : decode cX8_keep 28 = .ok (.imul, 1) := by decide +kernel
theorem dX8_keep_29 : decode cX8_keep 29 = .ok (.iload_n 2, 1) := by decide +kernel
theorem dX8_keep_30 : decode cX8_keep 30 = .ok (.iadd, 1) := by decide +kernel
theorem dX8_keep_31 : decode cX8_keep 31 = .ok (.aload_n 0, 1) := by decide +kernel
theorem dX8_keep_32 : decode cX8_keep 32 = .ok (.getfield 13, 3) := by decide +kernel
theorem dX8_keep_35 : decode cX8_keep 35 = .ok (.iload_n 2, 1) := by decide +kernel
theorem dX8_keep_36 : decode cX8_keep 36 = .ok (.iaload, 1) := by decide +kernel
theorem dX8_keep_37 : decode cX8_keep 37 = .ok (.iastore, 1) := by decide +kernel
theorem dX8_keep_38 : decode cX8_keep 38 = .ok (.iinc 2 1, 3) := by decide +kernel
theorem dX8_keep_41 : decode cX8_keep 41 = .ok (.goto (-26), 3) := by decide +kernel
theorem dX8_keep_44 : decode cX8_keep 44 = .ok (.aload_n 0, 1) := by decide +kernel
theorem dX8_keep_45 : decode cX8_keep 45 = .ok (.getfield 25, 3) := by decide +kernel
theorem dX8_keep_48 : decode cX8_keep 48 = .ok (.iload_n 1, 1) := by decide +kernel
theorem dX8_keep_49 : decode cX8_keep 49 = .ok (.iconst 1, 1) := by decide +kernel
theorem dX8_keep_50 : decode cX8_keep 50 = .ok (.bastore, 1) := by decide +kernel
theorem dX8_keep_51 : decode cX8_keep 51 = .ok (.aload_n 0, 1) := by decide +kernel
theorem dX8_keep_52 : decode cX8_keep 52 = .ok (.getfield 13, 3) := by decide +kernel
theorem dX8_keep_55 : decode cX8_keep 55 = .ok (.bipush 72, 2) := by decide +kernel
theorem dX8_keep_57 : decode cX8_keep 57 = .ok (.iaload, 1) := by decide +kernel
theorem dX8_keep_58 : decode cX8_keep 58 = .ok (.ireturn, 1) := by decide +kernel
set_option maxRecDepth 20000 in
theorem ggX8_back_X8_in : GoodIn wsX8_back wsX8_in := goodIn_r _ [8] (by decide +kernel) (by decide +kernel)
set_option maxRecDepth 20000 in
theorem gX8_back_X8_in : GoodIn wsX8_back (va_wsS RX8 44 yX8_in wsX8_in) := goodIn_app (goodIn_of _ (by decide +kernel)) ggX8_back_X8_in
theorem dX8_back_0 : decode cX8_back 0 = .ok (.iload_n 1, 1) := by decide +kernel
theorem dX8_back_1 : decode cX8_back 1 = .ok (.i2l, 1) := by decide +kernel
theorem dX8_back_2 : decode cX8_back 2 = .ok (.lconst 0, 1) := by decide +kernel
theorem dX8_back_3 : decode cX8_back 3 = .ok (.lconst 1, 1) := by decide +kernel
theorem dX8_back_4 : decode cX8_back 4 = .ok (.invokestatic 44, 3) := by decide +kernel
theorem dX8_back_7 : decode cX8_back 7 = .ok (.ifCond .ne 6, 3) := by decide +kernel
theorem dX8_back_10 : decode cX8_back 10 = .ok (.bipush (-2), 2) := by decide +kernel
theorem dX8_back_12 : decode cX8_back 12 = .ok (.ireturn, 1) := by decide +kernel
theorem dX8_back_13 : decode cX8_back 13 = .ok (.aload_n 0, 1) := by decide +kernel
theorem dX8_back_14 : decode cX8_back 14 = .ok (.getfield 25, 3) := by decide +kernel
theorem dX8_back_17 : decode cX8_back 17 = .ok (.iload_n 1, 1) := by decide +kernel
theorem dX8_back_18 : decode cX8_back 18 = .ok (.baload, 1) := by decide +kernel
theorem dX8_back_19 : decode cX8_back 19 = .ok (.ifCond .ne 6, 3) := by decide +kernel
theorem dX8_back_22 : decode cX8_back 22 = .ok (.bipush (-4), 2) := by decide +kernel
theorem dX8_back_24 : decode cX8_back 24 = .ok (.ireturn, 1) := by decide +kernel
theorem dX8_back_25 : decode cX8_back 25 = .ok (.iconst 0, 1) := by decide +kernel
theorem dX8_back_26 : decode cX8_back 26 = .ok (.istore_n 2, 1) := by decide +kernel
theorem dX8_back_27 : decode cX8_back 27 = .ok (.iload_n 2, 1) := by decide +kernel
theorem dX8_back_28 : decode cX8_back 28 = .ok (.bipush 73, 2) := by decide +kernel
theorem dX8_back_30 : decode cX8_back 30 = .ok (.if_icmp .ge 26, 3) := by decide +kernel
theorem dX8_back_33 : decode cX8_back 33 = .ok (.aload_n 0, 1) := by decide +kernel
theorem dX8_back_34 : decode cX8_back 34 = .ok (.getfield 13, 3) := by decide +kernel
theorem dX8_back_37 : decode cX8_back 37 = .ok (.iload_n 2, 1) := by decide +kernel
theorem dX8_back_38 : decode cX8_back 38 = .ok (.aload_n 0, 1) := by decide +kernel
theorem dX8_back_39 : decode cX8_back 39 = .ok (.getfield 29, 3) := by decide +kernel
theorem dX8_back_42 : decode cX8_back 42 = .ok (.bipush 73, 2) := by decide +kernel
theorem dX8_back_44 : decode cX8_back 44 = .ok (.iload_n 1, 1) := by decide +kernel
theorem dX8_back_45 : decode cX8_back 45 = .ok (.imul, 1) := by decide +kernel
theorem dX8_back_46 : decode cX8_back 46 = .ok (.iload_n 2, 1) := by decide +kernel
theorem dX8_back_47 : decode cX8_back 47 = .ok (.iadd, 1) := by decide +kernel
theorem dX8_back_48 : decode cX8_back 48 = .ok (.iaload, 1) := by decide +kernel
theorem dX8_back_49 : decode cX8_back 49 = .ok (.iastore, 1) := by decide +kernel
theorem dX8_back_50 : decode cX8_back 50 = .ok (.iinc 2 1, 3) := by decide +kernel
theorem dX8_back_53 : decode cX8_back 53 = .ok (.goto (-26), 3) := by decide +kernel
theorem dX8_back_56 : decode cX8_back 56 = .ok (.aload_n 0, 1) := by decide +kernel
theorem dX8_back_57 : decode cX8_back 57 = .ok (.iconst 0, 1) := by decide +kernel
theorem dX8_back_58 : decode cX8_back 58 = .ok (.putfield 124, 3) := by decide +kernel
theorem dX8_back_61 : decode cX8_back 61 = .ok (.aload_n 0, 1) := by decide +kernel
theorem dX8_back_62 : decode cX8_back 62 = .ok (.getfield 13, 3) := by decide +kernel
theorem dX8_back_65 : decode cX8_back 65 = .ok (.bipush 72, 2) := by decide +kernel
theorem dX8_back_67 : decode cX8_back 67 = .ok (.iaload, 1) := by decide +kernel
theorem dX8_back_68 : decode cX8_back 68 = .ok (.ireturn, 1) := by decide +kernel
set_option maxRecDepth 20000 in
theorem ggX8_best_X8_isPerson : GoodIn wsX8_best wsX8_isPerson := goodIn_r _ [7, 2, 8, 9, 6, 10, 39, 40, 41, 42, 43, 44, 45, 46, 47, 48, 49, 50, 51, 52, 53, 54, 55, 56] (by decide +kernel) (by decide +kernel)
set_option maxRecDepth 20000 in
theorem gX8_best_X8_isPerson : GoodIn wsX8_best (wsV RX8 145 RX8 yX8_isPerson wsX8_isPerson) := goodIn_app (goodIn_of _ (by decide +kernel)) ggX8_best_X8_isPerson
set_option maxRecDepth 20000 in
theorem ggX8_best_X8_in : GoodIn wsX8_best wsX8_in := goodIn_r _ [10] (by decide +kernel) (by decide +kernel)
set_option maxRecDepth 20000 in
theorem gX8_best_X8_in : GoodIn wsX8_best (va_wsS RX8 44 yX8_in wsX8_in) := goodIn_app (goodIn_of _ (by decide +kernel)) ggX8_best_X8_in
set_option maxRecDepth 20000 in
theorem ggX8_best_X8_thereBy : GoodIn wsX8_best wsX8_thereBy := goodIn_r _ [14, 1, 15, 16, 17, 6, 18, 2, 39, 40, 41, 42, 43, 44, 45, 46, 47, 48, 49, 50, 51, 52, 53, 54, 55, 56] (by decide +kernel) (by decide +kernel)
set_option maxRecDepth 20000 in
theorem gX8_best_X8_thereBy : GoodIn wsX8_best (wsV RX8 130 RX8 yX8_thereBy wsX8_thereBy) := goodIn_app (goodIn_of _ (by decide +kernel)) ggX8_best_X8_thereBy
set_option maxRecDepth 20000 in
theorem ggX8_best_X8_fineOf : GoodIn wsX8_best wsX8_fineOf := goodIn_r _ [22, 1, 23, 24, 25, 6, 26, 27, 28, 29, 30, 2, 11, 12, 13, 14, 15, 16, 17, 18, 8, 9, 10, 31, 32, 33, 34, 35, 36, 37, 38, 39, 40, 41, 42, 43, 44, 45, 46, 47, 48, 49, 50, 51, 52, 53, 54, 55, 56] (by decide +kernel) (by decide +kernel)
set_option maxRecDepth 20000 in
theorem gX8_best_X8_fineOf : GoodIn wsX8_best (wsV RX8 151 RX8 yX8_fineOf wsX8_fineOf) := goodIn_app (goodIn_of _ (by decide +kernel)) ggX8_best_X8_fineOf
theorem dX8_best_0 : decode cX8_best 0 = .ok (.aload_n 0, 1) := by decide +kernel
theorem dX8_best_1 : decode cX8_best 1 = .ok (.iload_n 1, 1) := by decide +kernel
theorem dX8_best_2 : decode cX8_best 2 = .ok (.invokevirtual 145, 3) := by decide +kernel
theorem dX8_best_5 : decode cX8_best 5 = .ok (.ifCond .ne 6, 3) := by decide +kernel
theorem dX8_best_8 : decode cX8_best 8 = .ok (.bipush (-2), 2) := by decide +kernel
theorem dX8_best_10 : decode cX8_best 10 = .ok (.ireturn, 1) := by decide +kernel
theorem dX8_best_11 : decode cX8_best 11 = .ok (.iload_n 2, 1) := by decide +kernel
theorem dX8_best_12 : decode cX8_best 12 = .ok (.i2l, 1) := by decide +kernel
theorem dX8_best_13 : decode cX8_best 13 = .ok (.lconst 0, 1) := by decide +kernel
theorem dX8_best_14 : decode cX8_best 14 = .ok (.lconst 1, 1) := by decide +kernel
theorem dX8_best_15 : decode cX8_best 15 = .ok (.invokestatic 44, 3) := by decide +kernel
theorem dX8_best_18 : decode cX8_best 18 = .ok (.ifCond .ne 6, 3) := by decide +kernel
theorem dX8_best_21 : decode cX8_best 21 = .ok (.bipush (-3), 2) := by decide +kernel
theorem dX8_best_23 : decode cX8_best 23 = .ok (.ireturn, 1) := by decide +kernel
theorem dX8_best_24 : decode cX8_best 24 = .ok (.aload_n 0, 1) := by decide +kernel
theorem dX8_best_25 : decode cX8_best 25 = .ok (.getfield 13, 3) := by decide +kernel
theorem dX8_best_28 : decode cX8_best 28 = .ok (.bipush 60, 2) := by decide +kernel
theorem dX8_best_30 : decode cX8_best 30 = .ok (.iload_n 1, 1) := by decide +kernel
theorem dX8_best_31 : decode cX8_best 31 = .ok (.iadd, 1) := by decide +kernel
theorem dX8_best_32 : decode cX8_best 32 = .ok (.iaload, 1) := by decide +kernel
theorem dX8_best_33 : decode cX8_best 33 = .ok (.istore_n 3, 1) := by decide +kernel
theorem dX8_best_34 : decode cX8_best 34 = .ok (.iconst (-1), 1) := by decide +kernel
theorem dX8_best_35 : decode cX8_best 35 = .ok (.istore 4, 2) := by decide +kernel
theorem dX8_best_37 : decode cX8_best 37 = .ok (.iconst 0, 1) := by decide +kernel
theorem dX8_best_38 : decode cX8_best 38 = .ok (.istore 5, 2) := by decide +kernel
theorem dX8_best_40 : decode cX8_best 40 = .ok (.iconst 0, 1) := by decide +kernel
theorem dX8_best_41 : decode cX8_best 41 = .ok (.istore 6, 2) := by decide +kernel
theorem dX8_best_43 : decode cX8_best 43 = .ok (.iload 6, 2) := by decide +kernel
theorem dX8_best_45 : decode cX8_best 45 = .ok (.bipush 60, 2) := by decide +kernel
theorem dX8_best_47 : decode cX8_best 47 = .ok (.if_icmp .ge 90, 3) := by decide +kernel
theorem dX8_best_50 : decode cX8_best 50 = .ok (.aload_n 0, 1) := by decide +kernel
theorem dX8_best_51 : decode cX8_best 51 = .ok (.getfield 13, 3) := by decide +kernel
theorem dX8_best_54 : decode cX8_best 54 = .ok (.bipush 60, 2) := by decide +kernel
theorem dX8_best_56 : decode cX8_best 56 = .ok (.iload_n 1, 1) := by decide +kernel
theorem dX8_best_57 : decode cX8_best 57 = .ok (.iadd, 1) := by decide +kernel
theorem dX8_best_58 : decode cX8_best 58 = .ok (.iload 6, 2) := by decide +kernel
theorem dX8_best_60 : decode cX8_best 60 = .ok (.iastore, 1) := by decide +kernel
theorem dX8_best_61 : decode cX8_best 61 = .ok (.aload_n 0, 1) := by decide +kernel
theorem dX8_best_62 : decode cX8_best 62 = .ok (.iload_n 1, 1) := by decide +kernel
theorem dX8_best_63 : decode cX8_best 63 = .ok (.iload 6, 2) := by decide +kernel
theorem dX8_best_65 : decode cX8_best 65 = .ok (.invokevirtual 130, 3) := by decide +kernel
theorem dX8_best_68 : decode cX8_best 68 = .ok (.aload_n 0, 1) := by decide +kernel
theorem dX8_best_69 : decode cX8_best 69 = .ok (.getfield 7, 3) := by decide +kernel
theorem dX8_best_72 : decode cX8_best 72 = .ok (.bipush 13, 2) := by decide +kernel
theorem dX8_best_74 : decode cX8_best 74 = .ok (.iload_n 1, 1) := by decide +kernel
theorem dX8_best_75 : decode cX8_best 75 = .ok (.iadd, 1) := by decide +kernel
theorem dX8_best_76 : decode cX8_best 76 = .ok (.iaload, 1) := by decide +kernel
theorem dX8_best_77 : decode cX8_best 77 = .ok (.iadd, 1) := by decide +kernel
theorem dX8_best_78 : decode cX8_best 78 = .ok (.bipush 60, 2) := by decide +kernel
theorem dX8_best_80 : decode cX8_best 80 = .ok (.if_icmp .gt 7, 3) := by decide +kernel
theorem dX8_best_83 : decode cX8_best 83 = .ok (.iconst 1, 1) := by decide +kernel
theorem dX8_best_84 : decode cX8_best 84 = .ok (.goto 4, 3) := by decide +kernel
theorem dX8_best_87 : decode cX8_best 87 = .ok (.iconst 0, 1) := by decide +kernel
theorem dX8_best_88 : decode cX8_best 88 = .ok (.istore 7, 2) := by decide +kernel
theorem dX8_best_90 : decode cX8_best 90 = .ok (.iload 7, 2) := by decide +kernel
theorem dX8_best_92 : decode cX8_best 92 = .ok (.ifCond .eq 11, 3) := by decide +kernel
theorem dX8_best_95 : decode cX8_best 95 = .ok (.aload_n 0, 1) := by decide +kernel
theorem dX8_best_96 : decode cX8_best 96 = .ok (.iload_n 1, 1) := by decide +kernel
theorem dX8_best_97 : decode cX8_best 97 = .ok (.invokevirtual 151, 3) := by decide +kernel
theorem dX8_best_100 : decode cX8_best 100 = .ok (.goto 4, 3) := by decide +kernel
theorem dX8_best_103 : decode cX8_best 103 = .ok (.iconst 0, 1) := by decide +kernel
theorem dX8_best_104 : decode cX8_best 104 = .ok (.istore 8, 2) := by decide +kernel
theorem dX8_best_106 : decode cX8_best 106 = .ok (.iload 7, 2) := by decide +kernel
theorem dX8_best_108 : decode cX8_best 108 = .ok (.ifCond .eq 23, 3) := by decide +kernel
theorem dX8_best_111 : decode cX8_best 111 = .ok (.iload 4, 2) := by decide +kernel
theorem dX8_best_113 : decode cX8_best 113 = .ok (.ifCond .lt 10, 3) := by decide +kernel
theorem dX8_best_116 : decode cX8_best 116 = .ok (.iload 8, 2) := by decide +kernel
theorem dX8_best_118 : decode cX8_best 118 = .ok (.iload 5, 2) := by decide +kernel
theorem dX8_best_120 : decode cX8_best 120 = .ok (.if_icmp .ge 11, 3) := by decide +kernel
theorem dX8_best_123 : decode cX8_best 123 = .ok (.iload 6, 2) := by decide +kernel
theorem dX8_best_125 : decode cX8_best 125 = .ok (.istore 4, 2) := by decide +kernel
theorem dX8_best_127 : decode cX8_best 127 = .ok (.iload 8, 2) := by decide +kernel
theorem dX8_best_129 : decode cX8_best 129 = .ok (.istore 5, 2) := by decide +kernel
theorem dX8_best_131 : decode cX8_best 131 = .ok (.iinc 6 1, 3) := by decide +kernel
theorem dX8_best_134 : decode cX8_best 134 = .ok (.goto (-91), 3) := by decide +kernel
theorem dX8_best_137 : decode cX8_best 137 = .ok (.aload_n 0, 1) := by decide +kernel
theorem dX8_best_138 : decode cX8_best 138 = .ok (.getfield 13, 3) := by decide +kernel
theorem dX8_best_141 : decode cX8_best 141 = .ok (.bipush 60, 2) := by decide +kernel
theorem dX8_best_143 : decode cX8_best 143 = .ok (.iload_n 1, 1) := by decide +kernel
theorem dX8_best_144 : decode cX8_best 144 = .ok (.iadd, 1) := by decide +kernel
theorem dX8_best_145 : decode cX8_best 145 = .ok (.iload_n 3, 1) := by decide +kernel
theorem dX8_best_146 : decode cX8_best 146 = .ok (.iastore, 1) := by decide +kernel
theorem dX8_best_147 : decode cX8_best 147 = .ok (.iload 4, 2) := by decide +kernel
theorem dX8_best_149 : decode cX8_best 149 = .ok (.ifCond .ge 7, 3) := by decide +kernel
theorem dX8_best_152 : decode cX8_best 152 = .ok (.iconst (-1), 1) := by decide +kernel
theorem dX8_best_153 : decode cX8_best 153 = .ok (.goto 14, 3) := by decide +kernel
theorem dX8_best_156 : decode cX8_best 156 = .ok (.iload_n 2, 1) := by decide +kernel
theorem dX8_best_157 : decode cX8_best 157 = .ok (.ifCond .ne 8, 3) := by decide +kernel
theorem dX8_best_160 : decode cX8_best 160 = .ok (.iload 4, 2) := by decide +kernel
theorem dX8_best_162 : decode cX8_best 162 = .ok (.goto 5, 3) := by decide +kernel
theorem dX8_best_165 : decode cX8_best 165 = .ok (.iload 5, 2) := by decide +kernel
theorem dX8_best_167 : decode cX8_best 167 = .ok (.ireturn, 1) := by decide +kernel
set_option maxRecDepth 20000 in
theorem ggX8_arePeople_X8_in : GoodIn wsX8_arePeople wsX8_in := goodIn_r _ [5] (by decide +kernel) (by decide +kernel)
set_option maxRecDepth 20000 in
theorem gX8_arePeople_X8_in : GoodIn wsX8_arePeople (va_wsS RX8 44 yX8_in wsX8_in) := goodIn_app (goodIn_of _ (by decide +kernel)) ggX8_arePeople_X8_in
theorem dX8_arePeople_0 : decode cX8_arePeople 0 = .ok (.iload_n 1, 1) := by decide +kernel
theorem dX8_arePeople_1 : decode cX8_arePeople 1 = .ok (.i2l, 1) := by decide +kernel
theorem dX8_arePeople_2 : decode cX8_arePeople 2 = .ok (.lconst 0, 1) := by decide +kernel
theorem dX8_arePeople_3 : decode cX8_arePeople 3 = .ok (.iconst 1, 1) := by decide +kernel
theorem dX8_arePeople_4 : decode cX8_arePeople 4 = .ok (.aload_n 0, 1) := by decide +kernel
theorem dX8_arePeople_5 : decode cX8_arePeople 5 = .ok (.getfield 7, 3) := by decide +kernel
theorem dX8_arePeople_8 : decode cX8_arePeople 8 = .ok (.iconst 0, 1) := by decide +kernel
theorem dX8_arePeople_9 : decode cX8_arePeople 9 = .ok (.iaload, 1) := by decide +kernel
theorem dX8_arePeople_10 : decode cX8_arePeople 10 = .ok (.ishl, 1) := by decide +kernel
theorem dX8_arePeople_11 : decode cX8_arePeople 11 = .ok (.iconst 1, 1) := by decide +kernel
theorem dX8_arePeople_12 : decode cX8_arePeople 12 = .ok (.isub, 1) := by decide +kernel
theorem dX8_arePeople_13 : decode cX8_arePeople 13 = .ok (.i2l, 1) := by decide +kernel
theorem dX8_arePeople_14 : decode cX8_arePeople 14 = .ok (.invokestatic 44, 3) := by decide +kernel
theorem dX8_arePeople_17 : decode cX8_arePeople 17 = .ok (.ireturn, 1) := by decide +kernel
theorem dX8_isOrder_0 : decode cX8_isOrder 0 = .ok (.iload_n 1, 1) := by decide +kernel
theorem dX8_isOrder_1 : decode cX8_isOrder 1 = .ok (.istore 4, 2) := by decide +kernel
theorem dX8_isOrder_3 : decode cX8_isOrder 3 = .ok (.iconst 0, 1) := by decide +kernel
theorem dX8_isOrder_4 : decode cX8_isOrder 4 = .ok (.istore 5, 2) := by decide +kernel
theorem dX8_isOrder_6 : decode cX8_isOrder 6 = .ok (.iload_n 3, 1) := by decide +kernel
theorem dX8_isOrder_7 : decode cX8_isOrder 7 = .ok (.iconst 1, 1) := by decide +kernel
theorem dX8_isOrder_8 : decode cX8_isOrder 8 = .ok (.isub, 1) := by decide +kernel
theorem dX8_isOrder_9 : decode cX8_isOrder 9 = .ok (.istore 6, 2) := by decide +kernel
theorem dX8_isOrder_11 : decode cX8_isOrder 11 = .ok (.iload 6, 2) := by decide +kernel
theorem dX8_isOrder_13 : decode cX8_isOrder 13 = .ok (.ifCond .lt 42, 3) := by decide +kernel
theorem dX8_isOrder_16 : decode cX8_isOrder 16 = .ok (.aload_n 0, 1) := by decide +kernel
theorem dX8_isOrder_17 : decode cX8_isOrder 17 = .ok (.getfield 32, 3) := by decide +kernel
theorem dX8_isOrder_20 : decode cX8_isOrder 20 = .ok (.iload 6, 2) := by decide +kernel
theorem dX8_isOrder_22 : decode cX8_isOrder 22 = .ok (.iload 4, 2) := by decide +kernel
theorem dX8_isOrder_24 : decode cX8_isOrder 24 = .ok (.bipush 6, 2) := by decide +kernel
theorem dX8_isOrder_26 : decode cX8_isOrder 26 = .ok (.irem, 1) := by decide +kernel
theorem dX8_isOrder_27 : decode cX8_isOrder 27 = .ok (.iastore, 1) := by decide +kernel
theorem dX8_isOrder_28 : decode cX8_isOrder 28 = .ok (.iload 5, 2) := by decide +kernel
theorem dX8_isOrder_30 : decode cX8_isOrder 30 = .ok (.iconst 1, 1) := by decide +kernel
theorem dX8_isOrder_31 : decode cX8_isOrder 31 = .ok (.aload_n 0, 1) := by decide +kernel
theorem dX8_isOrder_32 : decode cX8_isOrder 32 = .ok (.getfield 32, 3) := by decide +kernel
theorem dX8_isOrder_35 : decode cX8_isOrder 35 = .ok (.iload 6, 2) := by decide +kernel
theorem dX8_isOrder_37 : decode cX8_isOrder 37 = .ok (.iaload, 1) := by decide +kernel
theorem dX8_isOrder_38 : decode cX8_isOrder 38 = .ok (.ishl, 1) := by decide +kernel
theorem dX8_isOrder_39 : decode cX8_isOrder 39 = .ok (.ior, 1) := by decide +kernel
theorem dX8_isOrder_40 : decode cX8_isOrder 40 = .ok (.istore 5, 2) := by decide +kernel
theorem dX8_isOrder_42 : decode cX8_isOrder 42 = .ok (.iload 4, 2) := by decide +kernel
theorem dX8_isOrder_44 : decode cX8_isOrder 44 = .ok (.bipush 6, 2) := by decide +kernel
theorem dX8_isOrder_46 : decode cX8_isOrder 46 = .ok (.idiv, 1) := by decide +kernel
theorem dX8_isOrder_47 : decode cX8_isOrder 47 = .ok (.istore 4, 2) := by decide +kernel
theorem dX8_isOrder_49 : decode cX8_isOrder 49 = .ok (.iinc 6 (-1), 3) := by decide +kernel
theorem dX8_isOrder_52 : decode cX8_isOrder 52 = .ok (.goto (-41), 3) := by decide +kernel
theorem dX8_isOrder_55 : decode cX8_isOrder 55 = .ok (.iload 5, 2) := by decide +kernel
theorem dX8_isOrder_57 : decode cX8_isOrder 57 = .ok (.iload_n 2, 1) := by decide +kernel
theorem dX8_isOrder_58 : decode cX8_isOrder 58 = .ok (.if_icmp .ne 7, 3) := by decide +kernel
theorem dX8_isOrder_61 : decode cX8_isOrder 61 = .ok (.iconst 1, 1) := by decide +kernel
theorem dX8_isOrder_62 : decode cX8_isOrder 62 = .ok (.goto 4, 3) := by decide +kernel
theorem dX8_isOrder_65 : decode cX8_isOrder 65 = .ok (.iconst 0, 1) := by decide +kernel
theorem dX8_isOrder_66 : decode cX8_isOrder 66 = .ok (.ireturn, 1) := by decide +kernel
set_option maxRecDepth 20000 in
theorem ggX8_rowFine_X8_thereBy : GoodIn wsX8_rowFine wsX8_thereBy := goodIn_r _ [8, 1, 9, 10, 11, 7, 12, 3, 36, 37, 38, 39, 40, 41, 42, 43, 44, 45, 46, 47, 48, 49, 50, 51, 52, 53] (by decide +kernel) (by decide +kernel)
set_option maxRecDepth 20000 in
theorem gX8_rowFine_X8_thereBy : GoodIn wsX8_rowFine (wsV RX8 130 RX8 yX8_thereBy wsX8_thereBy) := goodIn_app (goodIn_of _ (by decide +kernel)) ggX8_rowFine_X8_thereBy
set_option maxRecDepth 20000 in
theorem ggX8_rowFine_X8_fineOf : GoodIn wsX8_rowFine wsX8_fineOf := goodIn_r _ [16, 1, 17, 18, 19, 7, 20, 21, 22, 23, 24, 3, 4, 5, 6, 8, 9, 10, 11, 12, 25, 26, 27, 28, 29, 30, 31, 32, 33, 34, 35, 36, 37, 38, 39, 40, 41, 42, 43, 44, 45, 46, 47, 48, 49, 50, 51, 52, 53] (by decide +kernel) (by decide +kernel)
set_option maxRecDepth 20000 in
theorem gX8_rowFine_X8_fineOf : GoodIn wsX8_rowFine (wsV RX8 151 RX8 yX8_fineOf wsX8_fineOf) := goodIn_app (goodIn_of _ (by decide +kernel)) ggX8_rowFine_X8_fineOf
theorem dX8_rowFine_0 : decode cX8_rowFine 0 = .ok (.iconst 0, 1) := by decide +kernel
theorem dX8_rowFine_1 : decode cX8_rowFine 1 = .ok (.istore_n 3, 1) := by decide +kernel
theorem dX8_rowFine_2 : decode cX8_rowFine 2 = .ok (.iload_n 3, 1) := by decide +kernel
theorem dX8_rowFine_3 : decode cX8_rowFine 3 = .ok (.bipush 6, 2) := by decide +kernel
theorem dX8_rowFine_5 : decode cX8_rowFine 5 = .ok (.if_icmp .ge 19, 3) := by decide +kernel
theorem dX8_rowFine_8 : decode cX8_rowFine 8 = .ok (.aload_n 0, 1) := by decide +kernel
theorem dX8_rowFine_9 : decode cX8_rowFine 9 = .ok (.getfield 13, 3) := by decide +kernel
theorem dX8_rowFine_12 : decode cX8_rowFine 12 = .ok (.bipush 60, 2) := by decide +kernel
theorem dX8_rowFine_14 : decode cX8_rowFine 14 = .ok (.iload_n 3, 1) := by decide +kernel
theorem dX8_rowFine_15 : decode cX8_rowFine 15 = .ok (.iadd, 1) := by decide +kernel
theorem dX8_rowFine_16 : decode cX8_rowFine 16 = .ok (.iconst (-1), 1) := by decide +kernel
theorem dX8_rowFine_17 : decode cX8_rowFine 17 = .ok (.iastore, 1) := by decide +kernel
theorem dX8_rowFine_18 : decode cX8_rowFine 18 = .ok (.iinc 3 1, 3) := by decide +kernel
theorem dX8_rowFine_21 : decode cX8_rowFine 21 = .ok (.goto (-19), 3) := by decide +kernel
theorem dX8_rowFine_24 : decode cX8_rowFine 24 = .ok (.iload_n 2, 1) := by decide +kernel
theorem dX8_rowFine_25 : decode cX8_rowFine 25 = .ok (.istore_n 3, 1) := by decide +kernel
theorem dX8_rowFine_26 : decode cX8_rowFine 26 = .ok (.iconst 1, 1) := by decide +kernel
theorem dX8_rowFine_27 : decode cX8_rowFine 27 = .ok (.istore 4, 2) := by decide +kernel
theorem dX8_rowFine_29 : decode cX8_rowFine 29 = .ok (.iconst 0, 1) := by decide +kernel
theorem dX8_rowFine_30 : decode cX8_rowFine 30 = .ok (.istore 5, 2) := by decide +kernel
theorem dX8_rowFine_32 : decode cX8_rowFine 32 = .ok (.iload 5, 2) := by decide +kernel
theorem dX8_rowFine_34 : decode cX8_rowFine 34 = .ok (.iload_n 1, 1) := by decide +kernel
theorem dX8_rowFine_35 : decode cX8_rowFine 35 = .ok (.if_icmp .ge 72, 3) := by decide +kernel
theorem dX8_rowFine_38 : decode cX8_rowFine 38 = .ok (.iload 4, 2) := by decide +kernel
theorem dX8_rowFine_40 : decode cX8_rowFine 40 = .ok (.ifCond .eq 13, 3) := by decide +kernel
theorem dX8_rowFine_43 : decode cX8_rowFine 43 = .ok (.iload_n 3, 1) := by decide +kernel
theorem dX8_rowFine_44 : decode cX8_rowFine 44 = .ok (.bipush 60, 2) := by decide +kernel
theorem dX8_rowFine_46 : decode cX8_rowFine 46 = .ok (.if_icmp .ge 7, 3) := by decide +kernel
theorem dX8_rowFine_49 : decode cX8_rowFine 49 = .ok (.iconst 1, 1) := by decide +kernel
theorem dX8_rowFine_50 : decode cX8_rowFine 50 = .ok (.goto 4, 3) := by decide +kernel
theorem dX8_rowFine_53 : decode cX8_rowFine 53 = .ok (.iconst 0, 1) := by decide +kernel
theorem dX8_rowFine_54 : decode cX8_rowFine 54 = .ok (.istore 4, 2) := by decide +kernel
theorem dX8_rowFine_56 : decode cX8_rowFine 56 = .ok (.aload_n 0, 1) := by decide +kernel
theorem dX8_rowFine_57 : decode cX8_rowFine 57 = .ok (.getfield 13, 3) := by decide +kernel
theorem dX8_rowFine_60 : decode cX8_rowFine 60 = .ok (.bipush 60, 2) := by decide +kernel
theorem dX8_rowFine_62 : decode cX8_rowFine 62 = .ok (.aload_n 0, 1) := by decide +kernel
theorem dX8_rowFine_63 : decode cX8_rowFine 63 = .ok (.getfield 32, 3) := by decide +kernel
theorem dX8_rowFine_66 : decode cX8_rowFine 66 = .ok (.iload 5, 2) := by decide +kernel
theorem dX8_rowFine_68 : decode cX8_rowFine 68 = .ok (.iaload, 1) := by decide +kernel
theorem dX8_rowFine_69 : decode cX8_rowFine 69 = .ok (.iadd, 1) := by decide +kernel
theorem dX8_rowFine_70 : decode cX8_rowFine 70 = .ok (.iload_n 3, 1) := by decide +kernel
theorem dX8_rowFine_71 : decode cX8_rowFine 71 = .ok (.iastore, 1) := by decide +kernel
theorem dX8_rowFine_72 : decode cX8_rowFine 72 = .ok (.aload_n 0, 1) := by decide +kernel
theorem dX8_rowFine_73 : decode cX8_rowFine 73 = .ok (.aload_n 0, 1) := by decide +kernel
theorem dX8_rowFine_74 : decode cX8_rowFine 74 = .ok (.getfield 32, 3) := by decide +kernel
theorem dX8_rowFine_77 : decode cX8_rowFine 77 = .ok (.iload 5, 2) := by decide +kernel
theorem dX8_rowFine_79 : decode cX8_rowFine 79 = .ok (.iaload, 1) := by decide +kernel
theorem dX8_rowFine_80 : decode cX8_rowFine 80 = .ok (.iload_n 3, 1) := by decide +kernel
theorem dX8_rowFine_81 : decode cX8_rowFine 81 = .ok (.invokevirtual 130, 3) := by decide +kernel
theorem dX8_rowFine_84 : decode cX8_rowFine 84 = .ok (.aload_n 0, 1) := by decide +kernel
theorem dX8_rowFine_85 : decode cX8_rowFine 85 = .ok (.getfield 7, 3) := by decide +kernel
theorem dX8_rowFine_88 : decode cX8_rowFine 88 = .ok (.bipush 13, 2) := by decide +kernel
theorem dX8_rowFine_90 : decode cX8_rowFine 90 = .ok (.aload_n 0, 1) := by decide +kernel
theorem dX8_rowFine_91 : decode cX8_rowFine 91 = .ok (.getfield 32, 3) := by decide +kernel
theorem dX8_rowFine_94 : decode cX8_rowFine 94 = .ok (.iload 5, 2) := by decide +kernel
theorem dX8_rowFine_96 : decode cX8_rowFine 96 = .ok (.iaload, 1) := by decide +kernel
theorem dX8_rowFine_97 : decode cX8_rowFine 97 = .ok (.iadd, 1) := by decide +kernel
theorem dX8_rowFine_98 : decode cX8_rowFine 98 = .ok (.iaload, 1) := by decide +kernel
theorem dX8_rowFine_99 : decode cX8_rowFine 99 = .ok (.iadd, 1) := by decide +kernel
theorem dX8_rowFine_100 : decode cX8_rowFine 100 = .ok (.istore_n 3, 1) := by decide +kernel
theorem dX8_rowFine_101 : decode cX8_rowFine 101 = .ok (.iinc 5 1, 3) := by decide +kernel
theorem dX8_rowFine_104 : decode cX8_rowFine 104 = .ok (.goto (-72), 3) := by decide +kernel
theorem dX8_rowFine_107 : decode cX8_rowFine 107 = .ok (.iconst 0, 1) := by decide +kernel
theorem dX8_rowFine_108 : decode cX8_rowFine 108 = .ok (.istore 5, 2) := by decide +kernel
theorem dX8_rowFine_110 : decode cX8_rowFine 110 = .ok (.iconst 0, 1) := by decide +kernel
theorem dX8_rowFine_111 : decode cX8_rowFine 111 = .ok (.istore 6, 2) := by decide +kernel
theorem dX8_rowFine_113 : decode cX8_rowFine 113 = .ok (.iload 6, 2) := by decide +kernel
theorem dX8_rowFine_115 : decode cX8_rowFine 115 = .ok (.iload_n 1, 1) := by decide +kernel
theorem dX8_rowFine_116 : decode cX8_rowFine 116 = .ok (.if_icmp .ge 25, 3) := by decide +kernel
theorem dX8_rowFine_119 : decode cX8_rowFine 119 = .ok (.iload 5, 2) := by decide +kernel
theorem dX8_rowFine_121 : decode cX8_rowFine 121 = .ok (.aload_n 0, 1) := by decide +kernel
theorem dX8_rowFine_122 : decode cX8_rowFine 122 = .ok (.aload_n 0, 1) := by decide +kernel
theorem dX8_rowFine_123 : decode cX8_rowFine 123 = .ok (.getfield 32, 3) := by decide +kernel
theorem dX8_rowFine_126 : decode cX8_rowFine 126 = .ok (.iload 6, 2) := by decide +kernel
theorem dX8_rowFine_128 : decode cX8_rowFine 128 = .ok (.iaload, 1) := by decide +kernel
theorem dX8_rowFine_129 : decode cX8_rowFine 129 = .ok (.invokevirtual 151, 3) := by decide +kernel
theorem dX8_rowFine_132 : decode cX8_rowFine 132 = .ok (.iadd, 1) := by decide +kernel
theorem dX8_rowFine_133 : decode cX8_rowFine 133 = .ok (.istore 5, 2) := by decide +kernel
theorem dX8_rowFine_135 : decode cX8_rowFine 135 = .ok (.iinc 6 1, 3) := by decide +kernel
theorem dX8_rowFine_138 : decode cX8_rowFine 138 = .ok (.goto (-25), 3) := by decide +kernel
theorem dX8_rowFine_141 : decode cX8_rowFine 141 = .ok (.iload 4, 2) := by decide +kernel
theorem dX8_rowFine_143 : decode cX8_rowFine 143 = .ok (.ifCond .eq 8, 3) := by decide +kernel
theorem dX8_rowFine_146 : decode cX8_rowFine 146 = .ok (.iload 5, 2) := by decide +kernel
theorem dX8_rowFine_148 : decode cX8_rowFine 148 = .ok (.goto 4, 3) := by decide +kernel
theorem dX8_rowFine_151 : decode cX8_rowFine 151 = .ok (.iconst (-1), 1) := by decide +kernel
theorem dX8_rowFine_152 : decode cX8_rowFine 152 = .ok (.ireturn, 1) := by decide +kernel
set_option maxRecDepth 20000 in
theorem ggX8_order_X8_arePeople : GoodIn wsX8_order wsX8_arePeople := goodIn_r _ [10, 11, 12, 13, 9, 14, 54, 55, 56, 57, 58, 59, 60, 61, 62, 63, 64, 65, 66, 67, 68, 69, 70, 71] (by decide +kernel) (by decide +kernel)
set_option maxRecDepth 20000 in
theorem gX8_order_X8_arePeople : GoodIn wsX8_order (wsV RX8 168 RX8 yX8_arePeople wsX8_arePeople) := goodIn_app (goodIn_of _ (by decide +kernel)) ggX8_order_X8_arePeople
set_option maxRecDepth 20000 in
theorem ggX8_order_X8_in : GoodIn wsX8_order wsX8_in := goodIn_r _ [14] (by decide +kernel) (by decide +kernel)
set_option maxRecDepth 20000 in
theorem gX8_order_X8_in : GoodIn wsX8_order (va_wsS RX8 44 yX8_in wsX8_in) := goodIn_app (goodIn_of _ (by decide +kernel)) ggX8_order_X8_in
set_option maxRecDepth 20000 in
theorem ggX8_order_X8_ones : GoodIn wsX8_order wsX8_ones := goodIn_r _ [17] (by decide +kernel) (by decide +kernel)
set_option maxRecDepth 20000 in
theorem gX8_order_X8_ones : GoodIn wsX8_order (va_wsS RX8 173 yX8_ones wsX8_ones) := goodIn_app (goodIn_of _ (by decide +kernel)) ggX8_order_X8_ones
set_option maxRecDepth 20000 in
theorem ggX8_order_X8_isOrder : GoodIn wsX8_order wsX8_isOrder := goodIn_r _ [21, 5, 54, 55, 56, 57, 58, 59, 60, 61, 62, 63, 64, 65, 66, 67, 68, 69, 70, 71] (by decide +kernel) (by decide +kernel)
set_option maxRecDepth 20000 in
theorem gX8_order_X8_isOrder : GoodIn wsX8_order (wsV RX8 176 RX8 yX8_isOrder wsX8_isOrder) := goodIn_app (goodIn_of _ (by decide +kernel)) ggX8_order_X8_isOrder
set_option maxRecDepth 20000 in
theorem ggX8_order_X8_rowFine : GoodIn wsX8_order wsX8_rowFine := goodIn_r _ [25, 4, 5, 11, 26, 27, 28, 9, 29, 30, 31, 32, 33, 34, 35, 36, 37, 38, 39, 40, 41, 42, 43, 44, 45, 12, 13, 14, 46, 47, 48, 49, 50, 51, 52, 53, 54, 55, 56, 57, 58, 59, 60, 61, 62, 63, 64, 65, 66, 67, 68, 69, 70, 71] (by decide +kernel) (by decide +kernel)
set_option maxRecDepth 20000 in
theorem gX8_order_X8_rowFine : GoodIn wsX8_order (wsV RX8 180 RX8 yX8_rowFine wsX8_rowFine) := goodIn_app (goodIn_of _ (by decide +kernel)) ggX8_order_X8_rowFine
theorem dX8_order_0 : decode cX8_order 0 = .ok (.aload_n 0, 1) := by decide +kernel
theorem dX8_order_1 : decode cX8_order 1 = .ok (.iload_n 1, 1) := by decide +kernel
theorem dX8_order_2 : decode cX8_order 2 = .ok (.invokevirtual 168, 3) := by decide +kernel
theorem dX8_order_5 : decode cX8_order 5 = .ok (.ifCond .ne 6, 3) := by decide +kernel
theorem dX8_order_8 : decode cX8_order 8 = .ok (.bipush (-2), 2) := by decide +kernel
theorem dX8_order_10 : decode cX8_order 10 = .ok (.ireturn, 1) := by decide +kernel
theorem dX8_order_11 : decode cX8_order 11 = .ok (.iload_n 2, 1) := by decide +kernel
theorem dX8_order_12 : decode cX8_order 12 = .ok (.i2l, 1) := by decide +kernel
theorem dX8_order_13 : decode cX8_order 13 = .ok (.lconst 0, 1) := by decide +kernel
theorem dX8_order_14 : decode cX8_order 14 = .ok (.ldc2_w 157, 3) := by decide +kernel
theorem dX8_order_17 : decode cX8_order 17 = .ok (.invokestatic 44, 3) := by decide +kernel
theorem dX8_order_20 : decode cX8_order 20 = .ok (.ifCond .eq 15, 3) := by decide +kernel
theorem dX8_order_23 : decode cX8_order 23 = .ok (.iload_n 3, 1) := by decide +kernel
theorem dX8_order_24 : decode cX8_order 24 = .ok (.i2l, 1) := by decide +kernel
theorem dX8_order_25 : decode cX8_order 25 = .ok (.lconst 0, 1) := by decide +kernel
theorem dX8_order_26 : decode cX8_order 26 = .ok (.ldc2_w 171, 3) := by decide +kernel
theorem dX8_order_29 : decode cX8_order 29 = .ok (.invokestatic 44, 3) := by decide +kernel
theorem dX8_order_32 : decode cX8_order 32 = .ok (.ifCond .ne 6, 3) := by decide +kernel
theorem dX8_order_35 : decode cX8_order 35 = .ok (.bipush (-3), 2) := by decide +kernel
theorem dX8_order_37 : decode cX8_order 37 = .ok (.ireturn, 1) := by decide +kernel
theorem dX8_order_38 : decode cX8_order 38 = .ok (.iconst 0, 1) := by decide +kernel
theorem dX8_order_39 : decode cX8_order 39 = .ok (.istore 4, 2) := by decide +kernel
theorem dX8_order_41 : decode cX8_order 41 = .ok (.iload 4, 2) := by decide +kernel
theorem dX8_order_43 : decode cX8_order 43 = .ok (.bipush 6, 2) := by decide +kernel
theorem dX8_order_45 : decode cX8_order 45 = .ok (.if_icmp .ge 26, 3) := by decide +kernel
theorem dX8_order_48 : decode cX8_order 48 = .ok (.aload_n 0, 1) := by decide +kernel
