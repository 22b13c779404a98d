theorem dX8_spelt_187 : decode cX8_spelt 187 = .ok (.lreturn, 1) := by decide +kernel
set_option maxRecDepth 20000 in
theorem ggX8_verb_X8_wordOf : GoodIn wsX8_verb wsX8_wordOf := goodIn_r _ [5, 6, 7, 8, 9, 10, 11, 15, 16, 17, 18, 19, 20, 21, 22, 23, 24, 25, 26, 27, 28, 29, 30, 31, 32] (by decide +kernel) (by decide +kernel)
set_option maxRecDepth 20000 in
theorem gX8_verb_X8_wordOf : GoodIn wsX8_verb (wsV RX8 80 RX8 yX8_wordOf wsX8_wordOf) := goodIn_app (goodIn_of _ (by decide +kernel)) ggX8_verb_X8_wordOf
set_option maxRecDepth 20000 in
theorem ggX8_verb_X8_spelt : GoodIn wsX8_verb wsX8_spelt := goodIn_r _ [14, 8, 10] (by decide +kernel) (by decide +kernel)
set_option maxRecDepth 20000 in
theorem gX8_verb_X8_spelt : GoodIn wsX8_verb (va_wsS RX8 84 yX8_spelt wsX8_spelt) := goodIn_app (goodIn_of _ (by decide +kernel)) ggX8_verb_X8_spelt
theorem dX8_verb_0 : decode cX8_verb 0 = .ok (.aload_n 0, 1) := by decide +kernel
theorem dX8_verb_1 : decode cX8_verb 1 = .ok (.invokevirtual 80, 3) := by decide +kernel
theorem dX8_verb_4 : decode cX8_verb 4 = .ok (.lstore_n 1, 1) := by decide +kernel
theorem dX8_verb_5 : decode cX8_verb 5 = .ok (.lload_n 1, 1) := by decide +kernel
theorem dX8_verb_6 : decode cX8_verb 6 = .ok (.bipush 99, 2) := by decide +kernel
theorem dX8_verb_8 : decode cX8_verb 8 = .ok (.bipush 108, 2) := by decide +kernel
theorem dX8_verb_10 : decode cX8_verb 10 = .ok (.bipush 105, 2) := by decide +kernel
theorem dX8_verb_12 : decode cX8_verb 12 = .ok (.bipush 109, 2) := by decide +kernel
theorem dX8_verb_14 : decode cX8_verb 14 = .ok (.bipush 98, 2) := by decide +kernel
theorem dX8_verb_16 : decode cX8_verb 16 = .ok (.bipush 101, 2) := by decide +kernel
theorem dX8_verb_18 : decode cX8_verb 18 = .ok (.bipush 114, 2) := by decide +kernel
theorem dX8_verb_20 : decode cX8_verb 20 = .ok (.invokestatic 84, 3) := by decide +kernel
theorem dX8_verb_23 : decode cX8_verb 23 = .ok (.lcmp, 1) := by decide +kernel
theorem dX8_verb_24 : decode cX8_verb 24 = .ok (.ifCond .ne 5, 3) := by decide +kernel
theorem dX8_verb_27 : decode cX8_verb 27 = .ok (.iconst 0, 1) := by decide +kernel
theorem dX8_verb_28 : decode cX8_verb 28 = .ok (.ireturn, 1) := by decide +kernel
theorem dX8_verb_29 : decode cX8_verb 29 = .ok (.lload_n 1, 1) := by decide +kernel
theorem dX8_verb_30 : decode cX8_verb 30 = .ok (.bipush 103, 2) := by decide +kernel
theorem dX8_verb_32 : decode cX8_verb 32 = .ok (.bipush 117, 2) := by decide +kernel
theorem dX8_verb_34 : decode cX8_verb 34 = .ok (.bipush 105, 2) := by decide +kernel
theorem dX8_verb_36 : decode cX8_verb 36 = .ok (.bipush 100, 2) := by decide +kernel
theorem dX8_verb_38 : decode cX8_verb 38 = .ok (.bipush 101, 2) := by decide +kernel
theorem dX8_verb_40 : decode cX8_verb 40 = .ok (.iconst 0, 1) := by decide +kernel
theorem dX8_verb_41 : decode cX8_verb 41 = .ok (.iconst 0, 1) := by decide +kernel
theorem dX8_verb_42 : decode cX8_verb 42 = .ok (.invokestatic 84, 3) := by decide +kernel
theorem dX8_verb_45 : decode cX8_verb 45 = .ok (.lcmp, 1) := by decide +kernel
theorem dX8_verb_46 : decode cX8_verb 46 = .ok (.ifCond .ne 5, 3) := by decide +kernel
theorem dX8_verb_49 : decode cX8_verb 49 = .ok (.iconst 1, 1) := by decide +kernel
theorem dX8_verb_50 : decode cX8_verb 50 = .ok (.ireturn, 1) := by decide +kernel
theorem dX8_verb_51 : decode cX8_verb 51 = .ok (.lload_n 1, 1) := by decide +kernel
theorem dX8_verb_52 : decode cX8_verb 52 = .ok (.bipush 109, 2) := by decide +kernel
theorem dX8_verb_54 : decode cX8_verb 54 = .ok (.bipush 111, 2) := by decide +kernel
theorem dX8_verb_56 : decode cX8_verb 56 = .ok (.bipush 117, 2) := by decide +kernel
theorem dX8_verb_58 : decode cX8_verb 58 = .ok (.bipush 114, 2) := by decide +kernel
theorem dX8_verb_60 : decode cX8_verb 60 = .ok (.bipush 110, 2) := by decide +kernel
theorem dX8_verb_62 : decode cX8_verb 62 = .ok (.bipush 101, 2) := by decide +kernel
theorem dX8_verb_64 : decode cX8_verb 64 = .ok (.bipush 114, 2) := by decide +kernel
theorem dX8_verb_66 : decode cX8_verb 66 = .ok (.invokestatic 84, 3) := by decide +kernel
theorem dX8_verb_69 : decode cX8_verb 69 = .ok (.lcmp, 1) := by decide +kernel
theorem dX8_verb_70 : decode cX8_verb 70 = .ok (.ifCond .ne 5, 3) := by decide +kernel
theorem dX8_verb_73 : decode cX8_verb 73 = .ok (.iconst 2, 1) := by decide +kernel
theorem dX8_verb_74 : decode cX8_verb 74 = .ok (.ireturn, 1) := by decide +kernel
theorem dX8_verb_75 : decode cX8_verb 75 = .ok (.lload_n 1, 1) := by decide +kernel
theorem dX8_verb_76 : decode cX8_verb 76 = .ok (.bipush 98, 2) := by decide +kernel
theorem dX8_verb_78 : decode cX8_verb 78 = .ok (.bipush 97, 2) := by decide +kernel
theorem dX8_verb_80 : decode cX8_verb 80 = .ok (.bipush 110, 2) := by decide +kernel
theorem dX8_verb_82 : decode cX8_verb 82 = .ok (.bipush 107, 2) := by decide +kernel
theorem dX8_verb_84 : decode cX8_verb 84 = .ok (.iconst 0, 1) := by decide +kernel
theorem dX8_verb_85 : decode cX8_verb 85 = .ok (.iconst 0, 1) := by decide +kernel
theorem dX8_verb_86 : decode cX8_verb 86 = .ok (.iconst 0, 1) := by decide +kernel
theorem dX8_verb_87 : decode cX8_verb 87 = .ok (.invokestatic 84, 3) := by decide +kernel
theorem dX8_verb_90 : decode cX8_verb 90 = .ok (.lcmp, 1) := by decide +kernel
theorem dX8_verb_91 : decode cX8_verb 91 = .ok (.ifCond .ne 5, 3) := by decide +kernel
theorem dX8_verb_94 : decode cX8_verb 94 = .ok (.iconst 3, 1) := by decide +kernel
theorem dX8_verb_95 : decode cX8_verb 95 = .ok (.ireturn, 1) := by decide +kernel
theorem dX8_verb_96 : decode cX8_verb 96 = .ok (.lload_n 1, 1) := by decide +kernel
theorem dX8_verb_97 : decode cX8_verb 97 = .ok (.bipush 116, 2) := by decide +kernel
theorem dX8_verb_99 : decode cX8_verb 99 = .ok (.bipush 111, 2) := by decide +kernel
theorem dX8_verb_101 : decode cX8_verb 101 = .ok (.bipush 112, 2) := by decide +kernel
theorem dX8_verb_103 : decode cX8_verb 103 = .ok (.iconst 0, 1) := by decide +kernel
theorem dX8_verb_104 : decode cX8_verb 104 = .ok (.iconst 0, 1) := by decide +kernel
theorem dX8_verb_105 : decode cX8_verb 105 = .ok (.iconst 0, 1) := by decide +kernel
theorem dX8_verb_106 : decode cX8_verb 106 = .ok (.iconst 0, 1) := by decide +kernel
theorem dX8_verb_107 : decode cX8_verb 107 = .ok (.invokestatic 84, 3) := by decide +kernel
theorem dX8_verb_110 : decode cX8_verb 110 = .ok (.lcmp, 1) := by decide +kernel
theorem dX8_verb_111 : decode cX8_verb 111 = .ok (.ifCond .ne 5, 3) := by decide +kernel
theorem dX8_verb_114 : decode cX8_verb 114 = .ok (.iconst 4, 1) := by decide +kernel
theorem dX8_verb_115 : decode cX8_verb 115 = .ok (.ireturn, 1) := by decide +kernel
theorem dX8_verb_116 : decode cX8_verb 116 = .ok (.lload_n 1, 1) := by decide +kernel
theorem dX8_verb_117 : decode cX8_verb 117 = .ok (.bipush 100, 2) := by decide +kernel
theorem dX8_verb_119 : decode cX8_verb 119 = .ok (.bipush 101, 2) := by decide +kernel
theorem dX8_verb_121 : decode cX8_verb 121 = .ok (.bipush 101, 2) := by decide +kernel
theorem dX8_verb_123 : decode cX8_verb 123 = .ok (.bipush 100, 2) := by decide +kernel
theorem dX8_verb_125 : decode cX8_verb 125 = .ok (.iconst 0, 1) := by decide +kernel
theorem dX8_verb_126 : decode cX8_verb 126 = .ok (.iconst 0, 1) := by decide +kernel
theorem dX8_verb_127 : decode cX8_verb 127 = .ok (.iconst 0, 1) := by decide +kernel
theorem dX8_verb_128 : decode cX8_verb 128 = .ok (.invokestatic 84, 3) := by decide +kernel
theorem dX8_verb_131 : decode cX8_verb 131 = .ok (.lcmp, 1) := by decide +kernel
theorem dX8_verb_132 : decode cX8_verb 132 = .ok (.ifCond .ne 5, 3) := by decide +kernel
theorem dX8_verb_135 : decode cX8_verb 135 = .ok (.iconst 5, 1) := by decide +kernel
theorem dX8_verb_136 : decode cX8_verb 136 = .ok (.ireturn, 1) := by decide +kernel
theorem dX8_verb_137 : decode cX8_verb 137 = .ok (.lload_n 1, 1) := by decide +kernel
theorem dX8_verb_138 : decode cX8_verb 138 = .ok (.bipush 102, 2) := by decide +kernel
theorem dX8_verb_140 : decode cX8_verb 140 = .ok (.bipush 111, 2) := by decide +kernel
theorem dX8_verb_142 : decode cX8_verb 142 = .ok (.bipush 103, 2) := by decide +kernel
theorem dX8_verb_144 : decode cX8_verb 144 = .ok (.iconst 0, 1) := by decide +kernel
theorem dX8_verb_145 : decode cX8_verb 145 = .ok (.iconst 0, 1) := by decide +kernel
theorem dX8_verb_146 : decode cX8_verb 146 = .ok (.iconst 0, 1) := by decide +kernel
theorem dX8_verb_147 : decode cX8_verb 147 = .ok (.iconst 0, 1) := by decide +kernel
theorem dX8_verb_148 : decode cX8_verb 148 = .ok (.invokestatic 84, 3) := by decide +kernel
theorem dX8_verb_151 : decode cX8_verb 151 = .ok (.lcmp, 1) := by decide +kernel
theorem dX8_verb_152 : decode cX8_verb 152 = .ok (.ifCond .ne 8, 3) := by decide +kernel
theorem dX8_verb_155 : decode cX8_verb 155 = .ok (.bipush 6, 2) := by decide +kernel
theorem dX8_verb_157 : decode cX8_verb 157 = .ok (.goto 29, 3) := by decide +kernel
theorem dX8_verb_160 : decode cX8_verb 160 = .ok (.lload_n 1, 1) := by decide +kernel
theorem dX8_verb_161 : decode cX8_verb 161 = .ok (.bipush 99, 2) := by decide +kernel
theorem dX8_verb_163 : decode cX8_verb 163 = .ok (.bipush 108, 2) := by decide +kernel
theorem dX8_verb_165 : decode cX8_verb 165 = .ok (.bipush 101, 2) := by decide +kernel
theorem dX8_verb_167 : decode cX8_verb 167 = .ok (.bipush 97, 2) := by decide +kernel
theorem dX8_verb_169 : decode cX8_verb 169 = .ok (.bipush 114, 2) := by decide +kernel
theorem dX8_verb_171 : decode cX8_verb 171 = .ok (.iconst 0, 1) := by decide +kernel
theorem dX8_verb_172 : decode cX8_verb 172 = .ok (.iconst 0, 1) := by decide +kernel
theorem dX8_verb_173 : decode cX8_verb 173 = .ok (.invokestatic 84, 3) := by decide +kernel
theorem dX8_verb_176 : decode cX8_verb 176 = .ok (.lcmp, 1) := by decide +kernel
theorem dX8_verb_177 : decode cX8_verb 177 = .ok (.ifCond .ne 8, 3) := by decide +kernel
theorem dX8_verb_180 : decode cX8_verb 180 = .ok (.bipush 7, 2) := by decide +kernel
theorem dX8_verb_182 : decode cX8_verb 182 = .ok (.goto 4, 3) := by decide +kernel
theorem dX8_verb_185 : decode cX8_verb 185 = .ok (.iconst (-1), 1) := by decide +kernel
theorem dX8_verb_186 : decode cX8_verb 186 = .ok (.ireturn, 1) := by decide +kernel
set_option maxRecDepth 20000 in
theorem ggX8_number_X8_nextToken : GoodIn wsX8_number wsX8_nextToken := goodIn_r _ [7, 8, 9, 2, 10, 1, 11, 12, 13, 14, 15, 16, 17, 18, 6, 19, 20, 21, 22, 23, 24, 25, 26, 27, 28, 29, 30, 31, 32, 33, 34, 35, 36, 37, 38, 39, 40] (by decide +kernel) (by decide +kernel)
set_option maxRecDepth 20000 in
theorem gX8_number_X8_nextToken : GoodIn wsX8_number (wsV RX8 88 RX8 yX8_nextToken wsX8_nextToken) := goodIn_app (goodIn_of _ (by decide +kernel)) ggX8_number_X8_nextToken
set_option maxRecDepth 20000 in
theorem ggX8_number_X8_in : GoodIn wsX8_number wsX8_in := goodIn_r _ [22] (by decide +kernel) (by decide +kernel)
set_option maxRecDepth 20000 in
theorem gX8_number_X8_in : GoodIn wsX8_number (va_wsS RX8 44 yX8_in wsX8_in) := goodIn_app (goodIn_of _ (by decide +kernel)) ggX8_number_X8_in
theorem dX8_number_0 : decode cX8_number 0 = .ok (.aload_n 0, 1) := by decide +kernel
theorem dX8_number_1 : decode cX8_number 1 = .ok (.invokevirtual 88, 3) := by decide +kernel
theorem dX8_number_4 : decode cX8_number 4 = .ok (.aload_n 0, 1) := by decide +kernel
theorem dX8_number_5 : decode cX8_number 5 = .ok (.getfield 67, 3) := by decide +kernel
theorem dX8_number_8 : decode cX8_number 8 = .ok (.iconst 2, 1) := by decide +kernel
theorem dX8_number_9 : decode cX8_number 9 = .ok (.if_icmp .ne 25, 3) := by decide +kernel
theorem dX8_number_12 : decode cX8_number 12 = .ok (.aload_n 0, 1) := by decide +kernel
theorem dX8_number_13 : decode cX8_number 13 = .ok (.getfield 64, 3) := by decide +kernel
theorem dX8_number_16 : decode cX8_number 16 = .ok (.i2l, 1) := by decide +kernel
theorem dX8_number_17 : decode cX8_number 17 = .ok (.iload_n 1, 1) := by decide +kernel
theorem dX8_number_18 : decode cX8_number 18 = .ok (.i2l, 1) := by decide +kernel
theorem dX8_number_19 : decode cX8_number 19 = .ok (.iload_n 2, 1) := by decide +kernel
theorem dX8_number_20 : decode cX8_number 20 = .ok (.i2l, 1) := by decide +kernel
theorem dX8_number_21 : decode cX8_number 21 = .ok (.invokestatic 44, 3) := by decide +kernel
theorem dX8_number_24 : decode cX8_number 24 = .ok (.ifCond .eq 10, 3) := by decide +kernel
theorem dX8_number_27 : decode cX8_number 27 = .ok (.aload_n 0, 1) := by decide +kernel
theorem dX8_number_28 : decode cX8_number 28 = .ok (.getfield 64, 3) := by decide +kernel
theorem dX8_number_31 : decode cX8_number 31 = .ok (.goto 4, 3) := by decide +kernel
theorem dX8_number_34 : decode cX8_number 34 = .ok (.iconst (-1), 1) := by decide +kernel
theorem dX8_number_35 : decode cX8_number 35 = .ok (.ireturn, 1) := by decide +kernel
set_option maxRecDepth 20000 in
theorem ggX8_readPerson_X8_number : GoodIn wsX8_readPerson wsX8_number := goodIn_r _ [6, 7, 8, 9, 10, 11, 5, 12, 13, 14, 15, 16, 17, 18, 19, 20, 21, 22, 23, 24, 25, 26, 27, 28, 29, 30, 31, 32, 33, 34, 35, 36, 37, 38, 39, 40, 41, 42, 43, 44, 45] (by decide +kernel) (by decide +kernel)
set_option maxRecDepth 20000 in
theorem gX8_readPerson_X8_number : GoodIn wsX8_readPerson (wsV RX8 91 RX8 yX8_number wsX8_number) := goodIn_app (goodIn_of _ (by decide +kernel)) ggX8_readPerson_X8_number
theorem dX8_readPerson_0 : decode cX8_readPerson 0 = .ok (.aload_n 0, 1) := by decide +kernel
theorem dX8_readPerson_1 : decode cX8_readPerson 1 = .ok (.getfield 19, 3) := by decide +kernel
theorem dX8_readPerson_4 : decode cX8_readPerson 4 = .ok (.iconst 0, 1) := by decide +kernel
theorem dX8_readPerson_5 : decode cX8_readPerson 5 = .ok (.iaload, 1) := by decide +kernel
theorem dX8_readPerson_6 : decode cX8_readPerson 6 = .ok (.istore_n 2, 1) := by decide +kernel
theorem dX8_readPerson_7 : decode cX8_readPerson 7 = .ok (.iload_n 2, 1) := by decide +kernel
theorem dX8_readPerson_8 : decode cX8_readPerson 8 = .ok (.bipush 6, 2) := by decide +kernel
theorem dX8_readPerson_10 : decode cX8_readPerson 10 = .ok (.if_icmp .ne 5, 3) := by decide +kernel
theorem dX8_readPerson_13 : decode cX8_readPerson 13 = .ok (.iconst 0, 1) := by decide +kernel
theorem dX8_readPerson_14 : decode cX8_readPerson 14 = .ok (.ireturn, 1) := by decide +kernel
theorem dX8_readPerson_15 : decode cX8_readPerson 15 = .ok (.aload_n 0, 1) := by decide +kernel
theorem dX8_readPerson_16 : decode cX8_readPerson 16 = .ok (.iconst 1, 1) := by decide +kernel
theorem dX8_readPerson_17 : decode cX8_readPerson 17 = .ok (.bipush 20, 2) := by decide +kernel
theorem dX8_readPerson_19 : decode cX8_readPerson 19 = .ok (.invokevirtual 91, 3) := by decide +kernel
theorem dX8_readPerson_22 : decode cX8_readPerson 22 = .ok (.istore_n 3, 1) := by decide +kernel
theorem dX8_readPerson_23 : decode cX8_readPerson 23 = .ok (.iload_n 3, 1) := by decide +kernel
theorem dX8_readPerson_24 : decode cX8_readPerson 24 = .ok (.ifCond .ge 7, 3) := by decide +kernel
theorem dX8_readPerson_27 : decode cX8_readPerson 27 = .ok (.iconst (-1), 1) := by decide +kernel
theorem dX8_readPerson_28 : decode cX8_readPerson 28 = .ok (.goto 10, 3) := by decide +kernel
theorem dX8_readPerson_31 : decode cX8_readPerson 31 = .ok (.aload_n 0, 1) := by decide +kernel
theorem dX8_readPerson_32 : decode cX8_readPerson 32 = .ok (.iconst 1, 1) := by decide +kernel
theorem dX8_readPerson_33 : decode cX8_readPerson 33 = .ok (.bipush 6, 2) := by decide +kernel
theorem dX8_readPerson_35 : decode cX8_readPerson 35 = .ok (.invokevirtual 91, 3) := by decide +kernel
theorem dX8_readPerson_38 : decode cX8_readPerson 38 = .ok (.istore 4, 2) := by decide +kernel
theorem dX8_readPerson_40 : decode cX8_readPerson 40 = .ok (.iload 4, 2) := by decide +kernel
theorem dX8_readPerson_42 : decode cX8_readPerson 42 = .ok (.ifCond .ge 7, 3) := by decide +kernel
theorem dX8_readPerson_45 : decode cX8_readPerson 45 = .ok (.iconst (-1), 1) := by decide +kernel
theorem dX8_readPerson_46 : decode cX8_readPerson 46 = .ok (.goto 10, 3) := by decide +kernel
theorem dX8_readPerson_49 : decode cX8_readPerson 49 = .ok (.aload_n 0, 1) := by decide +kernel
theorem dX8_readPerson_50 : decode cX8_readPerson 50 = .ok (.iconst 0, 1) := by decide +kernel
theorem dX8_readPerson_51 : decode cX8_readPerson 51 = .ok (.bipush 20, 2) := by decide +kernel
theorem dX8_readPerson_53 : decode cX8_readPerson 53 = .ok (.invokevirtual 91, 3) := by decide +kernel
theorem dX8_readPerson_56 : decode cX8_readPerson 56 = .ok (.istore 5, 2) := by decide +kernel
theorem dX8_readPerson_58 : decode cX8_readPerson 58 = .ok (.iload 5, 2) := by decide +kernel
theorem dX8_readPerson_60 : decode cX8_readPerson 60 = .ok (.ifCond .ge 5, 3) := by decide +kernel
theorem dX8_readPerson_63 : decode cX8_readPerson 63 = .ok (.iconst 0, 1) := by decide +kernel
theorem dX8_readPerson_64 : decode cX8_readPerson 64 = .ok (.ireturn, 1) := by decide +kernel
theorem dX8_readPerson_65 : decode cX8_readPerson 65 = .ok (.aload_n 0, 1) := by decide +kernel
theorem dX8_readPerson_66 : decode cX8_readPerson 66 = .ok (.getfield 19, 3) := by decide +kernel
theorem dX8_readPerson_69 : decode cX8_readPerson 69 = .ok (.iconst 1, 1) := by decide +kernel
theorem dX8_readPerson_70 : decode cX8_readPerson 70 = .ok (.iload_n 2, 1) := by decide +kernel
theorem dX8_readPerson_71 : decode cX8_readPerson 71 = .ok (.iadd, 1) := by decide +kernel
theorem dX8_readPerson_72 : decode cX8_readPerson 72 = .ok (.iload_n 1, 1) := by decide +kernel
theorem dX8_readPerson_73 : decode cX8_readPerson 73 = .ok (.iastore, 1) := by decide +kernel
theorem dX8_readPerson_74 : decode cX8_readPerson 74 = .ok (.aload_n 0, 1) := by decide +kernel
theorem dX8_readPerson_75 : decode cX8_readPerson 75 = .ok (.getfield 19, 3) := by decide +kernel
theorem dX8_readPerson_78 : decode cX8_readPerson 78 = .ok (.bipush 7, 2) := by decide +kernel
theorem dX8_readPerson_80 : decode cX8_readPerson 80 = .ok (.iload_n 2, 1) := by decide +kernel
theorem dX8_readPerson_81 : decode cX8_readPerson 81 = .ok (.iadd, 1) := by decide +kernel
theorem dX8_readPerson_82 : decode cX8_readPerson 82 = .ok (.iload_n 3, 1) := by decide +kernel
theorem dX8_readPerson_83 : decode cX8_readPerson 83 = .ok (.iastore, 1) := by decide +kernel
theorem dX8_readPerson_84 : decode cX8_readPerson 84 = .ok (.aload_n 0, 1) := by decide +kernel
theorem dX8_readPerson_85 : decode cX8_readPerson 85 = .ok (.getfield 19, 3) := by decide +kernel
theorem dX8_readPerson_88 : decode cX8_readPerson 88 = .ok (.bipush 13, 2) := by decide +kernel
theorem dX8_readPerson_90 : decode cX8_readPerson 90 = .ok (.iload_n 2, 1) := by decide +kernel
theorem dX8_readPerson_91 : decode cX8_readPerson 91 = .ok (.iadd, 1) := by decide +kernel
theorem dX8_readPerson_92 : decode cX8_readPerson 92 = .ok (.iload 4, 2) := by decide +kernel
theorem dX8_readPerson_94 : decode cX8_readPerson 94 = .ok (.iastore, 1) := by decide +kernel
theorem dX8_readPerson_95 : decode cX8_readPerson 95 = .ok (.aload_n 0, 1) := by decide +kernel
theorem dX8_readPerson_96 : decode cX8_readPerson 96 = .ok (.getfield 19, 3) := by decide +kernel
theorem dX8_readPerson_99 : decode cX8_readPerson 99 = .ok (.bipush 19, 2) := by decide +kernel
theorem dX8_readPerson_101 : decode cX8_readPerson 101 = .ok (.iload_n 2, 1) := by decide +kernel
theorem dX8_readPerson_102 : decode cX8_readPerson 102 = .ok (.iadd, 1) := by decide +kernel
theorem dX8_readPerson_103 : decode cX8_readPerson 103 = .ok (.iload 5, 2) := by decide +kernel
theorem dX8_readPerson_105 : decode cX8_readPerson 105 = .ok (.iastore, 1) := by decide +kernel
theorem dX8_readPerson_106 : decode cX8_readPerson 106 = .ok (.aload_n 0, 1) := by decide +kernel
theorem dX8_readPerson_107 : decode cX8_readPerson 107 = .ok (.getfield 19, 3) := by decide +kernel
theorem dX8_readPerson_110 : decode cX8_readPerson 110 = .ok (.iconst 0, 1) := by decide +kernel
theorem dX8_readPerson_111 : decode cX8_readPerson 111 = .ok (.dup2, 1) := by decide +kernel
theorem dX8_readPerson_112 : decode cX8_readPerson 112 = .ok (.iaload, 1) := by decide +kernel
theorem dX8_readPerson_113 : decode cX8_readPerson 113 = .ok (.iconst 1, 1) := by decide +kernel
theorem dX8_readPerson_114 : decode cX8_readPerson 114 = .ok (.iadd, 1) := by decide +kernel
theorem dX8_readPerson_115 : decode cX8_readPerson 115 = .ok (.iastore, 1) := by decide +kernel
theorem dX8_readPerson_116 : decode cX8_readPerson 116 = .ok (.iconst 1, 1) := by decide +kernel
theorem dX8_readPerson_117 : decode cX8_readPerson 117 = .ok (.ireturn, 1) := by decide +kernel
theorem dX8_fill_0 : decode cX8_fill 0 = .ok (.iload_n 2, 1) := by decide +kernel
theorem dX8_fill_1 : decode cX8_fill 1 = .ok (.istore 5, 2) := by decide +kernel
theorem dX8_fill_3 : decode cX8_fill 3 = .ok (.iload 5, 2) := by decide +kernel
theorem dX8_fill_5 : decode cX8_fill 5 = .ok (.iload_n 3, 1) := by decide +kernel
theorem dX8_fill_6 : decode cX8_fill 6 = .ok (.if_icmp .gt 20, 3) := by decide +kernel
theorem dX8_fill_9 : decode cX8_fill 9 = .ok (.aload_n 0, 1) := by decide +kernel
theorem dX8_fill_10 : decode cX8_fill 10 = .ok (.getfield 19, 3) := by decide +kernel
theorem dX8_fill_13 : decode cX8_fill 13 = .ok (.iload_n 1, 1) := by decide +kernel
theorem dX8_fill_14 : decode cX8_fill 14 = .ok (.iload 5, 2) := by decide +kernel
theorem dX8_fill_16 : decode cX8_fill 16 = .ok (.iadd, 1) := by decide +kernel
theorem dX8_fill_17 : decode cX8_fill 17 = .ok (.iload 4, 2) := by decide +kernel
theorem dX8_fill_19 : decode cX8_fill 19 = .ok (.iastore, 1) := by decide +kernel
theorem dX8_fill_20 : decode cX8_fill 20 = .ok (.iinc 5 1, 3) := by decide +kernel
theorem dX8_fill_23 : decode cX8_fill 23 = .ok (.goto (-20), 3) := by decide +kernel
theorem dX8_fill_26 : decode cX8_fill 26 = .ok (.return_, 1) := by decide +kernel
set_option maxRecDepth 20000 in
theorem ggX8_readSpan_X8_number : GoodIn wsX8_readSpan wsX8_number := goodIn_r _ [5, 6, 7, 8, 9, 10, 4, 11, 12, 13, 14, 15, 16, 17, 18, 19, 20, 21, 22, 23, 24, 25, 26, 32, 33, 34, 35, 36, 37, 38, 39, 40, 41, 42, 43, 44, 45, 46, 47, 48, 49] (by decide +kernel) (by decide +kernel)
set_option maxRecDepth 20000 in
theorem gX8_readSpan_X8_number : GoodIn wsX8_readSpan (wsV RX8 91 RX8 yX8_number wsX8_number) := goodIn_app (goodIn_of _ (by decide +kernel)) ggX8_readSpan_X8_number
set_option maxRecDepth 20000 in
theorem ggX8_readSpan_X8_fill : GoodIn wsX8_readSpan wsX8_fill := goodIn_r _ [30, 31, 32, 33, 34, 35, 36, 37, 38, 39, 40, 41, 42, 43, 44, 45, 46, 47, 48, 49] (by decide +kernel) (by decide +kernel)
set_option maxRecDepth 20000 in
theorem gX8_readSpan_X8_fill : GoodIn wsX8_readSpan (wsV RX8 95 RX8 yX8_fill wsX8_fill) := goodIn_app (goodIn_of _ (by decide +kernel)) ggX8_readSpan_X8_fill
theorem dX8_readSpan_0 : decode cX8_readSpan 0 = .ok (.aload_n 0, 1) := by decide +kernel
theorem dX8_readSpan_1 : decode cX8_readSpan 1 = .ok (.iconst 0, 1) := by decide +kernel
theorem dX8_readSpan_2 : decode cX8_readSpan 2 = .ok (.bipush 59, 2) := by decide +kernel
theorem dX8_readSpan_4 : decode cX8_readSpan 4 = .ok (.invokevirtual 91, 3) := by decide +kernel
theorem dX8_readSpan_7 : decode cX8_readSpan 7 = .ok (.istore_n 3, 1) := by decide +kernel
theorem dX8_readSpan_8 : decode cX8_readSpan 8 = .ok (.iload_n 3, 1) := by decide +kernel
theorem dX8_readSpan_9 : decode cX8_readSpan 9 = .ok (.ifCond .ge 7, 3) := by decide +kernel
theorem dX8_readSpan_12 : decode cX8_readSpan 12 = .ok (.iconst (-1), 1) := by decide +kernel
theorem dX8_readSpan_13 : decode cX8_readSpan 13 = .ok (.goto 10, 3) := by decide +kernel
theorem dX8_readSpan_16 : decode cX8_readSpan 16 = .ok (.aload_n 0, 1) := by decide +kernel
theorem dX8_readSpan_17 : decode cX8_readSpan 17 = .ok (.iload_n 3, 1) := by decide +kernel
theorem dX8_readSpan_18 : decode cX8_readSpan 18 = .ok (.bipush 59, 2) := by decide +kernel
theorem dX8_readSpan_20 : decode cX8_readSpan 20 = .ok (.invokevirtual 91, 3) := by decide +kernel
theorem dX8_readSpan_23 : decode cX8_readSpan 23 = .ok (.istore 4, 2) := by decide +kernel
theorem dX8_readSpan_25 : decode cX8_readSpan 25 = .ok (.iload 4, 2) := by decide +kernel
theorem dX8_readSpan_27 : decode cX8_readSpan 27 = .ok (.ifCond .ge 5, 3) := by decide +kernel
theorem dX8_readSpan_30 : decode cX8_readSpan 30 = .ok (.iconst 0, 1) := by decide +kernel
theorem dX8_readSpan_31 : decode cX8_readSpan 31 = .ok (.ireturn, 1) := by decide +kernel
theorem dX8_readSpan_32 : decode cX8_readSpan 32 = .ok (.aload_n 0, 1) := by decide +kernel
theorem dX8_readSpan_33 : decode cX8_readSpan 33 = .ok (.iload_n 1, 1) := by decide +kernel
theorem dX8_readSpan_34 : decode cX8_readSpan 34 = .ok (.iload_n 3, 1) := by decide +kernel
theorem dX8_readSpan_35 : decode cX8_readSpan 35 = .ok (.iload 4, 2) := by decide +kernel
theorem dX8_readSpan_37 : decode cX8_readSpan 37 = .ok (.iload_n 2, 1) := by decide +kernel
theorem dX8_readSpan_38 : decode cX8_readSpan 38 = .ok (.invokevirtual 95, 3) := by decide +kernel
theorem dX8_readSpan_41 : decode cX8_readSpan 41 = .ok (.iconst 1, 1) := by decide +kernel
theorem dX8_readSpan_42 : decode cX8_readSpan 42 = .ok (.ireturn, 1) := by decide +kernel
set_option maxRecDepth 20000 in
theorem ggX8_readClause_X8_verb : GoodIn wsX8_readClause wsX8_verb := goodIn_r _ [6, 7, 8, 9, 5, 10, 11, 12, 13, 14, 15, 16, 17, 18, 19, 52, 53, 54, 55, 56, 57, 58, 59, 60, 61, 62, 63, 64, 65, 66, 67, 68, 69] (by decide +kernel) (by decide +kernel)
set_option maxRecDepth 20000 in
theorem gX8_readClause_X8_verb : GoodIn wsX8_readClause (wsV RX8 99 RX8 yX8_verb wsX8_verb) := goodIn_app (goodIn_of _ (by decide +kernel)) ggX8_readClause_X8_verb
set_option maxRecDepth 20000 in
theorem ggX8_readClause_X8_readPerson : GoodIn wsX8_readClause wsX8_readPerson := goodIn_r _ [23, 1, 24, 25, 26, 5, 27, 16, 28, 29, 30, 31, 32, 12, 11, 33, 15, 34, 35, 36, 14, 37, 38, 39, 40, 41, 42, 43, 52, 53, 54, 55, 56, 57, 58, 59, 60, 61, 62, 63, 64, 65, 66, 67, 68, 69] (by decide +kernel) (by decide +kernel)
set_option maxRecDepth 20000 in
theorem gX8_readClause_X8_readPerson : GoodIn wsX8_readClause (wsV RX8 103 RX8 yX8_readPerson wsX8_readPerson) := goodIn_app (goodIn_of _ (by decide +kernel)) ggX8_readClause_X8_readPerson
set_option maxRecDepth 20000 in
theorem ggX8_readClause_X8_number : GoodIn wsX8_readClause wsX8_number := goodIn_r _ [27, 16, 28, 29, 30, 31, 5, 32, 12, 11, 33, 15, 34, 35, 36, 14, 37, 38, 39, 40, 41, 42, 43, 52, 53, 54, 55, 56, 57, 58, 59, 60, 61, 62, 63, 64, 65, 66, 67, 68, 69] (by decide +kernel) (by decide +kernel)
set_option maxRecDepth 20000 in
theorem gX8_readClause_X8_number : GoodIn wsX8_readClause (wsV RX8 91 RX8 yX8_number wsX8_number) := goodIn_app (goodIn_of _ (by decide +kernel)) ggX8_readClause_X8_number
set_option maxRecDepth 20000 in
theorem ggX8_readClause_X8_readSpan : GoodIn wsX8_readClause wsX8_readSpan := goodIn_r _ [47, 24, 25, 26, 5, 27, 16, 28, 29, 30, 31, 32, 12, 11, 33, 15, 34, 35, 36, 14, 37, 38, 39, 40, 41, 42, 43, 48, 49, 50, 51, 1, 52, 53, 54, 55, 56, 57, 58, 59, 60, 61, 62, 63, 64, 65, 66, 67, 68, 69] (by decide +kernel) (by decide +kernel)
set_option maxRecDepth 20000 in
theorem gX8_readClause_X8_readSpan : GoodIn wsX8_readClause (wsV RX8 107 RX8 yX8_readSpan wsX8_readSpan) := goodIn_app (goodIn_of _ (by decide +kernel)) ggX8_readClause_X8_readSpan
set_option maxRecDepth 20000 in
theorem ggX8_readClause_X8_fill : GoodIn wsX8_readClause wsX8_fill := goodIn_r _ [51, 1, 52, 53, 54, 55, 56, 57, 58, 59, 60, 61, 62, 63, 64, 65, 66, 67, 68, 69] (by decide +kernel) (by decide +kernel)
set_option maxRecDepth 20000 in
theorem gX8_readClause_X8_fill : GoodIn wsX8_readClause (wsV RX8 95 RX8 yX8_fill wsX8_fill) := goodIn_app (goodIn_of _ (by decide +kernel)) ggX8_readClause_X8_fill
theorem dX8_readClause_0 : decode cX8_readClause 0 = .ok (.aload_n 0, 1) := by decide +kernel
theorem dX8_readClause_1 : decode cX8_readClause 1 = .ok (.invokevirtual 99, 3) := by decide +kernel
theorem dX8_readClause_4 : decode cX8_readClause 4 = .ok (.istore_n 1, 1) := by decide +kernel
theorem dX8_readClause_5 : decode cX8_readClause 5 = .ok (.iload_n 1, 1) := by decide +kernel
theorem dX8_readClause_6 : decode cX8_readClause 6 = .ok (.ifCond .ge 5, 3) := by decide +kernel
theorem dX8_readClause_9 : decode cX8_readClause 9 = .ok (.iconst 0, 1) := by decide +kernel
theorem dX8_readClause_10 : decode cX8_readClause 10 = .ok (.ireturn, 1) := by decide +kernel
theorem dX8_readClause_11 : decode cX8_readClause 11 = .ok (.iload_n 1, 1) := by decide +kernel
theorem dX8_readClause_12 : decode cX8_readClause 12 = .ok (.iconst 4, 1) := by decide +kernel
theorem dX8_readClause_13 : decode cX8_readClause 13 = .ok (.if_icmp .ge 9, 3) := by decide +kernel
theorem dX8_readClause_16 : decode cX8_readClause 16 = .ok (.aload_n 0, 1) := by decide +kernel
theorem dX8_readClause_17 : decode cX8_readClause 17 = .ok (.iload_n 1, 1) := by decide +kernel
theorem dX8_readClause_18 : decode cX8_readClause 18 = .ok (.invokevirtual 103, 3) := by decide +kernel
theorem dX8_readClause_21 : decode cX8_readClause 21 = .ok (.ireturn, 1) := by decide +kernel
theorem dX8_readClause_22 : decode cX8_readClause 22 = .ok (.iload_n 1, 1) := by decide +kernel
theorem dX8_readClause_23 : decode cX8_readClause 23 = .ok (.iconst 5, 1) := by decide +kernel
theorem dX8_readClause_24 : decode cX8_readClause 24 = .ok (.if_icmp .ne 37, 3) := by decide +kernel
theorem dX8_readClause_27 : decode cX8_readClause 27 = .ok (.aload_n 0, 1) := by decide +kernel
theorem dX8_readClause_28 : decode cX8_readClause 28 = .ok (.iconst 0, 1) := by decide +kernel
theorem dX8_readClause_29 : decode cX8_readClause 29 = .ok (.aload_n 0, 1) := by decide +kernel
theorem dX8_readClause_30 : decode cX8_readClause 30 = .ok (.getfield 19, 3) := by decide +kernel
theorem dX8_readClause_33 : decode cX8_readClause 33 = .ok (.iconst 0, 1) := by decide +kernel
theorem dX8_readClause_34 : decode cX8_readClause 34 = .ok (.iaload, 1) := by decide +kernel
theorem dX8_readClause_35 : decode cX8_readClause 35 = .ok (.iconst 1, 1) := by decide +kernel
theorem dX8_readClause_36 : decode cX8_readClause 36 = .ok (.isub, 1) := by decide +kernel
theorem dX8_readClause_37 : decode cX8_readClause 37 = .ok (.invokevirtual 91, 3) := by decide +kernel
theorem dX8_readClause_40 : decode cX8_readClause 40 = .ok (.istore_n 2, 1) := by decide +kernel
theorem dX8_readClause_41 : decode cX8_readClause 41 = .ok (.iload_n 2, 1) := by decide +kernel
theorem dX8_readClause_42 : decode cX8_readClause 42 = .ok (.ifCond .lt 17, 3) := by decide +kernel
theorem dX8_readClause_45 : decode cX8_readClause 45 = .ok (.aload_n 0, 1) := by decide +kernel
theorem dX8_readClause_46 : decode cX8_readClause 46 = .ok (.bipush 25, 2) := by decide +kernel
theorem dX8_readClause_48 : decode cX8_readClause 48 = .ok (.iload_n 2, 1) := by decide +kernel
theorem dX8_readClause_49 : decode cX8_readClause 49 = .ok (.invokevirtual 107, 3) := by decide +kernel
theorem dX8_readClause_52 : decode cX8_readClause 52 = .ok (.ifCond .eq 7, 3) := by decide +kernel
theorem dX8_readClause_55 : decode cX8_readClause 55 = .ok (.iconst 1, 1) := by decide +kernel
theorem dX8_readClause_56 : decode cX8_readClause 56 = .ok (.goto 4, 3) := by decide +kernel
theorem dX8_readClause_59 : decode cX8_readClause 59 = .ok (.iconst 0, 1) := by decide +kernel
theorem dX8_readClause_60 : decode cX8_readClause 60 = .ok (.ireturn, 1) := by decide +kernel
theorem dX8_readClause_61 : decode cX8_readClause 61 = .ok (.iload_n 1, 1) := by decide +kernel
theorem dX8_readClause_62 : decode cX8_readClause 62 = .ok (.bipush 6, 2) := by decide +kernel
theorem dX8_readClause_64 : decode cX8_readClause 64 = .ok (.if_icmp .ne 11, 3) := by decide +kernel
theorem dX8_readClause_67 : decode cX8_readClause 67 = .ok (.aload_n 0, 1) := by decide +kernel
theorem dX8_readClause_68 : decode cX8_readClause 68 = .ok (.bipush 85, 2) := by decide +kernel
theorem dX8_readClause_70 : decode cX8_readClause 70 = .ok (.iconst 1, 1) := by decide +kernel
theorem dX8_readClause_71 : decode cX8_readClause 71 = .ok (.invokevirtual 107, 3) := by decide +kernel
theorem dX8_readClause_74 : decode cX8_readClause 74 = .ok (.ireturn, 1) := by decide +kernel
theorem dX8_readClause_75 : decode cX8_readClause 75 = .ok (.aload_n 0, 1) := by decide +kernel
theorem dX8_readClause_76 : decode cX8_readClause 76 = .ok (.bipush 85, 2) := by decide +kernel
theorem dX8_readClause_78 : decode cX8_readClause 78 = .ok (.iconst 0, 1) := by decide +kernel
theorem dX8_readClause_79 : decode cX8_readClause 79 = .ok (.bipush 59, 2) := by decide +kernel
theorem dX8_readClause_81 : decode cX8_readClause 81 = .ok (.iconst 0, 1) := by decide +kernel
theorem dX8_readClause_82 : decode cX8_readClause 82 = .ok (.invokevirtual 95, 3) := by decide +kernel
theorem dX8_readClause_85 : decode cX8_readClause 85 = .ok (.iload_n 1, 1) := by decide +kernel
theorem dX8_readClause_86 : decode cX8_readClause 86 = .ok (.iconst 4, 1) := by decide +kernel
theorem dX8_readClause_87 : decode cX8_readClause 87 = .ok (.if_icmp .ne 20, 3) := by decide +kernel
theorem dX8_readClause_90 : decode cX8_readClause 90 = .ok (.aload_n 0, 1) := by decide +kernel
theorem dX8_readClause_91 : decode cX8_readClause 91 = .ok (.getfield 19, 3) := by decide +kernel
theorem dX8_readClause_94 : decode cX8_readClause 94 = .ok (.iconst 0, 1) := by decide +kernel
theorem dX8_readClause_95 : decode cX8_readClause 95 = .ok (.iconst 0, 1) := by decide +kernel
theorem dX8_readClause_96 : decode cX8_readClause 96 = .ok (.iastore, 1) := by decide +kernel
theorem dX8_readClause_97 : decode cX8_readClause 97 = .ok (.aload_n 0, 1) := by decide +kernel
theorem dX8_readClause_98 : decode cX8_readClause 98 = .ok (.bipush 25, 2) := by decide +kernel
theorem dX8_readClause_100 : decode cX8_readClause 100 = .ok (.iconst 0, 1) := by decide +kernel
theorem dX8_readClause_101 : decode cX8_readClause 101 = .ok (.bipush 59, 2) := by decide +kernel
theorem dX8_readClause_103 : decode cX8_readClause 103 = .ok (.iconst (-1), 1) := by decide +kernel
theorem dX8_readClause_104 : decode cX8_readClause 104 = .ok (.invokevirtual 95, 3) := by decide +kernel
theorem dX8_readClause_107 : decode cX8_readClause 107 = .ok (.iconst 1, 1) := by decide +kernel
theorem dX8_readClause_108 : decode cX8_readClause 108 = .ok (.ireturn, 1) := by decide +kernel
set_option maxRecDepth 20000 in
theorem ggX8_readText_X8_nextToken : GoodIn wsX8_readText wsX8_nextToken := goodIn_r _ [11, 1, 12, 6, 13, 5, 14, 15, 16, 17, 18, 19, 20, 21, 10, 22, 23, 24, 25, 58, 59, 60, 61, 62, 63, 64, 65, 66, 67, 68, 69, 70, 71, 72, 73, 74, 75] (by decide +kernel) (by decide +kernel)
set_option maxRecDepth 20000 in
theorem gX8_readText_X8_nextToken : GoodIn wsX8_readText (wsV RX8 88 RX8 yX8_nextToken wsX8_nextToken) := goodIn_app (goodIn_of _ (by decide +kernel)) ggX8_readText_X8_nextToken
set_option maxRecDepth 20000 in
theorem ggX8_readText_X8_readClause : GoodIn wsX8_readText wsX8_readClause := goodIn_r _ [29, 3, 30, 31, 32, 10, 33, 34, 35, 36, 37, 12, 1, 38, 18, 14, 5, 39, 40, 41, 42, 43, 44, 45, 46, 47, 48, 49, 6, 7, 8, 9, 11, 13, 15, 16, 17, 19, 20, 21, 22, 23, 24, 25, 50, 51, 52, 53, 54, 55, 56, 57, 58, 59, 60, 61, 62, 63, 64, 65, 66, 67, 68, 69, 70, 71, 72, 73, 74, 75] (by decide +kernel) (by decide +kernel)
set_option maxRecDepth 20000 in
theorem gX8_readText_X8_readClause : GoodIn wsX8_readText (wsV RX8 114 RX8 yX8_readClause wsX8_readClause) := goodIn_app (goodIn_of _ (by decide +kernel)) ggX8_readText_X8_readClause
theorem dX8_readText_0 : decode cX8_readText 0 = .ok (.aload_n 0, 1) := by decide +kernel
theorem dX8_readText_1 : decode cX8_readText 1 = .ok (.iconst 0, 1) := by decide +kernel
theorem dX8_readText_2 : decode cX8_readText 2 = .ok (.putfield 54, 3) := by decide +kernel
theorem dX8_readText_5 : decode cX8_readText 5 = .ok (.aload_n 0, 1) := by decide +kernel
theorem dX8_readText_6 : decode cX8_readText 6 = .ok (.iconst 0, 1) := by decide +kernel
theorem dX8_readText_7 : decode cX8_readText 7 = .ok (.putfield 111, 3) := by decide +kernel
theorem dX8_readText_10 : decode cX8_readText 10 = .ok (.iconst 0, 1) := by decide +kernel
theorem dX8_readText_11 : decode cX8_readText 11 = .ok (.istore_n 1, 1) := by decide +kernel
theorem dX8_readText_12 : decode cX8_readText 12 = .ok (.iload_n 1, 1) := by decide +kernel
theorem dX8_readText_13 : decode cX8_readText 13 = .ok (.sipush 145, 3) := by decide +kernel
theorem dX8_readText_16 : decode cX8_readText 16 = .ok (.if_icmp .ge 21, 3) := by decide +kernel
theorem dX8_readText_19 : decode cX8_readText 19 = .ok (.aload_n 0, 1) := by decide +kernel
theorem dX8_readText_20 : decode cX8_readText 20 = .ok (.getfield 19, 3) := by decide +kernel
theorem dX8_readText_23 : decode cX8_readText 23 = .ok (.iload_n 1, 1) := by decide +kernel
theorem dX8_readText_24 : decode cX8_readText 24 = .ok (.aload_n 0, 1) := by decide +kernel
theorem dX8_readText_25 : decode cX8_readText 25 = .ok (.getfield 7, 3) := by decide +kernel
theorem dX8_readText_28 : decode cX8_readText 28 = .ok (.iload_n 1, 1) := by decide +kernel
theorem dX8_readText_29 : decode cX8_readText 29 = .ok (.iaload, 1) := by decide +kernel
theorem dX8_readText_30 : decode cX8_readText 30 = .ok (.iastore, 1) := by decide +kernel
theorem dX8_readText_31 : decode cX8_readText 31 = .ok (.iinc 1 1, 3) := by decide +kernel
theorem dX8_readText_34 : decode cX8_readText 34 = .ok (.goto (-22), 3) := by decide +kernel
theorem dX8_readText_37 : decode cX8_readText 37 = .ok (.aload_n 0, 1) := by decide +kernel
theorem dX8_readText_38 : decode cX8_readText 38 = .ok (.invokevirtual 88, 3) := by decide +kernel
theorem dX8_readText_41 : decode cX8_readText 41 = .ok (.aload_n 0, 1) := by decide +kernel
theorem dX8_readText_42 : decode cX8_readText 42 = .ok (.invokevirtual 114, 3) := by decide +kernel
theorem dX8_readText_45 : decode cX8_readText 45 = .ok (.ifCond .ne 5, 3) := by decide +kernel
theorem dX8_readText_48 : decode cX8_readText 48 = .ok (.iconst 0, 1) := by decide +kernel
theorem dX8_readText_49 : decode cX8_readText 49 = .ok (.ireturn, 1) := by decide +kernel
theorem dX8_readText_50 : decode cX8_readText 50 = .ok (.aload_n 0, 1) := by decide +kernel
theorem dX8_readText_51 : decode cX8_readText 51 = .ok (.dup, 1) := by decide +kernel
theorem dX8_readText_52 : decode cX8_readText 52 = .ok (.getfield 111, 3) := by decide +kernel
theorem dX8_readText_55 : decode cX8_readText 55 = .ok (.iconst 1, 1) := by decide +kernel
theorem dX8_readText_56 : decode cX8_readText 56 = .ok (.iadd, 1) := by decide +kernel
theorem dX8_readText_57 : decode cX8_readText 57 = .ok (.putfield 111, 3) := by decide +kernel
theorem dX8_readText_60 : decode cX8_readText 60 = .ok (.aload_n 0, 1) := by decide +kernel
theorem dX8_readText_61 : decode cX8_readText 61 = .ok (.invokevirtual 88, 3) := by decide +kernel
theorem dX8_readText_64 : decode cX8_readText 64 = .ok (.aload_n 0, 1) := by decide +kernel
theorem dX8_readText_65 : decode cX8_readText 65 = .ok (.getfield 67, 3) := by decide +kernel
theorem dX8_readText_68 : decode cX8_readText 68 = .ok (.iconst 3, 1) := by decide +kernel
theorem dX8_readText_69 : decode cX8_readText 69 = .ok (.if_icmp .ne 5, 3) := by decide +kernel
theorem dX8_readText_72 : decode cX8_readText 72 = .ok (.iconst 1, 1) := by decide +kernel
theorem dX8_readText_73 : decode cX8_readText 73 = .ok (.ireturn, 1) := by decide +kernel
theorem dX8_readText_74 : decode cX8_readText 74 = .ok (.aload_n 0, 1) := by decide +kernel
theorem dX8_readText_75 : decode cX8_readText 75 = .ok (.getfield 67, 3) := by decide +kernel
theorem dX8_readText_78 : decode cX8_readText 78 = .ok (.ifCond .ne 21, 3) := by decide +kernel
theorem dX8_readText_81 : decode cX8_readText 81 = .ok (.aload_n 0, 1) := by decide +kernel
theorem dX8_readText_82 : decode cX8_readText 82 = .ok (.getfield 64, 3) := by decide +kernel
theorem dX8_readText_85 : decode cX8_readText 85 = .ok (.bipush 59, 2) := by decide +kernel
theorem dX8_readText_87 : decode cX8_readText 87 = .ok (.if_icmp .ne 12, 3) := by decide +kernel
theorem dX8_readText_90 : decode cX8_readText 90 = .ok (.aload_n 0, 1) := by decide +kernel
theorem dX8_readText_91 : decode cX8_readText 91 = .ok (.getfield 111, 3) := by decide +kernel
theorem dX8_readText_94 : decode cX8_readText 94 = .ok (.bipush 14, 2) := by decide +kernel
theorem dX8_readText_96 : decode cX8_readText 96 = .ok (.if_icmp .ne (-59), 3) := by decide +kernel
theorem dX8_readText_99 : decode cX8_readText 99 = .ok (.iconst 0, 1) := by decide +kernel
theorem dX8_readText_100 : decode cX8_readText 100 = .ok (.ireturn, 1) := by decide +kernel
set_option maxRecDepth 20000 in
theorem ggX8_fault_X8_readText : GoodIn wsX8_fault wsX8_readText := goodIn_r _ [6, 7, 8, 9, 10, 11, 12, 13, 14, 15, 5, 16, 1, 17, 18, 19, 20, 21, 22, 23, 24, 25, 26, 27, 28, 29, 30, 31, 32, 33, 34, 35, 36, 37, 38, 39, 40, 41, 42, 43, 44, 45, 46, 47, 48, 49, 50, 51, 52, 53, 54, 55, 56, 57, 58, 59, 60, 61, 62, 63, 64, 65, 66, 67, 68, 69, 70, 71, 72, 73, 74, 75, 76, 77, 78, 79] (by decide +kernel) (by decide +kernel)
set_option maxRecDepth 20000 in
theorem gX8_fault_X8_readText : GoodIn wsX8_fault (wsV RX8 118 RX8 yX8_readText wsX8_readText) := goodIn_app (goodIn_of _ (by decide +kernel)) ggX8_fault_X8_readText
theorem dX8_fault_0 : decode cX8_fault 0 = .ok (.aload_n 0, 1) := by decide +kernel
theorem dX8_fault_1 : decode cX8_fault 1 = .ok (.invokevirtual 118, 3) := by decide +kernel
theorem dX8_fault_4 : decode cX8_fault 4 = .ok (.ifCond .eq 7, 3) := by decide +kernel
theorem dX8_fault_7 : decode cX8_fault 7 = .ok (.iconst (-1), 1) := by decide +kernel
theorem dX8_fault_8 : decode cX8_fault 8 = .ok (.goto 7, 3) := by decide +kernel
theorem dX8_fault_11 : decode cX8_fault 11 = .ok (.aload_n 0, 1) := by decide +kernel
theorem dX8_fault_12 : decode cX8_fault 12 = .ok (.getfield 61, 3) := by decide +kernel
theorem dX8_fault_15 : decode cX8_fault 15 = .ok (.ireturn, 1) := by decide +kernel
theorem dX8_anew_0 : decode cX8_anew 0 = .ok (.iconst 0, 1) := by decide +kernel
theorem dX8_anew_1 : decode cX8_anew 1 = .ok (.istore_n 1, 1) := by decide +kernel
theorem dX8_anew_2 : decode cX8_anew 2 = .ok (.iload_n 1, 1) := by decide +kernel
theorem dX8_anew_3 : decode cX8_anew 3 = .ok (.bipush 60, 2) := by decide +kernel
theorem dX8_anew_5 : decode cX8_anew 5 = .ok (.if_icmp .ge 24, 3) := by decide +kernel
theorem dX8_anew_8 : decode cX8_anew 8 = .ok (.aload_n 0, 1) := by decide +kernel
theorem dX8_anew_9 : decode cX8_anew 9 = .ok (.getfield 13, 3) := by decide +kernel
theorem dX8_anew_12 : decode cX8_anew 12 = .ok (.iload_n 1, 1) := by decide +kernel
theorem dX8_anew_13 : decode cX8_anew 13 = .ok (.aload_n 0, 1) := by decide +kernel
theorem dX8_anew_14 : decode cX8_anew 14 = .ok (.getfield 7, 3) := by decide +kernel
theorem dX8_anew_17 : decode cX8_anew 17 = .ok (.bipush 25, 2) := by decide +kernel
theorem dX8_anew_19 : decode cX8_anew 19 = .ok (.iload_n 1, 1) := by decide +kernel
theorem dX8_anew_20 : decode cX8_anew 20 = .ok (.iadd, 1) := by decide +kernel
theorem dX8_anew_21 : decode cX8_anew 21 = .ok (.iaload, 1) := by decide +kernel
theorem dX8_anew_22 : decode cX8_anew 22 = .ok (.iastore, 1) := by decide +kernel
theorem dX8_anew_23 : decode cX8_anew 23 = .ok (.iinc 1 1, 3) := by decide +kernel
theorem dX8_anew_26 : decode cX8_anew 26 = .ok (.goto (-24), 3) := by decide +kernel
theorem dX8_anew_29 : decode cX8_anew 29 = .ok (.iconst 0, 1) := by decide +kernel
theorem dX8_anew_30 : decode cX8_anew 30 = .ok (.istore_n 1, 1) := by decide +kernel
theorem dX8_anew_31 : decode cX8_anew 31 = .ok (.iload_n 1, 1) := by decide +kernel
theorem dX8_anew_32 : decode cX8_anew 32 = .ok (.bipush 6, 2) := by decide +kernel
theorem dX8_anew_34 : decode cX8_anew 34 = .ok (.if_icmp .ge 29, 3) := by decide +kernel
theorem dX8_anew_37 : decode cX8_anew 37 = .ok (.aload_n 0, 1) := by decide +kernel
theorem dX8_anew_38 : decode cX8_anew 38 = .ok (.getfield 13, 3) := by decide +kernel
theorem dX8_anew_41 : decode cX8_anew 41 = .ok (.bipush 60, 2) := by decide +kernel
theorem dX8_anew_43 : decode cX8_anew 43 = .ok (.iload_n 1, 1) := by decide +kernel
theorem dX8_anew_44 : decode cX8_anew 44 = .ok (.iadd, 1) := by decide +kernel
theorem dX8_anew_45 : decode cX8_anew 45 = .ok (.iconst (-1), 1) := by decide +kernel
theorem dX8_anew_46 : decode cX8_anew 46 = .ok (.iastore, 1) := by decide +kernel
theorem dX8_anew_47 : decode cX8_anew 47 = .ok (.aload_n 0, 1) := by decide +kernel
theorem dX8_anew_48 : decode cX8_anew 48 = .ok (.getfield 13, 3) := by decide +kernel
theorem dX8_anew_51 : decode cX8_anew 51 = .ok (.bipush 66, 2) := by decide +kernel
theorem dX8_anew_53 : decode cX8_anew 53 = .ok (.iload_n 1, 1) := by decide +kernel
theorem dX8_anew_54 : decode cX8_anew 54 = .ok (.iadd, 1) := by decide +kernel
theorem dX8_anew_55 : decode cX8_anew 55 = .ok (.iconst 0, 1) := by decide +kernel
theorem dX8_anew_56 : decode cX8_anew 56 = .ok (.iastore, 1) := by decide +kernel
theorem dX8_anew_57 : decode cX8_anew 57 = .ok (.iinc 1 1, 3) := by decide +kernel
theorem dX8_anew_60 : decode cX8_anew 60 = .ok (.goto (-29), 3) := by decide +kernel
theorem dX8_anew_63 : decode cX8_anew 63 = .ok (.aload_n 0, 1) := by decide +kernel
theorem dX8_anew_64 : decode cX8_anew 64 = .ok (.getfield 13, 3) := by decide +kernel
theorem dX8_anew_67 : decode cX8_anew 67 = .ok (.bipush 72, 2) := by decide +kernel
theorem dX8_anew_69 : decode cX8_anew 69 = .ok (.iconst 0, 1) := by decide +kernel
theorem dX8_anew_70 : decode cX8_anew 70 = .ok (.iastore, 1) := by decide +kernel
theorem dX8_anew_71 : decode cX8_anew 71 = .ok (.return_, 1) := by decide +kernel
set_option maxRecDepth 20000 in
theorem ggX8_top_X8_readText : GoodIn wsX8_top wsX8_readText := goodIn_r _ [12, 13, 7, 3, 2, 14, 15, 16, 17, 18, 11, 19, 20, 1, 21, 22, 23, 24, 25, 26, 27, 28, 29, 30, 31, 32, 33, 34, 35, 36, 37, 38, 39, 40, 41, 42, 43, 44, 45, 46, 47, 48, 49, 50, 51, 52, 53, 54, 55, 56, 57, 58, 59, 60, 61, 62, 63, 64, 70, 71, 72, 73, 74, 75, 76, 77, 78, 79, 80, 81, 82, 83, 84, 85, 86, 87] (by decide +kernel) (by decide +kernel)
set_option maxRecDepth 20000 in
theorem gX8_top_X8_readText : GoodIn wsX8_top (wsV RX8 118 RX8 yX8_readText wsX8_readText) := goodIn_app (goodIn_of _ (by decide +kernel)) ggX8_top_X8_readText
set_option maxRecDepth 20000 in
theorem ggX8_top_X8_anew : GoodIn wsX8_top wsX8_anew := goodIn_r _ [68, 69, 2, 70, 71, 72, 73, 74, 75, 76, 77, 78, 79, 80, 81, 82, 83, 84, 85, 86, 87] (by decide +kernel) (by decide +kernel)
set_option maxRecDepth 20000 in
theorem gX8_top_X8_anew : GoodIn wsX8_top (wsV RX8 41 RX8 yX8_anew wsX8_anew) := goodIn_app (goodIn_of _ (by decide +kernel)) ggX8_top_X8_anew
theorem dX8_top_0 : decode cX8_top 0 = .ok (.aload_n 0, 1) := by decide +kernel
theorem dX8_top_1 : decode cX8_top 1 = .ok (.invokevirtual 118, 3) := by decide +kernel
theorem dX8_top_4 : decode cX8_top 4 = .ok (.ifCond .ne 6, 3) := by decide +kernel
theorem dX8_top_7 : decode cX8_top 7 = .ok (.bipush (-4), 2) := by decide +kernel
theorem dX8_top_9 : decode cX8_top 9 = .ok (.ireturn, 1) := by decide +kernel
theorem dX8_top_10 : decode cX8_top 10 = .ok (.aload_n 0, 1) := by decide +kernel
theorem dX8_top_11 : decode cX8_top 11 = .ok (.iconst 0, 1) := by decide +kernel
theorem dX8_top_12 : decode cX8_top 12 = .ok (.putfield 50, 3) := by decide +kernel
theorem dX8_top_15 : decode cX8_top 15 = .ok (.iconst 0, 1) := by decide +kernel
theorem dX8_top_16 : decode cX8_top 16 = .ok (.istore_n 1, 1) := by decide +kernel
theorem dX8_top_17 : decode cX8_top 17 = .ok (.iload_n 1, 1) := by decide +kernel
theorem dX8_top_18 : decode cX8_top 18 = .ok (.sipush 145, 3) := by decide +kernel
theorem dX8_top_21 : decode cX8_top 21 = .ok (.if_icmp .ge 21, 3) := by decide +kernel
theorem dX8_top_24 : decode cX8_top 24 = .ok (.aload_n 0, 1) := by decide +kernel
theorem dX8_top_25 : decode cX8_top 25 = .ok (.getfield 7, 3) := by decide +kernel
theorem dX8_top_28 : decode cX8_top 28 = .ok (.iload_n 1, 1) := by decide +kernel
theorem dX8_top_29 : decode cX8_top 29 = .ok (.aload_n 0, 1) := by decide +kernel
theorem dX8_top_30 : decode cX8_top 30 = .ok (.getfield 19, 3) := by decide +kernel
theorem dX8_top_33 : decode cX8_top 33 = .ok (.iload_n 1, 1) := by decide +kernel
theorem dX8_top_34 : decode cX8_top 34 = .ok (.iaload, 1) := by decide +kernel
theorem dX8_top_35 : decode cX8_top 35 = .ok (.iastore, 1) := by decide +kernel
theorem dX8_top_36 : decode cX8_top 36 = .ok (.iinc 1 1, 3) := by decide +kernel
theorem dX8_top_39 : decode cX8_top 39 = .ok (.goto (-22), 3) := by decide +kernel
theorem dX8_top_42 : decode cX8_top 42 = .ok (.aload_n 0, 1) := by decide +kernel
theorem dX8_top_43 : decode cX8_top 43 = .ok (.invokevirtual 41, 3) := by decide +kernel
theorem dX8_top_46 : decode cX8_top 46 = .ok (.aload_n 0, 1) := by decide +kernel
theorem dX8_top_47 : decode cX8_top 47 = .ok (.iconst 0, 1) := by decide +kernel
theorem dX8_top_48 : decode cX8_top 48 = .ok (.putfield 121, 3) := by decide +kernel
theorem dX8_top_51 : decode cX8_top 51 = .ok (.aload_n 0, 1) := by decide +kernel
theorem dX8_top_52 : decode cX8_top 52 = .ok (.iconst 0, 1) := by decide +kernel
theorem dX8_top_53 : decode cX8_top 53 = .ok (.putfield 124, 3) := by decide +kernel
theorem dX8_top_56 : decode cX8_top 56 = .ok (.aload_n 0, 1) := by decide +kernel
theorem dX8_top_57 : decode cX8_top 57 = .ok (.getfield 25, 3) := by decide +kernel
theorem dX8_top_60 : decode cX8_top 60 = .ok (.iconst 0, 1) := by decide +kernel
theorem dX8_top_61 : decode cX8_top 61 = .ok (.iconst 0, 1) := by decide +kernel
theorem dX8_top_62 : decode cX8_top 62 = .ok (.bastore, 1) := by decide +kernel
theorem dX8_top_63 : decode cX8_top 63 = .ok (.aload_n 0, 1) := by decide +kernel
theorem dX8_top_64 : decode cX8_top 64 = .ok (.getfield 25, 3) := by decide +kernel
theorem dX8_top_67 : decode cX8_top 67 = .ok (.iconst 1, 1) := by decide +kernel
theorem dX8_top_68 : decode cX8_top 68 = .ok (.iconst 0, 1) := by decide +kernel
theorem dX8_top_69 : decode cX8_top 69 = .ok (.bastore, 1) := by decide +kernel
theorem dX8_top_70 : decode cX8_top 70 = .ok (.aload_n 0, 1) := by decide +kernel
theorem dX8_top_71 : decode cX8_top 71 = .ok (.getfield 111, 3) := by decide +kernel
theorem dX8_top_74 : decode cX8_top 74 = .ok (.ireturn, 1) := by decide +kernel
theorem dX8_walkOf_0 : decode cX8_walkOf 0 = .ok (.aload_n 0, 1) := by decide +kernel
theorem dX8_walkOf_1 : decode cX8_walkOf 1 = .ok (.getfield 7, 3) := by decide +kernel
theorem dX8_walkOf_4 : decode cX8_walkOf 4 = .ok (.bipush 7, 2) := by decide +kernel
theorem dX8_walkOf_6 : decode cX8_walkOf 6 = .ok (.iload_n 1, 1) := by decide +kernel
theorem dX8_walkOf_7 : decode cX8_walkOf 7 = .ok (.iadd, 1) := by decide +kernel
theorem dX8_walkOf_8 : decode cX8_walkOf 8 = .ok (.iaload, 1) := by decide +kernel
theorem dX8_walkOf_9 : decode cX8_walkOf 9 = .ok (.istore_n 2, 1) := by decide +kernel
theorem dX8_walkOf_10 : decode cX8_walkOf 10 = .ok (.aload_n 0, 1) := by decide +kernel
theorem dX8_walkOf_11 : decode cX8_walkOf 11 = .ok (.getfield 7, 3) := by decide +kernel
theorem dX8_walkOf_14 : decode cX8_walkOf 14 = .ok (.iconst 1, 1) := by decide +kernel
theorem dX8_walkOf_15 : decode cX8_walkOf 15 = .ok (.iload_n 1, 1) := by decide +kernel
theorem dX8_walkOf_16 : decode cX8_walkOf 16 = .ok (.iadd, 1) := by decide +kernel
theorem dX8_walkOf_17 : decode cX8_walkOf 17 = .ok (.iaload, 1) := by decide +kernel
theorem dX8_walkOf_18 : decode cX8_walkOf 18 = .ok (.iconst 1, 1) := by decide +kernel
theorem dX8_walkOf_19 : decode cX8_walkOf 19 = .ok (.if_icmp .ne 14, 3) := by decide +kernel
theorem dX8_walkOf_22 : decode cX8_walkOf 22 = .ok (.iload_n 2, 1) := by decide +kernel
theorem dX8_walkOf_23 : decode cX8_walkOf 23 = .ok (.iconst 1, 1) := by decide +kernel
theorem dX8_walkOf_24 : decode cX8_walkOf 24 = .ok (.if_icmp .le 9, 3) := by decide +kernel
theorem dX8_walkOf_27 : decode cX8_walkOf 27 = .ok (.iload_n 2, 1) := by decide +kernel
theorem dX8_walkOf_28 : decode cX8_walkOf 28 = .ok (.iconst 1, 1) := by decide +kernel
theorem dX8_walkOf_29 : decode cX8_walkOf 29 = .ok (.isub, 1) := by decide +kernel
theorem dX8_walkOf_30 : decode cX8_walkOf 30 = .ok (.goto 4, 3) := by decide +kernel
theorem dX8_walkOf_33 : decode cX8_walkOf 33 = .ok (.iload_n 2, 1) := by decide +kernel
theorem dX8_walkOf_34 : decode cX8_walkOf 34 = .ok (.ireturn, 1) := by decide +kernel
theorem dX8_costOf_0 : decode cX8_costOf 0 = .ok (.aload_n 0, 1) := by decide +kernel
theorem dX8_costOf_1 : decode cX8_costOf 1 = .ok (.getfield 7, 3) := by decide +kernel
theorem dX8_costOf_4 : decode cX8_costOf 4 = .ok (.iconst 1, 1) := by decide +kernel
theorem dX8_costOf_5 : decode cX8_costOf 5 = .ok (.iload_n 1, 1) := by decide +kernel
theorem dX8_costOf_6 : decode cX8_costOf 6 = .ok (.iadd, 1) := by decide +kernel
theorem dX8_costOf_7 : decode cX8_costOf 7 = .ok (.iaload, 1) := by decide +kernel
theorem dX8_costOf_8 : decode cX8_costOf 8 = .ok (.iconst 3, 1) := by decide +kernel
theorem dX8_costOf_9 : decode cX8_costOf 9 = .ok (.if_icmp .ne 17, 3) := by decide +kernel
theorem dX8_costOf_12 : decode cX8_costOf 12 = .ok (.iconst 2, 1) := by decide +kernel
theorem dX8_costOf_13 : decode cX8_costOf 13 = .ok (.aload_n 0, 1) := by decide +kernel
theorem dX8_costOf_14 : decode cX8_costOf 14 = .ok (.getfield 7, 3) := by decide +kernel
theorem dX8_costOf_17 : decode cX8_costOf 17 = .ok (.bipush 19, 2) := by decide +kernel
theorem dX8_costOf_19 : decode cX8_costOf 19 = .ok (.iload_n 1, 1) := by decide +kernel
theorem dX8_costOf_20 : decode cX8_costOf 20 = .ok (.iadd, 1) := by decide +kernel
theorem dX8_costOf_21 : decode cX8_costOf 21 = .ok (.iaload, 1) := by decide +kernel
theorem dX8_costOf_22 : decode cX8_costOf 22 = .ok (.imul, 1) := by decide +kernel
theorem dX8_costOf_23 : decode cX8_costOf 23 = .ok (.goto 12, 3) := by decide +kernel
theorem dX8_costOf_26 : decode cX8_costOf 26 = .ok (.aload_n 0, 1) := by decide +kernel
theorem dX8_costOf_27 : decode cX8_costOf 27 = .ok (.getfield 7, 3) := by decide +kernel
theorem dX8_costOf_30 : decode cX8_costOf 30 = .ok (.bipush 19, 2) := by decide +kernel
theorem dX8_costOf_32 : decode cX8_costOf 32 = .ok (.iload_n 1, 1) := by decide +kernel
theorem dX8_costOf_33 : decode cX8_costOf 33 = .ok (.iadd, 1) := by decide +kernel
theorem dX8_costOf_34 : decode cX8_costOf 34 = .ok (.iaload, 1) := by decide +kernel
theorem dX8_costOf_35 : decode cX8_costOf 35 = .ok (.ireturn, 1) := by decide +kernel
set_option maxRecDepth 20000 in
theorem ggX8_thereBy_X8_walkOf : GoodIn wsX8_thereBy wsX8_walkOf := goodIn_r _ [6, 7, 8, 9, 10, 11, 12, 13, 14, 15, 16, 17, 18, 19, 20, 21, 22, 23, 24, 25] (by decide +kernel) (by decide +kernel)
set_option maxRecDepth 20000 in
theorem gX8_thereBy_X8_walkOf : GoodIn wsX8_thereBy (wsV RX8 127 RX8 yX8_walkOf wsX8_walkOf) := goodIn_app (goodIn_of _ (by decide +kernel)) ggX8_thereBy_X8_walkOf
theorem dX8_thereBy_0 : decode cX8_thereBy 0 = .ok (.iload_n 2, 1) := by decide +kernel
theorem dX8_thereBy_1 : decode cX8_thereBy 1 = .ok (.aload_n 0, 1) := by decide +kernel
theorem dX8_thereBy_2 : decode cX8_thereBy 2 = .ok (.iload_n 1, 1) := by decide +kernel
theorem dX8_thereBy_3 : decode cX8_thereBy 3 = .ok (.invokevirtual 127, 3) := by decide +kernel
theorem dX8_thereBy_6 : decode cX8_thereBy 6 = .ok (.iadd, 1) := by decide +kernel
theorem dX8_thereBy_7 : decode cX8_thereBy 7 = .ok (.aload_n 0, 1) := by decide +kernel
theorem dX8_thereBy_8 : decode cX8_thereBy 8 = .ok (.getfield 13, 3) := by decide +kernel
theorem dX8_thereBy_11 : decode cX8_thereBy 11 = .ok (.bipush 72, 2) := by decide +kernel
theorem dX8_thereBy_13 : decode cX8_thereBy 13 = .ok (.iaload, 1) := by decide +kernel
theorem dX8_thereBy_14 : decode cX8_thereBy 14 = .ok (.iadd, 1) := by decide +kernel
theorem dX8_thereBy_15 : decode cX8_thereBy 15 = .ok (.ireturn, 1) := by decide +kernel
set_option maxRecDepth 20000 in
theorem ggX8_standsIn_X8_thereBy : GoodIn wsX8_standsIn wsX8_thereBy := goodIn_r _ [7, 1, 8, 9, 10, 6, 11, 2, 15, 16, 17, 18, 19, 20, 21, 22, 23, 24, 25, 26, 27, 28, 29, 30, 31, 32] (by decide +kernel) (by decide +kernel)
set_option maxRecDepth 20000 in
theorem gX8_standsIn_X8_thereBy : GoodIn wsX8_standsIn (wsV RX8 130 RX8 yX8_thereBy wsX8_thereBy) := goodIn_app (goodIn_of _ (by decide +kernel)) ggX8_standsIn_X8_thereBy
set_option maxRecDepth 20000 in
theorem ggX8_standsIn_X8_in : GoodIn wsX8_standsIn wsX8_in := goodIn_r _ [14] (by decide +kernel) (by decide +kernel)
set_option maxRecDepth 20000 in
theorem gX8_standsIn_X8_in : GoodIn wsX8_standsIn (va_wsS RX8 44 yX8_in wsX8_in) := goodIn_app (goodIn_of _ (by decide +kernel)) ggX8_standsIn_X8_in
theorem dX8_standsIn_0 : decode cX8_standsIn 0 = .ok (.aload_n 0, 1) := by decide +kernel
theorem dX8_standsIn_1 : decode cX8_standsIn 1 = .ok (.getfield 13, 3) := by decide +kernel
theorem dX8_standsIn_4 : decode cX8_standsIn 4 = .ok (.bipush 60, 2) := by decide +kernel
theorem dX8_standsIn_6 : decode cX8_standsIn 6 = .ok (.iload_n 1, 1) := by decide +kernel
theorem dX8_standsIn_7 : decode cX8_standsIn 7 = .ok (.iadd, 1) := by decide +kernel
theorem dX8_standsIn_8 : decode cX8_standsIn 8 = .ok (.iaload, 1) := by decide +kernel
theorem dX8_standsIn_9 : decode cX8_standsIn 9 = .ok (.ifCond .ge 5, 3) := by decide +kernel
theorem dX8_standsIn_12 : decode cX8_standsIn 12 = .ok (.iconst 0, 1) := by decide +kernel
theorem dX8_standsIn_13 : decode cX8_standsIn 13 = .ok (.ireturn, 1) := by decide +kernel
theorem dX8_standsIn_14 : decode cX8_standsIn 14 = .ok (.aload_n 0, 1) := by decide +kernel
theorem dX8_standsIn_15 : decode cX8_standsIn 15 = .ok (.iload_n 1, 1) := by decide +kernel
theorem dX8_standsIn_16 : decode cX8_standsIn 16 = .ok (.aload_n 0, 1) := by decide +kernel
theorem dX8_standsIn_17 : decode cX8_standsIn 17 = .ok (.getfield 13, 3) := by decide +kernel
theorem dX8_standsIn_20 : decode cX8_standsIn 20 = .ok (.bipush 60, 2) := by decide +kernel
theorem dX8_standsIn_22 : decode cX8_standsIn 22 = .ok (.iload_n 1, 1) := by decide +kernel
theorem dX8_standsIn_23 : decode cX8_standsIn 23 = .ok (.iadd, 1) := by decide +kernel
theorem dX8_standsIn_24 : decode cX8_standsIn 24 = .ok (.iaload, 1) := by decide +kernel
theorem dX8_standsIn_25 : decode cX8_standsIn 25 = .ok (.invokevirtual 130, 3) := by decide +kernel
theorem dX8_standsIn_28 : decode cX8_standsIn 28 = .ok (.istore_n 3, 1) := by decide +kernel
theorem dX8_standsIn_29 : decode cX8_standsIn 29 = .ok (.iload_n 2, 1) := by decide +kernel
theorem dX8_standsIn_30 : decode cX8_standsIn 30 = .ok (.i2l, 1) := by decide +kernel
theorem dX8_standsIn_31 : decode cX8_standsIn 31 = .ok (.iload_n 3, 1) := by decide +kernel
theorem dX8_standsIn_32 : decode cX8_standsIn 32 = .ok (.i2l, 1) := by decide +kernel
theorem dX8_standsIn_33 : decode cX8_standsIn 33 = .ok (.iload_n 3, 1) := by decide +kernel
theorem dX8_standsIn_34 : decode cX8_standsIn 34 = .ok (.aload_n 0, 1) := by decide +kernel
theorem dX8_standsIn_35 : decode cX8_standsIn 35 = .ok (.getfield 7, 3) := by decide +kernel
theorem dX8_standsIn_38 : decode cX8_standsIn 38 = .ok (.bipush 13, 2) := by decide +kernel
theorem dX8_standsIn_40 : decode cX8_standsIn 40 = .ok (.iload_n 1, 1) := by decide +kernel
theorem dX8_standsIn_41 : decode cX8_standsIn 41 = .ok (.iadd, 1) := by decide +kernel
theorem dX8_standsIn_42 : decode cX8_standsIn 42 = .ok (.iaload, 1) := by decide +kernel
theorem dX8_standsIn_43 : decode cX8_standsIn 43 = .ok (.iadd, 1) := by decide +kernel
theorem dX8_standsIn_44 : decode cX8_standsIn 44 = .ok (.iconst 1, 1) := by decide +kernel
theorem dX8_standsIn_45 : decode cX8_standsIn 45 = .ok (.isub, 1) := by decide +kernel
theorem dX8_standsIn_46 : decode cX8_standsIn 46 = .ok (.i2l, 1) := by decide +kernel
theorem dX8_standsIn_47 : decode cX8_standsIn 47 = .ok (.invokestatic 44, 3) := by decide +kernel
theorem dX8_standsIn_50 : decode cX8_standsIn 50 = .ok (.ireturn, 1) := by decide +kernel
set_option maxRecDepth 20000 in
theorem ggX8_costs_X8_costOf : GoodIn wsX8_costs wsX8_costOf := goodIn_r _ [7, 2, 8, 9, 10, 11, 12, 13, 14, 15, 16, 17, 18, 19, 20, 21, 22, 23, 24, 25] (by decide +kernel) (by decide +kernel)
set_option maxRecDepth 20000 in
theorem gX8_costs_X8_costOf : GoodIn wsX8_costs (wsV RX8 133 RX8 yX8_costOf wsX8_costOf) := goodIn_app (goodIn_of _ (by decide +kernel)) ggX8_costs_X8_costOf
theorem dX8_costs_0 : decode cX8_costs 0 = .ok (.aload_n 0, 1) := by decide +kernel
theorem dX8_costs_1 : decode cX8_costs 1 = .ok (.getfield 13, 3) := by decide +kernel
theorem dX8_costs_4 : decode cX8_costs 4 = .ok (.iload_n 2, 1) := by decide +kernel
theorem dX8_costs_5 : decode cX8_costs 5 = .ok (.iaload, 1) := by decide +kernel
theorem dX8_costs_6 : decode cX8_costs 6 = .ok (.istore_n 3, 1) := by decide +kernel
theorem dX8_costs_7 : decode cX8_costs 7 = .ok (.aload_n 0, 1) := by decide +kernel
theorem dX8_costs_8 : decode cX8_costs 8 = .ok (.getfield 7, 3) := by decide +kernel
theorem dX8_costs_11 : decode cX8_costs 11 = .ok (.bipush 85, 2) := by decide +kernel
theorem dX8_costs_13 : decode cX8_costs 13 = .ok (.iload_n 2, 1) := by decide +kernel
theorem dX8_costs_14 : decode cX8_costs 14 = .ok (.iadd, 1) := by decide +kernel
theorem dX8_costs_15 : decode cX8_costs 15 = .ok (.iaload, 1) := by decide +kernel
theorem dX8_costs_16 : decode cX8_costs 16 = .ok (.iconst 1, 1) := by decide +kernel
theorem dX8_costs_17 : decode cX8_costs 17 = .ok (.if_icmp .eq 30, 3) := by decide +kernel
theorem dX8_costs_20 : decode cX8_costs 20 = .ok (.iload_n 3, 1) := by decide +kernel
theorem dX8_costs_21 : decode cX8_costs 21 = .ok (.ifCond .lt 26, 3) := by decide +kernel
theorem dX8_costs_24 : decode cX8_costs 24 = .ok (.iload_n 3, 1) := by decide +kernel
theorem dX8_costs_25 : decode cX8_costs 25 = .ok (.iload_n 1, 1) := by decide +kernel
theorem dX8_costs_26 : decode cX8_costs 26 = .ok (.if_icmp .eq 21, 3) := by decide +kernel
theorem dX8_costs_29 : decode cX8_costs 29 = .ok (.aload_n 0, 1) := by decide +kernel
theorem dX8_costs_30 : decode cX8_costs 30 = .ok (.getfield 7, 3) := by decide +kernel
theorem dX8_costs_33 : decode cX8_costs 33 = .ok (.iconst 1, 1) := by decide +kernel
theorem dX8_costs_34 : decode cX8_costs 34 = .ok (.iload_n 1, 1) := by decide +kernel
theorem dX8_costs_35 : decode cX8_costs 35 = .ok (.iadd, 1) := by decide +kernel
theorem dX8_costs_36 : decode cX8_costs 36 = .ok (.iaload, 1) := by decide +kernel
theorem dX8_costs_37 : decode cX8_costs 37 = .ok (.iconst 2, 1) := by decide +kernel
theorem dX8_costs_38 : decode cX8_costs 38 = .ok (.if_icmp .ne 13, 3) := by decide +kernel
theorem dX8_costs_41 : decode cX8_costs 41 = .ok (.iload_n 2, 1) := by decide +kernel
theorem dX8_costs_42 : decode cX8_costs 42 = .ok (.bipush 50, 2) := by decide +kernel
theorem dX8_costs_44 : decode cX8_costs 44 = .ok (.if_icmp .lt 7, 3) := by decide +kernel
theorem dX8_costs_47 : decode cX8_costs 47 = .ok (.iconst 1, 1) := by decide +kernel
theorem dX8_costs_48 : decode cX8_costs 48 = .ok (.goto 4, 3) := by decide +kernel
theorem dX8_costs_51 : decode cX8_costs 51 = .ok (.iconst 0, 1) := by decide +kernel
theorem dX8_costs_52 : decode cX8_costs 52 = .ok (.istore 4, 2) := by decide +kernel
theorem dX8_costs_54 : decode cX8_costs 54 = .ok (.iload 4, 2) := by decide +kernel
theorem dX8_costs_56 : decode cX8_costs 56 = .ok (.ifCond .eq 7, 3) := by decide +kernel
theorem dX8_costs_59 : decode cX8_costs 59 = .ok (.iconst 0, 1) := by decide +kernel
theorem dX8_costs_60 : decode cX8_costs 60 = .ok (.goto 8, 3) := by decide +kernel
theorem dX8_costs_63 : decode cX8_costs 63 = .ok (.aload_n 0, 1) := by decide +kernel
theorem dX8_costs_64 : decode cX8_costs 64 = .ok (.iload_n 3, 1) := by decide +kernel
theorem dX8_costs_65 : decode cX8_costs 65 = .ok (.invokevirtual 133, 3) := by decide +kernel
theorem dX8_costs_68 : decode cX8_costs 68 = .ok (.ireturn, 1) := by decide +kernel
set_option maxRecDepth 20000 in
theorem ggX8_fullFine_X8_standsIn : GoodIn wsX8_fullFine wsX8_standsIn := goodIn_r _ [5, 6, 7, 8, 9, 10, 4, 11, 12, 13, 14, 15, 16, 17, 18, 27, 28, 29, 30, 31, 32, 33, 34, 35, 36, 37, 38, 39, 40, 41, 42, 43, 44] (by decide +kernel) (by decide +kernel)
set_option maxRecDepth 20000 in
theorem gX8_fullFine_X8_standsIn : GoodIn wsX8_fullFine (wsV RX8 136 RX8 yX8_standsIn wsX8_standsIn) := goodIn_app (goodIn_of _ (by decide +kernel)) ggX8_fullFine_X8_standsIn
set_option maxRecDepth 20000 in
theorem ggX8_fullFine_X8_costs : GoodIn wsX8_fullFine wsX8_costs := goodIn_r _ [22, 6, 7, 23, 24, 25, 4, 26, 27, 28, 29, 30, 31, 32, 33, 34, 35, 36, 37, 38, 39, 40, 41, 42, 43, 44] (by decide +kernel) (by decide +kernel)
set_option maxRecDepth 20000 in
theorem gX8_fullFine_X8_costs : GoodIn wsX8_fullFine (wsV RX8 139 RX8 yX8_costs wsX8_costs) := goodIn_app (goodIn_of _ (by decide +kernel)) ggX8_fullFine_X8_costs
theorem dX8_fullFine_0 : decode cX8_fullFine 0 = .ok (.iconst 0, 1) := by decide +kernel
theorem dX8_fullFine_1 : decode cX8_fullFine 1 = .ok (.istore_n 2, 1) := by decide +kernel
theorem dX8_fullFine_2 : decode cX8_fullFine 2 = .ok (.iconst 0, 1) := by decide +kernel
theorem dX8_fullFine_3 : decode cX8_fullFine 3 = .ok (.istore_n 3, 1) := by decide +kernel
theorem dX8_fullFine_4 : decode cX8_fullFine 4 = .ok (.iload_n 3, 1) := by decide +kernel
theorem dX8_fullFine_5 : decode cX8_fullFine 5 = .ok (.bipush 60, 2) := by decide +kernel
theorem dX8_fullFine_7 : decode cX8_fullFine 7 = .ok (.if_icmp .ge 77, 3) := by decide +kernel
