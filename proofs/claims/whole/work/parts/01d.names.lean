theorem dX5_readPerson_19 : decode cX5_readPerson 19 = .ok (.if_icmp .ne 7, 3) := by decide +kernel
theorem dX5_readPerson_22 : decode cX5_readPerson 22 = .ok (.iconst (-1), 1) := by decide +kernel
theorem dX5_readPerson_23 : decode cX5_readPerson 23 = .ok (.goto 10, 3) := by decide +kernel
theorem dX5_readPerson_26 : decode cX5_readPerson 26 = .ok (.aload_n 0, 1) := by decide +kernel
theorem dX5_readPerson_27 : decode cX5_readPerson 27 = .ok (.iconst 1, 1) := by decide +kernel
theorem dX5_readPerson_28 : decode cX5_readPerson 28 = .ok (.bipush 6, 2) := by decide +kernel
theorem dX5_readPerson_30 : decode cX5_readPerson 30 = .ok (.invokevirtual 66, 3) := by decide +kernel
theorem dX5_readPerson_33 : decode cX5_readPerson 33 = .ok (.istore 4, 2) := by decide +kernel
theorem dX5_readPerson_35 : decode cX5_readPerson 35 = .ok (.iload 4, 2) := by decide +kernel
theorem dX5_readPerson_37 : decode cX5_readPerson 37 = .ok (.iconst (-1), 1) := by decide +kernel
theorem dX5_readPerson_38 : decode cX5_readPerson 38 = .ok (.if_icmp .ne 7, 3) := by decide +kernel
theorem dX5_readPerson_41 : decode cX5_readPerson 41 = .ok (.iconst (-1), 1) := by decide +kernel
theorem dX5_readPerson_42 : decode cX5_readPerson 42 = .ok (.goto 10, 3) := by decide +kernel
theorem dX5_readPerson_45 : decode cX5_readPerson 45 = .ok (.aload_n 0, 1) := by decide +kernel
theorem dX5_readPerson_46 : decode cX5_readPerson 46 = .ok (.iconst 0, 1) := by decide +kernel
theorem dX5_readPerson_47 : decode cX5_readPerson 47 = .ok (.bipush 20, 2) := by decide +kernel
theorem dX5_readPerson_49 : decode cX5_readPerson 49 = .ok (.invokevirtual 66, 3) := by decide +kernel
theorem dX5_readPerson_52 : decode cX5_readPerson 52 = .ok (.istore 5, 2) := by decide +kernel
theorem dX5_readPerson_54 : decode cX5_readPerson 54 = .ok (.iload 5, 2) := by decide +kernel
theorem dX5_readPerson_56 : decode cX5_readPerson 56 = .ok (.iconst (-1), 1) := by decide +kernel
theorem dX5_readPerson_57 : decode cX5_readPerson 57 = .ok (.if_icmp .ne 5, 3) := by decide +kernel
theorem dX5_readPerson_60 : decode cX5_readPerson 60 = .ok (.iconst 0, 1) := by decide +kernel
theorem dX5_readPerson_61 : decode cX5_readPerson 61 = .ok (.ireturn, 1) := by decide +kernel
theorem dX5_readPerson_62 : decode cX5_readPerson 62 = .ok (.aload_n 1, 1) := by decide +kernel
theorem dX5_readPerson_63 : decode cX5_readPerson 63 = .ok (.iload_n 2, 1) := by decide +kernel
theorem dX5_readPerson_64 : decode cX5_readPerson 64 = .ok (.iload_n 3, 1) := by decide +kernel
theorem dX5_readPerson_65 : decode cX5_readPerson 65 = .ok (.iload 4, 2) := by decide +kernel
theorem dX5_readPerson_67 : decode cX5_readPerson 67 = .ok (.iload 5, 2) := by decide +kernel
theorem dX5_readPerson_69 : decode cX5_readPerson 69 = .ok (.invokevirtual 70, 3) := by decide +kernel
theorem dX5_readPerson_72 : decode cX5_readPerson 72 = .ok (.iconst 1, 1) := by decide +kernel
theorem dX5_readPerson_73 : decode cX5_readPerson 73 = .ok (.ireturn, 1) := by decide +kernel
set_option maxRecDepth 20000 in
theorem ggX5_readSeconds_X5_readNumber : GoodIn wsX5_readSeconds wsX5_readNumber := goodIn_r _ [5, 6, 7, 8, 9, 10, 11, 4, 12, 13, 14, 15, 16, 17, 18, 19, 20, 21, 22, 23, 24, 42, 43, 44, 45, 46, 47] (by decide +kernel) (by decide +kernel)
set_option maxRecDepth 20000 in
theorem gX5_readSeconds_X5_readNumber : GoodIn wsX5_readSeconds (wsV RX5 66 RX5 yX5_readNumber wsX5_readNumber) := goodIn_app (goodIn_of _ (by decide +kernel)) ggX5_readSeconds_X5_readNumber
set_option maxRecDepth 20000 in
theorem ggX5_readSeconds_X7_span : GoodIn wsX5_readSeconds wsX7_span := goodIn_r _ [26, 27] (by decide +kernel) (by decide +kernel)
set_option maxRecDepth 20000 in
theorem gX5_readSeconds_X7_span_n77 : GoodIn wsX5_readSeconds (wsX7_span) := ggX5_readSeconds_X7_span
set_option maxRecDepth 20000 in
theorem ggX5_readSeconds_X6_deed : GoodIn wsX5_readSeconds wsX6_deed := goodIn_r _ [32, 33, 34, 35, 36, 37, 38, 39, 40, 41] (by decide +kernel) (by decide +kernel)
set_option maxRecDepth 20000 in
theorem gX5_readSeconds_X6_deed : GoodIn wsX5_readSeconds (wsV RX5 81 RX6 yX6_deed wsX6_deed) := goodIn_app (goodIn_of _ (by decide +kernel)) ggX5_readSeconds_X6_deed
theorem dX5_readSeconds_0 : decode cX5_readSeconds 0 = .ok (.iload_n 2, 1) := by decide +kernel
theorem dX5_readSeconds_1 : decode cX5_readSeconds 1 = .ok (.iconst 4, 1) := by decide +kernel
theorem dX5_readSeconds_2 : decode cX5_readSeconds 2 = .ok (.if_icmp .ne 17, 3) := by decide +kernel
theorem dX5_readSeconds_5 : decode cX5_readSeconds 5 = .ok (.aload_n 0, 1) := by decide +kernel
theorem dX5_readSeconds_6 : decode cX5_readSeconds 6 = .ok (.iconst 0, 1) := by decide +kernel
theorem dX5_readSeconds_7 : decode cX5_readSeconds 7 = .ok (.aload_n 1, 1) := by decide +kernel
theorem dX5_readSeconds_8 : decode cX5_readSeconds 8 = .ok (.getfield 74, 3) := by decide +kernel
theorem dX5_readSeconds_11 : decode cX5_readSeconds 11 = .ok (.iconst 1, 1) := by decide +kernel
theorem dX5_readSeconds_12 : decode cX5_readSeconds 12 = .ok (.isub, 1) := by decide +kernel
theorem dX5_readSeconds_13 : decode cX5_readSeconds 13 = .ok (.invokevirtual 66, 3) := by decide +kernel
theorem dX5_readSeconds_16 : decode cX5_readSeconds 16 = .ok (.goto 4, 3) := by decide +kernel
theorem dX5_readSeconds_19 : decode cX5_readSeconds 19 = .ok (.iconst 0, 1) := by decide +kernel
theorem dX5_readSeconds_20 : decode cX5_readSeconds 20 = .ok (.istore_n 3, 1) := by decide +kernel
theorem dX5_readSeconds_21 : decode cX5_readSeconds 21 = .ok (.iload_n 3, 1) := by decide +kernel
theorem dX5_readSeconds_22 : decode cX5_readSeconds 22 = .ok (.iconst (-1), 1) := by decide +kernel
theorem dX5_readSeconds_23 : decode cX5_readSeconds 23 = .ok (.if_icmp .ne 7, 3) := by decide +kernel
theorem dX5_readSeconds_26 : decode cX5_readSeconds 26 = .ok (.iconst (-1), 1) := by decide +kernel
theorem dX5_readSeconds_27 : decode cX5_readSeconds 27 = .ok (.goto 10, 3) := by decide +kernel
theorem dX5_readSeconds_30 : decode cX5_readSeconds 30 = .ok (.aload_n 0, 1) := by decide +kernel
theorem dX5_readSeconds_31 : decode cX5_readSeconds 31 = .ok (.iconst 0, 1) := by decide +kernel
theorem dX5_readSeconds_32 : decode cX5_readSeconds 32 = .ok (.bipush 59, 2) := by decide +kernel
theorem dX5_readSeconds_34 : decode cX5_readSeconds 34 = .ok (.invokevirtual 66, 3) := by decide +kernel
theorem dX5_readSeconds_37 : decode cX5_readSeconds 37 = .ok (.istore 4, 2) := by decide +kernel
theorem dX5_readSeconds_39 : decode cX5_readSeconds 39 = .ok (.iload 4, 2) := by decide +kernel
theorem dX5_readSeconds_41 : decode cX5_readSeconds 41 = .ok (.iconst (-1), 1) := by decide +kernel
theorem dX5_readSeconds_42 : decode cX5_readSeconds 42 = .ok (.if_icmp .ne 7, 3) := by decide +kernel
theorem dX5_readSeconds_45 : decode cX5_readSeconds 45 = .ok (.iconst (-1), 1) := by decide +kernel
theorem dX5_readSeconds_46 : decode cX5_readSeconds 46 = .ok (.goto 11, 3) := by decide +kernel
theorem dX5_readSeconds_49 : decode cX5_readSeconds 49 = .ok (.aload_n 0, 1) := by decide +kernel
theorem dX5_readSeconds_50 : decode cX5_readSeconds 50 = .ok (.iload 4, 2) := by decide +kernel
theorem dX5_readSeconds_52 : decode cX5_readSeconds 52 = .ok (.bipush 59, 2) := by decide +kernel
theorem dX5_readSeconds_54 : decode cX5_readSeconds 54 = .ok (.invokevirtual 66, 3) := by decide +kernel
theorem dX5_readSeconds_57 : decode cX5_readSeconds 57 = .ok (.istore 5, 2) := by decide +kernel
theorem dX5_readSeconds_59 : decode cX5_readSeconds 59 = .ok (.iload 5, 2) := by decide +kernel
theorem dX5_readSeconds_61 : decode cX5_readSeconds 61 = .ok (.iconst (-1), 1) := by decide +kernel
theorem dX5_readSeconds_62 : decode cX5_readSeconds 62 = .ok (.if_icmp .ne 5, 3) := by decide +kernel
theorem dX5_readSeconds_65 : decode cX5_readSeconds 65 = .ok (.iconst 0, 1) := by decide +kernel
theorem dX5_readSeconds_66 : decode cX5_readSeconds 66 = .ok (.ireturn, 1) := by decide +kernel
theorem dX5_readSeconds_67 : decode cX5_readSeconds 67 = .ok (.iload_n 2, 1) := by decide +kernel
theorem dX5_readSeconds_68 : decode cX5_readSeconds 68 = .ok (.iconst 4, 1) := by decide +kernel
theorem dX5_readSeconds_69 : decode cX5_readSeconds 69 = .ok (.if_icmp .ne 18, 3) := by decide +kernel
theorem dX5_readSeconds_72 : decode cX5_readSeconds 72 = .ok (.aload_n 1, 1) := by decide +kernel
theorem dX5_readSeconds_73 : decode cX5_readSeconds 73 = .ok (.iload_n 3, 1) := by decide +kernel
theorem dX5_readSeconds_74 : decode cX5_readSeconds 74 = .ok (.iload 4, 2) := by decide +kernel
theorem dX5_readSeconds_76 : decode cX5_readSeconds 76 = .ok (.iload 5, 2) := by decide +kernel
theorem dX5_readSeconds_78 : decode cX5_readSeconds 78 = .ok (.invokestatic 77, 3) := by decide +kernel
theorem dX5_readSeconds_81 : decode cX5_readSeconds 81 = .ok (.invokevirtual 81, 3) := by decide +kernel
theorem dX5_readSeconds_84 : decode cX5_readSeconds 84 = .ok (.goto 19, 3) := by decide +kernel
theorem dX5_readSeconds_87 : decode cX5_readSeconds 87 = .ok (.aload_n 1, 1) := by decide +kernel
theorem dX5_readSeconds_88 : decode cX5_readSeconds 88 = .ok (.dup, 1) := by decide +kernel
theorem dX5_readSeconds_89 : decode cX5_readSeconds 89 = .ok (.getfield 53, 3) := by decide +kernel
theorem dX5_readSeconds_92 : decode cX5_readSeconds 92 = .ok (.iload 4, 2) := by decide +kernel
theorem dX5_readSeconds_94 : decode cX5_readSeconds 94 = .ok (.iload 5, 2) := by decide +kernel
theorem dX5_readSeconds_96 : decode cX5_readSeconds 96 = .ok (.invokestatic 77, 3) := by decide +kernel
theorem dX5_readSeconds_99 : decode cX5_readSeconds 99 = .ok (.lor, 1) := by decide +kernel
theorem dX5_readSeconds_100 : decode cX5_readSeconds 100 = .ok (.putfield 53, 3) := by decide +kernel
theorem dX5_readSeconds_103 : decode cX5_readSeconds 103 = .ok (.iconst 1, 1) := by decide +kernel
theorem dX5_readSeconds_104 : decode cX5_readSeconds 104 = .ok (.ireturn, 1) := by decide +kernel
set_option maxRecDepth 20000 in
theorem ggX5_readNumber_X5_step : GoodIn wsX5_readNumber wsX5_step := goodIn_r _ [8, 2, 3, 9, 1, 10, 11, 12, 7, 13, 14, 15, 16, 17, 21, 22, 23, 24, 25, 26] (by decide +kernel) (by decide +kernel)
set_option maxRecDepth 20000 in
theorem gX5_readNumber_X5_step : GoodIn wsX5_readNumber (wsV RX5 32 RX5 yX5_step wsX5_step) := goodIn_app (goodIn_of _ (by decide +kernel)) ggX5_readNumber_X5_step
set_option maxRecDepth 20000 in
theorem ggX5_readNumber_X5_letterAt : GoodIn wsX5_readNumber wsX5_letterAt := goodIn_r _ [13, 9, 14, 21, 22, 23, 24, 25, 26] (by decide +kernel) (by decide +kernel)
set_option maxRecDepth 20000 in
theorem gX5_readNumber_X5_letterAt : GoodIn wsX5_readNumber (wsV RX5 38 RX5 yX5_letterAt wsX5_letterAt) := goodIn_app (goodIn_of _ (by decide +kernel)) ggX5_readNumber_X5_letterAt
set_option maxRecDepth 20000 in
theorem ggX5_readNumber_X7_isWithin : GoodIn wsX5_readNumber wsX7_isWithin := goodIn_r _ [20] (by decide +kernel) (by decide +kernel)
set_option maxRecDepth 20000 in
theorem gX5_readNumber_X7_isWithin_n85 : GoodIn wsX5_readNumber (wsX7_isWithin) := ggX5_readNumber_X7_isWithin
theorem dX5_readNumber_0 : decode cX5_readNumber 0 = .ok (.aload_n 0, 1) := by decide +kernel
theorem dX5_readNumber_1 : decode cX5_readNumber 1 = .ok (.invokevirtual 32, 3) := by decide +kernel
theorem dX5_readNumber_4 : decode cX5_readNumber 4 = .ok (.aload_n 0, 1) := by decide +kernel
theorem dX5_readNumber_5 : decode cX5_readNumber 5 = .ok (.getfield 35, 3) := by decide +kernel
theorem dX5_readNumber_8 : decode cX5_readNumber 8 = .ok (.iconst 2, 1) := by decide +kernel
theorem dX5_readNumber_9 : decode cX5_readNumber 9 = .ok (.if_icmp .ne 16, 3) := by decide +kernel
theorem dX5_readNumber_12 : decode cX5_readNumber 12 = .ok (.aload_n 0, 1) := by decide +kernel
theorem dX5_readNumber_13 : decode cX5_readNumber 13 = .ok (.getfield 22, 3) := by decide +kernel
theorem dX5_readNumber_16 : decode cX5_readNumber 16 = .ok (.aload_n 0, 1) := by decide +kernel
theorem dX5_readNumber_17 : decode cX5_readNumber 17 = .ok (.getfield 29, 3) := by decide +kernel
theorem dX5_readNumber_20 : decode cX5_readNumber 20 = .ok (.isub, 1) := by decide +kernel
theorem dX5_readNumber_21 : decode cX5_readNumber 21 = .ok (.iconst 2, 1) := by decide +kernel
theorem dX5_readNumber_22 : decode cX5_readNumber 22 = .ok (.if_icmp .le 5, 3) := by decide +kernel
theorem dX5_readNumber_25 : decode cX5_readNumber 25 = .ok (.iconst (-1), 1) := by decide +kernel
theorem dX5_readNumber_26 : decode cX5_readNumber 26 = .ok (.ireturn, 1) := by decide +kernel
theorem dX5_readNumber_27 : decode cX5_readNumber 27 = .ok (.iconst 0, 1) := by decide +kernel
theorem dX5_readNumber_28 : decode cX5_readNumber 28 = .ok (.istore_n 3, 1) := by decide +kernel
theorem dX5_readNumber_29 : decode cX5_readNumber 29 = .ok (.aload_n 0, 1) := by decide +kernel
theorem dX5_readNumber_30 : decode cX5_readNumber 30 = .ok (.getfield 29, 3) := by decide +kernel
theorem dX5_readNumber_33 : decode cX5_readNumber 33 = .ok (.istore 4, 2) := by decide +kernel
theorem dX5_readNumber_35 : decode cX5_readNumber 35 = .ok (.iload 4, 2) := by decide +kernel
theorem dX5_readNumber_37 : decode cX5_readNumber 37 = .ok (.aload_n 0, 1) := by decide +kernel
theorem dX5_readNumber_38 : decode cX5_readNumber 38 = .ok (.getfield 22, 3) := by decide +kernel
theorem dX5_readNumber_41 : decode cX5_readNumber 41 = .ok (.if_icmp .ge 24, 3) := by decide +kernel
theorem dX5_readNumber_44 : decode cX5_readNumber 44 = .ok (.iload_n 3, 1) := by decide +kernel
theorem dX5_readNumber_45 : decode cX5_readNumber 45 = .ok (.bipush 10, 2) := by decide +kernel
theorem dX5_readNumber_47 : decode cX5_readNumber 47 = .ok (.imul, 1) := by decide +kernel
theorem dX5_readNumber_48 : decode cX5_readNumber 48 = .ok (.aload_n 0, 1) := by decide +kernel
theorem dX5_readNumber_49 : decode cX5_readNumber 49 = .ok (.iload 4, 2) := by decide +kernel
theorem dX5_readNumber_51 : decode cX5_readNumber 51 = .ok (.invokevirtual 38, 3) := by decide +kernel
theorem dX5_readNumber_54 : decode cX5_readNumber 54 = .ok (.iadd, 1) := by decide +kernel
theorem dX5_readNumber_55 : decode cX5_readNumber 55 = .ok (.bipush 48, 2) := by decide +kernel
theorem dX5_readNumber_57 : decode cX5_readNumber 57 = .ok (.isub, 1) := by decide +kernel
theorem dX5_readNumber_58 : decode cX5_readNumber 58 = .ok (.istore_n 3, 1) := by decide +kernel
theorem dX5_readNumber_59 : decode cX5_readNumber 59 = .ok (.iinc 4 1, 3) := by decide +kernel
theorem dX5_readNumber_62 : decode cX5_readNumber 62 = .ok (.goto (-27), 3) := by decide +kernel
theorem dX5_readNumber_65 : decode cX5_readNumber 65 = .ok (.iload_n 3, 1) := by decide +kernel
theorem dX5_readNumber_66 : decode cX5_readNumber 66 = .ok (.iload_n 1, 1) := by decide +kernel
theorem dX5_readNumber_67 : decode cX5_readNumber 67 = .ok (.iload_n 2, 1) := by decide +kernel
theorem dX5_readNumber_68 : decode cX5_readNumber 68 = .ok (.invokestatic 85, 3) := by decide +kernel
theorem dX5_readNumber_71 : decode cX5_readNumber 71 = .ok (.ifCond .eq 7, 3) := by decide +kernel
theorem dX5_readNumber_74 : decode cX5_readNumber 74 = .ok (.iload_n 3, 1) := by decide +kernel
theorem dX5_readNumber_75 : decode cX5_readNumber 75 = .ok (.goto 4, 3) := by decide +kernel
theorem dX5_readNumber_78 : decode cX5_readNumber 78 = .ok (.iconst (-1), 1) := by decide +kernel
theorem dX5_readNumber_79 : decode cX5_readNumber 79 = .ok (.ireturn, 1) := by decide +kernel
set_option maxRecDepth 20000 in
theorem ggX5_step_X5_letterAt : GoodIn wsX5_step wsX5_letterAt := goodIn_r _ [9, 3, 10, 14, 15, 16, 17, 18, 19] (by decide +kernel) (by decide +kernel)
set_option maxRecDepth 20000 in
theorem gX5_step_X5_letterAt : GoodIn wsX5_step (wsV RX5 38 RX5 yX5_letterAt wsX5_letterAt) := goodIn_app (goodIn_of _ (by decide +kernel)) ggX5_step_X5_letterAt
set_option maxRecDepth 20000 in
theorem ggX5_step_X5_sortOf : GoodIn wsX5_step wsX5_sortOf := goodIn_r _ [13] (by decide +kernel) (by decide +kernel)
set_option maxRecDepth 20000 in
theorem gX5_step_X5_sortOf : GoodIn wsX5_step (va_wsS RX5 89 yX5_sortOf wsX5_sortOf) := goodIn_app (goodIn_of _ (by decide +kernel)) ggX5_step_X5_sortOf
theorem dX5_step_0 : decode cX5_step 0 = .ok (.aload_n 0, 1) := by decide +kernel
theorem dX5_step_1 : decode cX5_step 1 = .ok (.aload_n 0, 1) := by decide +kernel
theorem dX5_step_2 : decode cX5_step 2 = .ok (.getfield 22, 3) := by decide +kernel
theorem dX5_step_5 : decode cX5_step 5 = .ok (.putfield 29, 3) := by decide +kernel
theorem dX5_step_8 : decode cX5_step 8 = .ok (.aload_n 0, 1) := by decide +kernel
theorem dX5_step_9 : decode cX5_step 9 = .ok (.getfield 29, 3) := by decide +kernel
theorem dX5_step_12 : decode cX5_step 12 = .ok (.aload_n 0, 1) := by decide +kernel
theorem dX5_step_13 : decode cX5_step 13 = .ok (.getfield 15, 3) := by decide +kernel
theorem dX5_step_16 : decode cX5_step 16 = .ok (.if_icmp .ge 29, 3) := by decide +kernel
theorem dX5_step_19 : decode cX5_step 19 = .ok (.aload_n 0, 1) := by decide +kernel
theorem dX5_step_20 : decode cX5_step 20 = .ok (.aload_n 0, 1) := by decide +kernel
theorem dX5_step_21 : decode cX5_step 21 = .ok (.getfield 29, 3) := by decide +kernel
theorem dX5_step_24 : decode cX5_step 24 = .ok (.invokevirtual 38, 3) := by decide +kernel
theorem dX5_step_27 : decode cX5_step 27 = .ok (.bipush 32, 2) := by decide +kernel
theorem dX5_step_29 : decode cX5_step 29 = .ok (.if_icmp .ne 16, 3) := by decide +kernel
theorem dX5_step_32 : decode cX5_step 32 = .ok (.aload_n 0, 1) := by decide +kernel
theorem dX5_step_33 : decode cX5_step 33 = .ok (.dup, 1) := by decide +kernel
theorem dX5_step_34 : decode cX5_step 34 = .ok (.getfield 29, 3) := by decide +kernel
theorem dX5_step_37 : decode cX5_step 37 = .ok (.iconst 1, 1) := by decide +kernel
theorem dX5_step_38 : decode cX5_step 38 = .ok (.iadd, 1) := by decide +kernel
theorem dX5_step_39 : decode cX5_step 39 = .ok (.putfield 29, 3) := by decide +kernel
theorem dX5_step_42 : decode cX5_step 42 = .ok (.goto (-34), 3) := by decide +kernel
theorem dX5_step_45 : decode cX5_step 45 = .ok (.aload_n 0, 1) := by decide +kernel
theorem dX5_step_46 : decode cX5_step 46 = .ok (.aload_n 0, 1) := by decide +kernel
theorem dX5_step_47 : decode cX5_step 47 = .ok (.aload_n 0, 1) := by decide +kernel
theorem dX5_step_48 : decode cX5_step 48 = .ok (.getfield 29, 3) := by decide +kernel
theorem dX5_step_51 : decode cX5_step 51 = .ok (.invokevirtual 38, 3) := by decide +kernel
theorem dX5_step_54 : decode cX5_step 54 = .ok (.invokestatic 89, 3) := by decide +kernel
theorem dX5_step_57 : decode cX5_step 57 = .ok (.putfield 35, 3) := by decide +kernel
theorem dX5_step_60 : decode cX5_step 60 = .ok (.aload_n 0, 1) := by decide +kernel
theorem dX5_step_61 : decode cX5_step 61 = .ok (.aload_n 0, 1) := by decide +kernel
theorem dX5_step_62 : decode cX5_step 62 = .ok (.getfield 35, 3) := by decide +kernel
theorem dX5_step_65 : decode cX5_step 65 = .ok (.ifCond .ne 10, 3) := by decide +kernel
theorem dX5_step_68 : decode cX5_step 68 = .ok (.aload_n 0, 1) := by decide +kernel
theorem dX5_step_69 : decode cX5_step 69 = .ok (.getfield 29, 3) := by decide +kernel
theorem dX5_step_72 : decode cX5_step 72 = .ok (.goto 9, 3) := by decide +kernel
theorem dX5_step_75 : decode cX5_step 75 = .ok (.aload_n 0, 1) := by decide +kernel
theorem dX5_step_76 : decode cX5_step 76 = .ok (.getfield 29, 3) := by decide +kernel
theorem dX5_step_79 : decode cX5_step 79 = .ok (.iconst 1, 1) := by decide +kernel
theorem dX5_step_80 : decode cX5_step 80 = .ok (.iadd, 1) := by decide +kernel
theorem dX5_step_81 : decode cX5_step 81 = .ok (.putfield 22, 3) := by decide +kernel
theorem dX5_step_84 : decode cX5_step 84 = .ok (.aload_n 0, 1) := by decide +kernel
theorem dX5_step_85 : decode cX5_step 85 = .ok (.getfield 35, 3) := by decide +kernel
theorem dX5_step_88 : decode cX5_step 88 = .ok (.iconst 1, 1) := by decide +kernel
theorem dX5_step_89 : decode cX5_step 89 = .ok (.if_icmp .eq 11, 3) := by decide +kernel
theorem dX5_step_92 : decode cX5_step 92 = .ok (.aload_n 0, 1) := by decide +kernel
theorem dX5_step_93 : decode cX5_step 93 = .ok (.getfield 35, 3) := by decide +kernel
theorem dX5_step_96 : decode cX5_step 96 = .ok (.iconst 2, 1) := by decide +kernel
theorem dX5_step_97 : decode cX5_step 97 = .ok (.if_icmp .ne 7, 3) := by decide +kernel
theorem dX5_step_100 : decode cX5_step 100 = .ok (.iconst 1, 1) := by decide +kernel
theorem dX5_step_101 : decode cX5_step 101 = .ok (.goto 4, 3) := by decide +kernel
theorem dX5_step_104 : decode cX5_step 104 = .ok (.iconst 0, 1) := by decide +kernel
theorem dX5_step_105 : decode cX5_step 105 = .ok (.istore_n 1, 1) := by decide +kernel
theorem dX5_step_106 : decode cX5_step 106 = .ok (.iload_n 1, 1) := by decide +kernel
theorem dX5_step_107 : decode cX5_step 107 = .ok (.ifCond .eq 45, 3) := by decide +kernel
theorem dX5_step_110 : decode cX5_step 110 = .ok (.aload_n 0, 1) := by decide +kernel
theorem dX5_step_111 : decode cX5_step 111 = .ok (.getfield 22, 3) := by decide +kernel
theorem dX5_step_114 : decode cX5_step 114 = .ok (.aload_n 0, 1) := by decide +kernel
theorem dX5_step_115 : decode cX5_step 115 = .ok (.getfield 15, 3) := by decide +kernel
theorem dX5_step_118 : decode cX5_step 118 = .ok (.if_icmp .ge 34, 3) := by decide +kernel
theorem dX5_step_121 : decode cX5_step 121 = .ok (.aload_n 0, 1) := by decide +kernel
theorem dX5_step_122 : decode cX5_step 122 = .ok (.aload_n 0, 1) := by decide +kernel
theorem dX5_step_123 : decode cX5_step 123 = .ok (.getfield 22, 3) := by decide +kernel
theorem dX5_step_126 : decode cX5_step 126 = .ok (.invokevirtual 38, 3) := by decide +kernel
theorem dX5_step_129 : decode cX5_step 129 = .ok (.invokestatic 89, 3) := by decide +kernel
theorem dX5_step_132 : decode cX5_step 132 = .ok (.aload_n 0, 1) := by decide +kernel
theorem dX5_step_133 : decode cX5_step 133 = .ok (.getfield 35, 3) := by decide +kernel
theorem dX5_step_136 : decode cX5_step 136 = .ok (.if_icmp .ne 16, 3) := by decide +kernel
theorem dX5_step_139 : decode cX5_step 139 = .ok (.aload_n 0, 1) := by decide +kernel
theorem dX5_step_140 : decode cX5_step 140 = .ok (.dup, 1) := by decide +kernel
theorem dX5_step_141 : decode cX5_step 141 = .ok (.getfield 22, 3) := by decide +kernel
theorem dX5_step_144 : decode cX5_step 144 = .ok (.iconst 1, 1) := by decide +kernel
theorem dX5_step_145 : decode cX5_step 145 = .ok (.iadd, 1) := by decide +kernel
theorem dX5_step_146 : decode cX5_step 146 = .ok (.putfield 22, 3) := by decide +kernel
theorem dX5_step_149 : decode cX5_step 149 = .ok (.goto (-43), 3) := by decide +kernel
theorem dX5_step_152 : decode cX5_step 152 = .ok (.return_, 1) := by decide +kernel
theorem dX5_letterAt_0 : decode cX5_letterAt 0 = .ok (.iload_n 1, 1) := by decide +kernel
theorem dX5_letterAt_1 : decode cX5_letterAt 1 = .ok (.ifCond .lt 27, 3) := by decide +kernel
theorem dX5_letterAt_4 : decode cX5_letterAt 4 = .ok (.iload_n 1, 1) := by decide +kernel
theorem dX5_letterAt_5 : decode cX5_letterAt 5 = .ok (.aload_n 0, 1) := by decide +kernel
theorem dX5_letterAt_6 : decode cX5_letterAt 6 = .ok (.getfield 15, 3) := by decide +kernel
theorem dX5_letterAt_9 : decode cX5_letterAt 9 = .ok (.if_icmp .ge 19, 3) := by decide +kernel
theorem dX5_letterAt_12 : decode cX5_letterAt 12 = .ok (.iload_n 1, 1) := by decide +kernel
theorem dX5_letterAt_13 : decode cX5_letterAt 13 = .ok (.sipush 160, 3) := by decide +kernel
theorem dX5_letterAt_16 : decode cX5_letterAt 16 = .ok (.if_icmp .ge 12, 3) := by decide +kernel
theorem dX5_letterAt_19 : decode cX5_letterAt 19 = .ok (.aload_n 0, 1) := by decide +kernel
theorem dX5_letterAt_20 : decode cX5_letterAt 20 = .ok (.getfield 9, 3) := by decide +kernel
theorem dX5_letterAt_23 : decode cX5_letterAt 23 = .ok (.iload_n 1, 1) := by decide +kernel
theorem dX5_letterAt_24 : decode cX5_letterAt 24 = .ok (.iaload, 1) := by decide +kernel
theorem dX5_letterAt_25 : decode cX5_letterAt 25 = .ok (.goto 4, 3) := by decide +kernel
theorem dX5_letterAt_28 : decode cX5_letterAt 28 = .ok (.iconst (-1), 1) := by decide +kernel
theorem dX5_letterAt_29 : decode cX5_letterAt 29 = .ok (.ireturn, 1) := by decide +kernel
theorem dX5_sortOf_0 : decode cX5_sortOf 0 = .ok (.iload_n 0, 1) := by decide +kernel
theorem dX5_sortOf_1 : decode cX5_sortOf 1 = .ok (.iconst (-1), 1) := by decide +kernel
theorem dX5_sortOf_2 : decode cX5_sortOf 2 = .ok (.if_icmp .ne 5, 3) := by decide +kernel
theorem dX5_sortOf_5 : decode cX5_sortOf 5 = .ok (.iconst 0, 1) := by decide +kernel
theorem dX5_sortOf_6 : decode cX5_sortOf 6 = .ok (.ireturn, 1) := by decide +kernel
theorem dX5_sortOf_7 : decode cX5_sortOf 7 = .ok (.iload_n 0, 1) := by decide +kernel
theorem dX5_sortOf_8 : decode cX5_sortOf 8 = .ok (.bipush 97, 2) := by decide +kernel
theorem dX5_sortOf_10 : decode cX5_sortOf 10 = .ok (.if_icmp .lt 11, 3) := by decide +kernel
theorem dX5_sortOf_13 : decode cX5_sortOf 13 = .ok (.iload_n 0, 1) := by decide +kernel
theorem dX5_sortOf_14 : decode cX5_sortOf 14 = .ok (.bipush 122, 2) := by decide +kernel
theorem dX5_sortOf_16 : decode cX5_sortOf 16 = .ok (.if_icmp .gt 5, 3) := by decide +kernel
theorem dX5_sortOf_19 : decode cX5_sortOf 19 = .ok (.iconst 1, 1) := by decide +kernel
theorem dX5_sortOf_20 : decode cX5_sortOf 20 = .ok (.ireturn, 1) := by decide +kernel
theorem dX5_sortOf_21 : decode cX5_sortOf 21 = .ok (.iload_n 0, 1) := by decide +kernel
theorem dX5_sortOf_22 : decode cX5_sortOf 22 = .ok (.bipush 48, 2) := by decide +kernel
theorem dX5_sortOf_24 : decode cX5_sortOf 24 = .ok (.if_icmp .lt 13, 3) := by decide +kernel
theorem dX5_sortOf_27 : decode cX5_sortOf 27 = .ok (.iload_n 0, 1) := by decide +kernel
theorem dX5_sortOf_28 : decode cX5_sortOf 28 = .ok (.bipush 57, 2) := by decide +kernel
theorem dX5_sortOf_30 : decode cX5_sortOf 30 = .ok (.if_icmp .gt 7, 3) := by decide +kernel
theorem dX5_sortOf_33 : decode cX5_sortOf 33 = .ok (.iconst 2, 1) := by decide +kernel
theorem dX5_sortOf_34 : decode cX5_sortOf 34 = .ok (.goto 4, 3) := by decide +kernel
theorem dX5_sortOf_37 : decode cX5_sortOf 37 = .ok (.iconst 3, 1) := by decide +kernel
theorem dX5_sortOf_38 : decode cX5_sortOf 38 = .ok (.ireturn, 1) := by decide +kernel
set_option maxRecDepth 20000 in
theorem ggX5_wordAtHand_X5_isAtHand : GoodIn wsX5_wordAtHand wsX5_isAtHand := goodIn_r _ [5, 6, 7, 8, 9, 10, 11, 12, 13, 14, 15, 16, 17, 18, 19, 20, 21, 22, 4, 23, 24, 25, 26, 27, 28, 29, 30, 31, 32, 33, 34, 35, 36, 37, 38, 39, 40, 41, 42, 43, 44, 45, 46, 47, 48, 49, 50, 51, 52, 53, 54, 55, 56, 57, 58, 59, 60, 61, 62, 63, 64, 65, 66, 67, 68] (by decide +kernel) (by decide +kernel)
set_option maxRecDepth 20000 in
theorem gX5_wordAtHand_X5_isAtHand : GoodIn wsX5_wordAtHand (wsV RX5 94 RX5 yX5_isAtHand wsX5_isAtHand) := goodIn_app (goodIn_of _ (by decide +kernel)) ggX5_wordAtHand_X5_isAtHand
theorem dX5_wordAtHand_0 : decode cX5_wordAtHand 0 = .ok (.aload_n 0, 1) := by decide +kernel
theorem dX5_wordAtHand_1 : decode cX5_wordAtHand 1 = .ok (.ldc 92, 2) := by decide +kernel
theorem dX5_wordAtHand_3 : decode cX5_wordAtHand 3 = .ok (.invokevirtual 94, 3) := by decide +kernel
theorem dX5_wordAtHand_6 : decode cX5_wordAtHand 6 = .ok (.ifCond .eq 5, 3) := by decide +kernel
theorem dX5_wordAtHand_9 : decode cX5_wordAtHand 9 = .ok (.iconst 0, 1) := by decide +kernel
theorem dX5_wordAtHand_10 : decode cX5_wordAtHand 10 = .ok (.ireturn, 1) := by decide +kernel
theorem dX5_wordAtHand_11 : decode cX5_wordAtHand 11 = .ok (.aload_n 0, 1) := by decide +kernel
theorem dX5_wordAtHand_12 : decode cX5_wordAtHand 12 = .ok (.ldc 98, 2) := by decide +kernel
theorem dX5_wordAtHand_14 : decode cX5_wordAtHand 14 = .ok (.invokevirtual 94, 3) := by decide +kernel
theorem dX5_wordAtHand_17 : decode cX5_wordAtHand 17 = .ok (.ifCond .eq 5, 3) := by decide +kernel
theorem dX5_wordAtHand_20 : decode cX5_wordAtHand 20 = .ok (.iconst 1, 1) := by decide +kernel
theorem dX5_wordAtHand_21 : decode cX5_wordAtHand 21 = .ok (.ireturn, 1) := by decide +kernel
theorem dX5_wordAtHand_22 : decode cX5_wordAtHand 22 = .ok (.aload_n 0, 1) := by decide +kernel
theorem dX5_wordAtHand_23 : decode cX5_wordAtHand 23 = .ok (.ldc 100, 2) := by decide +kernel
theorem dX5_wordAtHand_25 : decode cX5_wordAtHand 25 = .ok (.invokevirtual 94, 3) := by decide +kernel
theorem dX5_wordAtHand_28 : decode cX5_wordAtHand 28 = .ok (.ifCond .eq 5, 3) := by decide +kernel
theorem dX5_wordAtHand_31 : decode cX5_wordAtHand 31 = .ok (.iconst 2, 1) := by decide +kernel
theorem dX5_wordAtHand_32 : decode cX5_wordAtHand 32 = .ok (.ireturn, 1) := by decide +kernel
theorem dX5_wordAtHand_33 : decode cX5_wordAtHand 33 = .ok (.aload_n 0, 1) := by decide +kernel
theorem dX5_wordAtHand_34 : decode cX5_wordAtHand 34 = .ok (.ldc 102, 2) := by decide +kernel
theorem dX5_wordAtHand_36 : decode cX5_wordAtHand 36 = .ok (.invokevirtual 94, 3) := by decide +kernel
theorem dX5_wordAtHand_39 : decode cX5_wordAtHand 39 = .ok (.ifCond .eq 5, 3) := by decide +kernel
theorem dX5_wordAtHand_42 : decode cX5_wordAtHand 42 = .ok (.iconst 3, 1) := by decide +kernel
theorem dX5_wordAtHand_43 : decode cX5_wordAtHand 43 = .ok (.ireturn, 1) := by decide +kernel
theorem dX5_wordAtHand_44 : decode cX5_wordAtHand 44 = .ok (.aload_n 0, 1) := by decide +kernel
theorem dX5_wordAtHand_45 : decode cX5_wordAtHand 45 = .ok (.ldc 104, 2) := by decide +kernel
theorem dX5_wordAtHand_47 : decode cX5_wordAtHand 47 = .ok (.invokevirtual 94, 3) := by decide +kernel
theorem dX5_wordAtHand_50 : decode cX5_wordAtHand 50 = .ok (.ifCond .eq 5, 3) := by decide +kernel
theorem dX5_wordAtHand_53 : decode cX5_wordAtHand 53 = .ok (.iconst 4, 1) := by decide +kernel
theorem dX5_wordAtHand_54 : decode cX5_wordAtHand 54 = .ok (.ireturn, 1) := by decide +kernel
theorem dX5_wordAtHand_55 : decode cX5_wordAtHand 55 = .ok (.aload_n 0, 1) := by decide +kernel
theorem dX5_wordAtHand_56 : decode cX5_wordAtHand 56 = .ok (.ldc 105, 2) := by decide +kernel
theorem dX5_wordAtHand_58 : decode cX5_wordAtHand 58 = .ok (.invokevirtual 94, 3) := by decide +kernel
theorem dX5_wordAtHand_61 : decode cX5_wordAtHand 61 = .ok (.ifCond .eq 5, 3) := by decide +kernel
theorem dX5_wordAtHand_64 : decode cX5_wordAtHand 64 = .ok (.iconst 5, 1) := by decide +kernel
theorem dX5_wordAtHand_65 : decode cX5_wordAtHand 65 = .ok (.ireturn, 1) := by decide +kernel
theorem dX5_wordAtHand_66 : decode cX5_wordAtHand 66 = .ok (.aload_n 0, 1) := by decide +kernel
theorem dX5_wordAtHand_67 : decode cX5_wordAtHand 67 = .ok (.ldc 107, 2) := by decide +kernel
theorem dX5_wordAtHand_69 : decode cX5_wordAtHand 69 = .ok (.invokevirtual 94, 3) := by decide +kernel
theorem dX5_wordAtHand_72 : decode cX5_wordAtHand 72 = .ok (.ifCond .eq 6, 3) := by decide +kernel
theorem dX5_wordAtHand_75 : decode cX5_wordAtHand 75 = .ok (.bipush 6, 2) := by decide +kernel
theorem dX5_wordAtHand_77 : decode cX5_wordAtHand 77 = .ok (.ireturn, 1) := by decide +kernel
theorem dX5_wordAtHand_78 : decode cX5_wordAtHand 78 = .ok (.aload_n 0, 1) := by decide +kernel
theorem dX5_wordAtHand_79 : decode cX5_wordAtHand 79 = .ok (.ldc 109, 2) := by decide +kernel
theorem dX5_wordAtHand_81 : decode cX5_wordAtHand 81 = .ok (.invokevirtual 94, 3) := by decide +kernel
theorem dX5_wordAtHand_84 : decode cX5_wordAtHand 84 = .ok (.ifCond .eq 8, 3) := by decide +kernel
theorem dX5_wordAtHand_87 : decode cX5_wordAtHand 87 = .ok (.bipush 7, 2) := by decide +kernel
theorem dX5_wordAtHand_89 : decode cX5_wordAtHand 89 = .ok (.goto 4, 3) := by decide +kernel
theorem dX5_wordAtHand_92 : decode cX5_wordAtHand 92 = .ok (.iconst (-1), 1) := by decide +kernel
theorem dX5_wordAtHand_93 : decode cX5_wordAtHand 93 = .ok (.ireturn, 1) := by decide +kernel
set_option maxRecDepth 20000 in
theorem ggX5_isAtHand_J0_length_8abf5 : GoodIn wsX5_isAtHand wsJ0_length_8abf5 := goodIn_r _ [7, 8, 9, 10, 11, 6, 12, 13, 14] (by decide +kernel) (by decide +kernel)
set_option maxRecDepth 20000 in
theorem gX5_isAtHand_J0_length_8abf5 : GoodIn wsX5_isAtHand (wsV RX5 111 RJ0 yJ0_length_8abf5 wsJ0_length_8abf5) := goodIn_app (goodIn_of _ (by decide +kernel)) ggX5_isAtHand_J0_length_8abf5
set_option maxRecDepth 20000 in
theorem ggX5_isAtHand_X5_letterAt : GoodIn wsX5_isAtHand wsX5_letterAt := goodIn_r _ [19, 20, 21, 59, 60, 61, 62, 63, 64] (by decide +kernel) (by decide +kernel)
set_option maxRecDepth 20000 in
theorem gX5_isAtHand_X5_letterAt : GoodIn wsX5_isAtHand (wsV RX5 38 RX5 yX5_letterAt wsX5_letterAt) := goodIn_app (goodIn_of _ (by decide +kernel)) ggX5_isAtHand_X5_letterAt
set_option maxRecDepth 20000 in
theorem ggX5_isAtHand_J0_charAt_5068e : GoodIn wsX5_isAtHand wsJ0_charAt_5068e := goodIn_r _ [25, 8, 26, 27, 28, 6, 29, 13, 14, 30, 31, 32, 33, 34, 35, 36, 37, 38, 39, 40, 41, 42, 43, 44, 45, 46, 47, 48, 49, 50, 51, 52, 53, 54, 55, 56, 57, 58] (by decide +kernel) (by decide +kernel)
set_option maxRecDepth 20000 in
theorem gX5_isAtHand_J0_charAt_5068e : GoodIn wsX5_isAtHand (wsV RX5 115 RJ0 yJ0_charAt_5068e wsJ0_charAt_5068e) := goodIn_app (goodIn_of _ (by decide +kernel)) ggX5_isAtHand_J0_charAt_5068e
theorem dX5_isAtHand_0 : decode cX5_isAtHand 0 = .ok (.aload_n 0, 1) := by decide +kernel
theorem dX5_isAtHand_1 : decode cX5_isAtHand 1 = .ok (.getfield 22, 3) := by decide +kernel
theorem dX5_isAtHand_4 : decode cX5_isAtHand 4 = .ok (.aload_n 0, 1) := by decide +kernel
theorem dX5_isAtHand_5 : decode cX5_isAtHand 5 = .ok (.getfield 29, 3) := by decide +kernel
theorem dX5_isAtHand_8 : decode cX5_isAtHand 8 = .ok (.isub, 1) := by decide +kernel
theorem dX5_isAtHand_9 : decode cX5_isAtHand 9 = .ok (.aload_n 1, 1) := by decide +kernel
theorem dX5_isAtHand_10 : decode cX5_isAtHand 10 = .ok (.invokevirtual 111, 3) := by decide +kernel
theorem dX5_isAtHand_13 : decode cX5_isAtHand 13 = .ok (.if_icmp .eq 5, 3) := by decide +kernel
theorem dX5_isAtHand_16 : decode cX5_isAtHand 16 = .ok (.iconst 0, 1) := by decide +kernel
theorem dX5_isAtHand_17 : decode cX5_isAtHand 17 = .ok (.ireturn, 1) := by decide +kernel
theorem dX5_isAtHand_18 : decode cX5_isAtHand 18 = .ok (.iconst 0, 1) := by decide +kernel
theorem dX5_isAtHand_19 : decode cX5_isAtHand 19 = .ok (.istore_n 2, 1) := by decide +kernel
theorem dX5_isAtHand_20 : decode cX5_isAtHand 20 = .ok (.iload_n 2, 1) := by decide +kernel
theorem dX5_isAtHand_21 : decode cX5_isAtHand 21 = .ok (.aload_n 1, 1) := by decide +kernel
theorem dX5_isAtHand_22 : decode cX5_isAtHand 22 = .ok (.invokevirtual 111, 3) := by decide +kernel
theorem dX5_isAtHand_25 : decode cX5_isAtHand 25 = .ok (.if_icmp .ge 29, 3) := by decide +kernel
theorem dX5_isAtHand_28 : decode cX5_isAtHand 28 = .ok (.aload_n 0, 1) := by decide +kernel
theorem dX5_isAtHand_29 : decode cX5_isAtHand 29 = .ok (.aload_n 0, 1) := by decide +kernel
theorem dX5_isAtHand_30 : decode cX5_isAtHand 30 = .ok (.getfield 29, 3) := by decide +kernel
theorem dX5_isAtHand_33 : decode cX5_isAtHand 33 = .ok (.iload_n 2, 1) := by decide +kernel
theorem dX5_isAtHand_34 : decode cX5_isAtHand 34 = .ok (.iadd, 1) := by decide +kernel
theorem dX5_isAtHand_35 : decode cX5_isAtHand 35 = .ok (.invokevirtual 38, 3) := by decide +kernel
theorem dX5_isAtHand_38 : decode cX5_isAtHand 38 = .ok (.aload_n 1, 1) := by decide +kernel
theorem dX5_isAtHand_39 : decode cX5_isAtHand 39 = .ok (.iload_n 2, 1) := by decide +kernel
theorem dX5_isAtHand_40 : decode cX5_isAtHand 40 = .ok (.invokevirtual 115, 3) := by decide +kernel
theorem dX5_isAtHand_43 : decode cX5_isAtHand 43 = .ok (.if_icmp .eq 5, 3) := by decide +kernel
theorem dX5_isAtHand_46 : decode cX5_isAtHand 46 = .ok (.iconst 0, 1) := by decide +kernel
theorem dX5_isAtHand_47 : decode cX5_isAtHand 47 = .ok (.ireturn, 1) := by decide +kernel
theorem dX5_isAtHand_48 : decode cX5_isAtHand 48 = .ok (.iinc 2 1, 3) := by decide +kernel
theorem dX5_isAtHand_51 : decode cX5_isAtHand 51 = .ok (.goto (-31), 3) := by decide +kernel
theorem dX5_isAtHand_54 : decode cX5_isAtHand 54 = .ok (.iconst 1, 1) := by decide +kernel
theorem dX5_isAtHand_55 : decode cX5_isAtHand 55 = .ok (.ireturn, 1) := by decide +kernel
theorem dX6_init_0 : decode cX6_init 0 = .ok (.aload_n 0, 1) := by decide +kernel
theorem dX6_init_1 : decode cX6_init 1 = .ok (.invokespecial 3, 3) := by decide +kernel
theorem dX6_init_4 : decode cX6_init 4 = .ok (.aload_n 0, 1) := by decide +kernel
theorem dX6_init_5 : decode cX6_init 5 = .ok (.bipush 6, 2) := by decide +kernel
theorem dX6_init_7 : decode cX6_init 7 = .ok (.newarray .int, 2) := by decide +kernel
theorem dX6_init_9 : decode cX6_init 9 = .ok (.putfield 9, 3) := by decide +kernel
theorem dX6_init_12 : decode cX6_init 12 = .ok (.aload_n 0, 1) := by decide +kernel
theorem dX6_init_13 : decode cX6_init 13 = .ok (.bipush 6, 2) := by decide +kernel
theorem dX6_init_15 : decode cX6_init 15 = .ok (.newarray .int, 2) := by decide +kernel
theorem dX6_init_17 : decode cX6_init 17 = .ok (.putfield 15, 3) := by decide +kernel
theorem dX6_init_20 : decode cX6_init 20 = .ok (.aload_n 0, 1) := by decide +kernel
theorem dX6_init_21 : decode cX6_init 21 = .ok (.bipush 6, 2) := by decide +kernel
theorem dX6_init_23 : decode cX6_init 23 = .ok (.newarray .int, 2) := by decide +kernel
theorem dX6_init_25 : decode cX6_init 25 = .ok (.putfield 18, 3) := by decide +kernel
theorem dX6_init_28 : decode cX6_init 28 = .ok (.aload_n 0, 1) := by decide +kernel
theorem dX6_init_29 : decode cX6_init 29 = .ok (.bipush 6, 2) := by decide +kernel
theorem dX6_init_31 : decode cX6_init 31 = .ok (.newarray .int, 2) := by decide +kernel
theorem dX6_init_33 : decode cX6_init 33 = .ok (.putfield 21, 3) := by decide +kernel
theorem dX6_init_36 : decode cX6_init 36 = .ok (.aload_n 0, 1) := by decide +kernel
theorem dX6_init_37 : decode cX6_init 37 = .ok (.bipush 6, 2) := by decide +kernel
theorem dX6_init_39 : decode cX6_init 39 = .ok (.newarray .long, 2) := by decide +kernel
theorem dX6_init_41 : decode cX6_init 41 = .ok (.putfield 24, 3) := by decide +kernel
theorem dX6_init_44 : decode cX6_init 44 = .ok (.aload_n 0, 1) := by decide +kernel
theorem dX6_init_45 : decode cX6_init 45 = .ok (.iconst 0, 1) := by decide +kernel
theorem dX6_init_46 : decode cX6_init 46 = .ok (.putfield 28, 3) := by decide +kernel
theorem dX6_init_49 : decode cX6_init 49 = .ok (.aload_n 0, 1) := by decide +kernel
theorem dX6_init_50 : decode cX6_init 50 = .ok (.lconst 0, 1) := by decide +kernel
theorem dX6_init_51 : decode cX6_init 51 = .ok (.putfield 32, 3) := by decide +kernel
theorem dX6_init_54 : decode cX6_init 54 = .ok (.return_, 1) := by decide +kernel
theorem dX6_copyFrom_0 : decode cX6_copyFrom 0 = .ok (.iconst 0, 1) := by decide +kernel
theorem dX6_copyFrom_1 : decode cX6_copyFrom 1 = .ok (.istore_n 2, 1) := by decide +kernel
theorem dX6_copyFrom_2 : decode cX6_copyFrom 2 = .ok (.iload_n 2, 1) := by decide +kernel
theorem dX6_copyFrom_3 : decode cX6_copyFrom 3 = .ok (.bipush 6, 2) := by decide +kernel
theorem dX6_copyFrom_5 : decode cX6_copyFrom 5 = .ok (.if_icmp .ge 69, 3) := by decide +kernel
theorem dX6_copyFrom_8 : decode cX6_copyFrom 8 = .ok (.aload_n 0, 1) := by decide +kernel
theorem dX6_copyFrom_9 : decode cX6_copyFrom 9 = .ok (.getfield 9, 3) := by decide +kernel
theorem dX6_copyFrom_12 : decode cX6_copyFrom 12 = .ok (.iload_n 2, 1) := by decide +kernel
theorem dX6_copyFrom_13 : decode cX6_copyFrom 13 = .ok (.aload_n 1, 1) := by decide +kernel
theorem dX6_copyFrom_14 : decode cX6_copyFrom 14 = .ok (.getfield 9, 3) := by decide +kernel
theorem dX6_copyFrom_17 : decode cX6_copyFrom 17 = .ok (.iload_n 2, 1) := by decide +kernel
theorem dX6_copyFrom_18 : decode cX6_copyFrom 18 = .ok (.iaload, 1) := by decide +kernel
theorem dX6_copyFrom_19 : decode cX6_copyFrom 19 = .ok (.iastore, 1) := by decide +kernel
theorem dX6_copyFrom_20 : decode cX6_copyFrom 20 = .ok (.aload_n 0, 1) := by decide +kernel
theorem dX6_copyFrom_21 : decode cX6_copyFrom 21 = .ok (.getfield 15, 3) := by decide +kernel
theorem dX6_copyFrom_24 : decode cX6_copyFrom 24 = .ok (.iload_n 2, 1) := by decide +kernel
theorem dX6_copyFrom_25 : decode cX6_copyFrom 25 = .ok (.aload_n 1, 1) := by decide +kernel
theorem dX6_copyFrom_26 : decode cX6_copyFrom 26 = .ok (.getfield 15, 3) := by decide +kernel
theorem dX6_copyFrom_29 : decode cX6_copyFrom 29 = .ok (.iload_n 2, 1) := by decide +kernel
theorem dX6_copyFrom_30 : decode cX6_copyFrom 30 = .ok (.iaload, 1) := by decide +kernel
theorem dX6_copyFrom_31 : decode cX6_copyFrom 31 = .ok (.iastore, 1) := by decide +kernel
theorem dX6_copyFrom_32 : decode cX6_copyFrom 32 = .ok (.aload_n 0, 1) := by decide +kernel
theorem dX6_copyFrom_33 : decode cX6_copyFrom 33 = .ok (.getfield 18, 3) := by decide +kernel
theorem dX6_copyFrom_36 : decode cX6_copyFrom 36 = .ok (.iload_n 2, 1) := by decide +kernel
theorem dX6_copyFrom_37 : decode cX6_copyFrom 37 = .ok (.aload_n 1, 1) := by decide +kernel
theorem dX6_copyFrom_38 : decode cX6_copyFrom 38 = .ok (.getfield 18, 3) := by decide +kernel
theorem dX6_copyFrom_41 : decode cX6_copyFrom 41 = .ok (.iload_n 2, 1) := by decide +kernel
theorem dX6_copyFrom_42 : decode cX6_copyFrom 42 = .ok (.iaload, 1) := by decide +kernel
theorem dX6_copyFrom_43 : decode cX6_copyFrom 43 = .ok (.iastore, 1) := by decide +kernel
theorem dX6_copyFrom_44 : decode cX6_copyFrom 44 = .ok (.aload_n 0, 1) := by decide +kernel
theorem dX6_copyFrom_45 : decode cX6_copyFrom 45 = .ok (.getfield 21, 3) := by decide +kernel
theorem dX6_copyFrom_48 : decode cX6_copyFrom 48 = .ok (.iload_n 2, 1) := by decide +kernel
theorem dX6_copyFrom_49 : decode cX6_copyFrom 49 = .ok (.aload_n 1, 1) := by decide +kernel
theorem dX6_copyFrom_50 : decode cX6_copyFrom 50 = .ok (.getfield 21, 3) := by decide +kernel
theorem dX6_copyFrom_53 : decode cX6_copyFrom 53 = .ok (.iload_n 2, 1) := by decide +kernel
theorem dX6_copyFrom_54 : decode cX6_copyFrom 54 = .ok (.iaload, 1) := by decide +kernel
theorem dX6_copyFrom_55 : decode cX6_copyFrom 55 = .ok (.iastore, 1) := by decide +kernel
theorem dX6_copyFrom_56 : decode cX6_copyFrom 56 = .ok (.aload_n 0, 1) := by decide +kernel
theorem dX6_copyFrom_57 : decode cX6_copyFrom 57 = .ok (.getfield 24, 3) := by decide +kernel
theorem dX6_copyFrom_60 : decode cX6_copyFrom 60 = .ok (.iload_n 2, 1) := by decide +kernel
theorem dX6_copyFrom_61 : decode cX6_copyFrom 61 = .ok (.aload_n 1, 1) := by decide +kernel
theorem dX6_copyFrom_62 : decode cX6_copyFrom 62 = .ok (.getfield 24, 3) := by decide +kernel
theorem dX6_copyFrom_65 : decode cX6_copyFrom 65 = .ok (.iload_n 2, 1) := by decide +kernel
theorem dX6_copyFrom_66 : decode cX6_copyFrom 66 = .ok (.laload, 1) := by decide +kernel
theorem dX6_copyFrom_67 : decode cX6_copyFrom 67 = .ok (.lastore, 1) := by decide +kernel
theorem dX6_copyFrom_68 : decode cX6_copyFrom 68 = .ok (.iinc 2 1, 3) := by decide +kernel
theorem dX6_copyFrom_71 : decode cX6_copyFrom 71 = .ok (.goto (-69), 3) := by decide +kernel
theorem dX6_copyFrom_74 : decode cX6_copyFrom 74 = .ok (.aload_n 0, 1) := by decide +kernel
theorem dX6_copyFrom_75 : decode cX6_copyFrom 75 = .ok (.aload_n 1, 1) := by decide +kernel
theorem dX6_copyFrom_76 : decode cX6_copyFrom 76 = .ok (.getfield 28, 3) := by decide +kernel
theorem dX6_copyFrom_79 : decode cX6_copyFrom 79 = .ok (.putfield 28, 3) := by decide +kernel
theorem dX6_copyFrom_82 : decode cX6_copyFrom 82 = .ok (.aload_n 0, 1) := by decide +kernel
theorem dX6_copyFrom_83 : decode cX6_copyFrom 83 = .ok (.aload_n 1, 1) := by decide +kernel
theorem dX6_copyFrom_84 : decode cX6_copyFrom 84 = .ok (.getfield 32, 3) := by decide +kernel
theorem dX6_copyFrom_87 : decode cX6_copyFrom 87 = .ok (.putfield 32, 3) := by decide +kernel
theorem dX6_copyFrom_90 : decode cX6_copyFrom 90 = .ok (.return_, 1) := by decide +kernel
theorem dX6_reset_0 : decode cX6_reset 0 = .ok (.iconst 0, 1) := by decide +kernel
theorem dX6_reset_1 : decode cX6_reset 1 = .ok (.istore_n 1, 1) := by decide +kernel
theorem dX6_reset_2 : decode cX6_reset 2 = .ok (.iload_n 1, 1) := by decide +kernel
theorem dX6_reset_3 : decode cX6_reset 3 = .ok (.bipush 6, 2) := by decide +kernel
theorem dX6_reset_5 : decode cX6_reset 5 = .ok (.if_icmp .ge 16, 3) := by decide +kernel
theorem dX6_reset_8 : decode cX6_reset 8 = .ok (.aload_n 0, 1) := by decide +kernel
theorem dX6_reset_9 : decode cX6_reset 9 = .ok (.getfield 24, 3) := by decide +kernel
theorem dX6_reset_12 : decode cX6_reset 12 = .ok (.iload_n 1, 1) := by decide +kernel
theorem dX6_reset_13 : decode cX6_reset 13 = .ok (.lconst 0, 1) := by decide +kernel
theorem dX6_reset_14 : decode cX6_reset 14 = .ok (.lastore, 1) := by decide +kernel
theorem dX6_reset_15 : decode cX6_reset 15 = .ok (.iinc 1 1, 3) := by decide +kernel
theorem dX6_reset_18 : decode cX6_reset 18 = .ok (.goto (-16), 3) := by decide +kernel
theorem dX6_reset_21 : decode cX6_reset 21 = .ok (.aload_n 0, 1) := by decide +kernel
theorem dX6_reset_22 : decode cX6_reset 22 = .ok (.iconst 0, 1) := by decide +kernel
theorem dX6_reset_23 : decode cX6_reset 23 = .ok (.putfield 28, 3) := by decide +kernel
theorem dX6_reset_26 : decode cX6_reset 26 = .ok (.aload_n 0, 1) := by decide +kernel
theorem dX6_reset_27 : decode cX6_reset 27 = .ok (.lconst 0, 1) := by decide +kernel
theorem dX6_reset_28 : decode cX6_reset 28 = .ok (.putfield 32, 3) := by decide +kernel
theorem dX6_reset_31 : decode cX6_reset 31 = .ok (.return_, 1) := by decide +kernel
theorem dX6_hasRoom_0 : decode cX6_hasRoom 0 = .ok (.aload_n 0, 1) := by decide +kernel
theorem dX6_hasRoom_1 : decode cX6_hasRoom 1 = .ok (.getfield 28, 3) := by decide +kernel
theorem dX6_hasRoom_4 : decode cX6_hasRoom 4 = .ok (.bipush 6, 2) := by decide +kernel
theorem dX6_hasRoom_6 : decode cX6_hasRoom 6 = .ok (.if_icmp .ge 7, 3) := by decide +kernel
theorem dX6_hasRoom_9 : decode cX6_hasRoom 9 = .ok (.iconst 1, 1) := by decide +kernel
theorem dX6_hasRoom_10 : decode cX6_hasRoom 10 = .ok (.goto 4, 3) := by decide +kernel
theorem dX6_hasRoom_13 : decode cX6_hasRoom 13 = .ok (.iconst 0, 1) := by decide +kernel
theorem dX6_hasRoom_14 : decode cX6_hasRoom 14 = .ok (.ireturn, 1) := by decide +kernel
theorem dX6_add_0 : decode cX6_add 0 = .ok (.aload_n 0, 1) := by decide +kernel
theorem dX6_add_1 : decode cX6_add 1 = .ok (.getfield 28, 3) := by decide +kernel
theorem dX6_add_4 : decode cX6_add 4 = .ok (.ifCond .lt 12, 3) := by decide +kernel
theorem dX6_add_7 : decode cX6_add 7 = .ok (.aload_n 0, 1) := by decide +kernel
theorem dX6_add_8 : decode cX6_add 8 = .ok (.getfield 28, 3) := by decide +kernel
theorem dX6_add_11 : decode cX6_add 11 = .ok (.bipush 6, 2) := by decide +kernel
theorem dX6_add_13 : decode cX6_add 13 = .ok (.if_icmp .lt 4, 3) := by decide +kernel
theorem dX6_add_16 : decode cX6_add 16 = .ok (.return_, 1) := by decide +kernel
theorem dX6_add_17 : decode cX6_add 17 = .ok (.aload_n 0, 1) := by decide +kernel
theorem dX6_add_18 : decode cX6_add 18 = .ok (.getfield 9, 3) := by decide +kernel
theorem dX6_add_21 : decode cX6_add 21 = .ok (.aload_n 0, 1) := by decide +kernel
theorem dX6_add_22 : decode cX6_add 22 = .ok (.getfield 28, 3) := by decide +kernel
theorem dX6_add_25 : decode cX6_add 25 = .ok (.iload_n 1, 1) := by decide +kernel
theorem dX6_add_26 : decode cX6_add 26 = .ok (.iastore, 1) := by decide +kernel
theorem dX6_add_27 : decode cX6_add 27 = .ok (.aload_n 0, 1) := by decide +kernel
theorem dX6_add_28 : decode cX6_add 28 = .ok (.getfield 15, 3) := by decide +kernel
theorem dX6_add_31 : decode cX6_add 31 = .ok (.aload_n 0, 1) := by decide +kernel
theorem dX6_add_32 : decode cX6_add 32 = .ok (.getfield 28, 3) := by decide +kernel
theorem dX6_add_35 : decode cX6_add 35 = .ok (.iload_n 2, 1) := by decide +kernel
theorem dX6_add_36 : decode cX6_add 36 = .ok (.iastore, 1) := by decide +kernel
theorem dX6_add_37 : decode cX6_add 37 = .ok (.aload_n 0, 1) := by decide +kernel
theorem dX6_add_38 : decode cX6_add 38 = .ok (.getfield 18, 3) := by decide +kernel
theorem dX6_add_41 : decode cX6_add 41 = .ok (.aload_n 0, 1) := by decide +kernel
theorem dX6_add_42 : decode cX6_add 42 = .ok (.getfield 28, 3) := by decide +kernel
theorem dX6_add_45 : decode cX6_add 45 = .ok (.iload_n 3, 1) := by decide +kernel
theorem dX6_add_46 : decode cX6_add 46 = .ok (.iastore, 1) := by decide +kernel
theorem dX6_add_47 : decode cX6_add 47 = .ok (.aload_n 0, 1) := by decide +kernel
theorem dX6_add_48 : decode cX6_add 48 = .ok (.getfield 21, 3) := by decide +kernel
theorem dX6_add_51 : decode cX6_add 51 = .ok (.aload_n 0, 1) := by decide +kernel
theorem dX6_add_52 : decode cX6_add 52 = .ok (.getfield 28, 3) := by decide +kernel
theorem dX6_add_55 : decode cX6_add 55 = .ok (.iload 4, 2) := by decide +kernel
theorem dX6_add_57 : decode cX6_add 57 = .ok (.iastore, 1) := by decide +kernel
theorem dX6_add_58 : decode cX6_add 58 = .ok (.aload_n 0, 1) := by decide +kernel
theorem dX6_add_59 : decode cX6_add 59 = .ok (.dup, 1) := by decide +kernel
theorem dX6_add_60 : decode cX6_add 60 = .ok (.getfield 28, 3) := by decide +kernel
theorem dX6_add_63 : decode cX6_add 63 = .ok (.iconst 1, 1) := by decide +kernel
theorem dX6_add_64 : decode cX6_add 64 = .ok (.iadd, 1) := by decide +kernel
theorem dX6_add_65 : decode cX6_add 65 = .ok (.putfield 28, 3) := by decide +kernel
theorem dX6_add_68 : decode cX6_add 68 = .ok (.return_, 1) := by decide +kernel
theorem dX6_deed_0 : decode cX6_deed 0 = .ok (.iconst 0, 1) := by decide +kernel
theorem dX6_deed_1 : decode cX6_deed 1 = .ok (.istore 4, 2) := by decide +kernel
theorem dX6_deed_3 : decode cX6_deed 3 = .ok (.iload 4, 2) := by decide +kernel
theorem dX6_deed_5 : decode cX6_deed 5 = .ok (.bipush 6, 2) := by decide +kernel
theorem dX6_deed_7 : decode cX6_deed 7 = .ok (.if_icmp .ge 47, 3) := by decide +kernel
theorem dX6_deed_10 : decode cX6_deed 10 = .ok (.aload_n 0, 1) := by decide +kernel
theorem dX6_deed_11 : decode cX6_deed 11 = .ok (.getfield 24, 3) := by decide +kernel
theorem dX6_deed_14 : decode cX6_deed 14 = .ok (.iload 4, 2) := by decide +kernel
theorem dX6_deed_16 : decode cX6_deed 16 = .ok (.iload 4, 2) := by decide +kernel
theorem dX6_deed_18 : decode cX6_deed 18 = .ok (.iload_n 1, 1) := by decide +kernel
theorem dX6_deed_19 : decode cX6_deed 19 = .ok (.if_icmp .ne 15, 3) := by decide +kernel
theorem dX6_deed_22 : decode cX6_deed 22 = .ok (.aload_n 0, 1) := by decide +kernel
theorem dX6_deed_23 : decode cX6_deed 23 = .ok (.getfield 24, 3) := by decide +kernel
theorem dX6_deed_26 : decode cX6_deed 26 = .ok (.iload 4, 2) := by decide +kernel
theorem dX6_deed_28 : decode cX6_deed 28 = .ok (.laload, 1) := by decide +kernel
theorem dX6_deed_29 : decode cX6_deed 29 = .ok (.lload_n 2, 1) := by decide +kernel
theorem dX6_deed_30 : decode cX6_deed 30 = .ok (.lor, 1) := by decide +kernel
theorem dX6_deed_31 : decode cX6_deed 31 = .ok (.goto 16, 3) := by decide +kernel
theorem dX6_deed_34 : decode cX6_deed 34 = .ok (.aload_n 0, 1) := by decide +kernel
theorem dX6_deed_35 : decode cX6_deed 35 = .ok (.getfield 24, 3) := by decide +kernel
theorem dX6_deed_38 : decode cX6_deed 38 = .ok (.iload 4, 2) := by decide +kernel
theorem dX6_deed_40 : decode cX6_deed 40 = .ok (.laload, 1) := by decide +kernel
theorem dX6_deed_41 : decode cX6_deed 41 = .ok (.lload_n 2, 1) := by decide +kernel
theorem dX6_deed_42 : decode cX6_deed 42 = .ok (.ldc2_w 36, 3) := by decide +kernel
theorem dX6_deed_45 : decode cX6_deed 45 = .ok (.lxor, 1) := by decide +kernel
theorem dX6_deed_46 : decode cX6_deed 46 = .ok (.land, 1) := by decide +kernel
theorem dX6_deed_47 : decode cX6_deed 47 = .ok (.lastore, 1) := by decide +kernel
theorem dX6_deed_48 : decode cX6_deed 48 = .ok (.iinc 4 1, 3) := by decide +kernel
theorem dX6_deed_51 : decode cX6_deed 51 = .ok (.goto (-48), 3) := by decide +kernel
theorem dX6_deed_54 : decode cX6_deed 54 = .ok (.return_, 1) := by decide +kernel
theorem dX6_knows_0 : decode cX6_knows 0 = .ok (.iload_n 1, 1) := by decide +kernel
theorem dX6_knows_1 : decode cX6_knows 1 = .ok (.ifCond .lt 21, 3) := by decide +kernel
theorem dX6_knows_4 : decode cX6_knows 4 = .ok (.iload_n 1, 1) := by decide +kernel
theorem dX6_knows_5 : decode cX6_knows 5 = .ok (.aload_n 0, 1) := by decide +kernel
theorem dX6_knows_6 : decode cX6_knows 6 = .ok (.getfield 28, 3) := by decide +kernel
theorem dX6_knows_9 : decode cX6_knows 9 = .ok (.if_icmp .ge 13, 3) := by decide +kernel
theorem dX6_knows_12 : decode cX6_knows 12 = .ok (.iload_n 1, 1) := by decide +kernel
theorem dX6_knows_13 : decode cX6_knows 13 = .ok (.bipush 6, 2) := by decide +kernel
theorem dX6_knows_15 : decode cX6_knows 15 = .ok (.if_icmp .ge 7, 3) := by decide +kernel
theorem dX6_knows_18 : decode cX6_knows 18 = .ok (.iconst 1, 1) := by decide +kernel
theorem dX6_knows_19 : decode cX6_knows 19 = .ok (.goto 4, 3) := by decide +kernel
theorem dX6_knows_22 : decode cX6_knows 22 = .ok (.iconst 0, 1) := by decide +kernel
theorem dX6_knows_23 : decode cX6_knows 23 = .ok (.ireturn, 1) := by decide +kernel
theorem dX6_everybody_0 : decode cX6_everybody 0 = .ok (.iconst 1, 1) := by decide +kernel
theorem dX6_everybody_1 : decode cX6_everybody 1 = .ok (.aload_n 0, 1) := by decide +kernel
theorem dX6_everybody_2 : decode cX6_everybody 2 = .ok (.getfield 28, 3) := by decide +kernel
theorem dX6_everybody_5 : decode cX6_everybody 5 = .ok (.ishl, 1) := by decide +kernel
theorem dX6_everybody_6 : decode cX6_everybody 6 = .ok (.iconst 1, 1) := by decide +kernel
theorem dX6_everybody_7 : decode cX6_everybody 7 = .ok (.isub, 1) := by decide +kernel
theorem dX6_everybody_8 : decode cX6_everybody 8 = .ok (.ireturn, 1) := by decide +kernel
theorem dX6_kindOf_0 : decode cX6_kindOf 0 = .ok (.iload_n 1, 1) := by decide +kernel
theorem dX6_kindOf_1 : decode cX6_kindOf 1 = .ok (.ifCond .lt 18, 3) := by decide +kernel
theorem dX6_kindOf_4 : decode cX6_kindOf 4 = .ok (.iload_n 1, 1) := by decide +kernel
theorem dX6_kindOf_5 : decode cX6_kindOf 5 = .ok (.bipush 6, 2) := by decide +kernel
theorem dX6_kindOf_7 : decode cX6_kindOf 7 = .ok (.if_icmp .ge 12, 3) := by decide +kernel
theorem dX6_kindOf_10 : decode cX6_kindOf 10 = .ok (.aload_n 0, 1) := by decide +kernel
theorem dX6_kindOf_11 : decode cX6_kindOf 11 = .ok (.getfield 9, 3) := by decide +kernel
theorem dX6_kindOf_14 : decode cX6_kindOf 14 = .ok (.iload_n 1, 1) := by decide +kernel
theorem dX6_kindOf_15 : decode cX6_kindOf 15 = .ok (.iaload, 1) := by decide +kernel
theorem dX6_kindOf_16 : decode cX6_kindOf 16 = .ok (.goto 4, 3) := by decide +kernel
theorem dX6_kindOf_19 : decode cX6_kindOf 19 = .ok (.iconst (-1), 1) := by decide +kernel
theorem dX6_kindOf_20 : decode cX6_kindOf 20 = .ok (.ireturn, 1) := by decide +kernel
theorem dX6_paceOf_0 : decode cX6_paceOf 0 = .ok (.iload_n 1, 1) := by decide +kernel
theorem dX6_paceOf_1 : decode cX6_paceOf 1 = .ok (.ifCond .lt 18, 3) := by decide +kernel
theorem dX6_paceOf_4 : decode cX6_paceOf 4 = .ok (.iload_n 1, 1) := by decide +kernel
theorem dX6_paceOf_5 : decode cX6_paceOf 5 = .ok (.bipush 6, 2) := by decide +kernel
theorem dX6_paceOf_7 : decode cX6_paceOf 7 = .ok (.if_icmp .ge 12, 3) := by decide +kernel
theorem dX6_paceOf_10 : decode cX6_paceOf 10 = .ok (.aload_n 0, 1) := by decide +kernel
theorem dX6_paceOf_11 : decode cX6_paceOf 11 = .ok (.getfield 15, 3) := by decide +kernel
theorem dX6_paceOf_14 : decode cX6_paceOf 14 = .ok (.iload_n 1, 1) := by decide +kernel
theorem dX6_paceOf_15 : decode cX6_paceOf 15 = .ok (.iaload, 1) := by decide +kernel
theorem dX6_paceOf_16 : decode cX6_paceOf 16 = .ok (.goto 4, 3) := by decide +kernel
theorem dX6_paceOf_19 : decode cX6_paceOf 19 = .ok (.iconst 0, 1) := by decide +kernel
theorem dX6_paceOf_20 : decode cX6_paceOf 20 = .ok (.ireturn, 1) := by decide +kernel
theorem dX6_stayOf_0 : decode cX6_stayOf 0 = .ok (.iload_n 1, 1) := by decide +kernel
theorem dX6_stayOf_1 : decode cX6_stayOf 1 = .ok (.ifCond .lt 18, 3) := by decide +kernel
theorem dX6_stayOf_4 : decode cX6_stayOf 4 = .ok (.iload_n 1, 1) := by decide +kernel
theorem dX6_stayOf_5 : decode cX6_stayOf 5 = .ok (.bipush 6, 2) := by decide +kernel
theorem dX6_stayOf_7 : decode cX6_stayOf 7 = .ok (.if_icmp .ge 12, 3) := by decide +kernel
theorem dX6_stayOf_10 : decode cX6_stayOf 10 = .ok (.aload_n 0, 1) := by decide +kernel
theorem dX6_stayOf_11 : decode cX6_stayOf 11 = .ok (.getfield 18, 3) := by decide +kernel
theorem dX6_stayOf_14 : decode cX6_stayOf 14 = .ok (.iload_n 1, 1) := by decide +kernel
theorem dX6_stayOf_15 : decode cX6_stayOf 15 = .ok (.iaload, 1) := by decide +kernel
theorem dX6_stayOf_16 : decode cX6_stayOf 16 = .ok (.goto 4, 3) := by decide +kernel
theorem dX6_stayOf_19 : decode cX6_stayOf 19 = .ok (.iconst 0, 1) := by decide +kernel
theorem dX6_stayOf_20 : decode cX6_stayOf 20 = .ok (.ireturn, 1) := by decide +kernel
theorem dX6_rentOf_0 : decode cX6_rentOf 0 = .ok (.iload_n 1, 1) := by decide +kernel
theorem dX6_rentOf_1 : decode cX6_rentOf 1 = .ok (.ifCond .lt 18, 3) := by decide +kernel
theorem dX6_rentOf_4 : decode cX6_rentOf 4 = .ok (.iload_n 1, 1) := by decide +kernel
theorem dX6_rentOf_5 : decode cX6_rentOf 5 = .ok (.bipush 6, 2) := by decide +kernel
theorem dX6_rentOf_7 : decode cX6_rentOf 7 = .ok (.if_icmp .ge 12, 3) := by decide +kernel
theorem dX6_rentOf_10 : decode cX6_rentOf 10 = .ok (.aload_n 0, 1) := by decide +kernel
theorem dX6_rentOf_11 : decode cX6_rentOf 11 = .ok (.getfield 21, 3) := by decide +kernel
theorem dX6_rentOf_14 : decode cX6_rentOf 14 = .ok (.iload_n 1, 1) := by decide +kernel
theorem dX6_rentOf_15 : decode cX6_rentOf 15 = .ok (.iaload, 1) := by decide +kernel
theorem dX6_rentOf_16 : decode cX6_rentOf 16 = .ok (.goto 4, 3) := by decide +kernel
theorem dX6_rentOf_19 : decode cX6_rentOf 19 = .ok (.iconst 0, 1) := by decide +kernel
theorem dX6_rentOf_20 : decode cX6_rentOf 20 = .ok (.ireturn, 1) := by decide +kernel
theorem dX6_deedOf_0 : decode cX6_deedOf 0 = .ok (.iload_n 1, 1) := by decide +kernel
theorem dX6_deedOf_1 : decode cX6_deedOf 1 = .ok (.ifCond .lt 18, 3) := by decide +kernel
theorem dX6_deedOf_4 : decode cX6_deedOf 4 = .ok (.iload_n 1, 1) := by decide +kernel
theorem dX6_deedOf_5 : decode cX6_deedOf 5 = .ok (.bipush 6, 2) := by decide +kernel
theorem dX6_deedOf_7 : decode cX6_deedOf 7 = .ok (.if_icmp .ge 12, 3) := by decide +kernel
theorem dX6_deedOf_10 : decode cX6_deedOf 10 = .ok (.aload_n 0, 1) := by decide +kernel
theorem dX6_deedOf_11 : decode cX6_deedOf 11 = .ok (.getfield 24, 3) := by decide +kernel
theorem dX6_deedOf_14 : decode cX6_deedOf 14 = .ok (.iload_n 1, 1) := by decide +kernel
theorem dX6_deedOf_15 : decode cX6_deedOf 15 = .ok (.laload, 1) := by decide +kernel
theorem dX6_deedOf_16 : decode cX6_deedOf 16 = .ok (.goto 4, 3) := by decide +kernel
theorem dX6_deedOf_19 : decode cX6_deedOf 19 = .ok (.lconst 0, 1) := by decide +kernel
theorem dX6_deedOf_20 : decode cX6_deedOf 20 = .ok (.lreturn, 1) := by decide +kernel
theorem dX6_walkOf_0 : decode cX6_walkOf 0 = .ok (.iload_n 1, 1) := by decide +kernel
theorem dX6_walkOf_1 : decode cX6_walkOf 1 = .ok (.ifCond .lt 9, 3) := by decide +kernel
theorem dX6_walkOf_4 : decode cX6_walkOf 4 = .ok (.iload_n 1, 1) := by decide +kernel
theorem dX6_walkOf_5 : decode cX6_walkOf 5 = .ok (.bipush 6, 2) := by decide +kernel
theorem dX6_walkOf_7 : decode cX6_walkOf 7 = .ok (.if_icmp .lt 5, 3) := by decide +kernel
theorem dX6_walkOf_10 : decode cX6_walkOf 10 = .ok (.iconst 0, 1) := by decide +kernel
theorem dX6_walkOf_11 : decode cX6_walkOf 11 = .ok (.ireturn, 1) := by decide +kernel
theorem dX6_walkOf_12 : decode cX6_walkOf 12 = .ok (.aload_n 0, 1) := by decide +kernel
theorem dX6_walkOf_13 : decode cX6_walkOf 13 = .ok (.getfield 9, 3) := by decide +kernel
theorem dX6_walkOf_16 : decode cX6_walkOf 16 = .ok (.iload_n 1, 1) := by decide +kernel
theorem dX6_walkOf_17 : decode cX6_walkOf 17 = .ok (.iaload, 1) := by decide +kernel
theorem dX6_walkOf_18 : decode cX6_walkOf 18 = .ok (.iconst 1, 1) := by decide +kernel
theorem dX6_walkOf_19 : decode cX6_walkOf 19 = .ok (.if_icmp .ne 24, 3) := by decide +kernel
theorem dX6_walkOf_22 : decode cX6_walkOf 22 = .ok (.aload_n 0, 1) := by decide +kernel
theorem dX6_walkOf_23 : decode cX6_walkOf 23 = .ok (.getfield 15, 3) := by decide +kernel
theorem dX6_walkOf_26 : decode cX6_walkOf 26 = .ok (.iload_n 1, 1) := by decide +kernel
theorem dX6_walkOf_27 : decode cX6_walkOf 27 = .ok (.iaload, 1) := by decide +kernel
theorem dX6_walkOf_28 : decode cX6_walkOf 28 = .ok (.iconst 1, 1) := by decide +kernel
theorem dX6_walkOf_29 : decode cX6_walkOf 29 = .ok (.if_icmp .le 14, 3) := by decide +kernel
theorem dX6_walkOf_32 : decode cX6_walkOf 32 = .ok (.aload_n 0, 1) := by decide +kernel
theorem dX6_walkOf_33 : decode cX6_walkOf 33 = .ok (.getfield 15, 3) := by decide +kernel
theorem dX6_walkOf_36 : decode cX6_walkOf 36 = .ok (.iload_n 1, 1) := by decide +kernel
theorem dX6_walkOf_37 : decode cX6_walkOf 37 = .ok (.iaload, 1) := by decide +kernel
theorem dX6_walkOf_38 : decode cX6_walkOf 38 = .ok (.iconst 1, 1) := by decide +kernel
theorem dX6_walkOf_39 : decode cX6_walkOf 39 = .ok (.isub, 1) := by decide +kernel
theorem dX6_walkOf_40 : decode cX6_walkOf 40 = .ok (.goto 9, 3) := by decide +kernel
theorem dX6_walkOf_43 : decode cX6_walkOf 43 = .ok (.aload_n 0, 1) := by decide +kernel
theorem dX6_walkOf_44 : decode cX6_walkOf 44 = .ok (.getfield 15, 3) := by decide +kernel
theorem dX6_walkOf_47 : decode cX6_walkOf 47 = .ok (.iload_n 1, 1) := by decide +kernel
theorem dX6_walkOf_48 : decode cX6_walkOf 48 = .ok (.iaload, 1) := by decide +kernel
theorem dX6_walkOf_49 : decode cX6_walkOf 49 = .ok (.ireturn, 1) := by decide +kernel
theorem dX6_tollOf_0 : decode cX6_tollOf 0 = .ok (.iload_n 1, 1) := by decide +kernel
theorem dX6_tollOf_1 : decode cX6_tollOf 1 = .ok (.ifCond .lt 9, 3) := by decide +kernel
theorem dX6_tollOf_4 : decode cX6_tollOf 4 = .ok (.iload_n 1, 1) := by decide +kernel
theorem dX6_tollOf_5 : decode cX6_tollOf 5 = .ok (.bipush 6, 2) := by decide +kernel
theorem dX6_tollOf_7 : decode cX6_tollOf 7 = .ok (.if_icmp .lt 5, 3) := by decide +kernel
theorem dX6_tollOf_10 : decode cX6_tollOf 10 = .ok (.iconst 0, 1) := by decide +kernel
theorem dX6_tollOf_11 : decode cX6_tollOf 11 = .ok (.ireturn, 1) := by decide +kernel
theorem dX6_tollOf_12 : decode cX6_tollOf 12 = .ok (.aload_n 0, 1) := by decide +kernel
theorem dX6_tollOf_13 : decode cX6_tollOf 13 = .ok (.getfield 9, 3) := by decide +kernel
theorem dX6_tollOf_16 : decode cX6_tollOf 16 = .ok (.iload_n 1, 1) := by decide +kernel
theorem dX6_tollOf_17 : decode cX6_tollOf 17 = .ok (.iaload, 1) := by decide +kernel
theorem dX6_tollOf_18 : decode cX6_tollOf 18 = .ok (.iconst 3, 1) := by decide +kernel
theorem dX6_tollOf_19 : decode cX6_tollOf 19 = .ok (.if_icmp .ne 14, 3) := by decide +kernel
theorem dX6_tollOf_22 : decode cX6_tollOf 22 = .ok (.iconst 2, 1) := by decide +kernel
theorem dX6_tollOf_23 : decode cX6_tollOf 23 = .ok (.aload_n 0, 1) := by decide +kernel
theorem dX6_tollOf_24 : decode cX6_tollOf 24 = .ok (.getfield 21, 3) := by decide +kernel
theorem dX6_tollOf_27 : decode cX6_tollOf 27 = .ok (.iload_n 1, 1) := by decide +kernel
theorem dX6_tollOf_28 : decode cX6_tollOf 28 = .ok (.iaload, 1) := by decide +kernel
theorem dX6_tollOf_29 : decode cX6_tollOf 29 = .ok (.imul, 1) := by decide +kernel
theorem dX6_tollOf_30 : decode cX6_tollOf 30 = .ok (.goto 9, 3) := by decide +kernel
theorem dX6_tollOf_33 : decode cX6_tollOf 33 = .ok (.aload_n 0, 1) := by decide +kernel
theorem dX6_tollOf_34 : decode cX6_tollOf 34 = .ok (.getfield 21, 3) := by decide +kernel
theorem dX6_tollOf_37 : decode cX6_tollOf 37 = .ok (.iload_n 1, 1) := by decide +kernel
theorem dX6_tollOf_38 : decode cX6_tollOf 38 = .ok (.iaload, 1) := by decide +kernel
theorem dX6_tollOf_39 : decode cX6_tollOf 39 = .ok (.ireturn, 1) := by decide +kernel
set_option maxRecDepth 20000 in
theorem ggX7_init_X5_init : GoodIn wsX7_init wsX5_init := goodIn_r _ [36, 37, 2, 3, 38, 39, 40, 97, 98, 99, 100, 101, 102] (by decide +kernel) (by decide +kernel)
set_option maxRecDepth 20000 in
theorem gX7_init_X5_init : GoodIn wsX7_init (wsX5_init) := ggX7_init_X5_init
