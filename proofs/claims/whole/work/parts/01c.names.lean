set_option maxRecDepth 20000 in
theorem gX1_leastWithNext_X1_withRope : GoodIn wsX1_leastWithNext (wsV RX1 93 RX1 yX1_withRope wsX1_withRope) := goodIn_app (goodIn_of _ (by decide +kernel)) ggX1_leastWithNext_X1_withRope
theorem dX1_leastWithNext_0 : decode cX1_leastWithNext 0 = .ok (.iload_n 1, 1) := by decide +kernel
theorem dX1_leastWithNext_1 : decode cX1_leastWithNext 1 = .ok (.iconst 1, 1) := by decide +kernel
theorem dX1_leastWithNext_2 : decode cX1_leastWithNext 2 = .ok (.iload_n 2, 1) := by decide +kernel
theorem dX1_leastWithNext_3 : decode cX1_leastWithNext 3 = .ok (.ishl, 1) := by decide +kernel
theorem dX1_leastWithNext_4 : decode cX1_leastWithNext 4 = .ok (.ior, 1) := by decide +kernel
theorem dX1_leastWithNext_5 : decode cX1_leastWithNext 5 = .ok (.istore 4, 2) := by decide +kernel
theorem dX1_leastWithNext_7 : decode cX1_leastWithNext 7 = .ok (.iload 4, 2) := by decide +kernel
theorem dX1_leastWithNext_9 : decode cX1_leastWithNext 9 = .ok (.ifCond .lt 21, 3) := by decide +kernel
theorem dX1_leastWithNext_12 : decode cX1_leastWithNext 12 = .ok (.iload 4, 2) := by decide +kernel
theorem dX1_leastWithNext_14 : decode cX1_leastWithNext 14 = .ok (.bipush 64, 2) := by decide +kernel
theorem dX1_leastWithNext_16 : decode cX1_leastWithNext 16 = .ok (.if_icmp .ge 14, 3) := by decide +kernel
theorem dX1_leastWithNext_19 : decode cX1_leastWithNext 19 = .ok (.aload_n 0, 1) := by decide +kernel
theorem dX1_leastWithNext_20 : decode cX1_leastWithNext 20 = .ok (.getfield 9, 3) := by decide +kernel
theorem dX1_leastWithNext_23 : decode cX1_leastWithNext 23 = .ok (.iload 4, 2) := by decide +kernel
theorem dX1_leastWithNext_25 : decode cX1_leastWithNext 25 = .ok (.iaload, 1) := by decide +kernel
theorem dX1_leastWithNext_26 : decode cX1_leastWithNext 26 = .ok (.iconst (-1), 1) := by decide +kernel
theorem dX1_leastWithNext_27 : decode cX1_leastWithNext 27 = .ok (.if_icmp .ne 5, 3) := by decide +kernel
theorem dX1_leastWithNext_30 : decode cX1_leastWithNext 30 = .ok (.iconst (-1), 1) := by decide +kernel
theorem dX1_leastWithNext_31 : decode cX1_leastWithNext 31 = .ok (.ireturn, 1) := by decide +kernel
theorem dX1_leastWithNext_32 : decode cX1_leastWithNext 32 = .ok (.aload_n 0, 1) := by decide +kernel
theorem dX1_leastWithNext_33 : decode cX1_leastWithNext 33 = .ok (.iload_n 2, 1) := by decide +kernel
theorem dX1_leastWithNext_34 : decode cX1_leastWithNext 34 = .ok (.aload_n 0, 1) := by decide +kernel
theorem dX1_leastWithNext_35 : decode cX1_leastWithNext 35 = .ok (.iload_n 2, 1) := by decide +kernel
theorem dX1_leastWithNext_36 : decode cX1_leastWithNext 36 = .ok (.aload_n 0, 1) := by decide +kernel
theorem dX1_leastWithNext_37 : decode cX1_leastWithNext 37 = .ok (.iload_n 2, 1) := by decide +kernel
theorem dX1_leastWithNext_38 : decode cX1_leastWithNext 38 = .ok (.iload_n 3, 1) := by decide +kernel
theorem dX1_leastWithNext_39 : decode cX1_leastWithNext 39 = .ok (.aload_n 0, 1) := by decide +kernel
theorem dX1_leastWithNext_40 : decode cX1_leastWithNext 40 = .ok (.getfield 19, 3) := by decide +kernel
theorem dX1_leastWithNext_43 : decode cX1_leastWithNext 43 = .ok (.getfield 96, 3) := by decide +kernel
theorem dX1_leastWithNext_46 : decode cX1_leastWithNext 46 = .ok (.invokevirtual 41, 3) := by decide +kernel
theorem dX1_leastWithNext_49 : decode cX1_leastWithNext 49 = .ok (.invokevirtual 82, 3) := by decide +kernel
theorem dX1_leastWithNext_52 : decode cX1_leastWithNext 52 = .ok (.invokevirtual 93, 3) := by decide +kernel
theorem dX1_leastWithNext_55 : decode cX1_leastWithNext 55 = .ok (.istore 5, 2) := by decide +kernel
theorem dX1_leastWithNext_57 : decode cX1_leastWithNext 57 = .ok (.iload 5, 2) := by decide +kernel
theorem dX1_leastWithNext_59 : decode cX1_leastWithNext 59 = .ok (.aload_n 0, 1) := by decide +kernel
theorem dX1_leastWithNext_60 : decode cX1_leastWithNext 60 = .ok (.getfield 9, 3) := by decide +kernel
theorem dX1_leastWithNext_63 : decode cX1_leastWithNext 63 = .ok (.iload 4, 2) := by decide +kernel
theorem dX1_leastWithNext_65 : decode cX1_leastWithNext 65 = .ok (.iaload, 1) := by decide +kernel
theorem dX1_leastWithNext_66 : decode cX1_leastWithNext 66 = .ok (.iadd, 1) := by decide +kernel
theorem dX1_leastWithNext_67 : decode cX1_leastWithNext 67 = .ok (.ireturn, 1) := by decide +kernel
set_option maxRecDepth 20000 in
theorem ggX1_leastInOrder_X1_leastOfRest : GoodIn wsX1_leastInOrder wsX1_leastOfRest := goodIn_r _ [6, 7, 8, 9, 10, 5, 11, 12, 13, 14, 15, 16, 17, 18, 19, 20, 21, 22, 23, 24, 25, 26, 27, 28, 1, 29, 30, 31, 32, 33, 34, 35, 36, 37, 38, 39, 40, 41, 42, 43, 44, 45, 46, 47, 48, 49, 50, 51, 52, 53, 54, 55, 56, 57, 58, 59, 60, 61, 62, 63, 64, 65, 66, 67, 68, 69, 70, 71, 72, 73, 74, 75, 76, 77, 78, 79, 80, 81, 82, 83, 84, 85, 86, 87, 88, 89, 90, 91, 92] (by decide +kernel) (by decide +kernel)
set_option maxRecDepth 20000 in
theorem gX1_leastInOrder_X1_leastOfRest : GoodIn wsX1_leastInOrder (wsV RX1 102 RX1 yX1_leastOfRest wsX1_leastOfRest) := goodIn_app (goodIn_of _ (by decide +kernel)) ggX1_leastInOrder_X1_leastOfRest
theorem dX1_leastInOrder_0 : decode cX1_leastInOrder 0 = .ok (.bipush 63, 2) := by decide +kernel
theorem dX1_leastInOrder_2 : decode cX1_leastInOrder 2 = .ok (.istore_n 3, 1) := by decide +kernel
theorem dX1_leastInOrder_3 : decode cX1_leastInOrder 3 = .ok (.iload_n 3, 1) := by decide +kernel
theorem dX1_leastInOrder_4 : decode cX1_leastInOrder 4 = .ok (.ifCond .lt 39, 3) := by decide +kernel
theorem dX1_leastInOrder_7 : decode cX1_leastInOrder 7 = .ok (.iload_n 3, 1) := by decide +kernel
theorem dX1_leastInOrder_8 : decode cX1_leastInOrder 8 = .ok (.iload_n 1, 1) := by decide +kernel
theorem dX1_leastInOrder_9 : decode cX1_leastInOrder 9 = .ok (.iconst (-1), 1) := by decide +kernel
theorem dX1_leastInOrder_10 : decode cX1_leastInOrder 10 = .ok (.ixor, 1) := by decide +kernel
theorem dX1_leastInOrder_11 : decode cX1_leastInOrder 11 = .ok (.iand, 1) := by decide +kernel
theorem dX1_leastInOrder_12 : decode cX1_leastInOrder 12 = .ok (.ifCond .ne 25, 3) := by decide +kernel
theorem dX1_leastInOrder_15 : decode cX1_leastInOrder 15 = .ok (.aload_n 0, 1) := by decide +kernel
theorem dX1_leastInOrder_16 : decode cX1_leastInOrder 16 = .ok (.getfield 9, 3) := by decide +kernel
theorem dX1_leastInOrder_19 : decode cX1_leastInOrder 19 = .ok (.iload_n 3, 1) := by decide +kernel
theorem dX1_leastInOrder_20 : decode cX1_leastInOrder 20 = .ok (.iload_n 3, 1) := by decide +kernel
theorem dX1_leastInOrder_21 : decode cX1_leastInOrder 21 = .ok (.iload_n 1, 1) := by decide +kernel
theorem dX1_leastInOrder_22 : decode cX1_leastInOrder 22 = .ok (.if_icmp .ne 7, 3) := by decide +kernel
theorem dX1_leastInOrder_25 : decode cX1_leastInOrder 25 = .ok (.iconst 0, 1) := by decide +kernel
theorem dX1_leastInOrder_26 : decode cX1_leastInOrder 26 = .ok (.goto 10, 3) := by decide +kernel
theorem dX1_leastInOrder_29 : decode cX1_leastInOrder 29 = .ok (.aload_n 0, 1) := by decide +kernel
theorem dX1_leastInOrder_30 : decode cX1_leastInOrder 30 = .ok (.iload_n 1, 1) := by decide +kernel
theorem dX1_leastInOrder_31 : decode cX1_leastInOrder 31 = .ok (.iload_n 3, 1) := by decide +kernel
theorem dX1_leastInOrder_32 : decode cX1_leastInOrder 32 = .ok (.iload_n 2, 1) := by decide +kernel
theorem dX1_leastInOrder_33 : decode cX1_leastInOrder 33 = .ok (.invokevirtual 102, 3) := by decide +kernel
theorem dX1_leastInOrder_36 : decode cX1_leastInOrder 36 = .ok (.iastore, 1) := by decide +kernel
theorem dX1_leastInOrder_37 : decode cX1_leastInOrder 37 = .ok (.iinc 3 (-1), 3) := by decide +kernel
theorem dX1_leastInOrder_40 : decode cX1_leastInOrder 40 = .ok (.goto (-37), 3) := by decide +kernel
theorem dX1_leastInOrder_43 : decode cX1_leastInOrder 43 = .ok (.aload_n 0, 1) := by decide +kernel
theorem dX1_leastInOrder_44 : decode cX1_leastInOrder 44 = .ok (.getfield 9, 3) := by decide +kernel
theorem dX1_leastInOrder_47 : decode cX1_leastInOrder 47 = .ok (.iconst 0, 1) := by decide +kernel
theorem dX1_leastInOrder_48 : decode cX1_leastInOrder 48 = .ok (.iaload, 1) := by decide +kernel
theorem dX1_leastInOrder_49 : decode cX1_leastInOrder 49 = .ok (.ireturn, 1) := by decide +kernel
set_option maxRecDepth 20000 in
theorem ggX1_leastOfRest_X1_startBehind : GoodIn wsX1_leastOfRest wsX1_startBehind := goodIn_r _ [6, 1, 7, 8, 9, 10, 11, 12, 13, 14, 15, 16, 17, 18, 19, 75, 76, 77, 78, 79, 80, 81, 82, 83, 84, 85, 86, 87, 88] (by decide +kernel) (by decide +kernel)
set_option maxRecDepth 20000 in
theorem gX1_leastOfRest_X1_startBehind : GoodIn wsX1_leastOfRest (wsV RX1 106 RX1 yX1_startBehind wsX1_startBehind) := goodIn_app (goodIn_of _ (by decide +kernel)) ggX1_leastOfRest_X1_startBehind
set_option maxRecDepth 20000 in
theorem ggX1_leastOfRest_X1_leastWithNext : GoodIn wsX1_leastOfRest wsX1_leastWithNext := goodIn_r _ [23, 24, 7, 25, 26, 27, 5, 28, 1, 8, 9, 10, 11, 12, 13, 14, 15, 16, 17, 18, 19, 29, 30, 31, 32, 33, 34, 35, 36, 37, 38, 39, 40, 41, 42, 43, 44, 45, 46, 47, 48, 49, 50, 51, 52, 53, 54, 55, 56, 57, 58, 59, 60, 61, 62, 63, 64, 65, 66, 67, 68, 69, 70, 71, 72, 73, 74, 75, 76, 77, 85, 86, 87, 88, 78, 79, 80, 81, 82, 83, 84] (by decide +kernel) (by decide +kernel)
set_option maxRecDepth 20000 in
theorem gX1_leastOfRest_X1_leastWithNext : GoodIn wsX1_leastOfRest (wsV RX1 109 RX1 yX1_leastWithNext wsX1_leastWithNext) := goodIn_app (goodIn_of _ (by decide +kernel)) ggX1_leastOfRest_X1_leastWithNext
theorem dX1_leastOfRest_0 : decode cX1_leastOfRest 0 = .ok (.aload_n 0, 1) := by decide +kernel
theorem dX1_leastOfRest_1 : decode cX1_leastOfRest 1 = .ok (.iload_n 2, 1) := by decide +kernel
theorem dX1_leastOfRest_2 : decode cX1_leastOfRest 2 = .ok (.iload_n 3, 1) := by decide +kernel
theorem dX1_leastOfRest_3 : decode cX1_leastOfRest 3 = .ok (.invokevirtual 106, 3) := by decide +kernel
theorem dX1_leastOfRest_6 : decode cX1_leastOfRest 6 = .ok (.istore 4, 2) := by decide +kernel
theorem dX1_leastOfRest_8 : decode cX1_leastOfRest 8 = .ok (.iload 4, 2) := by decide +kernel
theorem dX1_leastOfRest_10 : decode cX1_leastOfRest 10 = .ok (.bipush 59, 2) := by decide +kernel
theorem dX1_leastOfRest_12 : decode cX1_leastOfRest 12 = .ok (.if_icmp .le 5, 3) := by decide +kernel
theorem dX1_leastOfRest_15 : decode cX1_leastOfRest 15 = .ok (.iconst (-1), 1) := by decide +kernel
theorem dX1_leastOfRest_16 : decode cX1_leastOfRest 16 = .ok (.ireturn, 1) := by decide +kernel
theorem dX1_leastOfRest_17 : decode cX1_leastOfRest 17 = .ok (.iconst (-1), 1) := by decide +kernel
theorem dX1_leastOfRest_18 : decode cX1_leastOfRest 18 = .ok (.istore 5, 2) := by decide +kernel
theorem dX1_leastOfRest_20 : decode cX1_leastOfRest 20 = .ok (.iconst 0, 1) := by decide +kernel
theorem dX1_leastOfRest_21 : decode cX1_leastOfRest 21 = .ok (.istore 6, 2) := by decide +kernel
theorem dX1_leastOfRest_23 : decode cX1_leastOfRest 23 = .ok (.iload 6, 2) := by decide +kernel
theorem dX1_leastOfRest_25 : decode cX1_leastOfRest 25 = .ok (.aload_n 0, 1) := by decide +kernel
theorem dX1_leastOfRest_26 : decode cX1_leastOfRest 26 = .ok (.getfield 15, 3) := by decide +kernel
theorem dX1_leastOfRest_29 : decode cX1_leastOfRest 29 = .ok (.getfield 65, 3) := by decide +kernel
theorem dX1_leastOfRest_32 : decode cX1_leastOfRest 32 = .ok (.if_icmp .ge 56, 3) := by decide +kernel
theorem dX1_leastOfRest_35 : decode cX1_leastOfRest 35 = .ok (.iload_n 1, 1) := by decide +kernel
theorem dX1_leastOfRest_36 : decode cX1_leastOfRest 36 = .ok (.iload_n 2, 1) := by decide +kernel
theorem dX1_leastOfRest_37 : decode cX1_leastOfRest 37 = .ok (.iconst (-1), 1) := by decide +kernel
theorem dX1_leastOfRest_38 : decode cX1_leastOfRest 38 = .ok (.ixor, 1) := by decide +kernel
theorem dX1_leastOfRest_39 : decode cX1_leastOfRest 39 = .ok (.iand, 1) := by decide +kernel
theorem dX1_leastOfRest_40 : decode cX1_leastOfRest 40 = .ok (.iconst 1, 1) := by decide +kernel
theorem dX1_leastOfRest_41 : decode cX1_leastOfRest 41 = .ok (.iload 6, 2) := by decide +kernel
theorem dX1_leastOfRest_43 : decode cX1_leastOfRest 43 = .ok (.ishl, 1) := by decide +kernel
theorem dX1_leastOfRest_44 : decode cX1_leastOfRest 44 = .ok (.iand, 1) := by decide +kernel
theorem dX1_leastOfRest_45 : decode cX1_leastOfRest 45 = .ok (.ifCond .eq 37, 3) := by decide +kernel
theorem dX1_leastOfRest_48 : decode cX1_leastOfRest 48 = .ok (.aload_n 0, 1) := by decide +kernel
theorem dX1_leastOfRest_49 : decode cX1_leastOfRest 49 = .ok (.iload_n 2, 1) := by decide +kernel
theorem dX1_leastOfRest_50 : decode cX1_leastOfRest 50 = .ok (.iload 6, 2) := by decide +kernel
theorem dX1_leastOfRest_52 : decode cX1_leastOfRest 52 = .ok (.iload 4, 2) := by decide +kernel
theorem dX1_leastOfRest_54 : decode cX1_leastOfRest 54 = .ok (.invokevirtual 109, 3) := by decide +kernel
theorem dX1_leastOfRest_57 : decode cX1_leastOfRest 57 = .ok (.istore 7, 2) := by decide +kernel
theorem dX1_leastOfRest_59 : decode cX1_leastOfRest 59 = .ok (.iload 7, 2) := by decide +kernel
theorem dX1_leastOfRest_61 : decode cX1_leastOfRest 61 = .ok (.iconst (-1), 1) := by decide +kernel
theorem dX1_leastOfRest_62 : decode cX1_leastOfRest 62 = .ok (.if_icmp .eq 20, 3) := by decide +kernel
theorem dX1_leastOfRest_65 : decode cX1_leastOfRest 65 = .ok (.iload 5, 2) := by decide +kernel
theorem dX1_leastOfRest_67 : decode cX1_leastOfRest 67 = .ok (.iconst (-1), 1) := by decide +kernel
theorem dX1_leastOfRest_68 : decode cX1_leastOfRest 68 = .ok (.if_icmp .eq 10, 3) := by decide +kernel
theorem dX1_leastOfRest_71 : decode cX1_leastOfRest 71 = .ok (.iload 7, 2) := by decide +kernel
theorem dX1_leastOfRest_73 : decode cX1_leastOfRest 73 = .ok (.iload 5, 2) := by decide +kernel
theorem dX1_leastOfRest_75 : decode cX1_leastOfRest 75 = .ok (.if_icmp .ge 7, 3) := by decide +kernel
theorem dX1_leastOfRest_78 : decode cX1_leastOfRest 78 = .ok (.iload 7, 2) := by decide +kernel
theorem dX1_leastOfRest_80 : decode cX1_leastOfRest 80 = .ok (.istore 5, 2) := by decide +kernel
theorem dX1_leastOfRest_82 : decode cX1_leastOfRest 82 = .ok (.iinc 6 1, 3) := by decide +kernel
theorem dX1_leastOfRest_85 : decode cX1_leastOfRest 85 = .ok (.goto (-62), 3) := by decide +kernel
theorem dX1_leastOfRest_88 : decode cX1_leastOfRest 88 = .ok (.iload 5, 2) := by decide +kernel
theorem dX1_leastOfRest_90 : decode cX1_leastOfRest 90 = .ok (.ireturn, 1) := by decide +kernel
set_option maxRecDepth 20000 in
theorem ggX1_placeInOrder_X1_nextInOrder : GoodIn wsX1_placeInOrder wsX1_nextInOrder := goodIn_r _ [5, 6, 7, 8, 9, 10, 4, 11, 12, 13, 14, 15, 16, 17, 18, 19, 20, 21, 22, 23, 24, 25, 26, 27, 28, 29, 30, 31, 32, 33, 34, 35, 36, 37, 38, 39, 40, 41, 42, 43, 44, 45, 46, 47, 48, 49, 50, 51, 52, 53, 54, 55, 56, 57, 58, 59, 60, 61, 62, 63, 64, 65, 66, 67, 68, 69, 70, 71, 72, 73, 74, 75, 76, 77, 78, 79, 80, 81, 82, 83, 84, 85, 86, 87, 88, 89, 90, 91, 92] (by decide +kernel) (by decide +kernel)
set_option maxRecDepth 20000 in
theorem gX1_placeInOrder_X1_nextInOrder : GoodIn wsX1_placeInOrder (wsV RX1 112 RX1 yX1_nextInOrder wsX1_nextInOrder) := goodIn_app (goodIn_of _ (by decide +kernel)) ggX1_placeInOrder_X1_nextInOrder
theorem dX1_placeInOrder_0 : decode cX1_placeInOrder 0 = .ok (.iconst 0, 1) := by decide +kernel
theorem dX1_placeInOrder_1 : decode cX1_placeInOrder 1 = .ok (.istore 4, 2) := by decide +kernel
theorem dX1_placeInOrder_3 : decode cX1_placeInOrder 3 = .ok (.iconst (-1), 1) := by decide +kernel
theorem dX1_placeInOrder_4 : decode cX1_placeInOrder 4 = .ok (.istore 5, 2) := by decide +kernel
theorem dX1_placeInOrder_6 : decode cX1_placeInOrder 6 = .ok (.iconst 0, 1) := by decide +kernel
theorem dX1_placeInOrder_7 : decode cX1_placeInOrder 7 = .ok (.istore 6, 2) := by decide +kernel
theorem dX1_placeInOrder_9 : decode cX1_placeInOrder 9 = .ok (.iload 6, 2) := by decide +kernel
theorem dX1_placeInOrder_11 : decode cX1_placeInOrder 11 = .ok (.iload_n 3, 1) := by decide +kernel
theorem dX1_placeInOrder_12 : decode cX1_placeInOrder 12 = .ok (.if_icmp .ge 36, 3) := by decide +kernel
theorem dX1_placeInOrder_15 : decode cX1_placeInOrder 15 = .ok (.aload_n 0, 1) := by decide +kernel
theorem dX1_placeInOrder_16 : decode cX1_placeInOrder 16 = .ok (.iload_n 1, 1) := by decide +kernel
theorem dX1_placeInOrder_17 : decode cX1_placeInOrder 17 = .ok (.iload 4, 2) := by decide +kernel
theorem dX1_placeInOrder_19 : decode cX1_placeInOrder 19 = .ok (.iload_n 2, 1) := by decide +kernel
theorem dX1_placeInOrder_20 : decode cX1_placeInOrder 20 = .ok (.invokevirtual 112, 3) := by decide +kernel
theorem dX1_placeInOrder_23 : decode cX1_placeInOrder 23 = .ok (.istore 5, 2) := by decide +kernel
theorem dX1_placeInOrder_25 : decode cX1_placeInOrder 25 = .ok (.iload 5, 2) := by decide +kernel
theorem dX1_placeInOrder_27 : decode cX1_placeInOrder 27 = .ok (.iconst (-1), 1) := by decide +kernel
theorem dX1_placeInOrder_28 : decode cX1_placeInOrder 28 = .ok (.if_icmp .ne 5, 3) := by decide +kernel
theorem dX1_placeInOrder_31 : decode cX1_placeInOrder 31 = .ok (.iconst (-1), 1) := by decide +kernel
theorem dX1_placeInOrder_32 : decode cX1_placeInOrder 32 = .ok (.ireturn, 1) := by decide +kernel
theorem dX1_placeInOrder_33 : decode cX1_placeInOrder 33 = .ok (.iload 4, 2) := by decide +kernel
theorem dX1_placeInOrder_35 : decode cX1_placeInOrder 35 = .ok (.iconst 1, 1) := by decide +kernel
theorem dX1_placeInOrder_36 : decode cX1_placeInOrder 36 = .ok (.iload 5, 2) := by decide +kernel
theorem dX1_placeInOrder_38 : decode cX1_placeInOrder 38 = .ok (.ishl, 1) := by decide +kernel
theorem dX1_placeInOrder_39 : decode cX1_placeInOrder 39 = .ok (.ior, 1) := by decide +kernel
theorem dX1_placeInOrder_40 : decode cX1_placeInOrder 40 = .ok (.istore 4, 2) := by decide +kernel
theorem dX1_placeInOrder_42 : decode cX1_placeInOrder 42 = .ok (.iinc 6 1, 3) := by decide +kernel
theorem dX1_placeInOrder_45 : decode cX1_placeInOrder 45 = .ok (.goto (-36), 3) := by decide +kernel
theorem dX1_placeInOrder_48 : decode cX1_placeInOrder 48 = .ok (.iload 5, 2) := by decide +kernel
theorem dX1_placeInOrder_50 : decode cX1_placeInOrder 50 = .ok (.ireturn, 1) := by decide +kernel
set_option maxRecDepth 20000 in
theorem ggX1_nextInOrder_X1_startBehind : GoodIn wsX1_nextInOrder wsX1_startBehind := goodIn_r _ [7, 1, 8, 9, 10, 11, 12, 13, 14, 15, 16, 17, 18, 19, 20, 75, 76, 77, 78, 79, 80, 81, 82, 83, 84, 85, 86, 87, 88] (by decide +kernel) (by decide +kernel)
set_option maxRecDepth 20000 in
theorem gX1_nextInOrder_X1_startBehind : GoodIn wsX1_nextInOrder (wsV RX1 106 RX1 yX1_startBehind wsX1_startBehind) := goodIn_app (goodIn_of _ (by decide +kernel)) ggX1_nextInOrder_X1_startBehind
set_option maxRecDepth 20000 in
theorem ggX1_nextInOrder_X1_leastWithNext : GoodIn wsX1_nextInOrder wsX1_leastWithNext := goodIn_r _ [24, 2, 8, 25, 26, 27, 6, 28, 1, 9, 10, 11, 12, 13, 14, 15, 16, 17, 18, 19, 20, 29, 30, 31, 32, 33, 34, 35, 36, 37, 38, 39, 40, 41, 42, 43, 44, 45, 46, 47, 48, 49, 50, 51, 52, 53, 54, 55, 56, 57, 58, 59, 60, 61, 62, 63, 64, 65, 66, 67, 68, 69, 70, 71, 72, 73, 74, 75, 76, 77, 85, 86, 87, 88, 78, 79, 80, 81, 82, 83, 84] (by decide +kernel) (by decide +kernel)
set_option maxRecDepth 20000 in
theorem gX1_nextInOrder_X1_leastWithNext : GoodIn wsX1_nextInOrder (wsV RX1 109 RX1 yX1_leastWithNext wsX1_leastWithNext) := goodIn_app (goodIn_of _ (by decide +kernel)) ggX1_nextInOrder_X1_leastWithNext
theorem dX1_nextInOrder_0 : decode cX1_nextInOrder 0 = .ok (.iload_n 2, 1) := by decide +kernel
theorem dX1_nextInOrder_1 : decode cX1_nextInOrder 1 = .ok (.ifCond .lt 9, 3) := by decide +kernel
theorem dX1_nextInOrder_4 : decode cX1_nextInOrder 4 = .ok (.iload_n 2, 1) := by decide +kernel
theorem dX1_nextInOrder_5 : decode cX1_nextInOrder 5 = .ok (.bipush 64, 2) := by decide +kernel
theorem dX1_nextInOrder_7 : decode cX1_nextInOrder 7 = .ok (.if_icmp .lt 5, 3) := by decide +kernel
theorem dX1_nextInOrder_10 : decode cX1_nextInOrder 10 = .ok (.iconst (-1), 1) := by decide +kernel
theorem dX1_nextInOrder_11 : decode cX1_nextInOrder 11 = .ok (.ireturn, 1) := by decide +kernel
theorem dX1_nextInOrder_12 : decode cX1_nextInOrder 12 = .ok (.aload_n 0, 1) := by decide +kernel
theorem dX1_nextInOrder_13 : decode cX1_nextInOrder 13 = .ok (.iload_n 2, 1) := by decide +kernel
theorem dX1_nextInOrder_14 : decode cX1_nextInOrder 14 = .ok (.iload_n 3, 1) := by decide +kernel
theorem dX1_nextInOrder_15 : decode cX1_nextInOrder 15 = .ok (.invokevirtual 106, 3) := by decide +kernel
theorem dX1_nextInOrder_18 : decode cX1_nextInOrder 18 = .ok (.istore 4, 2) := by decide +kernel
theorem dX1_nextInOrder_20 : decode cX1_nextInOrder 20 = .ok (.iconst 0, 1) := by decide +kernel
theorem dX1_nextInOrder_21 : decode cX1_nextInOrder 21 = .ok (.istore 5, 2) := by decide +kernel
theorem dX1_nextInOrder_23 : decode cX1_nextInOrder 23 = .ok (.iload 5, 2) := by decide +kernel
theorem dX1_nextInOrder_25 : decode cX1_nextInOrder 25 = .ok (.aload_n 0, 1) := by decide +kernel
theorem dX1_nextInOrder_26 : decode cX1_nextInOrder 26 = .ok (.getfield 15, 3) := by decide +kernel
theorem dX1_nextInOrder_29 : decode cX1_nextInOrder 29 = .ok (.getfield 65, 3) := by decide +kernel
theorem dX1_nextInOrder_32 : decode cX1_nextInOrder 32 = .ok (.if_icmp .ge 55, 3) := by decide +kernel
theorem dX1_nextInOrder_35 : decode cX1_nextInOrder 35 = .ok (.iload_n 1, 1) := by decide +kernel
theorem dX1_nextInOrder_36 : decode cX1_nextInOrder 36 = .ok (.iload_n 2, 1) := by decide +kernel
theorem dX1_nextInOrder_37 : decode cX1_nextInOrder 37 = .ok (.iconst (-1), 1) := by decide +kernel
theorem dX1_nextInOrder_38 : decode cX1_nextInOrder 38 = .ok (.ixor, 1) := by decide +kernel
theorem dX1_nextInOrder_39 : decode cX1_nextInOrder 39 = .ok (.iand, 1) := by decide +kernel
theorem dX1_nextInOrder_40 : decode cX1_nextInOrder 40 = .ok (.iconst 1, 1) := by decide +kernel
theorem dX1_nextInOrder_41 : decode cX1_nextInOrder 41 = .ok (.iload 5, 2) := by decide +kernel
theorem dX1_nextInOrder_43 : decode cX1_nextInOrder 43 = .ok (.ishl, 1) := by decide +kernel
theorem dX1_nextInOrder_44 : decode cX1_nextInOrder 44 = .ok (.iand, 1) := by decide +kernel
theorem dX1_nextInOrder_45 : decode cX1_nextInOrder 45 = .ok (.ifCond .eq 7, 3) := by decide +kernel
theorem dX1_nextInOrder_48 : decode cX1_nextInOrder 48 = .ok (.iconst 1, 1) := by decide +kernel
theorem dX1_nextInOrder_49 : decode cX1_nextInOrder 49 = .ok (.goto 4, 3) := by decide +kernel
theorem dX1_nextInOrder_52 : decode cX1_nextInOrder 52 = .ok (.iconst 0, 1) := by decide +kernel
theorem dX1_nextInOrder_53 : decode cX1_nextInOrder 53 = .ok (.istore 6, 2) := by decide +kernel
theorem dX1_nextInOrder_55 : decode cX1_nextInOrder 55 = .ok (.iload 6, 2) := by decide +kernel
theorem dX1_nextInOrder_57 : decode cX1_nextInOrder 57 = .ok (.ifCond .eq 24, 3) := by decide +kernel
theorem dX1_nextInOrder_60 : decode cX1_nextInOrder 60 = .ok (.aload_n 0, 1) := by decide +kernel
theorem dX1_nextInOrder_61 : decode cX1_nextInOrder 61 = .ok (.iload_n 2, 1) := by decide +kernel
theorem dX1_nextInOrder_62 : decode cX1_nextInOrder 62 = .ok (.iload 5, 2) := by decide +kernel
theorem dX1_nextInOrder_64 : decode cX1_nextInOrder 64 = .ok (.iload 4, 2) := by decide +kernel
theorem dX1_nextInOrder_66 : decode cX1_nextInOrder 66 = .ok (.invokevirtual 109, 3) := by decide +kernel
theorem dX1_nextInOrder_69 : decode cX1_nextInOrder 69 = .ok (.aload_n 0, 1) := by decide +kernel
theorem dX1_nextInOrder_70 : decode cX1_nextInOrder 70 = .ok (.getfield 9, 3) := by decide +kernel
theorem dX1_nextInOrder_73 : decode cX1_nextInOrder 73 = .ok (.iload_n 2, 1) := by decide +kernel
theorem dX1_nextInOrder_74 : decode cX1_nextInOrder 74 = .ok (.iaload, 1) := by decide +kernel
theorem dX1_nextInOrder_75 : decode cX1_nextInOrder 75 = .ok (.if_icmp .ne 6, 3) := by decide +kernel
theorem dX1_nextInOrder_78 : decode cX1_nextInOrder 78 = .ok (.iload 5, 2) := by decide +kernel
theorem dX1_nextInOrder_80 : decode cX1_nextInOrder 80 = .ok (.ireturn, 1) := by decide +kernel
theorem dX1_nextInOrder_81 : decode cX1_nextInOrder 81 = .ok (.iinc 5 1, 3) := by decide +kernel
theorem dX1_nextInOrder_84 : decode cX1_nextInOrder 84 = .ok (.goto (-61), 3) := by decide +kernel
theorem dX1_nextInOrder_87 : decode cX1_nextInOrder 87 = .ok (.iconst (-1), 1) := by decide +kernel
theorem dX1_nextInOrder_88 : decode cX1_nextInOrder 88 = .ok (.ireturn, 1) := by decide +kernel
set_option maxRecDepth 20000 in
theorem ggX2_init_X3_init : GoodIn wsX2_init wsX3_init := goodIn_r _ [12, 13, 2, 3, 14, 15, 16, 17, 18, 19, 20, 21, 22, 23, 24, 25, 26, 27, 28, 29] (by decide +kernel) (by decide +kernel)
set_option maxRecDepth 20000 in
theorem gX2_init_X3_init : GoodIn wsX2_init (wsX3_init) := ggX2_init_X3_init
theorem dX2_init_0 : decode cX2_init 0 = .ok (.aload_n 0, 1) := by decide +kernel
theorem dX2_init_1 : decode cX2_init 1 = .ok (.invokespecial 3, 3) := by decide +kernel
theorem dX2_init_4 : decode cX2_init 4 = .ok (.aload_n 0, 1) := by decide +kernel
theorem dX2_init_5 : decode cX2_init 5 = .ok (.new 9, 3) := by decide +kernel
theorem dX2_init_8 : decode cX2_init 8 = .ok (.dup, 1) := by decide +kernel
theorem dX2_init_9 : decode cX2_init 9 = .ok (.bipush 8, 2) := by decide +kernel
theorem dX2_init_11 : decode cX2_init 11 = .ok (.invokespecial 11, 3) := by decide +kernel
theorem dX2_init_14 : decode cX2_init 14 = .ok (.putfield 14, 3) := by decide +kernel
theorem dX2_init_17 : decode cX2_init 17 = .ok (.aload_n 0, 1) := by decide +kernel
theorem dX2_init_18 : decode cX2_init 18 = .ok (.iconst 0, 1) := by decide +kernel
theorem dX2_init_19 : decode cX2_init 19 = .ok (.putfield 20, 3) := by decide +kernel
theorem dX2_init_22 : decode cX2_init 22 = .ok (.aload_n 0, 1) := by decide +kernel
theorem dX2_init_23 : decode cX2_init 23 = .ok (.iconst 0, 1) := by decide +kernel
theorem dX2_init_24 : decode cX2_init 24 = .ok (.putfield 24, 3) := by decide +kernel
theorem dX2_init_27 : decode cX2_init 27 = .ok (.return_, 1) := by decide +kernel
set_option maxRecDepth 20000 in
theorem ggX2_record_X3_put : GoodIn wsX2_record wsX3_put := goodIn_r _ [12, 13, 14, 15, 16, 17, 21, 22, 23, 24, 25, 26, 27, 28, 29] (by decide +kernel) (by decide +kernel)
set_option maxRecDepth 20000 in
theorem gX2_record_X3_put : GoodIn wsX2_record (wsV RX2 27 RX3 yX3_put wsX3_put) := goodIn_app (goodIn_of _ (by decide +kernel)) ggX2_record_X3_put
theorem dX2_record_0 : decode cX2_record 0 = .ok (.aload_n 0, 1) := by decide +kernel
theorem dX2_record_1 : decode cX2_record 1 = .ok (.getfield 14, 3) := by decide +kernel
theorem dX2_record_4 : decode cX2_record 4 = .ok (.aload_n 0, 1) := by decide +kernel
theorem dX2_record_5 : decode cX2_record 5 = .ok (.getfield 20, 3) := by decide +kernel
theorem dX2_record_8 : decode cX2_record 8 = .ok (.aload_n 1, 1) := by decide +kernel
theorem dX2_record_9 : decode cX2_record 9 = .ok (.invokevirtual 27, 3) := by decide +kernel
theorem dX2_record_12 : decode cX2_record 12 = .ok (.aload_n 0, 1) := by decide +kernel
theorem dX2_record_13 : decode cX2_record 13 = .ok (.aload_n 0, 1) := by decide +kernel
theorem dX2_record_14 : decode cX2_record 14 = .ok (.getfield 20, 3) := by decide +kernel
theorem dX2_record_17 : decode cX2_record 17 = .ok (.iconst 1, 1) := by decide +kernel
theorem dX2_record_18 : decode cX2_record 18 = .ok (.iadd, 1) := by decide +kernel
theorem dX2_record_19 : decode cX2_record 19 = .ok (.bipush 8, 2) := by decide +kernel
theorem dX2_record_21 : decode cX2_record 21 = .ok (.irem, 1) := by decide +kernel
theorem dX2_record_22 : decode cX2_record 22 = .ok (.putfield 20, 3) := by decide +kernel
theorem dX2_record_25 : decode cX2_record 25 = .ok (.aload_n 0, 1) := by decide +kernel
theorem dX2_record_26 : decode cX2_record 26 = .ok (.aload_n 0, 1) := by decide +kernel
theorem dX2_record_27 : decode cX2_record 27 = .ok (.getfield 24, 3) := by decide +kernel
theorem dX2_record_30 : decode cX2_record 30 = .ok (.iconst 1, 1) := by decide +kernel
theorem dX2_record_31 : decode cX2_record 31 = .ok (.iadd, 1) := by decide +kernel
theorem dX2_record_32 : decode cX2_record 32 = .ok (.bipush 8, 2) := by decide +kernel
theorem dX2_record_34 : decode cX2_record 34 = .ok (.invokestatic 31, 3) := by decide +kernel
theorem dX2_record_37 : decode cX2_record 37 = .ok (.putfield 24, 3) := by decide +kernel
theorem dX2_record_40 : decode cX2_record 40 = .ok (.return_, 1) := by decide +kernel
set_option maxRecDepth 20000 in
theorem ggX2_takeBack_X3_fetch : GoodIn wsX2_takeBack wsX3_fetch := goodIn_r _ [8, 9, 10, 11, 12, 13, 17, 18, 19, 20, 21, 22, 23, 24, 25] (by decide +kernel) (by decide +kernel)
set_option maxRecDepth 20000 in
theorem gX2_takeBack_X3_fetch : GoodIn wsX2_takeBack (wsV RX2 37 RX3 yX3_fetch wsX3_fetch) := goodIn_app (goodIn_of _ (by decide +kernel)) ggX2_takeBack_X3_fetch
theorem dX2_takeBack_0 : decode cX2_takeBack 0 = .ok (.aload_n 0, 1) := by decide +kernel
theorem dX2_takeBack_1 : decode cX2_takeBack 1 = .ok (.getfield 24, 3) := by decide +kernel
theorem dX2_takeBack_4 : decode cX2_takeBack 4 = .ok (.ifCond .ne 5, 3) := by decide +kernel
theorem dX2_takeBack_7 : decode cX2_takeBack 7 = .ok (.iconst 0, 1) := by decide +kernel
theorem dX2_takeBack_8 : decode cX2_takeBack 8 = .ok (.ireturn, 1) := by decide +kernel
theorem dX2_takeBack_9 : decode cX2_takeBack 9 = .ok (.aload_n 0, 1) := by decide +kernel
theorem dX2_takeBack_10 : decode cX2_takeBack 10 = .ok (.aload_n 0, 1) := by decide +kernel
theorem dX2_takeBack_11 : decode cX2_takeBack 11 = .ok (.getfield 20, 3) := by decide +kernel
theorem dX2_takeBack_14 : decode cX2_takeBack 14 = .ok (.bipush 8, 2) := by decide +kernel
theorem dX2_takeBack_16 : decode cX2_takeBack 16 = .ok (.iadd, 1) := by decide +kernel
theorem dX2_takeBack_17 : decode cX2_takeBack 17 = .ok (.iconst 1, 1) := by decide +kernel
theorem dX2_takeBack_18 : decode cX2_takeBack 18 = .ok (.isub, 1) := by decide +kernel
theorem dX2_takeBack_19 : decode cX2_takeBack 19 = .ok (.bipush 8, 2) := by decide +kernel
theorem dX2_takeBack_21 : decode cX2_takeBack 21 = .ok (.irem, 1) := by decide +kernel
theorem dX2_takeBack_22 : decode cX2_takeBack 22 = .ok (.putfield 20, 3) := by decide +kernel
theorem dX2_takeBack_25 : decode cX2_takeBack 25 = .ok (.aload_n 0, 1) := by decide +kernel
theorem dX2_takeBack_26 : decode cX2_takeBack 26 = .ok (.dup, 1) := by decide +kernel
theorem dX2_takeBack_27 : decode cX2_takeBack 27 = .ok (.getfield 24, 3) := by decide +kernel
theorem dX2_takeBack_30 : decode cX2_takeBack 30 = .ok (.iconst 1, 1) := by decide +kernel
theorem dX2_takeBack_31 : decode cX2_takeBack 31 = .ok (.isub, 1) := by decide +kernel
theorem dX2_takeBack_32 : decode cX2_takeBack 32 = .ok (.putfield 24, 3) := by decide +kernel
theorem dX2_takeBack_35 : decode cX2_takeBack 35 = .ok (.aload_n 0, 1) := by decide +kernel
theorem dX2_takeBack_36 : decode cX2_takeBack 36 = .ok (.getfield 14, 3) := by decide +kernel
theorem dX2_takeBack_39 : decode cX2_takeBack 39 = .ok (.aload_n 0, 1) := by decide +kernel
theorem dX2_takeBack_40 : decode cX2_takeBack 40 = .ok (.getfield 20, 3) := by decide +kernel
theorem dX2_takeBack_43 : decode cX2_takeBack 43 = .ok (.aload_n 1, 1) := by decide +kernel
theorem dX2_takeBack_44 : decode cX2_takeBack 44 = .ok (.invokevirtual 37, 3) := by decide +kernel
theorem dX2_takeBack_47 : decode cX2_takeBack 47 = .ok (.iconst 1, 1) := by decide +kernel
theorem dX2_takeBack_48 : decode cX2_takeBack 48 = .ok (.ireturn, 1) := by decide +kernel
theorem dX2_empty_0 : decode cX2_empty 0 = .ok (.aload_n 0, 1) := by decide +kernel
theorem dX2_empty_1 : decode cX2_empty 1 = .ok (.iconst 0, 1) := by decide +kernel
theorem dX2_empty_2 : decode cX2_empty 2 = .ok (.putfield 24, 3) := by decide +kernel
theorem dX2_empty_5 : decode cX2_empty 5 = .ok (.return_, 1) := by decide +kernel
theorem dX2_size_0 : decode cX2_size 0 = .ok (.aload_n 0, 1) := by decide +kernel
theorem dX2_size_1 : decode cX2_size 1 = .ok (.getfield 24, 3) := by decide +kernel
theorem dX2_size_4 : decode cX2_size 4 = .ok (.ireturn, 1) := by decide +kernel
theorem dX3_init_0 : decode cX3_init 0 = .ok (.aload_n 0, 1) := by decide +kernel
theorem dX3_init_1 : decode cX3_init 1 = .ok (.invokespecial 3, 3) := by decide +kernel
theorem dX3_init_4 : decode cX3_init 4 = .ok (.aload_n 0, 1) := by decide +kernel
theorem dX3_init_5 : decode cX3_init 5 = .ok (.iload_n 1, 1) := by decide +kernel
theorem dX3_init_6 : decode cX3_init 6 = .ok (.iconst 0, 1) := by decide +kernel
theorem dX3_init_7 : decode cX3_init 7 = .ok (.invokestatic 9, 3) := by decide +kernel
theorem dX3_init_10 : decode cX3_init 10 = .ok (.putfield 15, 3) := by decide +kernel
theorem dX3_init_13 : decode cX3_init 13 = .ok (.aload_n 0, 1) := by decide +kernel
theorem dX3_init_14 : decode cX3_init 14 = .ok (.aload_n 0, 1) := by decide +kernel
theorem dX3_init_15 : decode cX3_init 15 = .ok (.getfield 15, 3) := by decide +kernel
theorem dX3_init_18 : decode cX3_init 18 = .ok (.bipush 6, 2) := by decide +kernel
theorem dX3_init_20 : decode cX3_init 20 = .ok (.imul, 1) := by decide +kernel
theorem dX3_init_21 : decode cX3_init 21 = .ok (.newarray .int, 2) := by decide +kernel
theorem dX3_init_23 : decode cX3_init 23 = .ok (.putfield 21, 3) := by decide +kernel
theorem dX3_init_26 : decode cX3_init 26 = .ok (.aload_n 0, 1) := by decide +kernel
theorem dX3_init_27 : decode cX3_init 27 = .ok (.aload_n 0, 1) := by decide +kernel
theorem dX3_init_28 : decode cX3_init 28 = .ok (.getfield 15, 3) := by decide +kernel
theorem dX3_init_31 : decode cX3_init 31 = .ok (.bipush 6, 2) := by decide +kernel
theorem dX3_init_33 : decode cX3_init 33 = .ok (.imul, 1) := by decide +kernel
theorem dX3_init_34 : decode cX3_init 34 = .ok (.newarray .long, 2) := by decide +kernel
theorem dX3_init_36 : decode cX3_init 36 = .ok (.putfield 25, 3) := by decide +kernel
theorem dX3_init_39 : decode cX3_init 39 = .ok (.aload_n 0, 1) := by decide +kernel
theorem dX3_init_40 : decode cX3_init 40 = .ok (.aload_n 0, 1) := by decide +kernel
theorem dX3_init_41 : decode cX3_init 41 = .ok (.getfield 15, 3) := by decide +kernel
theorem dX3_init_44 : decode cX3_init 44 = .ok (.newarray .int, 2) := by decide +kernel
theorem dX3_init_46 : decode cX3_init 46 = .ok (.putfield 29, 3) := by decide +kernel
theorem dX3_init_49 : decode cX3_init 49 = .ok (.aload_n 0, 1) := by decide +kernel
theorem dX3_init_50 : decode cX3_init 50 = .ok (.aload_n 0, 1) := by decide +kernel
theorem dX3_init_51 : decode cX3_init 51 = .ok (.getfield 15, 3) := by decide +kernel
theorem dX3_init_54 : decode cX3_init 54 = .ok (.newarray .int, 2) := by decide +kernel
theorem dX3_init_56 : decode cX3_init 56 = .ok (.putfield 32, 3) := by decide +kernel
theorem dX3_init_59 : decode cX3_init 59 = .ok (.return_, 1) := by decide +kernel
theorem dX3_put_0 : decode cX3_put 0 = .ok (.iload_n 1, 1) := by decide +kernel
theorem dX3_put_1 : decode cX3_put 1 = .ok (.ifCond .lt 11, 3) := by decide +kernel
theorem dX3_put_4 : decode cX3_put 4 = .ok (.iload_n 1, 1) := by decide +kernel
theorem dX3_put_5 : decode cX3_put 5 = .ok (.aload_n 0, 1) := by decide +kernel
theorem dX3_put_6 : decode cX3_put 6 = .ok (.getfield 15, 3) := by decide +kernel
theorem dX3_put_9 : decode cX3_put 9 = .ok (.if_icmp .lt 4, 3) := by decide +kernel
theorem dX3_put_12 : decode cX3_put 12 = .ok (.return_, 1) := by decide +kernel
theorem dX3_put_13 : decode cX3_put 13 = .ok (.iload_n 1, 1) := by decide +kernel
theorem dX3_put_14 : decode cX3_put 14 = .ok (.bipush 6, 2) := by decide +kernel
theorem dX3_put_16 : decode cX3_put 16 = .ok (.imul, 1) := by decide +kernel
theorem dX3_put_17 : decode cX3_put 17 = .ok (.istore_n 3, 1) := by decide +kernel
theorem dX3_put_18 : decode cX3_put 18 = .ok (.iconst 0, 1) := by decide +kernel
theorem dX3_put_19 : decode cX3_put 19 = .ok (.istore 4, 2) := by decide +kernel
theorem dX3_put_21 : decode cX3_put 21 = .ok (.iload 4, 2) := by decide +kernel
theorem dX3_put_23 : decode cX3_put 23 = .ok (.bipush 6, 2) := by decide +kernel
theorem dX3_put_25 : decode cX3_put 25 = .ok (.if_icmp .ge 41, 3) := by decide +kernel
theorem dX3_put_28 : decode cX3_put 28 = .ok (.aload_n 0, 1) := by decide +kernel
theorem dX3_put_29 : decode cX3_put 29 = .ok (.getfield 21, 3) := by decide +kernel
theorem dX3_put_32 : decode cX3_put 32 = .ok (.iload_n 3, 1) := by decide +kernel
theorem dX3_put_33 : decode cX3_put 33 = .ok (.iload 4, 2) := by decide +kernel
theorem dX3_put_35 : decode cX3_put 35 = .ok (.iadd, 1) := by decide +kernel
theorem dX3_put_36 : decode cX3_put 36 = .ok (.aload_n 2, 1) := by decide +kernel
theorem dX3_put_37 : decode cX3_put 37 = .ok (.getfield 35, 3) := by decide +kernel
theorem dX3_put_40 : decode cX3_put 40 = .ok (.iload 4, 2) := by decide +kernel
theorem dX3_put_42 : decode cX3_put 42 = .ok (.iaload, 1) := by decide +kernel
theorem dX3_put_43 : decode cX3_put 43 = .ok (.iastore, 1) := by decide +kernel
theorem dX3_put_44 : decode cX3_put 44 = .ok (.aload_n 0, 1) := by decide +kernel
theorem dX3_put_45 : decode cX3_put 45 = .ok (.getfield 25, 3) := by decide +kernel
theorem dX3_put_48 : decode cX3_put 48 = .ok (.iload_n 3, 1) := by decide +kernel
theorem dX3_put_49 : decode cX3_put 49 = .ok (.iload 4, 2) := by decide +kernel
theorem dX3_put_51 : decode cX3_put 51 = .ok (.iadd, 1) := by decide +kernel
theorem dX3_put_52 : decode cX3_put 52 = .ok (.aload_n 2, 1) := by decide +kernel
theorem dX3_put_53 : decode cX3_put 53 = .ok (.getfield 38, 3) := by decide +kernel
theorem dX3_put_56 : decode cX3_put 56 = .ok (.iload 4, 2) := by decide +kernel
theorem dX3_put_58 : decode cX3_put 58 = .ok (.laload, 1) := by decide +kernel
theorem dX3_put_59 : decode cX3_put 59 = .ok (.lastore, 1) := by decide +kernel
theorem dX3_put_60 : decode cX3_put 60 = .ok (.iinc 4 1, 3) := by decide +kernel
theorem dX3_put_63 : decode cX3_put 63 = .ok (.goto (-42), 3) := by decide +kernel
theorem dX3_put_66 : decode cX3_put 66 = .ok (.aload_n 0, 1) := by decide +kernel
theorem dX3_put_67 : decode cX3_put 67 = .ok (.getfield 29, 3) := by decide +kernel
theorem dX3_put_70 : decode cX3_put 70 = .ok (.iload_n 1, 1) := by decide +kernel
theorem dX3_put_71 : decode cX3_put 71 = .ok (.aload_n 2, 1) := by decide +kernel
theorem dX3_put_72 : decode cX3_put 72 = .ok (.getfield 39, 3) := by decide +kernel
theorem dX3_put_75 : decode cX3_put 75 = .ok (.iastore, 1) := by decide +kernel
theorem dX3_put_76 : decode cX3_put 76 = .ok (.aload_n 0, 1) := by decide +kernel
theorem dX3_put_77 : decode cX3_put 77 = .ok (.getfield 32, 3) := by decide +kernel
theorem dX3_put_80 : decode cX3_put 80 = .ok (.iload_n 1, 1) := by decide +kernel
theorem dX3_put_81 : decode cX3_put 81 = .ok (.aload_n 2, 1) := by decide +kernel
theorem dX3_put_82 : decode cX3_put 82 = .ok (.getfield 41, 3) := by decide +kernel
theorem dX3_put_85 : decode cX3_put 85 = .ok (.iastore, 1) := by decide +kernel
theorem dX3_put_86 : decode cX3_put 86 = .ok (.return_, 1) := by decide +kernel
theorem dX3_fetch_0 : decode cX3_fetch 0 = .ok (.iload_n 1, 1) := by decide +kernel
theorem dX3_fetch_1 : decode cX3_fetch 1 = .ok (.ifCond .lt 11, 3) := by decide +kernel
theorem dX3_fetch_4 : decode cX3_fetch 4 = .ok (.iload_n 1, 1) := by decide +kernel
theorem dX3_fetch_5 : decode cX3_fetch 5 = .ok (.aload_n 0, 1) := by decide +kernel
theorem dX3_fetch_6 : decode cX3_fetch 6 = .ok (.getfield 15, 3) := by decide +kernel
theorem dX3_fetch_9 : decode cX3_fetch 9 = .ok (.if_icmp .lt 4, 3) := by decide +kernel
theorem dX3_fetch_12 : decode cX3_fetch 12 = .ok (.return_, 1) := by decide +kernel
theorem dX3_fetch_13 : decode cX3_fetch 13 = .ok (.iload_n 1, 1) := by decide +kernel
theorem dX3_fetch_14 : decode cX3_fetch 14 = .ok (.bipush 6, 2) := by decide +kernel
theorem dX3_fetch_16 : decode cX3_fetch 16 = .ok (.imul, 1) := by decide +kernel
theorem dX3_fetch_17 : decode cX3_fetch 17 = .ok (.istore_n 3, 1) := by decide +kernel
theorem dX3_fetch_18 : decode cX3_fetch 18 = .ok (.iconst 0, 1) := by decide +kernel
theorem dX3_fetch_19 : decode cX3_fetch 19 = .ok (.istore 4, 2) := by decide +kernel
theorem dX3_fetch_21 : decode cX3_fetch 21 = .ok (.iload 4, 2) := by decide +kernel
theorem dX3_fetch_23 : decode cX3_fetch 23 = .ok (.bipush 6, 2) := by decide +kernel
theorem dX3_fetch_25 : decode cX3_fetch 25 = .ok (.if_icmp .ge 41, 3) := by decide +kernel
theorem dX3_fetch_28 : decode cX3_fetch 28 = .ok (.aload_n 2, 1) := by decide +kernel
theorem dX3_fetch_29 : decode cX3_fetch 29 = .ok (.getfield 35, 3) := by decide +kernel
theorem dX3_fetch_32 : decode cX3_fetch 32 = .ok (.iload 4, 2) := by decide +kernel
theorem dX3_fetch_34 : decode cX3_fetch 34 = .ok (.aload_n 0, 1) := by decide +kernel
theorem dX3_fetch_35 : decode cX3_fetch 35 = .ok (.getfield 21, 3) := by decide +kernel
theorem dX3_fetch_38 : decode cX3_fetch 38 = .ok (.iload_n 3, 1) := by decide +kernel
theorem dX3_fetch_39 : decode cX3_fetch 39 = .ok (.iload 4, 2) := by decide +kernel
theorem dX3_fetch_41 : decode cX3_fetch 41 = .ok (.iadd, 1) := by decide +kernel
theorem dX3_fetch_42 : decode cX3_fetch 42 = .ok (.iaload, 1) := by decide +kernel
theorem dX3_fetch_43 : decode cX3_fetch 43 = .ok (.iastore, 1) := by decide +kernel
theorem dX3_fetch_44 : decode cX3_fetch 44 = .ok (.aload_n 2, 1) := by decide +kernel
theorem dX3_fetch_45 : decode cX3_fetch 45 = .ok (.getfield 38, 3) := by decide +kernel
theorem dX3_fetch_48 : decode cX3_fetch 48 = .ok (.iload 4, 2) := by decide +kernel
theorem dX3_fetch_50 : decode cX3_fetch 50 = .ok (.aload_n 0, 1) := by decide +kernel
theorem dX3_fetch_51 : decode cX3_fetch 51 = .ok (.getfield 25, 3) := by decide +kernel
theorem dX3_fetch_54 : decode cX3_fetch 54 = .ok (.iload_n 3, 1) := by decide +kernel
theorem dX3_fetch_55 : decode cX3_fetch 55 = .ok (.iload 4, 2) := by decide +kernel
theorem dX3_fetch_57 : decode cX3_fetch 57 = .ok (.iadd, 1) := by decide +kernel
theorem dX3_fetch_58 : decode cX3_fetch 58 = .ok (.laload, 1) := by decide +kernel
theorem dX3_fetch_59 : decode cX3_fetch 59 = .ok (.lastore, 1) := by decide +kernel
theorem dX3_fetch_60 : decode cX3_fetch 60 = .ok (.iinc 4 1, 3) := by decide +kernel
theorem dX3_fetch_63 : decode cX3_fetch 63 = .ok (.goto (-42), 3) := by decide +kernel
theorem dX3_fetch_66 : decode cX3_fetch 66 = .ok (.aload_n 2, 1) := by decide +kernel
theorem dX3_fetch_67 : decode cX3_fetch 67 = .ok (.aload_n 0, 1) := by decide +kernel
theorem dX3_fetch_68 : decode cX3_fetch 68 = .ok (.getfield 29, 3) := by decide +kernel
theorem dX3_fetch_71 : decode cX3_fetch 71 = .ok (.iload_n 1, 1) := by decide +kernel
theorem dX3_fetch_72 : decode cX3_fetch 72 = .ok (.iaload, 1) := by decide +kernel
theorem dX3_fetch_73 : decode cX3_fetch 73 = .ok (.putfield 39, 3) := by decide +kernel
theorem dX3_fetch_76 : decode cX3_fetch 76 = .ok (.aload_n 2, 1) := by decide +kernel
theorem dX3_fetch_77 : decode cX3_fetch 77 = .ok (.aload_n 0, 1) := by decide +kernel
theorem dX3_fetch_78 : decode cX3_fetch 78 = .ok (.getfield 32, 3) := by decide +kernel
theorem dX3_fetch_81 : decode cX3_fetch 81 = .ok (.iload_n 1, 1) := by decide +kernel
theorem dX3_fetch_82 : decode cX3_fetch 82 = .ok (.iaload, 1) := by decide +kernel
theorem dX3_fetch_83 : decode cX3_fetch 83 = .ok (.putfield 41, 3) := by decide +kernel
theorem dX3_fetch_86 : decode cX3_fetch 86 = .ok (.return_, 1) := by decide +kernel
theorem dX4_init_0 : decode cX4_init 0 = .ok (.aload_n 0, 1) := by decide +kernel
theorem dX4_init_1 : decode cX4_init 1 = .ok (.invokespecial 3, 3) := by decide +kernel
theorem dX4_init_4 : decode cX4_init 4 = .ok (.aload_n 0, 1) := by decide +kernel
theorem dX4_init_5 : decode cX4_init 5 = .ok (.bipush 6, 2) := by decide +kernel
theorem dX4_init_7 : decode cX4_init 7 = .ok (.newarray .int, 2) := by decide +kernel
theorem dX4_init_9 : decode cX4_init 9 = .ok (.putfield 9, 3) := by decide +kernel
theorem dX4_init_12 : decode cX4_init 12 = .ok (.aload_n 0, 1) := by decide +kernel
theorem dX4_init_13 : decode cX4_init 13 = .ok (.bipush 6, 2) := by decide +kernel
theorem dX4_init_15 : decode cX4_init 15 = .ok (.newarray .int, 2) := by decide +kernel
theorem dX4_init_17 : decode cX4_init 17 = .ok (.putfield 15, 3) := by decide +kernel
theorem dX4_init_20 : decode cX4_init 20 = .ok (.aload_n 0, 1) := by decide +kernel
theorem dX4_init_21 : decode cX4_init 21 = .ok (.iconst 0, 1) := by decide +kernel
theorem dX4_init_22 : decode cX4_init 22 = .ok (.putfield 18, 3) := by decide +kernel
theorem dX4_init_25 : decode cX4_init 25 = .ok (.return_, 1) := by decide +kernel
theorem dX4_add_0 : decode cX4_add 0 = .ok (.aload_n 0, 1) := by decide +kernel
theorem dX4_add_1 : decode cX4_add 1 = .ok (.getfield 18, 3) := by decide +kernel
theorem dX4_add_4 : decode cX4_add 4 = .ok (.ifCond .lt 12, 3) := by decide +kernel
theorem dX4_add_7 : decode cX4_add 7 = .ok (.aload_n 0, 1) := by decide +kernel
theorem dX4_add_8 : decode cX4_add 8 = .ok (.getfield 18, 3) := by decide +kernel
theorem dX4_add_11 : decode cX4_add 11 = .ok (.bipush 6, 2) := by decide +kernel
theorem dX4_add_13 : decode cX4_add 13 = .ok (.if_icmp .lt 5, 3) := by decide +kernel
theorem dX4_add_16 : decode cX4_add 16 = .ok (.iconst 0, 1) := by decide +kernel
theorem dX4_add_17 : decode cX4_add 17 = .ok (.ireturn, 1) := by decide +kernel
theorem dX4_add_18 : decode cX4_add 18 = .ok (.aload_n 0, 1) := by decide +kernel
theorem dX4_add_19 : decode cX4_add 19 = .ok (.getfield 9, 3) := by decide +kernel
theorem dX4_add_22 : decode cX4_add 22 = .ok (.aload_n 0, 1) := by decide +kernel
theorem dX4_add_23 : decode cX4_add 23 = .ok (.getfield 18, 3) := by decide +kernel
theorem dX4_add_26 : decode cX4_add 26 = .ok (.iload_n 1, 1) := by decide +kernel
theorem dX4_add_27 : decode cX4_add 27 = .ok (.iastore, 1) := by decide +kernel
theorem dX4_add_28 : decode cX4_add 28 = .ok (.aload_n 0, 1) := by decide +kernel
theorem dX4_add_29 : decode cX4_add 29 = .ok (.getfield 15, 3) := by decide +kernel
theorem dX4_add_32 : decode cX4_add 32 = .ok (.aload_n 0, 1) := by decide +kernel
theorem dX4_add_33 : decode cX4_add 33 = .ok (.getfield 18, 3) := by decide +kernel
theorem dX4_add_36 : decode cX4_add 36 = .ok (.iload_n 2, 1) := by decide +kernel
theorem dX4_add_37 : decode cX4_add 37 = .ok (.iastore, 1) := by decide +kernel
theorem dX4_add_38 : decode cX4_add 38 = .ok (.aload_n 0, 1) := by decide +kernel
theorem dX4_add_39 : decode cX4_add 39 = .ok (.dup, 1) := by decide +kernel
theorem dX4_add_40 : decode cX4_add 40 = .ok (.getfield 18, 3) := by decide +kernel
theorem dX4_add_43 : decode cX4_add 43 = .ok (.iconst 1, 1) := by decide +kernel
theorem dX4_add_44 : decode cX4_add 44 = .ok (.iadd, 1) := by decide +kernel
theorem dX4_add_45 : decode cX4_add 45 = .ok (.putfield 18, 3) := by decide +kernel
theorem dX4_add_48 : decode cX4_add 48 = .ok (.iconst 1, 1) := by decide +kernel
theorem dX4_add_49 : decode cX4_add 49 = .ok (.ireturn, 1) := by decide +kernel
theorem dX4_empty_0 : decode cX4_empty 0 = .ok (.aload_n 0, 1) := by decide +kernel
theorem dX4_empty_1 : decode cX4_empty 1 = .ok (.iconst 0, 1) := by decide +kernel
theorem dX4_empty_2 : decode cX4_empty 2 = .ok (.putfield 18, 3) := by decide +kernel
theorem dX4_empty_5 : decode cX4_empty 5 = .ok (.return_, 1) := by decide +kernel
theorem dX4_size_0 : decode cX4_size 0 = .ok (.aload_n 0, 1) := by decide +kernel
theorem dX4_size_1 : decode cX4_size 1 = .ok (.getfield 18, 3) := by decide +kernel
theorem dX4_size_4 : decode cX4_size 4 = .ok (.ireturn, 1) := by decide +kernel
set_option maxRecDepth 20000 in
theorem ggX4_fit_X1_fine : GoodIn wsX4_fit wsX1_fine := goodIn_r _ [8, 9, 10, 11, 7, 12, 13, 14, 15, 16, 17, 18, 19, 20, 21, 22, 23, 24, 25, 26, 27, 28, 29, 30, 31, 32, 33, 34, 35, 36, 37, 38, 39, 40, 41, 42, 43, 44, 45, 46, 47, 48, 49, 50, 51, 52, 53, 54, 55, 56, 57, 58, 59, 60, 61, 62, 63, 64, 65, 66, 67, 68, 69, 70, 71, 72, 73, 74, 75, 76, 77, 78, 79, 80, 81, 82, 83, 84, 85, 89, 90, 91, 92, 93, 94, 95, 96, 97, 98, 99, 100, 101, 102] (by decide +kernel) (by decide +kernel)
set_option maxRecDepth 20000 in
theorem gX4_fit_X1_fine : GoodIn wsX4_fit (wsV RX4 22 RX1 yX1_fine wsX1_fine) := goodIn_app (goodIn_of _ (by decide +kernel)) ggX4_fit_X1_fine
theorem dX4_fit_0 : decode cX4_fit 0 = .ok (.iconst 0, 1) := by decide +kernel
theorem dX4_fit_1 : decode cX4_fit 1 = .ok (.istore_n 3, 1) := by decide +kernel
theorem dX4_fit_2 : decode cX4_fit 2 = .ok (.iload_n 3, 1) := by decide +kernel
theorem dX4_fit_3 : decode cX4_fit 3 = .ok (.aload_n 0, 1) := by decide +kernel
theorem dX4_fit_4 : decode cX4_fit 4 = .ok (.getfield 18, 3) := by decide +kernel
theorem dX4_fit_7 : decode cX4_fit 7 = .ok (.if_icmp .ge 37, 3) := by decide +kernel
theorem dX4_fit_10 : decode cX4_fit 10 = .ok (.iload_n 3, 1) := by decide +kernel
theorem dX4_fit_11 : decode cX4_fit 11 = .ok (.bipush 6, 2) := by decide +kernel
theorem dX4_fit_13 : decode cX4_fit 13 = .ok (.if_icmp .ge 31, 3) := by decide +kernel
theorem dX4_fit_16 : decode cX4_fit 16 = .ok (.aload_n 1, 1) := by decide +kernel
theorem dX4_fit_17 : decode cX4_fit 17 = .ok (.aload_n 0, 1) := by decide +kernel
theorem dX4_fit_18 : decode cX4_fit 18 = .ok (.getfield 9, 3) := by decide +kernel
theorem dX4_fit_21 : decode cX4_fit 21 = .ok (.iload_n 3, 1) := by decide +kernel
theorem dX4_fit_22 : decode cX4_fit 22 = .ok (.iaload, 1) := by decide +kernel
theorem dX4_fit_23 : decode cX4_fit 23 = .ok (.iload_n 2, 1) := by decide +kernel
theorem dX4_fit_24 : decode cX4_fit 24 = .ok (.invokevirtual 22, 3) := by decide +kernel
theorem dX4_fit_27 : decode cX4_fit 27 = .ok (.aload_n 0, 1) := by decide +kernel
theorem dX4_fit_28 : decode cX4_fit 28 = .ok (.getfield 15, 3) := by decide +kernel
theorem dX4_fit_31 : decode cX4_fit 31 = .ok (.iload_n 3, 1) := by decide +kernel
theorem dX4_fit_32 : decode cX4_fit 32 = .ok (.iaload, 1) := by decide +kernel
theorem dX4_fit_33 : decode cX4_fit 33 = .ok (.if_icmp .eq 5, 3) := by decide +kernel
theorem dX4_fit_36 : decode cX4_fit 36 = .ok (.iconst 0, 1) := by decide +kernel
theorem dX4_fit_37 : decode cX4_fit 37 = .ok (.ireturn, 1) := by decide +kernel
theorem dX4_fit_38 : decode cX4_fit 38 = .ok (.iinc 3 1, 3) := by decide +kernel
theorem dX4_fit_41 : decode cX4_fit 41 = .ok (.goto (-39), 3) := by decide +kernel
theorem dX4_fit_44 : decode cX4_fit 44 = .ok (.iconst 1, 1) := by decide +kernel
theorem dX4_fit_45 : decode cX4_fit 45 = .ok (.ireturn, 1) := by decide +kernel
theorem dX5_init_0 : decode cX5_init 0 = .ok (.aload_n 0, 1) := by decide +kernel
theorem dX5_init_1 : decode cX5_init 1 = .ok (.invokespecial 3, 3) := by decide +kernel
theorem dX5_init_4 : decode cX5_init 4 = .ok (.aload_n 0, 1) := by decide +kernel
theorem dX5_init_5 : decode cX5_init 5 = .ok (.sipush 160, 3) := by decide +kernel
theorem dX5_init_8 : decode cX5_init 8 = .ok (.newarray .int, 2) := by decide +kernel
theorem dX5_init_10 : decode cX5_init 10 = .ok (.putfield 9, 3) := by decide +kernel
theorem dX5_init_13 : decode cX5_init 13 = .ok (.aload_n 0, 1) := by decide +kernel
theorem dX5_init_14 : decode cX5_init 14 = .ok (.iconst 0, 1) := by decide +kernel
theorem dX5_init_15 : decode cX5_init 15 = .ok (.putfield 15, 3) := by decide +kernel
theorem dX5_init_18 : decode cX5_init 18 = .ok (.return_, 1) := by decide +kernel
theorem dX5_add_0 : decode cX5_add 0 = .ok (.aload_n 0, 1) := by decide +kernel
theorem dX5_add_1 : decode cX5_add 1 = .ok (.getfield 15, 3) := by decide +kernel
theorem dX5_add_4 : decode cX5_add 4 = .ok (.ifCond .lt 13, 3) := by decide +kernel
theorem dX5_add_7 : decode cX5_add 7 = .ok (.aload_n 0, 1) := by decide +kernel
theorem dX5_add_8 : decode cX5_add 8 = .ok (.getfield 15, 3) := by decide +kernel
theorem dX5_add_11 : decode cX5_add 11 = .ok (.sipush 160, 3) := by decide +kernel
theorem dX5_add_14 : decode cX5_add 14 = .ok (.if_icmp .lt 5, 3) := by decide +kernel
theorem dX5_add_17 : decode cX5_add 17 = .ok (.iconst 0, 1) := by decide +kernel
theorem dX5_add_18 : decode cX5_add 18 = .ok (.ireturn, 1) := by decide +kernel
theorem dX5_add_19 : decode cX5_add 19 = .ok (.aload_n 0, 1) := by decide +kernel
theorem dX5_add_20 : decode cX5_add 20 = .ok (.getfield 9, 3) := by decide +kernel
theorem dX5_add_23 : decode cX5_add 23 = .ok (.aload_n 0, 1) := by decide +kernel
theorem dX5_add_24 : decode cX5_add 24 = .ok (.getfield 15, 3) := by decide +kernel
theorem dX5_add_27 : decode cX5_add 27 = .ok (.iload_n 1, 1) := by decide +kernel
theorem dX5_add_28 : decode cX5_add 28 = .ok (.iastore, 1) := by decide +kernel
theorem dX5_add_29 : decode cX5_add 29 = .ok (.aload_n 0, 1) := by decide +kernel
theorem dX5_add_30 : decode cX5_add 30 = .ok (.dup, 1) := by decide +kernel
theorem dX5_add_31 : decode cX5_add 31 = .ok (.getfield 15, 3) := by decide +kernel
theorem dX5_add_34 : decode cX5_add 34 = .ok (.iconst 1, 1) := by decide +kernel
theorem dX5_add_35 : decode cX5_add 35 = .ok (.iadd, 1) := by decide +kernel
theorem dX5_add_36 : decode cX5_add 36 = .ok (.putfield 15, 3) := by decide +kernel
theorem dX5_add_39 : decode cX5_add 39 = .ok (.iconst 1, 1) := by decide +kernel
theorem dX5_add_40 : decode cX5_add 40 = .ok (.ireturn, 1) := by decide +kernel
theorem dX5_empty_0 : decode cX5_empty 0 = .ok (.aload_n 0, 1) := by decide +kernel
theorem dX5_empty_1 : decode cX5_empty 1 = .ok (.iconst 0, 1) := by decide +kernel
theorem dX5_empty_2 : decode cX5_empty 2 = .ok (.putfield 15, 3) := by decide +kernel
theorem dX5_empty_5 : decode cX5_empty 5 = .ok (.return_, 1) := by decide +kernel
theorem dX5_size_0 : decode cX5_size 0 = .ok (.aload_n 0, 1) := by decide +kernel
theorem dX5_size_1 : decode cX5_size 1 = .ok (.getfield 15, 3) := by decide +kernel
theorem dX5_size_4 : decode cX5_size 4 = .ok (.ireturn, 1) := by decide +kernel
theorem dX5_clausesRead_0 : decode cX5_clausesRead 0 = .ok (.aload_n 0, 1) := by decide +kernel
theorem dX5_clausesRead_1 : decode cX5_clausesRead 1 = .ok (.getfield 19, 3) := by decide +kernel
theorem dX5_clausesRead_4 : decode cX5_clausesRead 4 = .ok (.ireturn, 1) := by decide +kernel
set_option maxRecDepth 20000 in
theorem ggX5_readInto_X5_readClause : GoodIn wsX5_readInto wsX5_readClause := goodIn_r _ [9, 10, 11, 12, 8, 13, 1, 3, 14, 4, 15, 16, 17, 18, 19, 20, 21, 22, 23, 24, 25, 26, 27, 28, 29, 30, 31, 32, 33, 34, 35, 36, 37, 38, 39, 40, 41, 42, 43, 44, 45, 46, 47, 48, 49, 50, 51, 52, 53, 54, 55, 56, 57, 58, 59, 60, 61, 62, 63, 64, 65, 66, 67, 68, 69, 70, 71, 72, 73, 74, 75, 76, 77, 78, 79, 80, 81, 82, 83, 84, 85, 86, 87, 88, 89, 90, 91, 92, 93, 94, 95, 96, 97, 98, 99, 100, 101, 102, 103, 104, 105, 106, 107, 108, 109, 110, 111, 112, 113, 114, 115, 116, 117, 118, 119, 120, 121, 122, 129, 130, 131, 132, 133, 134, 135, 123, 124, 125, 126, 127, 128] (by decide +kernel) (by decide +kernel)
set_option maxRecDepth 20000 in
theorem gX5_readInto_X5_readClause : GoodIn wsX5_readInto (wsV RX5 25 RX5 yX5_readClause wsX5_readClause) := goodIn_app (goodIn_of _ (by decide +kernel)) ggX5_readInto_X5_readClause
set_option maxRecDepth 20000 in
theorem ggX5_readInto_X5_step : GoodIn wsX5_readInto wsX5_step := goodIn_r _ [13, 1, 3, 14, 4, 15, 16, 17, 8, 18, 19, 20, 21, 22, 123, 124, 125, 126, 127, 128] (by decide +kernel) (by decide +kernel)
set_option maxRecDepth 20000 in
theorem gX5_readInto_X5_step : GoodIn wsX5_readInto (wsV RX5 32 RX5 yX5_step wsX5_step) := goodIn_app (goodIn_of _ (by decide +kernel)) ggX5_readInto_X5_step
set_option maxRecDepth 20000 in
theorem ggX5_readInto_X5_letterAt : GoodIn wsX5_readInto wsX5_letterAt := goodIn_r _ [18, 14, 19, 123, 124, 125, 126, 127, 128] (by decide +kernel) (by decide +kernel)
set_option maxRecDepth 20000 in
theorem gX5_readInto_X5_letterAt : GoodIn wsX5_readInto (wsV RX5 38 RX5 yX5_letterAt wsX5_letterAt) := goodIn_app (goodIn_of _ (by decide +kernel)) ggX5_readInto_X5_letterAt
theorem dX5_readInto_0 : decode cX5_readInto 0 = .ok (.aload_n 0, 1) := by decide +kernel
theorem dX5_readInto_1 : decode cX5_readInto 1 = .ok (.iconst 0, 1) := by decide +kernel
theorem dX5_readInto_2 : decode cX5_readInto 2 = .ok (.putfield 22, 3) := by decide +kernel
theorem dX5_readInto_5 : decode cX5_readInto 5 = .ok (.aload_n 0, 1) := by decide +kernel
theorem dX5_readInto_6 : decode cX5_readInto 6 = .ok (.iconst 0, 1) := by decide +kernel
theorem dX5_readInto_7 : decode cX5_readInto 7 = .ok (.putfield 19, 3) := by decide +kernel
theorem dX5_readInto_10 : decode cX5_readInto 10 = .ok (.iconst 0, 1) := by decide +kernel
theorem dX5_readInto_11 : decode cX5_readInto 11 = .ok (.istore_n 2, 1) := by decide +kernel
theorem dX5_readInto_12 : decode cX5_readInto 12 = .ok (.iload_n 2, 1) := by decide +kernel
theorem dX5_readInto_13 : decode cX5_readInto 13 = .ok (.bipush 14, 2) := by decide +kernel
theorem dX5_readInto_15 : decode cX5_readInto 15 = .ok (.if_icmp .ge 60, 3) := by decide +kernel
theorem dX5_readInto_18 : decode cX5_readInto 18 = .ok (.aload_n 0, 1) := by decide +kernel
theorem dX5_readInto_19 : decode cX5_readInto 19 = .ok (.aload_n 1, 1) := by decide +kernel
theorem dX5_readInto_20 : decode cX5_readInto 20 = .ok (.invokevirtual 25, 3) := by decide +kernel
theorem dX5_readInto_23 : decode cX5_readInto 23 = .ok (.ifCond .ne 8, 3) := by decide +kernel
theorem dX5_readInto_26 : decode cX5_readInto 26 = .ok (.aload_n 0, 1) := by decide +kernel
theorem dX5_readInto_27 : decode cX5_readInto 27 = .ok (.getfield 29, 3) := by decide +kernel
theorem dX5_readInto_30 : decode cX5_readInto 30 = .ok (.ireturn, 1) := by decide +kernel
theorem dX5_readInto_31 : decode cX5_readInto 31 = .ok (.aload_n 0, 1) := by decide +kernel
theorem dX5_readInto_32 : decode cX5_readInto 32 = .ok (.iload_n 2, 1) := by decide +kernel
theorem dX5_readInto_33 : decode cX5_readInto 33 = .ok (.iconst 1, 1) := by decide +kernel
theorem dX5_readInto_34 : decode cX5_readInto 34 = .ok (.iadd, 1) := by decide +kernel
theorem dX5_readInto_35 : decode cX5_readInto 35 = .ok (.putfield 19, 3) := by decide +kernel
theorem dX5_readInto_38 : decode cX5_readInto 38 = .ok (.aload_n 0, 1) := by decide +kernel
theorem dX5_readInto_39 : decode cX5_readInto 39 = .ok (.invokevirtual 32, 3) := by decide +kernel
theorem dX5_readInto_42 : decode cX5_readInto 42 = .ok (.aload_n 0, 1) := by decide +kernel
theorem dX5_readInto_43 : decode cX5_readInto 43 = .ok (.getfield 35, 3) := by decide +kernel
theorem dX5_readInto_46 : decode cX5_readInto 46 = .ok (.ifCond .ne 5, 3) := by decide +kernel
theorem dX5_readInto_49 : decode cX5_readInto 49 = .ok (.iconst (-1), 1) := by decide +kernel
theorem dX5_readInto_50 : decode cX5_readInto 50 = .ok (.ireturn, 1) := by decide +kernel
theorem dX5_readInto_51 : decode cX5_readInto 51 = .ok (.aload_n 0, 1) := by decide +kernel
theorem dX5_readInto_52 : decode cX5_readInto 52 = .ok (.aload_n 0, 1) := by decide +kernel
theorem dX5_readInto_53 : decode cX5_readInto 53 = .ok (.getfield 29, 3) := by decide +kernel
theorem dX5_readInto_56 : decode cX5_readInto 56 = .ok (.invokevirtual 38, 3) := by decide +kernel
theorem dX5_readInto_59 : decode cX5_readInto 59 = .ok (.bipush 59, 2) := by decide +kernel
theorem dX5_readInto_61 : decode cX5_readInto 61 = .ok (.if_icmp .eq 8, 3) := by decide +kernel
theorem dX5_readInto_64 : decode cX5_readInto 64 = .ok (.aload_n 0, 1) := by decide +kernel
theorem dX5_readInto_65 : decode cX5_readInto 65 = .ok (.getfield 29, 3) := by decide +kernel
theorem dX5_readInto_68 : decode cX5_readInto 68 = .ok (.ireturn, 1) := by decide +kernel
theorem dX5_readInto_69 : decode cX5_readInto 69 = .ok (.iinc 2 1, 3) := by decide +kernel
theorem dX5_readInto_72 : decode cX5_readInto 72 = .ok (.goto (-60), 3) := by decide +kernel
theorem dX5_readInto_75 : decode cX5_readInto 75 = .ok (.aload_n 0, 1) := by decide +kernel
theorem dX5_readInto_76 : decode cX5_readInto 76 = .ok (.getfield 29, 3) := by decide +kernel
theorem dX5_readInto_79 : decode cX5_readInto 79 = .ok (.ireturn, 1) := by decide +kernel
set_option maxRecDepth 20000 in
theorem ggX5_readClause_X5_step : GoodIn wsX5_readClause wsX5_step := goodIn_r _ [5, 6, 7, 8, 9, 10, 11, 12, 4, 13, 14, 15, 16, 17, 125, 126, 127, 128, 129, 130] (by decide +kernel) (by decide +kernel)
set_option maxRecDepth 20000 in
theorem gX5_readClause_X5_step : GoodIn wsX5_readClause (wsV RX5 32 RX5 yX5_step wsX5_step) := goodIn_app (goodIn_of _ (by decide +kernel)) ggX5_readClause_X5_step
set_option maxRecDepth 20000 in
theorem ggX5_readClause_X5_wordAtHand : GoodIn wsX5_readClause wsX5_wordAtHand := goodIn_r _ [21, 22, 23, 24, 4, 25, 6, 7, 26, 27, 28, 29, 30, 31, 32, 33, 34, 35, 36, 37, 10, 11, 12, 13, 8, 14, 38, 39, 40, 41, 42, 43, 44, 45, 46, 47, 48, 49, 50, 51, 52, 53, 54, 55, 56, 57, 58, 59, 60, 61, 62, 63, 64, 65, 66, 67, 68, 69, 70, 71, 72, 73, 74, 125, 126, 127, 128, 129, 130] (by decide +kernel) (by decide +kernel)
set_option maxRecDepth 20000 in
theorem gX5_readClause_X5_wordAtHand : GoodIn wsX5_readClause (wsV RX5 42 RX5 yX5_wordAtHand wsX5_wordAtHand) := goodIn_app (goodIn_of _ (by decide +kernel)) ggX5_readClause_X5_wordAtHand
set_option maxRecDepth 20000 in
theorem ggX5_readClause_X5_readPerson : GoodIn wsX5_readClause wsX5_readPerson := goodIn_r _ [78, 79, 80, 81, 82, 83, 84, 85, 86, 87, 4, 88, 9, 6, 7, 1, 2, 3, 5, 8, 10, 11, 12, 13, 14, 15, 16, 17, 89, 90, 91, 92, 93, 94, 95, 96, 97, 98, 99, 118, 119, 120, 121, 122, 123, 124, 125, 126, 127, 128, 129, 130] (by decide +kernel) (by decide +kernel)
set_option maxRecDepth 20000 in
theorem gX5_readClause_X5_readPerson : GoodIn wsX5_readClause (wsV RX5 46 RX5 yX5_readPerson wsX5_readPerson) := goodIn_app (goodIn_of _ (by decide +kernel)) ggX5_readClause_X5_readPerson
set_option maxRecDepth 20000 in
theorem ggX5_readClause_X5_readSeconds : GoodIn wsX5_readClause wsX5_readSeconds := goodIn_r _ [103, 85, 86, 87, 4, 88, 9, 6, 7, 1, 2, 3, 5, 8, 10, 11, 12, 13, 14, 15, 16, 17, 89, 90, 91, 104, 105, 106, 107, 108, 109, 82, 110, 111, 112, 118, 119, 120, 121, 122, 123, 124, 125, 126, 127, 128, 129, 130] (by decide +kernel) (by decide +kernel)
set_option maxRecDepth 20000 in
theorem gX5_readClause_X5_readSeconds : GoodIn wsX5_readClause (wsV RX5 50 RX5 yX5_readSeconds wsX5_readSeconds) := goodIn_app (goodIn_of _ (by decide +kernel)) ggX5_readClause_X5_readSeconds
set_option maxRecDepth 20000 in
theorem ggX5_readClause_X6_reset : GoodIn wsX5_readClause wsX6_reset := goodIn_r _ [116, 111, 84, 117, 118, 119, 120, 121, 122, 123, 124] (by decide +kernel) (by decide +kernel)
set_option maxRecDepth 20000 in
theorem gX5_readClause_X6_reset : GoodIn wsX5_readClause (wsV RX5 59 RX6 yX6_reset wsX6_reset) := goodIn_app (goodIn_of _ (by decide +kernel)) ggX5_readClause_X6_reset
theorem dX5_readClause_0 : decode cX5_readClause 0 = .ok (.aload_n 0, 1) := by decide +kernel
theorem dX5_readClause_1 : decode cX5_readClause 1 = .ok (.invokevirtual 32, 3) := by decide +kernel
theorem dX5_readClause_4 : decode cX5_readClause 4 = .ok (.aload_n 0, 1) := by decide +kernel
theorem dX5_readClause_5 : decode cX5_readClause 5 = .ok (.invokevirtual 42, 3) := by decide +kernel
theorem dX5_readClause_8 : decode cX5_readClause 8 = .ok (.istore_n 2, 1) := by decide +kernel
theorem dX5_readClause_9 : decode cX5_readClause 9 = .ok (.iload_n 2, 1) := by decide +kernel
theorem dX5_readClause_10 : decode cX5_readClause 10 = .ok (.tableswitch 73 0 7 #[46, 46, 46, 46, 53, 53, 60, 67], 46) := by decide +kernel
theorem dX5_readClause_56 : decode cX5_readClause 56 = .ok (.aload_n 0, 1) := by decide +kernel
theorem dX5_readClause_57 : decode cX5_readClause 57 = .ok (.aload_n 1, 1) := by decide +kernel
theorem dX5_readClause_58 : decode cX5_readClause 58 = .ok (.iload_n 2, 1) := by decide +kernel
theorem dX5_readClause_59 : decode cX5_readClause 59 = .ok (.invokevirtual 46, 3) := by decide +kernel
theorem dX5_readClause_62 : decode cX5_readClause 62 = .ok (.ireturn, 1) := by decide +kernel
theorem dX5_readClause_63 : decode cX5_readClause 63 = .ok (.aload_n 0, 1) := by decide +kernel
theorem dX5_readClause_64 : decode cX5_readClause 64 = .ok (.aload_n 1, 1) := by decide +kernel
theorem dX5_readClause_65 : decode cX5_readClause 65 = .ok (.iload_n 2, 1) := by decide +kernel
theorem dX5_readClause_66 : decode cX5_readClause 66 = .ok (.invokevirtual 50, 3) := by decide +kernel
theorem dX5_readClause_69 : decode cX5_readClause 69 = .ok (.ireturn, 1) := by decide +kernel
theorem dX5_readClause_70 : decode cX5_readClause 70 = .ok (.aload_n 1, 1) := by decide +kernel
theorem dX5_readClause_71 : decode cX5_readClause 71 = .ok (.lconst 0, 1) := by decide +kernel
theorem dX5_readClause_72 : decode cX5_readClause 72 = .ok (.putfield 53, 3) := by decide +kernel
theorem dX5_readClause_75 : decode cX5_readClause 75 = .ok (.iconst 1, 1) := by decide +kernel
theorem dX5_readClause_76 : decode cX5_readClause 76 = .ok (.ireturn, 1) := by decide +kernel
theorem dX5_readClause_77 : decode cX5_readClause 77 = .ok (.aload_n 1, 1) := by decide +kernel
theorem dX5_readClause_78 : decode cX5_readClause 78 = .ok (.invokevirtual 59, 3) := by decide +kernel
theorem dX5_readClause_81 : decode cX5_readClause 81 = .ok (.iconst 1, 1) := by decide +kernel
theorem dX5_readClause_82 : decode cX5_readClause 82 = .ok (.ireturn, 1) := by decide +kernel
theorem dX5_readClause_83 : decode cX5_readClause 83 = .ok (.iconst 0, 1) := by decide +kernel
theorem dX5_readClause_84 : decode cX5_readClause 84 = .ok (.ireturn, 1) := by decide +kernel
set_option maxRecDepth 20000 in
theorem ggX5_readPerson_X6_hasRoom : GoodIn wsX5_readPerson wsX6_hasRoom := goodIn_r _ [5, 6, 39, 40, 41, 42, 43, 44, 45] (by decide +kernel) (by decide +kernel)
set_option maxRecDepth 20000 in
theorem gX5_readPerson_X6_hasRoom : GoodIn wsX5_readPerson (wsV RX5 62 RX6 yX6_hasRoom wsX6_hasRoom) := goodIn_app (goodIn_of _ (by decide +kernel)) ggX5_readPerson_X6_hasRoom
set_option maxRecDepth 20000 in
theorem ggX5_readPerson_X5_readNumber : GoodIn wsX5_readPerson wsX5_readNumber := goodIn_r _ [11, 12, 13, 14, 15, 16, 17, 10, 18, 19, 20, 21, 22, 23, 24, 25, 26, 27, 28, 29, 30, 46, 47, 48, 49, 50, 51] (by decide +kernel) (by decide +kernel)
set_option maxRecDepth 20000 in
theorem gX5_readPerson_X5_readNumber : GoodIn wsX5_readPerson (wsV RX5 66 RX5 yX5_readNumber wsX5_readNumber) := goodIn_app (goodIn_of _ (by decide +kernel)) ggX5_readPerson_X5_readNumber
set_option maxRecDepth 20000 in
theorem ggX5_readPerson_X6_add : GoodIn wsX5_readPerson wsX6_add := goodIn_r _ [34, 6, 35, 36, 37, 38, 39, 40, 41, 42, 43, 44, 45] (by decide +kernel) (by decide +kernel)
set_option maxRecDepth 20000 in
theorem gX5_readPerson_X6_add : GoodIn wsX5_readPerson (wsV RX5 70 RX6 yX6_add wsX6_add) := goodIn_app (goodIn_of _ (by decide +kernel)) ggX5_readPerson_X6_add
theorem dX5_readPerson_0 : decode cX5_readPerson 0 = .ok (.aload_n 1, 1) := by decide +kernel
theorem dX5_readPerson_1 : decode cX5_readPerson 1 = .ok (.invokevirtual 62, 3) := by decide +kernel
theorem dX5_readPerson_4 : decode cX5_readPerson 4 = .ok (.ifCond .ne 5, 3) := by decide +kernel
theorem dX5_readPerson_7 : decode cX5_readPerson 7 = .ok (.iconst 0, 1) := by decide +kernel
theorem dX5_readPerson_8 : decode cX5_readPerson 8 = .ok (.ireturn, 1) := by decide +kernel
theorem dX5_readPerson_9 : decode cX5_readPerson 9 = .ok (.aload_n 0, 1) := by decide +kernel
theorem dX5_readPerson_10 : decode cX5_readPerson 10 = .ok (.iconst 1, 1) := by decide +kernel
theorem dX5_readPerson_11 : decode cX5_readPerson 11 = .ok (.bipush 20, 2) := by decide +kernel
theorem dX5_readPerson_13 : decode cX5_readPerson 13 = .ok (.invokevirtual 66, 3) := by decide +kernel
theorem dX5_readPerson_16 : decode cX5_readPerson 16 = .ok (.istore_n 3, 1) := by decide +kernel
theorem dX5_readPerson_17 : decode cX5_readPerson 17 = .ok (.iload_n 3, 1) := by decide +kernel
theorem dX5_readPerson_18 : decode cX5_readPerson 18 = .ok (.iconst (-1), 1) := by decide +kernel
