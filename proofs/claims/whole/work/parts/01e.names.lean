set_option maxRecDepth 20000 in
theorem ggX7_order_X1_placeInOrder : GoodIn wsX7_order wsX1_placeInOrder := goodIn_r _ [96, 97, 98, 99, 16, 100, 23, 18, 24, 25, 26, 27, 28, 29, 30, 31, 6, 32, 33, 34, 35, 36, 37, 38, 39, 40, 41, 42, 43, 44, 45, 46, 47, 48, 11, 49, 50, 51, 52, 53, 54, 55, 56, 57, 58, 59, 60, 61, 62, 63, 64, 65, 66, 67, 68, 69, 70, 71, 72, 73, 74, 75, 76, 77, 78, 79, 80, 81, 82, 83, 84, 85, 86, 87, 88, 89, 90, 91, 92, 117, 118, 119, 110, 111, 112, 113, 114, 115, 116, 120, 121, 122, 123] (by decide +kernel) (by decide +kernel)
set_option maxRecDepth 20000 in
theorem gX7_order_X1_placeInOrder : GoodIn wsX7_order (wsV RX7 216 RX1 yX1_placeInOrder wsX1_placeInOrder) := goodIn_app (goodIn_of _ (by decide +kernel)) ggX7_order_X1_placeInOrder
theorem dX7_order_0 : decode cX7_order 0 = .ok (.iload_n 1, 1) := by decide +kernel
theorem dX7_order_1 : decode cX7_order 1 = .ok (.aload_n 0, 1) := by decide +kernel
theorem dX7_order_2 : decode cX7_order 2 = .ok (.getfield 19, 3) := by decide +kernel
theorem dX7_order_5 : decode cX7_order 5 = .ok (.invokevirtual 210, 3) := by decide +kernel
theorem dX7_order_8 : decode cX7_order 8 = .ok (.iconst (-1), 1) := by decide +kernel
theorem dX7_order_9 : decode cX7_order 9 = .ok (.ixor, 1) := by decide +kernel
theorem dX7_order_10 : decode cX7_order 10 = .ok (.iand, 1) := by decide +kernel
theorem dX7_order_11 : decode cX7_order 11 = .ok (.ifCond .eq 6, 3) := by decide +kernel
theorem dX7_order_14 : decode cX7_order 14 = .ok (.bipush (-2), 2) := by decide +kernel
theorem dX7_order_16 : decode cX7_order 16 = .ok (.ireturn, 1) := by decide +kernel
theorem dX7_order_17 : decode cX7_order 17 = .ok (.iload_n 2, 1) := by decide +kernel
theorem dX7_order_18 : decode cX7_order 18 = .ok (.iconst 0, 1) := by decide +kernel
theorem dX7_order_19 : decode cX7_order 19 = .ok (.bipush 59, 2) := by decide +kernel
theorem dX7_order_21 : decode cX7_order 21 = .ok (.invokestatic 69, 3) := by decide +kernel
theorem dX7_order_24 : decode cX7_order 24 = .ok (.ifCond .eq 13, 3) := by decide +kernel
theorem dX7_order_27 : decode cX7_order 27 = .ok (.iload_n 3, 1) := by decide +kernel
theorem dX7_order_28 : decode cX7_order 28 = .ok (.iconst 0, 1) := by decide +kernel
theorem dX7_order_29 : decode cX7_order 29 = .ok (.bipush 6, 2) := by decide +kernel
theorem dX7_order_31 : decode cX7_order 31 = .ok (.invokestatic 69, 3) := by decide +kernel
theorem dX7_order_34 : decode cX7_order 34 = .ok (.ifCond .ne 6, 3) := by decide +kernel
theorem dX7_order_37 : decode cX7_order 37 = .ok (.bipush (-3), 2) := by decide +kernel
theorem dX7_order_39 : decode cX7_order 39 = .ok (.ireturn, 1) := by decide +kernel
theorem dX7_order_40 : decode cX7_order 40 = .ok (.aload_n 0, 1) := by decide +kernel
theorem dX7_order_41 : decode cX7_order 41 = .ok (.getfield 38, 3) := by decide +kernel
theorem dX7_order_44 : decode cX7_order 44 = .ok (.iload_n 1, 1) := by decide +kernel
theorem dX7_order_45 : decode cX7_order 45 = .ok (.iload_n 2, 1) := by decide +kernel
theorem dX7_order_46 : decode cX7_order 46 = .ok (.invokevirtual 213, 3) := by decide +kernel
theorem dX7_order_49 : decode cX7_order 49 = .ok (.istore 4, 2) := by decide +kernel
theorem dX7_order_51 : decode cX7_order 51 = .ok (.iload_n 3, 1) := by decide +kernel
theorem dX7_order_52 : decode cX7_order 52 = .ok (.ifCond .eq 9, 3) := by decide +kernel
theorem dX7_order_55 : decode cX7_order 55 = .ok (.iload 4, 2) := by decide +kernel
theorem dX7_order_57 : decode cX7_order 57 = .ok (.iconst (-1), 1) := by decide +kernel
theorem dX7_order_58 : decode cX7_order 58 = .ok (.if_icmp .ne 6, 3) := by decide +kernel
theorem dX7_order_61 : decode cX7_order 61 = .ok (.iload 4, 2) := by decide +kernel
theorem dX7_order_63 : decode cX7_order 63 = .ok (.ireturn, 1) := by decide +kernel
theorem dX7_order_64 : decode cX7_order 64 = .ok (.aload_n 0, 1) := by decide +kernel
theorem dX7_order_65 : decode cX7_order 65 = .ok (.getfield 38, 3) := by decide +kernel
theorem dX7_order_68 : decode cX7_order 68 = .ok (.iload_n 1, 1) := by decide +kernel
theorem dX7_order_69 : decode cX7_order 69 = .ok (.iload_n 2, 1) := by decide +kernel
theorem dX7_order_70 : decode cX7_order 70 = .ok (.iload_n 3, 1) := by decide +kernel
theorem dX7_order_71 : decode cX7_order 71 = .ok (.invokevirtual 216, 3) := by decide +kernel
theorem dX7_order_74 : decode cX7_order 74 = .ok (.ireturn, 1) := by decide +kernel
set_option maxRecDepth 20000 in
theorem ggX7_reached_X6_walkOf : GoodIn wsX7_reached wsX6_walkOf := goodIn_r _ [7, 8, 9, 24, 25, 26, 27, 28, 29, 30] (by decide +kernel) (by decide +kernel)
set_option maxRecDepth 20000 in
theorem gX7_reached_X6_walkOf : GoodIn wsX7_reached (wsV RX7 163 RX6 yX6_walkOf wsX6_walkOf) := goodIn_app (goodIn_of _ (by decide +kernel)) ggX7_reached_X6_walkOf
set_option maxRecDepth 20000 in
theorem ggX7_reached_X7_span : GoodIn wsX7_reached wsX7_span := goodIn_r _ [13, 14] (by decide +kernel) (by decide +kernel)
set_option maxRecDepth 20000 in
theorem gX7_reached_X7_span : GoodIn wsX7_reached (va_wsS RX7 223 yX7_span wsX7_span) := goodIn_app (goodIn_of _ (by decide +kernel)) ggX7_reached_X7_span
theorem dX7_reached_0 : decode cX7_reached 0 = .ok (.lconst 0, 1) := by decide +kernel
theorem dX7_reached_1 : decode cX7_reached 1 = .ok (.lstore_n 1, 1) := by decide +kernel
theorem dX7_reached_2 : decode cX7_reached 2 = .ok (.iconst 0, 1) := by decide +kernel
theorem dX7_reached_3 : decode cX7_reached 3 = .ok (.istore_n 3, 1) := by decide +kernel
theorem dX7_reached_4 : decode cX7_reached 4 = .ok (.iload_n 3, 1) := by decide +kernel
theorem dX7_reached_5 : decode cX7_reached 5 = .ok (.aload_n 0, 1) := by decide +kernel
theorem dX7_reached_6 : decode cX7_reached 6 = .ok (.getfield 19, 3) := by decide +kernel
theorem dX7_reached_9 : decode cX7_reached 9 = .ok (.getfield 220, 3) := by decide +kernel
theorem dX7_reached_12 : decode cX7_reached 12 = .ok (.if_icmp .ge 33, 3) := by decide +kernel
theorem dX7_reached_15 : decode cX7_reached 15 = .ok (.lload_n 1, 1) := by decide +kernel
theorem dX7_reached_16 : decode cX7_reached 16 = .ok (.aload_n 0, 1) := by decide +kernel
theorem dX7_reached_17 : decode cX7_reached 17 = .ok (.getfield 19, 3) := by decide +kernel
theorem dX7_reached_20 : decode cX7_reached 20 = .ok (.iload_n 3, 1) := by decide +kernel
theorem dX7_reached_21 : decode cX7_reached 21 = .ok (.invokevirtual 163, 3) := by decide +kernel
theorem dX7_reached_24 : decode cX7_reached 24 = .ok (.aload_n 0, 1) := by decide +kernel
theorem dX7_reached_25 : decode cX7_reached 25 = .ok (.getfield 29, 3) := by decide +kernel
theorem dX7_reached_28 : decode cX7_reached 28 = .ok (.getfield 135, 3) := by decide +kernel
theorem dX7_reached_31 : decode cX7_reached 31 = .ok (.iadd, 1) := by decide +kernel
theorem dX7_reached_32 : decode cX7_reached 32 = .ok (.bipush 59, 2) := by decide +kernel
theorem dX7_reached_34 : decode cX7_reached 34 = .ok (.invokestatic 223, 3) := by decide +kernel
theorem dX7_reached_37 : decode cX7_reached 37 = .ok (.lor, 1) := by decide +kernel
theorem dX7_reached_38 : decode cX7_reached 38 = .ok (.lstore_n 1, 1) := by decide +kernel
theorem dX7_reached_39 : decode cX7_reached 39 = .ok (.iinc 3 1, 3) := by decide +kernel
theorem dX7_reached_42 : decode cX7_reached 42 = .ok (.goto (-38), 3) := by decide +kernel
theorem dX7_reached_45 : decode cX7_reached 45 = .ok (.lload_n 1, 1) := by decide +kernel
theorem dX7_reached_46 : decode cX7_reached 46 = .ok (.lreturn, 1) := by decide +kernel
set_option maxRecDepth 20000 in
theorem ggX7_free_X6_knows : GoodIn wsX7_free wsX6_knows := goodIn_r _ [8, 9, 49, 50, 51, 52, 53, 54, 55] (by decide +kernel) (by decide +kernel)
set_option maxRecDepth 20000 in
theorem gX7_free_X6_knows : GoodIn wsX7_free (wsV RX7 100 RX6 yX6_knows wsX6_knows) := goodIn_app (goodIn_of _ (by decide +kernel)) ggX7_free_X6_knows
set_option maxRecDepth 20000 in
theorem ggX7_free_X1_freeFor : GoodIn wsX7_free wsX1_freeFor := goodIn_r _ [14, 15, 16, 17, 18, 19, 20, 21, 7, 22, 23, 24, 25, 26, 27, 28, 29, 30, 31, 32, 33, 13, 34, 35, 36, 37, 38, 39, 56, 57, 58, 49, 50, 51, 52, 53, 54, 55, 59, 60, 61, 62] (by decide +kernel) (by decide +kernel)
set_option maxRecDepth 20000 in
theorem gX7_free_X1_freeFor : GoodIn wsX7_free (wsV RX7 227 RX1 yX1_freeFor wsX1_freeFor) := goodIn_app (goodIn_of _ (by decide +kernel)) ggX7_free_X1_freeFor
theorem dX7_free_0 : decode cX7_free 0 = .ok (.aload_n 0, 1) := by decide +kernel
theorem dX7_free_1 : decode cX7_free 1 = .ok (.getfield 19, 3) := by decide +kernel
theorem dX7_free_4 : decode cX7_free 4 = .ok (.iload_n 1, 1) := by decide +kernel
theorem dX7_free_5 : decode cX7_free 5 = .ok (.invokevirtual 100, 3) := by decide +kernel
theorem dX7_free_8 : decode cX7_free 8 = .ok (.ifCond .eq 14, 3) := by decide +kernel
theorem dX7_free_11 : decode cX7_free 11 = .ok (.aload_n 0, 1) := by decide +kernel
theorem dX7_free_12 : decode cX7_free 12 = .ok (.getfield 38, 3) := by decide +kernel
theorem dX7_free_15 : decode cX7_free 15 = .ok (.iload_n 1, 1) := by decide +kernel
theorem dX7_free_16 : decode cX7_free 16 = .ok (.invokevirtual 227, 3) := by decide +kernel
theorem dX7_free_19 : decode cX7_free 19 = .ok (.goto 6, 3) := by decide +kernel
theorem dX7_free_22 : decode cX7_free 22 = .ok (.ldc2_w 230, 3) := by decide +kernel
theorem dX7_free_25 : decode cX7_free 25 = .ok (.lreturn, 1) := by decide +kernel
set_option maxRecDepth 20000 in
theorem ggX7_ropes_X7_isWithin : GoodIn wsX7_ropes wsX7_isWithin := goodIn_r _ [7] (by decide +kernel) (by decide +kernel)
set_option maxRecDepth 20000 in
theorem gX7_ropes_X7_isWithin : GoodIn wsX7_ropes (va_wsS RX7 69 yX7_isWithin wsX7_isWithin) := goodIn_app (goodIn_of _ (by decide +kernel)) ggX7_ropes_X7_isWithin
set_option maxRecDepth 20000 in
theorem ggX7_ropes_X1_wholeFine : GoodIn wsX7_ropes wsX1_wholeFine := goodIn_r _ [12, 13, 14, 15, 16, 17, 18, 19, 20, 21, 22, 11, 23, 24, 25, 26, 27, 28, 29, 30, 31, 32, 33, 34, 35, 36, 37, 6, 38, 39, 40, 41, 42, 43, 44, 45, 46, 47, 48, 49, 50, 51, 52, 53, 54, 55, 56, 57, 58, 59, 60, 61, 62, 63, 64, 65, 66, 67, 68, 69, 70, 71, 72, 73, 74, 75, 96, 97, 98, 92, 93, 94, 95, 85, 86, 87, 88, 89, 90, 91] (by decide +kernel) (by decide +kernel)
set_option maxRecDepth 20000 in
theorem gX7_ropes_X1_wholeFine : GoodIn wsX7_ropes (wsV RX7 232 RX1 yX1_wholeFine wsX1_wholeFine) := goodIn_app (goodIn_of _ (by decide +kernel)) ggX7_ropes_X1_wholeFine
theorem dX7_ropes_0 : decode cX7_ropes 0 = .ok (.iload_n 1, 1) := by decide +kernel
theorem dX7_ropes_1 : decode cX7_ropes 1 = .ok (.iconst 0, 1) := by decide +kernel
theorem dX7_ropes_2 : decode cX7_ropes 2 = .ok (.bipush 99, 2) := by decide +kernel
theorem dX7_ropes_4 : decode cX7_ropes 4 = .ok (.invokestatic 69, 3) := by decide +kernel
theorem dX7_ropes_7 : decode cX7_ropes 7 = .ok (.ifCond .ne 6, 3) := by decide +kernel
theorem dX7_ropes_10 : decode cX7_ropes 10 = .ok (.bipush (-3), 2) := by decide +kernel
theorem dX7_ropes_12 : decode cX7_ropes 12 = .ok (.ireturn, 1) := by decide +kernel
theorem dX7_ropes_13 : decode cX7_ropes 13 = .ok (.iconst 0, 1) := by decide +kernel
theorem dX7_ropes_14 : decode cX7_ropes 14 = .ok (.istore_n 2, 1) := by decide +kernel
theorem dX7_ropes_15 : decode cX7_ropes 15 = .ok (.iconst 0, 1) := by decide +kernel
theorem dX7_ropes_16 : decode cX7_ropes 16 = .ok (.istore_n 3, 1) := by decide +kernel
theorem dX7_ropes_17 : decode cX7_ropes 17 = .ok (.iload_n 3, 1) := by decide +kernel
theorem dX7_ropes_18 : decode cX7_ropes 18 = .ok (.aload_n 0, 1) := by decide +kernel
theorem dX7_ropes_19 : decode cX7_ropes 19 = .ok (.getfield 19, 3) := by decide +kernel
theorem dX7_ropes_22 : decode cX7_ropes 22 = .ok (.getfield 220, 3) := by decide +kernel
theorem dX7_ropes_25 : decode cX7_ropes 25 = .ok (.if_icmp .ge 48, 3) := by decide +kernel
theorem dX7_ropes_28 : decode cX7_ropes 28 = .ok (.aload_n 0, 1) := by decide +kernel
theorem dX7_ropes_29 : decode cX7_ropes 29 = .ok (.getfield 38, 3) := by decide +kernel
theorem dX7_ropes_32 : decode cX7_ropes 32 = .ok (.iload_n 3, 1) := by decide +kernel
theorem dX7_ropes_33 : decode cX7_ropes 33 = .ok (.aload_n 0, 1) := by decide +kernel
theorem dX7_ropes_34 : decode cX7_ropes 34 = .ok (.getfield 29, 3) := by decide +kernel
theorem dX7_ropes_37 : decode cX7_ropes 37 = .ok (.getfield 135, 3) := by decide +kernel
theorem dX7_ropes_40 : decode cX7_ropes 40 = .ok (.invokevirtual 232, 3) := by decide +kernel
theorem dX7_ropes_43 : decode cX7_ropes 43 = .ok (.istore 4, 2) := by decide +kernel
theorem dX7_ropes_45 : decode cX7_ropes 45 = .ok (.iload 4, 2) := by decide +kernel
theorem dX7_ropes_47 : decode cX7_ropes 47 = .ok (.iconst 2, 1) := by decide +kernel
theorem dX7_ropes_48 : decode cX7_ropes 48 = .ok (.idiv, 1) := by decide +kernel
theorem dX7_ropes_49 : decode cX7_ropes 49 = .ok (.iload_n 1, 1) := by decide +kernel
theorem dX7_ropes_50 : decode cX7_ropes 50 = .ok (.if_icmp .le 5, 3) := by decide +kernel
theorem dX7_ropes_53 : decode cX7_ropes 53 = .ok (.iconst (-1), 1) := by decide +kernel
theorem dX7_ropes_54 : decode cX7_ropes 54 = .ok (.ireturn, 1) := by decide +kernel
theorem dX7_ropes_55 : decode cX7_ropes 55 = .ok (.iload 4, 2) := by decide +kernel
theorem dX7_ropes_57 : decode cX7_ropes 57 = .ok (.iload_n 1, 1) := by decide +kernel
theorem dX7_ropes_58 : decode cX7_ropes 58 = .ok (.if_icmp .le 9, 3) := by decide +kernel
theorem dX7_ropes_61 : decode cX7_ropes 61 = .ok (.iload_n 2, 1) := by decide +kernel
theorem dX7_ropes_62 : decode cX7_ropes 62 = .ok (.iconst 1, 1) := by decide +kernel
theorem dX7_ropes_63 : decode cX7_ropes 63 = .ok (.iload_n 3, 1) := by decide +kernel
theorem dX7_ropes_64 : decode cX7_ropes 64 = .ok (.ishl, 1) := by decide +kernel
theorem dX7_ropes_65 : decode cX7_ropes 65 = .ok (.ior, 1) := by decide +kernel
theorem dX7_ropes_66 : decode cX7_ropes 66 = .ok (.istore_n 2, 1) := by decide +kernel
theorem dX7_ropes_67 : decode cX7_ropes 67 = .ok (.iinc 3 1, 3) := by decide +kernel
theorem dX7_ropes_70 : decode cX7_ropes 70 = .ok (.goto (-53), 3) := by decide +kernel
theorem dX7_ropes_73 : decode cX7_ropes 73 = .ok (.iload_n 2, 1) := by decide +kernel
theorem dX7_ropes_74 : decode cX7_ropes 74 = .ok (.ireturn, 1) := by decide +kernel
set_option maxRecDepth 20000 in
theorem ggX7_together_X7_areTwo : GoodIn wsX7_together wsX7_areTwo := goodIn_r _ [5, 6, 7, 8, 9, 10, 11, 12, 52, 53, 54, 55, 56, 57, 58, 59, 60, 61, 62, 63, 64, 65, 66, 67] (by decide +kernel) (by decide +kernel)
set_option maxRecDepth 20000 in
theorem gX7_together_X7_areTwo : GoodIn wsX7_together (wsV RX7 181 RX7 yX7_areTwo wsX7_areTwo) := goodIn_app (goodIn_of _ (by decide +kernel)) ggX7_together_X7_areTwo
set_option maxRecDepth 20000 in
theorem ggX7_together_X7_standsNow : GoodIn wsX7_together wsX7_standsNow := goodIn_r _ [16, 17, 18, 19, 20, 21, 22, 23, 24, 25, 26, 27, 28, 29, 30, 31, 32, 33, 10, 34, 35, 36, 37, 38, 39, 40, 41, 42, 4, 43, 44, 52, 53, 54, 55, 56, 57, 58, 59, 60, 68, 69, 70, 71, 72, 73, 74, 61, 62, 63, 64, 65, 66, 67] (by decide +kernel) (by decide +kernel)
set_option maxRecDepth 20000 in
theorem gX7_together_X7_standsNow : GoodIn wsX7_together (wsV RX7 125 RX7 yX7_standsNow wsX7_standsNow) := goodIn_app (goodIn_of _ (by decide +kernel)) ggX7_together_X7_standsNow
set_option maxRecDepth 20000 in
theorem ggX7_together_J13_bitCount_95d88 : GoodIn wsX7_together wsJ13_bitCount_95d88 := goodIn_r _ [48, 49, 50, 51] (by decide +kernel) (by decide +kernel)
set_option maxRecDepth 20000 in
theorem gX7_together_J13_bitCount_95d88 : GoodIn wsX7_together (va_wsS RX7 129 yJ13_bitCount_95d88 wsJ13_bitCount_95d88) := goodIn_app (goodIn_of _ (by decide +kernel)) ggX7_together_J13_bitCount_95d88
theorem dX7_together_0 : decode cX7_together 0 = .ok (.aload_n 0, 1) := by decide +kernel
theorem dX7_together_1 : decode cX7_together 1 = .ok (.iload_n 1, 1) := by decide +kernel
theorem dX7_together_2 : decode cX7_together 2 = .ok (.iload_n 2, 1) := by decide +kernel
theorem dX7_together_3 : decode cX7_together 3 = .ok (.invokevirtual 181, 3) := by decide +kernel
theorem dX7_together_6 : decode cX7_together 6 = .ok (.ifCond .ne 6, 3) := by decide +kernel
theorem dX7_together_9 : decode cX7_together 9 = .ok (.bipush (-2), 2) := by decide +kernel
theorem dX7_together_11 : decode cX7_together 11 = .ok (.ireturn, 1) := by decide +kernel
theorem dX7_together_12 : decode cX7_together 12 = .ok (.aload_n 0, 1) := by decide +kernel
theorem dX7_together_13 : decode cX7_together 13 = .ok (.iload_n 1, 1) := by decide +kernel
theorem dX7_together_14 : decode cX7_together 14 = .ok (.invokevirtual 125, 3) := by decide +kernel
theorem dX7_together_17 : decode cX7_together 17 = .ok (.aload_n 0, 1) := by decide +kernel
theorem dX7_together_18 : decode cX7_together 18 = .ok (.iload_n 2, 1) := by decide +kernel
theorem dX7_together_19 : decode cX7_together 19 = .ok (.invokevirtual 125, 3) := by decide +kernel
theorem dX7_together_22 : decode cX7_together 22 = .ok (.land, 1) := by decide +kernel
theorem dX7_together_23 : decode cX7_together 23 = .ok (.invokestatic 129, 3) := by decide +kernel
theorem dX7_together_26 : decode cX7_together 26 = .ok (.ireturn, 1) := by decide +kernel
set_option maxRecDepth 20000 in
theorem ggX7_seen_X6_knows : GoodIn wsX7_seen wsX6_knows := goodIn_r _ [7, 8, 34, 35, 36, 37, 38, 39, 40] (by decide +kernel) (by decide +kernel)
set_option maxRecDepth 20000 in
theorem gX7_seen_X6_knows : GoodIn wsX7_seen (wsV RX7 100 RX6 yX6_knows wsX6_knows) := goodIn_app (goodIn_of _ (by decide +kernel)) ggX7_seen_X6_knows
set_option maxRecDepth 20000 in
theorem ggX7_seen_X7_isWithin : GoodIn wsX7_seen wsX7_isWithin := goodIn_r _ [12] (by decide +kernel) (by decide +kernel)
set_option maxRecDepth 20000 in
theorem gX7_seen_X7_isWithin : GoodIn wsX7_seen (va_wsS RX7 69 yX7_isWithin wsX7_isWithin) := goodIn_app (goodIn_of _ (by decide +kernel)) ggX7_seen_X7_isWithin
set_option maxRecDepth 20000 in
theorem ggX7_seen_X4_add : GoodIn wsX7_seen wsX4_add := goodIn_r _ [17, 18, 19, 20, 41, 42, 43] (by decide +kernel) (by decide +kernel)
set_option maxRecDepth 20000 in
theorem gX7_seen_X4_add : GoodIn wsX7_seen (wsV RX7 235 RX4 yX4_add wsX4_add) := goodIn_app (goodIn_of _ (by decide +kernel)) ggX7_seen_X4_add
set_option maxRecDepth 20000 in
theorem ggX7_seen_X4_size : GoodIn wsX7_seen wsX4_size := goodIn_r _ [24, 18, 41, 42, 43] (by decide +kernel) (by decide +kernel)
set_option maxRecDepth 20000 in
theorem gX7_seen_X4_size : GoodIn wsX7_seen (wsV RX7 237 RX4 yX4_size wsX4_size) := goodIn_app (goodIn_of _ (by decide +kernel)) ggX7_seen_X4_size
theorem dX7_seen_0 : decode cX7_seen 0 = .ok (.aload_n 0, 1) := by decide +kernel
theorem dX7_seen_1 : decode cX7_seen 1 = .ok (.getfield 19, 3) := by decide +kernel
theorem dX7_seen_4 : decode cX7_seen 4 = .ok (.iload_n 1, 1) := by decide +kernel
theorem dX7_seen_5 : decode cX7_seen 5 = .ok (.invokevirtual 100, 3) := by decide +kernel
theorem dX7_seen_8 : decode cX7_seen 8 = .ok (.ifCond .ne 6, 3) := by decide +kernel
theorem dX7_seen_11 : decode cX7_seen 11 = .ok (.bipush (-2), 2) := by decide +kernel
theorem dX7_seen_13 : decode cX7_seen 13 = .ok (.ireturn, 1) := by decide +kernel
theorem dX7_seen_14 : decode cX7_seen 14 = .ok (.iload_n 2, 1) := by decide +kernel
theorem dX7_seen_15 : decode cX7_seen 15 = .ok (.iconst 0, 1) := by decide +kernel
theorem dX7_seen_16 : decode cX7_seen 16 = .ok (.bipush 99, 2) := by decide +kernel
theorem dX7_seen_18 : decode cX7_seen 18 = .ok (.invokestatic 69, 3) := by decide +kernel
theorem dX7_seen_21 : decode cX7_seen 21 = .ok (.ifCond .ne 6, 3) := by decide +kernel
theorem dX7_seen_24 : decode cX7_seen 24 = .ok (.bipush (-3), 2) := by decide +kernel
theorem dX7_seen_26 : decode cX7_seen 26 = .ok (.ireturn, 1) := by decide +kernel
theorem dX7_seen_27 : decode cX7_seen 27 = .ok (.aload_n 0, 1) := by decide +kernel
theorem dX7_seen_28 : decode cX7_seen 28 = .ok (.getfield 61, 3) := by decide +kernel
theorem dX7_seen_31 : decode cX7_seen 31 = .ok (.iload_n 1, 1) := by decide +kernel
theorem dX7_seen_32 : decode cX7_seen 32 = .ok (.iload_n 2, 1) := by decide +kernel
theorem dX7_seen_33 : decode cX7_seen 33 = .ok (.invokevirtual 235, 3) := by decide +kernel
theorem dX7_seen_36 : decode cX7_seen 36 = .ok (.ifCond .eq 13, 3) := by decide +kernel
theorem dX7_seen_39 : decode cX7_seen 39 = .ok (.aload_n 0, 1) := by decide +kernel
theorem dX7_seen_40 : decode cX7_seen 40 = .ok (.getfield 61, 3) := by decide +kernel
theorem dX7_seen_43 : decode cX7_seen 43 = .ok (.invokevirtual 237, 3) := by decide +kernel
theorem dX7_seen_46 : decode cX7_seen 46 = .ok (.goto 5, 3) := by decide +kernel
theorem dX7_seen_49 : decode cX7_seen 49 = .ok (.bipush (-5), 2) := by decide +kernel
theorem dX7_seen_51 : decode cX7_seen 51 = .ok (.ireturn, 1) := by decide +kernel
set_option maxRecDepth 20000 in
theorem ggX7_forget_X4_size : GoodIn wsX7_forget wsX4_size := goodIn_r _ [6, 7, 21, 22, 23] (by decide +kernel) (by decide +kernel)
set_option maxRecDepth 20000 in
theorem gX7_forget_X4_size : GoodIn wsX7_forget (wsV RX7 237 RX4 yX4_size wsX4_size) := goodIn_app (goodIn_of _ (by decide +kernel)) ggX7_forget_X4_size
set_option maxRecDepth 20000 in
theorem ggX7_forget_X4_empty : GoodIn wsX7_forget wsX4_empty := goodIn_r _ [11, 7, 21, 22, 23] (by decide +kernel) (by decide +kernel)
set_option maxRecDepth 20000 in
theorem gX7_forget_X4_empty : GoodIn wsX7_forget (wsV RX7 96 RX4 yX4_empty wsX4_empty) := goodIn_app (goodIn_of _ (by decide +kernel)) ggX7_forget_X4_empty
theorem dX7_forget_0 : decode cX7_forget 0 = .ok (.aload_n 0, 1) := by decide +kernel
theorem dX7_forget_1 : decode cX7_forget 1 = .ok (.getfield 61, 3) := by decide +kernel
theorem dX7_forget_4 : decode cX7_forget 4 = .ok (.invokevirtual 237, 3) := by decide +kernel
theorem dX7_forget_7 : decode cX7_forget 7 = .ok (.istore_n 1, 1) := by decide +kernel
theorem dX7_forget_8 : decode cX7_forget 8 = .ok (.aload_n 0, 1) := by decide +kernel
theorem dX7_forget_9 : decode cX7_forget 9 = .ok (.getfield 61, 3) := by decide +kernel
theorem dX7_forget_12 : decode cX7_forget 12 = .ok (.invokevirtual 96, 3) := by decide +kernel
theorem dX7_forget_15 : decode cX7_forget 15 = .ok (.iload_n 1, 1) := by decide +kernel
theorem dX7_forget_16 : decode cX7_forget 16 = .ok (.ireturn, 1) := by decide +kernel
set_option maxRecDepth 20000 in
theorem ggX7_clocks_X4_fit : GoodIn wsX7_clocks wsX4_fit := goodIn_r _ [7, 8, 9, 10, 11, 12, 13, 14, 15, 16, 17, 18, 19, 20, 21, 22, 23, 24, 25, 26, 27, 28, 29, 30, 31, 32, 33, 34, 35, 36, 37, 38, 39, 40, 41, 42, 43, 44, 45, 46, 47, 48, 49, 50, 51, 52, 53, 54, 55, 56, 57, 58, 59, 60, 61, 62, 63, 64, 65, 66, 67, 68, 69, 70, 71, 72, 73, 74, 75, 76, 77, 78, 79, 80, 81, 82, 83, 84, 85, 86, 87, 88, 89, 90, 91, 92, 102, 103, 104, 105, 106, 107, 108, 109, 110, 111, 112, 113, 114, 115, 116, 117, 118] (by decide +kernel) (by decide +kernel)
set_option maxRecDepth 20000 in
theorem gX7_clocks_X4_fit : GoodIn wsX7_clocks (wsV RX7 238 RX4 yX4_fit wsX4_fit) := goodIn_app (goodIn_of _ (by decide +kernel)) ggX7_clocks_X4_fit
theorem dX7_clocks_0 : decode cX7_clocks 0 = .ok (.iconst 0, 1) := by decide +kernel
theorem dX7_clocks_1 : decode cX7_clocks 1 = .ok (.istore_n 1, 1) := by decide +kernel
theorem dX7_clocks_2 : decode cX7_clocks 2 = .ok (.iconst 0, 1) := by decide +kernel
theorem dX7_clocks_3 : decode cX7_clocks 3 = .ok (.istore_n 2, 1) := by decide +kernel
theorem dX7_clocks_4 : decode cX7_clocks 4 = .ok (.iload_n 2, 1) := by decide +kernel
theorem dX7_clocks_5 : decode cX7_clocks 5 = .ok (.bipush 9, 2) := by decide +kernel
theorem dX7_clocks_7 : decode cX7_clocks 7 = .ok (.if_icmp .gt 30, 3) := by decide +kernel
theorem dX7_clocks_10 : decode cX7_clocks 10 = .ok (.aload_n 0, 1) := by decide +kernel
theorem dX7_clocks_11 : decode cX7_clocks 11 = .ok (.getfield 61, 3) := by decide +kernel
theorem dX7_clocks_14 : decode cX7_clocks 14 = .ok (.aload_n 0, 1) := by decide +kernel
theorem dX7_clocks_15 : decode cX7_clocks 15 = .ok (.getfield 38, 3) := by decide +kernel
theorem dX7_clocks_18 : decode cX7_clocks 18 = .ok (.iload_n 2, 1) := by decide +kernel
theorem dX7_clocks_19 : decode cX7_clocks 19 = .ok (.invokevirtual 238, 3) := by decide +kernel
theorem dX7_clocks_22 : decode cX7_clocks 22 = .ok (.ifCond .eq 9, 3) := by decide +kernel
theorem dX7_clocks_25 : decode cX7_clocks 25 = .ok (.iload_n 1, 1) := by decide +kernel
theorem dX7_clocks_26 : decode cX7_clocks 26 = .ok (.iconst 1, 1) := by decide +kernel
theorem dX7_clocks_27 : decode cX7_clocks 27 = .ok (.iload_n 2, 1) := by decide +kernel
theorem dX7_clocks_28 : decode cX7_clocks 28 = .ok (.ishl, 1) := by decide +kernel
theorem dX7_clocks_29 : decode cX7_clocks 29 = .ok (.ior, 1) := by decide +kernel
theorem dX7_clocks_30 : decode cX7_clocks 30 = .ok (.istore_n 1, 1) := by decide +kernel
theorem dX7_clocks_31 : decode cX7_clocks 31 = .ok (.iinc 2 1, 3) := by decide +kernel
theorem dX7_clocks_34 : decode cX7_clocks 34 = .ok (.goto (-30), 3) := by decide +kernel
theorem dX7_clocks_37 : decode cX7_clocks 37 = .ok (.iload_n 1, 1) := by decide +kernel
theorem dX7_clocks_38 : decode cX7_clocks 38 = .ok (.ireturn, 1) := by decide +kernel
set_option maxRecDepth 20000 in
theorem ggX7_clear_X6_knows : GoodIn wsX7_clear wsX6_knows := goodIn_r _ [6, 7, 72, 73, 74, 75, 76, 77, 78] (by decide +kernel) (by decide +kernel)
set_option maxRecDepth 20000 in
theorem gX7_clear_X6_knows : GoodIn wsX7_clear (wsV RX7 100 RX6 yX6_knows wsX6_knows) := goodIn_app (goodIn_of _ (by decide +kernel)) ggX7_clear_X6_knows
set_option maxRecDepth 20000 in
theorem ggX7_clear_X7_isWithin : GoodIn wsX7_clear wsX7_isWithin := goodIn_r _ [11] (by decide +kernel) (by decide +kernel)
set_option maxRecDepth 20000 in
theorem gX7_clear_X7_isWithin : GoodIn wsX7_clear (va_wsS RX7 69 yX7_isWithin wsX7_isWithin) := goodIn_app (goodIn_of _ (by decide +kernel)) ggX7_clear_X7_isWithin
set_option maxRecDepth 20000 in
theorem ggX7_clear_X7_standsNow : GoodIn wsX7_clear wsX7_standsNow := goodIn_r _ [15, 16, 17, 18, 19, 20, 21, 22, 23, 24, 25, 26, 27, 28, 29, 30, 31, 32, 5, 33, 34, 35, 36, 37, 38, 39, 40, 41, 10, 42, 43, 63, 64, 65, 66, 67, 68, 69, 70, 71, 79, 80, 81, 82, 83, 84, 85, 72, 73, 74, 75, 76, 77, 78] (by decide +kernel) (by decide +kernel)
set_option maxRecDepth 20000 in
theorem gX7_clear_X7_standsNow : GoodIn wsX7_clear (wsV RX7 125 RX7 yX7_standsNow wsX7_standsNow) := goodIn_app (goodIn_of _ (by decide +kernel)) ggX7_clear_X7_standsNow
set_option maxRecDepth 20000 in
theorem ggX7_clear_J13_bitCount_95d88 : GoodIn wsX7_clear wsJ13_bitCount_95d88 := goodIn_r _ [47, 48, 49, 50] (by decide +kernel) (by decide +kernel)
set_option maxRecDepth 20000 in
theorem gX7_clear_J13_bitCount_95d88 : GoodIn wsX7_clear (va_wsS RX7 129 yJ13_bitCount_95d88 wsJ13_bitCount_95d88) := goodIn_app (goodIn_of _ (by decide +kernel)) ggX7_clear_J13_bitCount_95d88
set_option maxRecDepth 20000 in
theorem ggX7_clear_X7_waysClear : GoodIn wsX7_clear wsX7_waysClear := goodIn_r _ [53, 54, 55, 10, 56, 57, 58, 59] (by decide +kernel) (by decide +kernel)
set_option maxRecDepth 20000 in
theorem gX7_clear_X7_waysClear : GoodIn wsX7_clear (va_wsS RX7 242 yX7_waysClear wsX7_waysClear) := goodIn_app (goodIn_of _ (by decide +kernel)) ggX7_clear_X7_waysClear
set_option maxRecDepth 20000 in
theorem ggX7_clear_X7_power : GoodIn wsX7_clear wsX7_power := goodIn_r _ [59] (by decide +kernel) (by decide +kernel)
set_option maxRecDepth 20000 in
theorem gX7_clear_X7_power : GoodIn wsX7_clear (va_wsS RX7 245 yX7_power wsX7_power) := goodIn_app (goodIn_of _ (by decide +kernel)) ggX7_clear_X7_power
set_option maxRecDepth 20000 in
theorem ggX7_clear_X7_commonDivisor : GoodIn wsX7_clear wsX7_commonDivisor := goodIn_r _ [62] (by decide +kernel) (by decide +kernel)
set_option maxRecDepth 20000 in
theorem gX7_clear_X7_commonDivisor : GoodIn wsX7_clear (va_wsS RX7 248 yX7_commonDivisor wsX7_commonDivisor) := goodIn_app (goodIn_of _ (by decide +kernel)) ggX7_clear_X7_commonDivisor
theorem dX7_clear_0 : decode cX7_clear 0 = .ok (.aload_n 0, 1) := by decide +kernel
theorem dX7_clear_1 : decode cX7_clear 1 = .ok (.getfield 19, 3) := by decide +kernel
theorem dX7_clear_4 : decode cX7_clear 4 = .ok (.iload_n 1, 1) := by decide +kernel
theorem dX7_clear_5 : decode cX7_clear 5 = .ok (.invokevirtual 100, 3) := by decide +kernel
theorem dX7_clear_8 : decode cX7_clear 8 = .ok (.ifCond .ne 6, 3) := by decide +kernel
theorem dX7_clear_11 : decode cX7_clear 11 = .ok (.bipush (-2), 2) := by decide +kernel
theorem dX7_clear_13 : decode cX7_clear 13 = .ok (.ireturn, 1) := by decide +kernel
theorem dX7_clear_14 : decode cX7_clear 14 = .ok (.iload_n 2, 1) := by decide +kernel
theorem dX7_clear_15 : decode cX7_clear 15 = .ok (.iconst 0, 1) := by decide +kernel
theorem dX7_clear_16 : decode cX7_clear 16 = .ok (.bipush 6, 2) := by decide +kernel
theorem dX7_clear_18 : decode cX7_clear 18 = .ok (.invokestatic 69, 3) := by decide +kernel
theorem dX7_clear_21 : decode cX7_clear 21 = .ok (.ifCond .eq 23, 3) := by decide +kernel
theorem dX7_clear_24 : decode cX7_clear 24 = .ok (.iload_n 3, 1) := by decide +kernel
theorem dX7_clear_25 : decode cX7_clear 25 = .ok (.iconst 0, 1) := by decide +kernel
theorem dX7_clear_26 : decode cX7_clear 26 = .ok (.bipush 10, 2) := by decide +kernel
theorem dX7_clear_28 : decode cX7_clear 28 = .ok (.invokestatic 69, 3) := by decide +kernel
theorem dX7_clear_31 : decode cX7_clear 31 = .ok (.ifCond .eq 13, 3) := by decide +kernel
theorem dX7_clear_34 : decode cX7_clear 34 = .ok (.iload 4, 2) := by decide +kernel
theorem dX7_clear_36 : decode cX7_clear 36 = .ok (.iconst 0, 1) := by decide +kernel
theorem dX7_clear_37 : decode cX7_clear 37 = .ok (.iconst 1, 1) := by decide +kernel
theorem dX7_clear_38 : decode cX7_clear 38 = .ok (.invokestatic 69, 3) := by decide +kernel
theorem dX7_clear_41 : decode cX7_clear 41 = .ok (.ifCond .ne 6, 3) := by decide +kernel
theorem dX7_clear_44 : decode cX7_clear 44 = .ok (.bipush (-3), 2) := by decide +kernel
theorem dX7_clear_46 : decode cX7_clear 46 = .ok (.ireturn, 1) := by decide +kernel
theorem dX7_clear_47 : decode cX7_clear 47 = .ok (.aload_n 0, 1) := by decide +kernel
theorem dX7_clear_48 : decode cX7_clear 48 = .ok (.iload_n 1, 1) := by decide +kernel
theorem dX7_clear_49 : decode cX7_clear 49 = .ok (.invokevirtual 125, 3) := by decide +kernel
theorem dX7_clear_52 : decode cX7_clear 52 = .ok (.invokestatic 129, 3) := by decide +kernel
theorem dX7_clear_55 : decode cX7_clear 55 = .ok (.istore 5, 2) := by decide +kernel
theorem dX7_clear_57 : decode cX7_clear 57 = .ok (.iload 5, 2) := by decide +kernel
theorem dX7_clear_59 : decode cX7_clear 59 = .ok (.iload_n 2, 1) := by decide +kernel
theorem dX7_clear_60 : decode cX7_clear 60 = .ok (.iload_n 3, 1) := by decide +kernel
theorem dX7_clear_61 : decode cX7_clear 61 = .ok (.invokestatic 242, 3) := by decide +kernel
theorem dX7_clear_64 : decode cX7_clear 64 = .ok (.istore 6, 2) := by decide +kernel
theorem dX7_clear_66 : decode cX7_clear 66 = .ok (.bipush 10, 2) := by decide +kernel
theorem dX7_clear_68 : decode cX7_clear 68 = .ok (.iload 5, 2) := by decide +kernel
theorem dX7_clear_70 : decode cX7_clear 70 = .ok (.invokestatic 245, 3) := by decide +kernel
theorem dX7_clear_73 : decode cX7_clear 73 = .ok (.istore 7, 2) := by decide +kernel
theorem dX7_clear_75 : decode cX7_clear 75 = .ok (.iload 6, 2) := by decide +kernel
theorem dX7_clear_77 : decode cX7_clear 77 = .ok (.iload 7, 2) := by decide +kernel
theorem dX7_clear_79 : decode cX7_clear 79 = .ok (.invokestatic 248, 3) := by decide +kernel
theorem dX7_clear_82 : decode cX7_clear 82 = .ok (.istore 8, 2) := by decide +kernel
theorem dX7_clear_84 : decode cX7_clear 84 = .ok (.iload 8, 2) := by decide +kernel
theorem dX7_clear_86 : decode cX7_clear 86 = .ok (.iconst 1, 1) := by decide +kernel
theorem dX7_clear_87 : decode cX7_clear 87 = .ok (.if_icmp .ge 5, 3) := by decide +kernel
theorem dX7_clear_90 : decode cX7_clear 90 = .ok (.iconst (-1), 1) := by decide +kernel
theorem dX7_clear_91 : decode cX7_clear 91 = .ok (.ireturn, 1) := by decide +kernel
theorem dX7_clear_92 : decode cX7_clear 92 = .ok (.iload 4, 2) := by decide +kernel
theorem dX7_clear_94 : decode cX7_clear 94 = .ok (.ifCond .ne 8, 3) := by decide +kernel
theorem dX7_clear_97 : decode cX7_clear 97 = .ok (.iload 6, 2) := by decide +kernel
theorem dX7_clear_99 : decode cX7_clear 99 = .ok (.goto 5, 3) := by decide +kernel
theorem dX7_clear_102 : decode cX7_clear 102 = .ok (.iload 7, 2) := by decide +kernel
theorem dX7_clear_104 : decode cX7_clear 104 = .ok (.iload 8, 2) := by decide +kernel
theorem dX7_clear_106 : decode cX7_clear 106 = .ok (.idiv, 1) := by decide +kernel
theorem dX7_clear_107 : decode cX7_clear 107 = .ok (.ireturn, 1) := by decide +kernel
set_option maxRecDepth 20000 in
theorem ggX7_count_X0_whoGo : GoodIn wsX7_count wsX0_whoGo := goodIn_r _ [10, 11, 136, 137, 138, 139] (by decide +kernel) (by decide +kernel)
set_option maxRecDepth 20000 in
theorem gX7_count_X0_whoGo : GoodIn wsX7_count (wsV RX7 251 RX0 yX0_whoGo wsX0_whoGo) := goodIn_app (goodIn_of _ (by decide +kernel)) ggX7_count_X0_whoGo
set_option maxRecDepth 20000 in
theorem ggX7_count_X7_finesOfAll : GoodIn wsX7_count wsX7_finesOfAll := goodIn_r _ [16, 1, 17, 2, 18, 19, 20, 21, 22, 23, 24, 25, 26, 27, 28, 29, 30, 9, 31, 11, 32, 33, 34, 35, 36, 37, 38, 39, 40, 41, 42, 43, 44, 45, 46, 47, 48, 49, 15, 50, 51, 52, 53, 54, 55, 56, 57, 58, 59, 60, 61, 62, 63, 64, 65, 66, 67, 68, 69, 70, 71, 72, 73, 74, 75, 76, 77, 78, 79, 80, 81, 82, 83, 84, 85, 86, 87, 88, 89, 90, 91, 92, 93, 94, 95, 96, 120, 121, 122, 123, 124, 125, 126, 127, 128, 129, 130, 131, 132, 133, 134, 135, 136, 137, 138, 139, 140, 141, 142] (by decide +kernel) (by decide +kernel)
set_option maxRecDepth 20000 in
theorem gX7_count_X7_finesOfAll : GoodIn wsX7_count (wsV RX7 254 RX7 yX7_finesOfAll wsX7_finesOfAll) := goodIn_app (goodIn_of _ (by decide +kernel)) ggX7_count_X7_finesOfAll
set_option maxRecDepth 20000 in
theorem ggX7_count_X0_landOfAll : GoodIn wsX7_count wsX0_landOfAll := goodIn_r _ [100, 67, 136, 137, 138, 139] (by decide +kernel) (by decide +kernel)
set_option maxRecDepth 20000 in
theorem gX7_count_X0_landOfAll : GoodIn wsX7_count (wsV RX7 257 RX0 yX0_landOfAll wsX0_landOfAll) := goodIn_app (goodIn_of _ (by decide +kernel)) ggX7_count_X0_landOfAll
set_option maxRecDepth 20000 in
theorem ggX7_count_J13_bitCount_95d88 : GoodIn wsX7_count wsJ13_bitCount_95d88 := goodIn_r _ [75, 76, 77, 78] (by decide +kernel) (by decide +kernel)
set_option maxRecDepth 20000 in
theorem gX7_count_J13_bitCount_95d88 : GoodIn wsX7_count (va_wsS RX7 129 yJ13_bitCount_95d88 wsJ13_bitCount_95d88) := goodIn_app (goodIn_of _ (by decide +kernel)) ggX7_count_J13_bitCount_95d88
set_option maxRecDepth 20000 in
theorem ggX7_count_X4_size : GoodIn wsX7_count wsX4_size := goodIn_r _ [106, 107, 143, 144, 145] (by decide +kernel) (by decide +kernel)
set_option maxRecDepth 20000 in
theorem gX7_count_X4_size : GoodIn wsX7_count (wsV RX7 237 RX4 yX4_size wsX4_size) := goodIn_app (goodIn_of _ (by decide +kernel)) ggX7_count_X4_size
set_option maxRecDepth 20000 in
theorem ggX7_count_X2_size : GoodIn wsX7_count wsX2_size := goodIn_r _ [112, 113, 146, 147, 148] (by decide +kernel) (by decide +kernel)
set_option maxRecDepth 20000 in
theorem gX7_count_X2_size : GoodIn wsX7_count (wsV RX7 196 RX2 yX2_size wsX2_size) := goodIn_app (goodIn_of _ (by decide +kernel)) ggX7_count_X2_size
set_option maxRecDepth 20000 in
theorem ggX7_count_X5_size : GoodIn wsX7_count wsX5_size := goodIn_r _ [118, 119, 149, 150, 151, 152, 153, 154] (by decide +kernel) (by decide +kernel)
set_option maxRecDepth 20000 in
theorem gX7_count_X5_size : GoodIn wsX7_count (wsV RX7 77 RX5 yX5_size wsX5_size) := goodIn_app (goodIn_of _ (by decide +kernel)) ggX7_count_X5_size
theorem dX7_count_0 : decode cX7_count 0 = .ok (.iload_n 1, 1) := by decide +kernel
theorem dX7_count_1 : decode cX7_count 1 = .ok (.tableswitch 138 0 9 #[55, 63, 71, 79, 84, 95, 106, 114, 122, 130], 55) := by decide +kernel
theorem dX7_count_56 : decode cX7_count 56 = .ok (.aload_n 0, 1) := by decide +kernel
theorem dX7_count_57 : decode cX7_count 57 = .ok (.getfield 19, 3) := by decide +kernel
theorem dX7_count_60 : decode cX7_count 60 = .ok (.getfield 220, 3) := by decide +kernel
theorem dX7_count_63 : decode cX7_count 63 = .ok (.ireturn, 1) := by decide +kernel
theorem dX7_count_64 : decode cX7_count 64 = .ok (.aload_n 0, 1) := by decide +kernel
theorem dX7_count_65 : decode cX7_count 65 = .ok (.getfield 29, 3) := by decide +kernel
theorem dX7_count_68 : decode cX7_count 68 = .ok (.getfield 135, 3) := by decide +kernel
theorem dX7_count_71 : decode cX7_count 71 = .ok (.ireturn, 1) := by decide +kernel
theorem dX7_count_72 : decode cX7_count 72 = .ok (.aload_n 0, 1) := by decide +kernel
theorem dX7_count_73 : decode cX7_count 73 = .ok (.getfield 29, 3) := by decide +kernel
theorem dX7_count_76 : decode cX7_count 76 = .ok (.invokevirtual 251, 3) := by decide +kernel
theorem dX7_count_79 : decode cX7_count 79 = .ok (.ireturn, 1) := by decide +kernel
theorem dX7_count_80 : decode cX7_count 80 = .ok (.aload_n 0, 1) := by decide +kernel
theorem dX7_count_81 : decode cX7_count 81 = .ok (.invokevirtual 254, 3) := by decide +kernel
theorem dX7_count_84 : decode cX7_count 84 = .ok (.ireturn, 1) := by decide +kernel
theorem dX7_count_85 : decode cX7_count 85 = .ok (.aload_n 0, 1) := by decide +kernel
theorem dX7_count_86 : decode cX7_count 86 = .ok (.getfield 29, 3) := by decide +kernel
theorem dX7_count_89 : decode cX7_count 89 = .ok (.invokevirtual 257, 3) := by decide +kernel
theorem dX7_count_92 : decode cX7_count 92 = .ok (.invokestatic 129, 3) := by decide +kernel
theorem dX7_count_95 : decode cX7_count 95 = .ok (.ireturn, 1) := by decide +kernel
theorem dX7_count_96 : decode cX7_count 96 = .ok (.aload_n 0, 1) := by decide +kernel
theorem dX7_count_97 : decode cX7_count 97 = .ok (.getfield 19, 3) := by decide +kernel
theorem dX7_count_100 : decode cX7_count 100 = .ok (.getfield 148, 3) := by decide +kernel
theorem dX7_count_103 : decode cX7_count 103 = .ok (.invokestatic 129, 3) := by decide +kernel
theorem dX7_count_106 : decode cX7_count 106 = .ok (.ireturn, 1) := by decide +kernel
theorem dX7_count_107 : decode cX7_count 107 = .ok (.aload_n 0, 1) := by decide +kernel
theorem dX7_count_108 : decode cX7_count 108 = .ok (.getfield 29, 3) := by decide +kernel
theorem dX7_count_111 : decode cX7_count 111 = .ok (.getfield 261, 3) := by decide +kernel
theorem dX7_count_114 : decode cX7_count 114 = .ok (.ireturn, 1) := by decide +kernel
theorem dX7_count_115 : decode cX7_count 115 = .ok (.aload_n 0, 1) := by decide +kernel
theorem dX7_count_116 : decode cX7_count 116 = .ok (.getfield 61, 3) := by decide +kernel
theorem dX7_count_119 : decode cX7_count 119 = .ok (.invokevirtual 237, 3) := by decide +kernel
theorem dX7_count_122 : decode cX7_count 122 = .ok (.ireturn, 1) := by decide +kernel
theorem dX7_count_123 : decode cX7_count 123 = .ok (.aload_n 0, 1) := by decide +kernel
theorem dX7_count_124 : decode cX7_count 124 = .ok (.getfield 45, 3) := by decide +kernel
theorem dX7_count_127 : decode cX7_count 127 = .ok (.invokevirtual 196, 3) := by decide +kernel
theorem dX7_count_130 : decode cX7_count 130 = .ok (.ireturn, 1) := by decide +kernel
theorem dX7_count_131 : decode cX7_count 131 = .ok (.aload_n 0, 1) := by decide +kernel
theorem dX7_count_132 : decode cX7_count 132 = .ok (.getfield 10, 3) := by decide +kernel
theorem dX7_count_135 : decode cX7_count 135 = .ok (.invokevirtual 77, 3) := by decide +kernel
theorem dX7_count_138 : decode cX7_count 138 = .ok (.ireturn, 1) := by decide +kernel
theorem dX7_count_139 : decode cX7_count 139 = .ok (.bipush (-3), 2) := by decide +kernel
theorem dX7_count_141 : decode cX7_count 141 = .ok (.ireturn, 1) := by decide +kernel
set_option maxRecDepth 20000 in
theorem ggX7_areTwo_X6_knows : GoodIn wsX7_areTwo wsX6_knows := goodIn_r _ [6, 7, 17, 18, 19, 20, 21, 22, 23] (by decide +kernel) (by decide +kernel)
set_option maxRecDepth 20000 in
theorem gX7_areTwo_X6_knows : GoodIn wsX7_areTwo (wsV RX7 100 RX6 yX6_knows wsX6_knows) := goodIn_app (goodIn_of _ (by decide +kernel)) ggX7_areTwo_X6_knows
theorem dX7_areTwo_0 : decode cX7_areTwo 0 = .ok (.aload_n 0, 1) := by decide +kernel
theorem dX7_areTwo_1 : decode cX7_areTwo 1 = .ok (.getfield 19, 3) := by decide +kernel
theorem dX7_areTwo_4 : decode cX7_areTwo 4 = .ok (.iload_n 1, 1) := by decide +kernel
theorem dX7_areTwo_5 : decode cX7_areTwo 5 = .ok (.invokevirtual 100, 3) := by decide +kernel
theorem dX7_areTwo_8 : decode cX7_areTwo 8 = .ok (.ifCond .eq 23, 3) := by decide +kernel
theorem dX7_areTwo_11 : decode cX7_areTwo 11 = .ok (.aload_n 0, 1) := by decide +kernel
theorem dX7_areTwo_12 : decode cX7_areTwo 12 = .ok (.getfield 19, 3) := by decide +kernel
theorem dX7_areTwo_15 : decode cX7_areTwo 15 = .ok (.iload_n 2, 1) := by decide +kernel
theorem dX7_areTwo_16 : decode cX7_areTwo 16 = .ok (.invokevirtual 100, 3) := by decide +kernel
theorem dX7_areTwo_19 : decode cX7_areTwo 19 = .ok (.ifCond .eq 12, 3) := by decide +kernel
theorem dX7_areTwo_22 : decode cX7_areTwo 22 = .ok (.iload_n 1, 1) := by decide +kernel
theorem dX7_areTwo_23 : decode cX7_areTwo 23 = .ok (.iload_n 2, 1) := by decide +kernel
theorem dX7_areTwo_24 : decode cX7_areTwo 24 = .ok (.if_icmp .eq 7, 3) := by decide +kernel
theorem dX7_areTwo_27 : decode cX7_areTwo 27 = .ok (.iconst 1, 1) := by decide +kernel
theorem dX7_areTwo_28 : decode cX7_areTwo 28 = .ok (.goto 4, 3) := by decide +kernel
theorem dX7_areTwo_31 : decode cX7_areTwo 31 = .ok (.iconst 0, 1) := by decide +kernel
theorem dX7_areTwo_32 : decode cX7_areTwo 32 = .ok (.ireturn, 1) := by decide +kernel
set_option maxRecDepth 20000 in
theorem ggX7_standsNow_X0_startOf : GoodIn wsX7_standsNow wsX0_startOf := goodIn_r _ [7, 8, 40, 41, 42, 43] (by decide +kernel) (by decide +kernel)
set_option maxRecDepth 20000 in
theorem gX7_standsNow_X0_startOf : GoodIn wsX7_standsNow (wsV RX7 116 RX0 yX0_startOf wsX0_startOf) := goodIn_app (goodIn_of _ (by decide +kernel)) ggX7_standsNow_X0_startOf
set_option maxRecDepth 20000 in
theorem ggX7_standsNow_X1_stands : GoodIn wsX7_standsNow wsX1_stands := goodIn_r _ [13, 14, 15, 16, 17, 18, 19, 20, 21, 22, 23, 24, 25, 26, 27, 28, 29, 30, 44, 45, 46, 47, 48, 49, 50, 51, 52, 53] (by decide +kernel) (by decide +kernel)
set_option maxRecDepth 20000 in
theorem gX7_standsNow_X1_stands : GoodIn wsX7_standsNow (wsV RX7 264 RX1 yX1_stands wsX1_stands) := goodIn_app (goodIn_of _ (by decide +kernel)) ggX7_standsNow_X1_stands
theorem dX7_standsNow_0 : decode cX7_standsNow 0 = .ok (.aload_n 0, 1) := by decide +kernel
theorem dX7_standsNow_1 : decode cX7_standsNow 1 = .ok (.getfield 38, 3) := by decide +kernel
theorem dX7_standsNow_4 : decode cX7_standsNow 4 = .ok (.iload_n 1, 1) := by decide +kernel
theorem dX7_standsNow_5 : decode cX7_standsNow 5 = .ok (.aload_n 0, 1) := by decide +kernel
theorem dX7_standsNow_6 : decode cX7_standsNow 6 = .ok (.getfield 29, 3) := by decide +kernel
theorem dX7_standsNow_9 : decode cX7_standsNow 9 = .ok (.iload_n 1, 1) := by decide +kernel
theorem dX7_standsNow_10 : decode cX7_standsNow 10 = .ok (.invokevirtual 116, 3) := by decide +kernel
theorem dX7_standsNow_13 : decode cX7_standsNow 13 = .ok (.aload_n 0, 1) := by decide +kernel
theorem dX7_standsNow_14 : decode cX7_standsNow 14 = .ok (.getfield 29, 3) := by decide +kernel
theorem dX7_standsNow_17 : decode cX7_standsNow 17 = .ok (.getfield 135, 3) := by decide +kernel
theorem dX7_standsNow_20 : decode cX7_standsNow 20 = .ok (.invokevirtual 264, 3) := by decide +kernel
theorem dX7_standsNow_23 : decode cX7_standsNow 23 = .ok (.lreturn, 1) := by decide +kernel
set_option maxRecDepth 20000 in
theorem ggX7_firstStood_X7_standsNow : GoodIn wsX7_firstStood wsX7_standsNow := goodIn_r _ [7, 8, 1, 9, 10, 11, 12, 13, 14, 15, 16, 17, 18, 19, 20, 21, 22, 23, 24, 25, 26, 27, 28, 29, 30, 31, 32, 33, 6, 34, 35, 37, 38, 39, 40, 41, 42, 43, 44, 45, 46, 47, 48, 49, 50, 51, 52, 53, 54, 55, 56, 57, 58, 59] (by decide +kernel) (by decide +kernel)
set_option maxRecDepth 20000 in
theorem gX7_firstStood_X7_standsNow : GoodIn wsX7_firstStood (wsV RX7 125 RX7 yX7_standsNow wsX7_standsNow) := goodIn_app (goodIn_of _ (by decide +kernel)) ggX7_firstStood_X7_standsNow
set_option maxRecDepth 20000 in
theorem ggX7_firstStood_X0_startOf : GoodIn wsX7_firstStood wsX0_startOf := goodIn_r _ [13, 14, 46, 47, 48, 49] (by decide +kernel) (by decide +kernel)
set_option maxRecDepth 20000 in
theorem gX7_firstStood_X0_startOf : GoodIn wsX7_firstStood (wsV RX7 116 RX0 yX0_startOf wsX0_startOf) := goodIn_app (goodIn_of _ (by decide +kernel)) ggX7_firstStood_X0_startOf
set_option maxRecDepth 20000 in
theorem ggX7_firstStood_X6_walkOf : GoodIn wsX7_firstStood wsX6_walkOf := goodIn_r _ [25, 26, 27, 53, 54, 55, 56, 57, 58, 59] (by decide +kernel) (by decide +kernel)
set_option maxRecDepth 20000 in
theorem gX7_firstStood_X6_walkOf : GoodIn wsX7_firstStood (wsV RX7 163 RX6 yX6_walkOf wsX6_walkOf) := goodIn_app (goodIn_of _ (by decide +kernel)) ggX7_firstStood_X6_walkOf
theorem dX7_firstStood_0 : decode cX7_firstStood 0 = .ok (.aload_n 0, 1) := by decide +kernel
theorem dX7_firstStood_1 : decode cX7_firstStood 1 = .ok (.iload_n 1, 1) := by decide +kernel
theorem dX7_firstStood_2 : decode cX7_firstStood 2 = .ok (.invokevirtual 125, 3) := by decide +kernel
theorem dX7_firstStood_5 : decode cX7_firstStood 5 = .ok (.lconst 0, 1) := by decide +kernel
theorem dX7_firstStood_6 : decode cX7_firstStood 6 = .ok (.lcmp, 1) := by decide +kernel
theorem dX7_firstStood_7 : decode cX7_firstStood 7 = .ok (.ifCond .ne 5, 3) := by decide +kernel
theorem dX7_firstStood_10 : decode cX7_firstStood 10 = .ok (.iconst (-1), 1) := by decide +kernel
theorem dX7_firstStood_11 : decode cX7_firstStood 11 = .ok (.ireturn, 1) := by decide +kernel
theorem dX7_firstStood_12 : decode cX7_firstStood 12 = .ok (.aload_n 0, 1) := by decide +kernel
theorem dX7_firstStood_13 : decode cX7_firstStood 13 = .ok (.getfield 29, 3) := by decide +kernel
theorem dX7_firstStood_16 : decode cX7_firstStood 16 = .ok (.iload_n 1, 1) := by decide +kernel
theorem dX7_firstStood_17 : decode cX7_firstStood 17 = .ok (.invokevirtual 116, 3) := by decide +kernel
theorem dX7_firstStood_20 : decode cX7_firstStood 20 = .ok (.aload_n 0, 1) := by decide +kernel
theorem dX7_firstStood_21 : decode cX7_firstStood 21 = .ok (.getfield 19, 3) := by decide +kernel
theorem dX7_firstStood_24 : decode cX7_firstStood 24 = .ok (.iload_n 1, 1) := by decide +kernel
theorem dX7_firstStood_25 : decode cX7_firstStood 25 = .ok (.invokevirtual 163, 3) := by decide +kernel
theorem dX7_firstStood_28 : decode cX7_firstStood 28 = .ok (.iadd, 1) := by decide +kernel
theorem dX7_firstStood_29 : decode cX7_firstStood 29 = .ok (.aload_n 0, 1) := by decide +kernel
theorem dX7_firstStood_30 : decode cX7_firstStood 30 = .ok (.getfield 29, 3) := by decide +kernel
theorem dX7_firstStood_33 : decode cX7_firstStood 33 = .ok (.getfield 135, 3) := by decide +kernel
theorem dX7_firstStood_36 : decode cX7_firstStood 36 = .ok (.iadd, 1) := by decide +kernel
theorem dX7_firstStood_37 : decode cX7_firstStood 37 = .ok (.ireturn, 1) := by decide +kernel
set_option maxRecDepth 20000 in
theorem ggX7_whoStandIn_X7_standsNow : GoodIn wsX7_whoStandIn wsX7_standsNow := goodIn_r _ [6, 7, 8, 9, 10, 11, 12, 13, 14, 15, 16, 17, 18, 19, 20, 21, 22, 23, 24, 25, 26, 27, 28, 29, 30, 31, 32, 33, 5, 34, 35, 36, 37, 38, 39, 40, 41, 42, 43, 44, 52, 53, 54, 55, 56, 57, 58, 45, 46, 47, 48, 49, 50, 51] (by decide +kernel) (by decide +kernel)
set_option maxRecDepth 20000 in
theorem gX7_whoStandIn_X7_standsNow : GoodIn wsX7_whoStandIn (wsV RX7 125 RX7 yX7_standsNow wsX7_standsNow) := goodIn_app (goodIn_of _ (by decide +kernel)) ggX7_whoStandIn_X7_standsNow
theorem dX7_whoStandIn_0 : decode cX7_whoStandIn 0 = .ok (.iconst 0, 1) := by decide +kernel
theorem dX7_whoStandIn_1 : decode cX7_whoStandIn 1 = .ok (.istore_n 2, 1) := by decide +kernel
theorem dX7_whoStandIn_2 : decode cX7_whoStandIn 2 = .ok (.iconst 0, 1) := by decide +kernel
theorem dX7_whoStandIn_3 : decode cX7_whoStandIn 3 = .ok (.istore_n 3, 1) := by decide +kernel
theorem dX7_whoStandIn_4 : decode cX7_whoStandIn 4 = .ok (.iload_n 3, 1) := by decide +kernel
theorem dX7_whoStandIn_5 : decode cX7_whoStandIn 5 = .ok (.aload_n 0, 1) := by decide +kernel
theorem dX7_whoStandIn_6 : decode cX7_whoStandIn 6 = .ok (.getfield 19, 3) := by decide +kernel
theorem dX7_whoStandIn_9 : decode cX7_whoStandIn 9 = .ok (.getfield 220, 3) := by decide +kernel
theorem dX7_whoStandIn_12 : decode cX7_whoStandIn 12 = .ok (.if_icmp .ge 29, 3) := by decide +kernel
theorem dX7_whoStandIn_15 : decode cX7_whoStandIn 15 = .ok (.aload_n 0, 1) := by decide +kernel
theorem dX7_whoStandIn_16 : decode cX7_whoStandIn 16 = .ok (.iload_n 3, 1) := by decide +kernel
theorem dX7_whoStandIn_17 : decode cX7_whoStandIn 17 = .ok (.invokevirtual 125, 3) := by decide +kernel
theorem dX7_whoStandIn_20 : decode cX7_whoStandIn 20 = .ok (.lconst 1, 1) := by decide +kernel
theorem dX7_whoStandIn_21 : decode cX7_whoStandIn 21 = .ok (.iload_n 1, 1) := by decide +kernel
theorem dX7_whoStandIn_22 : decode cX7_whoStandIn 22 = .ok (.lshl, 1) := by decide +kernel
theorem dX7_whoStandIn_23 : decode cX7_whoStandIn 23 = .ok (.land, 1) := by decide +kernel
theorem dX7_whoStandIn_24 : decode cX7_whoStandIn 24 = .ok (.lconst 0, 1) := by decide +kernel
theorem dX7_whoStandIn_25 : decode cX7_whoStandIn 25 = .ok (.lcmp, 1) := by decide +kernel
theorem dX7_whoStandIn_26 : decode cX7_whoStandIn 26 = .ok (.ifCond .eq 9, 3) := by decide +kernel
theorem dX7_whoStandIn_29 : decode cX7_whoStandIn 29 = .ok (.iload_n 2, 1) := by decide +kernel
theorem dX7_whoStandIn_30 : decode cX7_whoStandIn 30 = .ok (.iconst 1, 1) := by decide +kernel
theorem dX7_whoStandIn_31 : decode cX7_whoStandIn 31 = .ok (.iload_n 3, 1) := by decide +kernel
theorem dX7_whoStandIn_32 : decode cX7_whoStandIn 32 = .ok (.ishl, 1) := by decide +kernel
theorem dX7_whoStandIn_33 : decode cX7_whoStandIn 33 = .ok (.ior, 1) := by decide +kernel
theorem dX7_whoStandIn_34 : decode cX7_whoStandIn 34 = .ok (.istore_n 2, 1) := by decide +kernel
theorem dX7_whoStandIn_35 : decode cX7_whoStandIn 35 = .ok (.iinc 3 1, 3) := by decide +kernel
theorem dX7_whoStandIn_38 : decode cX7_whoStandIn 38 = .ok (.goto (-34), 3) := by decide +kernel
theorem dX7_whoStandIn_41 : decode cX7_whoStandIn 41 = .ok (.iload_n 2, 1) := by decide +kernel
theorem dX7_whoStandIn_42 : decode cX7_whoStandIn 42 = .ok (.ireturn, 1) := by decide +kernel
set_option maxRecDepth 20000 in
theorem ggX7_finesOfAll_X1_fine : GoodIn wsX7_finesOfAll wsX1_fine := goodIn_r _ [8, 9, 10, 11, 7, 12, 13, 14, 15, 16, 17, 18, 19, 20, 21, 22, 23, 24, 25, 26, 27, 28, 29, 30, 31, 32, 33, 34, 35, 36, 37, 38, 39, 40, 41, 42, 43, 44, 45, 46, 47, 48, 49, 50, 51, 52, 53, 54, 55, 56, 57, 58, 59, 60, 61, 62, 63, 64, 65, 66, 67, 68, 69, 70, 71, 72, 73, 74, 75, 76, 77, 78, 79, 80, 81, 82, 83, 84, 85, 106, 107, 108, 102, 103, 104, 105, 95, 96, 97, 98, 99, 100, 101] (by decide +kernel) (by decide +kernel)
set_option maxRecDepth 20000 in
theorem gX7_finesOfAll_X1_fine : GoodIn wsX7_finesOfAll (wsV RX7 138 RX1 yX1_fine wsX1_fine) := goodIn_app (goodIn_of _ (by decide +kernel)) ggX7_finesOfAll_X1_fine
theorem dX7_finesOfAll_0 : decode cX7_finesOfAll 0 = .ok (.iconst 0, 1) := by decide +kernel
theorem dX7_finesOfAll_1 : decode cX7_finesOfAll 1 = .ok (.istore_n 1, 1) := by decide +kernel
theorem dX7_finesOfAll_2 : decode cX7_finesOfAll 2 = .ok (.iconst 0, 1) := by decide +kernel
theorem dX7_finesOfAll_3 : decode cX7_finesOfAll 3 = .ok (.istore_n 2, 1) := by decide +kernel
theorem dX7_finesOfAll_4 : decode cX7_finesOfAll 4 = .ok (.iload_n 2, 1) := by decide +kernel
theorem dX7_finesOfAll_5 : decode cX7_finesOfAll 5 = .ok (.aload_n 0, 1) := by decide +kernel
theorem dX7_finesOfAll_6 : decode cX7_finesOfAll 6 = .ok (.getfield 19, 3) := by decide +kernel
theorem dX7_finesOfAll_9 : decode cX7_finesOfAll 9 = .ok (.getfield 220, 3) := by decide +kernel
theorem dX7_finesOfAll_12 : decode cX7_finesOfAll 12 = .ok (.if_icmp .ge 27, 3) := by decide +kernel
theorem dX7_finesOfAll_15 : decode cX7_finesOfAll 15 = .ok (.iload_n 1, 1) := by decide +kernel
theorem dX7_finesOfAll_16 : decode cX7_finesOfAll 16 = .ok (.aload_n 0, 1) := by decide +kernel
theorem dX7_finesOfAll_17 : decode cX7_finesOfAll 17 = .ok (.getfield 38, 3) := by decide +kernel
theorem dX7_finesOfAll_20 : decode cX7_finesOfAll 20 = .ok (.iload_n 2, 1) := by decide +kernel
theorem dX7_finesOfAll_21 : decode cX7_finesOfAll 21 = .ok (.aload_n 0, 1) := by decide +kernel
theorem dX7_finesOfAll_22 : decode cX7_finesOfAll 22 = .ok (.getfield 29, 3) := by decide +kernel
theorem dX7_finesOfAll_25 : decode cX7_finesOfAll 25 = .ok (.getfield 135, 3) := by decide +kernel
theorem dX7_finesOfAll_28 : decode cX7_finesOfAll 28 = .ok (.invokevirtual 138, 3) := by decide +kernel
theorem dX7_finesOfAll_31 : decode cX7_finesOfAll 31 = .ok (.iadd, 1) := by decide +kernel
theorem dX7_finesOfAll_32 : decode cX7_finesOfAll 32 = .ok (.istore_n 1, 1) := by decide +kernel
theorem dX7_finesOfAll_33 : decode cX7_finesOfAll 33 = .ok (.iinc 2 1, 3) := by decide +kernel
theorem dX7_finesOfAll_36 : decode cX7_finesOfAll 36 = .ok (.goto (-32), 3) := by decide +kernel
theorem dX7_finesOfAll_39 : decode cX7_finesOfAll 39 = .ok (.iload_n 1, 1) := by decide +kernel
theorem dX7_finesOfAll_40 : decode cX7_finesOfAll 40 = .ok (.ireturn, 1) := by decide +kernel
theorem dX7_isWithin_0 : decode cX7_isWithin 0 = .ok (.iload_n 1, 1) := by decide +kernel
theorem dX7_isWithin_1 : decode cX7_isWithin 1 = .ok (.iload_n 0, 1) := by decide +kernel
theorem dX7_isWithin_2 : decode cX7_isWithin 2 = .ok (.if_icmp .gt 12, 3) := by decide +kernel
theorem dX7_isWithin_5 : decode cX7_isWithin 5 = .ok (.iload_n 0, 1) := by decide +kernel
theorem dX7_isWithin_6 : decode cX7_isWithin 6 = .ok (.iload_n 2, 1) := by decide +kernel
theorem dX7_isWithin_7 : decode cX7_isWithin 7 = .ok (.if_icmp .gt 7, 3) := by decide +kernel
theorem dX7_isWithin_10 : decode cX7_isWithin 10 = .ok (.iconst 1, 1) := by decide +kernel
theorem dX7_isWithin_11 : decode cX7_isWithin 11 = .ok (.goto 4, 3) := by decide +kernel
theorem dX7_isWithin_14 : decode cX7_isWithin 14 = .ok (.iconst 0, 1) := by decide +kernel
theorem dX7_isWithin_15 : decode cX7_isWithin 15 = .ok (.ireturn, 1) := by decide +kernel
theorem dX7_span_0 : decode cX7_span 0 = .ok (.iload_n 1, 1) := by decide +kernel
theorem dX7_span_1 : decode cX7_span 1 = .ok (.bipush 59, 2) := by decide +kernel
theorem dX7_span_3 : decode cX7_span 3 = .ok (.if_icmp .ge 7, 3) := by decide +kernel
theorem dX7_span_6 : decode cX7_span 6 = .ok (.iload_n 1, 1) := by decide +kernel
theorem dX7_span_7 : decode cX7_span 7 = .ok (.goto 5, 3) := by decide +kernel
theorem dX7_span_10 : decode cX7_span 10 = .ok (.bipush 59, 2) := by decide +kernel
theorem dX7_span_12 : decode cX7_span 12 = .ok (.istore_n 2, 1) := by decide +kernel
theorem dX7_span_13 : decode cX7_span 13 = .ok (.iload_n 0, 1) := by decide +kernel
theorem dX7_span_14 : decode cX7_span 14 = .ok (.ifCond .lt 8, 3) := by decide +kernel
theorem dX7_span_17 : decode cX7_span 17 = .ok (.iload_n 0, 1) := by decide +kernel
theorem dX7_span_18 : decode cX7_span 18 = .ok (.iload_n 2, 1) := by decide +kernel
theorem dX7_span_19 : decode cX7_span 19 = .ok (.if_icmp .le 5, 3) := by decide +kernel
theorem dX7_span_22 : decode cX7_span 22 = .ok (.lconst 0, 1) := by decide +kernel
theorem dX7_span_23 : decode cX7_span 23 = .ok (.lreturn, 1) := by decide +kernel
theorem dX7_span_24 : decode cX7_span 24 = .ok (.ldc2_w 268, 3) := by decide +kernel
theorem dX7_span_27 : decode cX7_span 27 = .ok (.iload_n 0, 1) := by decide +kernel
theorem dX7_span_28 : decode cX7_span 28 = .ok (.lshl, 1) := by decide +kernel
theorem dX7_span_29 : decode cX7_span 29 = .ok (.ldc2_w 268, 3) := by decide +kernel
theorem dX7_span_32 : decode cX7_span 32 = .ok (.bipush 63, 2) := by decide +kernel
theorem dX7_span_34 : decode cX7_span 34 = .ok (.iload_n 2, 1) := by decide +kernel
theorem dX7_span_35 : decode cX7_span 35 = .ok (.isub, 1) := by decide +kernel
theorem dX7_span_36 : decode cX7_span 36 = .ok (.lushr, 1) := by decide +kernel
theorem dX7_span_37 : decode cX7_span 37 = .ok (.land, 1) := by decide +kernel
theorem dX7_span_38 : decode cX7_span 38 = .ok (.lreturn, 1) := by decide +kernel
theorem dX7_isUnder_0 : decode cX7_isUnder 0 = .ok (.iload_n 0, 1) := by decide +kernel
theorem dX7_isUnder_1 : decode cX7_isUnder 1 = .ok (.istore_n 2, 1) := by decide +kernel
theorem dX7_isUnder_2 : decode cX7_isUnder 2 = .ok (.iconst 0, 1) := by decide +kernel
theorem dX7_isUnder_3 : decode cX7_isUnder 3 = .ok (.istore_n 3, 1) := by decide +kernel
theorem dX7_isUnder_4 : decode cX7_isUnder 4 = .ok (.iload_n 3, 1) := by decide +kernel
theorem dX7_isUnder_5 : decode cX7_isUnder 5 = .ok (.getstatic 155, 3) := by decide +kernel
theorem dX7_isUnder_8 : decode cX7_isUnder 8 = .ok (.arraylength, 1) := by decide +kernel
theorem dX7_isUnder_9 : decode cX7_isUnder 9 = .ok (.if_icmp .ge 36, 3) := by decide +kernel
theorem dX7_isUnder_12 : decode cX7_isUnder 12 = .ok (.iload_n 2, 1) := by decide +kernel
theorem dX7_isUnder_13 : decode cX7_isUnder 13 = .ok (.iload_n 1, 1) := by decide +kernel
theorem dX7_isUnder_14 : decode cX7_isUnder 14 = .ok (.if_icmp .ne 5, 3) := by decide +kernel
theorem dX7_isUnder_17 : decode cX7_isUnder 17 = .ok (.iconst 1, 1) := by decide +kernel
theorem dX7_isUnder_18 : decode cX7_isUnder 18 = .ok (.ireturn, 1) := by decide +kernel
theorem dX7_isUnder_19 : decode cX7_isUnder 19 = .ok (.iload_n 2, 1) := by decide +kernel
theorem dX7_isUnder_20 : decode cX7_isUnder 20 = .ok (.ifCond .lt 11, 3) := by decide +kernel
theorem dX7_isUnder_23 : decode cX7_isUnder 23 = .ok (.iload_n 2, 1) := by decide +kernel
theorem dX7_isUnder_24 : decode cX7_isUnder 24 = .ok (.getstatic 155, 3) := by decide +kernel
theorem dX7_isUnder_27 : decode cX7_isUnder 27 = .ok (.arraylength, 1) := by decide +kernel
theorem dX7_isUnder_28 : decode cX7_isUnder 28 = .ok (.if_icmp .lt 5, 3) := by decide +kernel
theorem dX7_isUnder_31 : decode cX7_isUnder 31 = .ok (.iconst 0, 1) := by decide +kernel
theorem dX7_isUnder_32 : decode cX7_isUnder 32 = .ok (.ireturn, 1) := by decide +kernel
theorem dX7_isUnder_33 : decode cX7_isUnder 33 = .ok (.getstatic 155, 3) := by decide +kernel
theorem dX7_isUnder_36 : decode cX7_isUnder 36 = .ok (.iload_n 2, 1) := by decide +kernel
theorem dX7_isUnder_37 : decode cX7_isUnder 37 = .ok (.iaload, 1) := by decide +kernel
theorem dX7_isUnder_38 : decode cX7_isUnder 38 = .ok (.istore_n 2, 1) := by decide +kernel
theorem dX7_isUnder_39 : decode cX7_isUnder 39 = .ok (.iinc 3 1, 3) := by decide +kernel
theorem dX7_isUnder_42 : decode cX7_isUnder 42 = .ok (.goto (-38), 3) := by decide +kernel
theorem dX7_isUnder_45 : decode cX7_isUnder 45 = .ok (.iconst 0, 1) := by decide +kernel
theorem dX7_isUnder_46 : decode cX7_isUnder 46 = .ok (.ireturn, 1) := by decide +kernel
theorem dX7_eachOther_0 : decode cX7_eachOther 0 = .ok (.lconst 0, 1) := by decide +kernel
theorem dX7_eachOther_1 : decode cX7_eachOther 1 = .ok (.lstore_n 2, 1) := by decide +kernel
theorem dX7_eachOther_2 : decode cX7_eachOther 2 = .ok (.iconst 0, 1) := by decide +kernel
theorem dX7_eachOther_3 : decode cX7_eachOther 3 = .ok (.istore 4, 2) := by decide +kernel
theorem dX7_eachOther_5 : decode cX7_eachOther 5 = .ok (.iconst 0, 1) := by decide +kernel
theorem dX7_eachOther_6 : decode cX7_eachOther 6 = .ok (.istore 5, 2) := by decide +kernel
theorem dX7_eachOther_8 : decode cX7_eachOther 8 = .ok (.iload 5, 2) := by decide +kernel
theorem dX7_eachOther_10 : decode cX7_eachOther 10 = .ok (.bipush 59, 2) := by decide +kernel
theorem dX7_eachOther_12 : decode cX7_eachOther 12 = .ok (.if_icmp .gt 46, 3) := by decide +kernel
theorem dX7_eachOther_15 : decode cX7_eachOther 15 = .ok (.lconst 1, 1) := by decide +kernel
theorem dX7_eachOther_16 : decode cX7_eachOther 16 = .ok (.iload 5, 2) := by decide +kernel
theorem dX7_eachOther_18 : decode cX7_eachOther 18 = .ok (.lshl, 1) := by decide +kernel
theorem dX7_eachOther_19 : decode cX7_eachOther 19 = .ok (.lstore 6, 2) := by decide +kernel
theorem dX7_eachOther_21 : decode cX7_eachOther 21 = .ok (.lload_n 0, 1) := by decide +kernel
theorem dX7_eachOther_22 : decode cX7_eachOther 22 = .ok (.lload 6, 2) := by decide +kernel
theorem dX7_eachOther_24 : decode cX7_eachOther 24 = .ok (.land, 1) := by decide +kernel
theorem dX7_eachOther_25 : decode cX7_eachOther 25 = .ok (.lconst 0, 1) := by decide +kernel
theorem dX7_eachOther_26 : decode cX7_eachOther 26 = .ok (.lcmp, 1) := by decide +kernel
theorem dX7_eachOther_27 : decode cX7_eachOther 27 = .ok (.ifCond .eq 25, 3) := by decide +kernel
theorem dX7_eachOther_30 : decode cX7_eachOther 30 = .ok (.iload 4, 2) := by decide +kernel
theorem dX7_eachOther_32 : decode cX7_eachOther 32 = .ok (.ifCond .eq 8, 3) := by decide +kernel
theorem dX7_eachOther_35 : decode cX7_eachOther 35 = .ok (.lload_n 2, 1) := by decide +kernel
theorem dX7_eachOther_36 : decode cX7_eachOther 36 = .ok (.lload 6, 2) := by decide +kernel
theorem dX7_eachOther_38 : decode cX7_eachOther 38 = .ok (.lor, 1) := by decide +kernel
theorem dX7_eachOther_39 : decode cX7_eachOther 39 = .ok (.lstore_n 2, 1) := by decide +kernel
theorem dX7_eachOther_40 : decode cX7_eachOther 40 = .ok (.iload 4, 2) := by decide +kernel
theorem dX7_eachOther_42 : decode cX7_eachOther 42 = .ok (.ifCond .ne 7, 3) := by decide +kernel
theorem dX7_eachOther_45 : decode cX7_eachOther 45 = .ok (.iconst 1, 1) := by decide +kernel
theorem dX7_eachOther_46 : decode cX7_eachOther 46 = .ok (.goto 4, 3) := by decide +kernel
theorem dX7_eachOther_49 : decode cX7_eachOther 49 = .ok (.iconst 0, 1) := by decide +kernel
theorem dX7_eachOther_50 : decode cX7_eachOther 50 = .ok (.istore 4, 2) := by decide +kernel
theorem dX7_eachOther_52 : decode cX7_eachOther 52 = .ok (.iinc 5 1, 3) := by decide +kernel
theorem dX7_eachOther_55 : decode cX7_eachOther 55 = .ok (.goto (-47), 3) := by decide +kernel
theorem dX7_eachOther_58 : decode cX7_eachOther 58 = .ok (.lload_n 2, 1) := by decide +kernel
theorem dX7_eachOther_59 : decode cX7_eachOther 59 = .ok (.lreturn, 1) := by decide +kernel
set_option maxRecDepth 20000 in
theorem ggX7_waysClear_X7_choose : GoodIn wsX7_waysClear wsX7_choose := goodIn_r _ [4] (by decide +kernel) (by decide +kernel)
set_option maxRecDepth 20000 in
theorem gX7_waysClear_X7_choose : GoodIn wsX7_waysClear (va_wsS RX7 270 yX7_choose wsX7_choose) := goodIn_app (goodIn_of _ (by decide +kernel)) ggX7_waysClear_X7_choose
set_option maxRecDepth 20000 in
theorem ggX7_waysClear_X7_power : GoodIn wsX7_waysClear wsX7_power := goodIn_r _ [7] (by decide +kernel) (by decide +kernel)
set_option maxRecDepth 20000 in
theorem gX7_waysClear_X7_power : GoodIn wsX7_waysClear (va_wsS RX7 245 yX7_power wsX7_power) := goodIn_app (goodIn_of _ (by decide +kernel)) ggX7_waysClear_X7_power
theorem dX7_waysClear_0 : decode cX7_waysClear 0 = .ok (.iconst 0, 1) := by decide +kernel
theorem dX7_waysClear_1 : decode cX7_waysClear 1 = .ok (.istore_n 3, 1) := by decide +kernel
theorem dX7_waysClear_2 : decode cX7_waysClear 2 = .ok (.iload_n 1, 1) := by decide +kernel
theorem dX7_waysClear_3 : decode cX7_waysClear 3 = .ok (.istore 4, 2) := by decide +kernel
theorem dX7_waysClear_5 : decode cX7_waysClear 5 = .ok (.iload 4, 2) := by decide +kernel
theorem dX7_waysClear_7 : decode cX7_waysClear 7 = .ok (.iload_n 0, 1) := by decide +kernel
theorem dX7_waysClear_8 : decode cX7_waysClear 8 = .ok (.if_icmp .gt 37, 3) := by decide +kernel
theorem dX7_waysClear_11 : decode cX7_waysClear 11 = .ok (.iload_n 3, 1) := by decide +kernel
theorem dX7_waysClear_12 : decode cX7_waysClear 12 = .ok (.iload_n 0, 1) := by decide +kernel
theorem dX7_waysClear_13 : decode cX7_waysClear 13 = .ok (.iload 4, 2) := by decide +kernel
theorem dX7_waysClear_15 : decode cX7_waysClear 15 = .ok (.invokestatic 270, 3) := by decide +kernel
theorem dX7_waysClear_18 : decode cX7_waysClear 18 = .ok (.bipush 10, 2) := by decide +kernel
theorem dX7_waysClear_20 : decode cX7_waysClear 20 = .ok (.iload_n 2, 1) := by decide +kernel
theorem dX7_waysClear_21 : decode cX7_waysClear 21 = .ok (.isub, 1) := by decide +kernel
theorem dX7_waysClear_22 : decode cX7_waysClear 22 = .ok (.iload 4, 2) := by decide +kernel
theorem dX7_waysClear_24 : decode cX7_waysClear 24 = .ok (.invokestatic 245, 3) := by decide +kernel
theorem dX7_waysClear_27 : decode cX7_waysClear 27 = .ok (.imul, 1) := by decide +kernel
theorem dX7_waysClear_28 : decode cX7_waysClear 28 = .ok (.iload_n 2, 1) := by decide +kernel
theorem dX7_waysClear_29 : decode cX7_waysClear 29 = .ok (.iload_n 0, 1) := by decide +kernel
theorem dX7_waysClear_30 : decode cX7_waysClear 30 = .ok (.iload 4, 2) := by decide +kernel
theorem dX7_waysClear_32 : decode cX7_waysClear 32 = .ok (.isub, 1) := by decide +kernel
theorem dX7_waysClear_33 : decode cX7_waysClear 33 = .ok (.invokestatic 245, 3) := by decide +kernel
theorem dX7_waysClear_36 : decode cX7_waysClear 36 = .ok (.imul, 1) := by decide +kernel
theorem dX7_waysClear_37 : decode cX7_waysClear 37 = .ok (.iadd, 1) := by decide +kernel
theorem dX7_waysClear_38 : decode cX7_waysClear 38 = .ok (.istore_n 3, 1) := by decide +kernel
theorem dX7_waysClear_39 : decode cX7_waysClear 39 = .ok (.iinc 4 1, 3) := by decide +kernel
theorem dX7_waysClear_42 : decode cX7_waysClear 42 = .ok (.goto (-37), 3) := by decide +kernel
theorem dX7_waysClear_45 : decode cX7_waysClear 45 = .ok (.iload_n 3, 1) := by decide +kernel
theorem dX7_waysClear_46 : decode cX7_waysClear 46 = .ok (.ireturn, 1) := by decide +kernel
theorem dX7_choose_0 : decode cX7_choose 0 = .ok (.iconst 1, 1) := by decide +kernel
theorem dX7_choose_1 : decode cX7_choose 1 = .ok (.istore_n 2, 1) := by decide +kernel
theorem dX7_choose_2 : decode cX7_choose 2 = .ok (.iconst 1, 1) := by decide +kernel
theorem dX7_choose_3 : decode cX7_choose 3 = .ok (.istore_n 3, 1) := by decide +kernel
theorem dX7_choose_4 : decode cX7_choose 4 = .ok (.iload_n 3, 1) := by decide +kernel
theorem dX7_choose_5 : decode cX7_choose 5 = .ok (.iload_n 1, 1) := by decide +kernel
theorem dX7_choose_6 : decode cX7_choose 6 = .ok (.if_icmp .gt 19, 3) := by decide +kernel
theorem dX7_choose_9 : decode cX7_choose 9 = .ok (.iload_n 2, 1) := by decide +kernel
theorem dX7_choose_10 : decode cX7_choose 10 = .ok (.iload_n 0, 1) := by decide +kernel
theorem dX7_choose_11 : decode cX7_choose 11 = .ok (.iload_n 3, 1) := by decide +kernel
theorem dX7_choose_12 : decode cX7_choose 12 = .ok (.isub, 1) := by decide +kernel
theorem dX7_choose_13 : decode cX7_choose 13 = .ok (.iconst 1, 1) := by decide +kernel
theorem dX7_choose_14 : decode cX7_choose 14 = .ok (.iadd, 1) := by decide +kernel
theorem dX7_choose_15 : decode cX7_choose 15 = .ok (.imul, 1) := by decide +kernel
theorem dX7_choose_16 : decode cX7_choose 16 = .ok (.iload_n 3, 1) := by decide +kernel
theorem dX7_choose_17 : decode cX7_choose 17 = .ok (.idiv, 1) := by decide +kernel
theorem dX7_choose_18 : decode cX7_choose 18 = .ok (.istore_n 2, 1) := by decide +kernel
theorem dX7_choose_19 : decode cX7_choose 19 = .ok (.iinc 3 1, 3) := by decide +kernel
theorem dX7_choose_22 : decode cX7_choose 22 = .ok (.goto (-18), 3) := by decide +kernel
theorem dX7_choose_25 : decode cX7_choose 25 = .ok (.iload_n 2, 1) := by decide +kernel
theorem dX7_choose_26 : decode cX7_choose 26 = .ok (.ireturn, 1) := by decide +kernel
theorem dX7_power_0 : decode cX7_power 0 = .ok (.iconst 1, 1) := by decide +kernel
theorem dX7_power_1 : decode cX7_power 1 = .ok (.istore_n 2, 1) := by decide +kernel
theorem dX7_power_2 : decode cX7_power 2 = .ok (.iconst 0, 1) := by decide +kernel
theorem dX7_power_3 : decode cX7_power 3 = .ok (.istore_n 3, 1) := by decide +kernel
theorem dX7_power_4 : decode cX7_power 4 = .ok (.iload_n 3, 1) := by decide +kernel
theorem dX7_power_5 : decode cX7_power 5 = .ok (.iload_n 1, 1) := by decide +kernel
theorem dX7_power_6 : decode cX7_power 6 = .ok (.if_icmp .ge 13, 3) := by decide +kernel
theorem dX7_power_9 : decode cX7_power 9 = .ok (.iload_n 2, 1) := by decide +kernel
theorem dX7_power_10 : decode cX7_power 10 = .ok (.iload_n 0, 1) := by decide +kernel
theorem dX7_power_11 : decode cX7_power 11 = .ok (.imul, 1) := by decide +kernel
theorem dX7_power_12 : decode cX7_power 12 = .ok (.istore_n 2, 1) := by decide +kernel
theorem dX7_power_13 : decode cX7_power 13 = .ok (.iinc 3 1, 3) := by decide +kernel
theorem dX7_power_16 : decode cX7_power 16 = .ok (.goto (-12), 3) := by decide +kernel
theorem dX7_power_19 : decode cX7_power 19 = .ok (.iload_n 2, 1) := by decide +kernel
theorem dX7_power_20 : decode cX7_power 20 = .ok (.ireturn, 1) := by decide +kernel
theorem dX7_commonDivisor_0 : decode cX7_commonDivisor 0 = .ok (.iload_n 0, 1) := by decide +kernel
theorem dX7_commonDivisor_1 : decode cX7_commonDivisor 1 = .ok (.istore_n 2, 1) := by decide +kernel
theorem dX7_commonDivisor_2 : decode cX7_commonDivisor 2 = .ok (.iload_n 1, 1) := by decide +kernel
theorem dX7_commonDivisor_3 : decode cX7_commonDivisor 3 = .ok (.istore_n 3, 1) := by decide +kernel
theorem dX7_commonDivisor_4 : decode cX7_commonDivisor 4 = .ok (.iconst 0, 1) := by decide +kernel
theorem dX7_commonDivisor_5 : decode cX7_commonDivisor 5 = .ok (.istore 4, 2) := by decide +kernel
theorem dX7_commonDivisor_7 : decode cX7_commonDivisor 7 = .ok (.iload 4, 2) := by decide +kernel
theorem dX7_commonDivisor_9 : decode cX7_commonDivisor 9 = .ok (.bipush 64, 2) := by decide +kernel
theorem dX7_commonDivisor_11 : decode cX7_commonDivisor 11 = .ok (.if_icmp .ge 23, 3) := by decide +kernel
theorem dX7_commonDivisor_14 : decode cX7_commonDivisor 14 = .ok (.iload_n 3, 1) := by decide +kernel
theorem dX7_commonDivisor_15 : decode cX7_commonDivisor 15 = .ok (.ifCond .eq 19, 3) := by decide +kernel
theorem dX7_commonDivisor_18 : decode cX7_commonDivisor 18 = .ok (.iload_n 2, 1) := by decide +kernel
theorem dX7_commonDivisor_19 : decode cX7_commonDivisor 19 = .ok (.iload_n 3, 1) := by decide +kernel
theorem dX7_commonDivisor_20 : decode cX7_commonDivisor 20 = .ok (.irem, 1) := by decide +kernel
theorem dX7_commonDivisor_21 : decode cX7_commonDivisor 21 = .ok (.istore 5, 2) := by decide +kernel
theorem dX7_commonDivisor_23 : decode cX7_commonDivisor 23 = .ok (.iload_n 3, 1) := by decide +kernel
theorem dX7_commonDivisor_24 : decode cX7_commonDivisor 24 = .ok (.istore_n 2, 1) := by decide +kernel
theorem dX7_commonDivisor_25 : decode cX7_commonDivisor 25 = .ok (.iload 5, 2) := by decide +kernel
theorem dX7_commonDivisor_27 : decode cX7_commonDivisor 27 = .ok (.istore_n 3, 1) := by decide +kernel
theorem dX7_commonDivisor_28 : decode cX7_commonDivisor 28 = .ok (.iinc 4 1, 3) := by decide +kernel
theorem dX7_commonDivisor_31 : decode cX7_commonDivisor 31 = .ok (.goto (-24), 3) := by decide +kernel
theorem dX7_commonDivisor_34 : decode cX7_commonDivisor 34 = .ok (.iload_n 2, 1) := by decide +kernel
theorem dX7_commonDivisor_35 : decode cX7_commonDivisor 35 = .ok (.ireturn, 1) := by decide +kernel
set_option maxRecDepth 20000 in
theorem ggX8_init_X8_anew : GoodIn wsX8_init wsX8_anew := goodIn_r _ [20, 6, 5, 21, 22, 23, 24, 25, 26, 27, 28, 29, 30, 31, 32, 33, 34, 35, 36, 37, 38] (by decide +kernel) (by decide +kernel)
set_option maxRecDepth 20000 in
theorem gX8_init_X8_anew : GoodIn wsX8_init (wsV RX8 41 RX8 yX8_anew wsX8_anew) := goodIn_app (goodIn_of _ (by decide +kernel)) ggX8_init_X8_anew
theorem dX8_init_0 : decode cX8_init 0 = .ok (.aload_n 0, 1) := by decide +kernel
theorem dX8_init_1 : decode cX8_init 1 = .ok (.invokespecial 1, 3) := by decide +kernel
theorem dX8_init_4 : decode cX8_init 4 = .ok (.aload_n 0, 1) := by decide +kernel
theorem dX8_init_5 : decode cX8_init 5 = .ok (.sipush 145, 3) := by decide +kernel
theorem dX8_init_8 : decode cX8_init 8 = .ok (.newarray .int, 2) := by decide +kernel
theorem dX8_init_10 : decode cX8_init 10 = .ok (.putfield 7, 3) := by decide +kernel
theorem dX8_init_13 : decode cX8_init 13 = .ok (.aload_n 0, 1) := by decide +kernel
theorem dX8_init_14 : decode cX8_init 14 = .ok (.bipush 73, 2) := by decide +kernel
theorem dX8_init_16 : decode cX8_init 16 = .ok (.newarray .int, 2) := by decide +kernel
theorem dX8_init_18 : decode cX8_init 18 = .ok (.putfield 13, 3) := by decide +kernel
theorem dX8_init_21 : decode cX8_init 21 = .ok (.aload_n 0, 1) := by decide +kernel
theorem dX8_init_22 : decode cX8_init 22 = .ok (.sipush 160, 3) := by decide +kernel
theorem dX8_init_25 : decode cX8_init 25 = .ok (.newarray .int, 2) := by decide +kernel
theorem dX8_init_27 : decode cX8_init 27 = .ok (.putfield 16, 3) := by decide +kernel
theorem dX8_init_30 : decode cX8_init 30 = .ok (.aload_n 0, 1) := by decide +kernel
theorem dX8_init_31 : decode cX8_init 31 = .ok (.sipush 145, 3) := by decide +kernel
theorem dX8_init_34 : decode cX8_init 34 = .ok (.newarray .int, 2) := by decide +kernel
theorem dX8_init_36 : decode cX8_init 36 = .ok (.putfield 19, 3) := by decide +kernel
theorem dX8_init_39 : decode cX8_init 39 = .ok (.aload_n 0, 1) := by decide +kernel
theorem dX8_init_40 : decode cX8_init 40 = .ok (.sipush 584, 3) := by decide +kernel
theorem dX8_init_43 : decode cX8_init 43 = .ok (.newarray .int, 2) := by decide +kernel
theorem dX8_init_45 : decode cX8_init 45 = .ok (.putfield 22, 3) := by decide +kernel
theorem dX8_init_48 : decode cX8_init 48 = .ok (.aload_n 0, 1) := by decide +kernel
theorem dX8_init_49 : decode cX8_init 49 = .ok (.iconst 2, 1) := by decide +kernel
theorem dX8_init_50 : decode cX8_init 50 = .ok (.newarray .boolean, 2) := by decide +kernel
theorem dX8_init_52 : decode cX8_init 52 = .ok (.putfield 25, 3) := by decide +kernel
theorem dX8_init_55 : decode cX8_init 55 = .ok (.aload_n 0, 1) := by decide +kernel
theorem dX8_init_56 : decode cX8_init 56 = .ok (.sipush 146, 3) := by decide +kernel
theorem dX8_init_59 : decode cX8_init 59 = .ok (.newarray .int, 2) := by decide +kernel
theorem dX8_init_61 : decode cX8_init 61 = .ok (.putfield 29, 3) := by decide +kernel
theorem dX8_init_64 : decode cX8_init 64 = .ok (.aload_n 0, 1) := by decide +kernel
theorem dX8_init_65 : decode cX8_init 65 = .ok (.bipush 6, 2) := by decide +kernel
theorem dX8_init_67 : decode cX8_init 67 = .ok (.newarray .int, 2) := by decide +kernel
theorem dX8_init_69 : decode cX8_init 69 = .ok (.putfield 32, 3) := by decide +kernel
theorem dX8_init_72 : decode cX8_init 72 = .ok (.aload_n 0, 1) := by decide +kernel
theorem dX8_init_73 : decode cX8_init 73 = .ok (.bipush 6, 2) := by decide +kernel
theorem dX8_init_75 : decode cX8_init 75 = .ok (.newarray .int, 2) := by decide +kernel
theorem dX8_init_77 : decode cX8_init 77 = .ok (.putfield 35, 3) := by decide +kernel
theorem dX8_init_80 : decode cX8_init 80 = .ok (.aload_n 0, 1) := by decide +kernel
theorem dX8_init_81 : decode cX8_init 81 = .ok (.bipush 12, 2) := by decide +kernel
theorem dX8_init_83 : decode cX8_init 83 = .ok (.newarray .int, 2) := by decide +kernel
theorem dX8_init_85 : decode cX8_init 85 = .ok (.putfield 38, 3) := by decide +kernel
theorem dX8_init_88 : decode cX8_init 88 = .ok (.iconst 0, 1) := by decide +kernel
theorem dX8_init_89 : decode cX8_init 89 = .ok (.istore_n 1, 1) := by decide +kernel
theorem dX8_init_90 : decode cX8_init 90 = .ok (.iload_n 1, 1) := by decide +kernel
theorem dX8_init_91 : decode cX8_init 91 = .ok (.bipush 60, 2) := by decide +kernel
theorem dX8_init_93 : decode cX8_init 93 = .ok (.if_icmp .ge 19, 3) := by decide +kernel
theorem dX8_init_96 : decode cX8_init 96 = .ok (.aload_n 0, 1) := by decide +kernel
theorem dX8_init_97 : decode cX8_init 97 = .ok (.getfield 7, 3) := by decide +kernel
theorem dX8_init_100 : decode cX8_init 100 = .ok (.bipush 25, 2) := by decide +kernel
theorem dX8_init_102 : decode cX8_init 102 = .ok (.iload_n 1, 1) := by decide +kernel
theorem dX8_init_103 : decode cX8_init 103 = .ok (.iadd, 1) := by decide +kernel
theorem dX8_init_104 : decode cX8_init 104 = .ok (.iconst (-1), 1) := by decide +kernel
theorem dX8_init_105 : decode cX8_init 105 = .ok (.iastore, 1) := by decide +kernel
theorem dX8_init_106 : decode cX8_init 106 = .ok (.iinc 1 1, 3) := by decide +kernel
theorem dX8_init_109 : decode cX8_init 109 = .ok (.goto (-19), 3) := by decide +kernel
theorem dX8_init_112 : decode cX8_init 112 = .ok (.aload_n 0, 1) := by decide +kernel
theorem dX8_init_113 : decode cX8_init 113 = .ok (.invokevirtual 41, 3) := by decide +kernel
theorem dX8_init_116 : decode cX8_init 116 = .ok (.return_, 1) := by decide +kernel
theorem dX8_in_0 : decode cX8_in 0 = .ok (.lload_n 0, 1) := by decide +kernel
theorem dX8_in_1 : decode cX8_in 1 = .ok (.lload_n 2, 1) := by decide +kernel
theorem dX8_in_2 : decode cX8_in 2 = .ok (.lcmp, 1) := by decide +kernel
theorem dX8_in_3 : decode cX8_in 3 = .ok (.ifCond .lt 14, 3) := by decide +kernel
theorem dX8_in_6 : decode cX8_in 6 = .ok (.lload_n 0, 1) := by decide +kernel
theorem dX8_in_7 : decode cX8_in 7 = .ok (.lload 4, 2) := by decide +kernel
theorem dX8_in_9 : decode cX8_in 9 = .ok (.lcmp, 1) := by decide +kernel
theorem dX8_in_10 : decode cX8_in 10 = .ok (.ifCond .gt 7, 3) := by decide +kernel
theorem dX8_in_13 : decode cX8_in 13 = .ok (.iconst 1, 1) := by decide +kernel
theorem dX8_in_14 : decode cX8_in 14 = .ok (.goto 4, 3) := by decide +kernel
theorem dX8_in_17 : decode cX8_in 17 = .ok (.iconst 0, 1) := by decide +kernel
theorem dX8_in_18 : decode cX8_in 18 = .ok (.ireturn, 1) := by decide +kernel
theorem dX8_has_0 : decode cX8_has 0 = .ok (.iload_n 0, 1) := by decide +kernel
theorem dX8_has_1 : decode cX8_has 1 = .ok (.iload_n 1, 1) := by decide +kernel
theorem dX8_has_2 : decode cX8_has 2 = .ok (.ishr, 1) := by decide +kernel
theorem dX8_has_3 : decode cX8_has 3 = .ok (.iconst 1, 1) := by decide +kernel
theorem dX8_has_4 : decode cX8_has 4 = .ok (.iand, 1) := by decide +kernel
theorem dX8_has_5 : decode cX8_has 5 = .ok (.iconst 1, 1) := by decide +kernel
theorem dX8_has_6 : decode cX8_has 6 = .ok (.if_icmp .ne 7, 3) := by decide +kernel
theorem dX8_has_9 : decode cX8_has 9 = .ok (.iconst 1, 1) := by decide +kernel
theorem dX8_has_10 : decode cX8_has 10 = .ok (.goto 4, 3) := by decide +kernel
theorem dX8_has_13 : decode cX8_has 13 = .ok (.iconst 0, 1) := by decide +kernel
theorem dX8_has_14 : decode cX8_has 14 = .ok (.ireturn, 1) := by decide +kernel
theorem dX8_ones_0 : decode cX8_ones 0 = .ok (.iconst 0, 1) := by decide +kernel
theorem dX8_ones_1 : decode cX8_ones 1 = .ok (.istore_n 1, 1) := by decide +kernel
theorem dX8_ones_2 : decode cX8_ones 2 = .ok (.iload_n 0, 1) := by decide +kernel
theorem dX8_ones_3 : decode cX8_ones 3 = .ok (.istore_n 2, 1) := by decide +kernel
theorem dX8_ones_4 : decode cX8_ones 4 = .ok (.iload_n 2, 1) := by decide +kernel
theorem dX8_ones_5 : decode cX8_ones 5 = .ok (.ifCond .eq 15, 3) := by decide +kernel
theorem dX8_ones_8 : decode cX8_ones 8 = .ok (.iinc 1 1, 3) := by decide +kernel
theorem dX8_ones_11 : decode cX8_ones 11 = .ok (.iload_n 2, 1) := by decide +kernel
theorem dX8_ones_12 : decode cX8_ones 12 = .ok (.iload_n 2, 1) := by decide +kernel
theorem dX8_ones_13 : decode cX8_ones 13 = .ok (.iconst 1, 1) := by decide +kernel
theorem dX8_ones_14 : decode cX8_ones 14 = .ok (.isub, 1) := by decide +kernel
theorem dX8_ones_15 : decode cX8_ones 15 = .ok (.iand, 1) := by decide +kernel
theorem dX8_ones_16 : decode cX8_ones 16 = .ok (.istore_n 2, 1) := by decide +kernel
theorem dX8_ones_17 : decode cX8_ones 17 = .ok (.goto (-13), 3) := by decide +kernel
theorem dX8_ones_20 : decode cX8_ones 20 = .ok (.iload_n 1, 1) := by decide +kernel
theorem dX8_ones_21 : decode cX8_ones 21 = .ok (.ireturn, 1) := by decide +kernel
set_option maxRecDepth 20000 in
theorem ggX8_isPerson_X8_in : GoodIn wsX8_isPerson wsX8_in := goodIn_r _ [5] (by decide +kernel) (by decide +kernel)
set_option maxRecDepth 20000 in
theorem gX8_isPerson_X8_in : GoodIn wsX8_isPerson (va_wsS RX8 44 yX8_in wsX8_in) := goodIn_app (goodIn_of _ (by decide +kernel)) ggX8_isPerson_X8_in
theorem dX8_isPerson_0 : decode cX8_isPerson 0 = .ok (.iload_n 1, 1) := by decide +kernel
theorem dX8_isPerson_1 : decode cX8_isPerson 1 = .ok (.i2l, 1) := by decide +kernel
theorem dX8_isPerson_2 : decode cX8_isPerson 2 = .ok (.lconst 0, 1) := by decide +kernel
theorem dX8_isPerson_3 : decode cX8_isPerson 3 = .ok (.aload_n 0, 1) := by decide +kernel
theorem dX8_isPerson_4 : decode cX8_isPerson 4 = .ok (.getfield 7, 3) := by decide +kernel
theorem dX8_isPerson_7 : decode cX8_isPerson 7 = .ok (.iconst 0, 1) := by decide +kernel
theorem dX8_isPerson_8 : decode cX8_isPerson 8 = .ok (.iaload, 1) := by decide +kernel
theorem dX8_isPerson_9 : decode cX8_isPerson 9 = .ok (.iconst 1, 1) := by decide +kernel
theorem dX8_isPerson_10 : decode cX8_isPerson 10 = .ok (.isub, 1) := by decide +kernel
theorem dX8_isPerson_11 : decode cX8_isPerson 11 = .ok (.i2l, 1) := by decide +kernel
theorem dX8_isPerson_12 : decode cX8_isPerson 12 = .ok (.invokestatic 44, 3) := by decide +kernel
theorem dX8_isPerson_15 : decode cX8_isPerson 15 = .ok (.ireturn, 1) := by decide +kernel
set_option maxRecDepth 20000 in
theorem ggX8_write_X8_in : GoodIn wsX8_write wsX8_in := goodIn_r _ [7] (by decide +kernel) (by decide +kernel)
set_option maxRecDepth 20000 in
theorem gX8_write_X8_in : GoodIn wsX8_write (va_wsS RX8 44 yX8_in wsX8_in) := goodIn_app (goodIn_of _ (by decide +kernel)) ggX8_write_X8_in
theorem dX8_write_0 : decode cX8_write 0 = .ok (.iload_n 1, 1) := by decide +kernel
theorem dX8_write_1 : decode cX8_write 1 = .ok (.i2l, 1) := by decide +kernel
theorem dX8_write_2 : decode cX8_write 2 = .ok (.lconst 0, 1) := by decide +kernel
theorem dX8_write_3 : decode cX8_write 3 = .ok (.ldc2_w 48, 3) := by decide +kernel
theorem dX8_write_6 : decode cX8_write 6 = .ok (.invokestatic 44, 3) := by decide +kernel
theorem dX8_write_9 : decode cX8_write 9 = .ok (.ifCond .ne 6, 3) := by decide +kernel
theorem dX8_write_12 : decode cX8_write 12 = .ok (.bipush (-3), 2) := by decide +kernel
theorem dX8_write_14 : decode cX8_write 14 = .ok (.ireturn, 1) := by decide +kernel
theorem dX8_write_15 : decode cX8_write 15 = .ok (.aload_n 0, 1) := by decide +kernel
theorem dX8_write_16 : decode cX8_write 16 = .ok (.getfield 50, 3) := by decide +kernel
theorem dX8_write_19 : decode cX8_write 19 = .ok (.sipush 160, 3) := by decide +kernel
theorem dX8_write_22 : decode cX8_write 22 = .ok (.if_icmp .ne 6, 3) := by decide +kernel
theorem dX8_write_25 : decode cX8_write 25 = .ok (.bipush (-5), 2) := by decide +kernel
theorem dX8_write_27 : decode cX8_write 27 = .ok (.ireturn, 1) := by decide +kernel
theorem dX8_write_28 : decode cX8_write 28 = .ok (.aload_n 0, 1) := by decide +kernel
theorem dX8_write_29 : decode cX8_write 29 = .ok (.getfield 16, 3) := by decide +kernel
theorem dX8_write_32 : decode cX8_write 32 = .ok (.aload_n 0, 1) := by decide +kernel
theorem dX8_write_33 : decode cX8_write 33 = .ok (.getfield 50, 3) := by decide +kernel
theorem dX8_write_36 : decode cX8_write 36 = .ok (.iload_n 1, 1) := by decide +kernel
theorem dX8_write_37 : decode cX8_write 37 = .ok (.iastore, 1) := by decide +kernel
theorem dX8_write_38 : decode cX8_write 38 = .ok (.aload_n 0, 1) := by decide +kernel
theorem dX8_write_39 : decode cX8_write 39 = .ok (.dup, 1) := by decide +kernel
theorem dX8_write_40 : decode cX8_write 40 = .ok (.getfield 50, 3) := by decide +kernel
theorem dX8_write_43 : decode cX8_write 43 = .ok (.iconst 1, 1) := by decide +kernel
theorem dX8_write_44 : decode cX8_write 44 = .ok (.iadd, 1) := by decide +kernel
theorem dX8_write_45 : decode cX8_write 45 = .ok (.putfield 50, 3) := by decide +kernel
theorem dX8_write_48 : decode cX8_write 48 = .ok (.aload_n 0, 1) := by decide +kernel
theorem dX8_write_49 : decode cX8_write 49 = .ok (.getfield 50, 3) := by decide +kernel
theorem dX8_write_52 : decode cX8_write 52 = .ok (.ireturn, 1) := by decide +kernel
theorem dX8_erase_0 : decode cX8_erase 0 = .ok (.aload_n 0, 1) := by decide +kernel
theorem dX8_erase_1 : decode cX8_erase 1 = .ok (.getfield 50, 3) := by decide +kernel
theorem dX8_erase_4 : decode cX8_erase 4 = .ok (.istore_n 1, 1) := by decide +kernel
theorem dX8_erase_5 : decode cX8_erase 5 = .ok (.aload_n 0, 1) := by decide +kernel
theorem dX8_erase_6 : decode cX8_erase 6 = .ok (.iconst 0, 1) := by decide +kernel
theorem dX8_erase_7 : decode cX8_erase 7 = .ok (.putfield 50, 3) := by decide +kernel
theorem dX8_erase_10 : decode cX8_erase 10 = .ok (.iload_n 1, 1) := by decide +kernel
theorem dX8_erase_11 : decode cX8_erase 11 = .ok (.ireturn, 1) := by decide +kernel
theorem dX8_letterAt_0 : decode cX8_letterAt 0 = .ok (.iload_n 1, 1) := by decide +kernel
theorem dX8_letterAt_1 : decode cX8_letterAt 1 = .ok (.aload_n 0, 1) := by decide +kernel
theorem dX8_letterAt_2 : decode cX8_letterAt 2 = .ok (.getfield 50, 3) := by decide +kernel
theorem dX8_letterAt_5 : decode cX8_letterAt 5 = .ok (.if_icmp .ge 12, 3) := by decide +kernel
theorem dX8_letterAt_8 : decode cX8_letterAt 8 = .ok (.aload_n 0, 1) := by decide +kernel
theorem dX8_letterAt_9 : decode cX8_letterAt 9 = .ok (.getfield 16, 3) := by decide +kernel
theorem dX8_letterAt_12 : decode cX8_letterAt 12 = .ok (.iload_n 1, 1) := by decide +kernel
theorem dX8_letterAt_13 : decode cX8_letterAt 13 = .ok (.iaload, 1) := by decide +kernel
theorem dX8_letterAt_14 : decode cX8_letterAt 14 = .ok (.goto 4, 3) := by decide +kernel
theorem dX8_letterAt_17 : decode cX8_letterAt 17 = .ok (.iconst 0, 1) := by decide +kernel
theorem dX8_letterAt_18 : decode cX8_letterAt 18 = .ok (.ireturn, 1) := by decide +kernel
set_option maxRecDepth 20000 in
theorem ggX8_nextToken_X8_letterAt : GoodIn wsX8_nextToken wsX8_letterAt := goodIn_r _ [15, 4, 10, 19, 20, 21, 22, 23, 24, 25, 26, 27, 28, 29, 30, 31, 32, 33, 34, 35, 36] (by decide +kernel) (by decide +kernel)
set_option maxRecDepth 20000 in
theorem gX8_nextToken_X8_letterAt : GoodIn wsX8_nextToken (wsV RX8 57 RX8 yX8_letterAt wsX8_letterAt) := goodIn_app (goodIn_of _ (by decide +kernel)) ggX8_nextToken_X8_letterAt
set_option maxRecDepth 20000 in
theorem ggX8_nextToken_X8_in : GoodIn wsX8_nextToken wsX8_in := goodIn_r _ [18] (by decide +kernel) (by decide +kernel)
set_option maxRecDepth 20000 in
theorem gX8_nextToken_X8_in : GoodIn wsX8_nextToken (va_wsS RX8 44 yX8_in wsX8_in) := goodIn_app (goodIn_of _ (by decide +kernel)) ggX8_nextToken_X8_in
theorem dX8_nextToken_0 : decode cX8_nextToken 0 = .ok (.aload_n 0, 1) := by decide +kernel
theorem dX8_nextToken_1 : decode cX8_nextToken 1 = .ok (.aload_n 0, 1) := by decide +kernel
theorem dX8_nextToken_2 : decode cX8_nextToken 2 = .ok (.getfield 54, 3) := by decide +kernel
theorem dX8_nextToken_5 : decode cX8_nextToken 5 = .ok (.invokevirtual 57, 3) := by decide +kernel
theorem dX8_nextToken_8 : decode cX8_nextToken 8 = .ok (.bipush 32, 2) := by decide +kernel
theorem dX8_nextToken_10 : decode cX8_nextToken 10 = .ok (.if_icmp .ne 16, 3) := by decide +kernel
theorem dX8_nextToken_13 : decode cX8_nextToken 13 = .ok (.aload_n 0, 1) := by decide +kernel
theorem dX8_nextToken_14 : decode cX8_nextToken 14 = .ok (.dup, 1) := by decide +kernel
theorem dX8_nextToken_15 : decode cX8_nextToken 15 = .ok (.getfield 54, 3) := by decide +kernel
theorem dX8_nextToken_18 : decode cX8_nextToken 18 = .ok (.iconst 1, 1) := by decide +kernel
theorem dX8_nextToken_19 : decode cX8_nextToken 19 = .ok (.iadd, 1) := by decide +kernel
theorem dX8_nextToken_20 : decode cX8_nextToken 20 = .ok (.putfield 54, 3) := by decide +kernel
theorem dX8_nextToken_23 : decode cX8_nextToken 23 = .ok (.goto (-23), 3) := by decide +kernel
theorem dX8_nextToken_26 : decode cX8_nextToken 26 = .ok (.aload_n 0, 1) := by decide +kernel
theorem dX8_nextToken_27 : decode cX8_nextToken 27 = .ok (.aload_n 0, 1) := by decide +kernel
theorem dX8_nextToken_28 : decode cX8_nextToken 28 = .ok (.getfield 54, 3) := by decide +kernel
theorem dX8_nextToken_31 : decode cX8_nextToken 31 = .ok (.putfield 61, 3) := by decide +kernel
theorem dX8_nextToken_34 : decode cX8_nextToken 34 = .ok (.aload_n 0, 1) := by decide +kernel
theorem dX8_nextToken_35 : decode cX8_nextToken 35 = .ok (.iconst 0, 1) := by decide +kernel
theorem dX8_nextToken_36 : decode cX8_nextToken 36 = .ok (.putfield 64, 3) := by decide +kernel
theorem dX8_nextToken_39 : decode cX8_nextToken 39 = .ok (.aload_n 0, 1) := by decide +kernel
theorem dX8_nextToken_40 : decode cX8_nextToken 40 = .ok (.aload_n 0, 1) := by decide +kernel
theorem dX8_nextToken_41 : decode cX8_nextToken 41 = .ok (.getfield 54, 3) := by decide +kernel
theorem dX8_nextToken_44 : decode cX8_nextToken 44 = .ok (.aload_n 0, 1) := by decide +kernel
theorem dX8_nextToken_45 : decode cX8_nextToken 45 = .ok (.getfield 50, 3) := by decide +kernel
theorem dX8_nextToken_48 : decode cX8_nextToken 48 = .ok (.if_icmp .ne 7, 3) := by decide +kernel
theorem dX8_nextToken_51 : decode cX8_nextToken 51 = .ok (.iconst 3, 1) := by decide +kernel
theorem dX8_nextToken_52 : decode cX8_nextToken 52 = .ok (.goto 4, 3) := by decide +kernel
theorem dX8_nextToken_55 : decode cX8_nextToken 55 = .ok (.iconst 0, 1) := by decide +kernel
theorem dX8_nextToken_56 : decode cX8_nextToken 56 = .ok (.putfield 67, 3) := by decide +kernel
theorem dX8_nextToken_59 : decode cX8_nextToken 59 = .ok (.aload_n 0, 1) := by decide +kernel
theorem dX8_nextToken_60 : decode cX8_nextToken 60 = .ok (.getfield 67, 3) := by decide +kernel
theorem dX8_nextToken_63 : decode cX8_nextToken 63 = .ok (.iconst 2, 1) := by decide +kernel
theorem dX8_nextToken_64 : decode cX8_nextToken 64 = .ok (.if_icmp .ge 42, 3) := by decide +kernel
theorem dX8_nextToken_67 : decode cX8_nextToken 67 = .ok (.aload_n 0, 1) := by decide +kernel
theorem dX8_nextToken_68 : decode cX8_nextToken 68 = .ok (.aload_n 0, 1) := by decide +kernel
theorem dX8_nextToken_69 : decode cX8_nextToken 69 = .ok (.getfield 54, 3) := by decide +kernel
theorem dX8_nextToken_72 : decode cX8_nextToken 72 = .ok (.invokevirtual 57, 3) := by decide +kernel
theorem dX8_nextToken_75 : decode cX8_nextToken 75 = .ok (.i2l, 1) := by decide +kernel
theorem dX8_nextToken_76 : decode cX8_nextToken 76 = .ok (.ldc2_w 70, 3) := by decide +kernel
theorem dX8_nextToken_79 : decode cX8_nextToken 79 = .ok (.ldc2_w 72, 3) := by decide +kernel
theorem dX8_nextToken_82 : decode cX8_nextToken 82 = .ok (.invokestatic 44, 3) := by decide +kernel
theorem dX8_nextToken_85 : decode cX8_nextToken 85 = .ok (.ifCond .eq 21, 3) := by decide +kernel
theorem dX8_nextToken_88 : decode cX8_nextToken 88 = .ok (.aload_n 0, 1) := by decide +kernel
theorem dX8_nextToken_89 : decode cX8_nextToken 89 = .ok (.iconst 1, 1) := by decide +kernel
theorem dX8_nextToken_90 : decode cX8_nextToken 90 = .ok (.putfield 67, 3) := by decide +kernel
theorem dX8_nextToken_93 : decode cX8_nextToken 93 = .ok (.aload_n 0, 1) := by decide +kernel
theorem dX8_nextToken_94 : decode cX8_nextToken 94 = .ok (.dup, 1) := by decide +kernel
theorem dX8_nextToken_95 : decode cX8_nextToken 95 = .ok (.getfield 54, 3) := by decide +kernel
theorem dX8_nextToken_98 : decode cX8_nextToken 98 = .ok (.iconst 1, 1) := by decide +kernel
theorem dX8_nextToken_99 : decode cX8_nextToken 99 = .ok (.iadd, 1) := by decide +kernel
theorem dX8_nextToken_100 : decode cX8_nextToken 100 = .ok (.putfield 54, 3) := by decide +kernel
theorem dX8_nextToken_103 : decode cX8_nextToken 103 = .ok (.goto (-44), 3) := by decide +kernel
theorem dX8_nextToken_106 : decode cX8_nextToken 106 = .ok (.aload_n 0, 1) := by decide +kernel
theorem dX8_nextToken_107 : decode cX8_nextToken 107 = .ok (.getfield 67, 3) := by decide +kernel
theorem dX8_nextToken_110 : decode cX8_nextToken 110 = .ok (.iconst 1, 1) := by decide +kernel
theorem dX8_nextToken_111 : decode cX8_nextToken 111 = .ok (.if_icmp .eq 82, 3) := by decide +kernel
theorem dX8_nextToken_114 : decode cX8_nextToken 114 = .ok (.aload_n 0, 1) := by decide +kernel
theorem dX8_nextToken_115 : decode cX8_nextToken 115 = .ok (.aload_n 0, 1) := by decide +kernel
theorem dX8_nextToken_116 : decode cX8_nextToken 116 = .ok (.getfield 54, 3) := by decide +kernel
theorem dX8_nextToken_119 : decode cX8_nextToken 119 = .ok (.invokevirtual 57, 3) := by decide +kernel
theorem dX8_nextToken_122 : decode cX8_nextToken 122 = .ok (.i2l, 1) := by decide +kernel
theorem dX8_nextToken_123 : decode cX8_nextToken 123 = .ok (.ldc2_w 74, 3) := by decide +kernel
theorem dX8_nextToken_126 : decode cX8_nextToken 126 = .ok (.ldc2_w 76, 3) := by decide +kernel
theorem dX8_nextToken_129 : decode cX8_nextToken 129 = .ok (.invokestatic 44, 3) := by decide +kernel
theorem dX8_nextToken_132 : decode cX8_nextToken 132 = .ok (.ifCond .eq 61, 3) := by decide +kernel
theorem dX8_nextToken_135 : decode cX8_nextToken 135 = .ok (.aload_n 0, 1) := by decide +kernel
theorem dX8_nextToken_136 : decode cX8_nextToken 136 = .ok (.aload_n 0, 1) := by decide +kernel
theorem dX8_nextToken_137 : decode cX8_nextToken 137 = .ok (.getfield 64, 3) := by decide +kernel
theorem dX8_nextToken_140 : decode cX8_nextToken 140 = .ok (.bipush 99, 2) := by decide +kernel
