theorem dX7_whoStandIn_1 : decode cX7_whoStandIn 1 = .ok (.istore_n 2, 1) := by decide +kernel
theorem dX7_whoStandIn_2 : decode cX7_whoStandIn 2 = .ok (.iconst 0, 1) := by decide +kernel
theorem dX7_whoStandIn_3 : decode cX7_whoStandIn 3 = .ok (.istore_n 3, 1) := by decide +kernel
theorem dX7_whoStandIn_4 : decode cX7_whoStandIn 4 = .ok (.iload_n 3, 1) := by decide +kernel
theorem dX7_whoStandIn_5 : decode cX7_whoStandIn 5 = .ok (.aload_n 0, 1) := by decide +kernel
theorem dX7_whoStandIn_6 : decode cX7_whoStandIn 6 = .ok (.getfield 19, 3) := by decide +kernel
theorem dX7_whoStandIn_9 : decode cX7_whoStandIn 9 = .ok (.getfield 220, 3) := by decide +kernel
theorem dX7_whoStandIn_12 : decode cX7_whoStandIn 12 = .ok (.if_icmp .ge 29, 3) := by decide +kernel
theorem dX7_whoStandIn_15 : decode cX7_whoStandIn 15 = .ok (.aload_n 0, 1) := by decide +kernel
theorem dX7_whoStandIn_16 : decode cX7_whoStandIn 16 = .ok (.iload_n 3, 1) := by decide +kernel
theorem dX7_whoStandIn_17 : decode cX7_whoStandIn 17 = .ok (.invokevirtual 125, 3) := by decide +kernel
theorem dX7_whoStandIn_20 : decode cX7_whoStandIn 20 = .ok (.lconst 1, 1) := by decide +kernel
theorem dX7_whoStandIn_21 : decode cX7_whoStandIn 21 = .ok (.iload_n 1, 1) := by decide +kernel
theorem dX7_whoStandIn_22 : decode cX7_whoStandIn 22 = .ok (.lshl, 1) := by decide +kernel
theorem dX7_whoStandIn_23 : decode cX7_whoStandIn 23 = .ok (.land, 1) := by decide +kernel
theorem dX7_whoStandIn_24 : decode cX7_whoStandIn 24 = .ok (.lconst 0, 1) := by decide +kernel
theorem dX7_whoStandIn_25 : decode cX7_whoStandIn 25 = .ok (.lcmp, 1) := by decide +kernel
theorem dX7_whoStandIn_26 : decode cX7_whoStandIn 26 = .ok (.ifCond .eq 9, 3) := by decide +kernel
theorem dX7_whoStandIn_29 : decode cX7_whoStandIn 29 = .ok (.iload_n 2, 1) := by decide +kernel
theorem dX7_whoStandIn_30 : decode cX7_whoStandIn 30 = .ok (.iconst 1, 1) := by decide +kernel
theorem dX7_whoStandIn_31 : decode cX7_whoStandIn 31 = .ok (.iload_n 3, 1) := by decide +kernel
theorem dX7_whoStandIn_32 : decode cX7_whoStandIn 32 = .ok (.ishl, 1) := by decide +kernel
theorem dX7_whoStandIn_33 : decode cX7_whoStandIn 33 = .ok (.ior, 1) := by decide +kernel
theorem dX7_whoStandIn_34 : decode cX7_whoStandIn 34 = .ok (.istore_n 2, 1) := by decide +kernel
theorem dX7_whoStandIn_35 : decode cX7_whoStandIn 35 = .ok (.iinc 3 1, 3) := by decide +kernel
theorem dX7_whoStandIn_38 : decode cX7_whoStandIn 38 = .ok (.goto (-34), 3) := by decide +kernel
theorem dX7_whoStandIn_41 : decode cX7_whoStandIn 41 = .ok (.iload_n 2, 1) := by decide +kernel
theorem dX7_whoStandIn_42 : decode cX7_whoStandIn 42 = .ok (.ireturn, 1) := by decide +kernel
set_option maxRecDepth 20000 in
theorem ggX7_finesOfAll_X1_fine : GoodIn wsX7_finesOfAll wsX1_fine := goodIn_r _ [8, 9, 10, 11, 7, 12, 13, 14, 15, 16, 17, 18, 19, 20, 21, 22, 23, 24, 25, 26, 27, 28, 29, 30, 31, 32, 33, 34, 35, 36, 37, 38, 39, 40, 41, 42, 43, 44, 45, 46, 47, 48, 49, 50, 51, 52, 53, 54, 55, 56, 57, 58, 59, 60, 61, 62, 63, 64, 65, 66, 67, 68, 69, 70, 71, 72, 73, 74, 75, 76, 77, 78, 79, 80, 81, 82, 83, 84, 85, 106, 107, 108, 102, 103, 104, 105, 95, 96, 97, 98, 99, 100, 101] (by decide +kernel) (by decide +kernel)
set_option maxRecDepth 20000 in
theorem gX7_finesOfAll_X1_fine : GoodIn wsX7_finesOfAll (wsV RX7 138 RX1 yX1_fine wsX1_fine) := goodIn_app (goodIn_of _ (by decide +kernel)) ggX7_finesOfAll_X1_fine
theorem dX7_finesOfAll_0 : decode cX7_finesOfAll 0 = .ok (.iconst 0, 1) := by decide +kernel
theorem dX7_finesOfAll_1 : decode cX7_finesOfAll 1 = .ok (.istore_n 1, 1) := by decide +kernel
theorem dX7_finesOfAll_2 : decode cX7_finesOfAll 2 = .ok (.iconst 0, 1) := by decide +kernel
theorem dX7_finesOfAll_3 : decode cX7_finesOfAll 3 = .ok (.istore_n 2, 1) := by decide +kernel
theorem dX7_finesOfAll_4 : decode cX7_finesOfAll 4 = .ok (.iload_n 2, 1) := by decide +kernel
theorem dX7_finesOfAll_5 : decode cX7_finesOfAll 5 = .ok (.aload_n 0, 1) := by decide +kernel
theorem dX7_finesOfAll_6 : decode cX7_finesOfAll 6 = .ok (.getfield 19, 3) := by decide +kernel
theorem dX7_finesOfAll_9 : decode cX7_finesOfAll 9 = .ok (.getfield 220, 3) := by decide +kernel
theorem dX7_finesOfAll_12 : decode cX7_finesOfAll 12 = .ok (.if_icmp .ge 27, 3) := by decide +kernel
theorem dX7_finesOfAll_15 : decode cX7_finesOfAll 15 = .ok (.iload_n 1, 1) := by decide +kernel
theorem dX7_finesOfAll_16 : decode cX7_finesOfAll 16 = .ok (.aload_n 0, 1) := by decide +kernel
theorem dX7_finesOfAll_17 : decode cX7_finesOfAll 17 = .ok (.getfield 38, 3) := by decide +kernel
theorem dX7_finesOfAll_20 : decode cX7_finesOfAll 20 = .ok (.iload_n 2, 1) := by decide +kernel
theorem dX7_finesOfAll_21 : decode cX7_finesOfAll 21 = .ok (.aload_n 0, 1) := by decide +kernel
theorem dX7_finesOfAll_22 : decode cX7_finesOfAll 22 = .ok (.getfield 29, 3) := by decide +kernel
theorem dX7_finesOfAll_25 : decode cX7_finesOfAll 25 = .ok (.getfield 135, 3) := by decide +kernel
theorem dX7_finesOfAll_28 : decode cX7_finesOfAll 28 = .ok (.invokevirtual 138, 3) := by decide +kernel
theorem dX7_finesOfAll_31 : decode cX7_finesOfAll 31 = .ok (.iadd, 1) := by decide +kernel
theorem dX7_finesOfAll_32 : decode cX7_finesOfAll 32 = .ok (.istore_n 1, 1) := by decide +kernel
theorem dX7_finesOfAll_33 : decode cX7_finesOfAll 33 = .ok (.iinc 2 1, 3) := by decide +kernel
theorem dX7_finesOfAll_36 : decode cX7_finesOfAll 36 = .ok (.goto (-32), 3) := by decide +kernel
theorem dX7_finesOfAll_39 : decode cX7_finesOfAll 39 = .ok (.iload_n 1, 1) := by decide +kernel
theorem dX7_finesOfAll_40 : decode cX7_finesOfAll 40 = .ok (.ireturn, 1) := by decide +kernel
theorem dX7_isWithin_0 : decode cX7_isWithin 0 = .ok (.iload_n 1, 1) := by decide +kernel
theorem dX7_isWithin_1 : decode cX7_isWithin 1 = .ok (.iload_n 0, 1) := by decide +kernel
theorem dX7_isWithin_2 : decode cX7_isWithin 2 = .ok (.if_icmp .gt 12, 3) := by decide +kernel
theorem dX7_isWithin_5 : decode cX7_isWithin 5 = .ok (.iload_n 0, 1) := by decide +kernel
theorem dX7_isWithin_6 : decode cX7_isWithin 6 = .ok (.iload_n 2, 1) := by decide +kernel
theorem dX7_isWithin_7 : decode cX7_isWithin 7 = .ok (.if_icmp .gt 7, 3) := by decide +kernel
theorem dX7_isWithin_10 : decode cX7_isWithin 10 = .ok (.iconst 1, 1) := by decide +kernel
theorem dX7_isWithin_11 : decode cX7_isWithin 11 = .ok (.goto 4, 3) := by decide +kernel
theorem dX7_isWithin_14 : decode cX7_isWithin 14 = .ok (.iconst 0, 1) := by decide +kernel
theorem dX7_isWithin_15 : decode cX7_isWithin 15 = .ok (.ireturn, 1) := by decide +kernel
theorem dX7_span_0 : decode cX7_span 0 = .ok (.iload_n 1, 1) := by decide +kernel
theorem dX7_span_1 : decode cX7_span 1 = .ok (.bipush 59, 2) := by decide +kernel
theorem dX7_span_3 : decode cX7_span 3 = .ok (.if_icmp .ge 7, 3) := by decide +kernel
theorem dX7_span_6 : decode cX7_span 6 = .ok (.iload_n 1, 1) := by decide +kernel
theorem dX7_span_7 : decode cX7_span 7 = .ok (.goto 5, 3) := by decide +kernel
theorem dX7_span_10 : decode cX7_span 10 = .ok (.bipush 59, 2) := by decide +kernel
theorem dX7_span_12 : decode cX7_span 12 = .ok (.istore_n 2, 1) := by decide +kernel
theorem dX7_span_13 : decode cX7_span 13 = .ok (.iload_n 0, 1) := by decide +kernel
theorem dX7_span_14 : decode cX7_span 14 = .ok (.ifCond .lt 8, 3) := by decide +kernel
theorem dX7_span_17 : decode cX7_span 17 = .ok (.iload_n 0, 1) := by decide +kernel
theorem dX7_span_18 : decode cX7_span 18 = .ok (.iload_n 2, 1) := by decide +kernel
theorem dX7_span_19 : decode cX7_span 19 = .ok (.if_icmp .le 5, 3) := by decide +kernel
theorem dX7_span_22 : decode cX7_span 22 = .ok (.lconst 0, 1) := by decide +kernel
theorem dX7_span_23 : decode cX7_span 23 = .ok (.lreturn, 1) := by decide +kernel
theorem dX7_span_24 : decode cX7_span 24 = .ok (.ldc2_w 268, 3) := by decide +kernel
theorem dX7_span_27 : decode cX7_span 27 = .ok (.iload_n 0, 1) := by decide +kernel
theorem dX7_span_28 : decode cX7_span 28 = .ok (.lshl, 1) := by decide +kernel
theorem dX7_span_29 : decode cX7_span 29 = .ok (.ldc2_w 268, 3) := by decide +kernel
theorem dX7_span_32 : decode cX7_span 32 = .ok (.bipush 63, 2) := by decide +kernel
theorem dX7_span_34 : decode cX7_span 34 = .ok (.iload_n 2, 1) := by decide +kernel
theorem dX7_span_35 : decode cX7_span 35 = .ok (.isub, 1) := by decide +kernel
theorem dX7_span_36 : decode cX7_span 36 = .ok (.lushr, 1) := by decide +kernel
theorem dX7_span_37 : decode cX7_span 37 = .ok (.land, 1) := by decide +kernel
theorem dX7_span_38 : decode cX7_span 38 = .ok (.lreturn, 1) := by decide +kernel
theorem dX7_isUnder_0 : decode cX7_isUnder 0 = .ok (.iload_n 0, 1) := by decide +kernel
theorem dX7_isUnder_1 : decode cX7_isUnder 1 = .ok (.istore_n 2, 1) := by decide +kernel
theorem dX7_isUnder_2 : decode cX7_isUnder 2 = .ok (.iconst 0, 1) := by decide +kernel
theorem dX7_isUnder_3 : decode cX7_isUnder 3 = .ok (.istore_n 3, 1) := by decide +kernel
theorem dX7_isUnder_4 : decode cX7_isUnder 4 = .ok (.iload_n 3, 1) := by decide +kernel
theorem dX7_isUnder_5 : decode cX7_isUnder 5 = .ok (.getstatic 155, 3) := by decide +kernel
theorem dX7_isUnder_8 : decode cX7_isUnder 8 = .ok (.arraylength, 1) := by decide +kernel
theorem dX7_isUnder_9 : decode cX7_isUnder 9 = .ok (.if_icmp .ge 36, 3) := by decide +kernel
theorem dX7_isUnder_12 : decode cX7_isUnder 12 = .ok (.iload_n 2, 1) := by decide +kernel
theorem dX7_isUnder_13 : decode cX7_isUnder 13 = .ok (.iload_n 1, 1) := by decide +kernel
theorem dX7_isUnder_14 : decode cX7_isUnder 14 = .ok (.if_icmp .ne 5, 3) := by decide +kernel
theorem dX7_isUnder_17 : decode cX7_isUnder 17 = .ok (.iconst 1, 1) := by decide +kernel
theorem dX7_isUnder_18 : decode cX7_isUnder 18 = .ok (.ireturn, 1) := by decide +kernel
theorem dX7_isUnder_19 : decode cX7_isUnder 19 = .ok (.iload_n 2, 1) := by decide +kernel
theorem dX7_isUnder_20 : decode cX7_isUnder 20 = .ok (.ifCond .lt 11, 3) := by decide +kernel
theorem dX7_isUnder_23 : decode cX7_isUnder 23 = .ok (.iload_n 2, 1) := by decide +kernel
theorem dX7_isUnder_24 : decode cX7_isUnder 24 = .ok (.getstatic 155, 3) := by decide +kernel
theorem dX7_isUnder_27 : decode cX7_isUnder 27 = .ok (.arraylength, 1) := by decide +kernel
theorem dX7_isUnder_28 : decode cX7_isUnder 28 = .ok (.if_icmp .lt 5, 3) := by decide +kernel
theorem dX7_isUnder_31 : decode cX7_isUnder 31 = .ok (.iconst 0, 1) := by decide +kernel
theorem dX7_isUnder_32 : decode cX7_isUnder 32 = .ok (.ireturn, 1) := by decide +kernel
theorem dX7_isUnder_33 : decode cX7_isUnder 33 = .ok (.getstatic 155, 3) := by decide +kernel
theorem dX7_isUnder_36 : decode cX7_isUnder 36 = .ok (.iload_n 2, 1) := by decide +kernel
theorem dX7_isUnder_37 : decode cX7_isUnder 37 = .ok (.iaload, 1) := by decide +kernel
theorem dX7_isUnder_38 : decode cX7_isUnder 38 = .ok (.istore_n 2, 1) := by decide +kernel
theorem dX7_isUnder_39 : decode cX7_isUnder 39 = .ok (.iinc 3 1, 3) := by decide +kernel
theorem dX7_isUnder_42 : decode cX7_isUnder 42 = .ok (.goto (-38), 3) := by decide +kernel
theorem dX7_isUnder_45 : decode cX7_isUnder 45 = .ok (.iconst 0, 1) := by decide +kernel
theorem dX7_isUnder_46 : decode cX7_isUnder 46 = .ok (.ireturn, 1) := by decide +kernel
theorem dX7_eachOther_0 : decode cX7_eachOther 0 = .ok (.lconst 0, 1) := by decide +kernel
theorem dX7_eachOther_1 : decode cX7_eachOther 1 = .ok (.lstore_n 2, 1) := by decide +kernel
theorem dX7_eachOther_2 : decode cX7_eachOther 2 = .ok (.iconst 0, 1) := by decide +kernel
theorem dX7_eachOther_3 : decode cX7_eachOther 3 = .ok (.istore 4, 2) := by decide +kernel
theorem dX7_eachOther_5 : decode cX7_eachOther 5 = .ok (.iconst 0, 1) := by decide +kernel
theorem dX7_eachOther_6 : decode cX7_eachOther 6 = .ok (.istore 5, 2) := by decide +kernel
theorem dX7_eachOther_8 : decode cX7_eachOther 8 = .ok (.iload 5, 2) := by decide +kernel
theorem dX7_eachOther_10 : decode cX7_eachOther 10 = .ok (.bipush 59, 2) := by decide +kernel
theorem dX7_eachOther_12 : decode cX7_eachOther 12 = .ok (.if_icmp .gt 46, 3) := by decide +kernel
theorem dX7_eachOther_15 : decode cX7_eachOther 15 = .ok (.lconst 1, 1) := by decide +kernel
theorem dX7_eachOther_16 : decode cX7_eachOther 16 = .ok (.iload 5, 2) := by decide +kernel
theorem dX7_eachOther_18 : decode cX7_eachOther 18 = .ok (.lshl, 1) := by decide +kernel
theorem dX7_eachOther_19 : decode cX7_eachOther 19 = .ok (.lstore 6, 2) := by decide +kernel
theorem dX7_eachOther_21 : decode cX7_eachOther 21 = .ok (.lload_n 0, 1) := by decide +kernel
theorem dX7_eachOther_22 : decode cX7_eachOther 22 = .ok (.lload 6, 2) := by decide +kernel
theorem dX7_eachOther_24 : decode cX7_eachOther 24 = .ok (.land, 1) := by decide +kernel
theorem dX7_eachOther_25 : decode cX7_eachOther 25 = .ok (.lconst 0, 1) := by decide +kernel
theorem dX7_eachOther_26 : decode cX7_eachOther 26 = .ok (.lcmp, 1) := by decide +kernel
theorem dX7_eachOther_27 : decode cX7_eachOther 27 = .ok (.ifCond .eq 25, 3) := by decide +kernel
theorem dX7_eachOther_30 : decode cX7_eachOther 30 = .ok (.iload 4, 2) := by decide +kernel
theorem dX7_eachOther_32 : decode cX7_eachOther 32 = .ok (.ifCond .eq 8, 3) := by decide +kernel
theorem dX7_eachOther_35 : decode cX7_eachOther 35 = .ok (.lload_n 2, 1) := by decide +kernel
theorem dX7_eachOther_36 : decode cX7_eachOther 36 = .ok (.lload 6, 2) := by decide +kernel
theorem dX7_eachOther_38 : decode cX7_eachOther 38 = .ok (.lor, 1) := by decide +kernel
theorem dX7_eachOther_39 : decode cX7_eachOther 39 = .ok (.lstore_n 2, 1) := by decide +kernel
theorem dX7_eachOther_40 : decode cX7_eachOther 40 = .ok (.iload 4, 2) := by decide +kernel
theorem dX7_eachOther_42 : decode cX7_eachOther 42 = .ok (.ifCond .ne 7, 3) := by decide +kernel
theorem dX7_eachOther_45 : decode cX7_eachOther 45 = .ok (.iconst 1, 1) := by decide +kernel
theorem dX7_eachOther_46 : decode cX7_eachOther 46 = .ok (.goto 4, 3) := by decide +kernel
theorem dX7_eachOther_49 : decode cX7_eachOther 49 = .ok (.iconst 0, 1) := by decide +kernel
theorem dX7_eachOther_50 : decode cX7_eachOther 50 = .ok (.istore 4, 2) := by decide +kernel
theorem dX7_eachOther_52 : decode cX7_eachOther 52 = .ok (.iinc 5 1, 3) := by decide +kernel
theorem dX7_eachOther_55 : decode cX7_eachOther 55 = .ok (.goto (-47), 3) := by decide +kernel
theorem dX7_eachOther_58 : decode cX7_eachOther 58 = .ok (.lload_n 2, 1) := by decide +kernel
theorem dX7_eachOther_59 : decode cX7_eachOther 59 = .ok (.lreturn, 1) := by decide +kernel
set_option maxRecDepth 20000 in
theorem ggX7_waysClear_X7_choose : GoodIn wsX7_waysClear wsX7_choose := goodIn_r _ [4] (by decide +kernel) (by decide +kernel)
set_option maxRecDepth 20000 in
theorem gX7_waysClear_X7_choose : GoodIn wsX7_waysClear (va_wsS RX7 270 yX7_choose wsX7_choose) := goodIn_app (goodIn_of _ (by decide +kernel)) ggX7_waysClear_X7_choose
set_option maxRecDepth 20000 in
theorem ggX7_waysClear_X7_power : GoodIn wsX7_waysClear wsX7_power := goodIn_r _ [7] (by decide +kernel) (by decide +kernel)
set_option maxRecDepth 20000 in
theorem gX7_waysClear_X7_power : GoodIn wsX7_waysClear (va_wsS RX7 245 yX7_power wsX7_power) := goodIn_app (goodIn_of _ (by decide +kernel)) ggX7_waysClear_X7_power
theorem dX7_waysClear_0 : decode cX7_waysClear 0 = .ok (.iconst 0, 1) := by decide +kernel
theorem dX7_waysClear_1 : decode cX7_waysClear 1 = .ok (.istore_n 3, 1) := by decide +kernel
theorem dX7_waysClear_2 : decode cX7_waysClear 2 = .ok (.iload_n 1, 1) := by decide +kernel
theorem dX7_waysClear_3 : decode cX7_waysClear 3 = .ok (.istore 4, 2) := by decide +kernel
theorem dX7_waysClear_5 : decode cX7_waysClear 5 = .ok (.iload 4, 2) := by decide +kernel
theorem dX7_waysClear_7 : decode cX7_waysClear 7 = .ok (.iload_n 0, 1) := by decide +kernel
theorem dX7_waysClear_8 : decode cX7_waysClear 8 = .ok (.if_icmp .gt 37, 3) := by decide +kernel
theorem dX7_waysClear_11 : decode cX7_waysClear 11 = .ok (.iload_n 3, 1) := by decide +kernel
theorem dX7_waysClear_12 : decode cX7_waysClear 12 = .ok (.iload_n 0, 1) := by decide +kernel
theorem dX7_waysClear_13 : decode cX7_waysClear 13 = .ok (.iload 4, 2) := by decide +kernel
theorem dX7_waysClear_15 : decode cX7_waysClear 15 = .ok (.invokestatic 270, 3) := by decide +kernel
theorem dX7_waysClear_18 : decode cX7_waysClear 18 = .ok (.bipush 10, 2) := by decide +kernel
theorem dX7_waysClear_20 : decode cX7_waysClear 20 = .ok (.iload_n 2, 1) := by decide +kernel
theorem dX7_waysClear_21 : decode cX7_waysClear 21 = .ok (.isub, 1) := by decide +kernel
theorem dX7_waysClear_22 : decode cX7_waysClear 22 = .ok (.iload 4, 2) := by decide +kernel
theorem dX7_waysClear_24 : decode cX7_waysClear 24 = .ok (.invokestatic 245, 3) := by decide +kernel
theorem dX7_waysClear_27 : decode cX7_waysClear 27 = .ok (.imul, 1) := by decide +kernel
theorem dX7_waysClear_28 : decode cX7_waysClear 28 = .ok (.iload_n 2, 1) := by decide +kernel
theorem dX7_waysClear_29 : decode cX7_waysClear 29 = .ok (.iload_n 0, 1) := by decide +kernel
theorem dX7_waysClear_30 : decode cX7_waysClear 30 = .ok (.iload 4, 2) := by decide +kernel
theorem dX7_waysClear_32 : decode cX7_waysClear 32 = .ok (.isub, 1) := by decide +kernel
theorem dX7_waysClear_33 : decode cX7_waysClear 33 = .ok (.invokestatic 245, 3) := by decide +kernel
theorem dX7_waysClear_36 : decode cX7_waysClear 36 = .ok (.imul, 1) := by decide +kernel
theorem dX7_waysClear_37 : decode cX7_waysClear 37 = .ok (.iadd, 1) := by decide +kernel
theorem dX7_waysClear_38 : decode cX7_waysClear 38 = .ok (.istore_n 3, 1) := by decide +kernel
theorem dX7_waysClear_39 : decode cX7_waysClear 39 = .ok (.iinc 4 1, 3) := by decide +kernel
theorem dX7_waysClear_42 : decode cX7_waysClear 42 = .ok (.goto (-37), 3) := by decide +kernel
theorem dX7_waysClear_45 : decode cX7_waysClear 45 = .ok (.iload_n 3, 1) := by decide +kernel
theorem dX7_waysClear_46 : decode cX7_waysClear 46 = .ok (.ireturn, 1) := by decide +kernel
theorem dX7_choose_0 : decode cX7_choose 0 = .ok (.iconst 1, 1) := by decide +kernel
theorem dX7_choose_1 : decode cX7_choose 1 = .ok (.istore_n 2, 1) := by decide +kernel
theorem dX7_choose_2 : decode cX7_choose 2 = .ok (.iconst 1, 1) := by decide +kernel
theorem dX7_choose_3 : decode cX7_choose 3 = .ok (.istore_n 3, 1) := by decide +kernel
theorem dX7_choose_4 : decode cX7_choose 4 = .ok (.iload_n 3, 1) := by decide +kernel
theorem dX7_choose_5 : decode cX7_choose 5 = .ok (.iload_n 1, 1) := by decide +kernel
theorem dX7_choose_6 : decode cX7_choose 6 = .ok (.if_icmp .gt 19, 3) := by decide +kernel
theorem dX7_choose_9 : decode cX7_choose 9 = .ok (.iload_n 2, 1) := by decide +kernel
theorem dX7_choose_10 : decode cX7_choose 10 = .ok (.iload_n 0, 1) := by decide +kernel
theorem dX7_choose_11 : decode cX7_choose 11 = .ok (.iload_n 3, 1) := by decide +kernel
theorem dX7_choose_12 : decode cX7_choose 12 = .ok (.isub, 1) := by decide +kernel
theorem dX7_choose_13 : decode cX7_choose 13 = .ok (.iconst 1, 1) := by decide +kernel
theorem dX7_choose_14 : decode cX7_choose 14 = .ok (.iadd, 1) := by decide +kernel
theorem dX7_choose_15 : decode cX7_choose 15 = .ok (.imul, 1) := by decide +kernel
theorem dX7_choose_16 : decode cX7_choose 16 = .ok (.iload_n 3, 1) := by decide +kernel
theorem dX7_choose_17 : decode cX7_choose 17 = .ok (.idiv, 1) := by decide +kernel
theorem dX7_choose_18 : decode cX7_choose 18 = .ok (.istore_n 2, 1) := by decide +kernel
theorem dX7_choose_19 : decode cX7_choose 19 = .ok (.iinc 3 1, 3) := by decide +kernel
theorem dX7_choose_22 : decode cX7_choose 22 = .ok (.goto (-18), 3) := by decide +kernel
theorem dX7_choose_25 : decode cX7_choose 25 = .ok (.iload_n 2, 1) := by decide +kernel
theorem dX7_choose_26 : decode cX7_choose 26 = .ok (.ireturn, 1) := by decide +kernel
theorem dX7_power_0 : decode cX7_power 0 = .ok (.iconst 1, 1) := by decide +kernel
theorem dX7_power_1 : decode cX7_power 1 = .ok (.istore_n 2, 1) := by decide +kernel
theorem dX7_power_2 : decode cX7_power 2 = .ok (.iconst 0, 1) := by decide +kernel
theorem dX7_power_3 : decode cX7_power 3 = .ok (.istore_n 3, 1) := by decide +kernel
theorem dX7_power_4 : decode cX7_power 4 = .ok (.iload_n 3, 1) := by decide +kernel
theorem dX7_power_5 : decode cX7_power 5 = .ok (.iload_n 1, 1) := by decide +kernel
theorem dX7_power_6 : decode cX7_power 6 = .ok (.if_icmp .ge 13, 3) := by decide +kernel
theorem dX7_power_9 : decode cX7_power 9 = .ok (.iload_n 2, 1) := by decide +kernel
theorem dX7_power_10 : decode cX7_power 10 = .ok (.iload_n 0, 1) := by decide +kernel
theorem dX7_power_11 : decode cX7_power 11 = .ok (.imul, 1) := by decide +kernel
theorem dX7_power_12 : decode cX7_power 12 = .ok (.istore_n 2, 1) := by decide +kernel
theorem dX7_power_13 : decode cX7_power 13 = .ok (.iinc 3 1, 3) := by decide +kernel
theorem dX7_power_16 : decode cX7_power 16 = .ok (.goto (-12), 3) := by decide +kernel
theorem dX7_power_19 : decode cX7_power 19 = .ok (.iload_n 2, 1) := by decide +kernel
theorem dX7_power_20 : decode cX7_power 20 = .ok (.ireturn, 1) := by decide +kernel
theorem dX7_commonDivisor_0 : decode cX7_commonDivisor 0 = .ok (.iload_n 0, 1) := by decide +kernel
theorem dX7_commonDivisor_1 : decode cX7_commonDivisor 1 = .ok (.istore_n 2, 1) := by decide +kernel
theorem dX7_commonDivisor_2 : decode cX7_commonDivisor 2 = .ok (.iload_n 1, 1) := by decide +kernel
theorem dX7_commonDivisor_3 : decode cX7_commonDivisor 3 = .ok (.istore_n 3, 1) := by decide +kernel
theorem dX7_commonDivisor_4 : decode cX7_commonDivisor 4 = .ok (.iconst 0, 1) := by decide +kernel
theorem dX7_commonDivisor_5 : decode cX7_commonDivisor 5 = .ok (.istore 4, 2) := by decide +kernel
theorem dX7_commonDivisor_7 : decode cX7_commonDivisor 7 = .ok (.iload 4, 2) := by decide +kernel
theorem dX7_commonDivisor_9 : decode cX7_commonDivisor 9 = .ok (.bipush 64, 2) := by decide +kernel
theorem dX7_commonDivisor_11 : decode cX7_commonDivisor 11 = .ok (.if_icmp .ge 23, 3) := by decide +kernel
theorem dX7_commonDivisor_14 : decode cX7_commonDivisor 14 = .ok (.iload_n 3, 1) := by decide +kernel
theorem dX7_commonDivisor_15 : decode cX7_commonDivisor 15 = .ok (.ifCond .eq 19, 3) := by decide +kernel
theorem dX7_commonDivisor_18 : decode cX7_commonDivisor 18 = .ok (.iload_n 2, 1) := by decide +kernel
theorem dX7_commonDivisor_19 : decode cX7_commonDivisor 19 = .ok (.iload_n 3, 1) := by decide +kernel
theorem dX7_commonDivisor_20 : decode cX7_commonDivisor 20 = .ok (.irem, 1) := by decide +kernel
theorem dX7_commonDivisor_21 : decode cX7_commonDivisor 21 = .ok (.istore 5, 2) := by decide +kernel
theorem dX7_commonDivisor_23 : decode cX7_commonDivisor 23 = .ok (.iload_n 3, 1) := by decide +kernel
theorem dX7_commonDivisor_24 : decode cX7_commonDivisor 24 = .ok (.istore_n 2, 1) := by decide +kernel
theorem dX7_commonDivisor_25 : decode cX7_commonDivisor 25 = .ok (.iload 5, 2) := by decide +kernel
theorem dX7_commonDivisor_27 : decode cX7_commonDivisor 27 = .ok (.istore_n 3, 1) := by decide +kernel
theorem dX7_commonDivisor_28 : decode cX7_commonDivisor 28 = .ok (.iinc 4 1, 3) := by decide +kernel
theorem dX7_commonDivisor_31 : decode cX7_commonDivisor 31 = .ok (.goto (-24), 3) := by decide +kernel
theorem dX7_commonDivisor_34 : decode cX7_commonDivisor 34 = .ok (.iload_n 2, 1) := by decide +kernel
theorem dX7_commonDivisor_35 : decode cX7_commonDivisor 35 = .ok (.ireturn, 1) := by decide +kernel
set_option maxRecDepth 20000 in
theorem ggX8_init_X8_anew : GoodIn wsX8_init wsX8_anew := goodIn_r _ [20, 6, 5, 21, 22, 23, 24, 25, 26, 27, 28, 29, 30, 31, 32, 33, 34, 35, 36, 37, 38] (by decide +kernel) (by decide +kernel)
set_option maxRecDepth 20000 in
theorem gX8_init_X8_anew : GoodIn wsX8_init (wsV RX8 41 RX8 yX8_anew wsX8_anew) := goodIn_app (goodIn_of _ (by decide +kernel)) ggX8_init_X8_anew
theorem dX8_init_0 : decode cX8_init 0 = .ok (.aload_n 0, 1) := by decide +kernel
theorem dX8_init_1 : decode cX8_init 1 = .ok (.invokespecial 1, 3) := by decide +kernel
theorem dX8_init_4 : decode cX8_init 4 = .ok (.aload_n 0, 1) := by decide +kernel
theorem dX8_init_5 : decode cX8_init 5 = .ok (.sipush 145, 3) := by decide +kernel
theorem dX8_init_8 : decode cX8_init 8 = .ok (.newarray .int, 2) := by decide +kernel
theorem dX8_init_10 : decode cX8_init 10 = .ok (.putfield 7, 3) := by decide +kernel
theorem dX8_init_13 : decode cX8_init 13 = .ok (.aload_n 0, 1) := by decide +kernel
theorem dX8_init_14 : decode cX8_init 14 = .ok (.bipush 73, 2) := by decide +kernel
theorem dX8_init_16 : decode cX8_init 16 = .ok (.newarray .int, 2) := by decide +kernel
theorem dX8_init_18 : decode cX8_init 18 = .ok (.putfield 13, 3) := by decide +kernel
theorem dX8_init_21 : decode cX8_init 21 = .ok (.aload_n 0, 1) := by decide +kernel
theorem dX8_init_22 : decode cX8_init 22 = .ok (.sipush 160, 3) := by decide +kernel
theorem dX8_init_25 : decode cX8_init 25 = .ok (.newarray .int, 2) := by decide +kernel
theorem dX8_init_27 : decode cX8_init 27 = .ok (.putfield 16, 3) := by decide +kernel
theorem dX8_init_30 : decode cX8_init 30 = .ok (.aload_n 0, 1) := by decide +kernel
theorem dX8_init_31 : decode cX8_init 31 = .ok (.sipush 145, 3) := by decide +kernel
theorem dX8_init_34 : decode cX8_init 34 = .ok (.newarray .int, 2) := by decide +kernel
theorem dX8_init_36 : decode cX8_init 36 = .ok (.putfield 19, 3) := by decide +kernel
theorem dX8_init_39 : decode cX8_init 39 = .ok (.aload_n 0, 1) := by decide +kernel
theorem dX8_init_40 : decode cX8_init 40 = .ok (.sipush 584, 3) := by decide +kernel
theorem dX8_init_43 : decode cX8_init 43 = .ok (.newarray .int, 2) := by decide +kernel
theorem dX8_init_45 : decode cX8_init 45 = .ok (.putfield 22, 3) := by decide +kernel
theorem dX8_init_48 : decode cX8_init 48 = .ok (.aload_n 0, 1) := by decide +kernel
theorem dX8_init_49 : decode cX8_init 49 = .ok (.iconst 2, 1) := by decide +kernel
theorem dX8_init_50 : decode cX8_init 50 = .ok (.newarray .boolean, 2) := by decide +kernel
theorem dX8_init_52 : decode cX8_init 52 = .ok (.putfield 25, 3) := by decide +kernel
theorem dX8_init_55 : decode cX8_init 55 = .ok (.aload_n 0, 1) := by decide +kernel
theorem dX8_init_56 : decode cX8_init 56 = .ok (.sipush 146, 3) := by decide +kernel
theorem dX8_init_59 : decode cX8_init 59 = .ok (.newarray .int, 2) := by decide +kernel
theorem dX8_init_61 : decode cX8_init 61 = .ok (.putfield 29, 3) := by decide +kernel
theorem dX8_init_64 : decode cX8_init 64 = .ok (.aload_n 0, 1) := by decide +kernel
theorem dX8_init_65 : decode cX8_init 65 = .ok (.bipush 6, 2) := by decide +kernel
theorem dX8_init_67 : decode cX8_init 67 = .ok (.newarray .int, 2) := by decide +kernel
theorem dX8_init_69 : decode cX8_init 69 = .ok (.putfield 32, 3) := by decide +kernel
theorem dX8_init_72 : decode cX8_init 72 = .ok (.aload_n 0, 1) := by decide +kernel
theorem dX8_init_73 : decode cX8_init 73 = .ok (.bipush 6, 2) := by decide +kernel
theorem dX8_init_75 : decode cX8_init 75 = .ok (.newarray .int, 2) := by decide +kernel
theorem dX8_init_77 : decode cX8_init 77 = .ok (.putfield 35, 3) := by decide +kernel
theorem dX8_init_80 : decode cX8_init 80 = .ok (.aload_n 0, 1) := by decide +kernel
theorem dX8_init_81 : decode cX8_init 81 = .ok (.bipush 12, 2) := by decide +kernel
theorem dX8_init_83 : decode cX8_init 83 = .ok (.newarray .int, 2) := by decide +kernel
theorem dX8_init_85 : decode cX8_init 85 = .ok (.putfield 38, 3) := by decide +kernel
theorem dX8_init_88 : decode cX8_init 88 = .ok (.iconst 0, 1) := by decide +kernel
theorem dX8_init_89 : decode cX8_init 89 = .ok (.istore_n 1, 1) := by decide +kernel
theorem dX8_init_90 : decode cX8_init 90 = .ok (.iload_n 1, 1) := by decide +kernel
theorem dX8_init_91 : decode cX8_init 91 = .ok (.bipush 60, 2) := by decide +kernel
theorem dX8_init_93 : decode cX8_init 93 = .ok (.if_icmp .ge 19, 3) := by decide +kernel
theorem dX8_init_96 : decode cX8_init 96 = .ok (.aload_n 0, 1) := by decide +kernel
theorem dX8_init_97 : decode cX8_init 97 = .ok (.getfield 7, 3) := by decide +kernel
theorem dX8_init_100 : decode cX8_init 100 = .ok (.bipush 25, 2) := by decide +kernel
theorem dX8_init_102 : decode cX8_init 102 = .ok (.iload_n 1, 1) := by decide +kernel
theorem dX8_init_103 : decode cX8_init 103 = .ok (.iadd, 1) := by decide +kernel
theorem dX8_init_104 : decode cX8_init 104 = .ok (.iconst (-1), 1) := by decide +kernel
theorem dX8_init_105 : decode cX8_init 105 = .ok (.iastore, 1) := by decide +kernel
theorem dX8_init_106 : decode cX8_init 106 = .ok (.iinc 1 1, 3) := by decide +kernel
theorem dX8_init_109 : decode cX8_init 109 = .ok (.goto (-19), 3) := by decide +kernel
theorem dX8_init_112 : decode cX8_init 112 = .ok (.aload_n 0, 1) := by decide +kernel
theorem dX8_init_113 : decode cX8_init 113 = .ok (.invokevirtual 41, 3) := by decide +kernel
theorem dX8_init_116 : decode cX8_init 116 = .ok (.return_, 1) := by decide +kernel
theorem dX8_in_0 : decode cX8_in 0 = .ok (.lload_n 0, 1) := by decide +kernel
theorem dX8_in_1 : decode cX8_in 1 = .ok (.lload_n 2, 1) := by decide +kernel
theorem dX8_in_2 : decode cX8_in 2 = .ok (.lcmp, 1) := by decide +kernel
theorem dX8_in_3 : decode cX8_in 3 = .ok (.ifCond .lt 14, 3) := by decide +kernel
theorem dX8_in_6 : decode cX8_in 6 = .ok (.lload_n 0, 1) := by decide +kernel
theorem dX8_in_7 : decode cX8_in 7 = .ok (.lload 4, 2) := by decide +kernel
theorem dX8_in_9 : decode cX8_in 9 = .ok (.lcmp, 1) := by decide +kernel
theorem dX8_in_10 : decode cX8_in 10 = .ok (.ifCond .gt 7, 3) := by decide +kernel
theorem dX8_in_13 : decode cX8_in 13 = .ok (.iconst 1, 1) := by decide +kernel
theorem dX8_in_14 : decode cX8_in 14 = .ok (.goto 4, 3) := by decide +kernel
theorem dX8_in_17 : decode cX8_in 17 = .ok (.iconst 0, 1) := by decide +kernel
theorem dX8_in_18 : decode cX8_in 18 = .ok (.ireturn, 1) := by decide +kernel
theorem dX8_has_0 : decode cX8_has 0 = .ok (.iload_n 0, 1) := by decide +kernel
theorem dX8_has_1 : decode cX8_has 1 = .ok (.iload_n 1, 1) := by decide +kernel
theorem dX8_has_2 : decode cX8_has 2 = .ok (.ishr, 1) := by decide +kernel
theorem dX8_has_3 : decode cX8_has 3 = .ok (.iconst 1, 1) := by decide +kernel
theorem dX8_has_4 : decode cX8_has 4 = .ok (.iand, 1) := by decide +kernel
theorem dX8_has_5 : decode cX8_has 5 = .ok (.iconst 1, 1) := by decide +kernel
theorem dX8_has_6 : decode cX8_has 6 = .ok (.if_icmp .ne 7, 3) := by decide +kernel
theorem dX8_has_9 : decode cX8_has 9 = .ok (.iconst 1, 1) := by decide +kernel
theorem dX8_has_10 : decode cX8_has 10 = .ok (.goto 4, 3) := by decide +kernel
theorem dX8_has_13 : decode cX8_has 13 = .ok (.iconst 0, 1) := by decide +kernel
theorem dX8_has_14 : decode cX8_has 14 = .ok (.ireturn, 1) := by decide +kernel
theorem dX8_ones_0 : decode cX8_ones 0 = .ok (.iconst 0, 1) := by decide +kernel
theorem dX8_ones_1 : decode cX8_ones 1 = .ok (.istore_n 1, 1) := by decide +kernel
theorem dX8_ones_2 : decode cX8_ones 2 = .ok (.iload_n 0, 1) := by decide +kernel
theorem dX8_ones_3 : decode cX8_ones 3 = .ok (.istore_n 2, 1) := by decide +kernel
theorem dX8_ones_4 : decode cX8_ones 4 = .ok (.iload_n 2, 1) := by decide +kernel
theorem dX8_ones_5 : decode cX8_ones 5 = .ok (.ifCond .eq 15, 3) := by decide +kernel
theorem dX8_ones_8 : decode cX8_ones 8 = .ok (.iinc 1 1, 3) := by decide +kernel
theorem dX8_ones_11 : decode cX8_ones 11 = .ok (.iload_n 2, 1) := by decide +kernel
theorem dX8_ones_12 : decode cX8_ones 12 = .ok (.iload_n 2, 1) := by decide +kernel
theorem dX8_ones_13 : decode cX8_ones 13 = .ok (.iconst 1, 1) := by decide +kernel
theorem dX8_ones_14 : decode cX8_ones 14 = .ok (.isub, 1) := by decide +kernel
theorem dX8_ones_15 : decode cX8_ones 15 = .ok (.iand, 1) := by decide +kernel
theorem dX8_ones_16 : decode cX8_ones 16 = .ok (.istore_n 2, 1) := by decide +kernel
theorem dX8_ones_17 : decode cX8_ones 17 = .ok (.goto (-13), 3) := by decide +kernel
theorem dX8_ones_20 : decode cX8_ones 20 = .ok (.iload_n 1, 1) := by decide +kernel
theorem dX8_ones_21 : decode cX8_ones 21 = .ok (.ireturn, 1) := by decide +kernel
set_option maxRecDepth 20000 in
theorem ggX8_isPerson_X8_in : GoodIn wsX8_isPerson wsX8_in := goodIn_r _ [5] (by decide +kernel) (by decide +kernel)
set_option maxRecDepth 20000 in
theorem gX8_isPerson_X8_in : GoodIn wsX8_isPerson (va_wsS RX8 44 yX8_in wsX8_in) := goodIn_app (goodIn_of _ (by decide +kernel)) ggX8_isPerson_X8_in
theorem dX8_isPerson_0 : decode cX8_isPerson 0 = .ok (.iload_n 1, 1) := by decide +kernel
theorem dX8_isPerson_1 : decode cX8_isPerson 1 = .ok (.i2l, 1) := by decide +kernel
theorem dX8_isPerson_2 : decode cX8_isPerson 2 = .ok (.lconst 0, 1) := by decide +kernel
theorem dX8_isPerson_3 : decode cX8_isPerson 3 = .ok (.aload_n 0, 1) := by decide +kernel
theorem dX8_isPerson_4 : decode cX8_isPerson 4 = .ok (.getfield 7, 3) := by decide +kernel
theorem dX8_isPerson_7 : decode cX8_isPerson 7 = .ok (.iconst 0, 1) := by decide +kernel
theorem dX8_isPerson_8 : decode cX8_isPerson 8 = .ok (.iaload, 1) := by decide +kernel
theorem dX8_isPerson_9 : decode cX8_isPerson 9 = .ok (.iconst 1, 1) := by decide +kernel
theorem dX8_isPerson_10 : decode cX8_isPerson 10 = .ok (.isub, 1) := by decide +kernel
theorem dX8_isPerson_11 : decode cX8_isPerson 11 = .ok (.i2l, 1) := by decide +kernel
theorem dX8_isPerson_12 : decode cX8_isPerson 12 = .ok (.invokestatic 44, 3) := by decide +kernel
theorem dX8_isPerson_15 : decode cX8_isPerson 15 = .ok (.ireturn, 1) := by decide +kernel
set_option maxRecDepth 20000 in
theorem ggX8_write_X8_in : GoodIn wsX8_write wsX8_in := goodIn_r _ [7] (by decide +kernel) (by decide +kernel)
set_option maxRecDepth 20000 in
theorem gX8_write_X8_in : GoodIn wsX8_write (va_wsS RX8 44 yX8_in wsX8_in) := goodIn_app (goodIn_of _ (by decide +kernel)) ggX8_write_X8_in
theorem dX8_write_0 : decode cX8_write 0 = .ok (.iload_n 1, 1) := by decide +kernel
theorem dX8_write_1 : decode cX8_write 1 = .ok (.i2l, 1) := by decide +kernel
theorem dX8_write_2 : decode cX8_write 2 = .ok (.lconst 0, 1) := by decide +kernel
theorem dX8_write_3 : decode cX8_write 3 = .ok (.ldc2_w 48, 3) := by decide +kernel
theorem dX8_write_6 : decode cX8_write 6 = .ok (.invokestatic 44, 3) := by decide +kernel
theorem dX8_write_9 : decode cX8_write 9 = .ok (.ifCond .ne 6, 3) := by decide +kernel
theorem dX8_write_12 : decode cX8_write 12 = .ok (.bipush (-3), 2) := by decide +kernel
theorem dX8_write_14 : decode cX8_write 14 = .ok (.ireturn, 1) := by decide +kernel
theorem dX8_write_15 : decode cX8_write 15 = .ok (.aload_n 0, 1) := by decide +kernel
theorem dX8_write_16 : decode cX8_write 16 = .ok (.getfield 50, 3) := by decide +kernel
theorem dX8_write_19 : decode cX8_write 19 = .ok (.sipush 160, 3) := by decide +kernel
theorem dX8_write_22 : decode cX8_write 22 = .ok (.if_icmp .ne 6, 3) := by decide +kernel
theorem dX8_write_25 : decode cX8_write 25 = .ok (.bipush (-5), 2) := by decide +kernel
theorem dX8_write_27 : decode cX8_write 27 = .ok (.ireturn, 1) := by decide +kernel
theorem dX8_write_28 : decode cX8_write 28 = .ok (.aload_n 0, 1) := by decide +kernel
theorem dX8_write_29 : decode cX8_write 29 = .ok (.getfield 16, 3) := by decide +kernel
theorem dX8_write_32 : decode cX8_write 32 = .ok (.aload_n 0, 1) := by decide +kernel
theorem dX8_write_33 : decode cX8_write 33 = .ok (.getfield 50, 3) := by decide +kernel
theorem dX8_write_36 : decode cX8_write 36 = .ok (.iload_n 1, 1) := by decide +kernel
theorem dX8_write_37 : decode cX8_write 37 = .ok (.iastore, 1) := by decide +kernel
theorem dX8_write_38 : decode cX8_write 38 = .ok (.aload_n 0, 1) := by decide +kernel
theorem dX8_write_39 : decode cX8_write 39 = .ok (.dup, 1) := by decide +kernel
theorem dX8_write_40 : decode cX8_write 40 = .ok (.getfield 50, 3) := by decide +kernel
theorem dX8_write_43 : decode cX8_write 43 = .ok (.iconst 1, 1) := by decide +kernel
theorem dX8_write_44 : decode cX8_write 44 = .ok (.iadd, 1) := by decide +kernel
theorem dX8_write_45 : decode cX8_write 45 = .ok (.putfield 50, 3) := by decide +kernel
theorem dX8_write_48 : decode cX8_write 48 = .ok (.aload_n 0, 1) := by decide +kernel
theorem dX8_write_49 : decode cX8_write 49 = .ok (.getfield 50, 3) := by decide +kernel
theorem dX8_write_52 : decode cX8_write 52 = .ok (.ireturn, 1) := by decide +kernel
theorem dX8_erase_0 : decode cX8_erase 0 = .ok (.aload_n 0, 1) := by decide +kernel
theorem dX8_erase_1 : decode cX8_erase 1 = .ok (.getfield 50, 3) := by decide +kernel
theorem dX8_erase_4 : decode cX8_erase 4 = .ok (.istore_n 1, 1) := by decide +kernel
theorem dX8_erase_5 : decode cX8_erase 5 = .ok (.aload_n 0, 1) := by decide +kernel
theorem dX8_erase_6 : decode cX8_erase 6 = .ok (.iconst 0, 1) := by decide +kernel
theorem dX8_erase_7 : decode cX8_erase 7 = .ok (.putfield 50, 3) := by decide +kernel
theorem dX8_erase_10 : decode cX8_erase 10 = .ok (.iload_n 1, 1) := by decide +kernel
theorem dX8_erase_11 : decode cX8_erase 11 = .ok (.ireturn, 1) := by decide +kernel
theorem dX8_letterAt_0 : decode cX8_letterAt 0 = .ok (.iload_n 1, 1) := by decide +kernel
theorem dX8_letterAt_1 : decode cX8_letterAt 1 = .ok (.aload_n 0, 1) := by decide +kernel
theorem dX8_letterAt_2 : decode cX8_letterAt 2 = .ok (.getfield 50, 3) := by decide +kernel
theorem dX8_letterAt_5 : decode cX8_letterAt 5 = .ok (.if_icmp .ge 12, 3) := by decide +kernel
theorem dX8_letterAt_8 : decode cX8_letterAt 8 = .ok (.aload_n 0, 1) := by decide +kernel
theorem dX8_letterAt_9 : decode cX8_letterAt 9 = .ok (.getfield 16, 3) := by decide +kernel
theorem dX8_letterAt_12 : decode cX8_letterAt 12 = .ok (.iload_n 1, 1) := by decide +kernel
theorem dX8_letterAt_13 : decode cX8_letterAt 13 = .ok (.iaload, 1) := by decide +kernel
theorem dX8_letterAt_14 : decode cX8_letterAt 14 = .ok (.goto 4, 3) := by decide +kernel
theorem dX8_letterAt_17 : decode cX8_letterAt 17 = .ok (.iconst 0, 1) := by decide +kernel
theorem dX8_letterAt_18 : decode cX8_letterAt 18 = .ok (.ireturn, 1) := by decide +kernel
set_option maxRecDepth 20000 in
theorem ggX8_nextToken_X8_letterAt : GoodIn wsX8_nextToken wsX8_letterAt := goodIn_r _ [15, 4, 10, 19, 20, 21, 22, 23, 24, 25, 26, 27, 28, 29, 30, 31, 32, 33, 34, 35, 36] (by decide +kernel) (by decide +kernel)
set_option maxRecDepth 20000 in
theorem gX8_nextToken_X8_letterAt : GoodIn wsX8_nextToken (wsV RX8 57 RX8 yX8_letterAt wsX8_letterAt) := goodIn_app (goodIn_of _ (by decide +kernel)) ggX8_nextToken_X8_letterAt
set_option maxRecDepth 20000 in
theorem ggX8_nextToken_X8_in : GoodIn wsX8_nextToken wsX8_in := goodIn_r _ [18] (by decide +kernel) (by decide +kernel)
set_option maxRecDepth 20000 in
theorem gX8_nextToken_X8_in : GoodIn wsX8_nextToken (va_wsS RX8 44 yX8_in wsX8_in) := goodIn_app (goodIn_of _ (by decide +kernel)) ggX8_nextToken_X8_in
theorem dX8_nextToken_0 : decode cX8_nextToken 0 = .ok (.aload_n 0, 1) := by decide +kernel
theorem dX8_nextToken_1 : decode cX8_nextToken 1 = .ok (.aload_n 0, 1) := by decide +kernel
theorem dX8_nextToken_2 : decode cX8_nextToken 2 = .ok (.getfield 54, 3) := by decide +kernel
theorem dX8_nextToken_5 : decode cX8_nextToken 5 = .ok (.invokevirtual 57, 3) := by decide +kernel
theorem dX8_nextToken_8 : decode cX8_nextToken 8 = .ok (.bipush 32, 2) := by decide +kernel
theorem dX8_nextToken_10 : decode cX8_nextToken 10 = .ok (.if_icmp .ne 16, 3) := by decide +kernel
theorem dX8_nextToken_13 : decode cX8_nextToken 13 = .ok (.aload_n 0, 1) := by decide +kernel
theorem dX8_nextToken_14 : decode cX8_nextToken 14 = .ok (.dup, 1) := by decide +kernel
theorem dX8_nextToken_15 : decode cX8_nextToken 15 = .ok (.getfield 54, 3) := by decide +kernel
theorem dX8_nextToken_18 : decode cX8_nextToken 18 = .ok (.iconst 1, 1) := by decide +kernel
theorem dX8_nextToken_19 : decode cX8_nextToken 19 = .ok (.iadd, 1) := by decide +kernel
theorem dX8_nextToken_20 : decode cX8_nextToken 20 = .ok (.putfield 54, 3) := by decide +kernel
theorem dX8_nextToken_23 : decode cX8_nextToken 23 = .ok (.goto (-23), 3) := by decide +kernel
theorem dX8_nextToken_26 : decode cX8_nextToken 26 = .ok (.aload_n 0, 1) := by decide +kernel
theorem dX8_nextToken_27 : decode cX8_nextToken 27 = .ok (.aload_n 0, 1) := by decide +kernel
theorem dX8_nextToken_28 : decode cX8_nextToken 28 = .ok (.getfield 54, 3) := by decide +kernel
theorem dX8_nextToken_31 : decode cX8_nextToken 31 = .ok (.putfield 61, 3) := by decide +kernel
theorem dX8_nextToken_34 : decode cX8_nextToken 34 = .ok (.aload_n 0, 1) := by decide +kernel
theorem dX8_nextToken_35 : decode cX8_nextToken 35 = .ok (.iconst 0, 1) := by decide +kernel
theorem dX8_nextToken_36 : decode cX8_nextToken 36 = .ok (.putfield 64, 3) := by decide +kernel
theorem dX8_nextToken_39 : decode cX8_nextToken 39 = .ok (.aload_n 0, 1) := by decide +kernel
theorem dX8_nextToken_40 : decode cX8_nextToken 40 = .ok (.aload_n 0, 1) := by decide +kernel
theorem dX8_nextToken_41 : decode cX8_nextToken 41 = .ok (.getfield 54, 3) := by decide +kernel
theorem dX8_nextToken_44 : decode cX8_nextToken 44 = .ok (.aload_n 0, 1) := by decide +kernel
theorem dX8_nextToken_45 : decode cX8_nextToken 45 = .ok (.getfield 50, 3) := by decide +kernel
theorem dX8_nextToken_48 : decode cX8_nextToken 48 = .ok (.if_icmp .ne 7, 3) := by decide +kernel
theorem dX8_nextToken_51 : decode cX8_nextToken 51 = .ok (.iconst 3, 1) := by decide +kernel
theorem dX8_nextToken_52 : decode cX8_nextToken 52 = .ok (.goto 4, 3) := by decide +kernel
theorem dX8_nextToken_55 : decode cX8_nextToken 55 = .ok (.iconst 0, 1) := by decide +kernel
theorem dX8_nextToken_56 : decode cX8_nextToken 56 = .ok (.putfield 67, 3) := by decide +kernel
theorem dX8_nextToken_59 : decode cX8_nextToken 59 = .ok (.aload_n 0, 1) := by decide +kernel
theorem dX8_nextToken_60 : decode cX8_nextToken 60 = .ok (.getfield 67, 3) := by decide +kernel
theorem dX8_nextToken_63 : decode cX8_nextToken 63 = .ok (.iconst 2, 1) := by decide +kernel
theorem dX8_nextToken_64 : decode cX8_nextToken 64 = .ok (.if_icmp .ge 42, 3) := by decide +kernel
theorem dX8_nextToken_67 : decode cX8_nextToken 67 = .ok (.aload_n 0, 1) := by decide +kernel
theorem dX8_nextToken_68 : decode cX8_nextToken 68 = .ok (.aload_n 0, 1) := by decide +kernel
theorem dX8_nextToken_69 : decode cX8_nextToken 69 = .ok (.getfield 54, 3) := by decide +kernel
theorem dX8_nextToken_72 : decode cX8_nextToken 72 = .ok (.invokevirtual 57, 3) := by decide +kernel
theorem dX8_nextToken_75 : decode cX8_nextToken 75 = .ok (.i2l, 1) := by decide +kernel
theorem dX8_nextToken_76 : decode cX8_nextToken 76 = .ok (.ldc2_w 70, 3) := by decide +kernel
theorem dX8_nextToken_79 : decode cX8_nextToken 79 = .ok (.ldc2_w 72, 3) := by decide +kernel
theorem dX8_nextToken_82 : decode cX8_nextToken 82 = .ok (.invokestatic 44, 3) := by decide +kernel
theorem dX8_nextToken_85 : decode cX8_nextToken 85 = .ok (.ifCond .eq 21, 3) := by decide +kernel
theorem dX8_nextToken_88 : decode cX8_nextToken 88 = .ok (.aload_n 0, 1) := by decide +kernel
theorem dX8_nextToken_89 : decode cX8_nextToken 89 = .ok (.iconst 1, 1) := by decide +kernel
theorem dX8_nextToken_90 : decode cX8_nextToken 90 = .ok (.putfield 67, 3) := by decide +kernel
theorem dX8_nextToken_93 : decode cX8_nextToken 93 = .ok (.aload_n 0, 1) := by decide +kernel
theorem dX8_nextToken_94 : decode cX8_nextToken 94 = .ok (.dup, 1) := by decide +kernel
theorem dX8_nextToken_95 : decode cX8_nextToken 95 = .ok (.getfield 54, 3) := by decide +kernel
theorem dX8_nextToken_98 : decode cX8_nextToken 98 = .ok (.iconst 1, 1) := by decide +kernel
theorem dX8_nextToken_99 : decode cX8_nextToken 99 = .ok (.iadd, 1) := by decide +kernel
theorem dX8_nextToken_100 : decode cX8_nextToken 100 = .ok (.putfield 54, 3) := by decide +kernel
theorem dX8_nextToken_103 : decode cX8_nextToken 103 = .ok (.goto (-44), 3) := by decide +kernel
theorem dX8_nextToken_106 : decode cX8_nextToken 106 = .ok (.aload_n 0, 1) := by decide +kernel
theorem dX8_nextToken_107 : decode cX8_nextToken 107 = .ok (.getfield 67, 3) := by decide +kernel
theorem dX8_nextToken_110 : decode cX8_nextToken 110 = .ok (.iconst 1, 1) := by decide +kernel
theorem dX8_nextToken_111 : decode cX8_nextToken 111 = .ok (.if_icmp .eq 82, 3) := by decide +kernel
theorem dX8_nextToken_114 : decode cX8_nextToken 114 = .ok (.aload_n 0, 1) := by decide +kernel
theorem dX8_nextToken_115 : decode cX8_nextToken 115 = .ok (.aload_n 0, 1) := by decide +kernel
theorem dX8_nextToken_116 : decode cX8_nextToken 116 = .ok (.getfield 54, 3) := by decide +kernel
theorem dX8_nextToken_119 : decode cX8_nextToken 119 = .ok (.invokevirtual 57, 3) := by decide +kernel
theorem dX8_nextToken_122 : decode cX8_nextToken 122 = .ok (.i2l, 1) := by decide +kernel
theorem dX8_nextToken_123 : decode cX8_nextToken 123 = .ok (.ldc2_w 74, 3) := by decide +kernel
theorem dX8_nextToken_126 : decode cX8_nextToken 126 = .ok (.ldc2_w 76, 3) := by decide +kernel
theorem dX8_nextToken_129 : decode cX8_nextToken 129 = .ok (.invokestatic 44, 3) := by decide +kernel
theorem dX8_nextToken_132 : decode cX8_nextToken 132 = .ok (.ifCond .eq 61, 3) := by decide +kernel
theorem dX8_nextToken_135 : decode cX8_nextToken 135 = .ok (.aload_n 0, 1) := by decide +kernel
theorem dX8_nextToken_136 : decode cX8_nextToken 136 = .ok (.aload_n 0, 1) := by decide +kernel
theorem dX8_nextToken_137 : decode cX8_nextToken 137 = .ok (.getfield 64, 3) := by decide +kernel
theorem dX8_nextToken_140 : decode cX8_nextToken 140 = .ok (.bipush 99, 2) := by decide +kernel
theorem dX8_nextToken_142 : decode cX8_nextToken 142 = .ok (.if_icmp .le 10, 3) := by decide +kernel
theorem dX8_nextToken_145 : decode cX8_nextToken 145 = .ok (.aload_n 0, 1) := by decide +kernel
theorem dX8_nextToken_146 : decode cX8_nextToken 146 = .ok (.getfield 64, 3) := by decide +kernel
theorem dX8_nextToken_149 : decode cX8_nextToken 149 = .ok (.goto 23, 3) := by decide +kernel
theorem dX8_nextToken_152 : decode cX8_nextToken 152 = .ok (.bipush 10, 2) := by decide +kernel
theorem dX8_nextToken_154 : decode cX8_nextToken 154 = .ok (.aload_n 0, 1) := by decide +kernel
theorem dX8_nextToken_155 : decode cX8_nextToken 155 = .ok (.getfield 64, 3) := by decide +kernel
theorem dX8_nextToken_158 : decode cX8_nextToken 158 = .ok (.imul, 1) := by decide +kernel
theorem dX8_nextToken_159 : decode cX8_nextToken 159 = .ok (.aload_n 0, 1) := by decide +kernel
theorem dX8_nextToken_160 : decode cX8_nextToken 160 = .ok (.getfield 16, 3) := by decide +kernel
theorem dX8_nextToken_163 : decode cX8_nextToken 163 = .ok (.aload_n 0, 1) := by decide +kernel
theorem dX8_nextToken_164 : decode cX8_nextToken 164 = .ok (.getfield 54, 3) := by decide +kernel
theorem dX8_nextToken_167 : decode cX8_nextToken 167 = .ok (.iaload, 1) := by decide +kernel
theorem dX8_nextToken_168 : decode cX8_nextToken 168 = .ok (.iadd, 1) := by decide +kernel
theorem dX8_nextToken_169 : decode cX8_nextToken 169 = .ok (.bipush 48, 2) := by decide +kernel
theorem dX8_nextToken_171 : decode cX8_nextToken 171 = .ok (.isub, 1) := by decide +kernel
theorem dX8_nextToken_172 : decode cX8_nextToken 172 = .ok (.putfield 64, 3) := by decide +kernel
theorem dX8_nextToken_175 : decode cX8_nextToken 175 = .ok (.aload_n 0, 1) := by decide +kernel
theorem dX8_nextToken_176 : decode cX8_nextToken 176 = .ok (.iconst 2, 1) := by decide +kernel
theorem dX8_nextToken_177 : decode cX8_nextToken 177 = .ok (.putfield 67, 3) := by decide +kernel
theorem dX8_nextToken_180 : decode cX8_nextToken 180 = .ok (.aload_n 0, 1) := by decide +kernel
theorem dX8_nextToken_181 : decode cX8_nextToken 181 = .ok (.dup, 1) := by decide +kernel
theorem dX8_nextToken_182 : decode cX8_nextToken 182 = .ok (.getfield 54, 3) := by decide +kernel
theorem dX8_nextToken_185 : decode cX8_nextToken 185 = .ok (.iconst 1, 1) := by decide +kernel
theorem dX8_nextToken_186 : decode cX8_nextToken 186 = .ok (.iadd, 1) := by decide +kernel
theorem dX8_nextToken_187 : decode cX8_nextToken 187 = .ok (.putfield 54, 3) := by decide +kernel
theorem dX8_nextToken_190 : decode cX8_nextToken 190 = .ok (.goto (-84), 3) := by decide +kernel
theorem dX8_nextToken_193 : decode cX8_nextToken 193 = .ok (.aload_n 0, 1) := by decide +kernel
theorem dX8_nextToken_194 : decode cX8_nextToken 194 = .ok (.getfield 67, 3) := by decide +kernel
theorem dX8_nextToken_197 : decode cX8_nextToken 197 = .ok (.iconst 2, 1) := by decide +kernel
theorem dX8_nextToken_198 : decode cX8_nextToken 198 = .ok (.if_icmp .ne 23, 3) := by decide +kernel
theorem dX8_nextToken_201 : decode cX8_nextToken 201 = .ok (.aload_n 0, 1) := by decide +kernel
theorem dX8_nextToken_202 : decode cX8_nextToken 202 = .ok (.getfield 54, 3) := by decide +kernel
theorem dX8_nextToken_205 : decode cX8_nextToken 205 = .ok (.aload_n 0, 1) := by decide +kernel
theorem dX8_nextToken_206 : decode cX8_nextToken 206 = .ok (.getfield 61, 3) := by decide +kernel
theorem dX8_nextToken_209 : decode cX8_nextToken 209 = .ok (.isub, 1) := by decide +kernel
theorem dX8_nextToken_210 : decode cX8_nextToken 210 = .ok (.iconst 2, 1) := by decide +kernel
theorem dX8_nextToken_211 : decode cX8_nextToken 211 = .ok (.if_icmp .le 10, 3) := by decide +kernel
theorem dX8_nextToken_214 : decode cX8_nextToken 214 = .ok (.aload_n 0, 1) := by decide +kernel
theorem dX8_nextToken_215 : decode cX8_nextToken 215 = .ok (.sipush 999, 3) := by decide +kernel
theorem dX8_nextToken_218 : decode cX8_nextToken 218 = .ok (.putfield 64, 3) := by decide +kernel
theorem dX8_nextToken_221 : decode cX8_nextToken 221 = .ok (.aload_n 0, 1) := by decide +kernel
theorem dX8_nextToken_222 : decode cX8_nextToken 222 = .ok (.getfield 67, 3) := by decide +kernel
theorem dX8_nextToken_225 : decode cX8_nextToken 225 = .ok (.ifCond .ne 26, 3) := by decide +kernel
theorem dX8_nextToken_228 : decode cX8_nextToken 228 = .ok (.aload_n 0, 1) := by decide +kernel
theorem dX8_nextToken_229 : decode cX8_nextToken 229 = .ok (.aload_n 0, 1) := by decide +kernel
theorem dX8_nextToken_230 : decode cX8_nextToken 230 = .ok (.getfield 16, 3) := by decide +kernel
theorem dX8_nextToken_233 : decode cX8_nextToken 233 = .ok (.aload_n 0, 1) := by decide +kernel
theorem dX8_nextToken_234 : decode cX8_nextToken 234 = .ok (.getfield 54, 3) := by decide +kernel
theorem dX8_nextToken_237 : decode cX8_nextToken 237 = .ok (.iaload, 1) := by decide +kernel
theorem dX8_nextToken_238 : decode cX8_nextToken 238 = .ok (.putfield 64, 3) := by decide +kernel
theorem dX8_nextToken_241 : decode cX8_nextToken 241 = .ok (.aload_n 0, 1) := by decide +kernel
theorem dX8_nextToken_242 : decode cX8_nextToken 242 = .ok (.dup, 1) := by decide +kernel
theorem dX8_nextToken_243 : decode cX8_nextToken 243 = .ok (.getfield 54, 3) := by decide +kernel
theorem dX8_nextToken_246 : decode cX8_nextToken 246 = .ok (.iconst 1, 1) := by decide +kernel
theorem dX8_nextToken_247 : decode cX8_nextToken 247 = .ok (.iadd, 1) := by decide +kernel
theorem dX8_nextToken_248 : decode cX8_nextToken 248 = .ok (.putfield 54, 3) := by decide +kernel
theorem dX8_nextToken_251 : decode cX8_nextToken 251 = .ok (.return_, 1) := by decide +kernel
theorem dX8_wordOf_0 : decode cX8_wordOf 0 = .ok (.lconst 0, 1) := by decide +kernel
theorem dX8_wordOf_1 : decode cX8_wordOf 1 = .ok (.lstore_n 1, 1) := by decide +kernel
theorem dX8_wordOf_2 : decode cX8_wordOf 2 = .ok (.aload_n 0, 1) := by decide +kernel
theorem dX8_wordOf_3 : decode cX8_wordOf 3 = .ok (.getfield 61, 3) := by decide +kernel
theorem dX8_wordOf_6 : decode cX8_wordOf 6 = .ok (.istore_n 3, 1) := by decide +kernel
theorem dX8_wordOf_7 : decode cX8_wordOf 7 = .ok (.iload_n 3, 1) := by decide +kernel
theorem dX8_wordOf_8 : decode cX8_wordOf 8 = .ok (.aload_n 0, 1) := by decide +kernel
theorem dX8_wordOf_9 : decode cX8_wordOf 9 = .ok (.getfield 54, 3) := by decide +kernel
theorem dX8_wordOf_12 : decode cX8_wordOf 12 = .ok (.if_icmp .ge 40, 3) := by decide +kernel
theorem dX8_wordOf_15 : decode cX8_wordOf 15 = .ok (.iload_n 3, 1) := by decide +kernel
theorem dX8_wordOf_16 : decode cX8_wordOf 16 = .ok (.aload_n 0, 1) := by decide +kernel
theorem dX8_wordOf_17 : decode cX8_wordOf 17 = .ok (.getfield 61, 3) := by decide +kernel
theorem dX8_wordOf_20 : decode cX8_wordOf 20 = .ok (.bipush 9, 2) := by decide +kernel
theorem dX8_wordOf_22 : decode cX8_wordOf 22 = .ok (.iadd, 1) := by decide +kernel
theorem dX8_wordOf_23 : decode cX8_wordOf 23 = .ok (.if_icmp .ge 29, 3) := by decide +kernel
theorem dX8_wordOf_26 : decode cX8_wordOf 26 = .ok (.ldc2_w 78, 3) := by decide +kernel
theorem dX8_wordOf_29 : decode cX8_wordOf 29 = .ok (.lload_n 1, 1) := by decide +kernel
theorem dX8_wordOf_30 : decode cX8_wordOf 30 = .ok (.lmul, 1) := by decide +kernel
theorem dX8_wordOf_31 : decode cX8_wordOf 31 = .ok (.aload_n 0, 1) := by decide +kernel
theorem dX8_wordOf_32 : decode cX8_wordOf 32 = .ok (.getfield 16, 3) := by decide +kernel
theorem dX8_wordOf_35 : decode cX8_wordOf 35 = .ok (.iload_n 3, 1) := by decide +kernel
theorem dX8_wordOf_36 : decode cX8_wordOf 36 = .ok (.iaload, 1) := by decide +kernel
theorem dX8_wordOf_37 : decode cX8_wordOf 37 = .ok (.i2l, 1) := by decide +kernel
theorem dX8_wordOf_38 : decode cX8_wordOf 38 = .ok (.ladd, 1) := by decide +kernel
theorem dX8_wordOf_39 : decode cX8_wordOf 39 = .ok (.ldc2_w 70, 3) := by decide +kernel
theorem dX8_wordOf_42 : decode cX8_wordOf 42 = .ok (.lsub, 1) := by decide +kernel
theorem dX8_wordOf_43 : decode cX8_wordOf 43 = .ok (.lconst 1, 1) := by decide +kernel
theorem dX8_wordOf_44 : decode cX8_wordOf 44 = .ok (.ladd, 1) := by decide +kernel
theorem dX8_wordOf_45 : decode cX8_wordOf 45 = .ok (.lstore_n 1, 1) := by decide +kernel
theorem dX8_wordOf_46 : decode cX8_wordOf 46 = .ok (.iinc 3 1, 3) := by decide +kernel
theorem dX8_wordOf_49 : decode cX8_wordOf 49 = .ok (.goto (-42), 3) := by decide +kernel
theorem dX8_wordOf_52 : decode cX8_wordOf 52 = .ok (.aload_n 0, 1) := by decide +kernel
theorem dX8_wordOf_53 : decode cX8_wordOf 53 = .ok (.getfield 67, 3) := by decide +kernel
theorem dX8_wordOf_56 : decode cX8_wordOf 56 = .ok (.iconst 1, 1) := by decide +kernel
theorem dX8_wordOf_57 : decode cX8_wordOf 57 = .ok (.if_icmp .ne 7, 3) := by decide +kernel
theorem dX8_wordOf_60 : decode cX8_wordOf 60 = .ok (.lload_n 1, 1) := by decide +kernel
theorem dX8_wordOf_61 : decode cX8_wordOf 61 = .ok (.goto 4, 3) := by decide +kernel
theorem dX8_wordOf_64 : decode cX8_wordOf 64 = .ok (.lconst 0, 1) := by decide +kernel
theorem dX8_wordOf_65 : decode cX8_wordOf 65 = .ok (.lreturn, 1) := by decide +kernel
theorem dX8_spelt_0 : decode cX8_spelt 0 = .ok (.lconst 0, 1) := by decide +kernel
theorem dX8_spelt_1 : decode cX8_spelt 1 = .ok (.lstore 7, 2) := by decide +kernel
theorem dX8_spelt_3 : decode cX8_spelt 3 = .ok (.lload 7, 2) := by decide +kernel
theorem dX8_spelt_5 : decode cX8_spelt 5 = .ok (.ldc2_w 78, 3) := by decide +kernel
theorem dX8_spelt_8 : decode cX8_spelt 8 = .ok (.lmul, 1) := by decide +kernel
theorem dX8_spelt_9 : decode cX8_spelt 9 = .ok (.iload_n 0, 1) := by decide +kernel
theorem dX8_spelt_10 : decode cX8_spelt 10 = .ok (.ifCond .ne 7, 3) := by decide +kernel
theorem dX8_spelt_13 : decode cX8_spelt 13 = .ok (.iconst 0, 1) := by decide +kernel
theorem dX8_spelt_14 : decode cX8_spelt 14 = .ok (.goto 9, 3) := by decide +kernel
theorem dX8_spelt_17 : decode cX8_spelt 17 = .ok (.iload_n 0, 1) := by decide +kernel
theorem dX8_spelt_18 : decode cX8_spelt 18 = .ok (.bipush 97, 2) := by decide +kernel
theorem dX8_spelt_20 : decode cX8_spelt 20 = .ok (.isub, 1) := by decide +kernel
theorem dX8_spelt_21 : decode cX8_spelt 21 = .ok (.iconst 1, 1) := by decide +kernel
theorem dX8_spelt_22 : decode cX8_spelt 22 = .ok (.iadd, 1) := by decide +kernel
theorem dX8_spelt_23 : decode cX8_spelt 23 = .ok (.i2l, 1) := by decide +kernel
theorem dX8_spelt_24 : decode cX8_spelt 24 = .ok (.ladd, 1) := by decide +kernel
theorem dX8_spelt_25 : decode cX8_spelt 25 = .ok (.lstore 7, 2) := by decide +kernel
theorem dX8_spelt_27 : decode cX8_spelt 27 = .ok (.iload_n 1, 1) := by decide +kernel
theorem dX8_spelt_28 : decode cX8_spelt 28 = .ok (.ifCond .ne 8, 3) := by decide +kernel
theorem dX8_spelt_31 : decode cX8_spelt 31 = .ok (.lload 7, 2) := by decide +kernel
theorem dX8_spelt_33 : decode cX8_spelt 33 = .ok (.goto 18, 3) := by decide +kernel
theorem dX8_spelt_36 : decode cX8_spelt 36 = .ok (.lload 7, 2) := by decide +kernel
theorem dX8_spelt_38 : decode cX8_spelt 38 = .ok (.ldc2_w 78, 3) := by decide +kernel
theorem dX8_spelt_41 : decode cX8_spelt 41 = .ok (.lmul, 1) := by decide +kernel
theorem dX8_spelt_42 : decode cX8_spelt 42 = .ok (.iload_n 1, 1) := by decide +kernel
theorem dX8_spelt_43 : decode cX8_spelt 43 = .ok (.i2l, 1) := by decide +kernel
theorem dX8_spelt_44 : decode cX8_spelt 44 = .ok (.ladd, 1) := by decide +kernel
theorem dX8_spelt_45 : decode cX8_spelt 45 = .ok (.ldc2_w 70, 3) := by decide +kernel
theorem dX8_spelt_48 : decode cX8_spelt 48 = .ok (.lsub, 1) := by decide +kernel
theorem dX8_spelt_49 : decode cX8_spelt 49 = .ok (.lconst 1, 1) := by decide +kernel
theorem dX8_spelt_50 : decode cX8_spelt 50 = .ok (.ladd, 1) := by decide +kernel
theorem dX8_spelt_51 : decode cX8_spelt 51 = .ok (.lstore 7, 2) := by decide +kernel
theorem dX8_spelt_53 : decode cX8_spelt 53 = .ok (.iload_n 2, 1) := by decide +kernel
theorem dX8_spelt_54 : decode cX8_spelt 54 = .ok (.ifCond .ne 8, 3) := by decide +kernel
theorem dX8_spelt_57 : decode cX8_spelt 57 = .ok (.lload 7, 2) := by decide +kernel
theorem dX8_spelt_59 : decode cX8_spelt 59 = .ok (.goto 18, 3) := by decide +kernel
theorem dX8_spelt_62 : decode cX8_spelt 62 = .ok (.lload 7, 2) := by decide +kernel
theorem dX8_spelt_64 : decode cX8_spelt 64 = .ok (.ldc2_w 78, 3) := by decide +kernel
theorem dX8_spelt_67 : decode cX8_spelt 67 = .ok (.lmul, 1) := by decide +kernel
theorem dX8_spelt_68 : decode cX8_spelt 68 = .ok (.iload_n 2, 1) := by decide +kernel
theorem dX8_spelt_69 : decode cX8_spelt 69 = .ok (.i2l, 1) := by decide +kernel
theorem dX8_spelt_70 : decode cX8_spelt 70 = .ok (.ladd, 1) := by decide +kernel
theorem dX8_spelt_71 : decode cX8_spelt 71 = .ok (.ldc2_w 70, 3) := by decide +kernel
theorem dX8_spelt_74 : decode cX8_spelt 74 = .ok (.lsub, 1) := by decide +kernel
theorem dX8_spelt_75 : decode cX8_spelt 75 = .ok (.lconst 1, 1) := by decide +kernel
theorem dX8_spelt_76 : decode cX8_spelt 76 = .ok (.ladd, 1) := by decide +kernel
theorem dX8_spelt_77 : decode cX8_spelt 77 = .ok (.lstore 7, 2) := by decide +kernel
theorem dX8_spelt_79 : decode cX8_spelt 79 = .ok (.iload_n 3, 1) := by decide +kernel
theorem dX8_spelt_80 : decode cX8_spelt 80 = .ok (.ifCond .ne 8, 3) := by decide +kernel
theorem dX8_spelt_83 : decode cX8_spelt 83 = .ok (.lload 7, 2) := by decide +kernel
theorem dX8_spelt_85 : decode cX8_spelt 85 = .ok (.goto 18, 3) := by decide +kernel
theorem dX8_spelt_88 : decode cX8_spelt 88 = .ok (.lload 7, 2) := by decide +kernel
theorem dX8_spelt_90 : decode cX8_spelt 90 = .ok (.ldc2_w 78, 3) := by decide +kernel
theorem dX8_spelt_93 : decode cX8_spelt 93 = .ok (.lmul, 1) := by decide +kernel
theorem dX8_spelt_94 : decode cX8_spelt 94 = .ok (.iload_n 3, 1) := by decide +kernel
theorem dX8_spelt_95 : decode cX8_spelt 95 = .ok (.i2l, 1) := by decide +kernel
theorem dX8_spelt_96 : decode cX8_spelt 96 = .ok (.ladd, 1) := by decide +kernel
theorem dX8_spelt_97 : decode cX8_spelt 97 = .ok (.ldc2_w 70, 3) := by decide +kernel
theorem dX8_spelt_100 : decode cX8_spelt 100 = .ok (.lsub, 1) := by decide +kernel
theorem dX8_spelt_101 : decode cX8_spelt 101 = .ok (.lconst 1, 1) := by decide +kernel
theorem dX8_spelt_102 : decode cX8_spelt 102 = .ok (.ladd, 1) := by decide +kernel
theorem dX8_spelt_103 : decode cX8_spelt 103 = .ok (.lstore 7, 2) := by decide +kernel
theorem dX8_spelt_105 : decode cX8_spelt 105 = .ok (.iload 4, 2) := by decide +kernel
theorem dX8_spelt_107 : decode cX8_spelt 107 = .ok (.ifCond .ne 8, 3) := by decide +kernel
theorem dX8_spelt_110 : decode cX8_spelt 110 = .ok (.lload 7, 2) := by decide +kernel
theorem dX8_spelt_112 : decode cX8_spelt 112 = .ok (.goto 19, 3) := by decide +kernel
theorem dX8_spelt_115 : decode cX8_spelt 115 = .ok (.lload 7, 2) := by decide +kernel
theorem dX8_spelt_117 : decode cX8_spelt 117 = .ok (.ldc2_w 78, 3) := by decide +kernel
theorem dX8_spelt_120 : decode cX8_spelt 120 = .ok (.lmul, 1) := by decide +kernel
theorem dX8_spelt_121 : decode cX8_spelt 121 = .ok (.iload 4, 2) := by decide +kernel
theorem dX8_spelt_123 : decode cX8_spelt 123 = .ok (.i2l, 1) := by decide +kernel
theorem dX8_spelt_124 : decode cX8_spelt 124 = .ok (.ladd, 1) := by decide +kernel
theorem dX8_spelt_125 : decode cX8_spelt 125 = .ok (.ldc2_w 70, 3) := by decide +kernel
theorem dX8_spelt_128 : decode cX8_spelt 128 = .ok (.lsub, 1) := by decide +kernel
theorem dX8_spelt_129 : decode cX8_spelt 129 = .ok (.lconst 1, 1) := by decide +kernel
theorem dX8_spelt_130 : decode cX8_spelt 130 = .ok (.ladd, 1) := by decide +kernel
theorem dX8_spelt_131 : decode cX8_spelt 131 = .ok (.lstore 7, 2) := by decide +kernel
theorem dX8_spelt_133 : decode cX8_spelt 133 = .ok (.iload 5, 2) := by decide +kernel
theorem dX8_spelt_135 : decode cX8_spelt 135 = .ok (.ifCond .ne 8, 3) := by decide +kernel
theorem dX8_spelt_138 : decode cX8_spelt 138 = .ok (.lload 7, 2) := by decide +kernel
theorem dX8_spelt_140 : decode cX8_spelt 140 = .ok (.goto 19, 3) := by decide +kernel
theorem dX8_spelt_143 : decode cX8_spelt 143 = .ok (.lload 7, 2) := by decide +kernel
theorem dX8_spelt_145 : decode cX8_spelt 145 = .ok (.ldc2_w 78, 3) := by decide +kernel
theorem dX8_spelt_148 : decode cX8_spelt 148 = .ok (.lmul, 1) := by decide +kernel
theorem dX8_spelt_149 : decode cX8_spelt 149 = .ok (.iload 5, 2) := by decide +kernel
theorem dX8_spelt_151 : decode cX8_spelt 151 = .ok (.i2l, 1) := by decide +kernel
theorem dX8_spelt_152 : decode cX8_spelt 152 = .ok (.ladd, 1) := by decide +kernel
theorem dX8_spelt_153 : decode cX8_spelt 153 = .ok (.ldc2_w 70, 3) := by decide +kernel
theorem dX8_spelt_156 : decode cX8_spelt 156 = .ok (.lsub, 1) := by decide +kernel
theorem dX8_spelt_157 : decode cX8_spelt 157 = .ok (.lconst 1, 1) := by decide +kernel
theorem dX8_spelt_158 : decode cX8_spelt 158 = .ok (.ladd, 1) := by decide +kernel
theorem dX8_spelt_159 : decode cX8_spelt 159 = .ok (.lstore 7, 2) := by decide +kernel
theorem dX8_spelt_161 : decode cX8_spelt 161 = .ok (.iload 6, 2) := by decide +kernel
theorem dX8_spelt_163 : decode cX8_spelt 163 = .ok (.ifCond .ne 8, 3) := by decide +kernel
theorem dX8_spelt_166 : decode cX8_spelt 166 = .ok (.lload 7, 2) := by decide +kernel
theorem dX8_spelt_168 : decode cX8_spelt 168 = .ok (.goto 19, 3) := by decide +kernel
theorem dX8_spelt_171 : decode cX8_spelt 171 = .ok (.lload 7, 2) := by decide +kernel
theorem dX8_spelt_173 : decode cX8_spelt 173 = .ok (.ldc2_w 78, 3) := by decide +kernel
theorem dX8_spelt_176 : decode cX8_spelt 176 = .ok (.lmul, 1) := by decide +kernel
theorem dX8_spelt_177 : decode cX8_spelt 177 = .ok (.iload 6, 2) := by decide +kernel
theorem dX8_spelt_179 : decode cX8_spelt 179 = .ok (.i2l, 1) := by decide +kernel
theorem dX8_spelt_180 : decode cX8_spelt 180 = .ok (.ladd, 1) := by decide +kernel
theorem dX8_spelt_181 : decode cX8_spelt 181 = .ok (.ldc2_w 70, 3) := by decide +kernel
theorem dX8_spelt_184 : decode cX8_spelt 184 = .ok (.lsub, 1) := by decide +kernel
theorem dX8_spelt_185 : decode cX8_spelt 185 = .ok (.lconst 1, 1) := by decide +kernel
theorem dX8_spelt_186 : decode cX8_spelt 186 = .ok (.ladd, 1) := by decide +kernel
