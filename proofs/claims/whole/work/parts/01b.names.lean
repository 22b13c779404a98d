theorem inlX0 : ∀ w ∈ wsX00, w ∈ wsL_law := fun _ h => List.mem_append_left _ (List.mem_append_left _ (List.mem_append_left _ (List.mem_append_left _ (List.mem_append_left _ (List.mem_append_right _ h)))))
theorem inX0 : ∀ w ∈ wsX00, w ∈ lw_tbl := fun w h => wsL_law_in w (inlX0 w h)
theorem inlX1 : ∀ w ∈ wsX10, w ∈ wsL_law := fun _ h => List.mem_append_left _ (List.mem_append_left _ (List.mem_append_left _ (List.mem_append_left _ (List.mem_append_right _ h))))
theorem inX1 : ∀ w ∈ wsX10, w ∈ lw_tbl := fun w h => wsL_law_in w (inlX1 w h)
theorem inlX2 : ∀ w ∈ wsX20, w ∈ wsL_law := fun _ h => List.mem_append_left _ (List.mem_append_left _ (List.mem_append_left _ (List.mem_append_right _ h)))
theorem inX2 : ∀ w ∈ wsX20, w ∈ lw_tbl := fun w h => wsL_law_in w (inlX2 w h)
theorem inlX3 : ∀ w ∈ wsX30, w ∈ wsL_law := fun _ h => List.mem_append_left _ (List.mem_append_left _ (List.mem_append_right _ h))
theorem inX3 : ∀ w ∈ wsX30, w ∈ lw_tbl := fun w h => wsL_law_in w (inlX3 w h)
theorem inlX4 : ∀ w ∈ wsX40, w ∈ wsL_law := fun _ h => List.mem_append_left _ (List.mem_append_right _ h)
theorem inX4 : ∀ w ∈ wsX40, w ∈ lw_tbl := fun w h => wsL_law_in w (inlX4 w h)
theorem inlX5 : ∀ w ∈ wsX50, w ∈ wsL_law := fun _ h => List.mem_append_left _ (List.mem_append_left _ (List.mem_append_left _ (List.mem_append_left _ (List.mem_append_left _ (List.mem_append_left _ (List.mem_append_left _ (List.mem_append_right _ h)))))))
theorem inX5 : ∀ w ∈ wsX50, w ∈ lw_tbl := fun w h => wsL_law_in w (inlX5 w h)
theorem inlX6 : ∀ w ∈ wsX60, w ∈ wsL_law := fun _ h => List.mem_append_left _ (List.mem_append_left _ (List.mem_append_left _ (List.mem_append_left _ (List.mem_append_left _ (List.mem_append_left _ (List.mem_append_right _ h))))))
theorem inX6 : ∀ w ∈ wsX60, w ∈ lw_tbl := fun w h => wsL_law_in w (inlX6 w h)
theorem inlX7 : ∀ w ∈ wsX70, w ∈ wsL_law := fun _ h => List.mem_append_left _ (List.mem_append_left _ (List.mem_append_left _ (List.mem_append_left _ (List.mem_append_left _ (List.mem_append_left _ (List.mem_append_left _ (List.mem_append_left _ (List.mem_append_left _ (List.mem_append_right _ h)))))))))
theorem inX7 : ∀ w ∈ wsX70, w ∈ lw_tbl := fun w h => wsL_law_in w (inlX7 w h)
theorem inlX8 : ∀ w ∈ wsX80, w ∈ wsL_law := fun _ h => List.mem_append_left _ (List.mem_append_left _ (List.mem_append_left _ (List.mem_append_left _ (List.mem_append_left _ (List.mem_append_left _ (List.mem_append_left _ (List.mem_append_left _ (List.mem_append_right _ h))))))))
theorem inX8 : ∀ w ∈ wsX80, w ∈ lw_tbl := fun w h => wsL_law_in w (inlX8 w h)
theorem inJ13 : ∀ w ∈ wsJ130, w ∈ lw_tbl := by decide +kernel
theorem inJ9 : ∀ w ∈ wsJ90, w ∈ lw_tbl := by decide +kernel
theorem inJ0 : ∀ w ∈ wsJ00, w ∈ lw_tbl := by decide +kernel
theorem inJ1 : ∀ w ∈ wsJ10, w ∈ lw_tbl := by decide +kernel
theorem inJ2 : ∀ w ∈ wsJ20, w ∈ lw_tbl := by decide +kernel
theorem inJ3 : ∀ w ∈ wsJ30, w ∈ lw_tbl := by decide +kernel
theorem dX0_init_0 : decode cX0_init 0 = .ok (.aload_n 0, 1) := by decide +kernel
theorem dX0_init_1 : decode cX0_init 1 = .ok (.invokespecial 3, 3) := by decide +kernel
theorem dX0_init_4 : decode cX0_init 4 = .ok (.aload_n 0, 1) := by decide +kernel
theorem dX0_init_5 : decode cX0_init 5 = .ok (.bipush 6, 2) := by decide +kernel
theorem dX0_init_7 : decode cX0_init 7 = .ok (.newarray .int, 2) := by decide +kernel
theorem dX0_init_9 : decode cX0_init 9 = .ok (.putfield 9, 3) := by decide +kernel
theorem dX0_init_12 : decode cX0_init 12 = .ok (.aload_n 0, 1) := by decide +kernel
theorem dX0_init_13 : decode cX0_init 13 = .ok (.bipush 6, 2) := by decide +kernel
theorem dX0_init_15 : decode cX0_init 15 = .ok (.newarray .long, 2) := by decide +kernel
theorem dX0_init_17 : decode cX0_init 17 = .ok (.putfield 15, 3) := by decide +kernel
theorem dX0_init_20 : decode cX0_init 20 = .ok (.iconst 0, 1) := by decide +kernel
theorem dX0_init_21 : decode cX0_init 21 = .ok (.istore_n 1, 1) := by decide +kernel
theorem dX0_init_22 : decode cX0_init 22 = .ok (.iload_n 1, 1) := by decide +kernel
theorem dX0_init_23 : decode cX0_init 23 = .ok (.bipush 6, 2) := by decide +kernel
theorem dX0_init_25 : decode cX0_init 25 = .ok (.if_icmp .ge 16, 3) := by decide +kernel
theorem dX0_init_28 : decode cX0_init 28 = .ok (.aload_n 0, 1) := by decide +kernel
theorem dX0_init_29 : decode cX0_init 29 = .ok (.getfield 9, 3) := by decide +kernel
theorem dX0_init_32 : decode cX0_init 32 = .ok (.iload_n 1, 1) := by decide +kernel
theorem dX0_init_33 : decode cX0_init 33 = .ok (.iconst (-1), 1) := by decide +kernel
theorem dX0_init_34 : decode cX0_init 34 = .ok (.iastore, 1) := by decide +kernel
theorem dX0_init_35 : decode cX0_init 35 = .ok (.iinc 1 1, 3) := by decide +kernel
theorem dX0_init_38 : decode cX0_init 38 = .ok (.goto (-16), 3) := by decide +kernel
theorem dX0_init_41 : decode cX0_init 41 = .ok (.aload_n 0, 1) := by decide +kernel
theorem dX0_init_42 : decode cX0_init 42 = .ok (.iconst 0, 1) := by decide +kernel
theorem dX0_init_43 : decode cX0_init 43 = .ok (.putfield 19, 3) := by decide +kernel
theorem dX0_init_46 : decode cX0_init 46 = .ok (.aload_n 0, 1) := by decide +kernel
theorem dX0_init_47 : decode cX0_init 47 = .ok (.iconst 0, 1) := by decide +kernel
theorem dX0_init_48 : decode cX0_init 48 = .ok (.putfield 23, 3) := by decide +kernel
theorem dX0_init_51 : decode cX0_init 51 = .ok (.return_, 1) := by decide +kernel
set_option maxRecDepth 20000 in
theorem ggX0_beginAs_X6_deedOf : GoodIn wsX0_beginAs wsX6_deedOf := goodIn_r _ [9, 10, 15, 16, 17, 18, 19, 20, 21] (by decide +kernel) (by decide +kernel)
set_option maxRecDepth 20000 in
theorem gX0_beginAs_X6_deedOf : GoodIn wsX0_beginAs (wsV RX0 26 RX6 yX6_deedOf wsX6_deedOf) := goodIn_app (goodIn_of _ (by decide +kernel)) ggX0_beginAs_X6_deedOf
theorem dX0_beginAs_0 : decode cX0_beginAs 0 = .ok (.iconst 0, 1) := by decide +kernel
theorem dX0_beginAs_1 : decode cX0_beginAs 1 = .ok (.istore_n 2, 1) := by decide +kernel
theorem dX0_beginAs_2 : decode cX0_beginAs 2 = .ok (.iload_n 2, 1) := by decide +kernel
theorem dX0_beginAs_3 : decode cX0_beginAs 3 = .ok (.bipush 6, 2) := by decide +kernel
theorem dX0_beginAs_5 : decode cX0_beginAs 5 = .ok (.if_icmp .ge 27, 3) := by decide +kernel
theorem dX0_beginAs_8 : decode cX0_beginAs 8 = .ok (.aload_n 0, 1) := by decide +kernel
theorem dX0_beginAs_9 : decode cX0_beginAs 9 = .ok (.getfield 9, 3) := by decide +kernel
theorem dX0_beginAs_12 : decode cX0_beginAs 12 = .ok (.iload_n 2, 1) := by decide +kernel
theorem dX0_beginAs_13 : decode cX0_beginAs 13 = .ok (.iconst (-1), 1) := by decide +kernel
theorem dX0_beginAs_14 : decode cX0_beginAs 14 = .ok (.iastore, 1) := by decide +kernel
theorem dX0_beginAs_15 : decode cX0_beginAs 15 = .ok (.aload_n 0, 1) := by decide +kernel
theorem dX0_beginAs_16 : decode cX0_beginAs 16 = .ok (.getfield 15, 3) := by decide +kernel
theorem dX0_beginAs_19 : decode cX0_beginAs 19 = .ok (.iload_n 2, 1) := by decide +kernel
theorem dX0_beginAs_20 : decode cX0_beginAs 20 = .ok (.aload_n 1, 1) := by decide +kernel
theorem dX0_beginAs_21 : decode cX0_beginAs 21 = .ok (.iload_n 2, 1) := by decide +kernel
theorem dX0_beginAs_22 : decode cX0_beginAs 22 = .ok (.invokevirtual 26, 3) := by decide +kernel
theorem dX0_beginAs_25 : decode cX0_beginAs 25 = .ok (.lastore, 1) := by decide +kernel
theorem dX0_beginAs_26 : decode cX0_beginAs 26 = .ok (.iinc 2 1, 3) := by decide +kernel
theorem dX0_beginAs_29 : decode cX0_beginAs 29 = .ok (.goto (-27), 3) := by decide +kernel
theorem dX0_beginAs_32 : decode cX0_beginAs 32 = .ok (.aload_n 0, 1) := by decide +kernel
theorem dX0_beginAs_33 : decode cX0_beginAs 33 = .ok (.iconst 0, 1) := by decide +kernel
theorem dX0_beginAs_34 : decode cX0_beginAs 34 = .ok (.putfield 19, 3) := by decide +kernel
theorem dX0_beginAs_37 : decode cX0_beginAs 37 = .ok (.aload_n 0, 1) := by decide +kernel
theorem dX0_beginAs_38 : decode cX0_beginAs 38 = .ok (.iconst 0, 1) := by decide +kernel
theorem dX0_beginAs_39 : decode cX0_beginAs 39 = .ok (.putfield 23, 3) := by decide +kernel
theorem dX0_beginAs_42 : decode cX0_beginAs 42 = .ok (.return_, 1) := by decide +kernel
theorem dX0_startOf_0 : decode cX0_startOf 0 = .ok (.iload_n 1, 1) := by decide +kernel
theorem dX0_startOf_1 : decode cX0_startOf 1 = .ok (.ifCond .lt 18, 3) := by decide +kernel
theorem dX0_startOf_4 : decode cX0_startOf 4 = .ok (.iload_n 1, 1) := by decide +kernel
theorem dX0_startOf_5 : decode cX0_startOf 5 = .ok (.bipush 6, 2) := by decide +kernel
theorem dX0_startOf_7 : decode cX0_startOf 7 = .ok (.if_icmp .ge 12, 3) := by decide +kernel
theorem dX0_startOf_10 : decode cX0_startOf 10 = .ok (.aload_n 0, 1) := by decide +kernel
theorem dX0_startOf_11 : decode cX0_startOf 11 = .ok (.getfield 9, 3) := by decide +kernel
theorem dX0_startOf_14 : decode cX0_startOf 14 = .ok (.iload_n 1, 1) := by decide +kernel
theorem dX0_startOf_15 : decode cX0_startOf 15 = .ok (.iaload, 1) := by decide +kernel
theorem dX0_startOf_16 : decode cX0_startOf 16 = .ok (.goto 4, 3) := by decide +kernel
theorem dX0_startOf_19 : decode cX0_startOf 19 = .ok (.iconst (-1), 1) := by decide +kernel
theorem dX0_startOf_20 : decode cX0_startOf 20 = .ok (.ireturn, 1) := by decide +kernel
theorem dX0_setStart_0 : decode cX0_setStart 0 = .ok (.iload_n 1, 1) := by decide +kernel
theorem dX0_setStart_1 : decode cX0_setStart 1 = .ok (.ifCond .lt 16, 3) := by decide +kernel
theorem dX0_setStart_4 : decode cX0_setStart 4 = .ok (.iload_n 1, 1) := by decide +kernel
theorem dX0_setStart_5 : decode cX0_setStart 5 = .ok (.bipush 6, 2) := by decide +kernel
theorem dX0_setStart_7 : decode cX0_setStart 7 = .ok (.if_icmp .ge 10, 3) := by decide +kernel
theorem dX0_setStart_10 : decode cX0_setStart 10 = .ok (.aload_n 0, 1) := by decide +kernel
theorem dX0_setStart_11 : decode cX0_setStart 11 = .ok (.getfield 9, 3) := by decide +kernel
theorem dX0_setStart_14 : decode cX0_setStart 14 = .ok (.iload_n 1, 1) := by decide +kernel
theorem dX0_setStart_15 : decode cX0_setStart 15 = .ok (.iload_n 2, 1) := by decide +kernel
theorem dX0_setStart_16 : decode cX0_setStart 16 = .ok (.iastore, 1) := by decide +kernel
theorem dX0_setStart_17 : decode cX0_setStart 17 = .ok (.return_, 1) := by decide +kernel
theorem dX0_whoGo_0 : decode cX0_whoGo 0 = .ok (.iconst 0, 1) := by decide +kernel
theorem dX0_whoGo_1 : decode cX0_whoGo 1 = .ok (.istore_n 1, 1) := by decide +kernel
theorem dX0_whoGo_2 : decode cX0_whoGo 2 = .ok (.iconst 0, 1) := by decide +kernel
theorem dX0_whoGo_3 : decode cX0_whoGo 3 = .ok (.istore_n 2, 1) := by decide +kernel
theorem dX0_whoGo_4 : decode cX0_whoGo 4 = .ok (.iload_n 2, 1) := by decide +kernel
theorem dX0_whoGo_5 : decode cX0_whoGo 5 = .ok (.bipush 6, 2) := by decide +kernel
theorem dX0_whoGo_7 : decode cX0_whoGo 7 = .ok (.if_icmp .ge 25, 3) := by decide +kernel
theorem dX0_whoGo_10 : decode cX0_whoGo 10 = .ok (.aload_n 0, 1) := by decide +kernel
theorem dX0_whoGo_11 : decode cX0_whoGo 11 = .ok (.getfield 9, 3) := by decide +kernel
theorem dX0_whoGo_14 : decode cX0_whoGo 14 = .ok (.iload_n 2, 1) := by decide +kernel
theorem dX0_whoGo_15 : decode cX0_whoGo 15 = .ok (.iaload, 1) := by decide +kernel
theorem dX0_whoGo_16 : decode cX0_whoGo 16 = .ok (.iconst (-1), 1) := by decide +kernel
theorem dX0_whoGo_17 : decode cX0_whoGo 17 = .ok (.if_icmp .eq 9, 3) := by decide +kernel
theorem dX0_whoGo_20 : decode cX0_whoGo 20 = .ok (.iload_n 1, 1) := by decide +kernel
theorem dX0_whoGo_21 : decode cX0_whoGo 21 = .ok (.iconst 1, 1) := by decide +kernel
theorem dX0_whoGo_22 : decode cX0_whoGo 22 = .ok (.iload_n 2, 1) := by decide +kernel
theorem dX0_whoGo_23 : decode cX0_whoGo 23 = .ok (.ishl, 1) := by decide +kernel
theorem dX0_whoGo_24 : decode cX0_whoGo 24 = .ok (.ior, 1) := by decide +kernel
theorem dX0_whoGo_25 : decode cX0_whoGo 25 = .ok (.istore_n 1, 1) := by decide +kernel
theorem dX0_whoGo_26 : decode cX0_whoGo 26 = .ok (.iinc 2 1, 3) := by decide +kernel
theorem dX0_whoGo_29 : decode cX0_whoGo 29 = .ok (.goto (-25), 3) := by decide +kernel
theorem dX0_whoGo_32 : decode cX0_whoGo 32 = .ok (.iload_n 1, 1) := by decide +kernel
theorem dX0_whoGo_33 : decode cX0_whoGo 33 = .ok (.ireturn, 1) := by decide +kernel
theorem dX0_isRoped_0 : decode cX0_isRoped 0 = .ok (.aload_n 0, 1) := by decide +kernel
theorem dX0_isRoped_1 : decode cX0_isRoped 1 = .ok (.getfield 19, 3) := by decide +kernel
theorem dX0_isRoped_4 : decode cX0_isRoped 4 = .ok (.iconst 1, 1) := by decide +kernel
theorem dX0_isRoped_5 : decode cX0_isRoped 5 = .ok (.iload_n 1, 1) := by decide +kernel
theorem dX0_isRoped_6 : decode cX0_isRoped 6 = .ok (.ishl, 1) := by decide +kernel
theorem dX0_isRoped_7 : decode cX0_isRoped 7 = .ok (.iand, 1) := by decide +kernel
theorem dX0_isRoped_8 : decode cX0_isRoped 8 = .ok (.ifCond .eq 7, 3) := by decide +kernel
theorem dX0_isRoped_11 : decode cX0_isRoped 11 = .ok (.iconst 1, 1) := by decide +kernel
theorem dX0_isRoped_12 : decode cX0_isRoped 12 = .ok (.goto 4, 3) := by decide +kernel
theorem dX0_isRoped_15 : decode cX0_isRoped 15 = .ok (.iconst 0, 1) := by decide +kernel
theorem dX0_isRoped_16 : decode cX0_isRoped 16 = .ok (.ireturn, 1) := by decide +kernel
theorem dX0_setRope_0 : decode cX0_setRope 0 = .ok (.aload_n 0, 1) := by decide +kernel
theorem dX0_setRope_1 : decode cX0_setRope 1 = .ok (.iload_n 2, 1) := by decide +kernel
theorem dX0_setRope_2 : decode cX0_setRope 2 = .ok (.ifCond .eq 14, 3) := by decide +kernel
theorem dX0_setRope_5 : decode cX0_setRope 5 = .ok (.aload_n 0, 1) := by decide +kernel
theorem dX0_setRope_6 : decode cX0_setRope 6 = .ok (.getfield 19, 3) := by decide +kernel
theorem dX0_setRope_9 : decode cX0_setRope 9 = .ok (.iconst 1, 1) := by decide +kernel
theorem dX0_setRope_10 : decode cX0_setRope 10 = .ok (.iload_n 1, 1) := by decide +kernel
theorem dX0_setRope_11 : decode cX0_setRope 11 = .ok (.ishl, 1) := by decide +kernel
theorem dX0_setRope_12 : decode cX0_setRope 12 = .ok (.ior, 1) := by decide +kernel
theorem dX0_setRope_13 : decode cX0_setRope 13 = .ok (.goto 13, 3) := by decide +kernel
theorem dX0_setRope_16 : decode cX0_setRope 16 = .ok (.aload_n 0, 1) := by decide +kernel
theorem dX0_setRope_17 : decode cX0_setRope 17 = .ok (.getfield 19, 3) := by decide +kernel
theorem dX0_setRope_20 : decode cX0_setRope 20 = .ok (.iconst 1, 1) := by decide +kernel
theorem dX0_setRope_21 : decode cX0_setRope 21 = .ok (.iload_n 1, 1) := by decide +kernel
theorem dX0_setRope_22 : decode cX0_setRope 22 = .ok (.ishl, 1) := by decide +kernel
theorem dX0_setRope_23 : decode cX0_setRope 23 = .ok (.iconst (-1), 1) := by decide +kernel
theorem dX0_setRope_24 : decode cX0_setRope 24 = .ok (.ixor, 1) := by decide +kernel
theorem dX0_setRope_25 : decode cX0_setRope 25 = .ok (.iand, 1) := by decide +kernel
theorem dX0_setRope_26 : decode cX0_setRope 26 = .ok (.putfield 19, 3) := by decide +kernel
theorem dX0_setRope_29 : decode cX0_setRope 29 = .ok (.return_, 1) := by decide +kernel
theorem dX0_landOf_0 : decode cX0_landOf 0 = .ok (.iload_n 1, 1) := by decide +kernel
theorem dX0_landOf_1 : decode cX0_landOf 1 = .ok (.ifCond .lt 18, 3) := by decide +kernel
theorem dX0_landOf_4 : decode cX0_landOf 4 = .ok (.iload_n 1, 1) := by decide +kernel
theorem dX0_landOf_5 : decode cX0_landOf 5 = .ok (.bipush 6, 2) := by decide +kernel
theorem dX0_landOf_7 : decode cX0_landOf 7 = .ok (.if_icmp .ge 12, 3) := by decide +kernel
theorem dX0_landOf_10 : decode cX0_landOf 10 = .ok (.aload_n 0, 1) := by decide +kernel
theorem dX0_landOf_11 : decode cX0_landOf 11 = .ok (.getfield 15, 3) := by decide +kernel
theorem dX0_landOf_14 : decode cX0_landOf 14 = .ok (.iload_n 1, 1) := by decide +kernel
theorem dX0_landOf_15 : decode cX0_landOf 15 = .ok (.laload, 1) := by decide +kernel
theorem dX0_landOf_16 : decode cX0_landOf 16 = .ok (.goto 4, 3) := by decide +kernel
theorem dX0_landOf_19 : decode cX0_landOf 19 = .ok (.lconst 0, 1) := by decide +kernel
theorem dX0_landOf_20 : decode cX0_landOf 20 = .ok (.lreturn, 1) := by decide +kernel
theorem dX0_landOfAll_0 : decode cX0_landOfAll 0 = .ok (.lconst 0, 1) := by decide +kernel
theorem dX0_landOfAll_1 : decode cX0_landOfAll 1 = .ok (.lstore_n 1, 1) := by decide +kernel
theorem dX0_landOfAll_2 : decode cX0_landOfAll 2 = .ok (.iconst 0, 1) := by decide +kernel
theorem dX0_landOfAll_3 : decode cX0_landOfAll 3 = .ok (.istore_n 3, 1) := by decide +kernel
theorem dX0_landOfAll_4 : decode cX0_landOfAll 4 = .ok (.iload_n 3, 1) := by decide +kernel
theorem dX0_landOfAll_5 : decode cX0_landOfAll 5 = .ok (.bipush 6, 2) := by decide +kernel
theorem dX0_landOfAll_7 : decode cX0_landOfAll 7 = .ok (.if_icmp .ge 18, 3) := by decide +kernel
theorem dX0_landOfAll_10 : decode cX0_landOfAll 10 = .ok (.lload_n 1, 1) := by decide +kernel
theorem dX0_landOfAll_11 : decode cX0_landOfAll 11 = .ok (.aload_n 0, 1) := by decide +kernel
theorem dX0_landOfAll_12 : decode cX0_landOfAll 12 = .ok (.getfield 15, 3) := by decide +kernel
theorem dX0_landOfAll_15 : decode cX0_landOfAll 15 = .ok (.iload_n 3, 1) := by decide +kernel
theorem dX0_landOfAll_16 : decode cX0_landOfAll 16 = .ok (.laload, 1) := by decide +kernel
theorem dX0_landOfAll_17 : decode cX0_landOfAll 17 = .ok (.lor, 1) := by decide +kernel
theorem dX0_landOfAll_18 : decode cX0_landOfAll 18 = .ok (.lstore_n 1, 1) := by decide +kernel
theorem dX0_landOfAll_19 : decode cX0_landOfAll 19 = .ok (.iinc 3 1, 3) := by decide +kernel
theorem dX0_landOfAll_22 : decode cX0_landOfAll 22 = .ok (.goto (-18), 3) := by decide +kernel
theorem dX0_landOfAll_25 : decode cX0_landOfAll 25 = .ok (.lload_n 1, 1) := by decide +kernel
theorem dX0_landOfAll_26 : decode cX0_landOfAll 26 = .ok (.lreturn, 1) := by decide +kernel
theorem dX0_ownerOf_0 : decode cX0_ownerOf 0 = .ok (.iconst 0, 1) := by decide +kernel
theorem dX0_ownerOf_1 : decode cX0_ownerOf 1 = .ok (.istore_n 2, 1) := by decide +kernel
theorem dX0_ownerOf_2 : decode cX0_ownerOf 2 = .ok (.iload_n 2, 1) := by decide +kernel
theorem dX0_ownerOf_3 : decode cX0_ownerOf 3 = .ok (.bipush 6, 2) := by decide +kernel
theorem dX0_ownerOf_5 : decode cX0_ownerOf 5 = .ok (.if_icmp .ge 26, 3) := by decide +kernel
theorem dX0_ownerOf_8 : decode cX0_ownerOf 8 = .ok (.aload_n 0, 1) := by decide +kernel
theorem dX0_ownerOf_9 : decode cX0_ownerOf 9 = .ok (.getfield 15, 3) := by decide +kernel
theorem dX0_ownerOf_12 : decode cX0_ownerOf 12 = .ok (.iload_n 2, 1) := by decide +kernel
theorem dX0_ownerOf_13 : decode cX0_ownerOf 13 = .ok (.laload, 1) := by decide +kernel
theorem dX0_ownerOf_14 : decode cX0_ownerOf 14 = .ok (.lconst 1, 1) := by decide +kernel
theorem dX0_ownerOf_15 : decode cX0_ownerOf 15 = .ok (.iload_n 1, 1) := by decide +kernel
theorem dX0_ownerOf_16 : decode cX0_ownerOf 16 = .ok (.lshl, 1) := by decide +kernel
theorem dX0_ownerOf_17 : decode cX0_ownerOf 17 = .ok (.land, 1) := by decide +kernel
theorem dX0_ownerOf_18 : decode cX0_ownerOf 18 = .ok (.lconst 0, 1) := by decide +kernel
theorem dX0_ownerOf_19 : decode cX0_ownerOf 19 = .ok (.lcmp, 1) := by decide +kernel
theorem dX0_ownerOf_20 : decode cX0_ownerOf 20 = .ok (.ifCond .eq 5, 3) := by decide +kernel
theorem dX0_ownerOf_23 : decode cX0_ownerOf 23 = .ok (.iload_n 2, 1) := by decide +kernel
theorem dX0_ownerOf_24 : decode cX0_ownerOf 24 = .ok (.ireturn, 1) := by decide +kernel
theorem dX0_ownerOf_25 : decode cX0_ownerOf 25 = .ok (.iinc 2 1, 3) := by decide +kernel
theorem dX0_ownerOf_28 : decode cX0_ownerOf 28 = .ok (.goto (-26), 3) := by decide +kernel
theorem dX0_ownerOf_31 : decode cX0_ownerOf 31 = .ok (.iconst (-1), 1) := by decide +kernel
theorem dX0_ownerOf_32 : decode cX0_ownerOf 32 = .ok (.ireturn, 1) := by decide +kernel
theorem dX0_give_0 : decode cX0_give 0 = .ok (.iconst 0, 1) := by decide +kernel
theorem dX0_give_1 : decode cX0_give 1 = .ok (.istore 4, 2) := by decide +kernel
theorem dX0_give_3 : decode cX0_give 3 = .ok (.iload 4, 2) := by decide +kernel
theorem dX0_give_5 : decode cX0_give 5 = .ok (.bipush 6, 2) := by decide +kernel
theorem dX0_give_7 : decode cX0_give 7 = .ok (.if_icmp .ge 47, 3) := by decide +kernel
theorem dX0_give_10 : decode cX0_give 10 = .ok (.aload_n 0, 1) := by decide +kernel
theorem dX0_give_11 : decode cX0_give 11 = .ok (.getfield 15, 3) := by decide +kernel
theorem dX0_give_14 : decode cX0_give 14 = .ok (.iload 4, 2) := by decide +kernel
theorem dX0_give_16 : decode cX0_give 16 = .ok (.iload 4, 2) := by decide +kernel
theorem dX0_give_18 : decode cX0_give 18 = .ok (.iload_n 3, 1) := by decide +kernel
theorem dX0_give_19 : decode cX0_give 19 = .ok (.if_icmp .ne 15, 3) := by decide +kernel
theorem dX0_give_22 : decode cX0_give 22 = .ok (.aload_n 0, 1) := by decide +kernel
theorem dX0_give_23 : decode cX0_give 23 = .ok (.getfield 15, 3) := by decide +kernel
theorem dX0_give_26 : decode cX0_give 26 = .ok (.iload 4, 2) := by decide +kernel
theorem dX0_give_28 : decode cX0_give 28 = .ok (.laload, 1) := by decide +kernel
theorem dX0_give_29 : decode cX0_give 29 = .ok (.lload_n 1, 1) := by decide +kernel
theorem dX0_give_30 : decode cX0_give 30 = .ok (.lor, 1) := by decide +kernel
theorem dX0_give_31 : decode cX0_give 31 = .ok (.goto 16, 3) := by decide +kernel
theorem dX0_give_34 : decode cX0_give 34 = .ok (.aload_n 0, 1) := by decide +kernel
theorem dX0_give_35 : decode cX0_give 35 = .ok (.getfield 15, 3) := by decide +kernel
theorem dX0_give_38 : decode cX0_give 38 = .ok (.iload 4, 2) := by decide +kernel
theorem dX0_give_40 : decode cX0_give 40 = .ok (.laload, 1) := by decide +kernel
theorem dX0_give_41 : decode cX0_give 41 = .ok (.lload_n 1, 1) := by decide +kernel
theorem dX0_give_42 : decode cX0_give 42 = .ok (.ldc2_w 32, 3) := by decide +kernel
theorem dX0_give_45 : decode cX0_give 45 = .ok (.lxor, 1) := by decide +kernel
theorem dX0_give_46 : decode cX0_give 46 = .ok (.land, 1) := by decide +kernel
theorem dX0_give_47 : decode cX0_give 47 = .ok (.lastore, 1) := by decide +kernel
theorem dX0_give_48 : decode cX0_give 48 = .ok (.iinc 4 1, 3) := by decide +kernel
theorem dX0_give_51 : decode cX0_give 51 = .ok (.goto (-48), 3) := by decide +kernel
theorem dX0_give_54 : decode cX0_give 54 = .ok (.return_, 1) := by decide +kernel
theorem dX1_init_0 : decode cX1_init 0 = .ok (.aload_n 0, 1) := by decide +kernel
theorem dX1_init_1 : decode cX1_init 1 = .ok (.invokespecial 3, 3) := by decide +kernel
theorem dX1_init_4 : decode cX1_init 4 = .ok (.aload_n 0, 1) := by decide +kernel
theorem dX1_init_5 : decode cX1_init 5 = .ok (.bipush 64, 2) := by decide +kernel
theorem dX1_init_7 : decode cX1_init 7 = .ok (.newarray .int, 2) := by decide +kernel
theorem dX1_init_9 : decode cX1_init 9 = .ok (.putfield 9, 3) := by decide +kernel
theorem dX1_init_12 : decode cX1_init 12 = .ok (.aload_n 0, 1) := by decide +kernel
theorem dX1_init_13 : decode cX1_init 13 = .ok (.aload_n 1, 1) := by decide +kernel
theorem dX1_init_14 : decode cX1_init 14 = .ok (.putfield 15, 3) := by decide +kernel
theorem dX1_init_17 : decode cX1_init 17 = .ok (.aload_n 0, 1) := by decide +kernel
theorem dX1_init_18 : decode cX1_init 18 = .ok (.aload_n 2, 1) := by decide +kernel
theorem dX1_init_19 : decode cX1_init 19 = .ok (.putfield 19, 3) := by decide +kernel
theorem dX1_init_22 : decode cX1_init 22 = .ok (.return_, 1) := by decide +kernel
set_option maxRecDepth 20000 in
theorem ggX1_stands_X6_walkOf : GoodIn wsX1_stands wsX6_walkOf := goodIn_r _ [6, 7, 8, 21, 22, 23, 24, 25, 26, 27] (by decide +kernel) (by decide +kernel)
set_option maxRecDepth 20000 in
theorem gX1_stands_X6_walkOf : GoodIn wsX1_stands (wsV RX1 23 RX6 yX6_walkOf wsX6_walkOf) := goodIn_app (goodIn_of _ (by decide +kernel)) ggX1_stands_X6_walkOf
set_option maxRecDepth 20000 in
theorem ggX1_stands_X6_stayOf : GoodIn wsX1_stands wsX6_stayOf := goodIn_r _ [12, 13, 21, 22, 23, 24, 25, 26, 27] (by decide +kernel) (by decide +kernel)
set_option maxRecDepth 20000 in
theorem gX1_stands_X6_stayOf : GoodIn wsX1_stands (wsV RX1 29 RX6 yX6_stayOf wsX6_stayOf) := goodIn_app (goodIn_of _ (by decide +kernel)) ggX1_stands_X6_stayOf
set_option maxRecDepth 20000 in
theorem ggX1_stands_X7_span : GoodIn wsX1_stands wsX7_span := goodIn_r _ [16, 17] (by decide +kernel) (by decide +kernel)
set_option maxRecDepth 20000 in
theorem gX1_stands_X7_span_n32 : GoodIn wsX1_stands (wsX7_span) := ggX1_stands_X7_span
theorem dX1_stands_0 : decode cX1_stands 0 = .ok (.iload_n 2, 1) := by decide +kernel
theorem dX1_stands_1 : decode cX1_stands 1 = .ok (.iconst (-1), 1) := by decide +kernel
theorem dX1_stands_2 : decode cX1_stands 2 = .ok (.if_icmp .ne 5, 3) := by decide +kernel
theorem dX1_stands_5 : decode cX1_stands 5 = .ok (.lconst 0, 1) := by decide +kernel
theorem dX1_stands_6 : decode cX1_stands 6 = .ok (.lreturn, 1) := by decide +kernel
theorem dX1_stands_7 : decode cX1_stands 7 = .ok (.iload_n 2, 1) := by decide +kernel
theorem dX1_stands_8 : decode cX1_stands 8 = .ok (.aload_n 0, 1) := by decide +kernel
theorem dX1_stands_9 : decode cX1_stands 9 = .ok (.getfield 15, 3) := by decide +kernel
theorem dX1_stands_12 : decode cX1_stands 12 = .ok (.iload_n 1, 1) := by decide +kernel
theorem dX1_stands_13 : decode cX1_stands 13 = .ok (.invokevirtual 23, 3) := by decide +kernel
theorem dX1_stands_16 : decode cX1_stands 16 = .ok (.iadd, 1) := by decide +kernel
theorem dX1_stands_17 : decode cX1_stands 17 = .ok (.iload_n 3, 1) := by decide +kernel
theorem dX1_stands_18 : decode cX1_stands 18 = .ok (.iadd, 1) := by decide +kernel
theorem dX1_stands_19 : decode cX1_stands 19 = .ok (.istore 4, 2) := by decide +kernel
theorem dX1_stands_21 : decode cX1_stands 21 = .ok (.iload 4, 2) := by decide +kernel
theorem dX1_stands_23 : decode cX1_stands 23 = .ok (.iload 4, 2) := by decide +kernel
theorem dX1_stands_25 : decode cX1_stands 25 = .ok (.aload_n 0, 1) := by decide +kernel
theorem dX1_stands_26 : decode cX1_stands 26 = .ok (.getfield 15, 3) := by decide +kernel
theorem dX1_stands_29 : decode cX1_stands 29 = .ok (.iload_n 1, 1) := by decide +kernel
theorem dX1_stands_30 : decode cX1_stands 30 = .ok (.invokevirtual 29, 3) := by decide +kernel
theorem dX1_stands_33 : decode cX1_stands 33 = .ok (.iadd, 1) := by decide +kernel
theorem dX1_stands_34 : decode cX1_stands 34 = .ok (.iconst 1, 1) := by decide +kernel
theorem dX1_stands_35 : decode cX1_stands 35 = .ok (.isub, 1) := by decide +kernel
theorem dX1_stands_36 : decode cX1_stands 36 = .ok (.invokestatic 32, 3) := by decide +kernel
theorem dX1_stands_39 : decode cX1_stands 39 = .ok (.lreturn, 1) := by decide +kernel
set_option maxRecDepth 20000 in
theorem ggX1_crowdAheadOf_X0_startOf : GoodIn wsX1_crowdAheadOf wsX0_startOf := goodIn_r _ [6, 7, 33, 34, 35, 36] (by decide +kernel) (by decide +kernel)
set_option maxRecDepth 20000 in
theorem gX1_crowdAheadOf_X0_startOf : GoodIn wsX1_crowdAheadOf (wsV RX1 36 RX0 yX0_startOf wsX0_startOf) := goodIn_app (goodIn_of _ (by decide +kernel)) ggX1_crowdAheadOf_X0_startOf
set_option maxRecDepth 20000 in
theorem ggX1_crowdAheadOf_X1_stands : GoodIn wsX1_crowdAheadOf wsX1_stands := goodIn_r _ [12, 13, 14, 15, 16, 17, 18, 19, 20, 21, 22, 23, 24, 25, 26, 27, 28, 29, 30, 31, 32, 37, 38, 39, 40, 41, 42, 43] (by decide +kernel) (by decide +kernel)
set_option maxRecDepth 20000 in
theorem gX1_crowdAheadOf_X1_stands : GoodIn wsX1_crowdAheadOf (wsV RX1 41 RX1 yX1_stands wsX1_stands) := goodIn_app (goodIn_of _ (by decide +kernel)) ggX1_crowdAheadOf_X1_stands
theorem dX1_crowdAheadOf_0 : decode cX1_crowdAheadOf 0 = .ok (.lconst 0, 1) := by decide +kernel
theorem dX1_crowdAheadOf_1 : decode cX1_crowdAheadOf 1 = .ok (.lstore_n 3, 1) := by decide +kernel
theorem dX1_crowdAheadOf_2 : decode cX1_crowdAheadOf 2 = .ok (.lconst 0, 1) := by decide +kernel
theorem dX1_crowdAheadOf_3 : decode cX1_crowdAheadOf 3 = .ok (.lstore 5, 2) := by decide +kernel
theorem dX1_crowdAheadOf_5 : decode cX1_crowdAheadOf 5 = .ok (.iconst 0, 1) := by decide +kernel
theorem dX1_crowdAheadOf_6 : decode cX1_crowdAheadOf 6 = .ok (.istore 7, 2) := by decide +kernel
theorem dX1_crowdAheadOf_8 : decode cX1_crowdAheadOf 8 = .ok (.iload 7, 2) := by decide +kernel
theorem dX1_crowdAheadOf_10 : decode cX1_crowdAheadOf 10 = .ok (.iload_n 1, 1) := by decide +kernel
theorem dX1_crowdAheadOf_11 : decode cX1_crowdAheadOf 11 = .ok (.if_icmp .ge 48, 3) := by decide +kernel
theorem dX1_crowdAheadOf_14 : decode cX1_crowdAheadOf 14 = .ok (.iload 7, 2) := by decide +kernel
theorem dX1_crowdAheadOf_16 : decode cX1_crowdAheadOf 16 = .ok (.bipush 6, 2) := by decide +kernel
theorem dX1_crowdAheadOf_18 : decode cX1_crowdAheadOf 18 = .ok (.if_icmp .ge 41, 3) := by decide +kernel
theorem dX1_crowdAheadOf_21 : decode cX1_crowdAheadOf 21 = .ok (.aload_n 0, 1) := by decide +kernel
theorem dX1_crowdAheadOf_22 : decode cX1_crowdAheadOf 22 = .ok (.iload 7, 2) := by decide +kernel
theorem dX1_crowdAheadOf_24 : decode cX1_crowdAheadOf 24 = .ok (.aload_n 0, 1) := by decide +kernel
theorem dX1_crowdAheadOf_25 : decode cX1_crowdAheadOf 25 = .ok (.getfield 19, 3) := by decide +kernel
theorem dX1_crowdAheadOf_28 : decode cX1_crowdAheadOf 28 = .ok (.iload 7, 2) := by decide +kernel
theorem dX1_crowdAheadOf_30 : decode cX1_crowdAheadOf 30 = .ok (.invokevirtual 36, 3) := by decide +kernel
theorem dX1_crowdAheadOf_33 : decode cX1_crowdAheadOf 33 = .ok (.iload_n 2, 1) := by decide +kernel
theorem dX1_crowdAheadOf_34 : decode cX1_crowdAheadOf 34 = .ok (.invokevirtual 41, 3) := by decide +kernel
theorem dX1_crowdAheadOf_37 : decode cX1_crowdAheadOf 37 = .ok (.lstore 8, 2) := by decide +kernel
theorem dX1_crowdAheadOf_39 : decode cX1_crowdAheadOf 39 = .ok (.lload 5, 2) := by decide +kernel
theorem dX1_crowdAheadOf_41 : decode cX1_crowdAheadOf 41 = .ok (.lload_n 3, 1) := by decide +kernel
theorem dX1_crowdAheadOf_42 : decode cX1_crowdAheadOf 42 = .ok (.lload 8, 2) := by decide +kernel
theorem dX1_crowdAheadOf_44 : decode cX1_crowdAheadOf 44 = .ok (.land, 1) := by decide +kernel
theorem dX1_crowdAheadOf_45 : decode cX1_crowdAheadOf 45 = .ok (.lor, 1) := by decide +kernel
theorem dX1_crowdAheadOf_46 : decode cX1_crowdAheadOf 46 = .ok (.lstore 5, 2) := by decide +kernel
theorem dX1_crowdAheadOf_48 : decode cX1_crowdAheadOf 48 = .ok (.lload_n 3, 1) := by decide +kernel
theorem dX1_crowdAheadOf_49 : decode cX1_crowdAheadOf 49 = .ok (.lload 8, 2) := by decide +kernel
theorem dX1_crowdAheadOf_51 : decode cX1_crowdAheadOf 51 = .ok (.lor, 1) := by decide +kernel
theorem dX1_crowdAheadOf_52 : decode cX1_crowdAheadOf 52 = .ok (.lstore_n 3, 1) := by decide +kernel
theorem dX1_crowdAheadOf_53 : decode cX1_crowdAheadOf 53 = .ok (.iinc 7 1, 3) := by decide +kernel
theorem dX1_crowdAheadOf_56 : decode cX1_crowdAheadOf 56 = .ok (.goto (-48), 3) := by decide +kernel
theorem dX1_crowdAheadOf_59 : decode cX1_crowdAheadOf 59 = .ok (.lload 5, 2) := by decide +kernel
theorem dX1_crowdAheadOf_61 : decode cX1_crowdAheadOf 61 = .ok (.lreturn, 1) := by decide +kernel
set_option maxRecDepth 20000 in
theorem ggX1_costly_X0_landOf : GoodIn wsX1_costly wsX0_landOf := goodIn_r _ [10, 11, 28, 29, 30, 31] (by decide +kernel) (by decide +kernel)
set_option maxRecDepth 20000 in
theorem gX1_costly_X0_landOf : GoodIn wsX1_costly (wsV RX1 53 RX0 yX0_landOf wsX0_landOf) := goodIn_app (goodIn_of _ (by decide +kernel)) ggX1_costly_X0_landOf
set_option maxRecDepth 20000 in
theorem ggX1_costly_X6_kindOf : GoodIn wsX1_costly wsX6_kindOf := goodIn_r _ [16, 17, 21, 22, 23, 24, 25, 26, 27] (by decide +kernel) (by decide +kernel)
set_option maxRecDepth 20000 in
theorem gX1_costly_X6_kindOf : GoodIn wsX1_costly (wsV RX1 57 RX6 yX6_kindOf wsX6_kindOf) := goodIn_app (goodIn_of _ (by decide +kernel)) ggX1_costly_X6_kindOf
theorem dX1_costly_0 : decode cX1_costly 0 = .ok (.ldc2_w 45, 3) := by decide +kernel
theorem dX1_costly_3 : decode cX1_costly 3 = .ok (.aload_n 0, 1) := by decide +kernel
theorem dX1_costly_4 : decode cX1_costly 4 = .ok (.getfield 15, 3) := by decide +kernel
theorem dX1_costly_7 : decode cX1_costly 7 = .ok (.getfield 47, 3) := by decide +kernel
theorem dX1_costly_10 : decode cX1_costly 10 = .ok (.ldc2_w 51, 3) := by decide +kernel
theorem dX1_costly_13 : decode cX1_costly 13 = .ok (.lxor, 1) := by decide +kernel
theorem dX1_costly_14 : decode cX1_costly 14 = .ok (.land, 1) := by decide +kernel
theorem dX1_costly_15 : decode cX1_costly 15 = .ok (.aload_n 0, 1) := by decide +kernel
theorem dX1_costly_16 : decode cX1_costly 16 = .ok (.getfield 19, 3) := by decide +kernel
theorem dX1_costly_19 : decode cX1_costly 19 = .ok (.iload_n 1, 1) := by decide +kernel
theorem dX1_costly_20 : decode cX1_costly 20 = .ok (.invokevirtual 53, 3) := by decide +kernel
theorem dX1_costly_23 : decode cX1_costly 23 = .ok (.ldc2_w 51, 3) := by decide +kernel
theorem dX1_costly_26 : decode cX1_costly 26 = .ok (.lxor, 1) := by decide +kernel
theorem dX1_costly_27 : decode cX1_costly 27 = .ok (.land, 1) := by decide +kernel
theorem dX1_costly_28 : decode cX1_costly 28 = .ok (.lstore_n 2, 1) := by decide +kernel
theorem dX1_costly_29 : decode cX1_costly 29 = .ok (.aload_n 0, 1) := by decide +kernel
theorem dX1_costly_30 : decode cX1_costly 30 = .ok (.getfield 15, 3) := by decide +kernel
theorem dX1_costly_33 : decode cX1_costly 33 = .ok (.iload_n 1, 1) := by decide +kernel
theorem dX1_costly_34 : decode cX1_costly 34 = .ok (.invokevirtual 57, 3) := by decide +kernel
theorem dX1_costly_37 : decode cX1_costly 37 = .ok (.iconst 2, 1) := by decide +kernel
theorem dX1_costly_38 : decode cX1_costly 38 = .ok (.if_icmp .ne 11, 3) := by decide +kernel
theorem dX1_costly_41 : decode cX1_costly 41 = .ok (.lload_n 2, 1) := by decide +kernel
theorem dX1_costly_42 : decode cX1_costly 42 = .ok (.ldc2_w 60, 3) := by decide +kernel
theorem dX1_costly_45 : decode cX1_costly 45 = .ok (.land, 1) := by decide +kernel
theorem dX1_costly_46 : decode cX1_costly 46 = .ok (.goto 4, 3) := by decide +kernel
theorem dX1_costly_49 : decode cX1_costly 49 = .ok (.lload_n 2, 1) := by decide +kernel
theorem dX1_costly_50 : decode cX1_costly 50 = .ok (.lreturn, 1) := by decide +kernel
set_option maxRecDepth 20000 in
theorem ggX1_costOf_X1_costly : GoodIn wsX1_costOf wsX1_costly := goodIn_r _ [7, 8, 1, 9, 2, 10, 11, 12, 13, 14, 15, 16, 17, 18, 19, 20, 21, 22, 35, 36, 37, 38, 39, 40, 41, 42, 43, 44, 45, 46, 47, 48] (by decide +kernel) (by decide +kernel)
set_option maxRecDepth 20000 in
theorem gX1_costOf_X1_costly : GoodIn wsX1_costOf (wsV RX1 62 RX1 yX1_costly wsX1_costly) := goodIn_app (goodIn_of _ (by decide +kernel)) ggX1_costOf_X1_costly
set_option maxRecDepth 20000 in
theorem ggX1_costOf_X0_landOf : GoodIn wsX1_costOf wsX0_landOf := goodIn_r _ [15, 16, 45, 46, 47, 48] (by decide +kernel) (by decide +kernel)
set_option maxRecDepth 20000 in
theorem gX1_costOf_X0_landOf : GoodIn wsX1_costOf (wsV RX1 53 RX0 yX0_landOf wsX0_landOf) := goodIn_app (goodIn_of _ (by decide +kernel)) ggX1_costOf_X0_landOf
set_option maxRecDepth 20000 in
theorem ggX1_costOf_J13_bitCount_95d88 : GoodIn wsX1_costOf wsJ13_bitCount_95d88 := goodIn_r _ [26, 27, 28, 29] (by decide +kernel) (by decide +kernel)
set_option maxRecDepth 20000 in
theorem gX1_costOf_J13_bitCount_95d88 : GoodIn wsX1_costOf (va_wsS RX1 69 yJ13_bitCount_95d88 wsJ13_bitCount_95d88) := goodIn_app (goodIn_of _ (by decide +kernel)) ggX1_costOf_J13_bitCount_95d88
set_option maxRecDepth 20000 in
theorem ggX1_costOf_X6_tollOf : GoodIn wsX1_costOf wsX6_tollOf := goodIn_r _ [33, 22, 34, 38, 39, 40, 41, 42, 43, 44] (by decide +kernel) (by decide +kernel)
set_option maxRecDepth 20000 in
theorem gX1_costOf_X6_tollOf : GoodIn wsX1_costOf (wsV RX1 75 RX6 yX6_tollOf wsX6_tollOf) := goodIn_app (goodIn_of _ (by decide +kernel)) ggX1_costOf_X6_tollOf
theorem dX1_costOf_0 : decode cX1_costOf 0 = .ok (.lload_n 2, 1) := by decide +kernel
theorem dX1_costOf_1 : decode cX1_costOf 1 = .ok (.aload_n 0, 1) := by decide +kernel
theorem dX1_costOf_2 : decode cX1_costOf 2 = .ok (.iload_n 1, 1) := by decide +kernel
theorem dX1_costOf_3 : decode cX1_costOf 3 = .ok (.invokevirtual 62, 3) := by decide +kernel
theorem dX1_costOf_6 : decode cX1_costOf 6 = .ok (.land, 1) := by decide +kernel
theorem dX1_costOf_7 : decode cX1_costOf 7 = .ok (.lstore 4, 2) := by decide +kernel
theorem dX1_costOf_9 : decode cX1_costOf 9 = .ok (.iconst 0, 1) := by decide +kernel
theorem dX1_costOf_10 : decode cX1_costOf 10 = .ok (.istore 6, 2) := by decide +kernel
theorem dX1_costOf_12 : decode cX1_costOf 12 = .ok (.iconst 0, 1) := by decide +kernel
theorem dX1_costOf_13 : decode cX1_costOf 13 = .ok (.istore 7, 2) := by decide +kernel
theorem dX1_costOf_15 : decode cX1_costOf 15 = .ok (.iload 7, 2) := by decide +kernel
theorem dX1_costOf_17 : decode cX1_costOf 17 = .ok (.aload_n 0, 1) := by decide +kernel
theorem dX1_costOf_18 : decode cX1_costOf 18 = .ok (.getfield 15, 3) := by decide +kernel
theorem dX1_costOf_21 : decode cX1_costOf 21 = .ok (.getfield 65, 3) := by decide +kernel
theorem dX1_costOf_24 : decode cX1_costOf 24 = .ok (.if_icmp .ge 39, 3) := by decide +kernel
theorem dX1_costOf_27 : decode cX1_costOf 27 = .ok (.iload 6, 2) := by decide +kernel
theorem dX1_costOf_29 : decode cX1_costOf 29 = .ok (.lload 4, 2) := by decide +kernel
theorem dX1_costOf_31 : decode cX1_costOf 31 = .ok (.aload_n 0, 1) := by decide +kernel
theorem dX1_costOf_32 : decode cX1_costOf 32 = .ok (.getfield 19, 3) := by decide +kernel
theorem dX1_costOf_35 : decode cX1_costOf 35 = .ok (.iload 7, 2) := by decide +kernel
theorem dX1_costOf_37 : decode cX1_costOf 37 = .ok (.invokevirtual 53, 3) := by decide +kernel
theorem dX1_costOf_40 : decode cX1_costOf 40 = .ok (.land, 1) := by decide +kernel
theorem dX1_costOf_41 : decode cX1_costOf 41 = .ok (.invokestatic 69, 3) := by decide +kernel
theorem dX1_costOf_44 : decode cX1_costOf 44 = .ok (.aload_n 0, 1) := by decide +kernel
theorem dX1_costOf_45 : decode cX1_costOf 45 = .ok (.getfield 15, 3) := by decide +kernel
theorem dX1_costOf_48 : decode cX1_costOf 48 = .ok (.iload 7, 2) := by decide +kernel
theorem dX1_costOf_50 : decode cX1_costOf 50 = .ok (.invokevirtual 75, 3) := by decide +kernel
theorem dX1_costOf_53 : decode cX1_costOf 53 = .ok (.imul, 1) := by decide +kernel
theorem dX1_costOf_54 : decode cX1_costOf 54 = .ok (.iadd, 1) := by decide +kernel
theorem dX1_costOf_55 : decode cX1_costOf 55 = .ok (.istore 6, 2) := by decide +kernel
theorem dX1_costOf_57 : decode cX1_costOf 57 = .ok (.iinc 7 1, 3) := by decide +kernel
theorem dX1_costOf_60 : decode cX1_costOf 60 = .ok (.goto (-45), 3) := by decide +kernel
theorem dX1_costOf_63 : decode cX1_costOf 63 = .ok (.iload 6, 2) := by decide +kernel
theorem dX1_costOf_65 : decode cX1_costOf 65 = .ok (.ireturn, 1) := by decide +kernel
set_option maxRecDepth 20000 in
theorem ggX1_freeFor_X6_tollOf : GoodIn wsX1_freeFor wsX6_tollOf := goodIn_r _ [9, 10, 11, 31, 32, 33, 34, 35, 36, 37] (by decide +kernel) (by decide +kernel)
set_option maxRecDepth 20000 in
theorem gX1_freeFor_X6_tollOf : GoodIn wsX1_freeFor (wsV RX1 75 RX6 yX6_tollOf wsX6_tollOf) := goodIn_app (goodIn_of _ (by decide +kernel)) ggX1_freeFor_X6_tollOf
set_option maxRecDepth 20000 in
theorem ggX1_freeFor_X0_landOf : GoodIn wsX1_freeFor wsX0_landOf := goodIn_r _ [16, 17, 38, 39, 40, 41] (by decide +kernel) (by decide +kernel)
set_option maxRecDepth 20000 in
theorem gX1_freeFor_X0_landOf : GoodIn wsX1_freeFor (wsV RX1 53 RX0 yX0_landOf wsX0_landOf) := goodIn_app (goodIn_of _ (by decide +kernel)) ggX1_freeFor_X0_landOf
set_option maxRecDepth 20000 in
theorem ggX1_freeFor_X1_costly : GoodIn wsX1_freeFor wsX1_costly := goodIn_r _ [22, 3, 1, 4, 2, 23, 12, 13, 14, 15, 16, 17, 24, 25, 26, 8, 27, 10, 28, 29, 30, 31, 32, 33, 34, 35, 36, 37, 38, 39, 40, 41] (by decide +kernel) (by decide +kernel)
set_option maxRecDepth 20000 in
theorem gX1_freeFor_X1_costly : GoodIn wsX1_freeFor (wsV RX1 62 RX1 yX1_costly wsX1_costly) := goodIn_app (goodIn_of _ (by decide +kernel)) ggX1_freeFor_X1_costly
theorem dX1_freeFor_0 : decode cX1_freeFor 0 = .ok (.lconst 0, 1) := by decide +kernel
theorem dX1_freeFor_1 : decode cX1_freeFor 1 = .ok (.lstore_n 2, 1) := by decide +kernel
theorem dX1_freeFor_2 : decode cX1_freeFor 2 = .ok (.iconst 0, 1) := by decide +kernel
theorem dX1_freeFor_3 : decode cX1_freeFor 3 = .ok (.istore 4, 2) := by decide +kernel
theorem dX1_freeFor_5 : decode cX1_freeFor 5 = .ok (.iload 4, 2) := by decide +kernel
theorem dX1_freeFor_7 : decode cX1_freeFor 7 = .ok (.aload_n 0, 1) := by decide +kernel
theorem dX1_freeFor_8 : decode cX1_freeFor 8 = .ok (.getfield 15, 3) := by decide +kernel
theorem dX1_freeFor_11 : decode cX1_freeFor 11 = .ok (.getfield 65, 3) := by decide +kernel
theorem dX1_freeFor_14 : decode cX1_freeFor 14 = .ok (.if_icmp .ge 33, 3) := by decide +kernel
theorem dX1_freeFor_17 : decode cX1_freeFor 17 = .ok (.aload_n 0, 1) := by decide +kernel
theorem dX1_freeFor_18 : decode cX1_freeFor 18 = .ok (.getfield 15, 3) := by decide +kernel
theorem dX1_freeFor_21 : decode cX1_freeFor 21 = .ok (.iload 4, 2) := by decide +kernel
theorem dX1_freeFor_23 : decode cX1_freeFor 23 = .ok (.invokevirtual 75, 3) := by decide +kernel
theorem dX1_freeFor_26 : decode cX1_freeFor 26 = .ok (.ifCond .le 15, 3) := by decide +kernel
theorem dX1_freeFor_29 : decode cX1_freeFor 29 = .ok (.lload_n 2, 1) := by decide +kernel
theorem dX1_freeFor_30 : decode cX1_freeFor 30 = .ok (.aload_n 0, 1) := by decide +kernel
theorem dX1_freeFor_31 : decode cX1_freeFor 31 = .ok (.getfield 19, 3) := by decide +kernel
theorem dX1_freeFor_34 : decode cX1_freeFor 34 = .ok (.iload 4, 2) := by decide +kernel
theorem dX1_freeFor_36 : decode cX1_freeFor 36 = .ok (.invokevirtual 53, 3) := by decide +kernel
theorem dX1_freeFor_39 : decode cX1_freeFor 39 = .ok (.lor, 1) := by decide +kernel
theorem dX1_freeFor_40 : decode cX1_freeFor 40 = .ok (.lstore_n 2, 1) := by decide +kernel
theorem dX1_freeFor_41 : decode cX1_freeFor 41 = .ok (.iinc 4 1, 3) := by decide +kernel
theorem dX1_freeFor_44 : decode cX1_freeFor 44 = .ok (.goto (-39), 3) := by decide +kernel
theorem dX1_freeFor_47 : decode cX1_freeFor 47 = .ok (.ldc2_w 45, 3) := by decide +kernel
theorem dX1_freeFor_50 : decode cX1_freeFor 50 = .ok (.lload_n 2, 1) := by decide +kernel
theorem dX1_freeFor_51 : decode cX1_freeFor 51 = .ok (.aload_n 0, 1) := by decide +kernel
theorem dX1_freeFor_52 : decode cX1_freeFor 52 = .ok (.iload_n 1, 1) := by decide +kernel
theorem dX1_freeFor_53 : decode cX1_freeFor 53 = .ok (.invokevirtual 62, 3) := by decide +kernel
theorem dX1_freeFor_56 : decode cX1_freeFor 56 = .ok (.land, 1) := by decide +kernel
theorem dX1_freeFor_57 : decode cX1_freeFor 57 = .ok (.ldc2_w 51, 3) := by decide +kernel
theorem dX1_freeFor_60 : decode cX1_freeFor 60 = .ok (.lxor, 1) := by decide +kernel
theorem dX1_freeFor_61 : decode cX1_freeFor 61 = .ok (.land, 1) := by decide +kernel
theorem dX1_freeFor_62 : decode cX1_freeFor 62 = .ok (.lreturn, 1) := by decide +kernel
set_option maxRecDepth 20000 in
theorem ggX1_withRope_X0_isRoped : GoodIn wsX1_withRope wsX0_isRoped := goodIn_r _ [6, 7, 11, 12, 13, 14] (by decide +kernel) (by decide +kernel)
set_option maxRecDepth 20000 in
theorem gX1_withRope_X0_isRoped : GoodIn wsX1_withRope (wsV RX1 78 RX0 yX0_isRoped wsX0_isRoped) := goodIn_app (goodIn_of _ (by decide +kernel)) ggX1_withRope_X0_isRoped
theorem dX1_withRope_0 : decode cX1_withRope 0 = .ok (.aload_n 0, 1) := by decide +kernel
theorem dX1_withRope_1 : decode cX1_withRope 1 = .ok (.getfield 19, 3) := by decide +kernel
theorem dX1_withRope_4 : decode cX1_withRope 4 = .ok (.iload_n 1, 1) := by decide +kernel
theorem dX1_withRope_5 : decode cX1_withRope 5 = .ok (.invokevirtual 78, 3) := by decide +kernel
theorem dX1_withRope_8 : decode cX1_withRope 8 = .ok (.ifCond .eq 9, 3) := by decide +kernel
theorem dX1_withRope_11 : decode cX1_withRope 11 = .ok (.iload_n 2, 1) := by decide +kernel
theorem dX1_withRope_12 : decode cX1_withRope 12 = .ok (.iconst 2, 1) := by decide +kernel
theorem dX1_withRope_13 : decode cX1_withRope 13 = .ok (.idiv, 1) := by decide +kernel
theorem dX1_withRope_14 : decode cX1_withRope 14 = .ok (.goto 4, 3) := by decide +kernel
theorem dX1_withRope_17 : decode cX1_withRope 17 = .ok (.iload_n 2, 1) := by decide +kernel
theorem dX1_withRope_18 : decode cX1_withRope 18 = .ok (.ireturn, 1) := by decide +kernel
set_option maxRecDepth 20000 in
theorem ggX1_wholeFine_X0_startOf : GoodIn wsX1_wholeFine wsX0_startOf := goodIn_r _ [6, 7, 69, 70, 71, 72] (by decide +kernel) (by decide +kernel)
set_option maxRecDepth 20000 in
theorem gX1_wholeFine_X0_startOf : GoodIn wsX1_wholeFine (wsV RX1 36 RX0 yX0_startOf wsX0_startOf) := goodIn_app (goodIn_of _ (by decide +kernel)) ggX1_wholeFine_X0_startOf
set_option maxRecDepth 20000 in
theorem ggX1_wholeFine_X1_stands : GoodIn wsX1_wholeFine wsX1_stands := goodIn_r _ [12, 13, 14, 15, 16, 17, 18, 19, 20, 21, 22, 23, 24, 25, 26, 27, 28, 29, 66, 67, 68, 73, 74, 75, 76, 77, 78, 79] (by decide +kernel) (by decide +kernel)
set_option maxRecDepth 20000 in
theorem gX1_wholeFine_X1_stands : GoodIn wsX1_wholeFine (wsV RX1 41 RX1 yX1_stands wsX1_stands) := goodIn_app (goodIn_of _ (by decide +kernel)) ggX1_wholeFine_X1_stands
set_option maxRecDepth 20000 in
theorem ggX1_wholeFine_X1_costOf : GoodIn wsX1_wholeFine wsX1_costOf := goodIn_r _ [33, 13, 1, 34, 35, 36, 11, 37, 38, 39, 40, 41, 42, 43, 5, 44, 45, 46, 47, 48, 17, 49, 19, 50, 51, 52, 53, 54, 55, 56, 57, 58, 59, 60, 61, 66, 67, 68, 73, 74, 75, 76, 77, 78, 79, 69, 70, 71, 72] (by decide +kernel) (by decide +kernel)
set_option maxRecDepth 20000 in
theorem gX1_wholeFine_X1_costOf : GoodIn wsX1_wholeFine (wsV RX1 82 RX1 yX1_costOf wsX1_costOf) := goodIn_app (goodIn_of _ (by decide +kernel)) ggX1_wholeFine_X1_costOf
set_option maxRecDepth 20000 in
theorem ggX1_wholeFine_X1_crowdAheadOf : GoodIn wsX1_wholeFine wsX1_crowdAheadOf := goodIn_r _ [65, 1, 2, 3, 4, 5, 6, 7, 8, 9, 10, 11, 12, 13, 14, 15, 16, 17, 18, 19, 20, 21, 22, 23, 24, 25, 26, 27, 28, 29, 66, 67, 68, 69, 70, 71, 72, 73, 74, 75, 76, 77, 78, 79] (by decide +kernel) (by decide +kernel)
set_option maxRecDepth 20000 in
theorem gX1_wholeFine_X1_crowdAheadOf : GoodIn wsX1_wholeFine (wsV RX1 86 RX1 yX1_crowdAheadOf wsX1_crowdAheadOf) := goodIn_app (goodIn_of _ (by decide +kernel)) ggX1_wholeFine_X1_crowdAheadOf
set_option maxRecDepth 20000 in
theorem ggX1_wholeFine_J13_bitCount_95d88 : GoodIn wsX1_wholeFine wsJ13_bitCount_95d88 := goodIn_r _ [53, 54, 55, 56] (by decide +kernel) (by decide +kernel)
set_option maxRecDepth 20000 in
theorem gX1_wholeFine_J13_bitCount_95d88 : GoodIn wsX1_wholeFine (va_wsS RX1 69 yJ13_bitCount_95d88 wsJ13_bitCount_95d88) := goodIn_app (goodIn_of _ (by decide +kernel)) ggX1_wholeFine_J13_bitCount_95d88
theorem dX1_wholeFine_0 : decode cX1_wholeFine 0 = .ok (.aload_n 0, 1) := by decide +kernel
theorem dX1_wholeFine_1 : decode cX1_wholeFine 1 = .ok (.iload_n 1, 1) := by decide +kernel
theorem dX1_wholeFine_2 : decode cX1_wholeFine 2 = .ok (.aload_n 0, 1) := by decide +kernel
theorem dX1_wholeFine_3 : decode cX1_wholeFine 3 = .ok (.getfield 19, 3) := by decide +kernel
theorem dX1_wholeFine_6 : decode cX1_wholeFine 6 = .ok (.iload_n 1, 1) := by decide +kernel
theorem dX1_wholeFine_7 : decode cX1_wholeFine 7 = .ok (.invokevirtual 36, 3) := by decide +kernel
theorem dX1_wholeFine_10 : decode cX1_wholeFine 10 = .ok (.iload_n 2, 1) := by decide +kernel
theorem dX1_wholeFine_11 : decode cX1_wholeFine 11 = .ok (.invokevirtual 41, 3) := by decide +kernel
theorem dX1_wholeFine_14 : decode cX1_wholeFine 14 = .ok (.lstore_n 3, 1) := by decide +kernel
theorem dX1_wholeFine_15 : decode cX1_wholeFine 15 = .ok (.aload_n 0, 1) := by decide +kernel
theorem dX1_wholeFine_16 : decode cX1_wholeFine 16 = .ok (.iload_n 1, 1) := by decide +kernel
theorem dX1_wholeFine_17 : decode cX1_wholeFine 17 = .ok (.lload_n 3, 1) := by decide +kernel
theorem dX1_wholeFine_18 : decode cX1_wholeFine 18 = .ok (.invokevirtual 82, 3) := by decide +kernel
theorem dX1_wholeFine_21 : decode cX1_wholeFine 21 = .ok (.lload_n 3, 1) := by decide +kernel
theorem dX1_wholeFine_22 : decode cX1_wholeFine 22 = .ok (.aload_n 0, 1) := by decide +kernel
theorem dX1_wholeFine_23 : decode cX1_wholeFine 23 = .ok (.iload_n 1, 1) := by decide +kernel
theorem dX1_wholeFine_24 : decode cX1_wholeFine 24 = .ok (.iload_n 2, 1) := by decide +kernel
theorem dX1_wholeFine_25 : decode cX1_wholeFine 25 = .ok (.invokevirtual 86, 3) := by decide +kernel
theorem dX1_wholeFine_28 : decode cX1_wholeFine 28 = .ok (.land, 1) := by decide +kernel
theorem dX1_wholeFine_29 : decode cX1_wholeFine 29 = .ok (.invokestatic 69, 3) := by decide +kernel
theorem dX1_wholeFine_32 : decode cX1_wholeFine 32 = .ok (.iadd, 1) := by decide +kernel
theorem dX1_wholeFine_33 : decode cX1_wholeFine 33 = .ok (.ireturn, 1) := by decide +kernel
set_option maxRecDepth 20000 in
theorem ggX1_fine_X1_wholeFine : GoodIn wsX1_fine wsX1_wholeFine := goodIn_r _ [5, 6, 7, 8, 9, 10, 11, 12, 13, 14, 15, 4, 16, 17, 18, 19, 20, 21, 22, 23, 24, 25, 26, 27, 28, 29, 30, 31, 32, 33, 34, 35, 36, 37, 38, 39, 40, 41, 42, 43, 44, 45, 46, 47, 48, 49, 50, 51, 52, 53, 54, 55, 56, 57, 58, 59, 60, 61, 62, 63, 64, 65, 66, 67, 68, 69, 79, 80, 81, 82, 83, 84, 85, 86, 87, 88, 89, 90, 91, 92] (by decide +kernel) (by decide +kernel)
set_option maxRecDepth 20000 in
theorem gX1_fine_X1_wholeFine : GoodIn wsX1_fine (wsV RX1 89 RX1 yX1_wholeFine wsX1_wholeFine) := goodIn_app (goodIn_of _ (by decide +kernel)) ggX1_fine_X1_wholeFine
set_option maxRecDepth 20000 in
theorem ggX1_fine_X1_withRope : GoodIn wsX1_fine wsX1_withRope := goodIn_r _ [73, 6, 74, 75, 76, 10, 77, 78, 79, 80, 81, 82, 83, 84, 85] (by decide +kernel) (by decide +kernel)
set_option maxRecDepth 20000 in
theorem gX1_fine_X1_withRope : GoodIn wsX1_fine (wsV RX1 93 RX1 yX1_withRope wsX1_withRope) := goodIn_app (goodIn_of _ (by decide +kernel)) ggX1_fine_X1_withRope
theorem dX1_fine_0 : decode cX1_fine 0 = .ok (.aload_n 0, 1) := by decide +kernel
theorem dX1_fine_1 : decode cX1_fine 1 = .ok (.iload_n 1, 1) := by decide +kernel
theorem dX1_fine_2 : decode cX1_fine 2 = .ok (.aload_n 0, 1) := by decide +kernel
theorem dX1_fine_3 : decode cX1_fine 3 = .ok (.iload_n 1, 1) := by decide +kernel
theorem dX1_fine_4 : decode cX1_fine 4 = .ok (.iload_n 2, 1) := by decide +kernel
theorem dX1_fine_5 : decode cX1_fine 5 = .ok (.invokevirtual 89, 3) := by decide +kernel
theorem dX1_fine_8 : decode cX1_fine 8 = .ok (.invokevirtual 93, 3) := by decide +kernel
theorem dX1_fine_11 : decode cX1_fine 11 = .ok (.ireturn, 1) := by decide +kernel
set_option maxRecDepth 20000 in
theorem ggX1_fineFrom_X1_stands : GoodIn wsX1_fineFrom wsX1_stands := goodIn_r _ [6, 7, 8, 9, 10, 11, 12, 13, 14, 15, 16, 17, 18, 19, 20, 21, 22, 23, 75, 76, 77, 82, 83, 84, 85, 86, 87, 88] (by decide +kernel) (by decide +kernel)
set_option maxRecDepth 20000 in
theorem gX1_fineFrom_X1_stands : GoodIn wsX1_fineFrom (wsV RX1 41 RX1 yX1_stands wsX1_stands) := goodIn_app (goodIn_of _ (by decide +kernel)) ggX1_fineFrom_X1_stands
set_option maxRecDepth 20000 in
theorem ggX1_fineFrom_X1_crowdAheadOf : GoodIn wsX1_fineFrom wsX1_crowdAheadOf := goodIn_r _ [27, 1, 28, 29, 30, 31, 32, 33, 2, 3, 4, 5, 6, 7, 8, 9, 10, 11, 12, 13, 14, 15, 16, 17, 18, 19, 20, 21, 22, 23, 75, 76, 77, 78, 79, 80, 81, 82, 83, 84, 85, 86, 87, 88] (by decide +kernel) (by decide +kernel)
set_option maxRecDepth 20000 in
theorem gX1_fineFrom_X1_crowdAheadOf : GoodIn wsX1_fineFrom (wsV RX1 86 RX1 yX1_crowdAheadOf wsX1_crowdAheadOf) := goodIn_app (goodIn_of _ (by decide +kernel)) ggX1_fineFrom_X1_crowdAheadOf
set_option maxRecDepth 20000 in
theorem ggX1_fineFrom_X1_costOf : GoodIn wsX1_fineFrom wsX1_costOf := goodIn_r _ [37, 7, 1, 38, 39, 40, 5, 41, 42, 43, 44, 45, 46, 47, 31, 48, 49, 50, 51, 52, 11, 53, 13, 54, 55, 56, 57, 58, 59, 60, 61, 62, 63, 64, 65, 75, 76, 77, 82, 83, 84, 85, 86, 87, 88, 78, 79, 80, 81] (by decide +kernel) (by decide +kernel)
set_option maxRecDepth 20000 in
theorem gX1_fineFrom_X1_costOf : GoodIn wsX1_fineFrom (wsV RX1 82 RX1 yX1_costOf wsX1_costOf) := goodIn_app (goodIn_of _ (by decide +kernel)) ggX1_fineFrom_X1_costOf
set_option maxRecDepth 20000 in
theorem ggX1_fineFrom_J13_bitCount_95d88 : GoodIn wsX1_fineFrom wsJ13_bitCount_95d88 := goodIn_r _ [57, 58, 59, 60] (by decide +kernel) (by decide +kernel)
set_option maxRecDepth 20000 in
theorem gX1_fineFrom_J13_bitCount_95d88 : GoodIn wsX1_fineFrom (va_wsS RX1 69 yJ13_bitCount_95d88 wsJ13_bitCount_95d88) := goodIn_app (goodIn_of _ (by decide +kernel)) ggX1_fineFrom_J13_bitCount_95d88
set_option maxRecDepth 20000 in
theorem ggX1_fineFrom_X1_withRope : GoodIn wsX1_fineFrom wsX1_withRope := goodIn_r _ [69, 1, 70, 71, 72, 31, 73, 74, 75, 76, 77, 78, 79, 80, 81] (by decide +kernel) (by decide +kernel)
set_option maxRecDepth 20000 in
theorem gX1_fineFrom_X1_withRope : GoodIn wsX1_fineFrom (wsV RX1 93 RX1 yX1_withRope wsX1_withRope) := goodIn_app (goodIn_of _ (by decide +kernel)) ggX1_fineFrom_X1_withRope
theorem dX1_fineFrom_0 : decode cX1_fineFrom 0 = .ok (.aload_n 0, 1) := by decide +kernel
theorem dX1_fineFrom_1 : decode cX1_fineFrom 1 = .ok (.iload_n 1, 1) := by decide +kernel
theorem dX1_fineFrom_2 : decode cX1_fineFrom 2 = .ok (.iload_n 2, 1) := by decide +kernel
theorem dX1_fineFrom_3 : decode cX1_fineFrom 3 = .ok (.aload_n 0, 1) := by decide +kernel
theorem dX1_fineFrom_4 : decode cX1_fineFrom 4 = .ok (.getfield 19, 3) := by decide +kernel
theorem dX1_fineFrom_7 : decode cX1_fineFrom 7 = .ok (.getfield 96, 3) := by decide +kernel
theorem dX1_fineFrom_10 : decode cX1_fineFrom 10 = .ok (.invokevirtual 41, 3) := by decide +kernel
theorem dX1_fineFrom_13 : decode cX1_fineFrom 13 = .ok (.lstore_n 3, 1) := by decide +kernel
theorem dX1_fineFrom_14 : decode cX1_fineFrom 14 = .ok (.lload_n 3, 1) := by decide +kernel
theorem dX1_fineFrom_15 : decode cX1_fineFrom 15 = .ok (.aload_n 0, 1) := by decide +kernel
theorem dX1_fineFrom_16 : decode cX1_fineFrom 16 = .ok (.iload_n 1, 1) := by decide +kernel
theorem dX1_fineFrom_17 : decode cX1_fineFrom 17 = .ok (.aload_n 0, 1) := by decide +kernel
theorem dX1_fineFrom_18 : decode cX1_fineFrom 18 = .ok (.getfield 19, 3) := by decide +kernel
theorem dX1_fineFrom_21 : decode cX1_fineFrom 21 = .ok (.getfield 96, 3) := by decide +kernel
theorem dX1_fineFrom_24 : decode cX1_fineFrom 24 = .ok (.invokevirtual 86, 3) := by decide +kernel
theorem dX1_fineFrom_27 : decode cX1_fineFrom 27 = .ok (.land, 1) := by decide +kernel
theorem dX1_fineFrom_28 : decode cX1_fineFrom 28 = .ok (.lstore 5, 2) := by decide +kernel
theorem dX1_fineFrom_30 : decode cX1_fineFrom 30 = .ok (.aload_n 0, 1) := by decide +kernel
theorem dX1_fineFrom_31 : decode cX1_fineFrom 31 = .ok (.iload_n 1, 1) := by decide +kernel
theorem dX1_fineFrom_32 : decode cX1_fineFrom 32 = .ok (.aload_n 0, 1) := by decide +kernel
theorem dX1_fineFrom_33 : decode cX1_fineFrom 33 = .ok (.iload_n 1, 1) := by decide +kernel
theorem dX1_fineFrom_34 : decode cX1_fineFrom 34 = .ok (.lload_n 3, 1) := by decide +kernel
theorem dX1_fineFrom_35 : decode cX1_fineFrom 35 = .ok (.invokevirtual 82, 3) := by decide +kernel
theorem dX1_fineFrom_38 : decode cX1_fineFrom 38 = .ok (.lload 5, 2) := by decide +kernel
theorem dX1_fineFrom_40 : decode cX1_fineFrom 40 = .ok (.invokestatic 69, 3) := by decide +kernel
theorem dX1_fineFrom_43 : decode cX1_fineFrom 43 = .ok (.iadd, 1) := by decide +kernel
theorem dX1_fineFrom_44 : decode cX1_fineFrom 44 = .ok (.invokevirtual 93, 3) := by decide +kernel
theorem dX1_fineFrom_47 : decode cX1_fineFrom 47 = .ok (.ireturn, 1) := by decide +kernel
set_option maxRecDepth 20000 in
theorem ggX1_bestStart_X6_walkOf : GoodIn wsX1_bestStart wsX6_walkOf := goodIn_r _ [7, 8, 9, 86, 87, 88, 89, 90, 91, 92] (by decide +kernel) (by decide +kernel)
set_option maxRecDepth 20000 in
theorem gX1_bestStart_X6_walkOf : GoodIn wsX1_bestStart (wsV RX1 23 RX6 yX6_walkOf wsX6_walkOf) := goodIn_app (goodIn_of _ (by decide +kernel)) ggX1_bestStart_X6_walkOf
set_option maxRecDepth 20000 in
theorem ggX1_bestStart_X6_stayOf : GoodIn wsX1_bestStart wsX6_stayOf := goodIn_r _ [13, 14, 86, 87, 88, 89, 90, 91, 92] (by decide +kernel) (by decide +kernel)
set_option maxRecDepth 20000 in
theorem gX1_bestStart_X6_stayOf : GoodIn wsX1_bestStart (wsV RX1 29 RX6 yX6_stayOf wsX6_stayOf) := goodIn_app (goodIn_of _ (by decide +kernel)) ggX1_bestStart_X6_stayOf
set_option maxRecDepth 20000 in
theorem ggX1_bestStart_X1_fineFrom : GoodIn wsX1_bestStart wsX1_fineFrom := goodIn_r _ [19, 2, 20, 21, 22, 18, 23, 1, 3, 4, 5, 6, 7, 8, 9, 10, 11, 12, 13, 14, 24, 25, 26, 27, 28, 29, 30, 31, 32, 33, 34, 35, 36, 37, 38, 39, 40, 41, 42, 43, 44, 45, 46, 47, 48, 49, 50, 51, 52, 53, 54, 55, 56, 57, 58, 59, 60, 61, 62, 63, 64, 65, 66, 67, 68, 69, 70, 71, 72, 73, 74, 75, 76, 77, 78, 79, 80, 81, 82, 83, 84, 85, 86, 87, 88, 89, 90, 91, 92] (by decide +kernel) (by decide +kernel)
set_option maxRecDepth 20000 in
theorem gX1_bestStart_X1_fineFrom : GoodIn wsX1_bestStart (wsV RX1 99 RX1 yX1_fineFrom wsX1_fineFrom) := goodIn_app (goodIn_of _ (by decide +kernel)) ggX1_bestStart_X1_fineFrom
theorem dX1_bestStart_0 : decode cX1_bestStart 0 = .ok (.iconst (-1), 1) := by decide +kernel
theorem dX1_bestStart_1 : decode cX1_bestStart 1 = .ok (.istore_n 2, 1) := by decide +kernel
theorem dX1_bestStart_2 : decode cX1_bestStart 2 = .ok (.iconst 0, 1) := by decide +kernel
theorem dX1_bestStart_3 : decode cX1_bestStart 3 = .ok (.istore_n 3, 1) := by decide +kernel
theorem dX1_bestStart_4 : decode cX1_bestStart 4 = .ok (.aload_n 0, 1) := by decide +kernel
theorem dX1_bestStart_5 : decode cX1_bestStart 5 = .ok (.getfield 15, 3) := by decide +kernel
theorem dX1_bestStart_8 : decode cX1_bestStart 8 = .ok (.iload_n 1, 1) := by decide +kernel
theorem dX1_bestStart_9 : decode cX1_bestStart 9 = .ok (.invokevirtual 23, 3) := by decide +kernel
theorem dX1_bestStart_12 : decode cX1_bestStart 12 = .ok (.aload_n 0, 1) := by decide +kernel
theorem dX1_bestStart_13 : decode cX1_bestStart 13 = .ok (.getfield 19, 3) := by decide +kernel
theorem dX1_bestStart_16 : decode cX1_bestStart 16 = .ok (.getfield 96, 3) := by decide +kernel
theorem dX1_bestStart_19 : decode cX1_bestStart 19 = .ok (.iadd, 1) := by decide +kernel
theorem dX1_bestStart_20 : decode cX1_bestStart 20 = .ok (.aload_n 0, 1) := by decide +kernel
theorem dX1_bestStart_21 : decode cX1_bestStart 21 = .ok (.getfield 15, 3) := by decide +kernel
theorem dX1_bestStart_24 : decode cX1_bestStart 24 = .ok (.iload_n 1, 1) := by decide +kernel
theorem dX1_bestStart_25 : decode cX1_bestStart 25 = .ok (.invokevirtual 29, 3) := by decide +kernel
theorem dX1_bestStart_28 : decode cX1_bestStart 28 = .ok (.iadd, 1) := by decide +kernel
theorem dX1_bestStart_29 : decode cX1_bestStart 29 = .ok (.iconst 1, 1) := by decide +kernel
theorem dX1_bestStart_30 : decode cX1_bestStart 30 = .ok (.isub, 1) := by decide +kernel
theorem dX1_bestStart_31 : decode cX1_bestStart 31 = .ok (.istore 4, 2) := by decide +kernel
theorem dX1_bestStart_33 : decode cX1_bestStart 33 = .ok (.iconst 0, 1) := by decide +kernel
theorem dX1_bestStart_34 : decode cX1_bestStart 34 = .ok (.istore 5, 2) := by decide +kernel
theorem dX1_bestStart_36 : decode cX1_bestStart 36 = .ok (.iload 5, 2) := by decide +kernel
theorem dX1_bestStart_38 : decode cX1_bestStart 38 = .ok (.iload 4, 2) := by decide +kernel
theorem dX1_bestStart_40 : decode cX1_bestStart 40 = .ok (.iadd, 1) := by decide +kernel
theorem dX1_bestStart_41 : decode cX1_bestStart 41 = .ok (.bipush 59, 2) := by decide +kernel
theorem dX1_bestStart_43 : decode cX1_bestStart 43 = .ok (.if_icmp .gt 42, 3) := by decide +kernel
theorem dX1_bestStart_46 : decode cX1_bestStart 46 = .ok (.iload 5, 2) := by decide +kernel
theorem dX1_bestStart_48 : decode cX1_bestStart 48 = .ok (.bipush 59, 2) := by decide +kernel
theorem dX1_bestStart_50 : decode cX1_bestStart 50 = .ok (.if_icmp .gt 35, 3) := by decide +kernel
theorem dX1_bestStart_53 : decode cX1_bestStart 53 = .ok (.aload_n 0, 1) := by decide +kernel
theorem dX1_bestStart_54 : decode cX1_bestStart 54 = .ok (.iload_n 1, 1) := by decide +kernel
theorem dX1_bestStart_55 : decode cX1_bestStart 55 = .ok (.iload 5, 2) := by decide +kernel
theorem dX1_bestStart_57 : decode cX1_bestStart 57 = .ok (.invokevirtual 99, 3) := by decide +kernel
theorem dX1_bestStart_60 : decode cX1_bestStart 60 = .ok (.istore 6, 2) := by decide +kernel
theorem dX1_bestStart_62 : decode cX1_bestStart 62 = .ok (.iload_n 2, 1) := by decide +kernel
theorem dX1_bestStart_63 : decode cX1_bestStart 63 = .ok (.iconst (-1), 1) := by decide +kernel
theorem dX1_bestStart_64 : decode cX1_bestStart 64 = .ok (.if_icmp .eq 9, 3) := by decide +kernel
theorem dX1_bestStart_67 : decode cX1_bestStart 67 = .ok (.iload 6, 2) := by decide +kernel
theorem dX1_bestStart_69 : decode cX1_bestStart 69 = .ok (.iload_n 3, 1) := by decide +kernel
theorem dX1_bestStart_70 : decode cX1_bestStart 70 = .ok (.if_icmp .ge 9, 3) := by decide +kernel
theorem dX1_bestStart_73 : decode cX1_bestStart 73 = .ok (.iload 5, 2) := by decide +kernel
theorem dX1_bestStart_75 : decode cX1_bestStart 75 = .ok (.istore_n 2, 1) := by decide +kernel
theorem dX1_bestStart_76 : decode cX1_bestStart 76 = .ok (.iload 6, 2) := by decide +kernel
theorem dX1_bestStart_78 : decode cX1_bestStart 78 = .ok (.istore_n 3, 1) := by decide +kernel
theorem dX1_bestStart_79 : decode cX1_bestStart 79 = .ok (.iinc 5 1, 3) := by decide +kernel
theorem dX1_bestStart_82 : decode cX1_bestStart 82 = .ok (.goto (-46), 3) := by decide +kernel
theorem dX1_bestStart_85 : decode cX1_bestStart 85 = .ok (.iload_n 2, 1) := by decide +kernel
theorem dX1_bestStart_86 : decode cX1_bestStart 86 = .ok (.ireturn, 1) := by decide +kernel
set_option maxRecDepth 20000 in
theorem ggX1_startBehind_X6_walkOf : GoodIn wsX1_startBehind wsX6_walkOf := goodIn_r _ [7, 8, 9, 18, 19, 20, 21, 22, 23, 24] (by decide +kernel) (by decide +kernel)
set_option maxRecDepth 20000 in
theorem gX1_startBehind_X6_walkOf : GoodIn wsX1_startBehind (wsV RX1 23 RX6 yX6_walkOf wsX6_walkOf) := goodIn_app (goodIn_of _ (by decide +kernel)) ggX1_startBehind_X6_walkOf
set_option maxRecDepth 20000 in
theorem ggX1_startBehind_X6_stayOf : GoodIn wsX1_startBehind wsX6_stayOf := goodIn_r _ [13, 14, 18, 19, 20, 21, 22, 23, 24] (by decide +kernel) (by decide +kernel)
set_option maxRecDepth 20000 in
theorem gX1_startBehind_X6_stayOf : GoodIn wsX1_startBehind (wsV RX1 29 RX6 yX6_stayOf wsX6_stayOf) := goodIn_app (goodIn_of _ (by decide +kernel)) ggX1_startBehind_X6_stayOf
theorem dX1_startBehind_0 : decode cX1_startBehind 0 = .ok (.iload_n 2, 1) := by decide +kernel
theorem dX1_startBehind_1 : decode cX1_startBehind 1 = .ok (.istore_n 3, 1) := by decide +kernel
theorem dX1_startBehind_2 : decode cX1_startBehind 2 = .ok (.iconst 0, 1) := by decide +kernel
theorem dX1_startBehind_3 : decode cX1_startBehind 3 = .ok (.istore 4, 2) := by decide +kernel
theorem dX1_startBehind_5 : decode cX1_startBehind 5 = .ok (.iload 4, 2) := by decide +kernel
theorem dX1_startBehind_7 : decode cX1_startBehind 7 = .ok (.aload_n 0, 1) := by decide +kernel
theorem dX1_startBehind_8 : decode cX1_startBehind 8 = .ok (.getfield 15, 3) := by decide +kernel
theorem dX1_startBehind_11 : decode cX1_startBehind 11 = .ok (.getfield 65, 3) := by decide +kernel
theorem dX1_startBehind_14 : decode cX1_startBehind 14 = .ok (.if_icmp .ge 48, 3) := by decide +kernel
theorem dX1_startBehind_17 : decode cX1_startBehind 17 = .ok (.iload_n 1, 1) := by decide +kernel
theorem dX1_startBehind_18 : decode cX1_startBehind 18 = .ok (.iconst 1, 1) := by decide +kernel
theorem dX1_startBehind_19 : decode cX1_startBehind 19 = .ok (.iload 4, 2) := by decide +kernel
theorem dX1_startBehind_21 : decode cX1_startBehind 21 = .ok (.ishl, 1) := by decide +kernel
theorem dX1_startBehind_22 : decode cX1_startBehind 22 = .ok (.iand, 1) := by decide +kernel
theorem dX1_startBehind_23 : decode cX1_startBehind 23 = .ok (.ifCond .eq 33, 3) := by decide +kernel
theorem dX1_startBehind_26 : decode cX1_startBehind 26 = .ok (.iload_n 3, 1) := by decide +kernel
theorem dX1_startBehind_27 : decode cX1_startBehind 27 = .ok (.aload_n 0, 1) := by decide +kernel
theorem dX1_startBehind_28 : decode cX1_startBehind 28 = .ok (.getfield 15, 3) := by decide +kernel
theorem dX1_startBehind_31 : decode cX1_startBehind 31 = .ok (.iload 4, 2) := by decide +kernel
theorem dX1_startBehind_33 : decode cX1_startBehind 33 = .ok (.invokevirtual 23, 3) := by decide +kernel
theorem dX1_startBehind_36 : decode cX1_startBehind 36 = .ok (.aload_n 0, 1) := by decide +kernel
theorem dX1_startBehind_37 : decode cX1_startBehind 37 = .ok (.getfield 19, 3) := by decide +kernel
theorem dX1_startBehind_40 : decode cX1_startBehind 40 = .ok (.getfield 96, 3) := by decide +kernel
theorem dX1_startBehind_43 : decode cX1_startBehind 43 = .ok (.iadd, 1) := by decide +kernel
theorem dX1_startBehind_44 : decode cX1_startBehind 44 = .ok (.aload_n 0, 1) := by decide +kernel
theorem dX1_startBehind_45 : decode cX1_startBehind 45 = .ok (.getfield 15, 3) := by decide +kernel
theorem dX1_startBehind_48 : decode cX1_startBehind 48 = .ok (.iload 4, 2) := by decide +kernel
theorem dX1_startBehind_50 : decode cX1_startBehind 50 = .ok (.invokevirtual 29, 3) := by decide +kernel
theorem dX1_startBehind_53 : decode cX1_startBehind 53 = .ok (.iadd, 1) := by decide +kernel
theorem dX1_startBehind_54 : decode cX1_startBehind 54 = .ok (.iadd, 1) := by decide +kernel
theorem dX1_startBehind_55 : decode cX1_startBehind 55 = .ok (.istore_n 3, 1) := by decide +kernel
theorem dX1_startBehind_56 : decode cX1_startBehind 56 = .ok (.iinc 4 1, 3) := by decide +kernel
theorem dX1_startBehind_59 : decode cX1_startBehind 59 = .ok (.goto (-54), 3) := by decide +kernel
theorem dX1_startBehind_62 : decode cX1_startBehind 62 = .ok (.iload_n 3, 1) := by decide +kernel
theorem dX1_startBehind_63 : decode cX1_startBehind 63 = .ok (.ireturn, 1) := by decide +kernel
set_option maxRecDepth 20000 in
theorem ggX1_leastWithNext_X1_stands : GoodIn wsX1_leastWithNext wsX1_stands := goodIn_r _ [7, 8, 9, 10, 11, 12, 13, 14, 15, 16, 17, 18, 19, 20, 21, 22, 23, 24, 67, 68, 69, 74, 75, 76, 77, 78, 79, 80] (by decide +kernel) (by decide +kernel)
set_option maxRecDepth 20000 in
theorem gX1_leastWithNext_X1_stands : GoodIn wsX1_leastWithNext (wsV RX1 41 RX1 yX1_stands wsX1_stands) := goodIn_app (goodIn_of _ (by decide +kernel)) ggX1_leastWithNext_X1_stands
set_option maxRecDepth 20000 in
theorem ggX1_leastWithNext_X1_costOf : GoodIn wsX1_leastWithNext wsX1_costOf := goodIn_r _ [28, 8, 2, 29, 30, 31, 6, 32, 33, 34, 35, 36, 37, 38, 39, 40, 41, 42, 43, 44, 12, 45, 14, 46, 47, 48, 49, 50, 51, 52, 53, 54, 55, 56, 57, 67, 68, 69, 74, 75, 76, 77, 78, 79, 80, 70, 71, 72, 73] (by decide +kernel) (by decide +kernel)
set_option maxRecDepth 20000 in
theorem gX1_leastWithNext_X1_costOf : GoodIn wsX1_leastWithNext (wsV RX1 82 RX1 yX1_costOf wsX1_costOf) := goodIn_app (goodIn_of _ (by decide +kernel)) ggX1_leastWithNext_X1_costOf
set_option maxRecDepth 20000 in
theorem ggX1_leastWithNext_X1_withRope : GoodIn wsX1_leastWithNext wsX1_withRope := goodIn_r _ [61, 2, 62, 63, 64, 39, 65, 66, 67, 68, 69, 70, 71, 72, 73] (by decide +kernel) (by decide +kernel)
