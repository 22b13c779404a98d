set_option maxRecDepth 20000 in
theorem wsL_in_x7 : ∀ w ∈ wsX70, w ∈ lw_tbl := fun w h => (goodIn_p wsX70 [] (by decide +kernel) (by decide +kernel) w h).1
set_option maxRecDepth 20000 in
theorem wsL_in_x8 : ∀ w ∈ wsX80, w ∈ lw_tbl := fun w h => (goodIn_p wsX80 [] (by decide +kernel) (by decide +kernel) w h).1
set_option maxRecDepth 20000 in
theorem wsL_in_x5 : ∀ w ∈ wsX50, w ∈ lw_tbl := fun w h => (goodIn_p wsX50 [] (by decide +kernel) (by decide +kernel) w h).1
set_option maxRecDepth 20000 in
theorem wsL_in_x6 : ∀ w ∈ wsX60, w ∈ lw_tbl := fun w h => (goodIn_p wsX60 [] (by decide +kernel) (by decide +kernel) w h).1
set_option maxRecDepth 20000 in
theorem wsL_in_x0 : ∀ w ∈ wsX00, w ∈ lw_tbl := fun w h => (goodIn_p wsX00 [] (by decide +kernel) (by decide +kernel) w h).1
set_option maxRecDepth 20000 in
theorem wsL_in_x1 : ∀ w ∈ wsX10, w ∈ lw_tbl := fun w h => (goodIn_p wsX10 [] (by decide +kernel) (by decide +kernel) w h).1
set_option maxRecDepth 20000 in
theorem wsL_in_x2 : ∀ w ∈ wsX20, w ∈ lw_tbl := fun w h => (goodIn_p wsX20 [] (by decide +kernel) (by decide +kernel) w h).1
set_option maxRecDepth 20000 in
theorem wsL_in_x3 : ∀ w ∈ wsX30, w ∈ lw_tbl := fun w h => (goodIn_p wsX30 [] (by decide +kernel) (by decide +kernel) w h).1
set_option maxRecDepth 20000 in
theorem wsL_in_x4 : ∀ w ∈ wsX40, w ∈ lw_tbl := fun w h => (goodIn_p wsX40 [] (by decide +kernel) (by decide +kernel) w h).1
theorem mem_app_in {P : Cond → Prop} {a b : List Cond} (ha : ∀ w ∈ a, P w) (hb : ∀ w ∈ b, P w) : ∀ w ∈ a ++ b, P w := fun w h => (List.mem_append.mp h).elim (ha w) (hb w)
set_option maxRecDepth 20000 in
theorem wsL_law_in : ∀ w ∈ wsL_law, w ∈ lw_tbl := (mem_app_in (mem_app_in (mem_app_in (mem_app_in (mem_app_in (mem_app_in (mem_app_in (mem_app_in (mem_app_in (mem_app_in (mem_app_in wsL_in_r1 (mem_app_in wsL_in_r2 (mem_app_in wsL_in_r3 (mem_app_in wsL_in_r4 (mem_app_in wsL_in_r5 (mem_app_in wsL_in_r6 (mem_app_in wsL_in_r7 (mem_app_in wsL_in_r8 (mem_app_in wsL_in_r9 (mem_app_in wsL_in_r10 (mem_app_in wsL_in_r11 (mem_app_in wsL_in_r12 (mem_app_in wsL_in_r13 (mem_app_in wsL_in_r14 (mem_app_in wsL_in_r15 (mem_app_in wsL_in_r16 (mem_app_in wsL_in_r17 (mem_app_in wsL_in_r18 (mem_app_in wsL_in_r19 (mem_app_in wsL_in_r20 (mem_app_in wsL_in_r21 (mem_app_in wsL_in_r22 (mem_app_in wsL_in_r23 (mem_app_in wsL_in_r24 (mem_app_in wsL_in_r25 (mem_app_in wsL_in_r26 (mem_app_in wsL_in_r27 (mem_app_in wsL_in_r28 (mem_app_in wsL_in_r29 (mem_app_in wsL_in_r30 (mem_app_in wsL_in_r31 (mem_app_in wsL_in_r32 (mem_app_in wsL_in_r33 (mem_app_in wsL_in_r34 (mem_app_in wsL_in_r35 wsL_in_r36))))))))))))))))))))))))))))))))))) wsL_in_x7) wsL_in_x8) wsL_in_x5) wsL_in_x6) wsL_in_x0) wsL_in_x1) wsL_in_x2) wsL_in_x3) wsL_in_x4) (fun _ h => absurd h List.not_mem_nil))
