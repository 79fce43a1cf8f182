theorem inlX0 : ∀ w ∈ wsX00, w ∈ wsL_law := fun _ h => List.mem_append_left _ (List.mem_append_left _ (List.mem_append_left _ (List.mem_append_left _ (List.mem_append_right _ h))))
theorem inX0 : ∀ w ∈ wsX00, w ∈ lw_tbl := fun w h => wsL_law_in w (inlX0 w h)
theorem inlX1 : ∀ w ∈ wsX10, w ∈ wsL_law := fun _ h => List.mem_append_left _ (List.mem_append_left _ (List.mem_append_left _ (List.mem_append_right _ h)))
theorem inX1 : ∀ w ∈ wsX10, w ∈ lw_tbl := fun w h => wsL_law_in w (inlX1 w h)
theorem inlX2 : ∀ w ∈ wsX20, w ∈ wsL_law := fun _ h => List.mem_append_left _ (List.mem_append_right _ h)
theorem inX2 : ∀ w ∈ wsX20, w ∈ lw_tbl := fun w h => wsL_law_in w (inlX2 w h)
theorem inlX3 : ∀ w ∈ wsX30, w ∈ wsL_law := fun _ h => List.mem_append_left _ (List.mem_append_left _ (List.mem_append_right _ h))
theorem inX3 : ∀ w ∈ wsX30, w ∈ lw_tbl := fun w h => wsL_law_in w (inlX3 w h)
theorem inlX4 : ∀ w ∈ wsX40, w ∈ wsL_law := fun _ h => List.mem_append_left _ (List.mem_append_left _ (List.mem_append_left _ (List.mem_append_left _ (List.mem_append_left _ (List.mem_append_left _ (List.mem_append_right _ h))))))
theorem inX4 : ∀ w ∈ wsX40, w ∈ lw_tbl := fun w h => wsL_law_in w (inlX4 w h)
theorem inlX5 : ∀ w ∈ wsX50, w ∈ wsL_law := fun _ h => List.mem_append_left _ (List.mem_append_left _ (List.mem_append_left _ (List.mem_append_left _ (List.mem_append_left _ (List.mem_append_right _ h)))))
theorem inX5 : ∀ w ∈ wsX50, w ∈ lw_tbl := fun w h => wsL_law_in w (inlX5 w h)
theorem inJ13 : ∀ w ∈ wsJ130, w ∈ lw_tbl := by decide +kernel
theorem inJ9 : ∀ w ∈ wsJ90, w ∈ lw_tbl := by decide +kernel
theorem inJ10 : ∀ w ∈ wsJ100, w ∈ lw_tbl := by decide +kernel
theorem inJ7 : ∀ w ∈ wsJ70, w ∈ lw_tbl := by decide +kernel
set_option maxRecDepth 20000 in
theorem ggX0_init_X0_renew : GoodIn wsX0_init wsX0_renew := goodIn_r _ [10, 5, 11, 12, 13, 9, 14, 15, 16, 17, 18, 19, 20, 21, 22, 23, 24, 25, 26, 27, 28, 29, 30, 31] (by decide +kernel) (by decide +kernel)
set_option maxRecDepth 20000 in
theorem gX0_init_X0_renew : GoodIn wsX0_init (wsV RX0 15 RX0 yX0_renew wsX0_renew) := goodIn_app (goodIn_of _ (by decide +kernel)) ggX0_init_X0_renew
set_option maxRecDepth 20000 in
theorem ggX0_init_X0_fill : GoodIn wsX0_init wsX0_fill := goodIn_r _ [18, 19, 20, 21, 9, 22, 5, 23, 24, 25, 26, 31] (by decide +kernel) (by decide +kernel)
set_option maxRecDepth 20000 in
theorem gX0_init_X0_fill : GoodIn wsX0_init (wsV RX0 19 RX0 yX0_fill wsX0_fill) := goodIn_app (goodIn_of _ (by decide +kernel)) ggX0_init_X0_fill
theorem dX0_init_0 : decode cX0_init 0 = .ok (.aload_n 0, 1) := by decide +kernel
theorem dX0_init_1 : decode cX0_init 1 = .ok (.invokespecial 5, 3) := by decide +kernel
theorem dX0_init_4 : decode cX0_init 4 = .ok (.aload_n 0, 1) := by decide +kernel
theorem dX0_init_5 : decode cX0_init 5 = .ok (.bipush 63, 2) := by decide +kernel
theorem dX0_init_7 : decode cX0_init 7 = .ok (.newarray .int, 2) := by decide +kernel
theorem dX0_init_9 : decode cX0_init 9 = .ok (.putfield 11, 3) := by decide +kernel
theorem dX0_init_12 : decode cX0_init 12 = .ok (.aload_n 0, 1) := by decide +kernel
theorem dX0_init_13 : decode cX0_init 13 = .ok (.getfield 11, 3) := by decide +kernel
theorem dX0_init_16 : decode cX0_init 16 = .ok (.bipush 59, 2) := by decide +kernel
theorem dX0_init_18 : decode cX0_init 18 = .ok (.iconst (-1), 1) := by decide +kernel
theorem dX0_init_19 : decode cX0_init 19 = .ok (.iastore, 1) := by decide +kernel
theorem dX0_init_20 : decode cX0_init 20 = .ok (.aload_n 0, 1) := by decide +kernel
theorem dX0_init_21 : decode cX0_init 21 = .ok (.iconst 3, 1) := by decide +kernel
theorem dX0_init_22 : decode cX0_init 22 = .ok (.invokevirtual 15, 3) := by decide +kernel
theorem dX0_init_25 : decode cX0_init 25 = .ok (.aload_n 0, 1) := by decide +kernel
theorem dX0_init_26 : decode cX0_init 26 = .ok (.iconst 0, 1) := by decide +kernel
theorem dX0_init_27 : decode cX0_init 27 = .ok (.iconst 3, 1) := by decide +kernel
theorem dX0_init_28 : decode cX0_init 28 = .ok (.invokevirtual 19, 3) := by decide +kernel
theorem dX0_init_31 : decode cX0_init 31 = .ok (.aload_n 0, 1) := by decide +kernel
theorem dX0_init_32 : decode cX0_init 32 = .ok (.iconst 1, 1) := by decide +kernel
theorem dX0_init_33 : decode cX0_init 33 = .ok (.iconst 5, 1) := by decide +kernel
theorem dX0_init_34 : decode cX0_init 34 = .ok (.invokevirtual 19, 3) := by decide +kernel
theorem dX0_init_37 : decode cX0_init 37 = .ok (.aload_n 0, 1) := by decide +kernel
theorem dX0_init_38 : decode cX0_init 38 = .ok (.iconst 2, 1) := by decide +kernel
theorem dX0_init_39 : decode cX0_init 39 = .ok (.bipush 8, 2) := by decide +kernel
theorem dX0_init_41 : decode cX0_init 41 = .ok (.invokevirtual 19, 3) := by decide +kernel
theorem dX0_init_44 : decode cX0_init 44 = .ok (.return_, 1) := by decide +kernel
theorem dX0_copyTo_0 : decode cX0_copyTo 0 = .ok (.aload_n 0, 1) := by decide +kernel
theorem dX0_copyTo_1 : decode cX0_copyTo 1 = .ok (.getfield 11, 3) := by decide +kernel
theorem dX0_copyTo_4 : decode cX0_copyTo 4 = .ok (.iconst 0, 1) := by decide +kernel
theorem dX0_copyTo_5 : decode cX0_copyTo 5 = .ok (.aload_n 1, 1) := by decide +kernel
theorem dX0_copyTo_6 : decode cX0_copyTo 6 = .ok (.iload_n 2, 1) := by decide +kernel
theorem dX0_copyTo_7 : decode cX0_copyTo 7 = .ok (.bipush 63, 2) := by decide +kernel
theorem dX0_copyTo_9 : decode cX0_copyTo 9 = .ok (.invokestatic 23, 3) := by decide +kernel
theorem dX0_copyTo_12 : decode cX0_copyTo 12 = .ok (.return_, 1) := by decide +kernel
theorem dX0_copyFrom_0 : decode cX0_copyFrom 0 = .ok (.aload_n 1, 1) := by decide +kernel
theorem dX0_copyFrom_1 : decode cX0_copyFrom 1 = .ok (.iload_n 2, 1) := by decide +kernel
theorem dX0_copyFrom_2 : decode cX0_copyFrom 2 = .ok (.aload_n 0, 1) := by decide +kernel
theorem dX0_copyFrom_3 : decode cX0_copyFrom 3 = .ok (.getfield 11, 3) := by decide +kernel
theorem dX0_copyFrom_6 : decode cX0_copyFrom 6 = .ok (.iconst 0, 1) := by decide +kernel
theorem dX0_copyFrom_7 : decode cX0_copyFrom 7 = .ok (.bipush 63, 2) := by decide +kernel
theorem dX0_copyFrom_9 : decode cX0_copyFrom 9 = .ok (.invokestatic 23, 3) := by decide +kernel
theorem dX0_copyFrom_12 : decode cX0_copyFrom 12 = .ok (.return_, 1) := by decide +kernel
theorem dX0_glasses_0 : decode cX0_glasses 0 = .ok (.aload_n 0, 1) := by decide +kernel
theorem dX0_glasses_1 : decode cX0_glasses 1 = .ok (.getfield 11, 3) := by decide +kernel
theorem dX0_glasses_4 : decode cX0_glasses 4 = .ok (.bipush 57, 2) := by decide +kernel
theorem dX0_glasses_6 : decode cX0_glasses 6 = .ok (.iaload, 1) := by decide +kernel
theorem dX0_glasses_7 : decode cX0_glasses 7 = .ok (.ireturn, 1) := by decide +kernel
set_option maxRecDepth 20000 in
theorem ggX0_has_X0_glasses : GoodIn wsX0_has wsX0_glasses := goodIn_r _ [5, 6, 7] (by decide +kernel) (by decide +kernel)
set_option maxRecDepth 20000 in
theorem gX0_has_X0_glasses : GoodIn wsX0_has (wsV RX0 29 RX0 yX0_glasses wsX0_glasses) := goodIn_app (goodIn_of _ (by decide +kernel)) ggX0_has_X0_glasses
theorem dX0_has_0 : decode cX0_has 0 = .ok (.iload_n 1, 1) := by decide +kernel
theorem dX0_has_1 : decode cX0_has 1 = .ok (.ifCond .lt 15, 3) := by decide +kernel
theorem dX0_has_4 : decode cX0_has 4 = .ok (.iload_n 1, 1) := by decide +kernel
theorem dX0_has_5 : decode cX0_has 5 = .ok (.aload_n 0, 1) := by decide +kernel
theorem dX0_has_6 : decode cX0_has 6 = .ok (.invokevirtual 29, 3) := by decide +kernel
theorem dX0_has_9 : decode cX0_has 9 = .ok (.if_icmp .ge 7, 3) := by decide +kernel
theorem dX0_has_12 : decode cX0_has 12 = .ok (.iconst 1, 1) := by decide +kernel
theorem dX0_has_13 : decode cX0_has 13 = .ok (.goto 4, 3) := by decide +kernel
theorem dX0_has_16 : decode cX0_has 16 = .ok (.iconst 0, 1) := by decide +kernel
theorem dX0_has_17 : decode cX0_has 17 = .ok (.ireturn, 1) := by decide +kernel
theorem dX0_property_0 : decode cX0_property 0 = .ok (.aload_n 0, 1) := by decide +kernel
theorem dX0_property_1 : decode cX0_property 1 = .ok (.getfield 11, 3) := by decide +kernel
theorem dX0_property_4 : decode cX0_property 4 = .ok (.iload_n 2, 1) := by decide +kernel
theorem dX0_property_5 : decode cX0_property 5 = .ok (.iconst 3, 1) := by decide +kernel
theorem dX0_property_6 : decode cX0_property 6 = .ok (.imul, 1) := by decide +kernel
theorem dX0_property_7 : decode cX0_property 7 = .ok (.iload_n 1, 1) := by decide +kernel
theorem dX0_property_8 : decode cX0_property 8 = .ok (.iadd, 1) := by decide +kernel
theorem dX0_property_9 : decode cX0_property 9 = .ok (.iaload, 1) := by decide +kernel
theorem dX0_property_10 : decode cX0_property 10 = .ok (.ireturn, 1) := by decide +kernel
theorem dX0_time_0 : decode cX0_time 0 = .ok (.aload_n 0, 1) := by decide +kernel
theorem dX0_time_1 : decode cX0_time 1 = .ok (.getfield 11, 3) := by decide +kernel
theorem dX0_time_4 : decode cX0_time 4 = .ok (.bipush 58, 2) := by decide +kernel
theorem dX0_time_6 : decode cX0_time 6 = .ok (.iaload, 1) := by decide +kernel
theorem dX0_time_7 : decode cX0_time 7 = .ok (.ireturn, 1) := by decide +kernel
theorem dX0_markedTime_0 : decode cX0_markedTime 0 = .ok (.aload_n 0, 1) := by decide +kernel
theorem dX0_markedTime_1 : decode cX0_markedTime 1 = .ok (.getfield 11, 3) := by decide +kernel
theorem dX0_markedTime_4 : decode cX0_markedTime 4 = .ok (.bipush 59, 2) := by decide +kernel
theorem dX0_markedTime_6 : decode cX0_markedTime 6 = .ok (.iaload, 1) := by decide +kernel
theorem dX0_markedTime_7 : decode cX0_markedTime 7 = .ok (.ireturn, 1) := by decide +kernel
theorem dX0_markTime_0 : decode cX0_markTime 0 = .ok (.aload_n 0, 1) := by decide +kernel
theorem dX0_markTime_1 : decode cX0_markTime 1 = .ok (.getfield 11, 3) := by decide +kernel
theorem dX0_markTime_4 : decode cX0_markTime 4 = .ok (.bipush 59, 2) := by decide +kernel
theorem dX0_markTime_6 : decode cX0_markTime 6 = .ok (.aload_n 0, 1) := by decide +kernel
theorem dX0_markTime_7 : decode cX0_markTime 7 = .ok (.getfield 11, 3) := by decide +kernel
theorem dX0_markTime_10 : decode cX0_markTime 10 = .ok (.bipush 58, 2) := by decide +kernel
theorem dX0_markTime_12 : decode cX0_markTime 12 = .ok (.iaload, 1) := by decide +kernel
theorem dX0_markTime_13 : decode cX0_markTime 13 = .ok (.iastore, 1) := by decide +kernel
theorem dX0_markTime_14 : decode cX0_markTime 14 = .ok (.return_, 1) := by decide +kernel
theorem dX0_turns_0 : decode cX0_turns 0 = .ok (.aload_n 0, 1) := by decide +kernel
theorem dX0_turns_1 : decode cX0_turns 1 = .ok (.getfield 11, 3) := by decide +kernel
theorem dX0_turns_4 : decode cX0_turns 4 = .ok (.bipush 61, 2) := by decide +kernel
theorem dX0_turns_6 : decode cX0_turns 6 = .ok (.iaload, 1) := by decide +kernel
theorem dX0_turns_7 : decode cX0_turns 7 = .ok (.ireturn, 1) := by decide +kernel
theorem dX0_taps_0 : decode cX0_taps 0 = .ok (.aload_n 0, 1) := by decide +kernel
theorem dX0_taps_1 : decode cX0_taps 1 = .ok (.getfield 11, 3) := by decide +kernel
theorem dX0_taps_4 : decode cX0_taps 4 = .ok (.bipush 62, 2) := by decide +kernel
theorem dX0_taps_6 : decode cX0_taps 6 = .ok (.iaload, 1) := by decide +kernel
theorem dX0_taps_7 : decode cX0_taps 7 = .ok (.ireturn, 1) := by decide +kernel
theorem dX0_eventsEver_0 : decode cX0_eventsEver 0 = .ok (.aload_n 0, 1) := by decide +kernel
theorem dX0_eventsEver_1 : decode cX0_eventsEver 1 = .ok (.getfield 11, 3) := by decide +kernel
theorem dX0_eventsEver_4 : decode cX0_eventsEver 4 = .ok (.bipush 60, 2) := by decide +kernel
theorem dX0_eventsEver_6 : decode cX0_eventsEver 6 = .ok (.iaload, 1) := by decide +kernel
theorem dX0_eventsEver_7 : decode cX0_eventsEver 7 = .ok (.ireturn, 1) := by decide +kernel
theorem dX0_eventsListed_0 : decode cX0_eventsListed 0 = .ok (.aload_n 0, 1) := by decide +kernel
theorem dX0_eventsListed_1 : decode cX0_eventsListed 1 = .ok (.getfield 11, 3) := by decide +kernel
theorem dX0_eventsListed_4 : decode cX0_eventsListed 4 = .ok (.bipush 60, 2) := by decide +kernel
theorem dX0_eventsListed_6 : decode cX0_eventsListed 6 = .ok (.iaload, 1) := by decide +kernel
theorem dX0_eventsListed_7 : decode cX0_eventsListed 7 = .ok (.bipush 12, 2) := by decide +kernel
theorem dX0_eventsListed_9 : decode cX0_eventsListed 9 = .ok (.invokestatic 33, 3) := by decide +kernel
theorem dX0_eventsListed_12 : decode cX0_eventsListed 12 = .ok (.ireturn, 1) := by decide +kernel
set_option maxRecDepth 20000 in
theorem ggX0_eventPart_X0_eventCell : GoodIn wsX0_eventPart wsX0_eventCell := goodIn_r _ [5] (by decide +kernel) (by decide +kernel)
set_option maxRecDepth 20000 in
theorem gX0_eventPart_X0_eventCell : GoodIn wsX0_eventPart (va_wsS RX0 39 yX0_eventCell wsX0_eventCell) := goodIn_app (goodIn_of _ (by decide +kernel)) ggX0_eventPart_X0_eventCell
theorem dX0_eventPart_0 : decode cX0_eventPart 0 = .ok (.aload_n 0, 1) := by decide +kernel
theorem dX0_eventPart_1 : decode cX0_eventPart 1 = .ok (.getfield 11, 3) := by decide +kernel
theorem dX0_eventPart_4 : decode cX0_eventPart 4 = .ok (.aload_n 0, 1) := by decide +kernel
theorem dX0_eventPart_5 : decode cX0_eventPart 5 = .ok (.getfield 11, 3) := by decide +kernel
theorem dX0_eventPart_8 : decode cX0_eventPart 8 = .ok (.bipush 60, 2) := by decide +kernel
theorem dX0_eventPart_10 : decode cX0_eventPart 10 = .ok (.iaload, 1) := by decide +kernel
theorem dX0_eventPart_11 : decode cX0_eventPart 11 = .ok (.iconst 1, 1) := by decide +kernel
theorem dX0_eventPart_12 : decode cX0_eventPart 12 = .ok (.isub, 1) := by decide +kernel
theorem dX0_eventPart_13 : decode cX0_eventPart 13 = .ok (.iload_n 1, 1) := by decide +kernel
theorem dX0_eventPart_14 : decode cX0_eventPart 14 = .ok (.isub, 1) := by decide +kernel
theorem dX0_eventPart_15 : decode cX0_eventPart 15 = .ok (.invokestatic 39, 3) := by decide +kernel
theorem dX0_eventPart_18 : decode cX0_eventPart 18 = .ok (.iload_n 2, 1) := by decide +kernel
theorem dX0_eventPart_19 : decode cX0_eventPart 19 = .ok (.iadd, 1) := by decide +kernel
theorem dX0_eventPart_20 : decode cX0_eventPart 20 = .ok (.iaload, 1) := by decide +kernel
theorem dX0_eventPart_21 : decode cX0_eventPart 21 = .ok (.ireturn, 1) := by decide +kernel
set_option maxRecDepth 20000 in
theorem ggX0_renew_X0_property : GoodIn wsX0_renew wsX0_property := goodIn_r _ [6, 1, 23] (by decide +kernel) (by decide +kernel)
set_option maxRecDepth 20000 in
theorem gX0_renew_X0_property : GoodIn wsX0_renew (wsV RX0 43 RX0 yX0_property wsX0_property) := goodIn_app (goodIn_of _ (by decide +kernel)) ggX0_renew_X0_property
set_option maxRecDepth 20000 in
theorem ggX0_renew_X0_fill : GoodIn wsX0_renew wsX0_fill := goodIn_r _ [10, 11, 12, 13, 5, 14, 1, 15, 16, 17, 18, 23] (by decide +kernel) (by decide +kernel)
set_option maxRecDepth 20000 in
theorem gX0_renew_X0_fill : GoodIn wsX0_renew (wsV RX0 19 RX0 yX0_fill wsX0_fill) := goodIn_app (goodIn_of _ (by decide +kernel)) ggX0_renew_X0_fill
set_option maxRecDepth 20000 in
theorem ggX0_renew_X0_makeKind : GoodIn wsX0_renew wsX0_makeKind := goodIn_r _ [22, 11, 12, 13, 5, 14, 1, 15, 16, 17, 18, 23] (by decide +kernel) (by decide +kernel)
set_option maxRecDepth 20000 in
theorem gX0_renew_X0_makeKind : GoodIn wsX0_renew (wsV RX0 46 RX0 yX0_makeKind wsX0_makeKind) := goodIn_app (goodIn_of _ (by decide +kernel)) ggX0_renew_X0_makeKind
set_option maxRecDepth 20000 in
theorem ggX0_renew_X0_put : GoodIn wsX0_renew wsX0_put := goodIn_r _ [14, 1, 23] (by decide +kernel) (by decide +kernel)
set_option maxRecDepth 20000 in
theorem gX0_renew_X0_put : GoodIn wsX0_renew (wsV RX0 50 RX0 yX0_put wsX0_put) := goodIn_app (goodIn_of _ (by decide +kernel)) ggX0_renew_X0_put
theorem dX0_renew_0 : decode cX0_renew 0 = .ok (.aload_n 0, 1) := by decide +kernel
theorem dX0_renew_1 : decode cX0_renew 1 = .ok (.getfield 11, 3) := by decide +kernel
theorem dX0_renew_4 : decode cX0_renew 4 = .ok (.bipush 57, 2) := by decide +kernel
theorem dX0_renew_6 : decode cX0_renew 6 = .ok (.iaload, 1) := by decide +kernel
theorem dX0_renew_7 : decode cX0_renew 7 = .ok (.istore_n 2, 1) := by decide +kernel
theorem dX0_renew_8 : decode cX0_renew 8 = .ok (.aload_n 0, 1) := by decide +kernel
theorem dX0_renew_9 : decode cX0_renew 9 = .ok (.getfield 11, 3) := by decide +kernel
theorem dX0_renew_12 : decode cX0_renew 12 = .ok (.bipush 57, 2) := by decide +kernel
theorem dX0_renew_14 : decode cX0_renew 14 = .ok (.iload_n 1, 1) := by decide +kernel
theorem dX0_renew_15 : decode cX0_renew 15 = .ok (.iastore, 1) := by decide +kernel
theorem dX0_renew_16 : decode cX0_renew 16 = .ok (.iconst 0, 1) := by decide +kernel
theorem dX0_renew_17 : decode cX0_renew 17 = .ok (.istore_n 3, 1) := by decide +kernel
theorem dX0_renew_18 : decode cX0_renew 18 = .ok (.iload_n 3, 1) := by decide +kernel
theorem dX0_renew_19 : decode cX0_renew 19 = .ok (.iload_n 1, 1) := by decide +kernel
theorem dX0_renew_20 : decode cX0_renew 20 = .ok (.if_icmp .ge 43, 3) := by decide +kernel
theorem dX0_renew_23 : decode cX0_renew 23 = .ok (.aload_n 0, 1) := by decide +kernel
theorem dX0_renew_24 : decode cX0_renew 24 = .ok (.iload_n 3, 1) := by decide +kernel
theorem dX0_renew_25 : decode cX0_renew 25 = .ok (.iload_n 3, 1) := by decide +kernel
theorem dX0_renew_26 : decode cX0_renew 26 = .ok (.iload_n 2, 1) := by decide +kernel
theorem dX0_renew_27 : decode cX0_renew 27 = .ok (.if_icmp .ge 12, 3) := by decide +kernel
theorem dX0_renew_30 : decode cX0_renew 30 = .ok (.aload_n 0, 1) := by decide +kernel
theorem dX0_renew_31 : decode cX0_renew 31 = .ok (.iload_n 3, 1) := by decide +kernel
theorem dX0_renew_32 : decode cX0_renew 32 = .ok (.iconst 0, 1) := by decide +kernel
theorem dX0_renew_33 : decode cX0_renew 33 = .ok (.invokevirtual 43, 3) := by decide +kernel
theorem dX0_renew_36 : decode cX0_renew 36 = .ok (.goto 4, 3) := by decide +kernel
theorem dX0_renew_39 : decode cX0_renew 39 = .ok (.iconst 5, 1) := by decide +kernel
theorem dX0_renew_40 : decode cX0_renew 40 = .ok (.invokevirtual 19, 3) := by decide +kernel
theorem dX0_renew_43 : decode cX0_renew 43 = .ok (.aload_n 0, 1) := by decide +kernel
theorem dX0_renew_44 : decode cX0_renew 44 = .ok (.iload_n 3, 1) := by decide +kernel
theorem dX0_renew_45 : decode cX0_renew 45 = .ok (.iconst 0, 1) := by decide +kernel
theorem dX0_renew_46 : decode cX0_renew 46 = .ok (.iconst 3, 1) := by decide +kernel
theorem dX0_renew_47 : decode cX0_renew 47 = .ok (.invokevirtual 46, 3) := by decide +kernel
theorem dX0_renew_50 : decode cX0_renew 50 = .ok (.aload_n 0, 1) := by decide +kernel
theorem dX0_renew_51 : decode cX0_renew 51 = .ok (.iload_n 3, 1) := by decide +kernel
theorem dX0_renew_52 : decode cX0_renew 52 = .ok (.iconst 5, 1) := by decide +kernel
theorem dX0_renew_53 : decode cX0_renew 53 = .ok (.iload_n 3, 1) := by decide +kernel
theorem dX0_renew_54 : decode cX0_renew 54 = .ok (.invokevirtual 50, 3) := by decide +kernel
theorem dX0_renew_57 : decode cX0_renew 57 = .ok (.iinc 3 1, 3) := by decide +kernel
theorem dX0_renew_60 : decode cX0_renew 60 = .ok (.goto (-42), 3) := by decide +kernel
theorem dX0_renew_63 : decode cX0_renew 63 = .ok (.return_, 1) := by decide +kernel
set_option maxRecDepth 20000 in
theorem ggX0_fill_X0_put : GoodIn wsX0_fill wsX0_put := goodIn_r _ [5, 6, 11] (by decide +kernel) (by decide +kernel)
set_option maxRecDepth 20000 in
theorem gX0_fill_X0_put : GoodIn wsX0_fill (wsV RX0 50 RX0 yX0_put wsX0_put) := goodIn_app (goodIn_of _ (by decide +kernel)) ggX0_fill_X0_put
set_option maxRecDepth 20000 in
theorem ggX0_fill_X0_free : GoodIn wsX0_fill wsX0_free := goodIn_r _ [10, 1, 2, 3, 4, 5, 6, 11] (by decide +kernel) (by decide +kernel)
set_option maxRecDepth 20000 in
theorem gX0_fill_X0_free : GoodIn wsX0_fill (wsV RX0 53 RX0 yX0_free wsX0_free) := goodIn_app (goodIn_of _ (by decide +kernel)) ggX0_fill_X0_free
theorem dX0_fill_0 : decode cX0_fill 0 = .ok (.aload_n 0, 1) := by decide +kernel
theorem dX0_fill_1 : decode cX0_fill 1 = .ok (.iload_n 1, 1) := by decide +kernel
theorem dX0_fill_2 : decode cX0_fill 2 = .ok (.iconst 0, 1) := by decide +kernel
theorem dX0_fill_3 : decode cX0_fill 3 = .ok (.iload_n 2, 1) := by decide +kernel
theorem dX0_fill_4 : decode cX0_fill 4 = .ok (.invokevirtual 50, 3) := by decide +kernel
theorem dX0_fill_7 : decode cX0_fill 7 = .ok (.aload_n 0, 1) := by decide +kernel
theorem dX0_fill_8 : decode cX0_fill 8 = .ok (.iload_n 1, 1) := by decide +kernel
theorem dX0_fill_9 : decode cX0_fill 9 = .ok (.iconst 1, 1) := by decide +kernel
theorem dX0_fill_10 : decode cX0_fill 10 = .ok (.iconst 0, 1) := by decide +kernel
theorem dX0_fill_11 : decode cX0_fill 11 = .ok (.invokevirtual 50, 3) := by decide +kernel
theorem dX0_fill_14 : decode cX0_fill 14 = .ok (.aload_n 0, 1) := by decide +kernel
theorem dX0_fill_15 : decode cX0_fill 15 = .ok (.iload_n 1, 1) := by decide +kernel
theorem dX0_fill_16 : decode cX0_fill 16 = .ok (.invokevirtual 53, 3) := by decide +kernel
theorem dX0_fill_19 : decode cX0_fill 19 = .ok (.return_, 1) := by decide +kernel
set_option maxRecDepth 20000 in
theorem ggX0_makeKind_X0_put : GoodIn wsX0_makeKind wsX0_put := goodIn_r _ [5, 6, 11] (by decide +kernel) (by decide +kernel)
set_option maxRecDepth 20000 in
theorem gX0_makeKind_X0_put : GoodIn wsX0_makeKind (wsV RX0 50 RX0 yX0_put wsX0_put) := goodIn_app (goodIn_of _ (by decide +kernel)) ggX0_makeKind_X0_put
set_option maxRecDepth 20000 in
theorem ggX0_makeKind_X0_free : GoodIn wsX0_makeKind wsX0_free := goodIn_r _ [10, 1, 2, 3, 4, 5, 6, 11] (by decide +kernel) (by decide +kernel)
set_option maxRecDepth 20000 in
theorem gX0_makeKind_X0_free : GoodIn wsX0_makeKind (wsV RX0 53 RX0 yX0_free wsX0_free) := goodIn_app (goodIn_of _ (by decide +kernel)) ggX0_makeKind_X0_free
theorem dX0_makeKind_0 : decode cX0_makeKind 0 = .ok (.aload_n 0, 1) := by decide +kernel
theorem dX0_makeKind_1 : decode cX0_makeKind 1 = .ok (.iload_n 1, 1) := by decide +kernel
theorem dX0_makeKind_2 : decode cX0_makeKind 2 = .ok (.iconst 2, 1) := by decide +kernel
theorem dX0_makeKind_3 : decode cX0_makeKind 3 = .ok (.iload_n 2, 1) := by decide +kernel
theorem dX0_makeKind_4 : decode cX0_makeKind 4 = .ok (.invokevirtual 50, 3) := by decide +kernel
theorem dX0_makeKind_7 : decode cX0_makeKind 7 = .ok (.aload_n 0, 1) := by decide +kernel
theorem dX0_makeKind_8 : decode cX0_makeKind 8 = .ok (.iload_n 1, 1) := by decide +kernel
theorem dX0_makeKind_9 : decode cX0_makeKind 9 = .ok (.iconst 3, 1) := by decide +kernel
theorem dX0_makeKind_10 : decode cX0_makeKind 10 = .ok (.iload_n 3, 1) := by decide +kernel
theorem dX0_makeKind_11 : decode cX0_makeKind 11 = .ok (.invokevirtual 50, 3) := by decide +kernel
theorem dX0_makeKind_14 : decode cX0_makeKind 14 = .ok (.aload_n 0, 1) := by decide +kernel
theorem dX0_makeKind_15 : decode cX0_makeKind 15 = .ok (.iload_n 1, 1) := by decide +kernel
theorem dX0_makeKind_16 : decode cX0_makeKind 16 = .ok (.invokevirtual 53, 3) := by decide +kernel
theorem dX0_makeKind_19 : decode cX0_makeKind 19 = .ok (.return_, 1) := by decide +kernel
set_option maxRecDepth 20000 in
theorem ggX0_stacks_X0_glasses : GoodIn wsX0_stacks wsX0_glasses := goodIn_r _ [5, 6, 11] (by decide +kernel) (by decide +kernel)
set_option maxRecDepth 20000 in
theorem gX0_stacks_X0_glasses : GoodIn wsX0_stacks (wsV RX0 29 RX0 yX0_glasses wsX0_glasses) := goodIn_app (goodIn_of _ (by decide +kernel)) ggX0_stacks_X0_glasses
set_option maxRecDepth 20000 in
theorem ggX0_stacks_X0_property : GoodIn wsX0_stacks wsX0_property := goodIn_r _ [10, 6, 11] (by decide +kernel) (by decide +kernel)
set_option maxRecDepth 20000 in
theorem gX0_stacks_X0_property : GoodIn wsX0_stacks (wsV RX0 43 RX0 yX0_property wsX0_property) := goodIn_app (goodIn_of _ (by decide +kernel)) ggX0_stacks_X0_property
theorem dX0_stacks_0 : decode cX0_stacks 0 = .ok (.iconst 0, 1) := by decide +kernel
theorem dX0_stacks_1 : decode cX0_stacks 1 = .ok (.istore_n 1, 1) := by decide +kernel
theorem dX0_stacks_2 : decode cX0_stacks 2 = .ok (.iconst 0, 1) := by decide +kernel
theorem dX0_stacks_3 : decode cX0_stacks 3 = .ok (.istore_n 2, 1) := by decide +kernel
theorem dX0_stacks_4 : decode cX0_stacks 4 = .ok (.iload_n 2, 1) := by decide +kernel
theorem dX0_stacks_5 : decode cX0_stacks 5 = .ok (.aload_n 0, 1) := by decide +kernel
theorem dX0_stacks_6 : decode cX0_stacks 6 = .ok (.invokevirtual 29, 3) := by decide +kernel
theorem dX0_stacks_9 : decode cX0_stacks 9 = .ok (.if_icmp .ge 22, 3) := by decide +kernel
theorem dX0_stacks_12 : decode cX0_stacks 12 = .ok (.aload_n 0, 1) := by decide +kernel
theorem dX0_stacks_13 : decode cX0_stacks 13 = .ok (.iload_n 2, 1) := by decide +kernel
theorem dX0_stacks_14 : decode cX0_stacks 14 = .ok (.iconst 5, 1) := by decide +kernel
theorem dX0_stacks_15 : decode cX0_stacks 15 = .ok (.invokevirtual 43, 3) := by decide +kernel
theorem dX0_stacks_18 : decode cX0_stacks 18 = .ok (.iload_n 2, 1) := by decide +kernel
theorem dX0_stacks_19 : decode cX0_stacks 19 = .ok (.if_icmp .ne 6, 3) := by decide +kernel
theorem dX0_stacks_22 : decode cX0_stacks 22 = .ok (.iinc 1 1, 3) := by decide +kernel
theorem dX0_stacks_25 : decode cX0_stacks 25 = .ok (.iinc 2 1, 3) := by decide +kernel
theorem dX0_stacks_28 : decode cX0_stacks 28 = .ok (.goto (-24), 3) := by decide +kernel
theorem dX0_stacks_31 : decode cX0_stacks 31 = .ok (.iload_n 1, 1) := by decide +kernel
theorem dX0_stacks_32 : decode cX0_stacks 32 = .ok (.ireturn, 1) := by decide +kernel
set_option maxRecDepth 20000 in
theorem ggX0_glassesOf_X0_glasses : GoodIn wsX0_glassesOf wsX0_glasses := goodIn_r _ [5, 6, 11] (by decide +kernel) (by decide +kernel)
set_option maxRecDepth 20000 in
theorem gX0_glassesOf_X0_glasses : GoodIn wsX0_glassesOf (wsV RX0 29 RX0 yX0_glasses wsX0_glasses) := goodIn_app (goodIn_of _ (by decide +kernel)) ggX0_glassesOf_X0_glasses
set_option maxRecDepth 20000 in
theorem ggX0_glassesOf_X0_property : GoodIn wsX0_glassesOf wsX0_property := goodIn_r _ [10, 6, 11] (by decide +kernel) (by decide +kernel)
set_option maxRecDepth 20000 in
theorem gX0_glassesOf_X0_property : GoodIn wsX0_glassesOf (wsV RX0 43 RX0 yX0_property wsX0_property) := goodIn_app (goodIn_of _ (by decide +kernel)) ggX0_glassesOf_X0_property
theorem dX0_glassesOf_0 : decode cX0_glassesOf 0 = .ok (.iconst 0, 1) := by decide +kernel
theorem dX0_glassesOf_1 : decode cX0_glassesOf 1 = .ok (.istore_n 2, 1) := by decide +kernel
theorem dX0_glassesOf_2 : decode cX0_glassesOf 2 = .ok (.iconst 0, 1) := by decide +kernel
theorem dX0_glassesOf_3 : decode cX0_glassesOf 3 = .ok (.istore_n 3, 1) := by decide +kernel
theorem dX0_glassesOf_4 : decode cX0_glassesOf 4 = .ok (.iload_n 3, 1) := by decide +kernel
theorem dX0_glassesOf_5 : decode cX0_glassesOf 5 = .ok (.aload_n 0, 1) := by decide +kernel
theorem dX0_glassesOf_6 : decode cX0_glassesOf 6 = .ok (.invokevirtual 29, 3) := by decide +kernel
theorem dX0_glassesOf_9 : decode cX0_glassesOf 9 = .ok (.if_icmp .ge 22, 3) := by decide +kernel
theorem dX0_glassesOf_12 : decode cX0_glassesOf 12 = .ok (.aload_n 0, 1) := by decide +kernel
theorem dX0_glassesOf_13 : decode cX0_glassesOf 13 = .ok (.iload_n 3, 1) := by decide +kernel
theorem dX0_glassesOf_14 : decode cX0_glassesOf 14 = .ok (.iconst 5, 1) := by decide +kernel
theorem dX0_glassesOf_15 : decode cX0_glassesOf 15 = .ok (.invokevirtual 43, 3) := by decide +kernel
theorem dX0_glassesOf_18 : decode cX0_glassesOf 18 = .ok (.iload_n 1, 1) := by decide +kernel
theorem dX0_glassesOf_19 : decode cX0_glassesOf 19 = .ok (.if_icmp .ne 6, 3) := by decide +kernel
theorem dX0_glassesOf_22 : decode cX0_glassesOf 22 = .ok (.iinc 2 1, 3) := by decide +kernel
theorem dX0_glassesOf_25 : decode cX0_glassesOf 25 = .ok (.iinc 3 1, 3) := by decide +kernel
theorem dX0_glassesOf_28 : decode cX0_glassesOf 28 = .ok (.goto (-24), 3) := by decide +kernel
theorem dX0_glassesOf_31 : decode cX0_glassesOf 31 = .ok (.iload_n 2, 1) := by decide +kernel
theorem dX0_glassesOf_32 : decode cX0_glassesOf 32 = .ok (.ireturn, 1) := by decide +kernel
set_option maxRecDepth 20000 in
theorem ggX0_join_X0_glasses : GoodIn wsX0_join wsX0_glasses := goodIn_r _ [9, 10, 19] (by decide +kernel) (by decide +kernel)
set_option maxRecDepth 20000 in
theorem gX0_join_X0_glasses : GoodIn wsX0_join (wsV RX0 29 RX0 yX0_glasses wsX0_glasses) := goodIn_app (goodIn_of _ (by decide +kernel)) ggX0_join_X0_glasses
set_option maxRecDepth 20000 in
theorem ggX0_join_X0_property : GoodIn wsX0_join wsX0_property := goodIn_r _ [14, 10, 19] (by decide +kernel) (by decide +kernel)
set_option maxRecDepth 20000 in
theorem gX0_join_X0_property : GoodIn wsX0_join (wsV RX0 43 RX0 yX0_property wsX0_property) := goodIn_app (goodIn_of _ (by decide +kernel)) ggX0_join_X0_property
set_option maxRecDepth 20000 in
theorem ggX0_join_X0_put : GoodIn wsX0_join wsX0_put := goodIn_r _ [18, 10, 19] (by decide +kernel) (by decide +kernel)
set_option maxRecDepth 20000 in
theorem gX0_join_X0_put : GoodIn wsX0_join (wsV RX0 50 RX0 yX0_put wsX0_put) := goodIn_app (goodIn_of _ (by decide +kernel)) ggX0_join_X0_put
theorem dX0_join_0 : decode cX0_join 0 = .ok (.iload_n 1, 1) := by decide +kernel
theorem dX0_join_1 : decode cX0_join 1 = .ok (.iload_n 2, 1) := by decide +kernel
theorem dX0_join_2 : decode cX0_join 2 = .ok (.invokestatic 33, 3) := by decide +kernel
theorem dX0_join_5 : decode cX0_join 5 = .ok (.istore_n 3, 1) := by decide +kernel
theorem dX0_join_6 : decode cX0_join 6 = .ok (.iconst 0, 1) := by decide +kernel
theorem dX0_join_7 : decode cX0_join 7 = .ok (.istore 4, 2) := by decide +kernel
theorem dX0_join_9 : decode cX0_join 9 = .ok (.iload 4, 2) := by decide +kernel
theorem dX0_join_11 : decode cX0_join 11 = .ok (.aload_n 0, 1) := by decide +kernel
theorem dX0_join_12 : decode cX0_join 12 = .ok (.invokevirtual 29, 3) := by decide +kernel
theorem dX0_join_15 : decode cX0_join 15 = .ok (.if_icmp .ge 39, 3) := by decide +kernel
theorem dX0_join_18 : decode cX0_join 18 = .ok (.aload_n 0, 1) := by decide +kernel
theorem dX0_join_19 : decode cX0_join 19 = .ok (.iload 4, 2) := by decide +kernel
theorem dX0_join_21 : decode cX0_join 21 = .ok (.iconst 5, 1) := by decide +kernel
theorem dX0_join_22 : decode cX0_join 22 = .ok (.invokevirtual 43, 3) := by decide +kernel
theorem dX0_join_25 : decode cX0_join 25 = .ok (.iload_n 1, 1) := by decide +kernel
theorem dX0_join_26 : decode cX0_join 26 = .ok (.if_icmp .eq 14, 3) := by decide +kernel
theorem dX0_join_29 : decode cX0_join 29 = .ok (.aload_n 0, 1) := by decide +kernel
theorem dX0_join_30 : decode cX0_join 30 = .ok (.iload 4, 2) := by decide +kernel
theorem dX0_join_32 : decode cX0_join 32 = .ok (.iconst 5, 1) := by decide +kernel
theorem dX0_join_33 : decode cX0_join 33 = .ok (.invokevirtual 43, 3) := by decide +kernel
theorem dX0_join_36 : decode cX0_join 36 = .ok (.iload_n 2, 1) := by decide +kernel
theorem dX0_join_37 : decode cX0_join 37 = .ok (.if_icmp .ne 11, 3) := by decide +kernel
theorem dX0_join_40 : decode cX0_join 40 = .ok (.aload_n 0, 1) := by decide +kernel
theorem dX0_join_41 : decode cX0_join 41 = .ok (.iload 4, 2) := by decide +kernel
theorem dX0_join_43 : decode cX0_join 43 = .ok (.iconst 5, 1) := by decide +kernel
theorem dX0_join_44 : decode cX0_join 44 = .ok (.iload_n 3, 1) := by decide +kernel
theorem dX0_join_45 : decode cX0_join 45 = .ok (.invokevirtual 50, 3) := by decide +kernel
theorem dX0_join_48 : decode cX0_join 48 = .ok (.iinc 4 1, 3) := by decide +kernel
theorem dX0_join_51 : decode cX0_join 51 = .ok (.goto (-42), 3) := by decide +kernel
theorem dX0_join_54 : decode cX0_join 54 = .ok (.return_, 1) := by decide +kernel
set_option maxRecDepth 20000 in
theorem ggX0_scatter_X0_glasses : GoodIn wsX0_scatter wsX0_glasses := goodIn_r _ [5, 6, 15] (by decide +kernel) (by decide +kernel)
set_option maxRecDepth 20000 in
theorem gX0_scatter_X0_glasses : GoodIn wsX0_scatter (wsV RX0 29 RX0 yX0_glasses wsX0_glasses) := goodIn_app (goodIn_of _ (by decide +kernel)) ggX0_scatter_X0_glasses
set_option maxRecDepth 20000 in
theorem ggX0_scatter_X0_property : GoodIn wsX0_scatter wsX0_property := goodIn_r _ [10, 6, 15] (by decide +kernel) (by decide +kernel)
set_option maxRecDepth 20000 in
theorem gX0_scatter_X0_property : GoodIn wsX0_scatter (wsV RX0 43 RX0 yX0_property wsX0_property) := goodIn_app (goodIn_of _ (by decide +kernel)) ggX0_scatter_X0_property
set_option maxRecDepth 20000 in
theorem ggX0_scatter_X0_put : GoodIn wsX0_scatter wsX0_put := goodIn_r _ [14, 6, 15] (by decide +kernel) (by decide +kernel)
set_option maxRecDepth 20000 in
theorem gX0_scatter_X0_put : GoodIn wsX0_scatter (wsV RX0 50 RX0 yX0_put wsX0_put) := goodIn_app (goodIn_of _ (by decide +kernel)) ggX0_scatter_X0_put
theorem dX0_scatter_0 : decode cX0_scatter 0 = .ok (.iconst 0, 1) := by decide +kernel
theorem dX0_scatter_1 : decode cX0_scatter 1 = .ok (.istore_n 2, 1) := by decide +kernel
theorem dX0_scatter_2 : decode cX0_scatter 2 = .ok (.iload_n 2, 1) := by decide +kernel
theorem dX0_scatter_3 : decode cX0_scatter 3 = .ok (.aload_n 0, 1) := by decide +kernel
theorem dX0_scatter_4 : decode cX0_scatter 4 = .ok (.invokevirtual 29, 3) := by decide +kernel
theorem dX0_scatter_7 : decode cX0_scatter 7 = .ok (.if_icmp .ge 26, 3) := by decide +kernel
theorem dX0_scatter_10 : decode cX0_scatter 10 = .ok (.aload_n 0, 1) := by decide +kernel
theorem dX0_scatter_11 : decode cX0_scatter 11 = .ok (.iload_n 2, 1) := by decide +kernel
theorem dX0_scatter_12 : decode cX0_scatter 12 = .ok (.iconst 5, 1) := by decide +kernel
theorem dX0_scatter_13 : decode cX0_scatter 13 = .ok (.invokevirtual 43, 3) := by decide +kernel
theorem dX0_scatter_16 : decode cX0_scatter 16 = .ok (.iload_n 1, 1) := by decide +kernel
theorem dX0_scatter_17 : decode cX0_scatter 17 = .ok (.if_icmp .ne 10, 3) := by decide +kernel
theorem dX0_scatter_20 : decode cX0_scatter 20 = .ok (.aload_n 0, 1) := by decide +kernel
theorem dX0_scatter_21 : decode cX0_scatter 21 = .ok (.iload_n 2, 1) := by decide +kernel
theorem dX0_scatter_22 : decode cX0_scatter 22 = .ok (.iconst 5, 1) := by decide +kernel
theorem dX0_scatter_23 : decode cX0_scatter 23 = .ok (.iload_n 2, 1) := by decide +kernel
theorem dX0_scatter_24 : decode cX0_scatter 24 = .ok (.invokevirtual 50, 3) := by decide +kernel
theorem dX0_scatter_27 : decode cX0_scatter 27 = .ok (.iinc 2 1, 3) := by decide +kernel
theorem dX0_scatter_30 : decode cX0_scatter 30 = .ok (.goto (-28), 3) := by decide +kernel
theorem dX0_scatter_33 : decode cX0_scatter 33 = .ok (.return_, 1) := by decide +kernel
set_option maxRecDepth 20000 in
theorem ggX0_turnStackOf_X0_property : GoodIn wsX0_turnStackOf wsX0_property := goodIn_r _ [6, 1, 19] (by decide +kernel) (by decide +kernel)
set_option maxRecDepth 20000 in
theorem gX0_turnStackOf_X0_property : GoodIn wsX0_turnStackOf (wsV RX0 43 RX0 yX0_property wsX0_property) := goodIn_app (goodIn_of _ (by decide +kernel)) ggX0_turnStackOf_X0_property
set_option maxRecDepth 20000 in
theorem ggX0_turnStackOf_X0_glasses : GoodIn wsX0_turnStackOf wsX0_glasses := goodIn_r _ [10, 1, 19] (by decide +kernel) (by decide +kernel)
set_option maxRecDepth 20000 in
theorem gX0_turnStackOf_X0_glasses : GoodIn wsX0_turnStackOf (wsV RX0 29 RX0 yX0_glasses wsX0_glasses) := goodIn_app (goodIn_of _ (by decide +kernel)) ggX0_turnStackOf_X0_glasses
set_option maxRecDepth 20000 in
theorem ggX0_turnStackOf_X0_put : GoodIn wsX0_turnStackOf wsX0_put := goodIn_r _ [14, 1, 19] (by decide +kernel) (by decide +kernel)
set_option maxRecDepth 20000 in
theorem gX0_turnStackOf_X0_put : GoodIn wsX0_turnStackOf (wsV RX0 50 RX0 yX0_put wsX0_put) := goodIn_app (goodIn_of _ (by decide +kernel)) ggX0_turnStackOf_X0_put
set_option maxRecDepth 20000 in
theorem ggX0_turnStackOf_X0_free : GoodIn wsX0_turnStackOf wsX0_free := goodIn_r _ [18, 11, 12, 13, 5, 14, 1, 19] (by decide +kernel) (by decide +kernel)
set_option maxRecDepth 20000 in
theorem gX0_turnStackOf_X0_free : GoodIn wsX0_turnStackOf (wsV RX0 53 RX0 yX0_free wsX0_free) := goodIn_app (goodIn_of _ (by decide +kernel)) ggX0_turnStackOf_X0_free
theorem dX0_turnStackOf_0 : decode cX0_turnStackOf 0 = .ok (.aload_n 0, 1) := by decide +kernel
theorem dX0_turnStackOf_1 : decode cX0_turnStackOf 1 = .ok (.iload_n 1, 1) := by decide +kernel
theorem dX0_turnStackOf_2 : decode cX0_turnStackOf 2 = .ok (.iconst 5, 1) := by decide +kernel
theorem dX0_turnStackOf_3 : decode cX0_turnStackOf 3 = .ok (.invokevirtual 43, 3) := by decide +kernel
theorem dX0_turnStackOf_6 : decode cX0_turnStackOf 6 = .ok (.istore_n 2, 1) := by decide +kernel
theorem dX0_turnStackOf_7 : decode cX0_turnStackOf 7 = .ok (.iconst 0, 1) := by decide +kernel
theorem dX0_turnStackOf_8 : decode cX0_turnStackOf 8 = .ok (.istore_n 3, 1) := by decide +kernel
theorem dX0_turnStackOf_9 : decode cX0_turnStackOf 9 = .ok (.iload_n 3, 1) := by decide +kernel
theorem dX0_turnStackOf_10 : decode cX0_turnStackOf 10 = .ok (.aload_n 0, 1) := by decide +kernel
theorem dX0_turnStackOf_11 : decode cX0_turnStackOf 11 = .ok (.invokevirtual 29, 3) := by decide +kernel
theorem dX0_turnStackOf_14 : decode cX0_turnStackOf 14 = .ok (.if_icmp .ge 43, 3) := by decide +kernel
theorem dX0_turnStackOf_17 : decode cX0_turnStackOf 17 = .ok (.aload_n 0, 1) := by decide +kernel
theorem dX0_turnStackOf_18 : decode cX0_turnStackOf 18 = .ok (.iload_n 3, 1) := by decide +kernel
theorem dX0_turnStackOf_19 : decode cX0_turnStackOf 19 = .ok (.iconst 5, 1) := by decide +kernel
theorem dX0_turnStackOf_20 : decode cX0_turnStackOf 20 = .ok (.invokevirtual 43, 3) := by decide +kernel
theorem dX0_turnStackOf_23 : decode cX0_turnStackOf 23 = .ok (.iload_n 2, 1) := by decide +kernel
theorem dX0_turnStackOf_24 : decode cX0_turnStackOf 24 = .ok (.if_icmp .ne 27, 3) := by decide +kernel
theorem dX0_turnStackOf_27 : decode cX0_turnStackOf 27 = .ok (.aload_n 0, 1) := by decide +kernel
theorem dX0_turnStackOf_28 : decode cX0_turnStackOf 28 = .ok (.iload_n 3, 1) := by decide +kernel
theorem dX0_turnStackOf_29 : decode cX0_turnStackOf 29 = .ok (.iconst 1, 1) := by decide +kernel
theorem dX0_turnStackOf_30 : decode cX0_turnStackOf 30 = .ok (.aload_n 0, 1) := by decide +kernel
theorem dX0_turnStackOf_31 : decode cX0_turnStackOf 31 = .ok (.iload_n 3, 1) := by decide +kernel
theorem dX0_turnStackOf_32 : decode cX0_turnStackOf 32 = .ok (.iconst 0, 1) := by decide +kernel
theorem dX0_turnStackOf_33 : decode cX0_turnStackOf 33 = .ok (.invokevirtual 43, 3) := by decide +kernel
theorem dX0_turnStackOf_36 : decode cX0_turnStackOf 36 = .ok (.aload_n 0, 1) := by decide +kernel
theorem dX0_turnStackOf_37 : decode cX0_turnStackOf 37 = .ok (.iload_n 3, 1) := by decide +kernel
theorem dX0_turnStackOf_38 : decode cX0_turnStackOf 38 = .ok (.iconst 1, 1) := by decide +kernel
theorem dX0_turnStackOf_39 : decode cX0_turnStackOf 39 = .ok (.invokevirtual 43, 3) := by decide +kernel
theorem dX0_turnStackOf_42 : decode cX0_turnStackOf 42 = .ok (.isub, 1) := by decide +kernel
theorem dX0_turnStackOf_43 : decode cX0_turnStackOf 43 = .ok (.invokevirtual 50, 3) := by decide +kernel
theorem dX0_turnStackOf_46 : decode cX0_turnStackOf 46 = .ok (.aload_n 0, 1) := by decide +kernel
theorem dX0_turnStackOf_47 : decode cX0_turnStackOf 47 = .ok (.iload_n 3, 1) := by decide +kernel
theorem dX0_turnStackOf_48 : decode cX0_turnStackOf 48 = .ok (.invokevirtual 53, 3) := by decide +kernel
theorem dX0_turnStackOf_51 : decode cX0_turnStackOf 51 = .ok (.iinc 3 1, 3) := by decide +kernel
theorem dX0_turnStackOf_54 : decode cX0_turnStackOf 54 = .ok (.goto (-45), 3) := by decide +kernel
theorem dX0_turnStackOf_57 : decode cX0_turnStackOf 57 = .ok (.aload_n 0, 1) := by decide +kernel
theorem dX0_turnStackOf_58 : decode cX0_turnStackOf 58 = .ok (.getfield 11, 3) := by decide +kernel
theorem dX0_turnStackOf_61 : decode cX0_turnStackOf 61 = .ok (.bipush 61, 2) := by decide +kernel
theorem dX0_turnStackOf_63 : decode cX0_turnStackOf 63 = .ok (.dup2, 1) := by decide +kernel
theorem dX0_turnStackOf_64 : decode cX0_turnStackOf 64 = .ok (.iaload, 1) := by decide +kernel
theorem dX0_turnStackOf_65 : decode cX0_turnStackOf 65 = .ok (.iconst 1, 1) := by decide +kernel
theorem dX0_turnStackOf_66 : decode cX0_turnStackOf 66 = .ok (.iadd, 1) := by decide +kernel
theorem dX0_turnStackOf_67 : decode cX0_turnStackOf 67 = .ok (.iastore, 1) := by decide +kernel
theorem dX0_turnStackOf_68 : decode cX0_turnStackOf 68 = .ok (.return_, 1) := by decide +kernel
set_option maxRecDepth 20000 in
theorem ggX0_tapGlass_X0_free : GoodIn wsX0_tapGlass wsX0_free := goodIn_r _ [6, 7, 8, 9, 5, 10, 1, 11] (by decide +kernel) (by decide +kernel)
set_option maxRecDepth 20000 in
theorem gX0_tapGlass_X0_free : GoodIn wsX0_tapGlass (wsV RX0 53 RX0 yX0_free wsX0_free) := goodIn_app (goodIn_of _ (by decide +kernel)) ggX0_tapGlass_X0_free
theorem dX0_tapGlass_0 : decode cX0_tapGlass 0 = .ok (.aload_n 0, 1) := by decide +kernel
theorem dX0_tapGlass_1 : decode cX0_tapGlass 1 = .ok (.iload_n 1, 1) := by decide +kernel
theorem dX0_tapGlass_2 : decode cX0_tapGlass 2 = .ok (.invokevirtual 53, 3) := by decide +kernel
theorem dX0_tapGlass_5 : decode cX0_tapGlass 5 = .ok (.aload_n 0, 1) := by decide +kernel
theorem dX0_tapGlass_6 : decode cX0_tapGlass 6 = .ok (.getfield 11, 3) := by decide +kernel
theorem dX0_tapGlass_9 : decode cX0_tapGlass 9 = .ok (.bipush 62, 2) := by decide +kernel
theorem dX0_tapGlass_11 : decode cX0_tapGlass 11 = .ok (.dup2, 1) := by decide +kernel
theorem dX0_tapGlass_12 : decode cX0_tapGlass 12 = .ok (.iaload, 1) := by decide +kernel
theorem dX0_tapGlass_13 : decode cX0_tapGlass 13 = .ok (.iconst 1, 1) := by decide +kernel
theorem dX0_tapGlass_14 : decode cX0_tapGlass 14 = .ok (.iadd, 1) := by decide +kernel
theorem dX0_tapGlass_15 : decode cX0_tapGlass 15 = .ok (.iastore, 1) := by decide +kernel
theorem dX0_tapGlass_16 : decode cX0_tapGlass 16 = .ok (.return_, 1) := by decide +kernel
set_option maxRecDepth 20000 in
theorem ggX0_runs_X0_property : GoodIn wsX0_runs wsX0_property := goodIn_r _ [5, 6, 7] (by decide +kernel) (by decide +kernel)
set_option maxRecDepth 20000 in
theorem gX0_runs_X0_property : GoodIn wsX0_runs (wsV RX0 43 RX0 yX0_property wsX0_property) := goodIn_app (goodIn_of _ (by decide +kernel)) ggX0_runs_X0_property
theorem dX0_runs_0 : decode cX0_runs 0 = .ok (.aload_n 0, 1) := by decide +kernel
theorem dX0_runs_1 : decode cX0_runs 1 = .ok (.iload_n 1, 1) := by decide +kernel
theorem dX0_runs_2 : decode cX0_runs 2 = .ok (.iconst 1, 1) := by decide +kernel
theorem dX0_runs_3 : decode cX0_runs 3 = .ok (.invokevirtual 43, 3) := by decide +kernel
theorem dX0_runs_6 : decode cX0_runs 6 = .ok (.ifCond .le 26, 3) := by decide +kernel
theorem dX0_runs_9 : decode cX0_runs 9 = .ok (.aload_n 0, 1) := by decide +kernel
theorem dX0_runs_10 : decode cX0_runs 10 = .ok (.iload_n 1, 1) := by decide +kernel
theorem dX0_runs_11 : decode cX0_runs 11 = .ok (.iconst 2, 1) := by decide +kernel
theorem dX0_runs_12 : decode cX0_runs 12 = .ok (.invokevirtual 43, 3) := by decide +kernel
theorem dX0_runs_15 : decode cX0_runs 15 = .ok (.iconst 2, 1) := by decide +kernel
theorem dX0_runs_16 : decode cX0_runs 16 = .ok (.if_icmp .eq 16, 3) := by decide +kernel
theorem dX0_runs_19 : decode cX0_runs 19 = .ok (.aload_n 0, 1) := by decide +kernel
theorem dX0_runs_20 : decode cX0_runs 20 = .ok (.iload_n 1, 1) := by decide +kernel
theorem dX0_runs_21 : decode cX0_runs 21 = .ok (.iconst 4, 1) := by decide +kernel
theorem dX0_runs_22 : decode cX0_runs 22 = .ok (.invokevirtual 43, 3) := by decide +kernel
theorem dX0_runs_25 : decode cX0_runs 25 = .ok (.ifCond .ne 7, 3) := by decide +kernel
theorem dX0_runs_28 : decode cX0_runs 28 = .ok (.iconst 1, 1) := by decide +kernel
theorem dX0_runs_29 : decode cX0_runs 29 = .ok (.goto 4, 3) := by decide +kernel
theorem dX0_runs_32 : decode cX0_runs 32 = .ok (.iconst 0, 1) := by decide +kernel
theorem dX0_runs_33 : decode cX0_runs 33 = .ok (.ireturn, 1) := by decide +kernel
theorem dX0_hasTimeFor_0 : decode cX0_hasTimeFor 0 = .ok (.iload_n 1, 1) := by decide +kernel
theorem dX0_hasTimeFor_1 : decode cX0_hasTimeFor 1 = .ok (.sipush 9999, 3) := by decide +kernel
theorem dX0_hasTimeFor_4 : decode cX0_hasTimeFor 4 = .ok (.aload_n 0, 1) := by decide +kernel
theorem dX0_hasTimeFor_5 : decode cX0_hasTimeFor 5 = .ok (.getfield 11, 3) := by decide +kernel
theorem dX0_hasTimeFor_8 : decode cX0_hasTimeFor 8 = .ok (.bipush 58, 2) := by decide +kernel
theorem dX0_hasTimeFor_10 : decode cX0_hasTimeFor 10 = .ok (.iaload, 1) := by decide +kernel
theorem dX0_hasTimeFor_11 : decode cX0_hasTimeFor 11 = .ok (.isub, 1) := by decide +kernel
theorem dX0_hasTimeFor_12 : decode cX0_hasTimeFor 12 = .ok (.if_icmp .gt 7, 3) := by decide +kernel
theorem dX0_hasTimeFor_15 : decode cX0_hasTimeFor 15 = .ok (.iconst 1, 1) := by decide +kernel
theorem dX0_hasTimeFor_16 : decode cX0_hasTimeFor 16 = .ok (.goto 4, 3) := by decide +kernel
theorem dX0_hasTimeFor_19 : decode cX0_hasTimeFor 19 = .ok (.iconst 0, 1) := by decide +kernel
theorem dX0_hasTimeFor_20 : decode cX0_hasTimeFor 20 = .ok (.ireturn, 1) := by decide +kernel
set_option maxRecDepth 20000 in
theorem ggX0_secondsToEvent_X0_glasses : GoodIn wsX0_secondsToEvent wsX0_glasses := goodIn_r _ [5, 6, 23] (by decide +kernel) (by decide +kernel)
set_option maxRecDepth 20000 in
theorem gX0_secondsToEvent_X0_glasses : GoodIn wsX0_secondsToEvent (wsV RX0 29 RX0 yX0_glasses wsX0_glasses) := goodIn_app (goodIn_of _ (by decide +kernel)) ggX0_secondsToEvent_X0_glasses
set_option maxRecDepth 20000 in
theorem ggX0_secondsToEvent_X0_runs : GoodIn wsX0_secondsToEvent wsX0_runs := goodIn_r _ [10, 11, 12, 13, 4, 14, 6, 23] (by decide +kernel) (by decide +kernel)
set_option maxRecDepth 20000 in
theorem gX0_secondsToEvent_X0_runs : GoodIn wsX0_secondsToEvent (wsV RX0 56 RX0 yX0_runs wsX0_runs) := goodIn_app (goodIn_of _ (by decide +kernel)) ggX0_secondsToEvent_X0_runs
set_option maxRecDepth 20000 in
theorem ggX0_secondsToEvent_X0_secondsToEventOf : GoodIn wsX0_secondsToEvent wsX0_secondsToEventOf := goodIn_r _ [18, 19, 20, 21, 22, 11, 12, 13, 4, 14, 6, 23] (by decide +kernel) (by decide +kernel)
set_option maxRecDepth 20000 in
theorem gX0_secondsToEvent_X0_secondsToEventOf : GoodIn wsX0_secondsToEvent (wsV RX0 60 RX0 yX0_secondsToEventOf wsX0_secondsToEventOf) := goodIn_app (goodIn_of _ (by decide +kernel)) ggX0_secondsToEvent_X0_secondsToEventOf
theorem dX0_secondsToEvent_0 : decode cX0_secondsToEvent 0 = .ok (.iconst 0, 1) := by decide +kernel
theorem dX0_secondsToEvent_1 : decode cX0_secondsToEvent 1 = .ok (.istore_n 1, 1) := by decide +kernel
theorem dX0_secondsToEvent_2 : decode cX0_secondsToEvent 2 = .ok (.iconst 0, 1) := by decide +kernel
theorem dX0_secondsToEvent_3 : decode cX0_secondsToEvent 3 = .ok (.istore_n 2, 1) := by decide +kernel
theorem dX0_secondsToEvent_4 : decode cX0_secondsToEvent 4 = .ok (.iload_n 2, 1) := by decide +kernel
theorem dX0_secondsToEvent_5 : decode cX0_secondsToEvent 5 = .ok (.aload_n 0, 1) := by decide +kernel
theorem dX0_secondsToEvent_6 : decode cX0_secondsToEvent 6 = .ok (.invokevirtual 29, 3) := by decide +kernel
theorem dX0_secondsToEvent_9 : decode cX0_secondsToEvent 9 = .ok (.if_icmp .ge 36, 3) := by decide +kernel
theorem dX0_secondsToEvent_12 : decode cX0_secondsToEvent 12 = .ok (.aload_n 0, 1) := by decide +kernel
theorem dX0_secondsToEvent_13 : decode cX0_secondsToEvent 13 = .ok (.iload_n 2, 1) := by decide +kernel
theorem dX0_secondsToEvent_14 : decode cX0_secondsToEvent 14 = .ok (.invokevirtual 56, 3) := by decide +kernel
theorem dX0_secondsToEvent_17 : decode cX0_secondsToEvent 17 = .ok (.ifCond .eq 22, 3) := by decide +kernel
theorem dX0_secondsToEvent_20 : decode cX0_secondsToEvent 20 = .ok (.iload_n 1, 1) := by decide +kernel
theorem dX0_secondsToEvent_21 : decode cX0_secondsToEvent 21 = .ok (.ifCond .eq 12, 3) := by decide +kernel
theorem dX0_secondsToEvent_24 : decode cX0_secondsToEvent 24 = .ok (.aload_n 0, 1) := by decide +kernel
theorem dX0_secondsToEvent_25 : decode cX0_secondsToEvent 25 = .ok (.iload_n 2, 1) := by decide +kernel
theorem dX0_secondsToEvent_26 : decode cX0_secondsToEvent 26 = .ok (.invokevirtual 60, 3) := by decide +kernel
theorem dX0_secondsToEvent_29 : decode cX0_secondsToEvent 29 = .ok (.iload_n 1, 1) := by decide +kernel
theorem dX0_secondsToEvent_30 : decode cX0_secondsToEvent 30 = .ok (.if_icmp .ge 9, 3) := by decide +kernel
theorem dX0_secondsToEvent_33 : decode cX0_secondsToEvent 33 = .ok (.aload_n 0, 1) := by decide +kernel
theorem dX0_secondsToEvent_34 : decode cX0_secondsToEvent 34 = .ok (.iload_n 2, 1) := by decide +kernel
theorem dX0_secondsToEvent_35 : decode cX0_secondsToEvent 35 = .ok (.invokevirtual 60, 3) := by decide +kernel
theorem dX0_secondsToEvent_38 : decode cX0_secondsToEvent 38 = .ok (.istore_n 1, 1) := by decide +kernel
theorem dX0_secondsToEvent_39 : decode cX0_secondsToEvent 39 = .ok (.iinc 2 1, 3) := by decide +kernel
theorem dX0_secondsToEvent_42 : decode cX0_secondsToEvent 42 = .ok (.goto (-38), 3) := by decide +kernel
theorem dX0_secondsToEvent_45 : decode cX0_secondsToEvent 45 = .ok (.iload_n 1, 1) := by decide +kernel
theorem dX0_secondsToEvent_46 : decode cX0_secondsToEvent 46 = .ok (.ireturn, 1) := by decide +kernel
set_option maxRecDepth 20000 in
theorem ggX0_letPass_X0_secondsToEvent : GoodIn wsX0_letPass wsX0_secondsToEvent := goodIn_r _ [6, 7, 8, 9, 5, 10, 1, 11, 12, 13, 14, 15, 16, 17, 18, 19, 20, 21, 22, 23, 24, 25, 26, 46] (by decide +kernel) (by decide +kernel)
set_option maxRecDepth 20000 in
theorem gX0_letPass_X0_secondsToEvent : GoodIn wsX0_letPass (wsV RX0 63 RX0 yX0_secondsToEvent wsX0_secondsToEvent) := goodIn_app (goodIn_of _ (by decide +kernel)) ggX0_letPass_X0_secondsToEvent
set_option maxRecDepth 20000 in
theorem ggX0_letPass_X0_passSecond : GoodIn wsX0_letPass wsX0_passSecond := goodIn_r _ [30, 1, 7, 8, 9, 5, 10, 11, 12, 13, 14, 15, 16, 17, 18, 31, 32, 33, 34, 35, 36, 37, 38, 39, 40, 41, 42, 43, 44, 45, 46] (by decide +kernel) (by decide +kernel)
set_option maxRecDepth 20000 in
theorem gX0_letPass_X0_passSecond : GoodIn wsX0_letPass (wsV RX0 66 RX0 yX0_passSecond wsX0_passSecond) := goodIn_app (goodIn_of _ (by decide +kernel)) ggX0_letPass_X0_passSecond
theorem dX0_letPass_0 : decode cX0_letPass 0 = .ok (.aload_n 0, 1) := by decide +kernel
theorem dX0_letPass_1 : decode cX0_letPass 1 = .ok (.getfield 11, 3) := by decide +kernel
theorem dX0_letPass_4 : decode cX0_letPass 4 = .ok (.bipush 60, 2) := by decide +kernel
theorem dX0_letPass_6 : decode cX0_letPass 6 = .ok (.iaload, 1) := by decide +kernel
theorem dX0_letPass_7 : decode cX0_letPass 7 = .ok (.istore_n 2, 1) := by decide +kernel
theorem dX0_letPass_8 : decode cX0_letPass 8 = .ok (.iload_n 1, 1) := by decide +kernel
theorem dX0_letPass_9 : decode cX0_letPass 9 = .ok (.istore_n 3, 1) := by decide +kernel
theorem dX0_letPass_10 : decode cX0_letPass 10 = .ok (.iload_n 3, 1) := by decide +kernel
theorem dX0_letPass_11 : decode cX0_letPass 11 = .ok (.ifCond .le 20, 3) := by decide +kernel
theorem dX0_letPass_14 : decode cX0_letPass 14 = .ok (.aload_n 0, 1) := by decide +kernel
theorem dX0_letPass_15 : decode cX0_letPass 15 = .ok (.invokevirtual 63, 3) := by decide +kernel
theorem dX0_letPass_18 : decode cX0_letPass 18 = .ok (.ifCond .le 13, 3) := by decide +kernel
theorem dX0_letPass_21 : decode cX0_letPass 21 = .ok (.aload_n 0, 1) := by decide +kernel
theorem dX0_letPass_22 : decode cX0_letPass 22 = .ok (.invokevirtual 66, 3) := by decide +kernel
theorem dX0_letPass_25 : decode cX0_letPass 25 = .ok (.iinc 3 (-1), 3) := by decide +kernel
theorem dX0_letPass_28 : decode cX0_letPass 28 = .ok (.goto (-18), 3) := by decide +kernel
theorem dX0_letPass_31 : decode cX0_letPass 31 = .ok (.aload_n 0, 1) := by decide +kernel
theorem dX0_letPass_32 : decode cX0_letPass 32 = .ok (.getfield 11, 3) := by decide +kernel
theorem dX0_letPass_35 : decode cX0_letPass 35 = .ok (.bipush 58, 2) := by decide +kernel
theorem dX0_letPass_37 : decode cX0_letPass 37 = .ok (.dup2, 1) := by decide +kernel
theorem dX0_letPass_38 : decode cX0_letPass 38 = .ok (.iaload, 1) := by decide +kernel
theorem dX0_letPass_39 : decode cX0_letPass 39 = .ok (.iload_n 3, 1) := by decide +kernel
theorem dX0_letPass_40 : decode cX0_letPass 40 = .ok (.iadd, 1) := by decide +kernel
theorem dX0_letPass_41 : decode cX0_letPass 41 = .ok (.iastore, 1) := by decide +kernel
theorem dX0_letPass_42 : decode cX0_letPass 42 = .ok (.aload_n 0, 1) := by decide +kernel
theorem dX0_letPass_43 : decode cX0_letPass 43 = .ok (.getfield 11, 3) := by decide +kernel
theorem dX0_letPass_46 : decode cX0_letPass 46 = .ok (.bipush 60, 2) := by decide +kernel
theorem dX0_letPass_48 : decode cX0_letPass 48 = .ok (.iaload, 1) := by decide +kernel
theorem dX0_letPass_49 : decode cX0_letPass 49 = .ok (.iload_n 2, 1) := by decide +kernel
theorem dX0_letPass_50 : decode cX0_letPass 50 = .ok (.isub, 1) := by decide +kernel
theorem dX0_letPass_51 : decode cX0_letPass 51 = .ok (.ireturn, 1) := by decide +kernel
set_option maxRecDepth 20000 in
theorem ggX0_passSecond_X0_glasses : GoodIn wsX0_passSecond wsX0_glasses := goodIn_r _ [6, 1, 30] (by decide +kernel) (by decide +kernel)
set_option maxRecDepth 20000 in
theorem gX0_passSecond_X0_glasses : GoodIn wsX0_passSecond (wsV RX0 29 RX0 yX0_glasses wsX0_glasses) := goodIn_app (goodIn_of _ (by decide +kernel)) ggX0_passSecond_X0_glasses
set_option maxRecDepth 20000 in
theorem ggX0_passSecond_X0_runs : GoodIn wsX0_passSecond wsX0_runs := goodIn_r _ [10, 11, 12, 13, 5, 14, 1, 30] (by decide +kernel) (by decide +kernel)
set_option maxRecDepth 20000 in
theorem gX0_passSecond_X0_runs : GoodIn wsX0_passSecond (wsV RX0 56 RX0 yX0_runs wsX0_runs) := goodIn_app (goodIn_of _ (by decide +kernel)) ggX0_passSecond_X0_runs
set_option maxRecDepth 20000 in
theorem ggX0_passSecond_X0_sink : GoodIn wsX0_passSecond wsX0_sink := goodIn_r _ [18, 11, 12, 13, 5, 14, 1, 19, 20, 21, 22, 23, 24, 25, 26, 27, 28, 29, 30] (by decide +kernel) (by decide +kernel)
set_option maxRecDepth 20000 in
theorem gX0_passSecond_X0_sink : GoodIn wsX0_passSecond (wsV RX0 69 RX0 yX0_sink wsX0_sink) := goodIn_app (goodIn_of _ (by decide +kernel)) ggX0_passSecond_X0_sink
theorem dX0_passSecond_0 : decode cX0_passSecond 0 = .ok (.aload_n 0, 1) := by decide +kernel
theorem dX0_passSecond_1 : decode cX0_passSecond 1 = .ok (.getfield 11, 3) := by decide +kernel
theorem dX0_passSecond_4 : decode cX0_passSecond 4 = .ok (.bipush 58, 2) := by decide +kernel
theorem dX0_passSecond_6 : decode cX0_passSecond 6 = .ok (.dup2, 1) := by decide +kernel
theorem dX0_passSecond_7 : decode cX0_passSecond 7 = .ok (.iaload, 1) := by decide +kernel
theorem dX0_passSecond_8 : decode cX0_passSecond 8 = .ok (.iconst 1, 1) := by decide +kernel
theorem dX0_passSecond_9 : decode cX0_passSecond 9 = .ok (.iadd, 1) := by decide +kernel
theorem dX0_passSecond_10 : decode cX0_passSecond 10 = .ok (.iastore, 1) := by decide +kernel
theorem dX0_passSecond_11 : decode cX0_passSecond 11 = .ok (.iconst 0, 1) := by decide +kernel
theorem dX0_passSecond_12 : decode cX0_passSecond 12 = .ok (.istore_n 1, 1) := by decide +kernel
theorem dX0_passSecond_13 : decode cX0_passSecond 13 = .ok (.iload_n 1, 1) := by decide +kernel
theorem dX0_passSecond_14 : decode cX0_passSecond 14 = .ok (.aload_n 0, 1) := by decide +kernel
theorem dX0_passSecond_15 : decode cX0_passSecond 15 = .ok (.invokevirtual 29, 3) := by decide +kernel
theorem dX0_passSecond_18 : decode cX0_passSecond 18 = .ok (.if_icmp .ge 22, 3) := by decide +kernel
theorem dX0_passSecond_21 : decode cX0_passSecond 21 = .ok (.aload_n 0, 1) := by decide +kernel
theorem dX0_passSecond_22 : decode cX0_passSecond 22 = .ok (.iload_n 1, 1) := by decide +kernel
theorem dX0_passSecond_23 : decode cX0_passSecond 23 = .ok (.invokevirtual 56, 3) := by decide +kernel
theorem dX0_passSecond_26 : decode cX0_passSecond 26 = .ok (.ifCond .eq 8, 3) := by decide +kernel
theorem dX0_passSecond_29 : decode cX0_passSecond 29 = .ok (.aload_n 0, 1) := by decide +kernel
theorem dX0_passSecond_30 : decode cX0_passSecond 30 = .ok (.iload_n 1, 1) := by decide +kernel
theorem dX0_passSecond_31 : decode cX0_passSecond 31 = .ok (.invokevirtual 69, 3) := by decide +kernel
theorem dX0_passSecond_34 : decode cX0_passSecond 34 = .ok (.iinc 1 1, 3) := by decide +kernel
theorem dX0_passSecond_37 : decode cX0_passSecond 37 = .ok (.goto (-24), 3) := by decide +kernel
theorem dX0_passSecond_40 : decode cX0_passSecond 40 = .ok (.return_, 1) := by decide +kernel
set_option maxRecDepth 20000 in
theorem ggX0_sink_X0_property : GoodIn wsX0_sink wsX0_property := goodIn_r _ [5, 6, 18] (by decide +kernel) (by decide +kernel)
set_option maxRecDepth 20000 in
theorem gX0_sink_X0_property : GoodIn wsX0_sink (wsV RX0 43 RX0 yX0_property wsX0_property) := goodIn_app (goodIn_of _ (by decide +kernel)) ggX0_sink_X0_property
set_option maxRecDepth 20000 in
theorem ggX0_sink_X0_put : GoodIn wsX0_sink wsX0_put := goodIn_r _ [10, 6, 18] (by decide +kernel) (by decide +kernel)
set_option maxRecDepth 20000 in
theorem gX0_sink_X0_put : GoodIn wsX0_sink (wsV RX0 50 RX0 yX0_put wsX0_put) := goodIn_app (goodIn_of _ (by decide +kernel)) ggX0_sink_X0_put
set_option maxRecDepth 20000 in
theorem ggX0_sink_X0_write : GoodIn wsX0_sink wsX0_write := goodIn_r _ [14, 6, 15, 16, 4, 17, 18] (by decide +kernel) (by decide +kernel)
set_option maxRecDepth 20000 in
theorem gX0_sink_X0_write : GoodIn wsX0_sink (wsV RX0 72 RX0 yX0_write wsX0_write) := goodIn_app (goodIn_of _ (by decide +kernel)) ggX0_sink_X0_write
theorem dX0_sink_0 : decode cX0_sink 0 = .ok (.aload_n 0, 1) := by decide +kernel
theorem dX0_sink_1 : decode cX0_sink 1 = .ok (.iload_n 1, 1) := by decide +kernel
theorem dX0_sink_2 : decode cX0_sink 2 = .ok (.iconst 1, 1) := by decide +kernel
theorem dX0_sink_3 : decode cX0_sink 3 = .ok (.aload_n 0, 1) := by decide +kernel
theorem dX0_sink_4 : decode cX0_sink 4 = .ok (.iload_n 1, 1) := by decide +kernel
theorem dX0_sink_5 : decode cX0_sink 5 = .ok (.iconst 1, 1) := by decide +kernel
theorem dX0_sink_6 : decode cX0_sink 6 = .ok (.invokevirtual 43, 3) := by decide +kernel
theorem dX0_sink_9 : decode cX0_sink 9 = .ok (.iconst 1, 1) := by decide +kernel
theorem dX0_sink_10 : decode cX0_sink 10 = .ok (.isub, 1) := by decide +kernel
theorem dX0_sink_11 : decode cX0_sink 11 = .ok (.invokevirtual 50, 3) := by decide +kernel
theorem dX0_sink_14 : decode cX0_sink 14 = .ok (.aload_n 0, 1) := by decide +kernel
theorem dX0_sink_15 : decode cX0_sink 15 = .ok (.iload_n 1, 1) := by decide +kernel
theorem dX0_sink_16 : decode cX0_sink 16 = .ok (.iconst 2, 1) := by decide +kernel
theorem dX0_sink_17 : decode cX0_sink 17 = .ok (.invokevirtual 43, 3) := by decide +kernel
theorem dX0_sink_20 : decode cX0_sink 20 = .ok (.iconst 1, 1) := by decide +kernel
theorem dX0_sink_21 : decode cX0_sink 21 = .ok (.if_icmp .ne 7, 3) := by decide +kernel
theorem dX0_sink_24 : decode cX0_sink 24 = .ok (.iconst 1, 1) := by decide +kernel
theorem dX0_sink_25 : decode cX0_sink 25 = .ok (.goto 4, 3) := by decide +kernel
theorem dX0_sink_28 : decode cX0_sink 28 = .ok (.iconst 0, 1) := by decide +kernel
theorem dX0_sink_29 : decode cX0_sink 29 = .ok (.istore_n 2, 1) := by decide +kernel
theorem dX0_sink_30 : decode cX0_sink 30 = .ok (.iload_n 2, 1) := by decide +kernel
theorem dX0_sink_31 : decode cX0_sink 31 = .ok (.ifCond .eq 19, 3) := by decide +kernel
theorem dX0_sink_34 : decode cX0_sink 34 = .ok (.aload_n 0, 1) := by decide +kernel
theorem dX0_sink_35 : decode cX0_sink 35 = .ok (.iload_n 1, 1) := by decide +kernel
theorem dX0_sink_36 : decode cX0_sink 36 = .ok (.bipush 6, 2) := by decide +kernel
theorem dX0_sink_38 : decode cX0_sink 38 = .ok (.aload_n 0, 1) := by decide +kernel
theorem dX0_sink_39 : decode cX0_sink 39 = .ok (.iload_n 1, 1) := by decide +kernel
theorem dX0_sink_40 : decode cX0_sink 40 = .ok (.bipush 6, 2) := by decide +kernel
theorem dX0_sink_42 : decode cX0_sink 42 = .ok (.invokevirtual 43, 3) := by decide +kernel
theorem dX0_sink_45 : decode cX0_sink 45 = .ok (.iconst 1, 1) := by decide +kernel
theorem dX0_sink_46 : decode cX0_sink 46 = .ok (.iadd, 1) := by decide +kernel
theorem dX0_sink_47 : decode cX0_sink 47 = .ok (.invokevirtual 50, 3) := by decide +kernel
theorem dX0_sink_50 : decode cX0_sink 50 = .ok (.aload_n 0, 1) := by decide +kernel
theorem dX0_sink_51 : decode cX0_sink 51 = .ok (.iload_n 1, 1) := by decide +kernel
theorem dX0_sink_52 : decode cX0_sink 52 = .ok (.iconst 1, 1) := by decide +kernel
theorem dX0_sink_53 : decode cX0_sink 53 = .ok (.invokevirtual 43, 3) := by decide +kernel
theorem dX0_sink_56 : decode cX0_sink 56 = .ok (.ifCond .ne 12, 3) := by decide +kernel
theorem dX0_sink_59 : decode cX0_sink 59 = .ok (.aload_n 0, 1) := by decide +kernel
theorem dX0_sink_60 : decode cX0_sink 60 = .ok (.iload_n 1, 1) := by decide +kernel
theorem dX0_sink_61 : decode cX0_sink 61 = .ok (.iconst 0, 1) := by decide +kernel
theorem dX0_sink_62 : decode cX0_sink 62 = .ok (.invokevirtual 72, 3) := by decide +kernel
theorem dX0_sink_65 : decode cX0_sink 65 = .ok (.goto 36, 3) := by decide +kernel
theorem dX0_sink_68 : decode cX0_sink 68 = .ok (.iload_n 2, 1) := by decide +kernel
theorem dX0_sink_69 : decode cX0_sink 69 = .ok (.ifCond .eq 32, 3) := by decide +kernel
theorem dX0_sink_72 : decode cX0_sink 72 = .ok (.aload_n 0, 1) := by decide +kernel
theorem dX0_sink_73 : decode cX0_sink 73 = .ok (.iload_n 1, 1) := by decide +kernel
theorem dX0_sink_74 : decode cX0_sink 74 = .ok (.bipush 6, 2) := by decide +kernel
theorem dX0_sink_76 : decode cX0_sink 76 = .ok (.invokevirtual 43, 3) := by decide +kernel
theorem dX0_sink_79 : decode cX0_sink 79 = .ok (.aload_n 0, 1) := by decide +kernel
theorem dX0_sink_80 : decode cX0_sink 80 = .ok (.iload_n 1, 1) := by decide +kernel
theorem dX0_sink_81 : decode cX0_sink 81 = .ok (.iconst 3, 1) := by decide +kernel
theorem dX0_sink_82 : decode cX0_sink 82 = .ok (.invokevirtual 43, 3) := by decide +kernel
theorem dX0_sink_85 : decode cX0_sink 85 = .ok (.if_icmp .lt 16, 3) := by decide +kernel
theorem dX0_sink_88 : decode cX0_sink 88 = .ok (.aload_n 0, 1) := by decide +kernel
theorem dX0_sink_89 : decode cX0_sink 89 = .ok (.iload_n 1, 1) := by decide +kernel
theorem dX0_sink_90 : decode cX0_sink 90 = .ok (.iconst 4, 1) := by decide +kernel
theorem dX0_sink_91 : decode cX0_sink 91 = .ok (.iconst 1, 1) := by decide +kernel
theorem dX0_sink_92 : decode cX0_sink 92 = .ok (.invokevirtual 50, 3) := by decide +kernel
theorem dX0_sink_95 : decode cX0_sink 95 = .ok (.aload_n 0, 1) := by decide +kernel
theorem dX0_sink_96 : decode cX0_sink 96 = .ok (.iload_n 1, 1) := by decide +kernel
theorem dX0_sink_97 : decode cX0_sink 97 = .ok (.iconst 1, 1) := by decide +kernel
theorem dX0_sink_98 : decode cX0_sink 98 = .ok (.invokevirtual 72, 3) := by decide +kernel
theorem dX0_sink_101 : decode cX0_sink 101 = .ok (.return_, 1) := by decide +kernel
set_option maxRecDepth 20000 in
theorem ggX0_secondsToEventOf_X0_property : GoodIn wsX0_secondsToEventOf wsX0_property := goodIn_r _ [9, 10, 11] (by decide +kernel) (by decide +kernel)
set_option maxRecDepth 20000 in
theorem gX0_secondsToEventOf_X0_property : GoodIn wsX0_secondsToEventOf (wsV RX0 43 RX0 yX0_property wsX0_property) := goodIn_app (goodIn_of _ (by decide +kernel)) ggX0_secondsToEventOf_X0_property
theorem dX0_secondsToEventOf_0 : decode cX0_secondsToEventOf 0 = .ok (.aload_n 0, 1) := by decide +kernel
theorem dX0_secondsToEventOf_1 : decode cX0_secondsToEventOf 1 = .ok (.iload_n 1, 1) := by decide +kernel
theorem dX0_secondsToEventOf_2 : decode cX0_secondsToEventOf 2 = .ok (.iconst 1, 1) := by decide +kernel
theorem dX0_secondsToEventOf_3 : decode cX0_secondsToEventOf 3 = .ok (.invokevirtual 43, 3) := by decide +kernel
theorem dX0_secondsToEventOf_6 : decode cX0_secondsToEventOf 6 = .ok (.istore_n 2, 1) := by decide +kernel
theorem dX0_secondsToEventOf_7 : decode cX0_secondsToEventOf 7 = .ok (.aload_n 0, 1) := by decide +kernel
theorem dX0_secondsToEventOf_8 : decode cX0_secondsToEventOf 8 = .ok (.iload_n 1, 1) := by decide +kernel
theorem dX0_secondsToEventOf_9 : decode cX0_secondsToEventOf 9 = .ok (.iconst 2, 1) := by decide +kernel
theorem dX0_secondsToEventOf_10 : decode cX0_secondsToEventOf 10 = .ok (.invokevirtual 43, 3) := by decide +kernel
theorem dX0_secondsToEventOf_13 : decode cX0_secondsToEventOf 13 = .ok (.iconst 1, 1) := by decide +kernel
theorem dX0_secondsToEventOf_14 : decode cX0_secondsToEventOf 14 = .ok (.if_icmp .eq 5, 3) := by decide +kernel
theorem dX0_secondsToEventOf_17 : decode cX0_secondsToEventOf 17 = .ok (.iload_n 2, 1) := by decide +kernel
theorem dX0_secondsToEventOf_18 : decode cX0_secondsToEventOf 18 = .ok (.ireturn, 1) := by decide +kernel
theorem dX0_secondsToEventOf_19 : decode cX0_secondsToEventOf 19 = .ok (.iload_n 2, 1) := by decide +kernel
theorem dX0_secondsToEventOf_20 : decode cX0_secondsToEventOf 20 = .ok (.aload_n 0, 1) := by decide +kernel
theorem dX0_secondsToEventOf_21 : decode cX0_secondsToEventOf 21 = .ok (.iload_n 1, 1) := by decide +kernel
theorem dX0_secondsToEventOf_22 : decode cX0_secondsToEventOf 22 = .ok (.iconst 3, 1) := by decide +kernel
theorem dX0_secondsToEventOf_23 : decode cX0_secondsToEventOf 23 = .ok (.invokevirtual 43, 3) := by decide +kernel
theorem dX0_secondsToEventOf_26 : decode cX0_secondsToEventOf 26 = .ok (.aload_n 0, 1) := by decide +kernel
theorem dX0_secondsToEventOf_27 : decode cX0_secondsToEventOf 27 = .ok (.iload_n 1, 1) := by decide +kernel
theorem dX0_secondsToEventOf_28 : decode cX0_secondsToEventOf 28 = .ok (.bipush 6, 2) := by decide +kernel
theorem dX0_secondsToEventOf_30 : decode cX0_secondsToEventOf 30 = .ok (.invokevirtual 43, 3) := by decide +kernel
theorem dX0_secondsToEventOf_33 : decode cX0_secondsToEventOf 33 = .ok (.isub, 1) := by decide +kernel
theorem dX0_secondsToEventOf_34 : decode cX0_secondsToEventOf 34 = .ok (.invokestatic 33, 3) := by decide +kernel
theorem dX0_secondsToEventOf_37 : decode cX0_secondsToEventOf 37 = .ok (.ireturn, 1) := by decide +kernel
set_option maxRecDepth 20000 in
theorem ggX0_write_X0_eventCell : GoodIn wsX0_write wsX0_eventCell := goodIn_r _ [5] (by decide +kernel) (by decide +kernel)
set_option maxRecDepth 20000 in
theorem gX0_write_X0_eventCell : GoodIn wsX0_write (va_wsS RX0 39 yX0_eventCell wsX0_eventCell) := goodIn_app (goodIn_of _ (by decide +kernel)) ggX0_write_X0_eventCell
theorem dX0_write_0 : decode cX0_write 0 = .ok (.aload_n 0, 1) := by decide +kernel
theorem dX0_write_1 : decode cX0_write 1 = .ok (.getfield 11, 3) := by decide +kernel
theorem dX0_write_4 : decode cX0_write 4 = .ok (.bipush 60, 2) := by decide +kernel
theorem dX0_write_6 : decode cX0_write 6 = .ok (.iaload, 1) := by decide +kernel
theorem dX0_write_7 : decode cX0_write 7 = .ok (.invokestatic 39, 3) := by decide +kernel
theorem dX0_write_10 : decode cX0_write 10 = .ok (.istore_n 3, 1) := by decide +kernel
theorem dX0_write_11 : decode cX0_write 11 = .ok (.aload_n 0, 1) := by decide +kernel
theorem dX0_write_12 : decode cX0_write 12 = .ok (.getfield 11, 3) := by decide +kernel
theorem dX0_write_15 : decode cX0_write 15 = .ok (.iload_n 3, 1) := by decide +kernel
theorem dX0_write_16 : decode cX0_write 16 = .ok (.aload_n 0, 1) := by decide +kernel
theorem dX0_write_17 : decode cX0_write 17 = .ok (.getfield 11, 3) := by decide +kernel
theorem dX0_write_20 : decode cX0_write 20 = .ok (.bipush 58, 2) := by decide +kernel
theorem dX0_write_22 : decode cX0_write 22 = .ok (.iaload, 1) := by decide +kernel
theorem dX0_write_23 : decode cX0_write 23 = .ok (.iastore, 1) := by decide +kernel
theorem dX0_write_24 : decode cX0_write 24 = .ok (.aload_n 0, 1) := by decide +kernel
theorem dX0_write_25 : decode cX0_write 25 = .ok (.getfield 11, 3) := by decide +kernel
theorem dX0_write_28 : decode cX0_write 28 = .ok (.iload_n 3, 1) := by decide +kernel
theorem dX0_write_29 : decode cX0_write 29 = .ok (.iconst 1, 1) := by decide +kernel
theorem dX0_write_30 : decode cX0_write 30 = .ok (.iadd, 1) := by decide +kernel
theorem dX0_write_31 : decode cX0_write 31 = .ok (.iload_n 1, 1) := by decide +kernel
theorem dX0_write_32 : decode cX0_write 32 = .ok (.iastore, 1) := by decide +kernel
theorem dX0_write_33 : decode cX0_write 33 = .ok (.aload_n 0, 1) := by decide +kernel
theorem dX0_write_34 : decode cX0_write 34 = .ok (.getfield 11, 3) := by decide +kernel
theorem dX0_write_37 : decode cX0_write 37 = .ok (.iload_n 3, 1) := by decide +kernel
theorem dX0_write_38 : decode cX0_write 38 = .ok (.iconst 2, 1) := by decide +kernel
theorem dX0_write_39 : decode cX0_write 39 = .ok (.iadd, 1) := by decide +kernel
theorem dX0_write_40 : decode cX0_write 40 = .ok (.iload_n 2, 1) := by decide +kernel
theorem dX0_write_41 : decode cX0_write 41 = .ok (.iastore, 1) := by decide +kernel
theorem dX0_write_42 : decode cX0_write 42 = .ok (.aload_n 0, 1) := by decide +kernel
theorem dX0_write_43 : decode cX0_write 43 = .ok (.getfield 11, 3) := by decide +kernel
theorem dX0_write_46 : decode cX0_write 46 = .ok (.bipush 60, 2) := by decide +kernel
theorem dX0_write_48 : decode cX0_write 48 = .ok (.dup2, 1) := by decide +kernel
theorem dX0_write_49 : decode cX0_write 49 = .ok (.iaload, 1) := by decide +kernel
theorem dX0_write_50 : decode cX0_write 50 = .ok (.iconst 1, 1) := by decide +kernel
theorem dX0_write_51 : decode cX0_write 51 = .ok (.iadd, 1) := by decide +kernel
theorem dX0_write_52 : decode cX0_write 52 = .ok (.iastore, 1) := by decide +kernel
theorem dX0_write_53 : decode cX0_write 53 = .ok (.return_, 1) := by decide +kernel
set_option maxRecDepth 20000 in
theorem ggX0_free_X0_put : GoodIn wsX0_free wsX0_put := goodIn_r _ [5, 6, 7] (by decide +kernel) (by decide +kernel)
set_option maxRecDepth 20000 in
theorem gX0_free_X0_put : GoodIn wsX0_free (wsV RX0 50 RX0 yX0_put wsX0_put) := goodIn_app (goodIn_of _ (by decide +kernel)) ggX0_free_X0_put
theorem dX0_free_0 : decode cX0_free 0 = .ok (.aload_n 0, 1) := by decide +kernel
theorem dX0_free_1 : decode cX0_free 1 = .ok (.iload_n 1, 1) := by decide +kernel
theorem dX0_free_2 : decode cX0_free 2 = .ok (.iconst 4, 1) := by decide +kernel
theorem dX0_free_3 : decode cX0_free 3 = .ok (.iconst 0, 1) := by decide +kernel
theorem dX0_free_4 : decode cX0_free 4 = .ok (.invokevirtual 50, 3) := by decide +kernel
theorem dX0_free_7 : decode cX0_free 7 = .ok (.aload_n 0, 1) := by decide +kernel
theorem dX0_free_8 : decode cX0_free 8 = .ok (.iload_n 1, 1) := by decide +kernel
theorem dX0_free_9 : decode cX0_free 9 = .ok (.bipush 6, 2) := by decide +kernel
theorem dX0_free_11 : decode cX0_free 11 = .ok (.iconst 0, 1) := by decide +kernel
theorem dX0_free_12 : decode cX0_free 12 = .ok (.invokevirtual 50, 3) := by decide +kernel
theorem dX0_free_15 : decode cX0_free 15 = .ok (.return_, 1) := by decide +kernel
theorem dX0_put_0 : decode cX0_put 0 = .ok (.aload_n 0, 1) := by decide +kernel
theorem dX0_put_1 : decode cX0_put 1 = .ok (.getfield 11, 3) := by decide +kernel
theorem dX0_put_4 : decode cX0_put 4 = .ok (.iload_n 2, 1) := by decide +kernel
theorem dX0_put_5 : decode cX0_put 5 = .ok (.iconst 3, 1) := by decide +kernel
theorem dX0_put_6 : decode cX0_put 6 = .ok (.imul, 1) := by decide +kernel
theorem dX0_put_7 : decode cX0_put 7 = .ok (.iload_n 1, 1) := by decide +kernel
theorem dX0_put_8 : decode cX0_put 8 = .ok (.iadd, 1) := by decide +kernel
theorem dX0_put_9 : decode cX0_put 9 = .ok (.iload_n 3, 1) := by decide +kernel
theorem dX0_put_10 : decode cX0_put 10 = .ok (.iastore, 1) := by decide +kernel
theorem dX0_put_11 : decode cX0_put 11 = .ok (.return_, 1) := by decide +kernel
theorem dX0_eventCell_0 : decode cX0_eventCell 0 = .ok (.bipush 21, 2) := by decide +kernel
theorem dX0_eventCell_2 : decode cX0_eventCell 2 = .ok (.iload_n 0, 1) := by decide +kernel
theorem dX0_eventCell_3 : decode cX0_eventCell 3 = .ok (.bipush 12, 2) := by decide +kernel
theorem dX0_eventCell_5 : decode cX0_eventCell 5 = .ok (.irem, 1) := by decide +kernel
theorem dX0_eventCell_6 : decode cX0_eventCell 6 = .ok (.iconst 3, 1) := by decide +kernel
theorem dX0_eventCell_7 : decode cX0_eventCell 7 = .ok (.imul, 1) := by decide +kernel
theorem dX0_eventCell_8 : decode cX0_eventCell 8 = .ok (.iadd, 1) := by decide +kernel
theorem dX0_eventCell_9 : decode cX0_eventCell 9 = .ok (.ireturn, 1) := by decide +kernel
theorem dX1_init_0 : decode cX1_init 0 = .ok (.aload_n 0, 1) := by decide +kernel
theorem dX1_init_1 : decode cX1_init 1 = .ok (.invokespecial 1, 3) := by decide +kernel
theorem dX1_init_4 : decode cX1_init 4 = .ok (.aload_n 0, 1) := by decide +kernel
theorem dX1_init_5 : decode cX1_init 5 = .ok (.sipush 504, 3) := by decide +kernel
theorem dX1_init_8 : decode cX1_init 8 = .ok (.newarray .int, 2) := by decide +kernel
theorem dX1_init_10 : decode cX1_init 10 = .ok (.putfield 11, 3) := by decide +kernel
theorem dX1_init_13 : decode cX1_init 13 = .ok (.return_, 1) := by decide +kernel
theorem dX1_states_0 : decode cX1_states 0 = .ok (.aload_n 0, 1) := by decide +kernel
theorem dX1_states_1 : decode cX1_states 1 = .ok (.getfield 15, 3) := by decide +kernel
theorem dX1_states_4 : decode cX1_states 4 = .ok (.ireturn, 1) := by decide +kernel
set_option maxRecDepth 20000 in
theorem ggX1_keep_X0_copyTo : GoodIn wsX1_keep wsX0_copyTo := goodIn_r _ [12, 13, 14, 15, 16, 17, 21] (by decide +kernel) (by decide +kernel)
set_option maxRecDepth 20000 in
theorem gX1_keep_X0_copyTo : GoodIn wsX1_keep (wsV RX1 22 RX0 yX0_copyTo wsX0_copyTo) := goodIn_app (goodIn_of _ (by decide +kernel)) ggX1_keep_X0_copyTo
theorem dX1_keep_0 : decode cX1_keep 0 = .ok (.aload_n 1, 1) := by decide +kernel
theorem dX1_keep_1 : decode cX1_keep 1 = .ok (.aload_n 0, 1) := by decide +kernel
theorem dX1_keep_2 : decode cX1_keep 2 = .ok (.getfield 11, 3) := by decide +kernel
theorem dX1_keep_5 : decode cX1_keep 5 = .ok (.aload_n 0, 1) := by decide +kernel
theorem dX1_keep_6 : decode cX1_keep 6 = .ok (.getfield 19, 3) := by decide +kernel
theorem dX1_keep_9 : decode cX1_keep 9 = .ok (.bipush 63, 2) := by decide +kernel
theorem dX1_keep_11 : decode cX1_keep 11 = .ok (.imul, 1) := by decide +kernel
theorem dX1_keep_12 : decode cX1_keep 12 = .ok (.invokevirtual 22, 3) := by decide +kernel
theorem dX1_keep_15 : decode cX1_keep 15 = .ok (.aload_n 0, 1) := by decide +kernel
theorem dX1_keep_16 : decode cX1_keep 16 = .ok (.aload_n 0, 1) := by decide +kernel
theorem dX1_keep_17 : decode cX1_keep 17 = .ok (.getfield 19, 3) := by decide +kernel
theorem dX1_keep_20 : decode cX1_keep 20 = .ok (.iconst 1, 1) := by decide +kernel
theorem dX1_keep_21 : decode cX1_keep 21 = .ok (.iadd, 1) := by decide +kernel
theorem dX1_keep_22 : decode cX1_keep 22 = .ok (.bipush 8, 2) := by decide +kernel
theorem dX1_keep_24 : decode cX1_keep 24 = .ok (.irem, 1) := by decide +kernel
theorem dX1_keep_25 : decode cX1_keep 25 = .ok (.putfield 19, 3) := by decide +kernel
theorem dX1_keep_28 : decode cX1_keep 28 = .ok (.aload_n 0, 1) := by decide +kernel
theorem dX1_keep_29 : decode cX1_keep 29 = .ok (.aload_n 0, 1) := by decide +kernel
theorem dX1_keep_30 : decode cX1_keep 30 = .ok (.getfield 15, 3) := by decide +kernel
theorem dX1_keep_33 : decode cX1_keep 33 = .ok (.iconst 1, 1) := by decide +kernel
theorem dX1_keep_34 : decode cX1_keep 34 = .ok (.iadd, 1) := by decide +kernel
theorem dX1_keep_35 : decode cX1_keep 35 = .ok (.bipush 8, 2) := by decide +kernel
theorem dX1_keep_37 : decode cX1_keep 37 = .ok (.invokestatic 26, 3) := by decide +kernel
theorem dX1_keep_40 : decode cX1_keep 40 = .ok (.putfield 15, 3) := by decide +kernel
theorem dX1_keep_43 : decode cX1_keep 43 = .ok (.return_, 1) := by decide +kernel
set_option maxRecDepth 20000 in
theorem ggX1_restore_X0_copyFrom : GoodIn wsX1_restore wsX0_copyFrom := goodIn_r _ [8, 9, 10, 11, 12, 13, 17] (by decide +kernel) (by decide +kernel)
set_option maxRecDepth 20000 in
theorem gX1_restore_X0_copyFrom : GoodIn wsX1_restore (wsV RX1 32 RX0 yX0_copyFrom wsX0_copyFrom) := goodIn_app (goodIn_of _ (by decide +kernel)) ggX1_restore_X0_copyFrom
theorem dX1_restore_0 : decode cX1_restore 0 = .ok (.aload_n 0, 1) := by decide +kernel
theorem dX1_restore_1 : decode cX1_restore 1 = .ok (.getfield 15, 3) := by decide +kernel
theorem dX1_restore_4 : decode cX1_restore 4 = .ok (.ifCond .ne 5, 3) := by decide +kernel
theorem dX1_restore_7 : decode cX1_restore 7 = .ok (.iconst 0, 1) := by decide +kernel
theorem dX1_restore_8 : decode cX1_restore 8 = .ok (.ireturn, 1) := by decide +kernel
theorem dX1_restore_9 : decode cX1_restore 9 = .ok (.aload_n 0, 1) := by decide +kernel
theorem dX1_restore_10 : decode cX1_restore 10 = .ok (.dup, 1) := by decide +kernel
theorem dX1_restore_11 : decode cX1_restore 11 = .ok (.getfield 15, 3) := by decide +kernel
theorem dX1_restore_14 : decode cX1_restore 14 = .ok (.iconst 1, 1) := by decide +kernel
theorem dX1_restore_15 : decode cX1_restore 15 = .ok (.isub, 1) := by decide +kernel
theorem dX1_restore_16 : decode cX1_restore 16 = .ok (.putfield 15, 3) := by decide +kernel
theorem dX1_restore_19 : decode cX1_restore 19 = .ok (.aload_n 0, 1) := by decide +kernel
theorem dX1_restore_20 : decode cX1_restore 20 = .ok (.aload_n 0, 1) := by decide +kernel
theorem dX1_restore_21 : decode cX1_restore 21 = .ok (.getfield 19, 3) := by decide +kernel
theorem dX1_restore_24 : decode cX1_restore 24 = .ok (.bipush 8, 2) := by decide +kernel
theorem dX1_restore_26 : decode cX1_restore 26 = .ok (.iadd, 1) := by decide +kernel
theorem dX1_restore_27 : decode cX1_restore 27 = .ok (.iconst 1, 1) := by decide +kernel
theorem dX1_restore_28 : decode cX1_restore 28 = .ok (.isub, 1) := by decide +kernel
theorem dX1_restore_29 : decode cX1_restore 29 = .ok (.bipush 8, 2) := by decide +kernel
theorem dX1_restore_31 : decode cX1_restore 31 = .ok (.irem, 1) := by decide +kernel
theorem dX1_restore_32 : decode cX1_restore 32 = .ok (.putfield 19, 3) := by decide +kernel
theorem dX1_restore_35 : decode cX1_restore 35 = .ok (.aload_n 1, 1) := by decide +kernel
theorem dX1_restore_36 : decode cX1_restore 36 = .ok (.aload_n 0, 1) := by decide +kernel
theorem dX1_restore_37 : decode cX1_restore 37 = .ok (.getfield 11, 3) := by decide +kernel
theorem dX1_restore_40 : decode cX1_restore 40 = .ok (.aload_n 0, 1) := by decide +kernel
theorem dX1_restore_41 : decode cX1_restore 41 = .ok (.getfield 19, 3) := by decide +kernel
theorem dX1_restore_44 : decode cX1_restore 44 = .ok (.bipush 63, 2) := by decide +kernel
theorem dX1_restore_46 : decode cX1_restore 46 = .ok (.imul, 1) := by decide +kernel
theorem dX1_restore_47 : decode cX1_restore 47 = .ok (.invokevirtual 32, 3) := by decide +kernel
theorem dX1_restore_50 : decode cX1_restore 50 = .ok (.iconst 1, 1) := by decide +kernel
theorem dX1_restore_51 : decode cX1_restore 51 = .ok (.ireturn, 1) := by decide +kernel
theorem dX2_init_0 : decode cX2_init 0 = .ok (.aload_n 0, 1) := by decide +kernel
theorem dX2_init_1 : decode cX2_init 1 = .ok (.invokespecial 7, 3) := by decide +kernel
theorem dX2_init_4 : decode cX2_init 4 = .ok (.aload_n 0, 1) := by decide +kernel
theorem dX2_init_5 : decode cX2_init 5 = .ok (.iconst (-1), 1) := by decide +kernel
theorem dX2_init_6 : decode cX2_init 6 = .ok (.putfield 13, 3) := by decide +kernel
theorem dX2_init_9 : decode cX2_init 9 = .ok (.aload_n 0, 1) := by decide +kernel
theorem dX2_init_10 : decode cX2_init 10 = .ok (.bipush 8, 2) := by decide +kernel
theorem dX2_init_12 : decode cX2_init 12 = .ok (.newarray .int, 2) := by decide +kernel
theorem dX2_init_14 : decode cX2_init 14 = .ok (.putfield 17, 3) := by decide +kernel
theorem dX2_init_17 : decode cX2_init 17 = .ok (.aload_n 0, 1) := by decide +kernel
theorem dX2_init_18 : decode cX2_init 18 = .ok (.sipush 469, 3) := by decide +kernel
theorem dX2_init_21 : decode cX2_init 21 = .ok (.newarray .int, 2) := by decide +kernel
theorem dX2_init_23 : decode cX2_init 23 = .ok (.putfield 21, 3) := by decide +kernel
theorem dX2_init_26 : decode cX2_init 26 = .ok (.aload_n 0, 1) := by decide +kernel
theorem dX2_init_27 : decode cX2_init 27 = .ok (.sipush 4096, 3) := by decide +kernel
theorem dX2_init_30 : decode cX2_init 30 = .ok (.newarray .int, 2) := by decide +kernel
theorem dX2_init_32 : decode cX2_init 32 = .ok (.putfield 24, 3) := by decide +kernel
theorem dX2_init_35 : decode cX2_init 35 = .ok (.aload_n 0, 1) := by decide +kernel
theorem dX2_init_36 : decode cX2_init 36 = .ok (.sipush 3760, 3) := by decide +kernel
theorem dX2_init_39 : decode cX2_init 39 = .ok (.newarray .int, 2) := by decide +kernel
theorem dX2_init_41 : decode cX2_init 41 = .ok (.putfield 27, 3) := by decide +kernel
theorem dX2_init_44 : decode cX2_init 44 = .ok (.aload_n 0, 1) := by decide +kernel
theorem dX2_init_45 : decode cX2_init 45 = .ok (.sipush 11725, 3) := by decide +kernel
theorem dX2_init_48 : decode cX2_init 48 = .ok (.newarray .long, 2) := by decide +kernel
theorem dX2_init_50 : decode cX2_init 50 = .ok (.putfield 30, 3) := by decide +kernel
theorem dX2_init_53 : decode cX2_init 53 = .ok (.return_, 1) := by decide +kernel
set_option maxRecDepth 20000 in
theorem ggX2_lookAt_X2_shapeOf : GoodIn wsX2_lookAt wsX2_shapeOf := goodIn_r _ [10, 11, 12, 13, 14, 15, 16, 17, 18, 19, 20, 76] (by decide +kernel) (by decide +kernel)
set_option maxRecDepth 20000 in
theorem gX2_lookAt_X2_shapeOf : GoodIn wsX2_lookAt (va_wsS RX2 34 yX2_shapeOf wsX2_shapeOf) := goodIn_app (goodIn_of _ (by decide +kernel)) ggX2_lookAt_X2_shapeOf
set_option maxRecDepth 20000 in
theorem ggX2_lookAt_X2_findTurned : GoodIn wsX2_lookAt wsX2_findTurned := goodIn_r _ [24, 25, 26, 2, 27, 28, 29, 30, 11, 12, 13, 14, 15, 16, 31, 32, 9, 33, 17, 18, 19, 20, 65, 66, 67, 68, 69, 70, 71, 72, 73, 74, 75, 76] (by decide +kernel) (by decide +kernel)
set_option maxRecDepth 20000 in
theorem gX2_lookAt_X2_findTurned : GoodIn wsX2_lookAt (wsV RX2 41 RX2 yX2_findTurned wsX2_findTurned) := goodIn_app (goodIn_of _ (by decide +kernel)) ggX2_lookAt_X2_findTurned
set_option maxRecDepth 20000 in
theorem ggX2_lookAt_X2_numberMoments : GoodIn wsX2_lookAt wsX2_numberMoments := goodIn_r _ [37, 3, 2, 4, 38, 39, 40, 41, 9, 42, 31, 32, 33, 65, 66, 67, 68, 69, 70, 71, 72, 73, 74, 75] (by decide +kernel) (by decide +kernel)
set_option maxRecDepth 20000 in
theorem gX2_lookAt_X2_numberMoments : GoodIn wsX2_lookAt (wsV RX2 45 RX2 yX2_numberMoments wsX2_numberMoments) := goodIn_app (goodIn_of _ (by decide +kernel)) ggX2_lookAt_X2_numberMoments
set_option maxRecDepth 20000 in
theorem ggX2_lookAt_X2_findWays : GoodIn wsX2_lookAt wsX2_findWays := goodIn_r _ [46, 47, 26, 48, 49, 50, 9, 51, 25, 2, 38, 52, 53, 54, 31, 32, 33, 55, 56, 57, 58, 59, 60, 61, 65, 66, 67, 68, 69, 70, 71, 72, 73, 74, 75] (by decide +kernel) (by decide +kernel)
set_option maxRecDepth 20000 in
theorem gX2_lookAt_X2_findWays : GoodIn wsX2_lookAt (wsV RX2 51 RX2 yX2_findWays wsX2_findWays) := goodIn_app (goodIn_of _ (by decide +kernel)) ggX2_lookAt_X2_findWays
set_option maxRecDepth 20000 in
theorem ggX2_lookAt_X2_sandAbove : GoodIn wsX2_lookAt wsX2_sandAbove := goodIn_r _ [64, 11, 12, 13, 14, 15, 16, 17, 18, 19, 20, 76] (by decide +kernel) (by decide +kernel)
set_option maxRecDepth 20000 in
theorem gX2_lookAt_X2_sandAbove : GoodIn wsX2_lookAt (va_wsS RX2 61 yX2_sandAbove wsX2_sandAbove) := goodIn_app (goodIn_of _ (by decide +kernel)) ggX2_lookAt_X2_sandAbove
theorem dX2_lookAt_0 : decode cX2_lookAt 0 = .ok (.aload_n 1, 1) := by decide +kernel
theorem dX2_lookAt_1 : decode cX2_lookAt 1 = .ok (.invokestatic 34, 3) := by decide +kernel
theorem dX2_lookAt_4 : decode cX2_lookAt 4 = .ok (.istore_n 2, 1) := by decide +kernel
theorem dX2_lookAt_5 : decode cX2_lookAt 5 = .ok (.iload_n 2, 1) := by decide +kernel
theorem dX2_lookAt_6 : decode cX2_lookAt 6 = .ok (.aload_n 0, 1) := by decide +kernel
theorem dX2_lookAt_7 : decode cX2_lookAt 7 = .ok (.getfield 13, 3) := by decide +kernel
theorem dX2_lookAt_10 : decode cX2_lookAt 10 = .ok (.if_icmp .eq 63, 3) := by decide +kernel
theorem dX2_lookAt_13 : decode cX2_lookAt 13 = .ok (.aload_n 0, 1) := by decide +kernel
theorem dX2_lookAt_14 : decode cX2_lookAt 14 = .ok (.iload_n 2, 1) := by decide +kernel
theorem dX2_lookAt_15 : decode cX2_lookAt 15 = .ok (.putfield 13, 3) := by decide +kernel
theorem dX2_lookAt_18 : decode cX2_lookAt 18 = .ok (.aload_n 0, 1) := by decide +kernel
theorem dX2_lookAt_19 : decode cX2_lookAt 19 = .ok (.iload_n 2, 1) := by decide +kernel
theorem dX2_lookAt_20 : decode cX2_lookAt 20 = .ok (.sipush 4095, 3) := by decide +kernel
theorem dX2_lookAt_23 : decode cX2_lookAt 23 = .ok (.iand, 1) := by decide +kernel
theorem dX2_lookAt_24 : decode cX2_lookAt 24 = .ok (.putfield 38, 3) := by decide +kernel
theorem dX2_lookAt_27 : decode cX2_lookAt 27 = .ok (.aload_n 0, 1) := by decide +kernel
theorem dX2_lookAt_28 : decode cX2_lookAt 28 = .ok (.aload_n 1, 1) := by decide +kernel
theorem dX2_lookAt_29 : decode cX2_lookAt 29 = .ok (.invokevirtual 41, 3) := by decide +kernel
theorem dX2_lookAt_32 : decode cX2_lookAt 32 = .ok (.aload_n 0, 1) := by decide +kernel
theorem dX2_lookAt_33 : decode cX2_lookAt 33 = .ok (.invokevirtual 45, 3) := by decide +kernel
theorem dX2_lookAt_36 : decode cX2_lookAt 36 = .ok (.iconst 0, 1) := by decide +kernel
theorem dX2_lookAt_37 : decode cX2_lookAt 37 = .ok (.istore_n 3, 1) := by decide +kernel
theorem dX2_lookAt_38 : decode cX2_lookAt 38 = .ok (.iload_n 3, 1) := by decide +kernel
theorem dX2_lookAt_39 : decode cX2_lookAt 39 = .ok (.aload_n 0, 1) := by decide +kernel
theorem dX2_lookAt_40 : decode cX2_lookAt 40 = .ok (.getfield 48, 3) := by decide +kernel
theorem dX2_lookAt_43 : decode cX2_lookAt 43 = .ok (.if_icmp .ge 20, 3) := by decide +kernel
theorem dX2_lookAt_46 : decode cX2_lookAt 46 = .ok (.aload_n 0, 1) := by decide +kernel
theorem dX2_lookAt_47 : decode cX2_lookAt 47 = .ok (.iload_n 3, 1) := by decide +kernel
theorem dX2_lookAt_48 : decode cX2_lookAt 48 = .ok (.aload_n 0, 1) := by decide +kernel
theorem dX2_lookAt_49 : decode cX2_lookAt 49 = .ok (.getfield 21, 3) := by decide +kernel
theorem dX2_lookAt_52 : decode cX2_lookAt 52 = .ok (.iload_n 3, 1) := by decide +kernel
theorem dX2_lookAt_53 : decode cX2_lookAt 53 = .ok (.iaload, 1) := by decide +kernel
theorem dX2_lookAt_54 : decode cX2_lookAt 54 = .ok (.invokevirtual 51, 3) := by decide +kernel
theorem dX2_lookAt_57 : decode cX2_lookAt 57 = .ok (.iinc 3 1, 3) := by decide +kernel
theorem dX2_lookAt_60 : decode cX2_lookAt 60 = .ok (.goto (-22), 3) := by decide +kernel
theorem dX2_lookAt_63 : decode cX2_lookAt 63 = .ok (.aload_n 0, 1) := by decide +kernel
theorem dX2_lookAt_64 : decode cX2_lookAt 64 = .ok (.iconst 0, 1) := by decide +kernel
theorem dX2_lookAt_65 : decode cX2_lookAt 65 = .ok (.putfield 55, 3) := by decide +kernel
theorem dX2_lookAt_68 : decode cX2_lookAt 68 = .ok (.aload_n 0, 1) := by decide +kernel
theorem dX2_lookAt_69 : decode cX2_lookAt 69 = .ok (.iconst 0, 1) := by decide +kernel
theorem dX2_lookAt_70 : decode cX2_lookAt 70 = .ok (.putfield 58, 3) := by decide +kernel
theorem dX2_lookAt_73 : decode cX2_lookAt 73 = .ok (.aload_n 0, 1) := by decide +kernel
theorem dX2_lookAt_74 : decode cX2_lookAt 74 = .ok (.sipush 469, 3) := by decide +kernel
theorem dX2_lookAt_77 : decode cX2_lookAt 77 = .ok (.aload_n 1, 1) := by decide +kernel
theorem dX2_lookAt_78 : decode cX2_lookAt 78 = .ok (.invokestatic 61, 3) := by decide +kernel
theorem dX2_lookAt_81 : decode cX2_lookAt 81 = .ok (.invokevirtual 51, 3) := by decide +kernel
theorem dX2_lookAt_84 : decode cX2_lookAt 84 = .ok (.return_, 1) := by decide +kernel
set_option maxRecDepth 20000 in
theorem ggX2_leastCost_X2_findUpTo : GoodIn wsX2_leastCost wsX2_findUpTo := goodIn_r _ [5, 6, 7, 8, 9, 10, 4, 11, 12, 13, 14, 15, 16, 17, 18, 19, 20, 21, 22, 23, 24, 25, 26, 27, 28, 32, 33, 34, 35, 36, 37, 38, 39, 40, 41, 42] (by decide +kernel) (by decide +kernel)
set_option maxRecDepth 20000 in
theorem gX2_leastCost_X2_findUpTo : GoodIn wsX2_leastCost (wsV RX2 64 RX2 yX2_findUpTo wsX2_findUpTo) := goodIn_app (goodIn_of _ (by decide +kernel)) ggX2_leastCost_X2_findUpTo
set_option maxRecDepth 20000 in
theorem ggX2_leastCost_X2_spansFrom : GoodIn wsX2_leastCost wsX2_spansFrom := goodIn_r _ [21, 22, 23, 24, 25, 26, 27, 4, 28, 13, 12, 32, 33, 34, 35, 36, 37, 38, 39, 40, 41, 42] (by decide +kernel) (by decide +kernel)
set_option maxRecDepth 20000 in
theorem gX2_leastCost_X2_spansFrom : GoodIn wsX2_leastCost (wsV RX2 68 RX2 yX2_spansFrom wsX2_spansFrom) := goodIn_app (goodIn_of _ (by decide +kernel)) ggX2_leastCost_X2_spansFrom
set_option maxRecDepth 20000 in
theorem ggX2_leastCost_X2_isIn : GoodIn wsX2_leastCost wsX2_isIn := goodIn_r _ [31] (by decide +kernel) (by decide +kernel)
set_option maxRecDepth 20000 in
theorem gX2_leastCost_X2_isIn : GoodIn wsX2_leastCost (va_wsS RX2 72 yX2_isIn wsX2_isIn) := goodIn_app (goodIn_of _ (by decide +kernel)) ggX2_leastCost_X2_isIn
theorem dX2_leastCost_0 : decode cX2_leastCost 0 = .ok (.iconst 0, 1) := by decide +kernel
theorem dX2_leastCost_1 : decode cX2_leastCost 1 = .ok (.istore_n 2, 1) := by decide +kernel
theorem dX2_leastCost_2 : decode cX2_leastCost 2 = .ok (.iload_n 2, 1) := by decide +kernel
theorem dX2_leastCost_3 : decode cX2_leastCost 3 = .ok (.bipush 120, 2) := by decide +kernel
theorem dX2_leastCost_5 : decode cX2_leastCost 5 = .ok (.if_icmp .gt 34, 3) := by decide +kernel
theorem dX2_leastCost_8 : decode cX2_leastCost 8 = .ok (.aload_n 0, 1) := by decide +kernel
theorem dX2_leastCost_9 : decode cX2_leastCost 9 = .ok (.iload_n 2, 1) := by decide +kernel
theorem dX2_leastCost_10 : decode cX2_leastCost 10 = .ok (.invokevirtual 64, 3) := by decide +kernel
theorem dX2_leastCost_13 : decode cX2_leastCost 13 = .ok (.ifCond .eq 26, 3) := by decide +kernel
theorem dX2_leastCost_16 : decode cX2_leastCost 16 = .ok (.aload_n 0, 1) := by decide +kernel
theorem dX2_leastCost_17 : decode cX2_leastCost 17 = .ok (.sipush 469, 3) := by decide +kernel
theorem dX2_leastCost_20 : decode cX2_leastCost 20 = .ok (.iload_n 2, 1) := by decide +kernel
theorem dX2_leastCost_21 : decode cX2_leastCost 21 = .ok (.invokevirtual 68, 3) := by decide +kernel
theorem dX2_leastCost_24 : decode cX2_leastCost 24 = .ok (.iload_n 1, 1) := by decide +kernel
theorem dX2_leastCost_25 : decode cX2_leastCost 25 = .ok (.invokestatic 72, 3) := by decide +kernel
theorem dX2_leastCost_28 : decode cX2_leastCost 28 = .ok (.ifCond .eq 5, 3) := by decide +kernel
theorem dX2_leastCost_31 : decode cX2_leastCost 31 = .ok (.iload_n 2, 1) := by decide +kernel
theorem dX2_leastCost_32 : decode cX2_leastCost 32 = .ok (.ireturn, 1) := by decide +kernel
theorem dX2_leastCost_33 : decode cX2_leastCost 33 = .ok (.iinc 2 1, 3) := by decide +kernel
theorem dX2_leastCost_36 : decode cX2_leastCost 36 = .ok (.goto (-34), 3) := by decide +kernel
theorem dX2_leastCost_39 : decode cX2_leastCost 39 = .ok (.iconst (-1), 1) := by decide +kernel
theorem dX2_leastCost_40 : decode cX2_leastCost 40 = .ok (.ireturn, 1) := by decide +kernel
set_option maxRecDepth 20000 in
theorem ggX2_spansWithin_X2_findUpTo : GoodIn wsX2_spansWithin wsX2_findUpTo := goodIn_r _ [6, 1, 7, 8, 9, 10, 5, 11, 12, 13, 14, 15, 16, 17, 18, 19, 20, 21, 22, 23, 24, 25, 26, 27, 28, 29, 30, 31, 32, 33, 34, 35, 36, 37, 38, 39] (by decide +kernel) (by decide +kernel)
set_option maxRecDepth 20000 in
theorem gX2_spansWithin_X2_findUpTo : GoodIn wsX2_spansWithin (wsV RX2 64 RX2 yX2_findUpTo wsX2_findUpTo) := goodIn_app (goodIn_of _ (by decide +kernel)) ggX2_spansWithin_X2_findUpTo
set_option maxRecDepth 20000 in
theorem ggX2_spansWithin_X2_spansFrom : GoodIn wsX2_spansWithin wsX2_spansFrom := goodIn_r _ [21, 22, 23, 24, 25, 26, 27, 5, 28, 13, 12, 29, 30, 31, 32, 33, 34, 35, 36, 37, 38, 39] (by decide +kernel) (by decide +kernel)
set_option maxRecDepth 20000 in
theorem gX2_spansWithin_X2_spansFrom : GoodIn wsX2_spansWithin (wsV RX2 68 RX2 yX2_spansFrom wsX2_spansFrom) := goodIn_app (goodIn_of _ (by decide +kernel)) ggX2_spansWithin_X2_spansFrom
theorem dX2_spansWithin_0 : decode cX2_spansWithin 0 = .ok (.aload_n 0, 1) := by decide +kernel
theorem dX2_spansWithin_1 : decode cX2_spansWithin 1 = .ok (.sipush 469, 3) := by decide +kernel
theorem dX2_spansWithin_4 : decode cX2_spansWithin 4 = .ok (.aload_n 0, 1) := by decide +kernel
theorem dX2_spansWithin_5 : decode cX2_spansWithin 5 = .ok (.iload_n 1, 1) := by decide +kernel
theorem dX2_spansWithin_6 : decode cX2_spansWithin 6 = .ok (.invokevirtual 64, 3) := by decide +kernel
theorem dX2_spansWithin_9 : decode cX2_spansWithin 9 = .ok (.ifCond .eq 7, 3) := by decide +kernel
theorem dX2_spansWithin_12 : decode cX2_spansWithin 12 = .ok (.iload_n 1, 1) := by decide +kernel
theorem dX2_spansWithin_13 : decode cX2_spansWithin 13 = .ok (.goto 9, 3) := by decide +kernel
theorem dX2_spansWithin_16 : decode cX2_spansWithin 16 = .ok (.aload_n 0, 1) := by decide +kernel
theorem dX2_spansWithin_17 : decode cX2_spansWithin 17 = .ok (.getfield 55, 3) := by decide +kernel
theorem dX2_spansWithin_20 : decode cX2_spansWithin 20 = .ok (.iconst 1, 1) := by decide +kernel
theorem dX2_spansWithin_21 : decode cX2_spansWithin 21 = .ok (.isub, 1) := by decide +kernel
theorem dX2_spansWithin_22 : decode cX2_spansWithin 22 = .ok (.invokevirtual 68, 3) := by decide +kernel
theorem dX2_spansWithin_25 : decode cX2_spansWithin 25 = .ok (.lreturn, 1) := by decide +kernel
set_option maxRecDepth 20000 in
theorem ggX2_stepOf_X2_leastCost : GoodIn wsX2_stepOf wsX2_leastCost := goodIn_r _ [7, 8, 9, 10, 6, 11, 12, 13, 14, 15, 16, 17, 18, 19, 20, 21, 22, 23, 24, 25, 26, 27, 1, 2, 28, 29, 30, 31, 32, 33, 34, 35, 40, 41, 42, 43, 44, 45, 46, 47, 48, 49, 50] (by decide +kernel) (by decide +kernel)
set_option maxRecDepth 20000 in
theorem gX2_stepOf_X2_leastCost : GoodIn wsX2_stepOf (wsV RX2 76 RX2 yX2_leastCost wsX2_leastCost) := goodIn_app (goodIn_of _ (by decide +kernel)) ggX2_stepOf_X2_leastCost
set_option maxRecDepth 20000 in
theorem ggX2_stepOf_X2_leastSet : GoodIn wsX2_stepOf wsX2_leastSet := goodIn_r _ [39, 1, 2, 29, 30, 31, 6, 32, 19, 18, 33, 34, 35, 40, 41, 42, 43, 44, 45, 46, 47, 48, 49, 50] (by decide +kernel) (by decide +kernel)
set_option maxRecDepth 20000 in
theorem gX2_stepOf_X2_leastSet : GoodIn wsX2_stepOf (wsV RX2 80 RX2 yX2_leastSet wsX2_leastSet) := goodIn_app (goodIn_of _ (by decide +kernel)) ggX2_stepOf_X2_leastSet
theorem dX2_stepOf_0 : decode cX2_stepOf 0 = .ok (.sipush 469, 3) := by decide +kernel
theorem dX2_stepOf_3 : decode cX2_stepOf 3 = .ok (.istore 4, 2) := by decide +kernel
theorem dX2_stepOf_5 : decode cX2_stepOf 5 = .ok (.iload_n 1, 1) := by decide +kernel
theorem dX2_stepOf_6 : decode cX2_stepOf 6 = .ok (.istore 5, 2) := by decide +kernel
theorem dX2_stepOf_8 : decode cX2_stepOf 8 = .ok (.aload_n 0, 1) := by decide +kernel
theorem dX2_stepOf_9 : decode cX2_stepOf 9 = .ok (.iload_n 1, 1) := by decide +kernel
theorem dX2_stepOf_10 : decode cX2_stepOf 10 = .ok (.invokevirtual 76, 3) := by decide +kernel
theorem dX2_stepOf_13 : decode cX2_stepOf 13 = .ok (.istore 6, 2) := by decide +kernel
theorem dX2_stepOf_15 : decode cX2_stepOf 15 = .ok (.iconst 0, 1) := by decide +kernel
theorem dX2_stepOf_16 : decode cX2_stepOf 16 = .ok (.istore 7, 2) := by decide +kernel
theorem dX2_stepOf_18 : decode cX2_stepOf 18 = .ok (.iload 7, 2) := by decide +kernel
theorem dX2_stepOf_20 : decode cX2_stepOf 20 = .ok (.iload_n 1, 1) := by decide +kernel
theorem dX2_stepOf_21 : decode cX2_stepOf 21 = .ok (.if_icmp .ge 101, 3) := by decide +kernel
theorem dX2_stepOf_24 : decode cX2_stepOf 24 = .ok (.iload 5, 2) := by decide +kernel
theorem dX2_stepOf_26 : decode cX2_stepOf 26 = .ok (.ifCond .le 96, 3) := by decide +kernel
theorem dX2_stepOf_29 : decode cX2_stepOf 29 = .ok (.iload 6, 2) := by decide +kernel
theorem dX2_stepOf_31 : decode cX2_stepOf 31 = .ok (.ifCond .lt 91, 3) := by decide +kernel
theorem dX2_stepOf_34 : decode cX2_stepOf 34 = .ok (.aload_n 0, 1) := by decide +kernel
theorem dX2_stepOf_35 : decode cX2_stepOf 35 = .ok (.iload 4, 2) := by decide +kernel
theorem dX2_stepOf_37 : decode cX2_stepOf 37 = .ok (.iload 5, 2) := by decide +kernel
theorem dX2_stepOf_39 : decode cX2_stepOf 39 = .ok (.iload 6, 2) := by decide +kernel
theorem dX2_stepOf_41 : decode cX2_stepOf 41 = .ok (.invokevirtual 80, 3) := by decide +kernel
theorem dX2_stepOf_44 : decode cX2_stepOf 44 = .ok (.istore 8, 2) := by decide +kernel
theorem dX2_stepOf_46 : decode cX2_stepOf 46 = .ok (.iload 8, 2) := by decide +kernel
theorem dX2_stepOf_48 : decode cX2_stepOf 48 = .ok (.iconst (-1), 1) := by decide +kernel
theorem dX2_stepOf_49 : decode cX2_stepOf 49 = .ok (.if_icmp .ne 5, 3) := by decide +kernel
theorem dX2_stepOf_52 : decode cX2_stepOf 52 = .ok (.iconst (-1), 1) := by decide +kernel
theorem dX2_stepOf_53 : decode cX2_stepOf 53 = .ok (.ireturn, 1) := by decide +kernel
theorem dX2_stepOf_54 : decode cX2_stepOf 54 = .ok (.iload 7, 2) := by decide +kernel
theorem dX2_stepOf_56 : decode cX2_stepOf 56 = .ok (.iload_n 2, 1) := by decide +kernel
theorem dX2_stepOf_57 : decode cX2_stepOf 57 = .ok (.if_icmp .ne 17, 3) := by decide +kernel
theorem dX2_stepOf_60 : decode cX2_stepOf 60 = .ok (.iload_n 3, 1) := by decide +kernel
theorem dX2_stepOf_61 : decode cX2_stepOf 61 = .ok (.ifCond .eq 8, 3) := by decide +kernel
theorem dX2_stepOf_64 : decode cX2_stepOf 64 = .ok (.iload 8, 2) := by decide +kernel
theorem dX2_stepOf_66 : decode cX2_stepOf 66 = .ok (.goto 7, 3) := by decide +kernel
theorem dX2_stepOf_69 : decode cX2_stepOf 69 = .ok (.iload_n 1, 1) := by decide +kernel
theorem dX2_stepOf_70 : decode cX2_stepOf 70 = .ok (.iload 5, 2) := by decide +kernel
theorem dX2_stepOf_72 : decode cX2_stepOf 72 = .ok (.isub, 1) := by decide +kernel
theorem dX2_stepOf_73 : decode cX2_stepOf 73 = .ok (.ireturn, 1) := by decide +kernel
theorem dX2_stepOf_74 : decode cX2_stepOf 74 = .ok (.aload_n 0, 1) := by decide +kernel
theorem dX2_stepOf_75 : decode cX2_stepOf 75 = .ok (.getfield 27, 3) := by decide +kernel
theorem dX2_stepOf_78 : decode cX2_stepOf 78 = .ok (.iload 4, 2) := by decide +kernel
theorem dX2_stepOf_80 : decode cX2_stepOf 80 = .ok (.bipush 8, 2) := by decide +kernel
theorem dX2_stepOf_82 : decode cX2_stepOf 82 = .ok (.imul, 1) := by decide +kernel
theorem dX2_stepOf_83 : decode cX2_stepOf 83 = .ok (.iload 8, 2) := by decide +kernel
theorem dX2_stepOf_85 : decode cX2_stepOf 85 = .ok (.iadd, 1) := by decide +kernel
theorem dX2_stepOf_86 : decode cX2_stepOf 86 = .ok (.iaload, 1) := by decide +kernel
theorem dX2_stepOf_87 : decode cX2_stepOf 87 = .ok (.istore 9, 2) := by decide +kernel
theorem dX2_stepOf_89 : decode cX2_stepOf 89 = .ok (.iload 9, 2) := by decide +kernel
theorem dX2_stepOf_91 : decode cX2_stepOf 91 = .ok (.iconst 4, 1) := by decide +kernel
theorem dX2_stepOf_92 : decode cX2_stepOf 92 = .ok (.ishr, 1) := by decide +kernel
theorem dX2_stepOf_93 : decode cX2_stepOf 93 = .ok (.istore 4, 2) := by decide +kernel
theorem dX2_stepOf_95 : decode cX2_stepOf 95 = .ok (.iload 5, 2) := by decide +kernel
theorem dX2_stepOf_97 : decode cX2_stepOf 97 = .ok (.iload 9, 2) := by decide +kernel
theorem dX2_stepOf_99 : decode cX2_stepOf 99 = .ok (.bipush 15, 2) := by decide +kernel
theorem dX2_stepOf_101 : decode cX2_stepOf 101 = .ok (.iand, 1) := by decide +kernel
theorem dX2_stepOf_102 : decode cX2_stepOf 102 = .ok (.isub, 1) := by decide +kernel
theorem dX2_stepOf_103 : decode cX2_stepOf 103 = .ok (.istore 5, 2) := by decide +kernel
theorem dX2_stepOf_105 : decode cX2_stepOf 105 = .ok (.iload 6, 2) := by decide +kernel
theorem dX2_stepOf_107 : decode cX2_stepOf 107 = .ok (.getstatic 84, 3) := by decide +kernel
theorem dX2_stepOf_110 : decode cX2_stepOf 110 = .ok (.iload 8, 2) := by decide +kernel
theorem dX2_stepOf_112 : decode cX2_stepOf 112 = .ok (.iaload, 1) := by decide +kernel
theorem dX2_stepOf_113 : decode cX2_stepOf 113 = .ok (.isub, 1) := by decide +kernel
theorem dX2_stepOf_114 : decode cX2_stepOf 114 = .ok (.istore 6, 2) := by decide +kernel
theorem dX2_stepOf_116 : decode cX2_stepOf 116 = .ok (.iinc 7 1, 3) := by decide +kernel
theorem dX2_stepOf_119 : decode cX2_stepOf 119 = .ok (.goto (-101), 3) := by decide +kernel
theorem dX2_stepOf_122 : decode cX2_stepOf 122 = .ok (.iconst (-1), 1) := by decide +kernel
theorem dX2_stepOf_123 : decode cX2_stepOf 123 = .ok (.ireturn, 1) := by decide +kernel
set_option maxRecDepth 20000 in
theorem ggX2_leastSet_X2_spansBy : GoodIn wsX2_leastSet wsX2_spansBy := goodIn_r _ [7, 8, 9, 13, 14, 15, 16, 17, 18, 19, 20, 21, 22, 23] (by decide +kernel) (by decide +kernel)
set_option maxRecDepth 20000 in
theorem gX2_leastSet_X2_spansBy : GoodIn wsX2_leastSet (wsV RX2 87 RX2 yX2_spansBy wsX2_spansBy) := goodIn_app (goodIn_of _ (by decide +kernel)) ggX2_leastSet_X2_spansBy
set_option maxRecDepth 20000 in
theorem ggX2_leastSet_X2_isIn : GoodIn wsX2_leastSet wsX2_isIn := goodIn_r _ [12] (by decide +kernel) (by decide +kernel)
set_option maxRecDepth 20000 in
theorem gX2_leastSet_X2_isIn : GoodIn wsX2_leastSet (va_wsS RX2 72 yX2_isIn wsX2_isIn) := goodIn_app (goodIn_of _ (by decide +kernel)) ggX2_leastSet_X2_isIn
theorem dX2_leastSet_0 : decode cX2_leastSet 0 = .ok (.iconst 0, 1) := by decide +kernel
theorem dX2_leastSet_1 : decode cX2_leastSet 1 = .ok (.istore 4, 2) := by decide +kernel
theorem dX2_leastSet_3 : decode cX2_leastSet 3 = .ok (.iload 4, 2) := by decide +kernel
theorem dX2_leastSet_5 : decode cX2_leastSet 5 = .ok (.bipush 8, 2) := by decide +kernel
theorem dX2_leastSet_7 : decode cX2_leastSet 7 = .ok (.if_icmp .ge 43, 3) := by decide +kernel
theorem dX2_leastSet_10 : decode cX2_leastSet 10 = .ok (.aload_n 0, 1) := by decide +kernel
theorem dX2_leastSet_11 : decode cX2_leastSet 11 = .ok (.aload_n 0, 1) := by decide +kernel
theorem dX2_leastSet_12 : decode cX2_leastSet 12 = .ok (.getfield 27, 3) := by decide +kernel
theorem dX2_leastSet_15 : decode cX2_leastSet 15 = .ok (.iload_n 1, 1) := by decide +kernel
theorem dX2_leastSet_16 : decode cX2_leastSet 16 = .ok (.bipush 8, 2) := by decide +kernel
theorem dX2_leastSet_18 : decode cX2_leastSet 18 = .ok (.imul, 1) := by decide +kernel
theorem dX2_leastSet_19 : decode cX2_leastSet 19 = .ok (.iload 4, 2) := by decide +kernel
theorem dX2_leastSet_21 : decode cX2_leastSet 21 = .ok (.iadd, 1) := by decide +kernel
theorem dX2_leastSet_22 : decode cX2_leastSet 22 = .ok (.iaload, 1) := by decide +kernel
theorem dX2_leastSet_23 : decode cX2_leastSet 23 = .ok (.iload_n 3, 1) := by decide +kernel
theorem dX2_leastSet_24 : decode cX2_leastSet 24 = .ok (.getstatic 84, 3) := by decide +kernel
theorem dX2_leastSet_27 : decode cX2_leastSet 27 = .ok (.iload 4, 2) := by decide +kernel
theorem dX2_leastSet_29 : decode cX2_leastSet 29 = .ok (.iaload, 1) := by decide +kernel
theorem dX2_leastSet_30 : decode cX2_leastSet 30 = .ok (.isub, 1) := by decide +kernel
theorem dX2_leastSet_31 : decode cX2_leastSet 31 = .ok (.invokevirtual 87, 3) := by decide +kernel
theorem dX2_leastSet_34 : decode cX2_leastSet 34 = .ok (.iload_n 2, 1) := by decide +kernel
theorem dX2_leastSet_35 : decode cX2_leastSet 35 = .ok (.invokestatic 72, 3) := by decide +kernel
theorem dX2_leastSet_38 : decode cX2_leastSet 38 = .ok (.ifCond .eq 6, 3) := by decide +kernel
theorem dX2_leastSet_41 : decode cX2_leastSet 41 = .ok (.iload 4, 2) := by decide +kernel
theorem dX2_leastSet_43 : decode cX2_leastSet 43 = .ok (.ireturn, 1) := by decide +kernel
theorem dX2_leastSet_44 : decode cX2_leastSet 44 = .ok (.iinc 4 1, 3) := by decide +kernel
theorem dX2_leastSet_47 : decode cX2_leastSet 47 = .ok (.goto (-44), 3) := by decide +kernel
theorem dX2_leastSet_50 : decode cX2_leastSet 50 = .ok (.iconst (-1), 1) := by decide +kernel
theorem dX2_leastSet_51 : decode cX2_leastSet 51 = .ok (.ireturn, 1) := by decide +kernel
set_option maxRecDepth 20000 in
theorem ggX2_spansFrom_X2_spansBy : GoodIn wsX2_spansFrom wsX2_spansBy := goodIn_r _ [8, 9, 10, 11, 12, 13, 14, 15, 16, 17, 18, 19, 20, 21] (by decide +kernel) (by decide +kernel)
set_option maxRecDepth 20000 in
theorem gX2_spansFrom_X2_spansBy : GoodIn wsX2_spansFrom (wsV RX2 87 RX2 yX2_spansBy wsX2_spansBy) := goodIn_app (goodIn_of _ (by decide +kernel)) ggX2_spansFrom_X2_spansBy
theorem dX2_spansFrom_0 : decode cX2_spansFrom 0 = .ok (.lconst 0, 1) := by decide +kernel
theorem dX2_spansFrom_1 : decode cX2_spansFrom 1 = .ok (.lstore_n 3, 1) := by decide +kernel
theorem dX2_spansFrom_2 : decode cX2_spansFrom 2 = .ok (.iconst 0, 1) := by decide +kernel
theorem dX2_spansFrom_3 : decode cX2_spansFrom 3 = .ok (.istore 5, 2) := by decide +kernel
theorem dX2_spansFrom_5 : decode cX2_spansFrom 5 = .ok (.iload 5, 2) := by decide +kernel
theorem dX2_spansFrom_7 : decode cX2_spansFrom 7 = .ok (.bipush 8, 2) := by decide +kernel
theorem dX2_spansFrom_9 : decode cX2_spansFrom 9 = .ok (.if_icmp .ge 36, 3) := by decide +kernel
theorem dX2_spansFrom_12 : decode cX2_spansFrom 12 = .ok (.lload_n 3, 1) := by decide +kernel
theorem dX2_spansFrom_13 : decode cX2_spansFrom 13 = .ok (.aload_n 0, 1) := by decide +kernel
theorem dX2_spansFrom_14 : decode cX2_spansFrom 14 = .ok (.aload_n 0, 1) := by decide +kernel
theorem dX2_spansFrom_15 : decode cX2_spansFrom 15 = .ok (.getfield 27, 3) := by decide +kernel
theorem dX2_spansFrom_18 : decode cX2_spansFrom 18 = .ok (.iload_n 1, 1) := by decide +kernel
theorem dX2_spansFrom_19 : decode cX2_spansFrom 19 = .ok (.bipush 8, 2) := by decide +kernel
theorem dX2_spansFrom_21 : decode cX2_spansFrom 21 = .ok (.imul, 1) := by decide +kernel
theorem dX2_spansFrom_22 : decode cX2_spansFrom 22 = .ok (.iload 5, 2) := by decide +kernel
theorem dX2_spansFrom_24 : decode cX2_spansFrom 24 = .ok (.iadd, 1) := by decide +kernel
theorem dX2_spansFrom_25 : decode cX2_spansFrom 25 = .ok (.iaload, 1) := by decide +kernel
theorem dX2_spansFrom_26 : decode cX2_spansFrom 26 = .ok (.iload_n 2, 1) := by decide +kernel
theorem dX2_spansFrom_27 : decode cX2_spansFrom 27 = .ok (.getstatic 84, 3) := by decide +kernel
theorem dX2_spansFrom_30 : decode cX2_spansFrom 30 = .ok (.iload 5, 2) := by decide +kernel
theorem dX2_spansFrom_32 : decode cX2_spansFrom 32 = .ok (.iaload, 1) := by decide +kernel
theorem dX2_spansFrom_33 : decode cX2_spansFrom 33 = .ok (.isub, 1) := by decide +kernel
theorem dX2_spansFrom_34 : decode cX2_spansFrom 34 = .ok (.invokevirtual 87, 3) := by decide +kernel
theorem dX2_spansFrom_37 : decode cX2_spansFrom 37 = .ok (.lor, 1) := by decide +kernel
theorem dX2_spansFrom_38 : decode cX2_spansFrom 38 = .ok (.lstore_n 3, 1) := by decide +kernel
theorem dX2_spansFrom_39 : decode cX2_spansFrom 39 = .ok (.iinc 5 1, 3) := by decide +kernel
theorem dX2_spansFrom_42 : decode cX2_spansFrom 42 = .ok (.goto (-37), 3) := by decide +kernel
theorem dX2_spansFrom_45 : decode cX2_spansFrom 45 = .ok (.lload_n 3, 1) := by decide +kernel
theorem dX2_spansFrom_46 : decode cX2_spansFrom 46 = .ok (.ldc2_w 90, 3) := by decide +kernel
theorem dX2_spansFrom_49 : decode cX2_spansFrom 49 = .ok (.land, 1) := by decide +kernel
theorem dX2_spansFrom_50 : decode cX2_spansFrom 50 = .ok (.lreturn, 1) := by decide +kernel
theorem dX2_spansBy_0 : decode cX2_spansBy 0 = .ok (.iload_n 1, 1) := by decide +kernel
theorem dX2_spansBy_1 : decode cX2_spansBy 1 = .ok (.ifCond .eq 7, 3) := by decide +kernel
theorem dX2_spansBy_4 : decode cX2_spansBy 4 = .ok (.iload_n 2, 1) := by decide +kernel
theorem dX2_spansBy_5 : decode cX2_spansBy 5 = .ok (.ifCond .ge 5, 3) := by decide +kernel
theorem dX2_spansBy_8 : decode cX2_spansBy 8 = .ok (.lconst 0, 1) := by decide +kernel
theorem dX2_spansBy_9 : decode cX2_spansBy 9 = .ok (.lreturn, 1) := by decide +kernel
theorem dX2_spansBy_10 : decode cX2_spansBy 10 = .ok (.aload_n 0, 1) := by decide +kernel
theorem dX2_spansBy_11 : decode cX2_spansBy 11 = .ok (.getfield 30, 3) := by decide +kernel
theorem dX2_spansBy_14 : decode cX2_spansBy 14 = .ok (.iload_n 2, 1) := by decide +kernel
theorem dX2_spansBy_15 : decode cX2_spansBy 15 = .ok (.aload_n 0, 1) := by decide +kernel
theorem dX2_spansBy_16 : decode cX2_spansBy 16 = .ok (.getfield 48, 3) := by decide +kernel
theorem dX2_spansBy_19 : decode cX2_spansBy 19 = .ok (.imul, 1) := by decide +kernel
theorem dX2_spansBy_20 : decode cX2_spansBy 20 = .ok (.iload_n 1, 1) := by decide +kernel
theorem dX2_spansBy_21 : decode cX2_spansBy 21 = .ok (.iconst 4, 1) := by decide +kernel
theorem dX2_spansBy_22 : decode cX2_spansBy 22 = .ok (.ishr, 1) := by decide +kernel
theorem dX2_spansBy_23 : decode cX2_spansBy 23 = .ok (.iadd, 1) := by decide +kernel
theorem dX2_spansBy_24 : decode cX2_spansBy 24 = .ok (.laload, 1) := by decide +kernel
theorem dX2_spansBy_25 : decode cX2_spansBy 25 = .ok (.lconst 1, 1) := by decide +kernel
theorem dX2_spansBy_26 : decode cX2_spansBy 26 = .ok (.lor, 1) := by decide +kernel
theorem dX2_spansBy_27 : decode cX2_spansBy 27 = .ok (.iload_n 1, 1) := by decide +kernel
theorem dX2_spansBy_28 : decode cX2_spansBy 28 = .ok (.bipush 15, 2) := by decide +kernel
theorem dX2_spansBy_30 : decode cX2_spansBy 30 = .ok (.iand, 1) := by decide +kernel
theorem dX2_spansBy_31 : decode cX2_spansBy 31 = .ok (.lshl, 1) := by decide +kernel
theorem dX2_spansBy_32 : decode cX2_spansBy 32 = .ok (.lreturn, 1) := by decide +kernel
set_option maxRecDepth 20000 in
theorem ggX2_findUpTo_X2_hasRoom : GoodIn wsX2_findUpTo wsX2_hasRoom := goodIn_r _ [7, 1, 8, 9, 25, 26, 27, 28, 29, 30, 31, 32, 33, 34, 35] (by decide +kernel) (by decide +kernel)
set_option maxRecDepth 20000 in
theorem gX2_findUpTo_X2_hasRoom : GoodIn wsX2_findUpTo (wsV RX2 92 RX2 yX2_hasRoom wsX2_hasRoom) := goodIn_app (goodIn_of _ (by decide +kernel)) ggX2_findUpTo_X2_hasRoom
set_option maxRecDepth 20000 in
theorem ggX2_findUpTo_X2_findSpans : GoodIn wsX2_findUpTo wsX2_findSpans := goodIn_r _ [13, 8, 9, 14, 15, 16, 6, 17, 18, 19, 20, 21, 22, 23, 24, 25, 26, 27, 28, 29, 30, 31, 32, 33, 34, 35] (by decide +kernel) (by decide +kernel)
set_option maxRecDepth 20000 in
theorem gX2_findUpTo_X2_findSpans : GoodIn wsX2_findUpTo (wsV RX2 96 RX2 yX2_findSpans wsX2_findSpans) := goodIn_app (goodIn_of _ (by decide +kernel)) ggX2_findUpTo_X2_findSpans
theorem dX2_findUpTo_0 : decode cX2_findUpTo 0 = .ok (.aload_n 0, 1) := by decide +kernel
theorem dX2_findUpTo_1 : decode cX2_findUpTo 1 = .ok (.getfield 55, 3) := by decide +kernel
theorem dX2_findUpTo_4 : decode cX2_findUpTo 4 = .ok (.iload_n 1, 1) := by decide +kernel
theorem dX2_findUpTo_5 : decode cX2_findUpTo 5 = .ok (.if_icmp .gt 56, 3) := by decide +kernel
theorem dX2_findUpTo_8 : decode cX2_findUpTo 8 = .ok (.aload_n 0, 1) := by decide +kernel
theorem dX2_findUpTo_9 : decode cX2_findUpTo 9 = .ok (.getfield 58, 3) := by decide +kernel
theorem dX2_findUpTo_12 : decode cX2_findUpTo 12 = .ok (.iconst 3, 1) := by decide +kernel
theorem dX2_findUpTo_13 : decode cX2_findUpTo 13 = .ok (.if_icmp .ge 48, 3) := by decide +kernel
theorem dX2_findUpTo_16 : decode cX2_findUpTo 16 = .ok (.aload_n 0, 1) := by decide +kernel
theorem dX2_findUpTo_17 : decode cX2_findUpTo 17 = .ok (.invokevirtual 92, 3) := by decide +kernel
theorem dX2_findUpTo_20 : decode cX2_findUpTo 20 = .ok (.ifCond .eq 41, 3) := by decide +kernel
theorem dX2_findUpTo_23 : decode cX2_findUpTo 23 = .ok (.aload_n 0, 1) := by decide +kernel
theorem dX2_findUpTo_24 : decode cX2_findUpTo 24 = .ok (.aload_n 0, 1) := by decide +kernel
theorem dX2_findUpTo_25 : decode cX2_findUpTo 25 = .ok (.aload_n 0, 1) := by decide +kernel
theorem dX2_findUpTo_26 : decode cX2_findUpTo 26 = .ok (.getfield 55, 3) := by decide +kernel
theorem dX2_findUpTo_29 : decode cX2_findUpTo 29 = .ok (.invokevirtual 96, 3) := by decide +kernel
theorem dX2_findUpTo_32 : decode cX2_findUpTo 32 = .ok (.ifCond .eq 7, 3) := by decide +kernel
theorem dX2_findUpTo_35 : decode cX2_findUpTo 35 = .ok (.iconst 0, 1) := by decide +kernel
theorem dX2_findUpTo_36 : decode cX2_findUpTo 36 = .ok (.goto 9, 3) := by decide +kernel
theorem dX2_findUpTo_39 : decode cX2_findUpTo 39 = .ok (.aload_n 0, 1) := by decide +kernel
theorem dX2_findUpTo_40 : decode cX2_findUpTo 40 = .ok (.getfield 58, 3) := by decide +kernel
theorem dX2_findUpTo_43 : decode cX2_findUpTo 43 = .ok (.iconst 1, 1) := by decide +kernel
theorem dX2_findUpTo_44 : decode cX2_findUpTo 44 = .ok (.iadd, 1) := by decide +kernel
theorem dX2_findUpTo_45 : decode cX2_findUpTo 45 = .ok (.putfield 58, 3) := by decide +kernel
theorem dX2_findUpTo_48 : decode cX2_findUpTo 48 = .ok (.aload_n 0, 1) := by decide +kernel
theorem dX2_findUpTo_49 : decode cX2_findUpTo 49 = .ok (.dup, 1) := by decide +kernel
theorem dX2_findUpTo_50 : decode cX2_findUpTo 50 = .ok (.getfield 55, 3) := by decide +kernel
theorem dX2_findUpTo_53 : decode cX2_findUpTo 53 = .ok (.iconst 1, 1) := by decide +kernel
theorem dX2_findUpTo_54 : decode cX2_findUpTo 54 = .ok (.iadd, 1) := by decide +kernel
theorem dX2_findUpTo_55 : decode cX2_findUpTo 55 = .ok (.putfield 55, 3) := by decide +kernel
theorem dX2_findUpTo_58 : decode cX2_findUpTo 58 = .ok (.goto (-58), 3) := by decide +kernel
theorem dX2_findUpTo_61 : decode cX2_findUpTo 61 = .ok (.iload_n 1, 1) := by decide +kernel
theorem dX2_findUpTo_62 : decode cX2_findUpTo 62 = .ok (.aload_n 0, 1) := by decide +kernel
theorem dX2_findUpTo_63 : decode cX2_findUpTo 63 = .ok (.getfield 55, 3) := by decide +kernel
theorem dX2_findUpTo_66 : decode cX2_findUpTo 66 = .ok (.if_icmp .ge 7, 3) := by decide +kernel
theorem dX2_findUpTo_69 : decode cX2_findUpTo 69 = .ok (.iconst 1, 1) := by decide +kernel
theorem dX2_findUpTo_70 : decode cX2_findUpTo 70 = .ok (.goto 4, 3) := by decide +kernel
theorem dX2_findUpTo_73 : decode cX2_findUpTo 73 = .ok (.iconst 0, 1) := by decide +kernel
theorem dX2_findUpTo_74 : decode cX2_findUpTo 74 = .ok (.ireturn, 1) := by decide +kernel
theorem dX2_hasRoom_0 : decode cX2_hasRoom 0 = .ok (.aload_n 0, 1) := by decide +kernel
theorem dX2_hasRoom_1 : decode cX2_hasRoom 1 = .ok (.getfield 55, 3) := by decide +kernel
theorem dX2_hasRoom_4 : decode cX2_hasRoom 4 = .ok (.iconst 1, 1) := by decide +kernel
theorem dX2_hasRoom_5 : decode cX2_hasRoom 5 = .ok (.iadd, 1) := by decide +kernel
theorem dX2_hasRoom_6 : decode cX2_hasRoom 6 = .ok (.aload_n 0, 1) := by decide +kernel
theorem dX2_hasRoom_7 : decode cX2_hasRoom 7 = .ok (.getfield 48, 3) := by decide +kernel
theorem dX2_hasRoom_10 : decode cX2_hasRoom 10 = .ok (.imul, 1) := by decide +kernel
theorem dX2_hasRoom_11 : decode cX2_hasRoom 11 = .ok (.aload_n 0, 1) := by decide +kernel
theorem dX2_hasRoom_12 : decode cX2_hasRoom 12 = .ok (.getfield 30, 3) := by decide +kernel
theorem dX2_hasRoom_15 : decode cX2_hasRoom 15 = .ok (.arraylength, 1) := by decide +kernel
theorem dX2_hasRoom_16 : decode cX2_hasRoom 16 = .ok (.if_icmp .gt 7, 3) := by decide +kernel
theorem dX2_hasRoom_19 : decode cX2_hasRoom 19 = .ok (.iconst 1, 1) := by decide +kernel
theorem dX2_hasRoom_20 : decode cX2_hasRoom 20 = .ok (.goto 4, 3) := by decide +kernel
theorem dX2_hasRoom_23 : decode cX2_hasRoom 23 = .ok (.iconst 0, 1) := by decide +kernel
theorem dX2_hasRoom_24 : decode cX2_hasRoom 24 = .ok (.ireturn, 1) := by decide +kernel
set_option maxRecDepth 20000 in
theorem ggX2_findSpans_X2_spansFrom : GoodIn wsX2_findSpans wsX2_spansFrom := goodIn_r _ [7, 8, 9, 10, 11, 12, 13, 6, 14, 2, 1, 15, 16, 17, 18, 19, 20, 21, 22, 23, 24, 25] (by decide +kernel) (by decide +kernel)
set_option maxRecDepth 20000 in
theorem gX2_findSpans_X2_spansFrom : GoodIn wsX2_findSpans (wsV RX2 68 RX2 yX2_spansFrom wsX2_spansFrom) := goodIn_app (goodIn_of _ (by decide +kernel)) ggX2_findSpans_X2_spansFrom
theorem dX2_findSpans_0 : decode cX2_findSpans 0 = .ok (.iload_n 1, 1) := by decide +kernel
theorem dX2_findSpans_1 : decode cX2_findSpans 1 = .ok (.ifCond .ne 7, 3) := by decide +kernel
theorem dX2_findSpans_4 : decode cX2_findSpans 4 = .ok (.iconst 1, 1) := by decide +kernel
theorem dX2_findSpans_5 : decode cX2_findSpans 5 = .ok (.goto 4, 3) := by decide +kernel
theorem dX2_findSpans_8 : decode cX2_findSpans 8 = .ok (.iconst 0, 1) := by decide +kernel
theorem dX2_findSpans_9 : decode cX2_findSpans 9 = .ok (.istore_n 2, 1) := by decide +kernel
theorem dX2_findSpans_10 : decode cX2_findSpans 10 = .ok (.iconst 0, 1) := by decide +kernel
theorem dX2_findSpans_11 : decode cX2_findSpans 11 = .ok (.istore_n 3, 1) := by decide +kernel
theorem dX2_findSpans_12 : decode cX2_findSpans 12 = .ok (.iload_n 3, 1) := by decide +kernel
theorem dX2_findSpans_13 : decode cX2_findSpans 13 = .ok (.aload_n 0, 1) := by decide +kernel
theorem dX2_findSpans_14 : decode cX2_findSpans 14 = .ok (.getfield 48, 3) := by decide +kernel
theorem dX2_findSpans_17 : decode cX2_findSpans 17 = .ok (.if_icmp .ge 59, 3) := by decide +kernel
theorem dX2_findSpans_20 : decode cX2_findSpans 20 = .ok (.aload_n 0, 1) := by decide +kernel
theorem dX2_findSpans_21 : decode cX2_findSpans 21 = .ok (.iload_n 3, 1) := by decide +kernel
theorem dX2_findSpans_22 : decode cX2_findSpans 22 = .ok (.iload_n 1, 1) := by decide +kernel
theorem dX2_findSpans_23 : decode cX2_findSpans 23 = .ok (.invokevirtual 68, 3) := by decide +kernel
theorem dX2_findSpans_26 : decode cX2_findSpans 26 = .ok (.lstore 4, 2) := by decide +kernel
theorem dX2_findSpans_28 : decode cX2_findSpans 28 = .ok (.aload_n 0, 1) := by decide +kernel
theorem dX2_findSpans_29 : decode cX2_findSpans 29 = .ok (.getfield 30, 3) := by decide +kernel
theorem dX2_findSpans_32 : decode cX2_findSpans 32 = .ok (.iload_n 1, 1) := by decide +kernel
theorem dX2_findSpans_33 : decode cX2_findSpans 33 = .ok (.aload_n 0, 1) := by decide +kernel
theorem dX2_findSpans_34 : decode cX2_findSpans 34 = .ok (.getfield 48, 3) := by decide +kernel
theorem dX2_findSpans_37 : decode cX2_findSpans 37 = .ok (.imul, 1) := by decide +kernel
theorem dX2_findSpans_38 : decode cX2_findSpans 38 = .ok (.iload_n 3, 1) := by decide +kernel
theorem dX2_findSpans_39 : decode cX2_findSpans 39 = .ok (.iadd, 1) := by decide +kernel
theorem dX2_findSpans_40 : decode cX2_findSpans 40 = .ok (.lload 4, 2) := by decide +kernel
theorem dX2_findSpans_42 : decode cX2_findSpans 42 = .ok (.lastore, 1) := by decide +kernel
theorem dX2_findSpans_43 : decode cX2_findSpans 43 = .ok (.iload_n 1, 1) := by decide +kernel
theorem dX2_findSpans_44 : decode cX2_findSpans 44 = .ok (.ifCond .le 26, 3) := by decide +kernel
theorem dX2_findSpans_47 : decode cX2_findSpans 47 = .ok (.lload 4, 2) := by decide +kernel
theorem dX2_findSpans_49 : decode cX2_findSpans 49 = .ok (.aload_n 0, 1) := by decide +kernel
theorem dX2_findSpans_50 : decode cX2_findSpans 50 = .ok (.getfield 30, 3) := by decide +kernel
theorem dX2_findSpans_53 : decode cX2_findSpans 53 = .ok (.iload_n 1, 1) := by decide +kernel
theorem dX2_findSpans_54 : decode cX2_findSpans 54 = .ok (.iconst 1, 1) := by decide +kernel
theorem dX2_findSpans_55 : decode cX2_findSpans 55 = .ok (.isub, 1) := by decide +kernel
theorem dX2_findSpans_56 : decode cX2_findSpans 56 = .ok (.aload_n 0, 1) := by decide +kernel
theorem dX2_findSpans_57 : decode cX2_findSpans 57 = .ok (.getfield 48, 3) := by decide +kernel
theorem dX2_findSpans_60 : decode cX2_findSpans 60 = .ok (.imul, 1) := by decide +kernel
theorem dX2_findSpans_61 : decode cX2_findSpans 61 = .ok (.iload_n 3, 1) := by decide +kernel
theorem dX2_findSpans_62 : decode cX2_findSpans 62 = .ok (.iadd, 1) := by decide +kernel
theorem dX2_findSpans_63 : decode cX2_findSpans 63 = .ok (.laload, 1) := by decide +kernel
theorem dX2_findSpans_64 : decode cX2_findSpans 64 = .ok (.lcmp, 1) := by decide +kernel
theorem dX2_findSpans_65 : decode cX2_findSpans 65 = .ok (.ifCond .eq 5, 3) := by decide +kernel
theorem dX2_findSpans_68 : decode cX2_findSpans 68 = .ok (.iconst 1, 1) := by decide +kernel
theorem dX2_findSpans_69 : decode cX2_findSpans 69 = .ok (.istore_n 2, 1) := by decide +kernel
theorem dX2_findSpans_70 : decode cX2_findSpans 70 = .ok (.iinc 3 1, 3) := by decide +kernel
theorem dX2_findSpans_73 : decode cX2_findSpans 73 = .ok (.goto (-61), 3) := by decide +kernel
theorem dX2_findSpans_76 : decode cX2_findSpans 76 = .ok (.iload_n 2, 1) := by decide +kernel
theorem dX2_findSpans_77 : decode cX2_findSpans 77 = .ok (.ireturn, 1) := by decide +kernel
set_option maxRecDepth 20000 in
theorem ggX2_findTurned_J7_fill_53178 : GoodIn wsX2_findTurned wsJ7_fill_53178 := goodIn_r _ [7] (by decide +kernel) (by decide +kernel)
set_option maxRecDepth 20000 in
theorem gX2_findTurned_J7_fill_53178 : GoodIn wsX2_findTurned (va_wsS RX2 99 yJ7_fill_53178 wsJ7_fill_53178) := goodIn_app (goodIn_of _ (by decide +kernel)) ggX2_findTurned_J7_fill_53178
