theorem inlX0 : ∀ w ∈ wsX00, w ∈ wsL_law := fun _ h => List.mem_append_left _ (List.mem_append_left _ (List.mem_append_left _ (List.mem_append_right _ h)))
theorem inX0 : ∀ w ∈ wsX00, w ∈ lw_tbl := fun w h => wsL_law_in w (inlX0 w h)
theorem inlX1 : ∀ w ∈ wsX10, w ∈ wsL_law := fun _ h => List.mem_append_left _ (List.mem_append_left _ (List.mem_append_right _ h))
theorem inX1 : ∀ w ∈ wsX10, w ∈ lw_tbl := fun w h => wsL_law_in w (inlX1 w h)
theorem inX2 : ∀ w ∈ wsX20, w ∈ lw_tbl := by decide +kernel
theorem inlX3 : ∀ w ∈ wsX30, w ∈ wsL_law := fun _ h => List.mem_append_left _ (List.mem_append_right _ h)
theorem inX3 : ∀ w ∈ wsX30, w ∈ lw_tbl := fun w h => wsL_law_in w (inlX3 w h)
theorem inlX4 : ∀ w ∈ wsX40, w ∈ wsL_law := fun _ h => List.mem_append_left _ (List.mem_append_left _ (List.mem_append_left _ (List.mem_append_left _ (List.mem_append_right _ h))))
theorem inX4 : ∀ w ∈ wsX40, w ∈ lw_tbl := fun w h => wsL_law_in w (inlX4 w h)
theorem inX5 : ∀ w ∈ wsX50, w ∈ lw_tbl := by decide +kernel
theorem inJ9 : ∀ w ∈ wsJ90, w ∈ lw_tbl := by decide +kernel
theorem inJ10 : ∀ w ∈ wsJ100, w ∈ lw_tbl := by decide +kernel
set_option maxRecDepth 20000 in
theorem ggX0_init_X0_renew : GoodIn wsX0_init wsX0_renew := goodIn_r _ [10, 5, 11, 12, 13, 9, 14, 15, 16, 17, 18, 19, 20, 21, 22, 23, 24, 25, 26, 27, 28, 29, 30, 31] (by decide +kernel) (by decide +kernel)
set_option maxRecDepth 20000 in
theorem gX0_init_X0_renew : GoodIn wsX0_init (wsV RX0 15 RX0 yX0_renew wsX0_renew) := goodIn_app (goodIn_of _ (by decide +kernel)) ggX0_init_X0_renew
set_option maxRecDepth 20000 in
theorem ggX0_init_X0_fill : GoodIn wsX0_init wsX0_fill := goodIn_r _ [18, 19, 20, 21, 9, 22, 5, 23, 24, 25, 26, 31] (by decide +kernel) (by decide +kernel)
set_option maxRecDepth 20000 in
theorem gX0_init_X0_fill : GoodIn wsX0_init (wsV RX0 19 RX0 yX0_fill wsX0_fill) := goodIn_app (goodIn_of _ (by decide +kernel)) ggX0_init_X0_fill
theorem dX0_init_0 : decode cX0_init 0 = .ok (.aload_n 0, 1) := by decide +kernel
theorem dX0_init_1 : decode cX0_init 1 = .ok (.invokespecial 5, 3) := by decide +kernel
theorem dX0_init_4 : decode cX0_init 4 = .ok (.aload_n 0, 1) := by decide +kernel
theorem dX0_init_5 : decode cX0_init 5 = .ok (.bipush 63, 2) := by decide +kernel
theorem dX0_init_7 : decode cX0_init 7 = .ok (.newarray .int, 2) := by decide +kernel
theorem dX0_init_9 : decode cX0_init 9 = .ok (.putfield 11, 3) := by decide +kernel
theorem dX0_init_12 : decode cX0_init 12 = .ok (.aload_n 0, 1) := by decide +kernel
theorem dX0_init_13 : decode cX0_init 13 = .ok (.getfield 11, 3) := by decide +kernel
theorem dX0_init_16 : decode cX0_init 16 = .ok (.bipush 59, 2) := by decide +kernel
theorem dX0_init_18 : decode cX0_init 18 = .ok (.iconst (-1), 1) := by decide +kernel
theorem dX0_init_19 : decode cX0_init 19 = .ok (.iastore, 1) := by decide +kernel
theorem dX0_init_20 : decode cX0_init 20 = .ok (.aload_n 0, 1) := by decide +kernel
theorem dX0_init_21 : decode cX0_init 21 = .ok (.iconst 3, 1) := by decide +kernel
theorem dX0_init_22 : decode cX0_init 22 = .ok (.invokevirtual 15, 3) := by decide +kernel
theorem dX0_init_25 : decode cX0_init 25 = .ok (.aload_n 0, 1) := by decide +kernel
theorem dX0_init_26 : decode cX0_init 26 = .ok (.iconst 0, 1) := by decide +kernel
theorem dX0_init_27 : decode cX0_init 27 = .ok (.iconst 3, 1) := by decide +kernel
theorem dX0_init_28 : decode cX0_init 28 = .ok (.invokevirtual 19, 3) := by decide +kernel
theorem dX0_init_31 : decode cX0_init 31 = .ok (.aload_n 0, 1) := by decide +kernel
theorem dX0_init_32 : decode cX0_init 32 = .ok (.iconst 1, 1) := by decide +kernel
theorem dX0_init_33 : decode cX0_init 33 = .ok (.iconst 5, 1) := by decide +kernel
theorem dX0_init_34 : decode cX0_init 34 = .ok (.invokevirtual 19, 3) := by decide +kernel
theorem dX0_init_37 : decode cX0_init 37 = .ok (.aload_n 0, 1) := by decide +kernel
theorem dX0_init_38 : decode cX0_init 38 = .ok (.iconst 2, 1) := by decide +kernel
theorem dX0_init_39 : decode cX0_init 39 = .ok (.bipush 8, 2) := by decide +kernel
theorem dX0_init_41 : decode cX0_init 41 = .ok (.invokevirtual 19, 3) := by decide +kernel
theorem dX0_init_44 : decode cX0_init 44 = .ok (.return_, 1) := by decide +kernel
theorem dX0_copyTo_0 : decode cX0_copyTo 0 = .ok (.aload_n 0, 1) := by decide +kernel
theorem dX0_copyTo_1 : decode cX0_copyTo 1 = .ok (.getfield 11, 3) := by decide +kernel
theorem dX0_copyTo_4 : decode cX0_copyTo 4 = .ok (.iconst 0, 1) := by decide +kernel
theorem dX0_copyTo_5 : decode cX0_copyTo 5 = .ok (.aload_n 1, 1) := by decide +kernel
theorem dX0_copyTo_6 : decode cX0_copyTo 6 = .ok (.iload_n 2, 1) := by decide +kernel
theorem dX0_copyTo_7 : decode cX0_copyTo 7 = .ok (.bipush 63, 2) := by decide +kernel
theorem dX0_copyTo_9 : decode cX0_copyTo 9 = .ok (.invokestatic 23, 3) := by decide +kernel
theorem dX0_copyTo_12 : decode cX0_copyTo 12 = .ok (.return_, 1) := by decide +kernel
theorem dX0_copyFrom_0 : decode cX0_copyFrom 0 = .ok (.aload_n 1, 1) := by decide +kernel
theorem dX0_copyFrom_1 : decode cX0_copyFrom 1 = .ok (.iload_n 2, 1) := by decide +kernel
theorem dX0_copyFrom_2 : decode cX0_copyFrom 2 = .ok (.aload_n 0, 1) := by decide +kernel
theorem dX0_copyFrom_3 : decode cX0_copyFrom 3 = .ok (.getfield 11, 3) := by decide +kernel
theorem dX0_copyFrom_6 : decode cX0_copyFrom 6 = .ok (.iconst 0, 1) := by decide +kernel
theorem dX0_copyFrom_7 : decode cX0_copyFrom 7 = .ok (.bipush 63, 2) := by decide +kernel
theorem dX0_copyFrom_9 : decode cX0_copyFrom 9 = .ok (.invokestatic 23, 3) := by decide +kernel
theorem dX0_copyFrom_12 : decode cX0_copyFrom 12 = .ok (.return_, 1) := by decide +kernel
theorem dX0_glasses_0 : decode cX0_glasses 0 = .ok (.aload_n 0, 1) := by decide +kernel
theorem dX0_glasses_1 : decode cX0_glasses 1 = .ok (.getfield 11, 3) := by decide +kernel
theorem dX0_glasses_4 : decode cX0_glasses 4 = .ok (.bipush 57, 2) := by decide +kernel
theorem dX0_glasses_6 : decode cX0_glasses 6 = .ok (.iaload, 1) := by decide +kernel
theorem dX0_glasses_7 : decode cX0_glasses 7 = .ok (.ireturn, 1) := by decide +kernel
set_option maxRecDepth 20000 in
theorem ggX0_has_X0_glasses : GoodIn wsX0_has wsX0_glasses := goodIn_r _ [5, 6, 7] (by decide +kernel) (by decide +kernel)
set_option maxRecDepth 20000 in
theorem gX0_has_X0_glasses : GoodIn wsX0_has (wsV RX0 29 RX0 yX0_glasses wsX0_glasses) := goodIn_app (goodIn_of _ (by decide +kernel)) ggX0_has_X0_glasses
theorem dX0_has_0 : decode cX0_has 0 = .ok (.iload_n 1, 1) := by decide +kernel
theorem dX0_has_1 : decode cX0_has 1 = .ok (.ifCond .lt 15, 3) := by decide +kernel
theorem dX0_has_4 : decode cX0_has 4 = .ok (.iload_n 1, 1) := by decide +kernel
theorem dX0_has_5 : decode cX0_has 5 = .ok (.aload_n 0, 1) := by decide +kernel
theorem dX0_has_6 : decode cX0_has 6 = .ok (.invokevirtual 29, 3) := by decide +kernel
theorem dX0_has_9 : decode cX0_has 9 = .ok (.if_icmp .ge 7, 3) := by decide +kernel
theorem dX0_has_12 : decode cX0_has 12 = .ok (.iconst 1, 1) := by decide +kernel
theorem dX0_has_13 : decode cX0_has 13 = .ok (.goto 4, 3) := by decide +kernel
theorem dX0_has_16 : decode cX0_has 16 = .ok (.iconst 0, 1) := by decide +kernel
theorem dX0_has_17 : decode cX0_has 17 = .ok (.ireturn, 1) := by decide +kernel
theorem dX0_property_0 : decode cX0_property 0 = .ok (.aload_n 0, 1) := by decide +kernel
theorem dX0_property_1 : decode cX0_property 1 = .ok (.getfield 11, 3) := by decide +kernel
theorem dX0_property_4 : decode cX0_property 4 = .ok (.iload_n 2, 1) := by decide +kernel
theorem dX0_property_5 : decode cX0_property 5 = .ok (.iconst 3, 1) := by decide +kernel
theorem dX0_property_6 : decode cX0_property 6 = .ok (.imul, 1) := by decide +kernel
theorem dX0_property_7 : decode cX0_property 7 = .ok (.iload_n 1, 1) := by decide +kernel
theorem dX0_property_8 : decode cX0_property 8 = .ok (.iadd, 1) := by decide +kernel
theorem dX0_property_9 : decode cX0_property 9 = .ok (.iaload, 1) := by decide +kernel
theorem dX0_property_10 : decode cX0_property 10 = .ok (.ireturn, 1) := by decide +kernel
theorem dX0_time_0 : decode cX0_time 0 = .ok (.aload_n 0, 1) := by decide +kernel
theorem dX0_time_1 : decode cX0_time 1 = .ok (.getfield 11, 3) := by decide +kernel
theorem dX0_time_4 : decode cX0_time 4 = .ok (.bipush 58, 2) := by decide +kernel
theorem dX0_time_6 : decode cX0_time 6 = .ok (.iaload, 1) := by decide +kernel
theorem dX0_time_7 : decode cX0_time 7 = .ok (.ireturn, 1) := by decide +kernel
theorem dX0_markedTime_0 : decode cX0_markedTime 0 = .ok (.aload_n 0, 1) := by decide +kernel
theorem dX0_markedTime_1 : decode cX0_markedTime 1 = .ok (.getfield 11, 3) := by decide +kernel
theorem dX0_markedTime_4 : decode cX0_markedTime 4 = .ok (.bipush 59, 2) := by decide +kernel
theorem dX0_markedTime_6 : decode cX0_markedTime 6 = .ok (.iaload, 1) := by decide +kernel
theorem dX0_markedTime_7 : decode cX0_markedTime 7 = .ok (.ireturn, 1) := by decide +kernel
theorem dX0_markTime_0 : decode cX0_markTime 0 = .ok (.aload_n 0, 1) := by decide +kernel
theorem dX0_markTime_1 : decode cX0_markTime 1 = .ok (.getfield 11, 3) := by decide +kernel
theorem dX0_markTime_4 : decode cX0_markTime 4 = .ok (.bipush 59, 2) := by decide +kernel
theorem dX0_markTime_6 : decode cX0_markTime 6 = .ok (.aload_n 0, 1) := by decide +kernel
theorem dX0_markTime_7 : decode cX0_markTime 7 = .ok (.getfield 11, 3) := by decide +kernel
theorem dX0_markTime_10 : decode cX0_markTime 10 = .ok (.bipush 58, 2) := by decide +kernel
theorem dX0_markTime_12 : decode cX0_markTime 12 = .ok (.iaload, 1) := by decide +kernel
theorem dX0_markTime_13 : decode cX0_markTime 13 = .ok (.iastore, 1) := by decide +kernel
theorem dX0_markTime_14 : decode cX0_markTime 14 = .ok (.return_, 1) := by decide +kernel
theorem dX0_turns_0 : decode cX0_turns 0 = .ok (.aload_n 0, 1) := by decide +kernel
theorem dX0_turns_1 : decode cX0_turns 1 = .ok (.getfield 11, 3) := by decide +kernel
theorem dX0_turns_4 : decode cX0_turns 4 = .ok (.bipush 61, 2) := by decide +kernel
theorem dX0_turns_6 : decode cX0_turns 6 = .ok (.iaload, 1) := by decide +kernel
theorem dX0_turns_7 : decode cX0_turns 7 = .ok (.ireturn, 1) := by decide +kernel
theorem dX0_taps_0 : decode cX0_taps 0 = .ok (.aload_n 0, 1) := by decide +kernel
theorem dX0_taps_1 : decode cX0_taps 1 = .ok (.getfield 11, 3) := by decide +kernel
theorem dX0_taps_4 : decode cX0_taps 4 = .ok (.bipush 62, 2) := by decide +kernel
theorem dX0_taps_6 : decode cX0_taps 6 = .ok (.iaload, 1) := by decide +kernel
theorem dX0_taps_7 : decode cX0_taps 7 = .ok (.ireturn, 1) := by decide +kernel
theorem dX0_eventsEver_0 : decode cX0_eventsEver 0 = .ok (.aload_n 0, 1) := by decide +kernel
theorem dX0_eventsEver_1 : decode cX0_eventsEver 1 = .ok (.getfield 11, 3) := by decide +kernel
theorem dX0_eventsEver_4 : decode cX0_eventsEver 4 = .ok (.bipush 60, 2) := by decide +kernel
theorem dX0_eventsEver_6 : decode cX0_eventsEver 6 = .ok (.iaload, 1) := by decide +kernel
theorem dX0_eventsEver_7 : decode cX0_eventsEver 7 = .ok (.ireturn, 1) := by decide +kernel
theorem dX0_eventsListed_0 : decode cX0_eventsListed 0 = .ok (.aload_n 0, 1) := by decide +kernel
theorem dX0_eventsListed_1 : decode cX0_eventsListed 1 = .ok (.getfield 11, 3) := by decide +kernel
theorem dX0_eventsListed_4 : decode cX0_eventsListed 4 = .ok (.bipush 60, 2) := by decide +kernel
theorem dX0_eventsListed_6 : decode cX0_eventsListed 6 = .ok (.iaload, 1) := by decide +kernel
theorem dX0_eventsListed_7 : decode cX0_eventsListed 7 = .ok (.bipush 12, 2) := by decide +kernel
theorem dX0_eventsListed_9 : decode cX0_eventsListed 9 = .ok (.invokestatic 33, 3) := by decide +kernel
theorem dX0_eventsListed_12 : decode cX0_eventsListed 12 = .ok (.ireturn, 1) := by decide +kernel
set_option maxRecDepth 20000 in
theorem ggX0_eventPart_X0_eventCell : GoodIn wsX0_eventPart wsX0_eventCell := goodIn_r _ [5] (by decide +kernel) (by decide +kernel)
set_option maxRecDepth 20000 in
theorem gX0_eventPart_X0_eventCell : GoodIn wsX0_eventPart (va_wsS RX0 39 yX0_eventCell wsX0_eventCell) := goodIn_app (goodIn_of _ (by decide +kernel)) ggX0_eventPart_X0_eventCell
theorem dX0_eventPart_0 : decode cX0_eventPart 0 = .ok (.aload_n 0, 1) := by decide +kernel
theorem dX0_eventPart_1 : decode cX0_eventPart 1 = .ok (.getfield 11, 3) := by decide +kernel
theorem dX0_eventPart_4 : decode cX0_eventPart 4 = .ok (.aload_n 0, 1) := by decide +kernel
theorem dX0_eventPart_5 : decode cX0_eventPart 5 = .ok (.getfield 11, 3) := by decide +kernel
theorem dX0_eventPart_8 : decode cX0_eventPart 8 = .ok (.bipush 60, 2) := by decide +kernel
theorem dX0_eventPart_10 : decode cX0_eventPart 10 = .ok (.iaload, 1) := by decide +kernel
theorem dX0_eventPart_11 : decode cX0_eventPart 11 = .ok (.iconst 1, 1) := by decide +kernel
theorem dX0_eventPart_12 : decode cX0_eventPart 12 = .ok (.isub, 1) := by decide +kernel
theorem dX0_eventPart_13 : decode cX0_eventPart 13 = .ok (.iload_n 1, 1) := by decide +kernel
theorem dX0_eventPart_14 : decode cX0_eventPart 14 = .ok (.isub, 1) := by decide +kernel
theorem dX0_eventPart_15 : decode cX0_eventPart 15 = .ok (.invokestatic 39, 3) := by decide +kernel
theorem dX0_eventPart_18 : decode cX0_eventPart 18 = .ok (.iload_n 2, 1) := by decide +kernel
theorem dX0_eventPart_19 : decode cX0_eventPart 19 = .ok (.iadd, 1) := by decide +kernel
theorem dX0_eventPart_20 : decode cX0_eventPart 20 = .ok (.iaload, 1) := by decide +kernel
theorem dX0_eventPart_21 : decode cX0_eventPart 21 = .ok (.ireturn, 1) := by decide +kernel
set_option maxRecDepth 20000 in
theorem ggX0_renew_X0_property : GoodIn wsX0_renew wsX0_property := goodIn_r _ [6, 1, 23] (by decide +kernel) (by decide +kernel)
set_option maxRecDepth 20000 in
theorem gX0_renew_X0_property : GoodIn wsX0_renew (wsV RX0 43 RX0 yX0_property wsX0_property) := goodIn_app (goodIn_of _ (by decide +kernel)) ggX0_renew_X0_property
set_option maxRecDepth 20000 in
theorem ggX0_renew_X0_fill : GoodIn wsX0_renew wsX0_fill := goodIn_r _ [10, 11, 12, 13, 5, 14, 1, 15, 16, 17, 18, 23] (by decide +kernel) (by decide +kernel)
set_option maxRecDepth 20000 in
theorem gX0_renew_X0_fill : GoodIn wsX0_renew (wsV RX0 19 RX0 yX0_fill wsX0_fill) := goodIn_app (goodIn_of _ (by decide +kernel)) ggX0_renew_X0_fill
set_option maxRecDepth 20000 in
theorem ggX0_renew_X0_makeKind : GoodIn wsX0_renew wsX0_makeKind := goodIn_r _ [22, 11, 12, 13, 5, 14, 1, 15, 16, 17, 18, 23] (by decide +kernel) (by decide +kernel)
set_option maxRecDepth 20000 in
theorem gX0_renew_X0_makeKind : GoodIn wsX0_renew (wsV RX0 46 RX0 yX0_makeKind wsX0_makeKind) := goodIn_app (goodIn_of _ (by decide +kernel)) ggX0_renew_X0_makeKind
set_option maxRecDepth 20000 in
theorem ggX0_renew_X0_put : GoodIn wsX0_renew wsX0_put := goodIn_r _ [14, 1, 23] (by decide +kernel) (by decide +kernel)
set_option maxRecDepth 20000 in
theorem gX0_renew_X0_put : GoodIn wsX0_renew (wsV RX0 50 RX0 yX0_put wsX0_put) := goodIn_app (goodIn_of _ (by decide +kernel)) ggX0_renew_X0_put
theorem dX0_renew_0 : decode cX0_renew 0 = .ok (.aload_n 0, 1) := by decide +kernel
theorem dX0_renew_1 : decode cX0_renew 1 = .ok (.getfield 11, 3) := by decide +kernel
theorem dX0_renew_4 : decode cX0_renew 4 = .ok (.bipush 57, 2) := by decide +kernel
theorem dX0_renew_6 : decode cX0_renew 6 = .ok (.iaload, 1) := by decide +kernel
theorem dX0_renew_7 : decode cX0_renew 7 = .ok (.istore_n 2, 1) := by decide +kernel
theorem dX0_renew_8 : decode cX0_renew 8 = .ok (.aload_n 0, 1) := by decide +kernel
theorem dX0_renew_9 : decode cX0_renew 9 = .ok (.getfield 11, 3) := by decide +kernel
theorem dX0_renew_12 : decode cX0_renew 12 = .ok (.bipush 57, 2) := by decide +kernel
theorem dX0_renew_14 : decode cX0_renew 14 = .ok (.iload_n 1, 1) := by decide +kernel
theorem dX0_renew_15 : decode cX0_renew 15 = .ok (.iastore, 1) := by decide +kernel
theorem dX0_renew_16 : decode cX0_renew 16 = .ok (.iconst 0, 1) := by decide +kernel
theorem dX0_renew_17 : decode cX0_renew 17 = .ok (.istore_n 3, 1) := by decide +kernel
theorem dX0_renew_18 : decode cX0_renew 18 = .ok (.iload_n 3, 1) := by decide +kernel
theorem dX0_renew_19 : decode cX0_renew 19 = .ok (.iload_n 1, 1) := by decide +kernel
theorem dX0_renew_20 : decode cX0_renew 20 = .ok (.if_icmp .ge 43, 3) := by decide +kernel
theorem dX0_renew_23 : decode cX0_renew 23 = .ok (.aload_n 0, 1) := by decide +kernel
theorem dX0_renew_24 : decode cX0_renew 24 = .ok (.iload_n 3, 1) := by decide +kernel
theorem dX0_renew_25 : decode cX0_renew 25 = .ok (.iload_n 3, 1) := by decide +kernel
theorem dX0_renew_26 : decode cX0_renew 26 = .ok (.iload_n 2, 1) := by decide +kernel
theorem dX0_renew_27 : decode cX0_renew 27 = .ok (.if_icmp .ge 12, 3) := by decide +kernel
theorem dX0_renew_30 : decode cX0_renew 30 = .ok (.aload_n 0, 1) := by decide +kernel
theorem dX0_renew_31 : decode cX0_renew 31 = .ok (.iload_n 3, 1) := by decide +kernel
theorem dX0_renew_32 : decode cX0_renew 32 = .ok (.iconst 0, 1) := by decide +kernel
theorem dX0_renew_33 : decode cX0_renew 33 = .ok (.invokevirtual 43, 3) := by decide +kernel
theorem dX0_renew_36 : decode cX0_renew 36 = .ok (.goto 4, 3) := by decide +kernel
theorem dX0_renew_39 : decode cX0_renew 39 = .ok (.iconst 5, 1) := by decide +kernel
theorem dX0_renew_40 : decode cX0_renew 40 = .ok (.invokevirtual 19, 3) := by decide +kernel
theorem dX0_renew_43 : decode cX0_renew 43 = .ok (.aload_n 0, 1) := by decide +kernel
theorem dX0_renew_44 : decode cX0_renew 44 = .ok (.iload_n 3, 1) := by decide +kernel
theorem dX0_renew_45 : decode cX0_renew 45 = .ok (.iconst 0, 1) := by decide +kernel
theorem dX0_renew_46 : decode cX0_renew 46 = .ok (.iconst 3, 1) := by decide +kernel
theorem dX0_renew_47 : decode cX0_renew 47 = .ok (.invokevirtual 46, 3) := by decide +kernel
theorem dX0_renew_50 : decode cX0_renew 50 = .ok (.aload_n 0, 1) := by decide +kernel
theorem dX0_renew_51 : decode cX0_renew 51 = .ok (.iload_n 3, 1) := by decide +kernel
theorem dX0_renew_52 : decode cX0_renew 52 = .ok (.iconst 5, 1) := by decide +kernel
theorem dX0_renew_53 : decode cX0_renew 53 = .ok (.iload_n 3, 1) := by decide +kernel
theorem dX0_renew_54 : decode cX0_renew 54 = .ok (.invokevirtual 50, 3) := by decide +kernel
theorem dX0_renew_57 : decode cX0_renew 57 = .ok (.iinc 3 1, 3) := by decide +kernel
theorem dX0_renew_60 : decode cX0_renew 60 = .ok (.goto (-42), 3) := by decide +kernel
theorem dX0_renew_63 : decode cX0_renew 63 = .ok (.return_, 1) := by decide +kernel
set_option maxRecDepth 20000 in
theorem ggX0_fill_X0_put : GoodIn wsX0_fill wsX0_put := goodIn_r _ [5, 6, 11] (by decide +kernel) (by decide +kernel)
set_option maxRecDepth 20000 in
theorem gX0_fill_X0_put : GoodIn wsX0_fill (wsV RX0 50 RX0 yX0_put wsX0_put) := goodIn_app (goodIn_of _ (by decide +kernel)) ggX0_fill_X0_put
set_option maxRecDepth 20000 in
theorem ggX0_fill_X0_free : GoodIn wsX0_fill wsX0_free := goodIn_r _ [10, 1, 2, 3, 4, 5, 6, 11] (by decide +kernel) (by decide +kernel)
set_option maxRecDepth 20000 in
theorem gX0_fill_X0_free : GoodIn wsX0_fill (wsV RX0 53 RX0 yX0_free wsX0_free) := goodIn_app (goodIn_of _ (by decide +kernel)) ggX0_fill_X0_free
theorem dX0_fill_0 : decode cX0_fill 0 = .ok (.aload_n 0, 1) := by decide +kernel
theorem dX0_fill_1 : decode cX0_fill 1 = .ok (.iload_n 1, 1) := by decide +kernel
theorem dX0_fill_2 : decode cX0_fill 2 = .ok (.iconst 0, 1) := by decide +kernel
theorem dX0_fill_3 : decode cX0_fill 3 = .ok (.iload_n 2, 1) := by decide +kernel
theorem dX0_fill_4 : decode cX0_fill 4 = .ok (.invokevirtual 50, 3) := by decide +kernel
theorem dX0_fill_7 : decode cX0_fill 7 = .ok (.aload_n 0, 1) := by decide +kernel
theorem dX0_fill_8 : decode cX0_fill 8 = .ok (.iload_n 1, 1) := by decide +kernel
theorem dX0_fill_9 : decode cX0_fill 9 = .ok (.iconst 1, 1) := by decide +kernel
theorem dX0_fill_10 : decode cX0_fill 10 = .ok (.iconst 0, 1) := by decide +kernel
theorem dX0_fill_11 : decode cX0_fill 11 = .ok (.invokevirtual 50, 3) := by decide +kernel
theorem dX0_fill_14 : decode cX0_fill 14 = .ok (.aload_n 0, 1) := by decide +kernel
theorem dX0_fill_15 : decode cX0_fill 15 = .ok (.iload_n 1, 1) := by decide +kernel
theorem dX0_fill_16 : decode cX0_fill 16 = .ok (.invokevirtual 53, 3) := by decide +kernel
theorem dX0_fill_19 : decode cX0_fill 19 = .ok (.return_, 1) := by decide +kernel
set_option maxRecDepth 20000 in
theorem ggX0_makeKind_X0_put : GoodIn wsX0_makeKind wsX0_put := goodIn_r _ [5, 6, 11] (by decide +kernel) (by decide +kernel)
set_option maxRecDepth 20000 in
theorem gX0_makeKind_X0_put : GoodIn wsX0_makeKind (wsV RX0 50 RX0 yX0_put wsX0_put) := goodIn_app (goodIn_of _ (by decide +kernel)) ggX0_makeKind_X0_put
set_option maxRecDepth 20000 in
theorem ggX0_makeKind_X0_free : GoodIn wsX0_makeKind wsX0_free := goodIn_r _ [10, 1, 2, 3, 4, 5, 6, 11] (by decide +kernel) (by decide +kernel)
set_option maxRecDepth 20000 in
theorem gX0_makeKind_X0_free : GoodIn wsX0_makeKind (wsV RX0 53 RX0 yX0_free wsX0_free) := goodIn_app (goodIn_of _ (by decide +kernel)) ggX0_makeKind_X0_free
theorem dX0_makeKind_0 : decode cX0_makeKind 0 = .ok (.aload_n 0, 1) := by decide +kernel
theorem dX0_makeKind_1 : decode cX0_makeKind 1 = .ok (.iload_n 1, 1) := by decide +kernel
theorem dX0_makeKind_2 : decode cX0_makeKind 2 = .ok (.iconst 2, 1) := by decide +kernel
theorem dX0_makeKind_3 : decode cX0_makeKind 3 = .ok (.iload_n 2, 1) := by decide +kernel
theorem dX0_makeKind_4 : decode cX0_makeKind 4 = .ok (.invokevirtual 50, 3) := by decide +kernel
theorem dX0_makeKind_7 : decode cX0_makeKind 7 = .ok (.aload_n 0, 1) := by decide +kernel
theorem dX0_makeKind_8 : decode cX0_makeKind 8 = .ok (.iload_n 1, 1) := by decide +kernel
theorem dX0_makeKind_9 : decode cX0_makeKind 9 = .ok (.iconst 3, 1) := by decide +kernel
theorem dX0_makeKind_10 : decode cX0_makeKind 10 = .ok (.iload_n 3, 1) := by decide +kernel
theorem dX0_makeKind_11 : decode cX0_makeKind 11 = .ok (.invokevirtual 50, 3) := by decide +kernel
theorem dX0_makeKind_14 : decode cX0_makeKind 14 = .ok (.aload_n 0, 1) := by decide +kernel
theorem dX0_makeKind_15 : decode cX0_makeKind 15 = .ok (.iload_n 1, 1) := by decide +kernel
theorem dX0_makeKind_16 : decode cX0_makeKind 16 = .ok (.invokevirtual 53, 3) := by decide +kernel
theorem dX0_makeKind_19 : decode cX0_makeKind 19 = .ok (.return_, 1) := by decide +kernel
set_option maxRecDepth 20000 in
theorem ggX0_stacks_X0_glasses : GoodIn wsX0_stacks wsX0_glasses := goodIn_r _ [5, 6, 11] (by decide +kernel) (by decide +kernel)
set_option maxRecDepth 20000 in
theorem gX0_stacks_X0_glasses : GoodIn wsX0_stacks (wsV RX0 29 RX0 yX0_glasses wsX0_glasses) := goodIn_app (goodIn_of _ (by decide +kernel)) ggX0_stacks_X0_glasses
set_option maxRecDepth 20000 in
theorem ggX0_stacks_X0_property : GoodIn wsX0_stacks wsX0_property := goodIn_r _ [10, 6, 11] (by decide +kernel) (by decide +kernel)
set_option maxRecDepth 20000 in
theorem gX0_stacks_X0_property : GoodIn wsX0_stacks (wsV RX0 43 RX0 yX0_property wsX0_property) := goodIn_app (goodIn_of _ (by decide +kernel)) ggX0_stacks_X0_property
theorem dX0_stacks_0 : decode cX0_stacks 0 = .ok (.iconst 0, 1) := by decide +kernel
theorem dX0_stacks_1 : decode cX0_stacks 1 = .ok (.istore_n 1, 1) := by decide +kernel
theorem dX0_stacks_2 : decode cX0_stacks 2 = .ok (.iconst 0, 1) := by decide +kernel
theorem dX0_stacks_3 : decode cX0_stacks 3 = .ok (.istore_n 2, 1) := by decide +kernel
theorem dX0_stacks_4 : decode cX0_stacks 4 = .ok (.iload_n 2, 1) := by decide +kernel
theorem dX0_stacks_5 : decode cX0_stacks 5 = .ok (.aload_n 0, 1) := by decide +kernel
theorem dX0_stacks_6 : decode cX0_stacks 6 = .ok (.invokevirtual 29, 3) := by decide +kernel
theorem dX0_stacks_9 : decode cX0_stacks 9 = .ok (.if_icmp .ge 22, 3) := by decide +kernel
theorem dX0_stacks_12 : decode cX0_stacks 12 = .ok (.aload_n 0, 1) := by decide +kernel
theorem dX0_stacks_13 : decode cX0_stacks 13 = .ok (.iload_n 2, 1) := by decide +kernel
theorem dX0_stacks_14 : decode cX0_stacks 14 = .ok (.iconst 5, 1) := by decide +kernel
theorem dX0_stacks_15 : decode cX0_stacks 15 = .ok (.invokevirtual 43, 3) := by decide +kernel
theorem dX0_stacks_18 : decode cX0_stacks 18 = .ok (.iload_n 2, 1) := by decide +kernel
theorem dX0_stacks_19 : decode cX0_stacks 19 = .ok (.if_icmp .ne 6, 3) := by decide +kernel
theorem dX0_stacks_22 : decode cX0_stacks 22 = .ok (.iinc 1 1, 3) := by decide +kernel
theorem dX0_stacks_25 : decode cX0_stacks 25 = .ok (.iinc 2 1, 3) := by decide +kernel
theorem dX0_stacks_28 : decode cX0_stacks 28 = .ok (.goto (-24), 3) := by decide +kernel
theorem dX0_stacks_31 : decode cX0_stacks 31 = .ok (.iload_n 1, 1) := by decide +kernel
theorem dX0_stacks_32 : decode cX0_stacks 32 = .ok (.ireturn, 1) := by decide +kernel
set_option maxRecDepth 20000 in
theorem ggX0_glassesOf_X0_glasses : GoodIn wsX0_glassesOf wsX0_glasses := goodIn_r _ [5, 6, 11] (by decide +kernel) (by decide +kernel)
set_option maxRecDepth 20000 in
theorem gX0_glassesOf_X0_glasses : GoodIn wsX0_glassesOf (wsV RX0 29 RX0 yX0_glasses wsX0_glasses) := goodIn_app (goodIn_of _ (by decide +kernel)) ggX0_glassesOf_X0_glasses
set_option maxRecDepth 20000 in
theorem ggX0_glassesOf_X0_property : GoodIn wsX0_glassesOf wsX0_property := goodIn_r _ [10, 6, 11] (by decide +kernel) (by decide +kernel)
set_option maxRecDepth 20000 in
theorem gX0_glassesOf_X0_property : GoodIn wsX0_glassesOf (wsV RX0 43 RX0 yX0_property wsX0_property) := goodIn_app (goodIn_of _ (by decide +kernel)) ggX0_glassesOf_X0_property
theorem dX0_glassesOf_0 : decode cX0_glassesOf 0 = .ok (.iconst 0, 1) := by decide +kernel
theorem dX0_glassesOf_1 : decode cX0_glassesOf 1 = .ok (.istore_n 2, 1) := by decide +kernel
theorem dX0_glassesOf_2 : decode cX0_glassesOf 2 = .ok (.iconst 0, 1) := by decide +kernel
theorem dX0_glassesOf_3 : decode cX0_glassesOf 3 = .ok (.istore_n 3, 1) := by decide +kernel
theorem dX0_glassesOf_4 : decode cX0_glassesOf 4 = .ok (.iload_n 3, 1) := by decide +kernel
theorem dX0_glassesOf_5 : decode cX0_glassesOf 5 = .ok (.aload_n 0, 1) := by decide +kernel
theorem dX0_glassesOf_6 : decode cX0_glassesOf 6 = .ok (.invokevirtual 29, 3) := by decide +kernel
theorem dX0_glassesOf_9 : decode cX0_glassesOf 9 = .ok (.if_icmp .ge 22, 3) := by decide +kernel
theorem dX0_glassesOf_12 : decode cX0_glassesOf 12 = .ok (.aload_n 0, 1) := by decide +kernel
theorem dX0_glassesOf_13 : decode cX0_glassesOf 13 = .ok (.iload_n 3, 1) := by decide +kernel
theorem dX0_glassesOf_14 : decode cX0_glassesOf 14 = .ok (.iconst 5, 1) := by decide +kernel
theorem dX0_glassesOf_15 : decode cX0_glassesOf 15 = .ok (.invokevirtual 43, 3) := by decide +kernel
theorem dX0_glassesOf_18 : decode cX0_glassesOf 18 = .ok (.iload_n 1, 1) := by decide +kernel
theorem dX0_glassesOf_19 : decode cX0_glassesOf 19 = .ok (.if_icmp .ne 6, 3) := by decide +kernel
theorem dX0_glassesOf_22 : decode cX0_glassesOf 22 = .ok (.iinc 2 1, 3) := by decide +kernel
theorem dX0_glassesOf_25 : decode cX0_glassesOf 25 = .ok (.iinc 3 1, 3) := by decide +kernel
theorem dX0_glassesOf_28 : decode cX0_glassesOf 28 = .ok (.goto (-24), 3) := by decide +kernel
theorem dX0_glassesOf_31 : decode cX0_glassesOf 31 = .ok (.iload_n 2, 1) := by decide +kernel
theorem dX0_glassesOf_32 : decode cX0_glassesOf 32 = .ok (.ireturn, 1) := by decide +kernel
set_option maxRecDepth 20000 in
theorem ggX0_join_X0_glasses : GoodIn wsX0_join wsX0_glasses := goodIn_r _ [9, 10, 19] (by decide +kernel) (by decide +kernel)
set_option maxRecDepth 20000 in
theorem gX0_join_X0_glasses : GoodIn wsX0_join (wsV RX0 29 RX0 yX0_glasses wsX0_glasses) := goodIn_app (goodIn_of _ (by decide +kernel)) ggX0_join_X0_glasses
set_option maxRecDepth 20000 in
theorem ggX0_join_X0_property : GoodIn wsX0_join wsX0_property := goodIn_r _ [14, 10, 19] (by decide +kernel) (by decide +kernel)
set_option maxRecDepth 20000 in
theorem gX0_join_X0_property : GoodIn wsX0_join (wsV RX0 43 RX0 yX0_property wsX0_property) := goodIn_app (goodIn_of _ (by decide +kernel)) ggX0_join_X0_property
set_option maxRecDepth 20000 in
theorem ggX0_join_X0_put : GoodIn wsX0_join wsX0_put := goodIn_r _ [18, 10, 19] (by decide +kernel) (by decide +kernel)
set_option maxRecDepth 20000 in
theorem gX0_join_X0_put : GoodIn wsX0_join (wsV RX0 50 RX0 yX0_put wsX0_put) := goodIn_app (goodIn_of _ (by decide +kernel)) ggX0_join_X0_put
theorem dX0_join_0 : decode cX0_join 0 = .ok (.iload_n 1, 1) := by decide +kernel
theorem dX0_join_1 : decode cX0_join 1 = .ok (.iload_n 2, 1) := by decide +kernel
theorem dX0_join_2 : decode cX0_join 2 = .ok (.invokestatic 33, 3) := by decide +kernel
theorem dX0_join_5 : decode cX0_join 5 = .ok (.istore_n 3, 1) := by decide +kernel
theorem dX0_join_6 : decode cX0_join 6 = .ok (.iconst 0, 1) := by decide +kernel
theorem dX0_join_7 : decode cX0_join 7 = .ok (.istore 4, 2) := by decide +kernel
theorem dX0_join_9 : decode cX0_join 9 = .ok (.iload 4, 2) := by decide +kernel
theorem dX0_join_11 : decode cX0_join 11 = .ok (.aload_n 0, 1) := by decide +kernel
theorem dX0_join_12 : decode cX0_join 12 = .ok (.invokevirtual 29, 3) := by decide +kernel
theorem dX0_join_15 : decode cX0_join 15 = .ok (.if_icmp .ge 39, 3) := by decide +kernel
theorem dX0_join_18 : decode cX0_join 18 = .ok (.aload_n 0, 1) := by decide +kernel
theorem dX0_join_19 : decode cX0_join 19 = .ok (.iload 4, 2) := by decide +kernel
theorem dX0_join_21 : decode cX0_join 21 = .ok (.iconst 5, 1) := by decide +kernel
theorem dX0_join_22 : decode cX0_join 22 = .ok (.invokevirtual 43, 3) := by decide +kernel
theorem dX0_join_25 : decode cX0_join 25 = .ok (.iload_n 1, 1) := by decide +kernel
theorem dX0_join_26 : decode cX0_join 26 = .ok (.if_icmp .eq 14, 3) := by decide +kernel
theorem dX0_join_29 : decode cX0_join 29 = .ok (.aload_n 0, 1) := by decide +kernel
theorem dX0_join_30 : decode cX0_join 30 = .ok (.iload 4, 2) := by decide +kernel
theorem dX0_join_32 : decode cX0_join 32 = .ok (.iconst 5, 1) := by decide +kernel
theorem dX0_join_33 : decode cX0_join 33 = .ok (.invokevirtual 43, 3) := by decide +kernel
theorem dX0_join_36 : decode cX0_join 36 = .ok (.iload_n 2, 1) := by decide +kernel
theorem dX0_join_37 : decode cX0_join 37 = .ok (.if_icmp .ne 11, 3) := by decide +kernel
theorem dX0_join_40 : decode cX0_join 40 = .ok (.aload_n 0, 1) := by decide +kernel
theorem dX0_join_41 : decode cX0_join 41 = .ok (.iload 4, 2) := by decide +kernel
theorem dX0_join_43 : decode cX0_join 43 = .ok (.iconst 5, 1) := by decide +kernel
theorem dX0_join_44 : decode cX0_join 44 = .ok (.iload_n 3, 1) := by decide +kernel
theorem dX0_join_45 : decode cX0_join 45 = .ok (.invokevirtual 50, 3) := by decide +kernel
theorem dX0_join_48 : decode cX0_join 48 = .ok (.iinc 4 1, 3) := by decide +kernel
theorem dX0_join_51 : decode cX0_join 51 = .ok (.goto (-42), 3) := by decide +kernel
theorem dX0_join_54 : decode cX0_join 54 = .ok (.return_, 1) := by decide +kernel
set_option maxRecDepth 20000 in
theorem ggX0_scatter_X0_glasses : GoodIn wsX0_scatter wsX0_glasses := goodIn_r _ [5, 6, 15] (by decide +kernel) (by decide +kernel)
set_option maxRecDepth 20000 in
theorem gX0_scatter_X0_glasses : GoodIn wsX0_scatter (wsV RX0 29 RX0 yX0_glasses wsX0_glasses) := goodIn_app (goodIn_of _ (by decide +kernel)) ggX0_scatter_X0_glasses
set_option maxRecDepth 20000 in
theorem ggX0_scatter_X0_property : GoodIn wsX0_scatter wsX0_property := goodIn_r _ [10, 6, 15] (by decide +kernel) (by decide +kernel)
set_option maxRecDepth 20000 in
theorem gX0_scatter_X0_property : GoodIn wsX0_scatter (wsV RX0 43 RX0 yX0_property wsX0_property) := goodIn_app (goodIn_of _ (by decide +kernel)) ggX0_scatter_X0_property
set_option maxRecDepth 20000 in
theorem ggX0_scatter_X0_put : GoodIn wsX0_scatter wsX0_put := goodIn_r _ [14, 6, 15] (by decide +kernel) (by decide +kernel)
set_option maxRecDepth 20000 in
theorem gX0_scatter_X0_put : GoodIn wsX0_scatter (wsV RX0 50 RX0 yX0_put wsX0_put) := goodIn_app (goodIn_of _ (by decide +kernel)) ggX0_scatter_X0_put
theorem dX0_scatter_0 : decode cX0_scatter 0 = .ok (.iconst 0, 1) := by decide +kernel
theorem dX0_scatter_1 : decode cX0_scatter 1 = .ok (.istore_n 2, 1) := by decide +kernel
theorem dX0_scatter_2 : decode cX0_scatter 2 = .ok (.iload_n 2, 1) := by decide +kernel
theorem dX0_scatter_3 : decode cX0_scatter 3 = .ok (.aload_n 0, 1) := by decide +kernel
theorem dX0_scatter_4 : decode cX0_scatter 4 = .ok (.invokevirtual 29, 3) := by decide +kernel
theorem dX0_scatter_7 : decode cX0_scatter 7 = .ok (.if_icmp .ge 26, 3) := by decide +kernel
theorem dX0_scatter_10 : decode cX0_scatter 10 = .ok (.aload_n 0, 1) := by decide +kernel
theorem dX0_scatter_11 : decode cX0_scatter 11 = .ok (.iload_n 2, 1) := by decide +kernel
theorem dX0_scatter_12 : decode cX0_scatter 12 = .ok (.iconst 5, 1) := by decide +kernel
theorem dX0_scatter_13 : decode cX0_scatter 13 = .ok (.invokevirtual 43, 3) := by decide +kernel
theorem dX0_scatter_16 : decode cX0_scatter 16 = .ok (.iload_n 1, 1) := by decide +kernel
theorem dX0_scatter_17 : decode cX0_scatter 17 = .ok (.if_icmp .ne 10, 3) := by decide +kernel
theorem dX0_scatter_20 : decode cX0_scatter 20 = .ok (.aload_n 0, 1) := by decide +kernel
theorem dX0_scatter_21 : decode cX0_scatter 21 = .ok (.iload_n 2, 1) := by decide +kernel
theorem dX0_scatter_22 : decode cX0_scatter 22 = .ok (.iconst 5, 1) := by decide +kernel
theorem dX0_scatter_23 : decode cX0_scatter 23 = .ok (.iload_n 2, 1) := by decide +kernel
theorem dX0_scatter_24 : decode cX0_scatter 24 = .ok (.invokevirtual 50, 3) := by decide +kernel
theorem dX0_scatter_27 : decode cX0_scatter 27 = .ok (.iinc 2 1, 3) := by decide +kernel
theorem dX0_scatter_30 : decode cX0_scatter 30 = .ok (.goto (-28), 3) := by decide +kernel
theorem dX0_scatter_33 : decode cX0_scatter 33 = .ok (.return_, 1) := by decide +kernel
set_option maxRecDepth 20000 in
theorem ggX0_turnStackOf_X0_property : GoodIn wsX0_turnStackOf wsX0_property := goodIn_r _ [6, 1, 19] (by decide +kernel) (by decide +kernel)
set_option maxRecDepth 20000 in
theorem gX0_turnStackOf_X0_property : GoodIn wsX0_turnStackOf (wsV RX0 43 RX0 yX0_property wsX0_property) := goodIn_app (goodIn_of _ (by decide +kernel)) ggX0_turnStackOf_X0_property
set_option maxRecDepth 20000 in
theorem ggX0_turnStackOf_X0_glasses : GoodIn wsX0_turnStackOf wsX0_glasses := goodIn_r _ [10, 1, 19] (by decide +kernel) (by decide +kernel)
set_option maxRecDepth 20000 in
theorem gX0_turnStackOf_X0_glasses : GoodIn wsX0_turnStackOf (wsV RX0 29 RX0 yX0_glasses wsX0_glasses) := goodIn_app (goodIn_of _ (by decide +kernel)) ggX0_turnStackOf_X0_glasses
set_option maxRecDepth 20000 in
theorem ggX0_turnStackOf_X0_put : GoodIn wsX0_turnStackOf wsX0_put := goodIn_r _ [14, 1, 19] (by decide +kernel) (by decide +kernel)
set_option maxRecDepth 20000 in
theorem gX0_turnStackOf_X0_put : GoodIn wsX0_turnStackOf (wsV RX0 50 RX0 yX0_put wsX0_put) := goodIn_app (goodIn_of _ (by decide +kernel)) ggX0_turnStackOf_X0_put
set_option maxRecDepth 20000 in
theorem ggX0_turnStackOf_X0_free : GoodIn wsX0_turnStackOf wsX0_free := goodIn_r _ [18, 11, 12, 13, 5, 14, 1, 19] (by decide +kernel) (by decide +kernel)
set_option maxRecDepth 20000 in
theorem gX0_turnStackOf_X0_free : GoodIn wsX0_turnStackOf (wsV RX0 53 RX0 yX0_free wsX0_free) := goodIn_app (goodIn_of _ (by decide +kernel)) ggX0_turnStackOf_X0_free
theorem dX0_turnStackOf_0 : decode cX0_turnStackOf 0 = .ok (.aload_n 0, 1) := by decide +kernel
theorem dX0_turnStackOf_1 : decode cX0_turnStackOf 1 = .ok (.iload_n 1, 1) := by decide +kernel
theorem dX0_turnStackOf_2 : decode cX0_turnStackOf 2 = .ok (.iconst 5, 1) := by decide +kernel
theorem dX0_turnStackOf_3 : decode cX0_turnStackOf 3 = .ok (.invokevirtual 43, 3) := by decide +kernel
theorem dX0_turnStackOf_6 : decode cX0_turnStackOf 6 = .ok (.istore_n 2, 1) := by decide +kernel
theorem dX0_turnStackOf_7 : decode cX0_turnStackOf 7 = .ok (.iconst 0, 1) := by decide +kernel
theorem dX0_turnStackOf_8 : decode cX0_turnStackOf 8 = .ok (.istore_n 3, 1) := by decide +kernel
theorem dX0_turnStackOf_9 : decode cX0_turnStackOf 9 = .ok (.iload_n 3, 1) := by decide +kernel
theorem dX0_turnStackOf_10 : decode cX0_turnStackOf 10 = .ok (.aload_n 0, 1) := by decide +kernel
theorem dX0_turnStackOf_11 : decode cX0_turnStackOf 11 = .ok (.invokevirtual 29, 3) := by decide +kernel
theorem dX0_turnStackOf_14 : decode cX0_turnStackOf 14 = .ok (.if_icmp .ge 43, 3) := by decide +kernel
theorem dX0_turnStackOf_17 : decode cX0_turnStackOf 17 = .ok (.aload_n 0, 1) := by decide +kernel
theorem dX0_turnStackOf_18 : decode cX0_turnStackOf 18 = .ok (.iload_n 3, 1) := by decide +kernel
theorem dX0_turnStackOf_19 : decode cX0_turnStackOf 19 = .ok (.iconst 5, 1) := by decide +kernel
theorem dX0_turnStackOf_20 : decode cX0_turnStackOf 20 = .ok (.invokevirtual 43, 3) := by decide +kernel
theorem dX0_turnStackOf_23 : decode cX0_turnStackOf 23 = .ok (.iload_n 2, 1) := by decide +kernel
theorem dX0_turnStackOf_24 : decode cX0_turnStackOf 24 = .ok (.if_icmp .ne 27, 3) := by decide +kernel
theorem dX0_turnStackOf_27 : decode cX0_turnStackOf 27 = .ok (.aload_n 0, 1) := by decide +kernel
theorem dX0_turnStackOf_28 : decode cX0_turnStackOf 28 = .ok (.iload_n 3, 1) := by decide +kernel
theorem dX0_turnStackOf_29 : decode cX0_turnStackOf 29 = .ok (.iconst 1, 1) := by decide +kernel
theorem dX0_turnStackOf_30 : decode cX0_turnStackOf 30 = .ok (.aload_n 0, 1) := by decide +kernel
theorem dX0_turnStackOf_31 : decode cX0_turnStackOf 31 = .ok (.iload_n 3, 1) := by decide +kernel
theorem dX0_turnStackOf_32 : decode cX0_turnStackOf 32 = .ok (.iconst 0, 1) := by decide +kernel
theorem dX0_turnStackOf_33 : decode cX0_turnStackOf 33 = .ok (.invokevirtual 43, 3) := by decide +kernel
theorem dX0_turnStackOf_36 : decode cX0_turnStackOf 36 = .ok (.aload_n 0, 1) := by decide +kernel
theorem dX0_turnStackOf_37 : decode cX0_turnStackOf 37 = .ok (.iload_n 3, 1) := by decide +kernel
theorem dX0_turnStackOf_38 : decode cX0_turnStackOf 38 = .ok (.iconst 1, 1) := by decide +kernel
theorem dX0_turnStackOf_39 : decode cX0_turnStackOf 39 = .ok (.invokevirtual 43, 3) := by decide +kernel
theorem dX0_turnStackOf_42 : decode cX0_turnStackOf 42 = .ok (.isub, 1) := by decide +kernel
theorem dX0_turnStackOf_43 : decode cX0_turnStackOf 43 = .ok (.invokevirtual 50, 3) := by decide +kernel
theorem dX0_turnStackOf_46 : decode cX0_turnStackOf 46 = .ok (.aload_n 0, 1) := by decide +kernel
theorem dX0_turnStackOf_47 : decode cX0_turnStackOf 47 = .ok (.iload_n 3, 1) := by decide +kernel
theorem dX0_turnStackOf_48 : decode cX0_turnStackOf 48 = .ok (.invokevirtual 53, 3) := by decide +kernel
theorem dX0_turnStackOf_51 : decode cX0_turnStackOf 51 = .ok (.iinc 3 1, 3) := by decide +kernel
theorem dX0_turnStackOf_54 : decode cX0_turnStackOf 54 = .ok (.goto (-45), 3) := by decide +kernel
theorem dX0_turnStackOf_57 : decode cX0_turnStackOf 57 = .ok (.aload_n 0, 1) := by decide +kernel
theorem dX0_turnStackOf_58 : decode cX0_turnStackOf 58 = .ok (.getfield 11, 3) := by decide +kernel
theorem dX0_turnStackOf_61 : decode cX0_turnStackOf 61 = .ok (.bipush 61, 2) := by decide +kernel
theorem dX0_turnStackOf_63 : decode cX0_turnStackOf 63 = .ok (.dup2, 1) := by decide +kernel
theorem dX0_turnStackOf_64 : decode cX0_turnStackOf 64 = .ok (.iaload, 1) := by decide +kernel
theorem dX0_turnStackOf_65 : decode cX0_turnStackOf 65 = .ok (.iconst 1, 1) := by decide +kernel
theorem dX0_turnStackOf_66 : decode cX0_turnStackOf 66 = .ok (.iadd, 1) := by decide +kernel
theorem dX0_turnStackOf_67 : decode cX0_turnStackOf 67 = .ok (.iastore, 1) := by decide +kernel
theorem dX0_turnStackOf_68 : decode cX0_turnStackOf 68 = .ok (.return_, 1) := by decide +kernel
set_option maxRecDepth 20000 in
theorem ggX0_tapGlass_X0_free : GoodIn wsX0_tapGlass wsX0_free := goodIn_r _ [6, 7, 8, 9, 5, 10, 1, 11] (by decide +kernel) (by decide +kernel)
set_option maxRecDepth 20000 in
theorem gX0_tapGlass_X0_free : GoodIn wsX0_tapGlass (wsV RX0 53 RX0 yX0_free wsX0_free) := goodIn_app (goodIn_of _ (by decide +kernel)) ggX0_tapGlass_X0_free
theorem dX0_tapGlass_0 : decode cX0_tapGlass 0 = .ok (.aload_n 0, 1) := by decide +kernel
theorem dX0_tapGlass_1 : decode cX0_tapGlass 1 = .ok (.iload_n 1, 1) := by decide +kernel
theorem dX0_tapGlass_2 : decode cX0_tapGlass 2 = .ok (.invokevirtual 53, 3) := by decide +kernel
theorem dX0_tapGlass_5 : decode cX0_tapGlass 5 = .ok (.aload_n 0, 1) := by decide +kernel
theorem dX0_tapGlass_6 : decode cX0_tapGlass 6 = .ok (.getfield 11, 3) := by decide +kernel
theorem dX0_tapGlass_9 : decode cX0_tapGlass 9 = .ok (.bipush 62, 2) := by decide +kernel
theorem dX0_tapGlass_11 : decode cX0_tapGlass 11 = .ok (.dup2, 1) := by decide +kernel
theorem dX0_tapGlass_12 : decode cX0_tapGlass 12 = .ok (.iaload, 1) := by decide +kernel
theorem dX0_tapGlass_13 : decode cX0_tapGlass 13 = .ok (.iconst 1, 1) := by decide +kernel
theorem dX0_tapGlass_14 : decode cX0_tapGlass 14 = .ok (.iadd, 1) := by decide +kernel
theorem dX0_tapGlass_15 : decode cX0_tapGlass 15 = .ok (.iastore, 1) := by decide +kernel
theorem dX0_tapGlass_16 : decode cX0_tapGlass 16 = .ok (.return_, 1) := by decide +kernel
set_option maxRecDepth 20000 in
theorem ggX0_runs_X0_property : GoodIn wsX0_runs wsX0_property := goodIn_r _ [5, 6, 7] (by decide +kernel) (by decide +kernel)
set_option maxRecDepth 20000 in
theorem gX0_runs_X0_property : GoodIn wsX0_runs (wsV RX0 43 RX0 yX0_property wsX0_property) := goodIn_app (goodIn_of _ (by decide +kernel)) ggX0_runs_X0_property
theorem dX0_runs_0 : decode cX0_runs 0 = .ok (.aload_n 0, 1) := by decide +kernel
theorem dX0_runs_1 : decode cX0_runs 1 = .ok (.iload_n 1, 1) := by decide +kernel
theorem dX0_runs_2 : decode cX0_runs 2 = .ok (.iconst 1, 1) := by decide +kernel
theorem dX0_runs_3 : decode cX0_runs 3 = .ok (.invokevirtual 43, 3) := by decide +kernel
theorem dX0_runs_6 : decode cX0_runs 6 = .ok (.ifCond .le 26, 3) := by decide +kernel
theorem dX0_runs_9 : decode cX0_runs 9 = .ok (.aload_n 0, 1) := by decide +kernel
theorem dX0_runs_10 : decode cX0_runs 10 = .ok (.iload_n 1, 1) := by decide +kernel
theorem dX0_runs_11 : decode cX0_runs 11 = .ok (.iconst 2, 1) := by decide +kernel
theorem dX0_runs_12 : decode cX0_runs 12 = .ok (.invokevirtual 43, 3) := by decide +kernel
theorem dX0_runs_15 : decode cX0_runs 15 = .ok (.iconst 2, 1) := by decide +kernel
theorem dX0_runs_16 : decode cX0_runs 16 = .ok (.if_icmp .eq 16, 3) := by decide +kernel
theorem dX0_runs_19 : decode cX0_runs 19 = .ok (.aload_n 0, 1) := by decide +kernel
theorem dX0_runs_20 : decode cX0_runs 20 = .ok (.iload_n 1, 1) := by decide +kernel
theorem dX0_runs_21 : decode cX0_runs 21 = .ok (.iconst 4, 1) := by decide +kernel
theorem dX0_runs_22 : decode cX0_runs 22 = .ok (.invokevirtual 43, 3) := by decide +kernel
theorem dX0_runs_25 : decode cX0_runs 25 = .ok (.ifCond .ne 7, 3) := by decide +kernel
theorem dX0_runs_28 : decode cX0_runs 28 = .ok (.iconst 1, 1) := by decide +kernel
theorem dX0_runs_29 : decode cX0_runs 29 = .ok (.goto 4, 3) := by decide +kernel
theorem dX0_runs_32 : decode cX0_runs 32 = .ok (.iconst 0, 1) := by decide +kernel
theorem dX0_runs_33 : decode cX0_runs 33 = .ok (.ireturn, 1) := by decide +kernel
theorem dX0_hasTimeFor_0 : decode cX0_hasTimeFor 0 = .ok (.iload_n 1, 1) := by decide +kernel
theorem dX0_hasTimeFor_1 : decode cX0_hasTimeFor 1 = .ok (.sipush 9999, 3) := by decide +kernel
theorem dX0_hasTimeFor_4 : decode cX0_hasTimeFor 4 = .ok (.aload_n 0, 1) := by decide +kernel
theorem dX0_hasTimeFor_5 : decode cX0_hasTimeFor 5 = .ok (.getfield 11, 3) := by decide +kernel
theorem dX0_hasTimeFor_8 : decode cX0_hasTimeFor 8 = .ok (.bipush 58, 2) := by decide +kernel
theorem dX0_hasTimeFor_10 : decode cX0_hasTimeFor 10 = .ok (.iaload, 1) := by decide +kernel
theorem dX0_hasTimeFor_11 : decode cX0_hasTimeFor 11 = .ok (.isub, 1) := by decide +kernel
theorem dX0_hasTimeFor_12 : decode cX0_hasTimeFor 12 = .ok (.if_icmp .gt 7, 3) := by decide +kernel
theorem dX0_hasTimeFor_15 : decode cX0_hasTimeFor 15 = .ok (.iconst 1, 1) := by decide +kernel
theorem dX0_hasTimeFor_16 : decode cX0_hasTimeFor 16 = .ok (.goto 4, 3) := by decide +kernel
theorem dX0_hasTimeFor_19 : decode cX0_hasTimeFor 19 = .ok (.iconst 0, 1) := by decide +kernel
theorem dX0_hasTimeFor_20 : decode cX0_hasTimeFor 20 = .ok (.ireturn, 1) := by decide +kernel
set_option maxRecDepth 20000 in
theorem ggX0_secondsToEvent_X0_glasses : GoodIn wsX0_secondsToEvent wsX0_glasses := goodIn_r _ [5, 6, 23] (by decide +kernel) (by decide +kernel)
set_option maxRecDepth 20000 in
theorem gX0_secondsToEvent_X0_glasses : GoodIn wsX0_secondsToEvent (wsV RX0 29 RX0 yX0_glasses wsX0_glasses) := goodIn_app (goodIn_of _ (by decide +kernel)) ggX0_secondsToEvent_X0_glasses
set_option maxRecDepth 20000 in
theorem ggX0_secondsToEvent_X0_runs : GoodIn wsX0_secondsToEvent wsX0_runs := goodIn_r _ [10, 11, 12, 13, 4, 14, 6, 23] (by decide +kernel) (by decide +kernel)
set_option maxRecDepth 20000 in
theorem gX0_secondsToEvent_X0_runs : GoodIn wsX0_secondsToEvent (wsV RX0 56 RX0 yX0_runs wsX0_runs) := goodIn_app (goodIn_of _ (by decide +kernel)) ggX0_secondsToEvent_X0_runs
set_option maxRecDepth 20000 in
theorem ggX0_secondsToEvent_X0_secondsToEventOf : GoodIn wsX0_secondsToEvent wsX0_secondsToEventOf := goodIn_r _ [18, 19, 20, 21, 22, 11, 12, 13, 4, 14, 6, 23] (by decide +kernel) (by decide +kernel)
set_option maxRecDepth 20000 in
theorem gX0_secondsToEvent_X0_secondsToEventOf : GoodIn wsX0_secondsToEvent (wsV RX0 60 RX0 yX0_secondsToEventOf wsX0_secondsToEventOf) := goodIn_app (goodIn_of _ (by decide +kernel)) ggX0_secondsToEvent_X0_secondsToEventOf
theorem dX0_secondsToEvent_0 : decode cX0_secondsToEvent 0 = .ok (.iconst 0, 1) := by decide +kernel
theorem dX0_secondsToEvent_1 : decode cX0_secondsToEvent 1 = .ok (.istore_n 1, 1) := by decide +kernel
theorem dX0_secondsToEvent_2 : decode cX0_secondsToEvent 2 = .ok (.iconst 0, 1) := by decide +kernel
theorem dX0_secondsToEvent_3 : decode cX0_secondsToEvent 3 = .ok (.istore_n 2, 1) := by decide +kernel
theorem dX0_secondsToEvent_4 : decode cX0_secondsToEvent 4 = .ok (.iload_n 2, 1) := by decide +kernel
theorem dX0_secondsToEvent_5 : decode cX0_secondsToEvent 5 = .ok (.aload_n 0, 1) := by decide +kernel
theorem dX0_secondsToEvent_6 : decode cX0_secondsToEvent 6 = .ok (.invokevirtual 29, 3) := by decide +kernel
theorem dX0_secondsToEvent_9 : decode cX0_secondsToEvent 9 = .ok (.if_icmp .ge 36, 3) := by decide +kernel
theorem dX0_secondsToEvent_12 : decode cX0_secondsToEvent 12 = .ok (.aload_n 0, 1) := by decide +kernel
theorem dX0_secondsToEvent_13 : decode cX0_secondsToEvent 13 = .ok (.iload_n 2, 1) := by decide +kernel
theorem dX0_secondsToEvent_14 : decode cX0_secondsToEvent 14 = .ok (.invokevirtual 56, 3) := by decide +kernel
theorem dX0_secondsToEvent_17 : decode cX0_secondsToEvent 17 = .ok (.ifCond .eq 22, 3) := by decide +kernel
theorem dX0_secondsToEvent_20 : decode cX0_secondsToEvent 20 = .ok (.iload_n 1, 1) := by decide +kernel
theorem dX0_secondsToEvent_21 : decode cX0_secondsToEvent 21 = .ok (.ifCond .eq 12, 3) := by decide +kernel
theorem dX0_secondsToEvent_24 : decode cX0_secondsToEvent 24 = .ok (.aload_n 0, 1) := by decide +kernel
theorem dX0_secondsToEvent_25 : decode cX0_secondsToEvent 25 = .ok (.iload_n 2, 1) := by decide +kernel
theorem dX0_secondsToEvent_26 : decode cX0_secondsToEvent 26 = .ok (.invokevirtual 60, 3) := by decide +kernel
theorem dX0_secondsToEvent_29 : decode cX0_secondsToEvent 29 = .ok (.iload_n 1, 1) := by decide +kernel
theorem dX0_secondsToEvent_30 : decode cX0_secondsToEvent 30 = .ok (.if_icmp .ge 9, 3) := by decide +kernel
theorem dX0_secondsToEvent_33 : decode cX0_secondsToEvent 33 = .ok (.aload_n 0, 1) := by decide +kernel
theorem dX0_secondsToEvent_34 : decode cX0_secondsToEvent 34 = .ok (.iload_n 2, 1) := by decide +kernel
theorem dX0_secondsToEvent_35 : decode cX0_secondsToEvent 35 = .ok (.invokevirtual 60, 3) := by decide +kernel
theorem dX0_secondsToEvent_38 : decode cX0_secondsToEvent 38 = .ok (.istore_n 1, 1) := by decide +kernel
theorem dX0_secondsToEvent_39 : decode cX0_secondsToEvent 39 = .ok (.iinc 2 1, 3) := by decide +kernel
theorem dX0_secondsToEvent_42 : decode cX0_secondsToEvent 42 = .ok (.goto (-38), 3) := by decide +kernel
theorem dX0_secondsToEvent_45 : decode cX0_secondsToEvent 45 = .ok (.iload_n 1, 1) := by decide +kernel
theorem dX0_secondsToEvent_46 : decode cX0_secondsToEvent 46 = .ok (.ireturn, 1) := by decide +kernel
set_option maxRecDepth 20000 in
theorem ggX0_letPass_X0_secondsToEvent : GoodIn wsX0_letPass wsX0_secondsToEvent := goodIn_r _ [6, 7, 8, 9, 5, 10, 1, 11, 12, 13, 14, 15, 16, 17, 18, 19, 20, 21, 22, 23, 24, 25, 26, 46] (by decide +kernel) (by decide +kernel)
set_option maxRecDepth 20000 in
theorem gX0_letPass_X0_secondsToEvent : GoodIn wsX0_letPass (wsV RX0 63 RX0 yX0_secondsToEvent wsX0_secondsToEvent) := goodIn_app (goodIn_of _ (by decide +kernel)) ggX0_letPass_X0_secondsToEvent
set_option maxRecDepth 20000 in
theorem ggX0_letPass_X0_passSecond : GoodIn wsX0_letPass wsX0_passSecond := goodIn_r _ [30, 1, 7, 8, 9, 5, 10, 11, 12, 13, 14, 15, 16, 17, 18, 31, 32, 33, 34, 35, 36, 37, 38, 39, 40, 41, 42, 43, 44, 45, 46] (by decide +kernel) (by decide +kernel)
set_option maxRecDepth 20000 in
theorem gX0_letPass_X0_passSecond : GoodIn wsX0_letPass (wsV RX0 66 RX0 yX0_passSecond wsX0_passSecond) := goodIn_app (goodIn_of _ (by decide +kernel)) ggX0_letPass_X0_passSecond
theorem dX0_letPass_0 : decode cX0_letPass 0 = .ok (.aload_n 0, 1) := by decide +kernel
theorem dX0_letPass_1 : decode cX0_letPass 1 = .ok (.getfield 11, 3) := by decide +kernel
theorem dX0_letPass_4 : decode cX0_letPass 4 = .ok (.bipush 60, 2) := by decide +kernel
theorem dX0_letPass_6 : decode cX0_letPass 6 = .ok (.iaload, 1) := by decide +kernel
theorem dX0_letPass_7 : decode cX0_letPass 7 = .ok (.istore_n 2, 1) := by decide +kernel
theorem dX0_letPass_8 : decode cX0_letPass 8 = .ok (.iload_n 1, 1) := by decide +kernel
theorem dX0_letPass_9 : decode cX0_letPass 9 = .ok (.istore_n 3, 1) := by decide +kernel
theorem dX0_letPass_10 : decode cX0_letPass 10 = .ok (.iload_n 3, 1) := by decide +kernel
theorem dX0_letPass_11 : decode cX0_letPass 11 = .ok (.ifCond .le 20, 3) := by decide +kernel
theorem dX0_letPass_14 : decode cX0_letPass 14 = .ok (.aload_n 0, 1) := by decide +kernel
theorem dX0_letPass_15 : decode cX0_letPass 15 = .ok (.invokevirtual 63, 3) := by decide +kernel
theorem dX0_letPass_18 : decode cX0_letPass 18 = .ok (.ifCond .le 13, 3) := by decide +kernel
theorem dX0_letPass_21 : decode cX0_letPass 21 = .ok (.aload_n 0, 1) := by decide +kernel
theorem dX0_letPass_22 : decode cX0_letPass 22 = .ok (.invokevirtual 66, 3) := by decide +kernel
theorem dX0_letPass_25 : decode cX0_letPass 25 = .ok (.iinc 3 (-1), 3) := by decide +kernel
theorem dX0_letPass_28 : decode cX0_letPass 28 = .ok (.goto (-18), 3) := by decide +kernel
theorem dX0_letPass_31 : decode cX0_letPass 31 = .ok (.aload_n 0, 1) := by decide +kernel
theorem dX0_letPass_32 : decode cX0_letPass 32 = .ok (.getfield 11, 3) := by decide +kernel
theorem dX0_letPass_35 : decode cX0_letPass 35 = .ok (.bipush 58, 2) := by decide +kernel
theorem dX0_letPass_37 : decode cX0_letPass 37 = .ok (.dup2, 1) := by decide +kernel
theorem dX0_letPass_38 : decode cX0_letPass 38 = .ok (.iaload, 1) := by decide +kernel
theorem dX0_letPass_39 : decode cX0_letPass 39 = .ok (.iload_n 3, 1) := by decide +kernel
theorem dX0_letPass_40 : decode cX0_letPass 40 = .ok (.iadd, 1) := by decide +kernel
theorem dX0_letPass_41 : decode cX0_letPass 41 = .ok (.iastore, 1) := by decide +kernel
theorem dX0_letPass_42 : decode cX0_letPass 42 = .ok (.aload_n 0, 1) := by decide +kernel
theorem dX0_letPass_43 : decode cX0_letPass 43 = .ok (.getfield 11, 3) := by decide +kernel
theorem dX0_letPass_46 : decode cX0_letPass 46 = .ok (.bipush 60, 2) := by decide +kernel
theorem dX0_letPass_48 : decode cX0_letPass 48 = .ok (.iaload, 1) := by decide +kernel
theorem dX0_letPass_49 : decode cX0_letPass 49 = .ok (.iload_n 2, 1) := by decide +kernel
theorem dX0_letPass_50 : decode cX0_letPass 50 = .ok (.isub, 1) := by decide +kernel
theorem dX0_letPass_51 : decode cX0_letPass 51 = .ok (.ireturn, 1) := by decide +kernel
set_option maxRecDepth 20000 in
theorem ggX0_passSecond_X0_glasses : GoodIn wsX0_passSecond wsX0_glasses := goodIn_r _ [6, 1, 30] (by decide +kernel) (by decide +kernel)
set_option maxRecDepth 20000 in
theorem gX0_passSecond_X0_glasses : GoodIn wsX0_passSecond (wsV RX0 29 RX0 yX0_glasses wsX0_glasses) := goodIn_app (goodIn_of _ (by decide +kernel)) ggX0_passSecond_X0_glasses
set_option maxRecDepth 20000 in
theorem ggX0_passSecond_X0_runs : GoodIn wsX0_passSecond wsX0_runs := goodIn_r _ [10, 11, 12, 13, 5, 14, 1, 30] (by decide +kernel) (by decide +kernel)
set_option maxRecDepth 20000 in
theorem gX0_passSecond_X0_runs : GoodIn wsX0_passSecond (wsV RX0 56 RX0 yX0_runs wsX0_runs) := goodIn_app (goodIn_of _ (by decide +kernel)) ggX0_passSecond_X0_runs
set_option maxRecDepth 20000 in
theorem ggX0_passSecond_X0_sink : GoodIn wsX0_passSecond wsX0_sink := goodIn_r _ [18, 11, 12, 13, 5, 14, 1, 19, 20, 21, 22, 23, 24, 25, 26, 27, 28, 29, 30] (by decide +kernel) (by decide +kernel)
set_option maxRecDepth 20000 in
theorem gX0_passSecond_X0_sink : GoodIn wsX0_passSecond (wsV RX0 69 RX0 yX0_sink wsX0_sink) := goodIn_app (goodIn_of _ (by decide +kernel)) ggX0_passSecond_X0_sink
theorem dX0_passSecond_0 : decode cX0_passSecond 0 = .ok (.aload_n 0, 1) := by decide +kernel
theorem dX0_passSecond_1 : decode cX0_passSecond 1 = .ok (.getfield 11, 3) := by decide +kernel
theorem dX0_passSecond_4 : decode cX0_passSecond 4 = .ok (.bipush 58, 2) := by decide +kernel
theorem dX0_passSecond_6 : decode cX0_passSecond 6 = .ok (.dup2, 1) := by decide +kernel
theorem dX0_passSecond_7 : decode cX0_passSecond 7 = .ok (.iaload, 1) := by decide +kernel
theorem dX0_passSecond_8 : decode cX0_passSecond 8 = .ok (.iconst 1, 1) := by decide +kernel
theorem dX0_passSecond_9 : decode cX0_passSecond 9 = .ok (.iadd, 1) := by decide +kernel
theorem dX0_passSecond_10 : decode cX0_passSecond 10 = .ok (.iastore, 1) := by decide +kernel
theorem dX0_passSecond_11 : decode cX0_passSecond 11 = .ok (.iconst 0, 1) := by decide +kernel
theorem dX0_passSecond_12 : decode cX0_passSecond 12 = .ok (.istore_n 1, 1) := by decide +kernel
theorem dX0_passSecond_13 : decode cX0_passSecond 13 = .ok (.iload_n 1, 1) := by decide +kernel
theorem dX0_passSecond_14 : decode cX0_passSecond 14 = .ok (.aload_n 0, 1) := by decide +kernel
theorem dX0_passSecond_15 : decode cX0_passSecond 15 = .ok (.invokevirtual 29, 3) := by decide +kernel
theorem dX0_passSecond_18 : decode cX0_passSecond 18 = .ok (.if_icmp .ge 22, 3) := by decide +kernel
theorem dX0_passSecond_21 : decode cX0_passSecond 21 = .ok (.aload_n 0, 1) := by decide +kernel
theorem dX0_passSecond_22 : decode cX0_passSecond 22 = .ok (.iload_n 1, 1) := by decide +kernel
theorem dX0_passSecond_23 : decode cX0_passSecond 23 = .ok (.invokevirtual 56, 3) := by decide +kernel
theorem dX0_passSecond_26 : decode cX0_passSecond 26 = .ok (.ifCond .eq 8, 3) := by decide +kernel
theorem dX0_passSecond_29 : decode cX0_passSecond 29 = .ok (.aload_n 0, 1) := by decide +kernel
theorem dX0_passSecond_30 : decode cX0_passSecond 30 = .ok (.iload_n 1, 1) := by decide +kernel
theorem dX0_passSecond_31 : decode cX0_passSecond 31 = .ok (.invokevirtual 69, 3) := by decide +kernel
theorem dX0_passSecond_34 : decode cX0_passSecond 34 = .ok (.iinc 1 1, 3) := by decide +kernel
theorem dX0_passSecond_37 : decode cX0_passSecond 37 = .ok (.goto (-24), 3) := by decide +kernel
theorem dX0_passSecond_40 : decode cX0_passSecond 40 = .ok (.return_, 1) := by decide +kernel
set_option maxRecDepth 20000 in
theorem ggX0_sink_X0_property : GoodIn wsX0_sink wsX0_property := goodIn_r _ [5, 6, 18] (by decide +kernel) (by decide +kernel)
set_option maxRecDepth 20000 in
theorem gX0_sink_X0_property : GoodIn wsX0_sink (wsV RX0 43 RX0 yX0_property wsX0_property) := goodIn_app (goodIn_of _ (by decide +kernel)) ggX0_sink_X0_property
set_option maxRecDepth 20000 in
theorem ggX0_sink_X0_put : GoodIn wsX0_sink wsX0_put := goodIn_r _ [10, 6, 18] (by decide +kernel) (by decide +kernel)
set_option maxRecDepth 20000 in
theorem gX0_sink_X0_put : GoodIn wsX0_sink (wsV RX0 50 RX0 yX0_put wsX0_put) := goodIn_app (goodIn_of _ (by decide +kernel)) ggX0_sink_X0_put
set_option maxRecDepth 20000 in
theorem ggX0_sink_X0_write : GoodIn wsX0_sink wsX0_write := goodIn_r _ [14, 6, 15, 16, 4, 17, 18] (by decide +kernel) (by decide +kernel)
set_option maxRecDepth 20000 in
theorem gX0_sink_X0_write : GoodIn wsX0_sink (wsV RX0 72 RX0 yX0_write wsX0_write) := goodIn_app (goodIn_of _ (by decide +kernel)) ggX0_sink_X0_write
theorem dX0_sink_0 : decode cX0_sink 0 = .ok (.aload_n 0, 1) := by decide +kernel
theorem dX0_sink_1 : decode cX0_sink 1 = .ok (.iload_n 1, 1) := by decide +kernel
theorem dX0_sink_2 : decode cX0_sink 2 = .ok (.iconst 1, 1) := by decide +kernel
theorem dX0_sink_3 : decode cX0_sink 3 = .ok (.aload_n 0, 1) := by decide +kernel
theorem dX0_sink_4 : decode cX0_sink 4 = .ok (.iload_n 1, 1) := by decide +kernel
theorem dX0_sink_5 : decode cX0_sink 5 = .ok (.iconst 1, 1) := by decide +kernel
theorem dX0_sink_6 : decode cX0_sink 6 = .ok (.invokevirtual 43, 3) := by decide +kernel
theorem dX0_sink_9 : decode cX0_sink 9 = .ok (.iconst 1, 1) := by decide +kernel
theorem dX0_sink_10 : decode cX0_sink 10 = .ok (.isub, 1) := by decide +kernel
theorem dX0_sink_11 : decode cX0_sink 11 = .ok (.invokevirtual 50, 3) := by decide +kernel
theorem dX0_sink_14 : decode cX0_sink 14 = .ok (.aload_n 0, 1) := by decide +kernel
theorem dX0_sink_15 : decode cX0_sink 15 = .ok (.iload_n 1, 1) := by decide +kernel
theorem dX0_sink_16 : decode cX0_sink 16 = .ok (.iconst 2, 1) := by decide +kernel
theorem dX0_sink_17 : decode cX0_sink 17 = .ok (.invokevirtual 43, 3) := by decide +kernel
theorem dX0_sink_20 : decode cX0_sink 20 = .ok (.iconst 1, 1) := by decide +kernel
theorem dX0_sink_21 : decode cX0_sink 21 = .ok (.if_icmp .ne 7, 3) := by decide +kernel
theorem dX0_sink_24 : decode cX0_sink 24 = .ok (.iconst 1, 1) := by decide +kernel
theorem dX0_sink_25 : decode cX0_sink 25 = .ok (.goto 4, 3) := by decide +kernel
theorem dX0_sink_28 : decode cX0_sink 28 = .ok (.iconst 0, 1) := by decide +kernel
theorem dX0_sink_29 : decode cX0_sink 29 = .ok (.istore_n 2, 1) := by decide +kernel
theorem dX0_sink_30 : decode cX0_sink 30 = .ok (.iload_n 2, 1) := by decide +kernel
theorem dX0_sink_31 : decode cX0_sink 31 = .ok (.ifCond .eq 19, 3) := by decide +kernel
theorem dX0_sink_34 : decode cX0_sink 34 = .ok (.aload_n 0, 1) := by decide +kernel
theorem dX0_sink_35 : decode cX0_sink 35 = .ok (.iload_n 1, 1) := by decide +kernel
theorem dX0_sink_36 : decode cX0_sink 36 = .ok (.bipush 6, 2) := by decide +kernel
theorem dX0_sink_38 : decode cX0_sink 38 = .ok (.aload_n 0, 1) := by decide +kernel
theorem dX0_sink_39 : decode cX0_sink 39 = .ok (.iload_n 1, 1) := by decide +kernel
theorem dX0_sink_40 : decode cX0_sink 40 = .ok (.bipush 6, 2) := by decide +kernel
theorem dX0_sink_42 : decode cX0_sink 42 = .ok (.invokevirtual 43, 3) := by decide +kernel
theorem dX0_sink_45 : decode cX0_sink 45 = .ok (.iconst 1, 1) := by decide +kernel
theorem dX0_sink_46 : decode cX0_sink 46 = .ok (.iadd, 1) := by decide +kernel
theorem dX0_sink_47 : decode cX0_sink 47 = .ok (.invokevirtual 50, 3) := by decide +kernel
theorem dX0_sink_50 : decode cX0_sink 50 = .ok (.aload_n 0, 1) := by decide +kernel
theorem dX0_sink_51 : decode cX0_sink 51 = .ok (.iload_n 1, 1) := by decide +kernel
theorem dX0_sink_52 : decode cX0_sink 52 = .ok (.iconst 1, 1) := by decide +kernel
theorem dX0_sink_53 : decode cX0_sink 53 = .ok (.invokevirtual 43, 3) := by decide +kernel
theorem dX0_sink_56 : decode cX0_sink 56 = .ok (.ifCond .ne 12, 3) := by decide +kernel
theorem dX0_sink_59 : decode cX0_sink 59 = .ok (.aload_n 0, 1) := by decide +kernel
theorem dX0_sink_60 : decode cX0_sink 60 = .ok (.iload_n 1, 1) := by decide +kernel
theorem dX0_sink_61 : decode cX0_sink 61 = .ok (.iconst 0, 1) := by decide +kernel
theorem dX0_sink_62 : decode cX0_sink 62 = .ok (.invokevirtual 72, 3) := by decide +kernel
theorem dX0_sink_65 : decode cX0_sink 65 = .ok (.goto 36, 3) := by decide +kernel
theorem dX0_sink_68 : decode cX0_sink 68 = .ok (.iload_n 2, 1) := by decide +kernel
theorem dX0_sink_69 : decode cX0_sink 69 = .ok (.ifCond .eq 32, 3) := by decide +kernel
theorem dX0_sink_72 : decode cX0_sink 72 = .ok (.aload_n 0, 1) := by decide +kernel
theorem dX0_sink_73 : decode cX0_sink 73 = .ok (.iload_n 1, 1) := by decide +kernel
theorem dX0_sink_74 : decode cX0_sink 74 = .ok (.bipush 6, 2) := by decide +kernel
theorem dX0_sink_76 : decode cX0_sink 76 = .ok (.invokevirtual 43, 3) := by decide +kernel
theorem dX0_sink_79 : decode cX0_sink 79 = .ok (.aload_n 0, 1) := by decide +kernel
theorem dX0_sink_80 : decode cX0_sink 80 = .ok (.iload_n 1, 1) := by decide +kernel
theorem dX0_sink_81 : decode cX0_sink 81 = .ok (.iconst 3, 1) := by decide +kernel
theorem dX0_sink_82 : decode cX0_sink 82 = .ok (.invokevirtual 43, 3) := by decide +kernel
theorem dX0_sink_85 : decode cX0_sink 85 = .ok (.if_icmp .lt 16, 3) := by decide +kernel
theorem dX0_sink_88 : decode cX0_sink 88 = .ok (.aload_n 0, 1) := by decide +kernel
theorem dX0_sink_89 : decode cX0_sink 89 = .ok (.iload_n 1, 1) := by decide +kernel
theorem dX0_sink_90 : decode cX0_sink 90 = .ok (.iconst 4, 1) := by decide +kernel
theorem dX0_sink_91 : decode cX0_sink 91 = .ok (.iconst 1, 1) := by decide +kernel
theorem dX0_sink_92 : decode cX0_sink 92 = .ok (.invokevirtual 50, 3) := by decide +kernel
theorem dX0_sink_95 : decode cX0_sink 95 = .ok (.aload_n 0, 1) := by decide +kernel
theorem dX0_sink_96 : decode cX0_sink 96 = .ok (.iload_n 1, 1) := by decide +kernel
theorem dX0_sink_97 : decode cX0_sink 97 = .ok (.iconst 1, 1) := by decide +kernel
theorem dX0_sink_98 : decode cX0_sink 98 = .ok (.invokevirtual 72, 3) := by decide +kernel
theorem dX0_sink_101 : decode cX0_sink 101 = .ok (.return_, 1) := by decide +kernel
set_option maxRecDepth 20000 in
theorem ggX0_secondsToEventOf_X0_property : GoodIn wsX0_secondsToEventOf wsX0_property := goodIn_r _ [9, 10, 11] (by decide +kernel) (by decide +kernel)
set_option maxRecDepth 20000 in
theorem gX0_secondsToEventOf_X0_property : GoodIn wsX0_secondsToEventOf (wsV RX0 43 RX0 yX0_property wsX0_property) := goodIn_app (goodIn_of _ (by decide +kernel)) ggX0_secondsToEventOf_X0_property
theorem dX0_secondsToEventOf_0 : decode cX0_secondsToEventOf 0 = .ok (.aload_n 0, 1) := by decide +kernel
theorem dX0_secondsToEventOf_1 : decode cX0_secondsToEventOf 1 = .ok (.iload_n 1, 1) := by decide +kernel
theorem dX0_secondsToEventOf_2 : decode cX0_secondsToEventOf 2 = .ok (.iconst 1, 1) := by decide +kernel
theorem dX0_secondsToEventOf_3 : decode cX0_secondsToEventOf 3 = .ok (.invokevirtual 43, 3) := by decide +kernel
theorem dX0_secondsToEventOf_6 : decode cX0_secondsToEventOf 6 = .ok (.istore_n 2, 1) := by decide +kernel
theorem dX0_secondsToEventOf_7 : decode cX0_secondsToEventOf 7 = .ok (.aload_n 0, 1) := by decide +kernel
theorem dX0_secondsToEventOf_8 : decode cX0_secondsToEventOf 8 = .ok (.iload_n 1, 1) := by decide +kernel
theorem dX0_secondsToEventOf_9 : decode cX0_secondsToEventOf 9 = .ok (.iconst 2, 1) := by decide +kernel
theorem dX0_secondsToEventOf_10 : decode cX0_secondsToEventOf 10 = .ok (.invokevirtual 43, 3) := by decide +kernel
theorem dX0_secondsToEventOf_13 : decode cX0_secondsToEventOf 13 = .ok (.iconst 1, 1) := by decide +kernel
theorem dX0_secondsToEventOf_14 : decode cX0_secondsToEventOf 14 = .ok (.if_icmp .eq 5, 3) := by decide +kernel
theorem dX0_secondsToEventOf_17 : decode cX0_secondsToEventOf 17 = .ok (.iload_n 2, 1) := by decide +kernel
theorem dX0_secondsToEventOf_18 : decode cX0_secondsToEventOf 18 = .ok (.ireturn, 1) := by decide +kernel
theorem dX0_secondsToEventOf_19 : decode cX0_secondsToEventOf 19 = .ok (.iload_n 2, 1) := by decide +kernel
theorem dX0_secondsToEventOf_20 : decode cX0_secondsToEventOf 20 = .ok (.aload_n 0, 1) := by decide +kernel
theorem dX0_secondsToEventOf_21 : decode cX0_secondsToEventOf 21 = .ok (.iload_n 1, 1) := by decide +kernel
theorem dX0_secondsToEventOf_22 : decode cX0_secondsToEventOf 22 = .ok (.iconst 3, 1) := by decide +kernel
theorem dX0_secondsToEventOf_23 : decode cX0_secondsToEventOf 23 = .ok (.invokevirtual 43, 3) := by decide +kernel
theorem dX0_secondsToEventOf_26 : decode cX0_secondsToEventOf 26 = .ok (.aload_n 0, 1) := by decide +kernel
theorem dX0_secondsToEventOf_27 : decode cX0_secondsToEventOf 27 = .ok (.iload_n 1, 1) := by decide +kernel
theorem dX0_secondsToEventOf_28 : decode cX0_secondsToEventOf 28 = .ok (.bipush 6, 2) := by decide +kernel
theorem dX0_secondsToEventOf_30 : decode cX0_secondsToEventOf 30 = .ok (.invokevirtual 43, 3) := by decide +kernel
theorem dX0_secondsToEventOf_33 : decode cX0_secondsToEventOf 33 = .ok (.isub, 1) := by decide +kernel
theorem dX0_secondsToEventOf_34 : decode cX0_secondsToEventOf 34 = .ok (.invokestatic 33, 3) := by decide +kernel
theorem dX0_secondsToEventOf_37 : decode cX0_secondsToEventOf 37 = .ok (.ireturn, 1) := by decide +kernel
set_option maxRecDepth 20000 in
theorem ggX0_write_X0_eventCell : GoodIn wsX0_write wsX0_eventCell := goodIn_r _ [5] (by decide +kernel) (by decide +kernel)
set_option maxRecDepth 20000 in
theorem gX0_write_X0_eventCell : GoodIn wsX0_write (va_wsS RX0 39 yX0_eventCell wsX0_eventCell) := goodIn_app (goodIn_of _ (by decide +kernel)) ggX0_write_X0_eventCell
theorem dX0_write_0 : decode cX0_write 0 = .ok (.aload_n 0, 1) := by decide +kernel
theorem dX0_write_1 : decode cX0_write 1 = .ok (.getfield 11, 3) := by decide +kernel
theorem dX0_write_4 : decode cX0_write 4 = .ok (.bipush 60, 2) := by decide +kernel
theorem dX0_write_6 : decode cX0_write 6 = .ok (.iaload, 1) := by decide +kernel
theorem dX0_write_7 : decode cX0_write 7 = .ok (.invokestatic 39, 3) := by decide +kernel
theorem dX0_write_10 : decode cX0_write 10 = .ok (.istore_n 3, 1) := by decide +kernel
theorem dX0_write_11 : decode cX0_write 11 = .ok (.aload_n 0, 1) := by decide +kernel
theorem dX0_write_12 : decode cX0_write 12 = .ok (.getfield 11, 3) := by decide +kernel
theorem dX0_write_15 : decode cX0_write 15 = .ok (.iload_n 3, 1) := by decide +kernel
theorem dX0_write_16 : decode cX0_write 16 = .ok (.aload_n 0, 1) := by decide +kernel
theorem dX0_write_17 : decode cX0_write 17 = .ok (.getfield 11, 3) := by decide +kernel
theorem dX0_write_20 : decode cX0_write 20 = .ok (.bipush 58, 2) := by decide +kernel
theorem dX0_write_22 : decode cX0_write 22 = .ok (.iaload, 1) := by decide +kernel
theorem dX0_write_23 : decode cX0_write 23 = .ok (.iastore, 1) := by decide +kernel
theorem dX0_write_24 : decode cX0_write 24 = .ok (.aload_n 0, 1) := by decide +kernel
theorem dX0_write_25 : decode cX0_write 25 = .ok (.getfield 11, 3) := by decide +kernel
theorem dX0_write_28 : decode cX0_write 28 = .ok (.iload_n 3, 1) := by decide +kernel
theorem dX0_write_29 : decode cX0_write 29 = .ok (.iconst 1, 1) := by decide +kernel
theorem dX0_write_30 : decode cX0_write 30 = .ok (.iadd, 1) := by decide +kernel
theorem dX0_write_31 : decode cX0_write 31 = .ok (.iload_n 1, 1) := by decide +kernel
theorem dX0_write_32 : decode cX0_write 32 = .ok (.iastore, 1) := by decide +kernel
theorem dX0_write_33 : decode cX0_write 33 = .ok (.aload_n 0, 1) := by decide +kernel
theorem dX0_write_34 : decode cX0_write 34 = .ok (.getfield 11, 3) := by decide +kernel
theorem dX0_write_37 : decode cX0_write 37 = .ok (.iload_n 3, 1) := by decide +kernel
theorem dX0_write_38 : decode cX0_write 38 = .ok (.iconst 2, 1) := by decide +kernel
theorem dX0_write_39 : decode cX0_write 39 = .ok (.iadd, 1) := by decide +kernel
theorem dX0_write_40 : decode cX0_write 40 = .ok (.iload_n 2, 1) := by decide +kernel
theorem dX0_write_41 : decode cX0_write 41 = .ok (.iastore, 1) := by decide +kernel
theorem dX0_write_42 : decode cX0_write 42 = .ok (.aload_n 0, 1) := by decide +kernel
theorem dX0_write_43 : decode cX0_write 43 = .ok (.getfield 11, 3) := by decide +kernel
theorem dX0_write_46 : decode cX0_write 46 = .ok (.bipush 60, 2) := by decide +kernel
theorem dX0_write_48 : decode cX0_write 48 = .ok (.dup2, 1) := by decide +kernel
theorem dX0_write_49 : decode cX0_write 49 = .ok (.iaload, 1) := by decide +kernel
theorem dX0_write_50 : decode cX0_write 50 = .ok (.iconst 1, 1) := by decide +kernel
theorem dX0_write_51 : decode cX0_write 51 = .ok (.iadd, 1) := by decide +kernel
theorem dX0_write_52 : decode cX0_write 52 = .ok (.iastore, 1) := by decide +kernel
theorem dX0_write_53 : decode cX0_write 53 = .ok (.return_, 1) := by decide +kernel
set_option maxRecDepth 20000 in
theorem ggX0_free_X0_put : GoodIn wsX0_free wsX0_put := goodIn_r _ [5, 6, 7] (by decide +kernel) (by decide +kernel)
set_option maxRecDepth 20000 in
theorem gX0_free_X0_put : GoodIn wsX0_free (wsV RX0 50 RX0 yX0_put wsX0_put) := goodIn_app (goodIn_of _ (by decide +kernel)) ggX0_free_X0_put
theorem dX0_free_0 : decode cX0_free 0 = .ok (.aload_n 0, 1) := by decide +kernel
theorem dX0_free_1 : decode cX0_free 1 = .ok (.iload_n 1, 1) := by decide +kernel
theorem dX0_free_2 : decode cX0_free 2 = .ok (.iconst 4, 1) := by decide +kernel
theorem dX0_free_3 : decode cX0_free 3 = .ok (.iconst 0, 1) := by decide +kernel
theorem dX0_free_4 : decode cX0_free 4 = .ok (.invokevirtual 50, 3) := by decide +kernel
theorem dX0_free_7 : decode cX0_free 7 = .ok (.aload_n 0, 1) := by decide +kernel
theorem dX0_free_8 : decode cX0_free 8 = .ok (.iload_n 1, 1) := by decide +kernel
theorem dX0_free_9 : decode cX0_free 9 = .ok (.bipush 6, 2) := by decide +kernel
theorem dX0_free_11 : decode cX0_free 11 = .ok (.iconst 0, 1) := by decide +kernel
theorem dX0_free_12 : decode cX0_free 12 = .ok (.invokevirtual 50, 3) := by decide +kernel
theorem dX0_free_15 : decode cX0_free 15 = .ok (.return_, 1) := by decide +kernel
theorem dX0_put_0 : decode cX0_put 0 = .ok (.aload_n 0, 1) := by decide +kernel
theorem dX0_put_1 : decode cX0_put 1 = .ok (.getfield 11, 3) := by decide +kernel
theorem dX0_put_4 : decode cX0_put 4 = .ok (.iload_n 2, 1) := by decide +kernel
theorem dX0_put_5 : decode cX0_put 5 = .ok (.iconst 3, 1) := by decide +kernel
theorem dX0_put_6 : decode cX0_put 6 = .ok (.imul, 1) := by decide +kernel
theorem dX0_put_7 : decode cX0_put 7 = .ok (.iload_n 1, 1) := by decide +kernel
theorem dX0_put_8 : decode cX0_put 8 = .ok (.iadd, 1) := by decide +kernel
theorem dX0_put_9 : decode cX0_put 9 = .ok (.iload_n 3, 1) := by decide +kernel
theorem dX0_put_10 : decode cX0_put 10 = .ok (.iastore, 1) := by decide +kernel
theorem dX0_put_11 : decode cX0_put 11 = .ok (.return_, 1) := by decide +kernel
theorem dX0_eventCell_0 : decode cX0_eventCell 0 = .ok (.bipush 21, 2) := by decide +kernel
theorem dX0_eventCell_2 : decode cX0_eventCell 2 = .ok (.iload_n 0, 1) := by decide +kernel
theorem dX0_eventCell_3 : decode cX0_eventCell 3 = .ok (.bipush 12, 2) := by decide +kernel
theorem dX0_eventCell_5 : decode cX0_eventCell 5 = .ok (.irem, 1) := by decide +kernel
theorem dX0_eventCell_6 : decode cX0_eventCell 6 = .ok (.iconst 3, 1) := by decide +kernel
theorem dX0_eventCell_7 : decode cX0_eventCell 7 = .ok (.imul, 1) := by decide +kernel
theorem dX0_eventCell_8 : decode cX0_eventCell 8 = .ok (.iadd, 1) := by decide +kernel
theorem dX0_eventCell_9 : decode cX0_eventCell 9 = .ok (.ireturn, 1) := by decide +kernel
theorem dX1_init_0 : decode cX1_init 0 = .ok (.aload_n 0, 1) := by decide +kernel
theorem dX1_init_1 : decode cX1_init 1 = .ok (.invokespecial 1, 3) := by decide +kernel
theorem dX1_init_4 : decode cX1_init 4 = .ok (.aload_n 0, 1) := by decide +kernel
theorem dX1_init_5 : decode cX1_init 5 = .ok (.sipush 504, 3) := by decide +kernel
theorem dX1_init_8 : decode cX1_init 8 = .ok (.newarray .int, 2) := by decide +kernel
theorem dX1_init_10 : decode cX1_init 10 = .ok (.putfield 11, 3) := by decide +kernel
theorem dX1_init_13 : decode cX1_init 13 = .ok (.return_, 1) := by decide +kernel
theorem dX1_states_0 : decode cX1_states 0 = .ok (.aload_n 0, 1) := by decide +kernel
theorem dX1_states_1 : decode cX1_states 1 = .ok (.getfield 15, 3) := by decide +kernel
theorem dX1_states_4 : decode cX1_states 4 = .ok (.ireturn, 1) := by decide +kernel
set_option maxRecDepth 20000 in
theorem ggX1_keep_X0_copyTo : GoodIn wsX1_keep wsX0_copyTo := goodIn_r _ [12, 13, 14, 15, 16, 17, 21] (by decide +kernel) (by decide +kernel)
set_option maxRecDepth 20000 in
theorem gX1_keep_X0_copyTo : GoodIn wsX1_keep (wsV RX1 22 RX0 yX0_copyTo wsX0_copyTo) := goodIn_app (goodIn_of _ (by decide +kernel)) ggX1_keep_X0_copyTo
theorem dX1_keep_0 : decode cX1_keep 0 = .ok (.aload_n 1, 1) := by decide +kernel
theorem dX1_keep_1 : decode cX1_keep 1 = .ok (.aload_n 0, 1) := by decide +kernel
theorem dX1_keep_2 : decode cX1_keep 2 = .ok (.getfield 11, 3) := by decide +kernel
theorem dX1_keep_5 : decode cX1_keep 5 = .ok (.aload_n 0, 1) := by decide +kernel
theorem dX1_keep_6 : decode cX1_keep 6 = .ok (.getfield 19, 3) := by decide +kernel
theorem dX1_keep_9 : decode cX1_keep 9 = .ok (.bipush 63, 2) := by decide +kernel
theorem dX1_keep_11 : decode cX1_keep 11 = .ok (.imul, 1) := by decide +kernel
theorem dX1_keep_12 : decode cX1_keep 12 = .ok (.invokevirtual 22, 3) := by decide +kernel
theorem dX1_keep_15 : decode cX1_keep 15 = .ok (.aload_n 0, 1) := by decide +kernel
theorem dX1_keep_16 : decode cX1_keep 16 = .ok (.aload_n 0, 1) := by decide +kernel
theorem dX1_keep_17 : decode cX1_keep 17 = .ok (.getfield 19, 3) := by decide +kernel
theorem dX1_keep_20 : decode cX1_keep 20 = .ok (.iconst 1, 1) := by decide +kernel
theorem dX1_keep_21 : decode cX1_keep 21 = .ok (.iadd, 1) := by decide +kernel
theorem dX1_keep_22 : decode cX1_keep 22 = .ok (.bipush 8, 2) := by decide +kernel
theorem dX1_keep_24 : decode cX1_keep 24 = .ok (.irem, 1) := by decide +kernel
theorem dX1_keep_25 : decode cX1_keep 25 = .ok (.putfield 19, 3) := by decide +kernel
theorem dX1_keep_28 : decode cX1_keep 28 = .ok (.aload_n 0, 1) := by decide +kernel
theorem dX1_keep_29 : decode cX1_keep 29 = .ok (.aload_n 0, 1) := by decide +kernel
theorem dX1_keep_30 : decode cX1_keep 30 = .ok (.getfield 15, 3) := by decide +kernel
theorem dX1_keep_33 : decode cX1_keep 33 = .ok (.iconst 1, 1) := by decide +kernel
theorem dX1_keep_34 : decode cX1_keep 34 = .ok (.iadd, 1) := by decide +kernel
theorem dX1_keep_35 : decode cX1_keep 35 = .ok (.bipush 8, 2) := by decide +kernel
theorem dX1_keep_37 : decode cX1_keep 37 = .ok (.invokestatic 26, 3) := by decide +kernel
theorem dX1_keep_40 : decode cX1_keep 40 = .ok (.putfield 15, 3) := by decide +kernel
theorem dX1_keep_43 : decode cX1_keep 43 = .ok (.return_, 1) := by decide +kernel
set_option maxRecDepth 20000 in
theorem ggX1_restore_X0_copyFrom : GoodIn wsX1_restore wsX0_copyFrom := goodIn_r _ [8, 9, 10, 11, 12, 13, 17] (by decide +kernel) (by decide +kernel)
set_option maxRecDepth 20000 in
theorem gX1_restore_X0_copyFrom : GoodIn wsX1_restore (wsV RX1 32 RX0 yX0_copyFrom wsX0_copyFrom) := goodIn_app (goodIn_of _ (by decide +kernel)) ggX1_restore_X0_copyFrom
theorem dX1_restore_0 : decode cX1_restore 0 = .ok (.aload_n 0, 1) := by decide +kernel
theorem dX1_restore_1 : decode cX1_restore 1 = .ok (.getfield 15, 3) := by decide +kernel
theorem dX1_restore_4 : decode cX1_restore 4 = .ok (.ifCond .ne 5, 3) := by decide +kernel
theorem dX1_restore_7 : decode cX1_restore 7 = .ok (.iconst 0, 1) := by decide +kernel
theorem dX1_restore_8 : decode cX1_restore 8 = .ok (.ireturn, 1) := by decide +kernel
theorem dX1_restore_9 : decode cX1_restore 9 = .ok (.aload_n 0, 1) := by decide +kernel
theorem dX1_restore_10 : decode cX1_restore 10 = .ok (.dup, 1) := by decide +kernel
theorem dX1_restore_11 : decode cX1_restore 11 = .ok (.getfield 15, 3) := by decide +kernel
theorem dX1_restore_14 : decode cX1_restore 14 = .ok (.iconst 1, 1) := by decide +kernel
theorem dX1_restore_15 : decode cX1_restore 15 = .ok (.isub, 1) := by decide +kernel
theorem dX1_restore_16 : decode cX1_restore 16 = .ok (.putfield 15, 3) := by decide +kernel
theorem dX1_restore_19 : decode cX1_restore 19 = .ok (.aload_n 0, 1) := by decide +kernel
theorem dX1_restore_20 : decode cX1_restore 20 = .ok (.aload_n 0, 1) := by decide +kernel
theorem dX1_restore_21 : decode cX1_restore 21 = .ok (.getfield 19, 3) := by decide +kernel
theorem dX1_restore_24 : decode cX1_restore 24 = .ok (.bipush 8, 2) := by decide +kernel
theorem dX1_restore_26 : decode cX1_restore 26 = .ok (.iadd, 1) := by decide +kernel
theorem dX1_restore_27 : decode cX1_restore 27 = .ok (.iconst 1, 1) := by decide +kernel
theorem dX1_restore_28 : decode cX1_restore 28 = .ok (.isub, 1) := by decide +kernel
theorem dX1_restore_29 : decode cX1_restore 29 = .ok (.bipush 8, 2) := by decide +kernel
theorem dX1_restore_31 : decode cX1_restore 31 = .ok (.irem, 1) := by decide +kernel
theorem dX1_restore_32 : decode cX1_restore 32 = .ok (.putfield 19, 3) := by decide +kernel
theorem dX1_restore_35 : decode cX1_restore 35 = .ok (.aload_n 1, 1) := by decide +kernel
theorem dX1_restore_36 : decode cX1_restore 36 = .ok (.aload_n 0, 1) := by decide +kernel
theorem dX1_restore_37 : decode cX1_restore 37 = .ok (.getfield 11, 3) := by decide +kernel
theorem dX1_restore_40 : decode cX1_restore 40 = .ok (.aload_n 0, 1) := by decide +kernel
theorem dX1_restore_41 : decode cX1_restore 41 = .ok (.getfield 19, 3) := by decide +kernel
theorem dX1_restore_44 : decode cX1_restore 44 = .ok (.bipush 63, 2) := by decide +kernel
theorem dX1_restore_46 : decode cX1_restore 46 = .ok (.imul, 1) := by decide +kernel
theorem dX1_restore_47 : decode cX1_restore 47 = .ok (.invokevirtual 32, 3) := by decide +kernel
theorem dX1_restore_50 : decode cX1_restore 50 = .ok (.iconst 1, 1) := by decide +kernel
theorem dX1_restore_51 : decode cX1_restore 51 = .ok (.ireturn, 1) := by decide +kernel
theorem dX3_init_0 : decode cX3_init 0 = .ok (.aload_n 0, 1) := by decide +kernel
theorem dX3_init_1 : decode cX3_init 1 = .ok (.invokespecial 3, 3) := by decide +kernel
theorem dX3_init_4 : decode cX3_init 4 = .ok (.aload_n 0, 1) := by decide +kernel
theorem dX3_init_5 : decode cX3_init 5 = .ok (.bipush 60, 2) := by decide +kernel
theorem dX3_init_7 : decode cX3_init 7 = .ok (.newarray .int, 2) := by decide +kernel
theorem dX3_init_9 : decode cX3_init 9 = .ok (.putfield 11, 3) := by decide +kernel
theorem dX3_init_12 : decode cX3_init 12 = .ok (.aload_n 0, 1) := by decide +kernel
theorem dX3_init_13 : decode cX3_init 13 = .ok (.bipush 100, 2) := by decide +kernel
theorem dX3_init_15 : decode cX3_init 15 = .ok (.newarray .int, 2) := by decide +kernel
theorem dX3_init_17 : decode cX3_init 17 = .ok (.putfield 15, 3) := by decide +kernel
theorem dX3_init_20 : decode cX3_init 20 = .ok (.aload_n 0, 1) := by decide +kernel
theorem dX3_init_21 : decode cX3_init 21 = .ok (.bipush 100, 2) := by decide +kernel
theorem dX3_init_23 : decode cX3_init 23 = .ok (.newarray .int, 2) := by decide +kernel
theorem dX3_init_25 : decode cX3_init 25 = .ok (.putfield 18, 3) := by decide +kernel
theorem dX3_init_28 : decode cX3_init 28 = .ok (.return_, 1) := by decide +kernel
theorem dX3_length_0 : decode cX3_length 0 = .ok (.aload_n 0, 1) := by decide +kernel
theorem dX3_length_1 : decode cX3_length 1 = .ok (.getfield 21, 3) := by decide +kernel
theorem dX3_length_4 : decode cX3_length 4 = .ok (.ireturn, 1) := by decide +kernel
set_option maxRecDepth 20000 in
theorem ggX4_init_X0_init : GoodIn wsX4_init wsX0_init := goodIn_r _ [18, 19, 2, 3, 20, 21, 22, 23, 24, 6, 25, 26, 27, 28, 29, 30, 31, 32, 33, 34, 35, 36, 37, 38, 39, 40, 41, 42, 43, 44, 45, 56] (by decide +kernel) (by decide +kernel)
set_option maxRecDepth 20000 in
theorem gX4_init_X0_init : GoodIn wsX4_init (wsX0_init) := ggX4_init_X0_init
set_option maxRecDepth 20000 in
theorem ggX4_init_X1_init : GoodIn wsX4_init wsX1_init := goodIn_r _ [47, 48, 2, 3, 20, 49, 61, 62, 63] (by decide +kernel) (by decide +kernel)
set_option maxRecDepth 20000 in
theorem gX4_init_X1_init_n18 : GoodIn wsX4_init (wsX1_init) := ggX4_init_X1_init
set_option maxRecDepth 20000 in
theorem ggX4_init_X3_init : GoodIn wsX4_init wsX3_init := goodIn_r _ [51, 52, 2, 3, 20, 53, 54, 55, 64, 65, 66, 67, 68, 69, 70, 71] (by decide +kernel) (by decide +kernel)
set_option maxRecDepth 20000 in
theorem gX4_init_X3_init_n25 : GoodIn wsX4_init (wsX3_init) := ggX4_init_X3_init
theorem dX4_init_0 : decode cX4_init 0 = .ok (.aload_n 0, 1) := by decide +kernel
theorem dX4_init_1 : decode cX4_init 1 = .ok (.invokespecial 1, 3) := by decide +kernel
theorem dX4_init_4 : decode cX4_init 4 = .ok (.aload_n 0, 1) := by decide +kernel
theorem dX4_init_5 : decode cX4_init 5 = .ok (.new 7, 3) := by decide +kernel
theorem dX4_init_8 : decode cX4_init 8 = .ok (.dup, 1) := by decide +kernel
theorem dX4_init_9 : decode cX4_init 9 = .ok (.invokespecial 9, 3) := by decide +kernel
theorem dX4_init_12 : decode cX4_init 12 = .ok (.putfield 10, 3) := by decide +kernel
theorem dX4_init_15 : decode cX4_init 15 = .ok (.aload_n 0, 1) := by decide +kernel
theorem dX4_init_16 : decode cX4_init 16 = .ok (.new 16, 3) := by decide +kernel
theorem dX4_init_19 : decode cX4_init 19 = .ok (.dup, 1) := by decide +kernel
theorem dX4_init_20 : decode cX4_init 20 = .ok (.invokespecial 18, 3) := by decide +kernel
theorem dX4_init_23 : decode cX4_init 23 = .ok (.putfield 19, 3) := by decide +kernel
theorem dX4_init_26 : decode cX4_init 26 = .ok (.aload_n 0, 1) := by decide +kernel
theorem dX4_init_27 : decode cX4_init 27 = .ok (.new 23, 3) := by decide +kernel
theorem dX4_init_30 : decode cX4_init 30 = .ok (.dup, 1) := by decide +kernel
theorem dX4_init_31 : decode cX4_init 31 = .ok (.invokespecial 25, 3) := by decide +kernel
theorem dX4_init_34 : decode cX4_init 34 = .ok (.putfield 26, 3) := by decide +kernel
theorem dX4_init_37 : decode cX4_init 37 = .ok (.return_, 1) := by decide +kernel
set_option maxRecDepth 20000 in
theorem ggX4_setGlasses_X1_keep : GoodIn wsX4_setGlasses wsX1_keep := goodIn_r _ [7, 8, 9, 10, 11, 12, 13, 14, 15, 16, 17, 18, 19, 20, 21, 22, 23, 24, 57, 58, 59, 60] (by decide +kernel) (by decide +kernel)
set_option maxRecDepth 20000 in
theorem gX4_setGlasses_X1_keep : GoodIn wsX4_setGlasses (wsV RX4 48 RX1 yX1_keep wsX1_keep) := goodIn_app (goodIn_of _ (by decide +kernel)) ggX4_setGlasses_X1_keep
set_option maxRecDepth 20000 in
theorem ggX4_setGlasses_X0_glasses : GoodIn wsX4_setGlasses wsX0_glasses := goodIn_r _ [28, 20, 60] (by decide +kernel) (by decide +kernel)
set_option maxRecDepth 20000 in
theorem gX4_setGlasses_X0_glasses : GoodIn wsX4_setGlasses (wsV RX4 41 RX0 yX0_glasses wsX0_glasses) := goodIn_app (goodIn_of _ (by decide +kernel)) ggX4_setGlasses_X0_glasses
set_option maxRecDepth 20000 in
theorem ggX4_setGlasses_X0_renew : GoodIn wsX4_setGlasses wsX0_renew := goodIn_r _ [32, 20, 33, 34, 35, 18, 36, 37, 38, 39, 40, 41, 42, 43, 44, 45, 46, 47, 48, 49, 50, 51, 52, 60] (by decide +kernel) (by decide +kernel)
set_option maxRecDepth 20000 in
theorem gX4_setGlasses_X0_renew : GoodIn wsX4_setGlasses (wsV RX4 52 RX0 yX0_renew wsX0_renew) := goodIn_app (goodIn_of _ (by decide +kernel)) ggX4_setGlasses_X0_renew
theorem dX4_setGlasses_0 : decode cX4_setGlasses 0 = .ok (.iload_n 1, 1) := by decide +kernel
theorem dX4_setGlasses_1 : decode cX4_setGlasses 1 = .ok (.iconst 1, 1) := by decide +kernel
theorem dX4_setGlasses_2 : decode cX4_setGlasses 2 = .ok (.if_icmp .lt 8, 3) := by decide +kernel
theorem dX4_setGlasses_5 : decode cX4_setGlasses 5 = .ok (.iload_n 1, 1) := by decide +kernel
theorem dX4_setGlasses_6 : decode cX4_setGlasses 6 = .ok (.iconst 3, 1) := by decide +kernel
theorem dX4_setGlasses_7 : decode cX4_setGlasses 7 = .ok (.if_icmp .le 6, 3) := by decide +kernel
theorem dX4_setGlasses_10 : decode cX4_setGlasses 10 = .ok (.bipush (-2), 2) := by decide +kernel
theorem dX4_setGlasses_12 : decode cX4_setGlasses 12 = .ok (.ireturn, 1) := by decide +kernel
theorem dX4_setGlasses_13 : decode cX4_setGlasses 13 = .ok (.aload_n 0, 1) := by decide +kernel
theorem dX4_setGlasses_14 : decode cX4_setGlasses 14 = .ok (.getfield 19, 3) := by decide +kernel
theorem dX4_setGlasses_17 : decode cX4_setGlasses 17 = .ok (.aload_n 0, 1) := by decide +kernel
theorem dX4_setGlasses_18 : decode cX4_setGlasses 18 = .ok (.getfield 10, 3) := by decide +kernel
theorem dX4_setGlasses_21 : decode cX4_setGlasses 21 = .ok (.invokevirtual 48, 3) := by decide +kernel
theorem dX4_setGlasses_24 : decode cX4_setGlasses 24 = .ok (.aload_n 0, 1) := by decide +kernel
theorem dX4_setGlasses_25 : decode cX4_setGlasses 25 = .ok (.getfield 10, 3) := by decide +kernel
theorem dX4_setGlasses_28 : decode cX4_setGlasses 28 = .ok (.invokevirtual 41, 3) := by decide +kernel
theorem dX4_setGlasses_31 : decode cX4_setGlasses 31 = .ok (.istore_n 2, 1) := by decide +kernel
theorem dX4_setGlasses_32 : decode cX4_setGlasses 32 = .ok (.aload_n 0, 1) := by decide +kernel
theorem dX4_setGlasses_33 : decode cX4_setGlasses 33 = .ok (.getfield 10, 3) := by decide +kernel
theorem dX4_setGlasses_36 : decode cX4_setGlasses 36 = .ok (.iload_n 1, 1) := by decide +kernel
theorem dX4_setGlasses_37 : decode cX4_setGlasses 37 = .ok (.invokevirtual 52, 3) := by decide +kernel
theorem dX4_setGlasses_40 : decode cX4_setGlasses 40 = .ok (.iload_n 2, 1) := by decide +kernel
theorem dX4_setGlasses_41 : decode cX4_setGlasses 41 = .ok (.ireturn, 1) := by decide +kernel
set_option maxRecDepth 20000 in
theorem ggX4_setAmount_X0_has : GoodIn wsX4_setAmount wsX0_has := goodIn_r _ [7, 8, 9, 10, 6, 11, 12, 53] (by decide +kernel) (by decide +kernel)
set_option maxRecDepth 20000 in
theorem gX4_setAmount_X0_has : GoodIn wsX4_setAmount (wsV RX4 56 RX0 yX0_has wsX0_has) := goodIn_app (goodIn_of _ (by decide +kernel)) ggX4_setAmount_X0_has
set_option maxRecDepth 20000 in
theorem ggX4_setAmount_X1_keep : GoodIn wsX4_setAmount wsX1_keep := goodIn_r _ [17, 18, 19, 20, 21, 22, 23, 24, 25, 26, 27, 6, 28, 12, 29, 30, 31, 32, 54, 55, 56, 53] (by decide +kernel) (by decide +kernel)
set_option maxRecDepth 20000 in
theorem gX4_setAmount_X1_keep : GoodIn wsX4_setAmount (wsV RX4 48 RX1 yX1_keep wsX1_keep) := goodIn_app (goodIn_of _ (by decide +kernel)) ggX4_setAmount_X1_keep
set_option maxRecDepth 20000 in
theorem ggX4_setAmount_X0_property : GoodIn wsX4_setAmount wsX0_property := goodIn_r _ [36, 12, 53] (by decide +kernel) (by decide +kernel)
set_option maxRecDepth 20000 in
theorem gX4_setAmount_X0_property : GoodIn wsX4_setAmount (wsV RX4 59 RX0 yX0_property wsX0_property) := goodIn_app (goodIn_of _ (by decide +kernel)) ggX4_setAmount_X0_property
set_option maxRecDepth 20000 in
theorem ggX4_setAmount_X0_fill : GoodIn wsX4_setAmount wsX0_fill := goodIn_r _ [40, 41, 42, 43, 6, 44, 12, 45, 46, 47, 48, 53] (by decide +kernel) (by decide +kernel)
set_option maxRecDepth 20000 in
theorem gX4_setAmount_X0_fill : GoodIn wsX4_setAmount (wsV RX4 63 RX0 yX0_fill wsX0_fill) := goodIn_app (goodIn_of _ (by decide +kernel)) ggX4_setAmount_X0_fill
theorem dX4_setAmount_0 : decode cX4_setAmount 0 = .ok (.aload_n 0, 1) := by decide +kernel
theorem dX4_setAmount_1 : decode cX4_setAmount 1 = .ok (.getfield 10, 3) := by decide +kernel
theorem dX4_setAmount_4 : decode cX4_setAmount 4 = .ok (.iload_n 1, 1) := by decide +kernel
theorem dX4_setAmount_5 : decode cX4_setAmount 5 = .ok (.invokevirtual 56, 3) := by decide +kernel
theorem dX4_setAmount_8 : decode cX4_setAmount 8 = .ok (.ifCond .eq 14, 3) := by decide +kernel
theorem dX4_setAmount_11 : decode cX4_setAmount 11 = .ok (.iload_n 2, 1) := by decide +kernel
theorem dX4_setAmount_12 : decode cX4_setAmount 12 = .ok (.iconst 1, 1) := by decide +kernel
theorem dX4_setAmount_13 : decode cX4_setAmount 13 = .ok (.if_icmp .lt 9, 3) := by decide +kernel
theorem dX4_setAmount_16 : decode cX4_setAmount 16 = .ok (.iload_n 2, 1) := by decide +kernel
theorem dX4_setAmount_17 : decode cX4_setAmount 17 = .ok (.bipush 12, 2) := by decide +kernel
theorem dX4_setAmount_19 : decode cX4_setAmount 19 = .ok (.if_icmp .le 6, 3) := by decide +kernel
theorem dX4_setAmount_22 : decode cX4_setAmount 22 = .ok (.bipush (-2), 2) := by decide +kernel
theorem dX4_setAmount_24 : decode cX4_setAmount 24 = .ok (.ireturn, 1) := by decide +kernel
theorem dX4_setAmount_25 : decode cX4_setAmount 25 = .ok (.aload_n 0, 1) := by decide +kernel
theorem dX4_setAmount_26 : decode cX4_setAmount 26 = .ok (.getfield 19, 3) := by decide +kernel
theorem dX4_setAmount_29 : decode cX4_setAmount 29 = .ok (.aload_n 0, 1) := by decide +kernel
theorem dX4_setAmount_30 : decode cX4_setAmount 30 = .ok (.getfield 10, 3) := by decide +kernel
theorem dX4_setAmount_33 : decode cX4_setAmount 33 = .ok (.invokevirtual 48, 3) := by decide +kernel
theorem dX4_setAmount_36 : decode cX4_setAmount 36 = .ok (.aload_n 0, 1) := by decide +kernel
theorem dX4_setAmount_37 : decode cX4_setAmount 37 = .ok (.getfield 10, 3) := by decide +kernel
theorem dX4_setAmount_40 : decode cX4_setAmount 40 = .ok (.iload_n 1, 1) := by decide +kernel
theorem dX4_setAmount_41 : decode cX4_setAmount 41 = .ok (.iconst 0, 1) := by decide +kernel
theorem dX4_setAmount_42 : decode cX4_setAmount 42 = .ok (.invokevirtual 59, 3) := by decide +kernel
theorem dX4_setAmount_45 : decode cX4_setAmount 45 = .ok (.istore_n 3, 1) := by decide +kernel
theorem dX4_setAmount_46 : decode cX4_setAmount 46 = .ok (.aload_n 0, 1) := by decide +kernel
theorem dX4_setAmount_47 : decode cX4_setAmount 47 = .ok (.getfield 10, 3) := by decide +kernel
theorem dX4_setAmount_50 : decode cX4_setAmount 50 = .ok (.iload_n 1, 1) := by decide +kernel
theorem dX4_setAmount_51 : decode cX4_setAmount 51 = .ok (.iload_n 2, 1) := by decide +kernel
theorem dX4_setAmount_52 : decode cX4_setAmount 52 = .ok (.invokevirtual 63, 3) := by decide +kernel
theorem dX4_setAmount_55 : decode cX4_setAmount 55 = .ok (.iload_n 3, 1) := by decide +kernel
theorem dX4_setAmount_56 : decode cX4_setAmount 56 = .ok (.ireturn, 1) := by decide +kernel
set_option maxRecDepth 20000 in
theorem ggX4_setKind_X0_has : GoodIn wsX4_setKind wsX0_has := goodIn_r _ [7, 8, 9, 10, 6, 11, 12, 53] (by decide +kernel) (by decide +kernel)
set_option maxRecDepth 20000 in
theorem gX4_setKind_X0_has : GoodIn wsX4_setKind (wsV RX4 56 RX0 yX0_has wsX0_has) := goodIn_app (goodIn_of _ (by decide +kernel)) ggX4_setKind_X0_has
set_option maxRecDepth 20000 in
theorem ggX4_setKind_X1_keep : GoodIn wsX4_setKind wsX1_keep := goodIn_r _ [17, 18, 19, 20, 21, 22, 23, 24, 25, 26, 27, 6, 28, 12, 29, 30, 31, 32, 54, 55, 56, 53] (by decide +kernel) (by decide +kernel)
set_option maxRecDepth 20000 in
theorem gX4_setKind_X1_keep : GoodIn wsX4_setKind (wsV RX4 48 RX1 yX1_keep wsX1_keep) := goodIn_app (goodIn_of _ (by decide +kernel)) ggX4_setKind_X1_keep
set_option maxRecDepth 20000 in
theorem ggX4_setKind_X0_property : GoodIn wsX4_setKind wsX0_property := goodIn_r _ [36, 12, 53] (by decide +kernel) (by decide +kernel)
set_option maxRecDepth 20000 in
theorem gX4_setKind_X0_property : GoodIn wsX4_setKind (wsV RX4 59 RX0 yX0_property wsX0_property) := goodIn_app (goodIn_of _ (by decide +kernel)) ggX4_setKind_X0_property
set_option maxRecDepth 20000 in
theorem ggX4_setKind_X0_makeKind : GoodIn wsX4_setKind wsX0_makeKind := goodIn_r _ [40, 41, 42, 43, 6, 44, 12, 45, 46, 47, 48, 53] (by decide +kernel) (by decide +kernel)
set_option maxRecDepth 20000 in
theorem gX4_setKind_X0_makeKind : GoodIn wsX4_setKind (wsV RX4 67 RX0 yX0_makeKind wsX0_makeKind) := goodIn_app (goodIn_of _ (by decide +kernel)) ggX4_setKind_X0_makeKind
theorem dX4_setKind_0 : decode cX4_setKind 0 = .ok (.aload_n 0, 1) := by decide +kernel
theorem dX4_setKind_1 : decode cX4_setKind 1 = .ok (.getfield 10, 3) := by decide +kernel
theorem dX4_setKind_4 : decode cX4_setKind 4 = .ok (.iload_n 1, 1) := by decide +kernel
theorem dX4_setKind_5 : decode cX4_setKind 5 = .ok (.invokevirtual 56, 3) := by decide +kernel
theorem dX4_setKind_8 : decode cX4_setKind 8 = .ok (.ifCond .eq 23, 3) := by decide +kernel
theorem dX4_setKind_11 : decode cX4_setKind 11 = .ok (.iload_n 2, 1) := by decide +kernel
theorem dX4_setKind_12 : decode cX4_setKind 12 = .ok (.ifCond .lt 19, 3) := by decide +kernel
theorem dX4_setKind_15 : decode cX4_setKind 15 = .ok (.iload_n 2, 1) := by decide +kernel
theorem dX4_setKind_16 : decode cX4_setKind 16 = .ok (.iconst 2, 1) := by decide +kernel
theorem dX4_setKind_17 : decode cX4_setKind 17 = .ok (.if_icmp .gt 14, 3) := by decide +kernel
theorem dX4_setKind_20 : decode cX4_setKind 20 = .ok (.iload_n 3, 1) := by decide +kernel
theorem dX4_setKind_21 : decode cX4_setKind 21 = .ok (.iconst 1, 1) := by decide +kernel
theorem dX4_setKind_22 : decode cX4_setKind 22 = .ok (.if_icmp .lt 9, 3) := by decide +kernel
theorem dX4_setKind_25 : decode cX4_setKind 25 = .ok (.iload_n 3, 1) := by decide +kernel
theorem dX4_setKind_26 : decode cX4_setKind 26 = .ok (.bipush 9, 2) := by decide +kernel
theorem dX4_setKind_28 : decode cX4_setKind 28 = .ok (.if_icmp .le 6, 3) := by decide +kernel
theorem dX4_setKind_31 : decode cX4_setKind 31 = .ok (.bipush (-2), 2) := by decide +kernel
theorem dX4_setKind_33 : decode cX4_setKind 33 = .ok (.ireturn, 1) := by decide +kernel
theorem dX4_setKind_34 : decode cX4_setKind 34 = .ok (.aload_n 0, 1) := by decide +kernel
theorem dX4_setKind_35 : decode cX4_setKind 35 = .ok (.getfield 19, 3) := by decide +kernel
theorem dX4_setKind_38 : decode cX4_setKind 38 = .ok (.aload_n 0, 1) := by decide +kernel
theorem dX4_setKind_39 : decode cX4_setKind 39 = .ok (.getfield 10, 3) := by decide +kernel
theorem dX4_setKind_42 : decode cX4_setKind 42 = .ok (.invokevirtual 48, 3) := by decide +kernel
theorem dX4_setKind_45 : decode cX4_setKind 45 = .ok (.aload_n 0, 1) := by decide +kernel
theorem dX4_setKind_46 : decode cX4_setKind 46 = .ok (.getfield 10, 3) := by decide +kernel
theorem dX4_setKind_49 : decode cX4_setKind 49 = .ok (.iload_n 1, 1) := by decide +kernel
theorem dX4_setKind_50 : decode cX4_setKind 50 = .ok (.iconst 2, 1) := by decide +kernel
theorem dX4_setKind_51 : decode cX4_setKind 51 = .ok (.invokevirtual 59, 3) := by decide +kernel
theorem dX4_setKind_54 : decode cX4_setKind 54 = .ok (.istore 4, 2) := by decide +kernel
theorem dX4_setKind_56 : decode cX4_setKind 56 = .ok (.aload_n 0, 1) := by decide +kernel
theorem dX4_setKind_57 : decode cX4_setKind 57 = .ok (.getfield 10, 3) := by decide +kernel
theorem dX4_setKind_60 : decode cX4_setKind 60 = .ok (.iload_n 1, 1) := by decide +kernel
theorem dX4_setKind_61 : decode cX4_setKind 61 = .ok (.iload_n 2, 1) := by decide +kernel
theorem dX4_setKind_62 : decode cX4_setKind 62 = .ok (.iload_n 3, 1) := by decide +kernel
theorem dX4_setKind_63 : decode cX4_setKind 63 = .ok (.invokevirtual 67, 3) := by decide +kernel
theorem dX4_setKind_66 : decode cX4_setKind 66 = .ok (.iload 4, 2) := by decide +kernel
theorem dX4_setKind_68 : decode cX4_setKind 68 = .ok (.ireturn, 1) := by decide +kernel
set_option maxRecDepth 20000 in
theorem ggX4_fix_X0_has : GoodIn wsX4_fix wsX0_has := goodIn_r _ [7, 8, 9, 10, 6, 11, 12, 51] (by decide +kernel) (by decide +kernel)
set_option maxRecDepth 20000 in
theorem gX4_fix_X0_has : GoodIn wsX4_fix (wsV RX4 56 RX0 yX0_has wsX0_has) := goodIn_app (goodIn_of _ (by decide +kernel)) ggX4_fix_X0_has
set_option maxRecDepth 20000 in
theorem ggX4_fix_X0_property : GoodIn wsX4_fix wsX0_property := goodIn_r _ [16, 12, 51] (by decide +kernel) (by decide +kernel)
set_option maxRecDepth 20000 in
theorem gX4_fix_X0_property : GoodIn wsX4_fix (wsV RX4 59 RX0 yX0_property wsX0_property) := goodIn_app (goodIn_of _ (by decide +kernel)) ggX4_fix_X0_property
set_option maxRecDepth 20000 in
theorem ggX4_fix_X1_keep : GoodIn wsX4_fix wsX1_keep := goodIn_r _ [21, 22, 23, 24, 25, 26, 27, 28, 29, 30, 31, 6, 32, 12, 33, 34, 35, 36, 52, 53, 54, 51] (by decide +kernel) (by decide +kernel)
set_option maxRecDepth 20000 in
theorem gX4_fix_X1_keep : GoodIn wsX4_fix (wsV RX4 48 RX1 yX1_keep wsX1_keep) := goodIn_app (goodIn_of _ (by decide +kernel)) ggX4_fix_X1_keep
set_option maxRecDepth 20000 in
theorem ggX4_fix_X0_join : GoodIn wsX4_fix wsX0_join := goodIn_r _ [40, 41, 26, 27, 28, 8, 9, 10, 6, 11, 12, 42, 14, 15, 16, 43, 44, 45, 46, 51] (by decide +kernel) (by decide +kernel)
set_option maxRecDepth 20000 in
theorem gX4_fix_X0_join : GoodIn wsX4_fix (wsV RX4 71 RX0 yX0_join wsX0_join) := goodIn_app (goodIn_of _ (by decide +kernel)) ggX4_fix_X0_join
theorem dX4_fix_0 : decode cX4_fix 0 = .ok (.aload_n 0, 1) := by decide +kernel
theorem dX4_fix_1 : decode cX4_fix 1 = .ok (.getfield 10, 3) := by decide +kernel
theorem dX4_fix_4 : decode cX4_fix 4 = .ok (.iload_n 1, 1) := by decide +kernel
theorem dX4_fix_5 : decode cX4_fix 5 = .ok (.invokevirtual 56, 3) := by decide +kernel
theorem dX4_fix_8 : decode cX4_fix 8 = .ok (.ifCond .eq 14, 3) := by decide +kernel
theorem dX4_fix_11 : decode cX4_fix 11 = .ok (.aload_n 0, 1) := by decide +kernel
theorem dX4_fix_12 : decode cX4_fix 12 = .ok (.getfield 10, 3) := by decide +kernel
theorem dX4_fix_15 : decode cX4_fix 15 = .ok (.iload_n 2, 1) := by decide +kernel
theorem dX4_fix_16 : decode cX4_fix 16 = .ok (.invokevirtual 56, 3) := by decide +kernel
theorem dX4_fix_19 : decode cX4_fix 19 = .ok (.ifCond .ne 6, 3) := by decide +kernel
theorem dX4_fix_22 : decode cX4_fix 22 = .ok (.bipush (-2), 2) := by decide +kernel
theorem dX4_fix_24 : decode cX4_fix 24 = .ok (.ireturn, 1) := by decide +kernel
theorem dX4_fix_25 : decode cX4_fix 25 = .ok (.aload_n 0, 1) := by decide +kernel
theorem dX4_fix_26 : decode cX4_fix 26 = .ok (.getfield 10, 3) := by decide +kernel
theorem dX4_fix_29 : decode cX4_fix 29 = .ok (.iload_n 1, 1) := by decide +kernel
theorem dX4_fix_30 : decode cX4_fix 30 = .ok (.iconst 5, 1) := by decide +kernel
theorem dX4_fix_31 : decode cX4_fix 31 = .ok (.invokevirtual 59, 3) := by decide +kernel
theorem dX4_fix_34 : decode cX4_fix 34 = .ok (.istore_n 3, 1) := by decide +kernel
theorem dX4_fix_35 : decode cX4_fix 35 = .ok (.aload_n 0, 1) := by decide +kernel
theorem dX4_fix_36 : decode cX4_fix 36 = .ok (.getfield 10, 3) := by decide +kernel
theorem dX4_fix_39 : decode cX4_fix 39 = .ok (.iload_n 2, 1) := by decide +kernel
theorem dX4_fix_40 : decode cX4_fix 40 = .ok (.iconst 5, 1) := by decide +kernel
theorem dX4_fix_41 : decode cX4_fix 41 = .ok (.invokevirtual 59, 3) := by decide +kernel
theorem dX4_fix_44 : decode cX4_fix 44 = .ok (.istore 4, 2) := by decide +kernel
theorem dX4_fix_46 : decode cX4_fix 46 = .ok (.iload_n 3, 1) := by decide +kernel
theorem dX4_fix_47 : decode cX4_fix 47 = .ok (.iload 4, 2) := by decide +kernel
theorem dX4_fix_49 : decode cX4_fix 49 = .ok (.if_icmp .ne 6, 3) := by decide +kernel
theorem dX4_fix_52 : decode cX4_fix 52 = .ok (.bipush (-3), 2) := by decide +kernel
theorem dX4_fix_54 : decode cX4_fix 54 = .ok (.ireturn, 1) := by decide +kernel
theorem dX4_fix_55 : decode cX4_fix 55 = .ok (.aload_n 0, 1) := by decide +kernel
theorem dX4_fix_56 : decode cX4_fix 56 = .ok (.getfield 19, 3) := by decide +kernel
theorem dX4_fix_59 : decode cX4_fix 59 = .ok (.aload_n 0, 1) := by decide +kernel
theorem dX4_fix_60 : decode cX4_fix 60 = .ok (.getfield 10, 3) := by decide +kernel
theorem dX4_fix_63 : decode cX4_fix 63 = .ok (.invokevirtual 48, 3) := by decide +kernel
theorem dX4_fix_66 : decode cX4_fix 66 = .ok (.aload_n 0, 1) := by decide +kernel
theorem dX4_fix_67 : decode cX4_fix 67 = .ok (.getfield 10, 3) := by decide +kernel
theorem dX4_fix_70 : decode cX4_fix 70 = .ok (.iload_n 3, 1) := by decide +kernel
theorem dX4_fix_71 : decode cX4_fix 71 = .ok (.iload 4, 2) := by decide +kernel
theorem dX4_fix_73 : decode cX4_fix 73 = .ok (.invokevirtual 71, 3) := by decide +kernel
theorem dX4_fix_76 : decode cX4_fix 76 = .ok (.aload_n 0, 1) := by decide +kernel
theorem dX4_fix_77 : decode cX4_fix 77 = .ok (.getfield 10, 3) := by decide +kernel
theorem dX4_fix_80 : decode cX4_fix 80 = .ok (.iload_n 1, 1) := by decide +kernel
theorem dX4_fix_81 : decode cX4_fix 81 = .ok (.iconst 5, 1) := by decide +kernel
theorem dX4_fix_82 : decode cX4_fix 82 = .ok (.invokevirtual 59, 3) := by decide +kernel
theorem dX4_fix_85 : decode cX4_fix 85 = .ok (.ireturn, 1) := by decide +kernel
set_option maxRecDepth 20000 in
theorem ggX4_loosen_X0_has : GoodIn wsX4_loosen wsX0_has := goodIn_r _ [7, 8, 9, 10, 6, 11, 12, 58] (by decide +kernel) (by decide +kernel)
set_option maxRecDepth 20000 in
theorem gX4_loosen_X0_has : GoodIn wsX4_loosen (wsV RX4 56 RX0 yX0_has wsX0_has) := goodIn_app (goodIn_of _ (by decide +kernel)) ggX4_loosen_X0_has
set_option maxRecDepth 20000 in
theorem ggX4_loosen_X0_property : GoodIn wsX4_loosen wsX0_property := goodIn_r _ [16, 12, 58] (by decide +kernel) (by decide +kernel)
set_option maxRecDepth 20000 in
theorem gX4_loosen_X0_property : GoodIn wsX4_loosen (wsV RX4 59 RX0 yX0_property wsX0_property) := goodIn_app (goodIn_of _ (by decide +kernel)) ggX4_loosen_X0_property
set_option maxRecDepth 20000 in
theorem ggX4_loosen_X0_glassesOf : GoodIn wsX4_loosen wsX0_glassesOf := goodIn_r _ [20, 8, 9, 10, 6, 11, 12, 21, 14, 15, 16, 58] (by decide +kernel) (by decide +kernel)
set_option maxRecDepth 20000 in
theorem gX4_loosen_X0_glassesOf : GoodIn wsX4_loosen (wsV RX4 74 RX0 yX0_glassesOf wsX0_glassesOf) := goodIn_app (goodIn_of _ (by decide +kernel)) ggX4_loosen_X0_glassesOf
set_option maxRecDepth 20000 in
theorem ggX4_loosen_X1_keep : GoodIn wsX4_loosen wsX1_keep := goodIn_r _ [26, 27, 28, 29, 30, 31, 32, 33, 34, 35, 36, 6, 37, 12, 38, 39, 40, 41, 59, 60, 61, 58] (by decide +kernel) (by decide +kernel)
set_option maxRecDepth 20000 in
theorem gX4_loosen_X1_keep : GoodIn wsX4_loosen (wsV RX4 48 RX1 yX1_keep wsX1_keep) := goodIn_app (goodIn_of _ (by decide +kernel)) ggX4_loosen_X1_keep
set_option maxRecDepth 20000 in
theorem ggX4_loosen_X0_scatter : GoodIn wsX4_loosen wsX0_scatter := goodIn_r _ [45, 8, 9, 10, 6, 11, 12, 21, 14, 15, 16, 46, 47, 48, 49, 58] (by decide +kernel) (by decide +kernel)
set_option maxRecDepth 20000 in
theorem gX4_loosen_X0_scatter : GoodIn wsX4_loosen (wsV RX4 77 RX0 yX0_scatter wsX0_scatter) := goodIn_app (goodIn_of _ (by decide +kernel)) ggX4_loosen_X0_scatter
set_option maxRecDepth 20000 in
theorem ggX4_loosen_X0_stacks : GoodIn wsX4_loosen wsX0_stacks := goodIn_r _ [53, 8, 9, 10, 6, 11, 12, 21, 14, 15, 16, 58] (by decide +kernel) (by decide +kernel)
set_option maxRecDepth 20000 in
theorem gX4_loosen_X0_stacks : GoodIn wsX4_loosen (wsV RX4 80 RX0 yX0_stacks wsX0_stacks) := goodIn_app (goodIn_of _ (by decide +kernel)) ggX4_loosen_X0_stacks
theorem dX4_loosen_0 : decode cX4_loosen 0 = .ok (.aload_n 0, 1) := by decide +kernel
theorem dX4_loosen_1 : decode cX4_loosen 1 = .ok (.getfield 10, 3) := by decide +kernel
theorem dX4_loosen_4 : decode cX4_loosen 4 = .ok (.iload_n 1, 1) := by decide +kernel
theorem dX4_loosen_5 : decode cX4_loosen 5 = .ok (.invokevirtual 56, 3) := by decide +kernel
theorem dX4_loosen_8 : decode cX4_loosen 8 = .ok (.ifCond .ne 6, 3) := by decide +kernel
theorem dX4_loosen_11 : decode cX4_loosen 11 = .ok (.bipush (-2), 2) := by decide +kernel
theorem dX4_loosen_13 : decode cX4_loosen 13 = .ok (.ireturn, 1) := by decide +kernel
theorem dX4_loosen_14 : decode cX4_loosen 14 = .ok (.aload_n 0, 1) := by decide +kernel
theorem dX4_loosen_15 : decode cX4_loosen 15 = .ok (.getfield 10, 3) := by decide +kernel
theorem dX4_loosen_18 : decode cX4_loosen 18 = .ok (.iload_n 1, 1) := by decide +kernel
theorem dX4_loosen_19 : decode cX4_loosen 19 = .ok (.iconst 5, 1) := by decide +kernel
theorem dX4_loosen_20 : decode cX4_loosen 20 = .ok (.invokevirtual 59, 3) := by decide +kernel
theorem dX4_loosen_23 : decode cX4_loosen 23 = .ok (.istore_n 2, 1) := by decide +kernel
theorem dX4_loosen_24 : decode cX4_loosen 24 = .ok (.aload_n 0, 1) := by decide +kernel
theorem dX4_loosen_25 : decode cX4_loosen 25 = .ok (.getfield 10, 3) := by decide +kernel
theorem dX4_loosen_28 : decode cX4_loosen 28 = .ok (.iload_n 2, 1) := by decide +kernel
theorem dX4_loosen_29 : decode cX4_loosen 29 = .ok (.invokevirtual 74, 3) := by decide +kernel
theorem dX4_loosen_32 : decode cX4_loosen 32 = .ok (.iconst 1, 1) := by decide +kernel
theorem dX4_loosen_33 : decode cX4_loosen 33 = .ok (.if_icmp .ne 6, 3) := by decide +kernel
theorem dX4_loosen_36 : decode cX4_loosen 36 = .ok (.bipush (-3), 2) := by decide +kernel
theorem dX4_loosen_38 : decode cX4_loosen 38 = .ok (.ireturn, 1) := by decide +kernel
theorem dX4_loosen_39 : decode cX4_loosen 39 = .ok (.aload_n 0, 1) := by decide +kernel
theorem dX4_loosen_40 : decode cX4_loosen 40 = .ok (.getfield 19, 3) := by decide +kernel
theorem dX4_loosen_43 : decode cX4_loosen 43 = .ok (.aload_n 0, 1) := by decide +kernel
theorem dX4_loosen_44 : decode cX4_loosen 44 = .ok (.getfield 10, 3) := by decide +kernel
theorem dX4_loosen_47 : decode cX4_loosen 47 = .ok (.invokevirtual 48, 3) := by decide +kernel
theorem dX4_loosen_50 : decode cX4_loosen 50 = .ok (.aload_n 0, 1) := by decide +kernel
theorem dX4_loosen_51 : decode cX4_loosen 51 = .ok (.getfield 10, 3) := by decide +kernel
theorem dX4_loosen_54 : decode cX4_loosen 54 = .ok (.iload_n 2, 1) := by decide +kernel
theorem dX4_loosen_55 : decode cX4_loosen 55 = .ok (.invokevirtual 77, 3) := by decide +kernel
theorem dX4_loosen_58 : decode cX4_loosen 58 = .ok (.aload_n 0, 1) := by decide +kernel
theorem dX4_loosen_59 : decode cX4_loosen 59 = .ok (.getfield 10, 3) := by decide +kernel
theorem dX4_loosen_62 : decode cX4_loosen 62 = .ok (.invokevirtual 80, 3) := by decide +kernel
theorem dX4_loosen_65 : decode cX4_loosen 65 = .ok (.ireturn, 1) := by decide +kernel
set_option maxRecDepth 20000 in
theorem ggX4_turn_X0_has : GoodIn wsX4_turn wsX0_has := goodIn_r _ [7, 8, 9, 10, 6, 11, 12, 54] (by decide +kernel) (by decide +kernel)
set_option maxRecDepth 20000 in
theorem gX4_turn_X0_has : GoodIn wsX4_turn (wsV RX4 56 RX0 yX0_has wsX0_has) := goodIn_app (goodIn_of _ (by decide +kernel)) ggX4_turn_X0_has
set_option maxRecDepth 20000 in
theorem ggX4_turn_X1_keep : GoodIn wsX4_turn wsX1_keep := goodIn_r _ [17, 18, 19, 20, 21, 22, 23, 24, 25, 26, 27, 6, 28, 12, 29, 30, 31, 32, 55, 56, 57, 54] (by decide +kernel) (by decide +kernel)
set_option maxRecDepth 20000 in
theorem gX4_turn_X1_keep : GoodIn wsX4_turn (wsV RX4 48 RX1 yX1_keep wsX1_keep) := goodIn_app (goodIn_of _ (by decide +kernel)) ggX4_turn_X1_keep
set_option maxRecDepth 20000 in
theorem ggX4_turn_X0_turnStackOf : GoodIn wsX4_turn wsX0_turnStackOf := goodIn_r _ [36, 12, 37, 38, 39, 6, 40, 8, 9, 10, 11, 41, 42, 43, 44, 45, 46, 47, 48, 54] (by decide +kernel) (by decide +kernel)
set_option maxRecDepth 20000 in
theorem gX4_turn_X0_turnStackOf : GoodIn wsX4_turn (wsV RX4 83 RX0 yX0_turnStackOf wsX0_turnStackOf) := goodIn_app (goodIn_of _ (by decide +kernel)) ggX4_turn_X0_turnStackOf
set_option maxRecDepth 20000 in
theorem ggX4_turn_X0_property : GoodIn wsX4_turn wsX0_property := goodIn_r _ [40, 12, 54] (by decide +kernel) (by decide +kernel)
set_option maxRecDepth 20000 in
theorem gX4_turn_X0_property : GoodIn wsX4_turn (wsV RX4 59 RX0 yX0_property wsX0_property) := goodIn_app (goodIn_of _ (by decide +kernel)) ggX4_turn_X0_property
theorem dX4_turn_0 : decode cX4_turn 0 = .ok (.aload_n 0, 1) := by decide +kernel
theorem dX4_turn_1 : decode cX4_turn 1 = .ok (.getfield 10, 3) := by decide +kernel
theorem dX4_turn_4 : decode cX4_turn 4 = .ok (.iload_n 1, 1) := by decide +kernel
theorem dX4_turn_5 : decode cX4_turn 5 = .ok (.invokevirtual 56, 3) := by decide +kernel
theorem dX4_turn_8 : decode cX4_turn 8 = .ok (.ifCond .ne 6, 3) := by decide +kernel
theorem dX4_turn_11 : decode cX4_turn 11 = .ok (.bipush (-2), 2) := by decide +kernel
theorem dX4_turn_13 : decode cX4_turn 13 = .ok (.ireturn, 1) := by decide +kernel
theorem dX4_turn_14 : decode cX4_turn 14 = .ok (.aload_n 0, 1) := by decide +kernel
theorem dX4_turn_15 : decode cX4_turn 15 = .ok (.getfield 19, 3) := by decide +kernel
theorem dX4_turn_18 : decode cX4_turn 18 = .ok (.aload_n 0, 1) := by decide +kernel
theorem dX4_turn_19 : decode cX4_turn 19 = .ok (.getfield 10, 3) := by decide +kernel
theorem dX4_turn_22 : decode cX4_turn 22 = .ok (.invokevirtual 48, 3) := by decide +kernel
theorem dX4_turn_25 : decode cX4_turn 25 = .ok (.aload_n 0, 1) := by decide +kernel
theorem dX4_turn_26 : decode cX4_turn 26 = .ok (.getfield 10, 3) := by decide +kernel
theorem dX4_turn_29 : decode cX4_turn 29 = .ok (.iload_n 1, 1) := by decide +kernel
theorem dX4_turn_30 : decode cX4_turn 30 = .ok (.invokevirtual 83, 3) := by decide +kernel
theorem dX4_turn_33 : decode cX4_turn 33 = .ok (.aload_n 0, 1) := by decide +kernel
theorem dX4_turn_34 : decode cX4_turn 34 = .ok (.getfield 10, 3) := by decide +kernel
theorem dX4_turn_37 : decode cX4_turn 37 = .ok (.iload_n 1, 1) := by decide +kernel
theorem dX4_turn_38 : decode cX4_turn 38 = .ok (.iconst 1, 1) := by decide +kernel
theorem dX4_turn_39 : decode cX4_turn 39 = .ok (.invokevirtual 59, 3) := by decide +kernel
theorem dX4_turn_42 : decode cX4_turn 42 = .ok (.ireturn, 1) := by decide +kernel
set_option maxRecDepth 20000 in
theorem ggX4_tap_X0_has : GoodIn wsX4_tap wsX0_has := goodIn_r _ [7, 8, 9, 10, 6, 11, 12, 53] (by decide +kernel) (by decide +kernel)
set_option maxRecDepth 20000 in
theorem gX4_tap_X0_has : GoodIn wsX4_tap (wsV RX4 56 RX0 yX0_has wsX0_has) := goodIn_app (goodIn_of _ (by decide +kernel)) ggX4_tap_X0_has
set_option maxRecDepth 20000 in
theorem ggX4_tap_X1_keep : GoodIn wsX4_tap wsX1_keep := goodIn_r _ [17, 18, 19, 20, 21, 22, 23, 24, 25, 26, 27, 6, 28, 12, 29, 30, 31, 32, 54, 55, 56, 53] (by decide +kernel) (by decide +kernel)
set_option maxRecDepth 20000 in
theorem gX4_tap_X1_keep : GoodIn wsX4_tap (wsV RX4 48 RX1 yX1_keep wsX1_keep) := goodIn_app (goodIn_of _ (by decide +kernel)) ggX4_tap_X1_keep
set_option maxRecDepth 20000 in
theorem ggX4_tap_X0_property : GoodIn wsX4_tap wsX0_property := goodIn_r _ [36, 12, 53] (by decide +kernel) (by decide +kernel)
set_option maxRecDepth 20000 in
theorem gX4_tap_X0_property : GoodIn wsX4_tap (wsV RX4 59 RX0 yX0_property wsX0_property) := goodIn_app (goodIn_of _ (by decide +kernel)) ggX4_tap_X0_property
set_option maxRecDepth 20000 in
theorem ggX4_tap_X0_tapGlass : GoodIn wsX4_tap wsX0_tapGlass := goodIn_r _ [40, 12, 41, 42, 43, 6, 44, 45, 46, 47, 48, 53] (by decide +kernel) (by decide +kernel)
set_option maxRecDepth 20000 in
theorem gX4_tap_X0_tapGlass : GoodIn wsX4_tap (wsV RX4 86 RX0 yX0_tapGlass wsX0_tapGlass) := goodIn_app (goodIn_of _ (by decide +kernel)) ggX4_tap_X0_tapGlass
theorem dX4_tap_0 : decode cX4_tap 0 = .ok (.aload_n 0, 1) := by decide +kernel
theorem dX4_tap_1 : decode cX4_tap 1 = .ok (.getfield 10, 3) := by decide +kernel
theorem dX4_tap_4 : decode cX4_tap 4 = .ok (.iload_n 1, 1) := by decide +kernel
theorem dX4_tap_5 : decode cX4_tap 5 = .ok (.invokevirtual 56, 3) := by decide +kernel
theorem dX4_tap_8 : decode cX4_tap 8 = .ok (.ifCond .ne 6, 3) := by decide +kernel
theorem dX4_tap_11 : decode cX4_tap 11 = .ok (.bipush (-2), 2) := by decide +kernel
theorem dX4_tap_13 : decode cX4_tap 13 = .ok (.ireturn, 1) := by decide +kernel
theorem dX4_tap_14 : decode cX4_tap 14 = .ok (.aload_n 0, 1) := by decide +kernel
theorem dX4_tap_15 : decode cX4_tap 15 = .ok (.getfield 19, 3) := by decide +kernel
theorem dX4_tap_18 : decode cX4_tap 18 = .ok (.aload_n 0, 1) := by decide +kernel
theorem dX4_tap_19 : decode cX4_tap 19 = .ok (.getfield 10, 3) := by decide +kernel
theorem dX4_tap_22 : decode cX4_tap 22 = .ok (.invokevirtual 48, 3) := by decide +kernel
theorem dX4_tap_25 : decode cX4_tap 25 = .ok (.aload_n 0, 1) := by decide +kernel
theorem dX4_tap_26 : decode cX4_tap 26 = .ok (.getfield 10, 3) := by decide +kernel
theorem dX4_tap_29 : decode cX4_tap 29 = .ok (.iload_n 1, 1) := by decide +kernel
theorem dX4_tap_30 : decode cX4_tap 30 = .ok (.iconst 4, 1) := by decide +kernel
theorem dX4_tap_31 : decode cX4_tap 31 = .ok (.invokevirtual 59, 3) := by decide +kernel
theorem dX4_tap_34 : decode cX4_tap 34 = .ok (.istore_n 2, 1) := by decide +kernel
theorem dX4_tap_35 : decode cX4_tap 35 = .ok (.aload_n 0, 1) := by decide +kernel
theorem dX4_tap_36 : decode cX4_tap 36 = .ok (.getfield 10, 3) := by decide +kernel
theorem dX4_tap_39 : decode cX4_tap 39 = .ok (.iload_n 1, 1) := by decide +kernel
theorem dX4_tap_40 : decode cX4_tap 40 = .ok (.invokevirtual 86, 3) := by decide +kernel
theorem dX4_tap_43 : decode cX4_tap 43 = .ok (.iload_n 2, 1) := by decide +kernel
theorem dX4_tap_44 : decode cX4_tap 44 = .ok (.ireturn, 1) := by decide +kernel
set_option maxRecDepth 20000 in
theorem ggX4_pass_X0_hasTimeFor : GoodIn wsX4_pass wsX0_hasTimeFor := goodIn_r _ [7, 8, 77] (by decide +kernel) (by decide +kernel)
set_option maxRecDepth 20000 in
theorem gX4_pass_X0_hasTimeFor : GoodIn wsX4_pass (wsV RX4 89 RX0 yX0_hasTimeFor wsX0_hasTimeFor) := goodIn_app (goodIn_of _ (by decide +kernel)) ggX4_pass_X0_hasTimeFor
set_option maxRecDepth 20000 in
theorem ggX4_pass_X1_keep : GoodIn wsX4_pass wsX1_keep := goodIn_r _ [13, 14, 15, 16, 17, 18, 19, 20, 21, 22, 23, 6, 24, 8, 25, 26, 27, 28, 78, 79, 80, 77] (by decide +kernel) (by decide +kernel)
set_option maxRecDepth 20000 in
theorem gX4_pass_X1_keep : GoodIn wsX4_pass (wsV RX4 48 RX1 yX1_keep wsX1_keep) := goodIn_app (goodIn_of _ (by decide +kernel)) ggX4_pass_X1_keep
set_option maxRecDepth 20000 in
theorem ggX4_pass_X0_letPass : GoodIn wsX4_pass wsX0_letPass := goodIn_r _ [32, 8, 33, 34, 35, 6, 36, 37, 38, 39, 40, 41, 42, 43, 44, 45, 46, 47, 48, 49, 50, 51, 52, 53, 18, 19, 20, 54, 55, 56, 57, 58, 59, 60, 61, 62, 63, 64, 65, 66, 67, 68, 69, 70, 71, 72, 77] (by decide +kernel) (by decide +kernel)
set_option maxRecDepth 20000 in
theorem gX4_pass_X0_letPass : GoodIn wsX4_pass (wsV RX4 92 RX0 yX0_letPass wsX0_letPass) := goodIn_app (goodIn_of _ (by decide +kernel)) ggX4_pass_X0_letPass
theorem dX4_pass_0 : decode cX4_pass 0 = .ok (.iload_n 1, 1) := by decide +kernel
theorem dX4_pass_1 : decode cX4_pass 1 = .ok (.iconst 1, 1) := by decide +kernel
theorem dX4_pass_2 : decode cX4_pass 2 = .ok (.if_icmp .lt 10, 3) := by decide +kernel
theorem dX4_pass_5 : decode cX4_pass 5 = .ok (.iload_n 1, 1) := by decide +kernel
theorem dX4_pass_6 : decode cX4_pass 6 = .ok (.sipush 999, 3) := by decide +kernel
theorem dX4_pass_9 : decode cX4_pass 9 = .ok (.if_icmp .le 6, 3) := by decide +kernel
theorem dX4_pass_12 : decode cX4_pass 12 = .ok (.bipush (-2), 2) := by decide +kernel
theorem dX4_pass_14 : decode cX4_pass 14 = .ok (.ireturn, 1) := by decide +kernel
theorem dX4_pass_15 : decode cX4_pass 15 = .ok (.aload_n 0, 1) := by decide +kernel
theorem dX4_pass_16 : decode cX4_pass 16 = .ok (.getfield 10, 3) := by decide +kernel
theorem dX4_pass_19 : decode cX4_pass 19 = .ok (.iload_n 1, 1) := by decide +kernel
theorem dX4_pass_20 : decode cX4_pass 20 = .ok (.invokevirtual 89, 3) := by decide +kernel
theorem dX4_pass_23 : decode cX4_pass 23 = .ok (.ifCond .ne 6, 3) := by decide +kernel
theorem dX4_pass_26 : decode cX4_pass 26 = .ok (.bipush (-4), 2) := by decide +kernel
theorem dX4_pass_28 : decode cX4_pass 28 = .ok (.ireturn, 1) := by decide +kernel
theorem dX4_pass_29 : decode cX4_pass 29 = .ok (.aload_n 0, 1) := by decide +kernel
theorem dX4_pass_30 : decode cX4_pass 30 = .ok (.getfield 19, 3) := by decide +kernel
theorem dX4_pass_33 : decode cX4_pass 33 = .ok (.aload_n 0, 1) := by decide +kernel
theorem dX4_pass_34 : decode cX4_pass 34 = .ok (.getfield 10, 3) := by decide +kernel
theorem dX4_pass_37 : decode cX4_pass 37 = .ok (.invokevirtual 48, 3) := by decide +kernel
theorem dX4_pass_40 : decode cX4_pass 40 = .ok (.aload_n 0, 1) := by decide +kernel
theorem dX4_pass_41 : decode cX4_pass 41 = .ok (.getfield 10, 3) := by decide +kernel
theorem dX4_pass_44 : decode cX4_pass 44 = .ok (.iload_n 1, 1) := by decide +kernel
theorem dX4_pass_45 : decode cX4_pass 45 = .ok (.invokevirtual 92, 3) := by decide +kernel
theorem dX4_pass_48 : decode cX4_pass 48 = .ok (.ireturn, 1) := by decide +kernel
set_option maxRecDepth 20000 in
theorem ggX4_await_X0_secondsToEvent : GoodIn wsX4_await wsX0_secondsToEvent := goodIn_r _ [7, 8, 9, 10, 6, 11, 12, 13, 14, 15, 16, 17, 18, 19, 20, 21, 22, 23, 24, 25, 26, 27, 28, 78] (by decide +kernel) (by decide +kernel)
set_option maxRecDepth 20000 in
theorem gX4_await_X0_secondsToEvent : GoodIn wsX4_await (wsV RX4 95 RX0 yX0_secondsToEvent wsX0_secondsToEvent) := goodIn_app (goodIn_of _ (by decide +kernel)) ggX4_await_X0_secondsToEvent
set_option maxRecDepth 20000 in
theorem ggX4_await_X0_hasTimeFor : GoodIn wsX4_await wsX0_hasTimeFor := goodIn_r _ [32, 12, 78] (by decide +kernel) (by decide +kernel)
set_option maxRecDepth 20000 in
theorem gX4_await_X0_hasTimeFor : GoodIn wsX4_await (wsV RX4 89 RX0 yX0_hasTimeFor wsX0_hasTimeFor) := goodIn_app (goodIn_of _ (by decide +kernel)) ggX4_await_X0_hasTimeFor
set_option maxRecDepth 20000 in
theorem ggX4_await_X1_keep : GoodIn wsX4_await wsX1_keep := goodIn_r _ [37, 38, 39, 40, 41, 26, 27, 28, 42, 43, 44, 6, 45, 12, 46, 47, 48, 49, 79, 80, 81, 78] (by decide +kernel) (by decide +kernel)
set_option maxRecDepth 20000 in
theorem gX4_await_X1_keep : GoodIn wsX4_await (wsV RX4 48 RX1 yX1_keep wsX1_keep) := goodIn_app (goodIn_of _ (by decide +kernel)) ggX4_await_X1_keep
set_option maxRecDepth 20000 in
theorem ggX4_await_X0_letPass : GoodIn wsX4_await wsX0_letPass := goodIn_r _ [53, 12, 54, 4, 5, 6, 7, 8, 9, 10, 11, 13, 14, 15, 16, 17, 18, 19, 20, 21, 22, 23, 24, 25, 26, 27, 28, 55, 56, 57, 58, 59, 60, 61, 62, 63, 64, 65, 66, 67, 68, 69, 70, 71, 72, 73, 78] (by decide +kernel) (by decide +kernel)
set_option maxRecDepth 20000 in
theorem gX4_await_X0_letPass : GoodIn wsX4_await (wsV RX4 92 RX0 yX0_letPass wsX0_letPass) := goodIn_app (goodIn_of _ (by decide +kernel)) ggX4_await_X0_letPass
theorem dX4_await_0 : decode cX4_await 0 = .ok (.aload_n 0, 1) := by decide +kernel
theorem dX4_await_1 : decode cX4_await 1 = .ok (.getfield 10, 3) := by decide +kernel
theorem dX4_await_4 : decode cX4_await 4 = .ok (.invokevirtual 95, 3) := by decide +kernel
theorem dX4_await_7 : decode cX4_await 7 = .ok (.istore_n 1, 1) := by decide +kernel
theorem dX4_await_8 : decode cX4_await 8 = .ok (.iload_n 1, 1) := by decide +kernel
theorem dX4_await_9 : decode cX4_await 9 = .ok (.ifCond .ne 6, 3) := by decide +kernel
theorem dX4_await_12 : decode cX4_await 12 = .ok (.bipush (-3), 2) := by decide +kernel
theorem dX4_await_14 : decode cX4_await 14 = .ok (.ireturn, 1) := by decide +kernel
theorem dX4_await_15 : decode cX4_await 15 = .ok (.aload_n 0, 1) := by decide +kernel
theorem dX4_await_16 : decode cX4_await 16 = .ok (.getfield 10, 3) := by decide +kernel
theorem dX4_await_19 : decode cX4_await 19 = .ok (.iload_n 1, 1) := by decide +kernel
