theorem dX4_await_20 : decode cX4_await 20 = .ok (.invokevirtual 89, 3) := by decide +kernel
theorem dX4_await_23 : decode cX4_await 23 = .ok (.ifCond .ne 6, 3) := by decide +kernel
theorem dX4_await_26 : decode cX4_await 26 = .ok (.bipush (-4), 2) := by decide +kernel
theorem dX4_await_28 : decode cX4_await 28 = .ok (.ireturn, 1) := by decide +kernel
theorem dX4_await_29 : decode cX4_await 29 = .ok (.aload_n 0, 1) := by decide +kernel
theorem dX4_await_30 : decode cX4_await 30 = .ok (.getfield 19, 3) := by decide +kernel
theorem dX4_await_33 : decode cX4_await 33 = .ok (.aload_n 0, 1) := by decide +kernel
theorem dX4_await_34 : decode cX4_await 34 = .ok (.getfield 10, 3) := by decide +kernel
theorem dX4_await_37 : decode cX4_await 37 = .ok (.invokevirtual 48, 3) := by decide +kernel
theorem dX4_await_40 : decode cX4_await 40 = .ok (.aload_n 0, 1) := by decide +kernel
theorem dX4_await_41 : decode cX4_await 41 = .ok (.getfield 10, 3) := by decide +kernel
theorem dX4_await_44 : decode cX4_await 44 = .ok (.iload_n 1, 1) := by decide +kernel
theorem dX4_await_45 : decode cX4_await 45 = .ok (.invokevirtual 92, 3) := by decide +kernel
theorem dX4_await_48 : decode cX4_await 48 = .ok (.pop, 1) := by decide +kernel
theorem dX4_await_49 : decode cX4_await 49 = .ok (.iload_n 1, 1) := by decide +kernel
theorem dX4_await_50 : decode cX4_await 50 = .ok (.ireturn, 1) := by decide +kernel
set_option maxRecDepth 20000 in
theorem ggX4_mark_X1_keep : GoodIn wsX4_mark wsX1_keep := goodIn_r _ [7, 8, 9, 10, 11, 12, 13, 14, 15, 16, 17, 18, 19, 20, 21, 22, 23, 24, 37, 38, 39, 40] (by decide +kernel) (by decide +kernel)
set_option maxRecDepth 20000 in
theorem gX4_mark_X1_keep : GoodIn wsX4_mark (wsV RX4 48 RX1 yX1_keep wsX1_keep) := goodIn_app (goodIn_of _ (by decide +kernel)) ggX4_mark_X1_keep
set_option maxRecDepth 20000 in
theorem ggX4_mark_X0_markedTime : GoodIn wsX4_mark wsX0_markedTime := goodIn_r _ [28, 20, 40] (by decide +kernel) (by decide +kernel)
set_option maxRecDepth 20000 in
theorem gX4_mark_X0_markedTime : GoodIn wsX4_mark (wsV RX4 98 RX0 yX0_markedTime wsX0_markedTime) := goodIn_app (goodIn_of _ (by decide +kernel)) ggX4_mark_X0_markedTime
set_option maxRecDepth 20000 in
theorem ggX4_mark_X0_markTime : GoodIn wsX4_mark wsX0_markTime := goodIn_r _ [32, 20, 40] (by decide +kernel) (by decide +kernel)
set_option maxRecDepth 20000 in
theorem gX4_mark_X0_markTime : GoodIn wsX4_mark (wsV RX4 101 RX0 yX0_markTime wsX0_markTime) := goodIn_app (goodIn_of _ (by decide +kernel)) ggX4_mark_X0_markTime
theorem dX4_mark_0 : decode cX4_mark 0 = .ok (.aload_n 0, 1) := by decide +kernel
theorem dX4_mark_1 : decode cX4_mark 1 = .ok (.getfield 19, 3) := by decide +kernel
theorem dX4_mark_4 : decode cX4_mark 4 = .ok (.aload_n 0, 1) := by decide +kernel
theorem dX4_mark_5 : decode cX4_mark 5 = .ok (.getfield 10, 3) := by decide +kernel
theorem dX4_mark_8 : decode cX4_mark 8 = .ok (.invokevirtual 48, 3) := by decide +kernel
theorem dX4_mark_11 : decode cX4_mark 11 = .ok (.aload_n 0, 1) := by decide +kernel
theorem dX4_mark_12 : decode cX4_mark 12 = .ok (.getfield 10, 3) := by decide +kernel
theorem dX4_mark_15 : decode cX4_mark 15 = .ok (.invokevirtual 98, 3) := by decide +kernel
theorem dX4_mark_18 : decode cX4_mark 18 = .ok (.istore_n 1, 1) := by decide +kernel
theorem dX4_mark_19 : decode cX4_mark 19 = .ok (.aload_n 0, 1) := by decide +kernel
theorem dX4_mark_20 : decode cX4_mark 20 = .ok (.getfield 10, 3) := by decide +kernel
theorem dX4_mark_23 : decode cX4_mark 23 = .ok (.invokevirtual 101, 3) := by decide +kernel
theorem dX4_mark_26 : decode cX4_mark 26 = .ok (.iload_n 1, 1) := by decide +kernel
theorem dX4_mark_27 : decode cX4_mark 27 = .ok (.ireturn, 1) := by decide +kernel
set_option maxRecDepth 20000 in
theorem ggX4_undo_X1_restore : GoodIn wsX4_undo wsX1_restore := goodIn_r _ [7, 8, 9, 10, 11, 12, 13, 14, 15, 16, 17, 18, 19, 20, 29, 30, 31, 32] (by decide +kernel) (by decide +kernel)
set_option maxRecDepth 20000 in
theorem gX4_undo_X1_restore : GoodIn wsX4_undo (wsV RX4 117 RX1 yX1_restore wsX1_restore) := goodIn_app (goodIn_of _ (by decide +kernel)) ggX4_undo_X1_restore
set_option maxRecDepth 20000 in
theorem ggX4_undo_X1_states : GoodIn wsX4_undo wsX1_states := goodIn_r _ [24, 8, 29, 30, 31] (by decide +kernel) (by decide +kernel)
set_option maxRecDepth 20000 in
theorem gX4_undo_X1_states : GoodIn wsX4_undo (wsV RX4 121 RX1 yX1_states wsX1_states) := goodIn_app (goodIn_of _ (by decide +kernel)) ggX4_undo_X1_states
theorem dX4_undo_0 : decode cX4_undo 0 = .ok (.aload_n 0, 1) := by decide +kernel
theorem dX4_undo_1 : decode cX4_undo 1 = .ok (.getfield 19, 3) := by decide +kernel
theorem dX4_undo_4 : decode cX4_undo 4 = .ok (.aload_n 0, 1) := by decide +kernel
theorem dX4_undo_5 : decode cX4_undo 5 = .ok (.getfield 10, 3) := by decide +kernel
theorem dX4_undo_8 : decode cX4_undo 8 = .ok (.invokevirtual 117, 3) := by decide +kernel
theorem dX4_undo_11 : decode cX4_undo 11 = .ok (.ifCond .eq 13, 3) := by decide +kernel
theorem dX4_undo_14 : decode cX4_undo 14 = .ok (.aload_n 0, 1) := by decide +kernel
theorem dX4_undo_15 : decode cX4_undo 15 = .ok (.getfield 19, 3) := by decide +kernel
theorem dX4_undo_18 : decode cX4_undo 18 = .ok (.invokevirtual 121, 3) := by decide +kernel
theorem dX4_undo_21 : decode cX4_undo 21 = .ok (.goto 5, 3) := by decide +kernel
theorem dX4_undo_24 : decode cX4_undo 24 = .ok (.bipush (-3), 2) := by decide +kernel
theorem dX4_undo_26 : decode cX4_undo 26 = .ok (.ireturn, 1) := by decide +kernel
set_option maxRecDepth 20000 in
theorem ggX4_glass_X0_has : GoodIn wsX4_glass wsX0_has := goodIn_r _ [6, 7, 8, 9, 5, 10, 11, 25] (by decide +kernel) (by decide +kernel)
set_option maxRecDepth 20000 in
theorem gX4_glass_X0_has : GoodIn wsX4_glass (wsV RX4 56 RX0 yX0_has wsX0_has) := goodIn_app (goodIn_of _ (by decide +kernel)) ggX4_glass_X0_has
set_option maxRecDepth 20000 in
theorem ggX4_glass_X0_property : GoodIn wsX4_glass wsX0_property := goodIn_r _ [15, 11, 25] (by decide +kernel) (by decide +kernel)
set_option maxRecDepth 20000 in
theorem gX4_glass_X0_property : GoodIn wsX4_glass (wsV RX4 59 RX0 yX0_property wsX0_property) := goodIn_app (goodIn_of _ (by decide +kernel)) ggX4_glass_X0_property
set_option maxRecDepth 20000 in
theorem ggX4_glass_X0_runs : GoodIn wsX4_glass wsX0_runs := goodIn_r _ [19, 20, 13, 14, 5, 15, 11, 25] (by decide +kernel) (by decide +kernel)
set_option maxRecDepth 20000 in
theorem gX4_glass_X0_runs : GoodIn wsX4_glass (wsV RX4 124 RX0 yX0_runs wsX0_runs) := goodIn_app (goodIn_of _ (by decide +kernel)) ggX4_glass_X0_runs
theorem dX4_glass_0 : decode cX4_glass 0 = .ok (.aload_n 0, 1) := by decide +kernel
theorem dX4_glass_1 : decode cX4_glass 1 = .ok (.getfield 10, 3) := by decide +kernel
theorem dX4_glass_4 : decode cX4_glass 4 = .ok (.iload_n 1, 1) := by decide +kernel
theorem dX4_glass_5 : decode cX4_glass 5 = .ok (.invokevirtual 56, 3) := by decide +kernel
theorem dX4_glass_8 : decode cX4_glass 8 = .ok (.ifCond .eq 13, 3) := by decide +kernel
theorem dX4_glass_11 : decode cX4_glass 11 = .ok (.iload_n 2, 1) := by decide +kernel
theorem dX4_glass_12 : decode cX4_glass 12 = .ok (.ifCond .lt 9, 3) := by decide +kernel
theorem dX4_glass_15 : decode cX4_glass 15 = .ok (.iload_n 2, 1) := by decide +kernel
theorem dX4_glass_16 : decode cX4_glass 16 = .ok (.bipush 7, 2) := by decide +kernel
theorem dX4_glass_18 : decode cX4_glass 18 = .ok (.if_icmp .le 6, 3) := by decide +kernel
theorem dX4_glass_21 : decode cX4_glass 21 = .ok (.bipush (-2), 2) := by decide +kernel
theorem dX4_glass_23 : decode cX4_glass 23 = .ok (.ireturn, 1) := by decide +kernel
theorem dX4_glass_24 : decode cX4_glass 24 = .ok (.iload_n 2, 1) := by decide +kernel
theorem dX4_glass_25 : decode cX4_glass 25 = .ok (.bipush 7, 2) := by decide +kernel
theorem dX4_glass_27 : decode cX4_glass 27 = .ok (.if_icmp .ge 13, 3) := by decide +kernel
theorem dX4_glass_30 : decode cX4_glass 30 = .ok (.aload_n 0, 1) := by decide +kernel
theorem dX4_glass_31 : decode cX4_glass 31 = .ok (.getfield 10, 3) := by decide +kernel
theorem dX4_glass_34 : decode cX4_glass 34 = .ok (.iload_n 1, 1) := by decide +kernel
theorem dX4_glass_35 : decode cX4_glass 35 = .ok (.iload_n 2, 1) := by decide +kernel
theorem dX4_glass_36 : decode cX4_glass 36 = .ok (.invokevirtual 59, 3) := by decide +kernel
theorem dX4_glass_39 : decode cX4_glass 39 = .ok (.ireturn, 1) := by decide +kernel
theorem dX4_glass_40 : decode cX4_glass 40 = .ok (.aload_n 0, 1) := by decide +kernel
theorem dX4_glass_41 : decode cX4_glass 41 = .ok (.getfield 10, 3) := by decide +kernel
theorem dX4_glass_44 : decode cX4_glass 44 = .ok (.iload_n 1, 1) := by decide +kernel
theorem dX4_glass_45 : decode cX4_glass 45 = .ok (.invokevirtual 124, 3) := by decide +kernel
theorem dX4_glass_48 : decode cX4_glass 48 = .ok (.ifCond .eq 7, 3) := by decide +kernel
theorem dX4_glass_51 : decode cX4_glass 51 = .ok (.iconst 1, 1) := by decide +kernel
theorem dX4_glass_52 : decode cX4_glass 52 = .ok (.goto 4, 3) := by decide +kernel
theorem dX4_glass_55 : decode cX4_glass 55 = .ok (.iconst 0, 1) := by decide +kernel
theorem dX4_glass_56 : decode cX4_glass 56 = .ok (.ireturn, 1) := by decide +kernel
set_option maxRecDepth 20000 in
theorem ggX4_event_X0_eventsListed : GoodIn wsX4_event wsX0_eventsListed := goodIn_r _ [6, 7, 8, 9, 10, 11, 23] (by decide +kernel) (by decide +kernel)
set_option maxRecDepth 20000 in
theorem gX4_event_X0_eventsListed : GoodIn wsX4_event (wsV RX4 127 RX0 yX0_eventsListed wsX0_eventsListed) := goodIn_app (goodIn_of _ (by decide +kernel)) ggX4_event_X0_eventsListed
set_option maxRecDepth 20000 in
theorem ggX4_event_X0_eventPart : GoodIn wsX4_event wsX0_eventPart := goodIn_r _ [15, 7, 16, 17, 5, 18, 23] (by decide +kernel) (by decide +kernel)
set_option maxRecDepth 20000 in
theorem gX4_event_X0_eventPart : GoodIn wsX4_event (wsV RX4 130 RX0 yX0_eventPart wsX0_eventPart) := goodIn_app (goodIn_of _ (by decide +kernel)) ggX4_event_X0_eventPart
theorem dX4_event_0 : decode cX4_event 0 = .ok (.iload_n 1, 1) := by decide +kernel
theorem dX4_event_1 : decode cX4_event 1 = .ok (.ifCond .lt 12, 3) := by decide +kernel
theorem dX4_event_4 : decode cX4_event 4 = .ok (.iload_n 2, 1) := by decide +kernel
theorem dX4_event_5 : decode cX4_event 5 = .ok (.ifCond .lt 8, 3) := by decide +kernel
theorem dX4_event_8 : decode cX4_event 8 = .ok (.iload_n 2, 1) := by decide +kernel
theorem dX4_event_9 : decode cX4_event 9 = .ok (.iconst 3, 1) := by decide +kernel
theorem dX4_event_10 : decode cX4_event 10 = .ok (.if_icmp .lt 6, 3) := by decide +kernel
theorem dX4_event_13 : decode cX4_event 13 = .ok (.bipush (-2), 2) := by decide +kernel
theorem dX4_event_15 : decode cX4_event 15 = .ok (.ireturn, 1) := by decide +kernel
theorem dX4_event_16 : decode cX4_event 16 = .ok (.iload_n 1, 1) := by decide +kernel
theorem dX4_event_17 : decode cX4_event 17 = .ok (.aload_n 0, 1) := by decide +kernel
theorem dX4_event_18 : decode cX4_event 18 = .ok (.getfield 10, 3) := by decide +kernel
theorem dX4_event_21 : decode cX4_event 21 = .ok (.invokevirtual 127, 3) := by decide +kernel
theorem dX4_event_24 : decode cX4_event 24 = .ok (.if_icmp .ge 15, 3) := by decide +kernel
theorem dX4_event_27 : decode cX4_event 27 = .ok (.aload_n 0, 1) := by decide +kernel
theorem dX4_event_28 : decode cX4_event 28 = .ok (.getfield 10, 3) := by decide +kernel
theorem dX4_event_31 : decode cX4_event 31 = .ok (.iload_n 1, 1) := by decide +kernel
theorem dX4_event_32 : decode cX4_event 32 = .ok (.iload_n 2, 1) := by decide +kernel
theorem dX4_event_33 : decode cX4_event 33 = .ok (.invokevirtual 130, 3) := by decide +kernel
theorem dX4_event_36 : decode cX4_event 36 = .ok (.goto 4, 3) := by decide +kernel
theorem dX4_event_39 : decode cX4_event 39 = .ok (.iconst (-1), 1) := by decide +kernel
theorem dX4_event_40 : decode cX4_event 40 = .ok (.ireturn, 1) := by decide +kernel
set_option maxRecDepth 20000 in
theorem ggX4_count_X0_glasses : GoodIn wsX4_count wsX0_glasses := goodIn_r _ [8, 9, 63] (by decide +kernel) (by decide +kernel)
set_option maxRecDepth 20000 in
theorem gX4_count_X0_glasses : GoodIn wsX4_count (wsV RX4 41 RX0 yX0_glasses wsX0_glasses) := goodIn_app (goodIn_of _ (by decide +kernel)) ggX4_count_X0_glasses
set_option maxRecDepth 20000 in
theorem ggX4_count_X0_stacks : GoodIn wsX4_count wsX0_stacks := goodIn_r _ [13, 14, 5, 6, 7, 8, 9, 15, 16, 17, 18, 63] (by decide +kernel) (by decide +kernel)
set_option maxRecDepth 20000 in
theorem gX4_count_X0_stacks : GoodIn wsX4_count (wsV RX4 80 RX0 yX0_stacks wsX0_stacks) := goodIn_app (goodIn_of _ (by decide +kernel)) ggX4_count_X0_stacks
set_option maxRecDepth 20000 in
theorem ggX4_count_X0_time : GoodIn wsX4_count wsX0_time := goodIn_r _ [22, 9, 63] (by decide +kernel) (by decide +kernel)
set_option maxRecDepth 20000 in
theorem gX4_count_X0_time : GoodIn wsX4_count (wsV RX4 163 RX0 yX0_time wsX0_time) := goodIn_app (goodIn_of _ (by decide +kernel)) ggX4_count_X0_time
set_option maxRecDepth 20000 in
theorem ggX4_count_X0_markedTime : GoodIn wsX4_count wsX0_markedTime := goodIn_r _ [26, 9, 63] (by decide +kernel) (by decide +kernel)
set_option maxRecDepth 20000 in
theorem gX4_count_X0_markedTime : GoodIn wsX4_count (wsV RX4 98 RX0 yX0_markedTime wsX0_markedTime) := goodIn_app (goodIn_of _ (by decide +kernel)) ggX4_count_X0_markedTime
set_option maxRecDepth 20000 in
theorem ggX4_count_X0_eventsEver : GoodIn wsX4_count wsX0_eventsEver := goodIn_r _ [30, 9, 63] (by decide +kernel) (by decide +kernel)
set_option maxRecDepth 20000 in
theorem gX4_count_X0_eventsEver : GoodIn wsX4_count (wsV RX4 166 RX0 yX0_eventsEver wsX0_eventsEver) := goodIn_app (goodIn_of _ (by decide +kernel)) ggX4_count_X0_eventsEver
set_option maxRecDepth 20000 in
theorem ggX4_count_X0_eventsListed : GoodIn wsX4_count wsX0_eventsListed := goodIn_r _ [34, 9, 35, 36, 37, 38, 63] (by decide +kernel) (by decide +kernel)
set_option maxRecDepth 20000 in
theorem gX4_count_X0_eventsListed : GoodIn wsX4_count (wsV RX4 127 RX0 yX0_eventsListed wsX0_eventsListed) := goodIn_app (goodIn_of _ (by decide +kernel)) ggX4_count_X0_eventsListed
set_option maxRecDepth 20000 in
theorem ggX4_count_X0_turns : GoodIn wsX4_count wsX0_turns := goodIn_r _ [42, 9, 63] (by decide +kernel) (by decide +kernel)
set_option maxRecDepth 20000 in
theorem gX4_count_X0_turns : GoodIn wsX4_count (wsV RX4 169 RX0 yX0_turns wsX0_turns) := goodIn_app (goodIn_of _ (by decide +kernel)) ggX4_count_X0_turns
set_option maxRecDepth 20000 in
theorem ggX4_count_X0_taps : GoodIn wsX4_count wsX0_taps := goodIn_r _ [46, 9, 63] (by decide +kernel) (by decide +kernel)
set_option maxRecDepth 20000 in
theorem gX4_count_X0_taps : GoodIn wsX4_count (wsV RX4 172 RX0 yX0_taps wsX0_taps) := goodIn_app (goodIn_of _ (by decide +kernel)) ggX4_count_X0_taps
set_option maxRecDepth 20000 in
theorem ggX4_count_X1_states : GoodIn wsX4_count wsX1_states := goodIn_r _ [51, 52, 64, 65, 66] (by decide +kernel) (by decide +kernel)
set_option maxRecDepth 20000 in
theorem gX4_count_X1_states : GoodIn wsX4_count (wsV RX4 121 RX1 yX1_states wsX1_states) := goodIn_app (goodIn_of _ (by decide +kernel)) ggX4_count_X1_states
set_option maxRecDepth 20000 in
theorem ggX4_count_X3_length : GoodIn wsX4_count wsX3_length := goodIn_r _ [57, 58, 67, 68, 69, 70, 71, 72, 73, 74] (by decide +kernel) (by decide +kernel)
set_option maxRecDepth 20000 in
theorem gX4_count_X3_length : GoodIn wsX4_count (wsV RX4 34 RX3 yX3_length wsX3_length) := goodIn_app (goodIn_of _ (by decide +kernel)) ggX4_count_X3_length
theorem dX4_count_0 : decode cX4_count 0 = .ok (.iload_n 1, 1) := by decide +kernel
theorem dX4_count_1 : decode cX4_count 1 = .ok (.tableswitch 158 0 9 #[55, 63, 71, 79, 110, 118, 126, 134, 142, 150], 55) := by decide +kernel
theorem dX4_count_56 : decode cX4_count 56 = .ok (.aload_n 0, 1) := by decide +kernel
theorem dX4_count_57 : decode cX4_count 57 = .ok (.getfield 10, 3) := by decide +kernel
theorem dX4_count_60 : decode cX4_count 60 = .ok (.invokevirtual 41, 3) := by decide +kernel
theorem dX4_count_63 : decode cX4_count 63 = .ok (.ireturn, 1) := by decide +kernel
theorem dX4_count_64 : decode cX4_count 64 = .ok (.aload_n 0, 1) := by decide +kernel
theorem dX4_count_65 : decode cX4_count 65 = .ok (.getfield 10, 3) := by decide +kernel
theorem dX4_count_68 : decode cX4_count 68 = .ok (.invokevirtual 80, 3) := by decide +kernel
theorem dX4_count_71 : decode cX4_count 71 = .ok (.ireturn, 1) := by decide +kernel
theorem dX4_count_72 : decode cX4_count 72 = .ok (.aload_n 0, 1) := by decide +kernel
theorem dX4_count_73 : decode cX4_count 73 = .ok (.getfield 10, 3) := by decide +kernel
theorem dX4_count_76 : decode cX4_count 76 = .ok (.invokevirtual 163, 3) := by decide +kernel
theorem dX4_count_79 : decode cX4_count 79 = .ok (.ireturn, 1) := by decide +kernel
theorem dX4_count_80 : decode cX4_count 80 = .ok (.aload_n 0, 1) := by decide +kernel
theorem dX4_count_81 : decode cX4_count 81 = .ok (.getfield 10, 3) := by decide +kernel
theorem dX4_count_84 : decode cX4_count 84 = .ok (.invokevirtual 98, 3) := by decide +kernel
theorem dX4_count_87 : decode cX4_count 87 = .ok (.iconst (-1), 1) := by decide +kernel
theorem dX4_count_88 : decode cX4_count 88 = .ok (.if_icmp .ne 7, 3) := by decide +kernel
theorem dX4_count_91 : decode cX4_count 91 = .ok (.iconst (-1), 1) := by decide +kernel
theorem dX4_count_92 : decode cX4_count 92 = .ok (.goto 18, 3) := by decide +kernel
theorem dX4_count_95 : decode cX4_count 95 = .ok (.aload_n 0, 1) := by decide +kernel
theorem dX4_count_96 : decode cX4_count 96 = .ok (.getfield 10, 3) := by decide +kernel
theorem dX4_count_99 : decode cX4_count 99 = .ok (.invokevirtual 163, 3) := by decide +kernel
theorem dX4_count_102 : decode cX4_count 102 = .ok (.aload_n 0, 1) := by decide +kernel
theorem dX4_count_103 : decode cX4_count 103 = .ok (.getfield 10, 3) := by decide +kernel
theorem dX4_count_106 : decode cX4_count 106 = .ok (.invokevirtual 98, 3) := by decide +kernel
theorem dX4_count_109 : decode cX4_count 109 = .ok (.isub, 1) := by decide +kernel
theorem dX4_count_110 : decode cX4_count 110 = .ok (.ireturn, 1) := by decide +kernel
theorem dX4_count_111 : decode cX4_count 111 = .ok (.aload_n 0, 1) := by decide +kernel
theorem dX4_count_112 : decode cX4_count 112 = .ok (.getfield 10, 3) := by decide +kernel
theorem dX4_count_115 : decode cX4_count 115 = .ok (.invokevirtual 166, 3) := by decide +kernel
theorem dX4_count_118 : decode cX4_count 118 = .ok (.ireturn, 1) := by decide +kernel
theorem dX4_count_119 : decode cX4_count 119 = .ok (.aload_n 0, 1) := by decide +kernel
theorem dX4_count_120 : decode cX4_count 120 = .ok (.getfield 10, 3) := by decide +kernel
theorem dX4_count_123 : decode cX4_count 123 = .ok (.invokevirtual 127, 3) := by decide +kernel
theorem dX4_count_126 : decode cX4_count 126 = .ok (.ireturn, 1) := by decide +kernel
theorem dX4_count_127 : decode cX4_count 127 = .ok (.aload_n 0, 1) := by decide +kernel
theorem dX4_count_128 : decode cX4_count 128 = .ok (.getfield 10, 3) := by decide +kernel
theorem dX4_count_131 : decode cX4_count 131 = .ok (.invokevirtual 169, 3) := by decide +kernel
theorem dX4_count_134 : decode cX4_count 134 = .ok (.ireturn, 1) := by decide +kernel
theorem dX4_count_135 : decode cX4_count 135 = .ok (.aload_n 0, 1) := by decide +kernel
theorem dX4_count_136 : decode cX4_count 136 = .ok (.getfield 10, 3) := by decide +kernel
theorem dX4_count_139 : decode cX4_count 139 = .ok (.invokevirtual 172, 3) := by decide +kernel
theorem dX4_count_142 : decode cX4_count 142 = .ok (.ireturn, 1) := by decide +kernel
theorem dX4_count_143 : decode cX4_count 143 = .ok (.aload_n 0, 1) := by decide +kernel
theorem dX4_count_144 : decode cX4_count 144 = .ok (.getfield 19, 3) := by decide +kernel
theorem dX4_count_147 : decode cX4_count 147 = .ok (.invokevirtual 121, 3) := by decide +kernel
theorem dX4_count_150 : decode cX4_count 150 = .ok (.ireturn, 1) := by decide +kernel
theorem dX4_count_151 : decode cX4_count 151 = .ok (.aload_n 0, 1) := by decide +kernel
theorem dX4_count_152 : decode cX4_count 152 = .ok (.getfield 26, 3) := by decide +kernel
theorem dX4_count_155 : decode cX4_count 155 = .ok (.invokevirtual 34, 3) := by decide +kernel
theorem dX4_count_158 : decode cX4_count 158 = .ok (.ireturn, 1) := by decide +kernel
theorem dX4_count_159 : decode cX4_count 159 = .ok (.bipush (-2), 2) := by decide +kernel
theorem dX4_count_161 : decode cX4_count 161 = .ok (.ireturn, 1) := by decide +kernel
theorem dJ9_min_7cf53_0 : decode cJ9_min_7cf53 0 = .ok (.iload_n 0, 1) := by decide +kernel
theorem dJ9_min_7cf53_1 : decode cJ9_min_7cf53 1 = .ok (.iload_n 1, 1) := by decide +kernel
theorem dJ9_min_7cf53_2 : decode cJ9_min_7cf53 2 = .ok (.if_icmp .gt 7, 3) := by decide +kernel
theorem dJ9_min_7cf53_5 : decode cJ9_min_7cf53 5 = .ok (.iload_n 0, 1) := by decide +kernel
theorem dJ9_min_7cf53_6 : decode cJ9_min_7cf53 6 = .ok (.goto 4, 3) := by decide +kernel
theorem dJ9_min_7cf53_9 : decode cJ9_min_7cf53 9 = .ok (.iload_n 1, 1) := by decide +kernel
theorem dJ9_min_7cf53_10 : decode cJ9_min_7cf53 10 = .ok (.ireturn, 1) := by decide +kernel
theorem dL_cell_0 : decode cL_cell 0 = .ok (.iload_n 1, 1) := by decide +kernel
theorem dL_cell_1 : decode cL_cell 1 = .ok (.aload_n 0, 1) := by decide +kernel
theorem dL_cell_2 : decode cL_cell 2 = .ok (.arraylength, 1) := by decide +kernel
theorem dL_cell_3 : decode cL_cell 3 = .ok (.if_icmp .ge 9, 3) := by decide +kernel
theorem dL_cell_6 : decode cL_cell 6 = .ok (.aload_n 0, 1) := by decide +kernel
theorem dL_cell_7 : decode cL_cell 7 = .ok (.iload_n 1, 1) := by decide +kernel
theorem dL_cell_8 : decode cL_cell 8 = .ok (.iaload, 1) := by decide +kernel
theorem dL_cell_9 : decode cL_cell 9 = .ok (.goto 9, 3) := by decide +kernel
theorem dL_cell_12 : decode cL_cell 12 = .ok (.ldc 7, 2) := by decide +kernel
theorem dL_cell_14 : decode cL_cell 14 = .ok (.iload_n 1, 1) := by decide +kernel
theorem dL_cell_15 : decode cL_cell 15 = .ok (.iconst 1, 1) := by decide +kernel
theorem dL_cell_16 : decode cL_cell 16 = .ok (.iadd, 1) := by decide +kernel
theorem dL_cell_17 : decode cL_cell 17 = .ok (.imul, 1) := by decide +kernel
theorem dL_cell_18 : decode cL_cell 18 = .ok (.ireturn, 1) := by decide +kernel
theorem dL_low_0 : decode cL_low 0 = .ok (.iload_n 0, 1) := by decide +kernel
theorem dL_low_1 : decode cL_low 1 = .ok (.ldc 8, 2) := by decide +kernel
theorem dL_low_3 : decode cL_low 3 = .ok (.iand, 1) := by decide +kernel
theorem dL_low_4 : decode cL_low 4 = .ok (.iload_n 1, 1) := by decide +kernel
theorem dL_low_5 : decode cL_low 5 = .ok (.irem, 1) := by decide +kernel
theorem dL_low_6 : decode cL_low 6 = .ok (.ireturn, 1) := by decide +kernel
theorem dL_begins_0 : decode cL_begins 0 = .ok (.aload_n 0, 1) := by decide +kernel
theorem dL_begins_1 : decode cL_begins 1 = .ok (.bipush 21, 2) := by decide +kernel
theorem dL_begins_3 : decode cL_begins 3 = .ok (.iconst 3, 1) := by decide +kernel
theorem dL_begins_4 : decode cL_begins 4 = .ok (.iastore, 1) := by decide +kernel
theorem dL_begins_5 : decode cL_begins 5 = .ok (.iconst 0, 1) := by decide +kernel
theorem dL_begins_6 : decode cL_begins 6 = .ok (.istore_n 1, 1) := by decide +kernel
theorem dL_begins_7 : decode cL_begins 7 = .ok (.iload_n 1, 1) := by decide +kernel
theorem dL_begins_8 : decode cL_begins 8 = .ok (.iconst 3, 1) := by decide +kernel
theorem dL_begins_9 : decode cL_begins 9 = .ok (.if_icmp .ge 53, 3) := by decide +kernel
theorem dL_begins_12 : decode cL_begins 12 = .ok (.aload_n 0, 1) := by decide +kernel
theorem dL_begins_13 : decode cL_begins 13 = .ok (.bipush 7, 2) := by decide +kernel
theorem dL_begins_15 : decode cL_begins 15 = .ok (.iload_n 1, 1) := by decide +kernel
theorem dL_begins_16 : decode cL_begins 16 = .ok (.imul, 1) := by decide +kernel
theorem dL_begins_17 : decode cL_begins 17 = .ok (.iload_n 1, 1) := by decide +kernel
theorem dL_begins_18 : decode cL_begins 18 = .ok (.ifCond .ne 7, 3) := by decide +kernel
theorem dL_begins_21 : decode cL_begins 21 = .ok (.iconst 3, 1) := by decide +kernel
theorem dL_begins_22 : decode cL_begins 22 = .ok (.goto 14, 3) := by decide +kernel
theorem dL_begins_25 : decode cL_begins 25 = .ok (.iload_n 1, 1) := by decide +kernel
theorem dL_begins_26 : decode cL_begins 26 = .ok (.iconst 1, 1) := by decide +kernel
theorem dL_begins_27 : decode cL_begins 27 = .ok (.if_icmp .ne 7, 3) := by decide +kernel
theorem dL_begins_30 : decode cL_begins 30 = .ok (.iconst 5, 1) := by decide +kernel
theorem dL_begins_31 : decode cL_begins 31 = .ok (.goto 5, 3) := by decide +kernel
theorem dL_begins_34 : decode cL_begins 34 = .ok (.bipush 8, 2) := by decide +kernel
theorem dL_begins_36 : decode cL_begins 36 = .ok (.iastore, 1) := by decide +kernel
theorem dL_begins_37 : decode cL_begins 37 = .ok (.aload_n 0, 1) := by decide +kernel
theorem dL_begins_38 : decode cL_begins 38 = .ok (.bipush 7, 2) := by decide +kernel
theorem dL_begins_40 : decode cL_begins 40 = .ok (.iload_n 1, 1) := by decide +kernel
theorem dL_begins_41 : decode cL_begins 41 = .ok (.imul, 1) := by decide +kernel
theorem dL_begins_42 : decode cL_begins 42 = .ok (.iconst 3, 1) := by decide +kernel
theorem dL_begins_43 : decode cL_begins 43 = .ok (.iadd, 1) := by decide +kernel
theorem dL_begins_44 : decode cL_begins 44 = .ok (.iconst 3, 1) := by decide +kernel
theorem dL_begins_45 : decode cL_begins 45 = .ok (.iastore, 1) := by decide +kernel
theorem dL_begins_46 : decode cL_begins 46 = .ok (.aload_n 0, 1) := by decide +kernel
theorem dL_begins_47 : decode cL_begins 47 = .ok (.bipush 7, 2) := by decide +kernel
theorem dL_begins_49 : decode cL_begins 49 = .ok (.iload_n 1, 1) := by decide +kernel
theorem dL_begins_50 : decode cL_begins 50 = .ok (.imul, 1) := by decide +kernel
theorem dL_begins_51 : decode cL_begins 51 = .ok (.bipush 6, 2) := by decide +kernel
theorem dL_begins_53 : decode cL_begins 53 = .ok (.iadd, 1) := by decide +kernel
theorem dL_begins_54 : decode cL_begins 54 = .ok (.iload_n 1, 1) := by decide +kernel
theorem dL_begins_55 : decode cL_begins 55 = .ok (.iastore, 1) := by decide +kernel
theorem dL_begins_56 : decode cL_begins 56 = .ok (.iinc 1 1, 3) := by decide +kernel
theorem dL_begins_59 : decode cL_begins 59 = .ok (.goto (-52), 3) := by decide +kernel
theorem dL_begins_62 : decode cL_begins 62 = .ok (.bipush 30, 2) := by decide +kernel
theorem dL_begins_64 : decode cL_begins 64 = .ok (.istore_n 1, 1) := by decide +kernel
theorem dL_begins_65 : decode cL_begins 65 = .ok (.iload_n 1, 1) := by decide +kernel
theorem dL_begins_66 : decode cL_begins 66 = .ok (.bipush 42, 2) := by decide +kernel
theorem dL_begins_68 : decode cL_begins 68 = .ok (.if_icmp .ge 13, 3) := by decide +kernel
theorem dL_begins_71 : decode cL_begins 71 = .ok (.aload_n 0, 1) := by decide +kernel
theorem dL_begins_72 : decode cL_begins 72 = .ok (.iload_n 1, 1) := by decide +kernel
theorem dL_begins_73 : decode cL_begins 73 = .ok (.iconst (-1), 1) := by decide +kernel
theorem dL_begins_74 : decode cL_begins 74 = .ok (.iastore, 1) := by decide +kernel
theorem dL_begins_75 : decode cL_begins 75 = .ok (.iinc 1 1, 3) := by decide +kernel
theorem dL_begins_78 : decode cL_begins 78 = .ok (.goto (-13), 3) := by decide +kernel
theorem dL_begins_81 : decode cL_begins 81 = .ok (.return_, 1) := by decide +kernel
theorem dL_runs_0 : decode cL_runs 0 = .ok (.aload_n 0, 1) := by decide +kernel
theorem dL_runs_1 : decode cL_runs 1 = .ok (.bipush 7, 2) := by decide +kernel
theorem dL_runs_3 : decode cL_runs 3 = .ok (.iload_n 1, 1) := by decide +kernel
theorem dL_runs_4 : decode cL_runs 4 = .ok (.imul, 1) := by decide +kernel
theorem dL_runs_5 : decode cL_runs 5 = .ok (.iconst 1, 1) := by decide +kernel
theorem dL_runs_6 : decode cL_runs 6 = .ok (.iadd, 1) := by decide +kernel
theorem dL_runs_7 : decode cL_runs 7 = .ok (.iaload, 1) := by decide +kernel
theorem dL_runs_8 : decode cL_runs 8 = .ok (.ifCond .le 30, 3) := by decide +kernel
theorem dL_runs_11 : decode cL_runs 11 = .ok (.aload_n 0, 1) := by decide +kernel
theorem dL_runs_12 : decode cL_runs 12 = .ok (.bipush 7, 2) := by decide +kernel
theorem dL_runs_14 : decode cL_runs 14 = .ok (.iload_n 1, 1) := by decide +kernel
theorem dL_runs_15 : decode cL_runs 15 = .ok (.imul, 1) := by decide +kernel
theorem dL_runs_16 : decode cL_runs 16 = .ok (.iconst 2, 1) := by decide +kernel
theorem dL_runs_17 : decode cL_runs 17 = .ok (.iadd, 1) := by decide +kernel
theorem dL_runs_18 : decode cL_runs 18 = .ok (.iaload, 1) := by decide +kernel
theorem dL_runs_19 : decode cL_runs 19 = .ok (.iconst 2, 1) := by decide +kernel
theorem dL_runs_20 : decode cL_runs 20 = .ok (.if_icmp .ge 18, 3) := by decide +kernel
theorem dL_runs_23 : decode cL_runs 23 = .ok (.aload_n 0, 1) := by decide +kernel
theorem dL_runs_24 : decode cL_runs 24 = .ok (.bipush 7, 2) := by decide +kernel
theorem dL_runs_26 : decode cL_runs 26 = .ok (.iload_n 1, 1) := by decide +kernel
theorem dL_runs_27 : decode cL_runs 27 = .ok (.imul, 1) := by decide +kernel
theorem dL_runs_28 : decode cL_runs 28 = .ok (.iconst 4, 1) := by decide +kernel
theorem dL_runs_29 : decode cL_runs 29 = .ok (.iadd, 1) := by decide +kernel
theorem dL_runs_30 : decode cL_runs 30 = .ok (.iaload, 1) := by decide +kernel
theorem dL_runs_31 : decode cL_runs 31 = .ok (.ifCond .ne 7, 3) := by decide +kernel
theorem dL_runs_34 : decode cL_runs 34 = .ok (.iconst 1, 1) := by decide +kernel
theorem dL_runs_35 : decode cL_runs 35 = .ok (.goto 4, 3) := by decide +kernel
theorem dL_runs_38 : decode cL_runs 38 = .ok (.iconst 0, 1) := by decide +kernel
theorem dL_runs_39 : decode cL_runs 39 = .ok (.ireturn, 1) := by decide +kernel
set_option maxRecDepth 20000 in
theorem ggL_runsAny_L_runs : GoodIn wsL_runsAny wsL_runs := goodIn_r _ [4] (by decide +kernel) (by decide +kernel)
set_option maxRecDepth 20000 in
theorem gL_runsAny_L_runs : GoodIn wsL_runsAny (va_wsS RL 11 yL_runs wsL_runs) := goodIn_app (goodIn_of _ (by decide +kernel)) ggL_runsAny_L_runs
theorem dL_runsAny_0 : decode cL_runsAny 0 = .ok (.aload_n 0, 1) := by decide +kernel
theorem dL_runsAny_1 : decode cL_runsAny 1 = .ok (.bipush 21, 2) := by decide +kernel
theorem dL_runsAny_3 : decode cL_runsAny 3 = .ok (.iaload, 1) := by decide +kernel
theorem dL_runsAny_4 : decode cL_runsAny 4 = .ok (.ifCond .le 11, 3) := by decide +kernel
theorem dL_runsAny_7 : decode cL_runsAny 7 = .ok (.aload_n 0, 1) := by decide +kernel
theorem dL_runsAny_8 : decode cL_runsAny 8 = .ok (.iconst 0, 1) := by decide +kernel
theorem dL_runsAny_9 : decode cL_runsAny 9 = .ok (.invokestatic 11, 3) := by decide +kernel
theorem dL_runsAny_12 : decode cL_runsAny 12 = .ok (.ifCond .ne 35, 3) := by decide +kernel
theorem dL_runsAny_15 : decode cL_runsAny 15 = .ok (.aload_n 0, 1) := by decide +kernel
theorem dL_runsAny_16 : decode cL_runsAny 16 = .ok (.bipush 21, 2) := by decide +kernel
theorem dL_runsAny_18 : decode cL_runsAny 18 = .ok (.iaload, 1) := by decide +kernel
theorem dL_runsAny_19 : decode cL_runsAny 19 = .ok (.iconst 1, 1) := by decide +kernel
theorem dL_runsAny_20 : decode cL_runsAny 20 = .ok (.if_icmp .le 11, 3) := by decide +kernel
theorem dL_runsAny_23 : decode cL_runsAny 23 = .ok (.aload_n 0, 1) := by decide +kernel
theorem dL_runsAny_24 : decode cL_runsAny 24 = .ok (.iconst 1, 1) := by decide +kernel
theorem dL_runsAny_25 : decode cL_runsAny 25 = .ok (.invokestatic 11, 3) := by decide +kernel
theorem dL_runsAny_28 : decode cL_runsAny 28 = .ok (.ifCond .ne 19, 3) := by decide +kernel
theorem dL_runsAny_31 : decode cL_runsAny 31 = .ok (.aload_n 0, 1) := by decide +kernel
theorem dL_runsAny_32 : decode cL_runsAny 32 = .ok (.bipush 21, 2) := by decide +kernel
theorem dL_runsAny_34 : decode cL_runsAny 34 = .ok (.iaload, 1) := by decide +kernel
theorem dL_runsAny_35 : decode cL_runsAny 35 = .ok (.iconst 2, 1) := by decide +kernel
theorem dL_runsAny_36 : decode cL_runsAny 36 = .ok (.if_icmp .le 15, 3) := by decide +kernel
theorem dL_runsAny_39 : decode cL_runsAny 39 = .ok (.aload_n 0, 1) := by decide +kernel
theorem dL_runsAny_40 : decode cL_runsAny 40 = .ok (.iconst 2, 1) := by decide +kernel
theorem dL_runsAny_41 : decode cL_runsAny 41 = .ok (.invokestatic 11, 3) := by decide +kernel
theorem dL_runsAny_44 : decode cL_runsAny 44 = .ok (.ifCond .eq 7, 3) := by decide +kernel
theorem dL_runsAny_47 : decode cL_runsAny 47 = .ok (.iconst 1, 1) := by decide +kernel
theorem dL_runsAny_48 : decode cL_runsAny 48 = .ok (.goto 4, 3) := by decide +kernel
theorem dL_runsAny_51 : decode cL_runsAny 51 = .ok (.iconst 0, 1) := by decide +kernel
theorem dL_runsAny_52 : decode cL_runsAny 52 = .ok (.ireturn, 1) := by decide +kernel
set_option maxRecDepth 20000 in
theorem ggL_second_L_runs : GoodIn wsL_second wsL_runs := goodIn_r _ [4] (by decide +kernel) (by decide +kernel)
set_option maxRecDepth 20000 in
theorem gL_second_L_runs : GoodIn wsL_second (va_wsS RL 11 yL_runs wsL_runs) := goodIn_app (goodIn_of _ (by decide +kernel)) ggL_second_L_runs
theorem dL_second_0 : decode cL_second 0 = .ok (.iconst 0, 1) := by decide +kernel
theorem dL_second_1 : decode cL_second 1 = .ok (.istore_n 1, 1) := by decide +kernel
theorem dL_second_2 : decode cL_second 2 = .ok (.aload_n 0, 1) := by decide +kernel
theorem dL_second_3 : decode cL_second 3 = .ok (.bipush 22, 2) := by decide +kernel
theorem dL_second_5 : decode cL_second 5 = .ok (.dup2, 1) := by decide +kernel
theorem dL_second_6 : decode cL_second 6 = .ok (.iaload, 1) := by decide +kernel
theorem dL_second_7 : decode cL_second 7 = .ok (.iconst 1, 1) := by decide +kernel
theorem dL_second_8 : decode cL_second 8 = .ok (.iadd, 1) := by decide +kernel
theorem dL_second_9 : decode cL_second 9 = .ok (.iastore, 1) := by decide +kernel
theorem dL_second_10 : decode cL_second 10 = .ok (.iconst 0, 1) := by decide +kernel
theorem dL_second_11 : decode cL_second 11 = .ok (.istore_n 2, 1) := by decide +kernel
theorem dL_second_12 : decode cL_second 12 = .ok (.iload_n 2, 1) := by decide +kernel
theorem dL_second_13 : decode cL_second 13 = .ok (.aload_n 0, 1) := by decide +kernel
theorem dL_second_14 : decode cL_second 14 = .ok (.bipush 21, 2) := by decide +kernel
theorem dL_second_16 : decode cL_second 16 = .ok (.iaload, 1) := by decide +kernel
theorem dL_second_17 : decode cL_second 17 = .ok (.if_icmp .ge 170, 3) := by decide +kernel
theorem dL_second_20 : decode cL_second 20 = .ok (.bipush 7, 2) := by decide +kernel
theorem dL_second_22 : decode cL_second 22 = .ok (.iload_n 2, 1) := by decide +kernel
theorem dL_second_23 : decode cL_second 23 = .ok (.imul, 1) := by decide +kernel
theorem dL_second_24 : decode cL_second 24 = .ok (.istore_n 3, 1) := by decide +kernel
theorem dL_second_25 : decode cL_second 25 = .ok (.aload_n 0, 1) := by decide +kernel
theorem dL_second_26 : decode cL_second 26 = .ok (.iload_n 2, 1) := by decide +kernel
theorem dL_second_27 : decode cL_second 27 = .ok (.invokestatic 11, 3) := by decide +kernel
theorem dL_second_30 : decode cL_second 30 = .ok (.ifCond .eq 151, 3) := by decide +kernel
theorem dL_second_33 : decode cL_second 33 = .ok (.aload_n 0, 1) := by decide +kernel
theorem dL_second_34 : decode cL_second 34 = .ok (.iload_n 3, 1) := by decide +kernel
theorem dL_second_35 : decode cL_second 35 = .ok (.iconst 1, 1) := by decide +kernel
theorem dL_second_36 : decode cL_second 36 = .ok (.iadd, 1) := by decide +kernel
theorem dL_second_37 : decode cL_second 37 = .ok (.dup2, 1) := by decide +kernel
theorem dL_second_38 : decode cL_second 38 = .ok (.iaload, 1) := by decide +kernel
theorem dL_second_39 : decode cL_second 39 = .ok (.iconst 1, 1) := by decide +kernel
theorem dL_second_40 : decode cL_second 40 = .ok (.isub, 1) := by decide +kernel
theorem dL_second_41 : decode cL_second 41 = .ok (.iastore, 1) := by decide +kernel
theorem dL_second_42 : decode cL_second 42 = .ok (.aload_n 0, 1) := by decide +kernel
theorem dL_second_43 : decode cL_second 43 = .ok (.iload_n 3, 1) := by decide +kernel
theorem dL_second_44 : decode cL_second 44 = .ok (.iconst 5, 1) := by decide +kernel
theorem dL_second_45 : decode cL_second 45 = .ok (.iadd, 1) := by decide +kernel
theorem dL_second_46 : decode cL_second 46 = .ok (.dup2, 1) := by decide +kernel
theorem dL_second_47 : decode cL_second 47 = .ok (.iaload, 1) := by decide +kernel
theorem dL_second_48 : decode cL_second 48 = .ok (.aload_n 0, 1) := by decide +kernel
theorem dL_second_49 : decode cL_second 49 = .ok (.iload_n 3, 1) := by decide +kernel
theorem dL_second_50 : decode cL_second 50 = .ok (.iconst 2, 1) := by decide +kernel
theorem dL_second_51 : decode cL_second 51 = .ok (.iadd, 1) := by decide +kernel
theorem dL_second_52 : decode cL_second 52 = .ok (.iaload, 1) := by decide +kernel
theorem dL_second_53 : decode cL_second 53 = .ok (.iadd, 1) := by decide +kernel
theorem dL_second_54 : decode cL_second 54 = .ok (.iastore, 1) := by decide +kernel
theorem dL_second_55 : decode cL_second 55 = .ok (.aload_n 0, 1) := by decide +kernel
theorem dL_second_56 : decode cL_second 56 = .ok (.iload_n 3, 1) := by decide +kernel
theorem dL_second_57 : decode cL_second 57 = .ok (.iconst 1, 1) := by decide +kernel
theorem dL_second_58 : decode cL_second 58 = .ok (.iadd, 1) := by decide +kernel
theorem dL_second_59 : decode cL_second 59 = .ok (.iaload, 1) := by decide +kernel
theorem dL_second_60 : decode cL_second 60 = .ok (.ifCond .ne 7, 3) := by decide +kernel
theorem dL_second_63 : decode cL_second 63 = .ok (.iconst 1, 1) := by decide +kernel
theorem dL_second_64 : decode cL_second 64 = .ok (.goto 4, 3) := by decide +kernel
theorem dL_second_67 : decode cL_second 67 = .ok (.iconst 0, 1) := by decide +kernel
theorem dL_second_68 : decode cL_second 68 = .ok (.istore 4, 2) := by decide +kernel
theorem dL_second_70 : decode cL_second 70 = .ok (.aload_n 0, 1) := by decide +kernel
theorem dL_second_71 : decode cL_second 71 = .ok (.iload_n 3, 1) := by decide +kernel
theorem dL_second_72 : decode cL_second 72 = .ok (.iconst 4, 1) := by decide +kernel
theorem dL_second_73 : decode cL_second 73 = .ok (.iadd, 1) := by decide +kernel
theorem dL_second_74 : decode cL_second 74 = .ok (.iload 4, 2) := by decide +kernel
theorem dL_second_76 : decode cL_second 76 = .ok (.ifCond .ne 29, 3) := by decide +kernel
theorem dL_second_79 : decode cL_second 79 = .ok (.aload_n 0, 1) := by decide +kernel
theorem dL_second_80 : decode cL_second 80 = .ok (.iload_n 3, 1) := by decide +kernel
theorem dL_second_81 : decode cL_second 81 = .ok (.iconst 2, 1) := by decide +kernel
theorem dL_second_82 : decode cL_second 82 = .ok (.iadd, 1) := by decide +kernel
theorem dL_second_83 : decode cL_second 83 = .ok (.iaload, 1) := by decide +kernel
theorem dL_second_84 : decode cL_second 84 = .ok (.iconst 1, 1) := by decide +kernel
theorem dL_second_85 : decode cL_second 85 = .ok (.if_icmp .ne 20, 3) := by decide +kernel
theorem dL_second_88 : decode cL_second 88 = .ok (.aload_n 0, 1) := by decide +kernel
theorem dL_second_89 : decode cL_second 89 = .ok (.iload_n 3, 1) := by decide +kernel
theorem dL_second_90 : decode cL_second 90 = .ok (.iconst 5, 1) := by decide +kernel
theorem dL_second_91 : decode cL_second 91 = .ok (.iadd, 1) := by decide +kernel
theorem dL_second_92 : decode cL_second 92 = .ok (.iaload, 1) := by decide +kernel
theorem dL_second_93 : decode cL_second 93 = .ok (.aload_n 0, 1) := by decide +kernel
theorem dL_second_94 : decode cL_second 94 = .ok (.iload_n 3, 1) := by decide +kernel
theorem dL_second_95 : decode cL_second 95 = .ok (.iconst 3, 1) := by decide +kernel
theorem dL_second_96 : decode cL_second 96 = .ok (.iadd, 1) := by decide +kernel
theorem dL_second_97 : decode cL_second 97 = .ok (.iaload, 1) := by decide +kernel
theorem dL_second_98 : decode cL_second 98 = .ok (.if_icmp .ne 7, 3) := by decide +kernel
theorem dL_second_101 : decode cL_second 101 = .ok (.iconst 1, 1) := by decide +kernel
theorem dL_second_102 : decode cL_second 102 = .ok (.goto 4, 3) := by decide +kernel
theorem dL_second_105 : decode cL_second 105 = .ok (.iconst 0, 1) := by decide +kernel
theorem dL_second_106 : decode cL_second 106 = .ok (.iastore, 1) := by decide +kernel
theorem dL_second_107 : decode cL_second 107 = .ok (.iload 4, 2) := by decide +kernel
theorem dL_second_109 : decode cL_second 109 = .ok (.ifCond .ne 12, 3) := by decide +kernel
theorem dL_second_112 : decode cL_second 112 = .ok (.aload_n 0, 1) := by decide +kernel
theorem dL_second_113 : decode cL_second 113 = .ok (.iload_n 3, 1) := by decide +kernel
theorem dL_second_114 : decode cL_second 114 = .ok (.iconst 4, 1) := by decide +kernel
theorem dL_second_115 : decode cL_second 115 = .ok (.iadd, 1) := by decide +kernel
theorem dL_second_116 : decode cL_second 116 = .ok (.iaload, 1) := by decide +kernel
theorem dL_second_117 : decode cL_second 117 = .ok (.iconst 1, 1) := by decide +kernel
theorem dL_second_118 : decode cL_second 118 = .ok (.if_icmp .ne 63, 3) := by decide +kernel
theorem dL_second_121 : decode cL_second 121 = .ok (.bipush 41, 2) := by decide +kernel
theorem dL_second_123 : decode cL_second 123 = .ok (.istore 5, 2) := by decide +kernel
theorem dL_second_125 : decode cL_second 125 = .ok (.iload 5, 2) := by decide +kernel
theorem dL_second_127 : decode cL_second 127 = .ok (.bipush 30, 2) := by decide +kernel
theorem dL_second_129 : decode cL_second 129 = .ok (.if_icmp .le 19, 3) := by decide +kernel
theorem dL_second_132 : decode cL_second 132 = .ok (.aload_n 0, 1) := by decide +kernel
theorem dL_second_133 : decode cL_second 133 = .ok (.iload 5, 2) := by decide +kernel
theorem dL_second_135 : decode cL_second 135 = .ok (.aload_n 0, 1) := by decide +kernel
theorem dL_second_136 : decode cL_second 136 = .ok (.iload 5, 2) := by decide +kernel
theorem dL_second_138 : decode cL_second 138 = .ok (.iconst 1, 1) := by decide +kernel
theorem dL_second_139 : decode cL_second 139 = .ok (.isub, 1) := by decide +kernel
theorem dL_second_140 : decode cL_second 140 = .ok (.iaload, 1) := by decide +kernel
theorem dL_second_141 : decode cL_second 141 = .ok (.iastore, 1) := by decide +kernel
theorem dL_second_142 : decode cL_second 142 = .ok (.iinc 5 (-1), 3) := by decide +kernel
theorem dL_second_145 : decode cL_second 145 = .ok (.goto (-20), 3) := by decide +kernel
theorem dL_second_148 : decode cL_second 148 = .ok (.aload_n 0, 1) := by decide +kernel
theorem dL_second_149 : decode cL_second 149 = .ok (.bipush 30, 2) := by decide +kernel
theorem dL_second_151 : decode cL_second 151 = .ok (.bipush 100, 2) := by decide +kernel
theorem dL_second_153 : decode cL_second 153 = .ok (.aload_n 0, 1) := by decide +kernel
theorem dL_second_154 : decode cL_second 154 = .ok (.bipush 22, 2) := by decide +kernel
theorem dL_second_156 : decode cL_second 156 = .ok (.iaload, 1) := by decide +kernel
theorem dL_second_157 : decode cL_second 157 = .ok (.imul, 1) := by decide +kernel
theorem dL_second_158 : decode cL_second 158 = .ok (.bipush 10, 2) := by decide +kernel
theorem dL_second_160 : decode cL_second 160 = .ok (.iload_n 2, 1) := by decide +kernel
theorem dL_second_161 : decode cL_second 161 = .ok (.imul, 1) := by decide +kernel
theorem dL_second_162 : decode cL_second 162 = .ok (.iadd, 1) := by decide +kernel
theorem dL_second_163 : decode cL_second 163 = .ok (.aload_n 0, 1) := by decide +kernel
theorem dL_second_164 : decode cL_second 164 = .ok (.iload_n 3, 1) := by decide +kernel
theorem dL_second_165 : decode cL_second 165 = .ok (.iconst 4, 1) := by decide +kernel
theorem dL_second_166 : decode cL_second 166 = .ok (.iadd, 1) := by decide +kernel
theorem dL_second_167 : decode cL_second 167 = .ok (.iaload, 1) := by decide +kernel
theorem dL_second_168 : decode cL_second 168 = .ok (.iadd, 1) := by decide +kernel
theorem dL_second_169 : decode cL_second 169 = .ok (.iastore, 1) := by decide +kernel
theorem dL_second_170 : decode cL_second 170 = .ok (.aload_n 0, 1) := by decide +kernel
theorem dL_second_171 : decode cL_second 171 = .ok (.bipush 24, 2) := by decide +kernel
theorem dL_second_173 : decode cL_second 173 = .ok (.dup2, 1) := by decide +kernel
theorem dL_second_174 : decode cL_second 174 = .ok (.iaload, 1) := by decide +kernel
theorem dL_second_175 : decode cL_second 175 = .ok (.iconst 1, 1) := by decide +kernel
theorem dL_second_176 : decode cL_second 176 = .ok (.iadd, 1) := by decide +kernel
theorem dL_second_177 : decode cL_second 177 = .ok (.iastore, 1) := by decide +kernel
theorem dL_second_178 : decode cL_second 178 = .ok (.iinc 1 1, 3) := by decide +kernel
theorem dL_second_181 : decode cL_second 181 = .ok (.iinc 2 1, 3) := by decide +kernel
theorem dL_second_184 : decode cL_second 184 = .ok (.goto (-172), 3) := by decide +kernel
theorem dL_second_187 : decode cL_second 187 = .ok (.iload_n 1, 1) := by decide +kernel
theorem dL_second_188 : decode cL_second 188 = .ok (.ireturn, 1) := by decide +kernel
set_option maxRecDepth 20000 in
theorem ggL_passes_L_second : GoodIn wsL_passes wsL_second := goodIn_r _ [4, 5, 6, 3, 7] (by decide +kernel) (by decide +kernel)
set_option maxRecDepth 20000 in
theorem gL_passes_L_second : GoodIn wsL_passes (va_wsS RL 15 yL_second wsL_second) := goodIn_app (goodIn_of _ (by decide +kernel)) ggL_passes_L_second
theorem dL_passes_0 : decode cL_passes 0 = .ok (.iconst 0, 1) := by decide +kernel
theorem dL_passes_1 : decode cL_passes 1 = .ok (.istore_n 2, 1) := by decide +kernel
theorem dL_passes_2 : decode cL_passes 2 = .ok (.iconst 0, 1) := by decide +kernel
theorem dL_passes_3 : decode cL_passes 3 = .ok (.istore_n 3, 1) := by decide +kernel
theorem dL_passes_4 : decode cL_passes 4 = .ok (.iload_n 3, 1) := by decide +kernel
theorem dL_passes_5 : decode cL_passes 5 = .ok (.iload_n 1, 1) := by decide +kernel
theorem dL_passes_6 : decode cL_passes 6 = .ok (.if_icmp .ge 16, 3) := by decide +kernel
theorem dL_passes_9 : decode cL_passes 9 = .ok (.iload_n 2, 1) := by decide +kernel
theorem dL_passes_10 : decode cL_passes 10 = .ok (.aload_n 0, 1) := by decide +kernel
theorem dL_passes_11 : decode cL_passes 11 = .ok (.invokestatic 15, 3) := by decide +kernel
theorem dL_passes_14 : decode cL_passes 14 = .ok (.iadd, 1) := by decide +kernel
theorem dL_passes_15 : decode cL_passes 15 = .ok (.istore_n 2, 1) := by decide +kernel
theorem dL_passes_16 : decode cL_passes 16 = .ok (.iinc 3 1, 3) := by decide +kernel
theorem dL_passes_19 : decode cL_passes 19 = .ok (.goto (-15), 3) := by decide +kernel
theorem dL_passes_22 : decode cL_passes 22 = .ok (.iload_n 2, 1) := by decide +kernel
theorem dL_passes_23 : decode cL_passes 23 = .ok (.ireturn, 1) := by decide +kernel
set_option maxRecDepth 20000 in
theorem ggL_awaits_L_runsAny : GoodIn wsL_awaits wsL_runsAny := goodIn_r _ [4, 5, 6, 3, 7] (by decide +kernel) (by decide +kernel)
set_option maxRecDepth 20000 in
theorem gL_awaits_L_runsAny : GoodIn wsL_awaits (va_wsS RL 19 yL_runsAny wsL_runsAny) := goodIn_app (goodIn_of _ (by decide +kernel)) ggL_awaits_L_runsAny
set_option maxRecDepth 20000 in
theorem ggL_awaits_L_second : GoodIn wsL_awaits wsL_second := goodIn_r _ [10, 5, 6, 3, 7] (by decide +kernel) (by decide +kernel)
set_option maxRecDepth 20000 in
theorem gL_awaits_L_second : GoodIn wsL_awaits (va_wsS RL 15 yL_second wsL_second) := goodIn_app (goodIn_of _ (by decide +kernel)) ggL_awaits_L_second
theorem dL_awaits_0 : decode cL_awaits 0 = .ok (.iconst 0, 1) := by decide +kernel
theorem dL_awaits_1 : decode cL_awaits 1 = .ok (.istore_n 1, 1) := by decide +kernel
theorem dL_awaits_2 : decode cL_awaits 2 = .ok (.aload_n 0, 1) := by decide +kernel
theorem dL_awaits_3 : decode cL_awaits 3 = .ok (.invokestatic 19, 3) := by decide +kernel
theorem dL_awaits_6 : decode cL_awaits 6 = .ok (.istore_n 2, 1) := by decide +kernel
theorem dL_awaits_7 : decode cL_awaits 7 = .ok (.iload_n 2, 1) := by decide +kernel
theorem dL_awaits_8 : decode cL_awaits 8 = .ok (.ifCond .eq 22, 3) := by decide +kernel
theorem dL_awaits_11 : decode cL_awaits 11 = .ok (.iinc 1 1, 3) := by decide +kernel
theorem dL_awaits_14 : decode cL_awaits 14 = .ok (.aload_n 0, 1) := by decide +kernel
theorem dL_awaits_15 : decode cL_awaits 15 = .ok (.invokestatic 15, 3) := by decide +kernel
theorem dL_awaits_18 : decode cL_awaits 18 = .ok (.ifCond .ne 7, 3) := by decide +kernel
theorem dL_awaits_21 : decode cL_awaits 21 = .ok (.iconst 1, 1) := by decide +kernel
theorem dL_awaits_22 : decode cL_awaits 22 = .ok (.goto 4, 3) := by decide +kernel
theorem dL_awaits_25 : decode cL_awaits 25 = .ok (.iconst 0, 1) := by decide +kernel
theorem dL_awaits_26 : decode cL_awaits 26 = .ok (.istore_n 2, 1) := by decide +kernel
theorem dL_awaits_27 : decode cL_awaits 27 = .ok (.goto (-20), 3) := by decide +kernel
theorem dL_awaits_30 : decode cL_awaits 30 = .ok (.iload_n 1, 1) := by decide +kernel
theorem dL_awaits_31 : decode cL_awaits 31 = .ok (.ireturn, 1) := by decide +kernel
theorem dL_turns_0 : decode cL_turns 0 = .ok (.aload_n 0, 1) := by decide +kernel
theorem dL_turns_1 : decode cL_turns 1 = .ok (.bipush 7, 2) := by decide +kernel
theorem dL_turns_3 : decode cL_turns 3 = .ok (.iload_n 1, 1) := by decide +kernel
theorem dL_turns_4 : decode cL_turns 4 = .ok (.imul, 1) := by decide +kernel
theorem dL_turns_5 : decode cL_turns 5 = .ok (.bipush 6, 2) := by decide +kernel
theorem dL_turns_7 : decode cL_turns 7 = .ok (.iadd, 1) := by decide +kernel
theorem dL_turns_8 : decode cL_turns 8 = .ok (.iaload, 1) := by decide +kernel
theorem dL_turns_9 : decode cL_turns 9 = .ok (.istore_n 2, 1) := by decide +kernel
theorem dL_turns_10 : decode cL_turns 10 = .ok (.iconst 0, 1) := by decide +kernel
theorem dL_turns_11 : decode cL_turns 11 = .ok (.istore_n 3, 1) := by decide +kernel
theorem dL_turns_12 : decode cL_turns 12 = .ok (.iload_n 3, 1) := by decide +kernel
theorem dL_turns_13 : decode cL_turns 13 = .ok (.aload_n 0, 1) := by decide +kernel
theorem dL_turns_14 : decode cL_turns 14 = .ok (.bipush 21, 2) := by decide +kernel
theorem dL_turns_16 : decode cL_turns 16 = .ok (.iaload, 1) := by decide +kernel
theorem dL_turns_17 : decode cL_turns 17 = .ok (.if_icmp .ge 63, 3) := by decide +kernel
theorem dL_turns_20 : decode cL_turns 20 = .ok (.aload_n 0, 1) := by decide +kernel
theorem dL_turns_21 : decode cL_turns 21 = .ok (.bipush 7, 2) := by decide +kernel
theorem dL_turns_23 : decode cL_turns 23 = .ok (.iload_n 3, 1) := by decide +kernel
theorem dL_turns_24 : decode cL_turns 24 = .ok (.imul, 1) := by decide +kernel
theorem dL_turns_25 : decode cL_turns 25 = .ok (.bipush 6, 2) := by decide +kernel
theorem dL_turns_27 : decode cL_turns 27 = .ok (.iadd, 1) := by decide +kernel
theorem dL_turns_28 : decode cL_turns 28 = .ok (.iaload, 1) := by decide +kernel
theorem dL_turns_29 : decode cL_turns 29 = .ok (.iload_n 2, 1) := by decide +kernel
theorem dL_turns_30 : decode cL_turns 30 = .ok (.if_icmp .ne 44, 3) := by decide +kernel
theorem dL_turns_33 : decode cL_turns 33 = .ok (.aload_n 0, 1) := by decide +kernel
theorem dL_turns_34 : decode cL_turns 34 = .ok (.bipush 7, 2) := by decide +kernel
theorem dL_turns_36 : decode cL_turns 36 = .ok (.iload_n 3, 1) := by decide +kernel
theorem dL_turns_37 : decode cL_turns 37 = .ok (.imul, 1) := by decide +kernel
theorem dL_turns_38 : decode cL_turns 38 = .ok (.iconst 1, 1) := by decide +kernel
theorem dL_turns_39 : decode cL_turns 39 = .ok (.iadd, 1) := by decide +kernel
theorem dL_turns_40 : decode cL_turns 40 = .ok (.aload_n 0, 1) := by decide +kernel
theorem dL_turns_41 : decode cL_turns 41 = .ok (.bipush 7, 2) := by decide +kernel
theorem dL_turns_43 : decode cL_turns 43 = .ok (.iload_n 3, 1) := by decide +kernel
theorem dL_turns_44 : decode cL_turns 44 = .ok (.imul, 1) := by decide +kernel
theorem dL_turns_45 : decode cL_turns 45 = .ok (.iaload, 1) := by decide +kernel
theorem dL_turns_46 : decode cL_turns 46 = .ok (.aload_n 0, 1) := by decide +kernel
theorem dL_turns_47 : decode cL_turns 47 = .ok (.bipush 7, 2) := by decide +kernel
theorem dL_turns_49 : decode cL_turns 49 = .ok (.iload_n 3, 1) := by decide +kernel
theorem dL_turns_50 : decode cL_turns 50 = .ok (.imul, 1) := by decide +kernel
theorem dL_turns_51 : decode cL_turns 51 = .ok (.iconst 1, 1) := by decide +kernel
theorem dL_turns_52 : decode cL_turns 52 = .ok (.iadd, 1) := by decide +kernel
theorem dL_turns_53 : decode cL_turns 53 = .ok (.iaload, 1) := by decide +kernel
theorem dL_turns_54 : decode cL_turns 54 = .ok (.isub, 1) := by decide +kernel
theorem dL_turns_55 : decode cL_turns 55 = .ok (.iastore, 1) := by decide +kernel
theorem dL_turns_56 : decode cL_turns 56 = .ok (.aload_n 0, 1) := by decide +kernel
theorem dL_turns_57 : decode cL_turns 57 = .ok (.bipush 7, 2) := by decide +kernel
theorem dL_turns_59 : decode cL_turns 59 = .ok (.iload_n 3, 1) := by decide +kernel
theorem dL_turns_60 : decode cL_turns 60 = .ok (.imul, 1) := by decide +kernel
theorem dL_turns_61 : decode cL_turns 61 = .ok (.iconst 4, 1) := by decide +kernel
theorem dL_turns_62 : decode cL_turns 62 = .ok (.iadd, 1) := by decide +kernel
theorem dL_turns_63 : decode cL_turns 63 = .ok (.iconst 0, 1) := by decide +kernel
theorem dL_turns_64 : decode cL_turns 64 = .ok (.iastore, 1) := by decide +kernel
theorem dL_turns_65 : decode cL_turns 65 = .ok (.aload_n 0, 1) := by decide +kernel
theorem dL_turns_66 : decode cL_turns 66 = .ok (.bipush 7, 2) := by decide +kernel
theorem dL_turns_68 : decode cL_turns 68 = .ok (.iload_n 3, 1) := by decide +kernel
theorem dL_turns_69 : decode cL_turns 69 = .ok (.imul, 1) := by decide +kernel
theorem dL_turns_70 : decode cL_turns 70 = .ok (.iconst 5, 1) := by decide +kernel
theorem dL_turns_71 : decode cL_turns 71 = .ok (.iadd, 1) := by decide +kernel
theorem dL_turns_72 : decode cL_turns 72 = .ok (.iconst 0, 1) := by decide +kernel
theorem dL_turns_73 : decode cL_turns 73 = .ok (.iastore, 1) := by decide +kernel
theorem dL_turns_74 : decode cL_turns 74 = .ok (.iinc 3 1, 3) := by decide +kernel
theorem dL_turns_77 : decode cL_turns 77 = .ok (.goto (-65), 3) := by decide +kernel
theorem dL_turns_80 : decode cL_turns 80 = .ok (.aload_n 0, 1) := by decide +kernel
theorem dL_turns_81 : decode cL_turns 81 = .ok (.bipush 25, 2) := by decide +kernel
theorem dL_turns_83 : decode cL_turns 83 = .ok (.dup2, 1) := by decide +kernel
theorem dL_turns_84 : decode cL_turns 84 = .ok (.iaload, 1) := by decide +kernel
theorem dL_turns_85 : decode cL_turns 85 = .ok (.iconst 1, 1) := by decide +kernel
theorem dL_turns_86 : decode cL_turns 86 = .ok (.iadd, 1) := by decide +kernel
theorem dL_turns_87 : decode cL_turns 87 = .ok (.iastore, 1) := by decide +kernel
theorem dL_turns_88 : decode cL_turns 88 = .ok (.return_, 1) := by decide +kernel
theorem dL_taps_0 : decode cL_taps 0 = .ok (.aload_n 0, 1) := by decide +kernel
theorem dL_taps_1 : decode cL_taps 1 = .ok (.bipush 7, 2) := by decide +kernel
theorem dL_taps_3 : decode cL_taps 3 = .ok (.iload_n 1, 1) := by decide +kernel
theorem dL_taps_4 : decode cL_taps 4 = .ok (.imul, 1) := by decide +kernel
theorem dL_taps_5 : decode cL_taps 5 = .ok (.iconst 4, 1) := by decide +kernel
theorem dL_taps_6 : decode cL_taps 6 = .ok (.iadd, 1) := by decide +kernel
theorem dL_taps_7 : decode cL_taps 7 = .ok (.iaload, 1) := by decide +kernel
theorem dL_taps_8 : decode cL_taps 8 = .ok (.istore_n 2, 1) := by decide +kernel
theorem dL_taps_9 : decode cL_taps 9 = .ok (.aload_n 0, 1) := by decide +kernel
theorem dL_taps_10 : decode cL_taps 10 = .ok (.bipush 7, 2) := by decide +kernel
theorem dL_taps_12 : decode cL_taps 12 = .ok (.iload_n 1, 1) := by decide +kernel
theorem dL_taps_13 : decode cL_taps 13 = .ok (.imul, 1) := by decide +kernel
theorem dL_taps_14 : decode cL_taps 14 = .ok (.iconst 4, 1) := by decide +kernel
theorem dL_taps_15 : decode cL_taps 15 = .ok (.iadd, 1) := by decide +kernel
theorem dL_taps_16 : decode cL_taps 16 = .ok (.iconst 0, 1) := by decide +kernel
theorem dL_taps_17 : decode cL_taps 17 = .ok (.iastore, 1) := by decide +kernel
theorem dL_taps_18 : decode cL_taps 18 = .ok (.aload_n 0, 1) := by decide +kernel
theorem dL_taps_19 : decode cL_taps 19 = .ok (.bipush 7, 2) := by decide +kernel
theorem dL_taps_21 : decode cL_taps 21 = .ok (.iload_n 1, 1) := by decide +kernel
theorem dL_taps_22 : decode cL_taps 22 = .ok (.imul, 1) := by decide +kernel
theorem dL_taps_23 : decode cL_taps 23 = .ok (.iconst 5, 1) := by decide +kernel
theorem dL_taps_24 : decode cL_taps 24 = .ok (.iadd, 1) := by decide +kernel
theorem dL_taps_25 : decode cL_taps 25 = .ok (.iconst 0, 1) := by decide +kernel
theorem dL_taps_26 : decode cL_taps 26 = .ok (.iastore, 1) := by decide +kernel
theorem dL_taps_27 : decode cL_taps 27 = .ok (.aload_n 0, 1) := by decide +kernel
theorem dL_taps_28 : decode cL_taps 28 = .ok (.bipush 26, 2) := by decide +kernel
theorem dL_taps_30 : decode cL_taps 30 = .ok (.dup2, 1) := by decide +kernel
theorem dL_taps_31 : decode cL_taps 31 = .ok (.iaload, 1) := by decide +kernel
theorem dL_taps_32 : decode cL_taps 32 = .ok (.iconst 1, 1) := by decide +kernel
theorem dL_taps_33 : decode cL_taps 33 = .ok (.iadd, 1) := by decide +kernel
theorem dL_taps_34 : decode cL_taps 34 = .ok (.iastore, 1) := by decide +kernel
theorem dL_taps_35 : decode cL_taps 35 = .ok (.iload_n 2, 1) := by decide +kernel
theorem dL_taps_36 : decode cL_taps 36 = .ok (.ireturn, 1) := by decide +kernel
set_option maxRecDepth 20000 in
theorem ggL_isTold_X4_glass : GoodIn wsL_isTold wsX4_glass := goodIn_r _ [5, 6, 7, 8, 9, 10, 11, 12, 13, 14, 15, 16, 17, 18, 19, 20, 21, 22, 23, 24, 25, 92, 93, 94, 95, 96] (by decide +kernel) (by decide +kernel)
set_option maxRecDepth 20000 in
theorem gL_isTold_X4_glass : GoodIn wsL_isTold (wsV RL 23 RX4 yX4_glass wsX4_glass) := goodIn_app (goodIn_of _ (by decide +kernel)) ggL_isTold_X4_glass
set_option maxRecDepth 20000 in
theorem ggL_isTold_L_runs : GoodIn wsL_isTold wsL_runs := goodIn_r _ [29] (by decide +kernel) (by decide +kernel)
set_option maxRecDepth 20000 in
theorem gL_isTold_L_runs : GoodIn wsL_isTold (va_wsS RL 11 yL_runs wsL_runs) := goodIn_app (goodIn_of _ (by decide +kernel)) ggL_isTold_L_runs
set_option maxRecDepth 20000 in
theorem ggL_isTold_X4_event : GoodIn wsL_isTold wsX4_event := goodIn_r _ [33, 6, 34, 35, 36, 10, 37, 16, 38, 39, 40, 41, 42, 43, 44, 45, 46, 47, 48, 92, 93, 94, 95, 96] (by decide +kernel) (by decide +kernel)
set_option maxRecDepth 20000 in
theorem gL_isTold_X4_event : GoodIn wsL_isTold (wsV RL 29 RX4 yX4_event wsX4_event) := goodIn_app (goodIn_of _ (by decide +kernel)) ggL_isTold_X4_event
set_option maxRecDepth 20000 in
theorem ggL_isTold_X4_count : GoodIn wsL_isTold wsX4_count := goodIn_r _ [52, 6, 53, 54, 55, 13, 14, 10, 15, 16, 56, 57, 58, 59, 12, 25, 18, 19, 20, 60, 61, 62, 63, 64, 65, 66, 67, 68, 69, 70, 71, 34, 35, 36, 37, 38, 39, 40, 41, 72, 73, 74, 75, 76, 77, 78, 79, 80, 81, 82, 83, 84, 85, 86, 87, 88, 89, 90, 91, 92, 93, 94, 95, 96, 97, 98, 99, 100, 101, 102, 103, 104, 105, 106, 107] (by decide +kernel) (by decide +kernel)
set_option maxRecDepth 20000 in
theorem gL_isTold_X4_count : GoodIn wsL_isTold (wsV RL 32 RX4 yX4_count wsX4_count) := goodIn_app (goodIn_of _ (by decide +kernel)) ggL_isTold_X4_count
theorem dL_isTold_0 : decode cL_isTold 0 = .ok (.iconst 0, 1) := by decide +kernel
theorem dL_isTold_1 : decode cL_isTold 1 = .ok (.istore_n 2, 1) := by decide +kernel
theorem dL_isTold_2 : decode cL_isTold 2 = .ok (.iconst 0, 1) := by decide +kernel
theorem dL_isTold_3 : decode cL_isTold 3 = .ok (.istore_n 3, 1) := by decide +kernel
theorem dL_isTold_4 : decode cL_isTold 4 = .ok (.iload_n 3, 1) := by decide +kernel
theorem dL_isTold_5 : decode cL_isTold 5 = .ok (.aload_n 1, 1) := by decide +kernel
theorem dL_isTold_6 : decode cL_isTold 6 = .ok (.bipush 21, 2) := by decide +kernel
theorem dL_isTold_8 : decode cL_isTold 8 = .ok (.iaload, 1) := by decide +kernel
theorem dL_isTold_9 : decode cL_isTold 9 = .ok (.if_icmp .ge 164, 3) := by decide +kernel
theorem dL_isTold_12 : decode cL_isTold 12 = .ok (.bipush 7, 2) := by decide +kernel
theorem dL_isTold_14 : decode cL_isTold 14 = .ok (.iload_n 3, 1) := by decide +kernel
theorem dL_isTold_15 : decode cL_isTold 15 = .ok (.imul, 1) := by decide +kernel
theorem dL_isTold_16 : decode cL_isTold 16 = .ok (.istore 4, 2) := by decide +kernel
theorem dL_isTold_18 : decode cL_isTold 18 = .ok (.aload_n 0, 1) := by decide +kernel
theorem dL_isTold_19 : decode cL_isTold 19 = .ok (.iload_n 3, 1) := by decide +kernel
theorem dL_isTold_20 : decode cL_isTold 20 = .ok (.iconst 0, 1) := by decide +kernel
theorem dL_isTold_21 : decode cL_isTold 21 = .ok (.invokevirtual 23, 3) := by decide +kernel
theorem dL_isTold_24 : decode cL_isTold 24 = .ok (.aload_n 1, 1) := by decide +kernel
theorem dL_isTold_25 : decode cL_isTold 25 = .ok (.iload 4, 2) := by decide +kernel
theorem dL_isTold_27 : decode cL_isTold 27 = .ok (.iaload, 1) := by decide +kernel
theorem dL_isTold_28 : decode cL_isTold 28 = .ok (.if_icmp .ne 118, 3) := by decide +kernel
theorem dL_isTold_31 : decode cL_isTold 31 = .ok (.aload_n 0, 1) := by decide +kernel
theorem dL_isTold_32 : decode cL_isTold 32 = .ok (.iload_n 3, 1) := by decide +kernel
theorem dL_isTold_33 : decode cL_isTold 33 = .ok (.iconst 1, 1) := by decide +kernel
theorem dL_isTold_34 : decode cL_isTold 34 = .ok (.invokevirtual 23, 3) := by decide +kernel
theorem dL_isTold_37 : decode cL_isTold 37 = .ok (.aload_n 1, 1) := by decide +kernel
theorem dL_isTold_38 : decode cL_isTold 38 = .ok (.iload 4, 2) := by decide +kernel
theorem dL_isTold_40 : decode cL_isTold 40 = .ok (.iconst 1, 1) := by decide +kernel
theorem dL_isTold_41 : decode cL_isTold 41 = .ok (.iadd, 1) := by decide +kernel
theorem dL_isTold_42 : decode cL_isTold 42 = .ok (.iaload, 1) := by decide +kernel
theorem dL_isTold_43 : decode cL_isTold 43 = .ok (.if_icmp .ne 103, 3) := by decide +kernel
theorem dL_isTold_46 : decode cL_isTold 46 = .ok (.aload_n 0, 1) := by decide +kernel
theorem dL_isTold_47 : decode cL_isTold 47 = .ok (.iload_n 3, 1) := by decide +kernel
theorem dL_isTold_48 : decode cL_isTold 48 = .ok (.iconst 2, 1) := by decide +kernel
theorem dL_isTold_49 : decode cL_isTold 49 = .ok (.invokevirtual 23, 3) := by decide +kernel
theorem dL_isTold_52 : decode cL_isTold 52 = .ok (.aload_n 1, 1) := by decide +kernel
theorem dL_isTold_53 : decode cL_isTold 53 = .ok (.iload 4, 2) := by decide +kernel
theorem dL_isTold_55 : decode cL_isTold 55 = .ok (.iconst 2, 1) := by decide +kernel
theorem dL_isTold_56 : decode cL_isTold 56 = .ok (.iadd, 1) := by decide +kernel
theorem dL_isTold_57 : decode cL_isTold 57 = .ok (.iaload, 1) := by decide +kernel
theorem dL_isTold_58 : decode cL_isTold 58 = .ok (.if_icmp .ne 88, 3) := by decide +kernel
theorem dL_isTold_61 : decode cL_isTold 61 = .ok (.aload_n 0, 1) := by decide +kernel
theorem dL_isTold_62 : decode cL_isTold 62 = .ok (.iload_n 3, 1) := by decide +kernel
theorem dL_isTold_63 : decode cL_isTold 63 = .ok (.iconst 3, 1) := by decide +kernel
theorem dL_isTold_64 : decode cL_isTold 64 = .ok (.invokevirtual 23, 3) := by decide +kernel
theorem dL_isTold_67 : decode cL_isTold 67 = .ok (.aload_n 1, 1) := by decide +kernel
theorem dL_isTold_68 : decode cL_isTold 68 = .ok (.iload 4, 2) := by decide +kernel
theorem dL_isTold_70 : decode cL_isTold 70 = .ok (.iconst 3, 1) := by decide +kernel
theorem dL_isTold_71 : decode cL_isTold 71 = .ok (.iadd, 1) := by decide +kernel
theorem dL_isTold_72 : decode cL_isTold 72 = .ok (.iaload, 1) := by decide +kernel
theorem dL_isTold_73 : decode cL_isTold 73 = .ok (.if_icmp .ne 73, 3) := by decide +kernel
theorem dL_isTold_76 : decode cL_isTold 76 = .ok (.aload_n 0, 1) := by decide +kernel
theorem dL_isTold_77 : decode cL_isTold 77 = .ok (.iload_n 3, 1) := by decide +kernel
theorem dL_isTold_78 : decode cL_isTold 78 = .ok (.iconst 4, 1) := by decide +kernel
theorem dL_isTold_79 : decode cL_isTold 79 = .ok (.invokevirtual 23, 3) := by decide +kernel
theorem dL_isTold_82 : decode cL_isTold 82 = .ok (.aload_n 1, 1) := by decide +kernel
theorem dL_isTold_83 : decode cL_isTold 83 = .ok (.iload 4, 2) := by decide +kernel
theorem dL_isTold_85 : decode cL_isTold 85 = .ok (.iconst 4, 1) := by decide +kernel
theorem dL_isTold_86 : decode cL_isTold 86 = .ok (.iadd, 1) := by decide +kernel
theorem dL_isTold_87 : decode cL_isTold 87 = .ok (.iaload, 1) := by decide +kernel
theorem dL_isTold_88 : decode cL_isTold 88 = .ok (.if_icmp .ne 58, 3) := by decide +kernel
theorem dL_isTold_91 : decode cL_isTold 91 = .ok (.aload_n 0, 1) := by decide +kernel
theorem dL_isTold_92 : decode cL_isTold 92 = .ok (.iload_n 3, 1) := by decide +kernel
theorem dL_isTold_93 : decode cL_isTold 93 = .ok (.iconst 5, 1) := by decide +kernel
theorem dL_isTold_94 : decode cL_isTold 94 = .ok (.invokevirtual 23, 3) := by decide +kernel
theorem dL_isTold_97 : decode cL_isTold 97 = .ok (.aload_n 1, 1) := by decide +kernel
theorem dL_isTold_98 : decode cL_isTold 98 = .ok (.iload 4, 2) := by decide +kernel
theorem dL_isTold_100 : decode cL_isTold 100 = .ok (.bipush 6, 2) := by decide +kernel
theorem dL_isTold_102 : decode cL_isTold 102 = .ok (.iadd, 1) := by decide +kernel
theorem dL_isTold_103 : decode cL_isTold 103 = .ok (.iaload, 1) := by decide +kernel
theorem dL_isTold_104 : decode cL_isTold 104 = .ok (.if_icmp .ne 42, 3) := by decide +kernel
theorem dL_isTold_107 : decode cL_isTold 107 = .ok (.aload_n 0, 1) := by decide +kernel
theorem dL_isTold_108 : decode cL_isTold 108 = .ok (.iload_n 3, 1) := by decide +kernel
theorem dL_isTold_109 : decode cL_isTold 109 = .ok (.bipush 6, 2) := by decide +kernel
theorem dL_isTold_111 : decode cL_isTold 111 = .ok (.invokevirtual 23, 3) := by decide +kernel
theorem dL_isTold_114 : decode cL_isTold 114 = .ok (.aload_n 1, 1) := by decide +kernel
theorem dL_isTold_115 : decode cL_isTold 115 = .ok (.iload 4, 2) := by decide +kernel
theorem dL_isTold_117 : decode cL_isTold 117 = .ok (.iconst 5, 1) := by decide +kernel
theorem dL_isTold_118 : decode cL_isTold 118 = .ok (.iadd, 1) := by decide +kernel
theorem dL_isTold_119 : decode cL_isTold 119 = .ok (.iaload, 1) := by decide +kernel
theorem dL_isTold_120 : decode cL_isTold 120 = .ok (.if_icmp .ne 26, 3) := by decide +kernel
theorem dL_isTold_123 : decode cL_isTold 123 = .ok (.aload_n 0, 1) := by decide +kernel
theorem dL_isTold_124 : decode cL_isTold 124 = .ok (.iload_n 3, 1) := by decide +kernel
theorem dL_isTold_125 : decode cL_isTold 125 = .ok (.bipush 7, 2) := by decide +kernel
theorem dL_isTold_127 : decode cL_isTold 127 = .ok (.invokevirtual 23, 3) := by decide +kernel
theorem dL_isTold_130 : decode cL_isTold 130 = .ok (.aload_n 1, 1) := by decide +kernel
theorem dL_isTold_131 : decode cL_isTold 131 = .ok (.iload_n 3, 1) := by decide +kernel
theorem dL_isTold_132 : decode cL_isTold 132 = .ok (.invokestatic 11, 3) := by decide +kernel
theorem dL_isTold_135 : decode cL_isTold 135 = .ok (.ifCond .eq 7, 3) := by decide +kernel
theorem dL_isTold_138 : decode cL_isTold 138 = .ok (.iconst 1, 1) := by decide +kernel
theorem dL_isTold_139 : decode cL_isTold 139 = .ok (.goto 4, 3) := by decide +kernel
theorem dL_isTold_142 : decode cL_isTold 142 = .ok (.iconst 0, 1) := by decide +kernel
theorem dL_isTold_143 : decode cL_isTold 143 = .ok (.if_icmp .eq 5, 3) := by decide +kernel
theorem dL_isTold_146 : decode cL_isTold 146 = .ok (.iconst 0, 1) := by decide +kernel
theorem dL_isTold_147 : decode cL_isTold 147 = .ok (.ireturn, 1) := by decide +kernel
theorem dL_isTold_148 : decode cL_isTold 148 = .ok (.iload_n 2, 1) := by decide +kernel
theorem dL_isTold_149 : decode cL_isTold 149 = .ok (.aload_n 1, 1) := by decide +kernel
theorem dL_isTold_150 : decode cL_isTold 150 = .ok (.iload 4, 2) := by decide +kernel
theorem dL_isTold_152 : decode cL_isTold 152 = .ok (.bipush 6, 2) := by decide +kernel
theorem dL_isTold_154 : decode cL_isTold 154 = .ok (.iadd, 1) := by decide +kernel
theorem dL_isTold_155 : decode cL_isTold 155 = .ok (.iaload, 1) := by decide +kernel
theorem dL_isTold_156 : decode cL_isTold 156 = .ok (.iload_n 3, 1) := by decide +kernel
theorem dL_isTold_157 : decode cL_isTold 157 = .ok (.if_icmp .ne 7, 3) := by decide +kernel
theorem dL_isTold_160 : decode cL_isTold 160 = .ok (.iconst 1, 1) := by decide +kernel
theorem dL_isTold_161 : decode cL_isTold 161 = .ok (.goto 4, 3) := by decide +kernel
theorem dL_isTold_164 : decode cL_isTold 164 = .ok (.iconst 0, 1) := by decide +kernel
theorem dL_isTold_165 : decode cL_isTold 165 = .ok (.iadd, 1) := by decide +kernel
theorem dL_isTold_166 : decode cL_isTold 166 = .ok (.istore_n 2, 1) := by decide +kernel
theorem dL_isTold_167 : decode cL_isTold 167 = .ok (.iinc 3 1, 3) := by decide +kernel
theorem dL_isTold_170 : decode cL_isTold 170 = .ok (.goto (-166), 3) := by decide +kernel
theorem dL_isTold_173 : decode cL_isTold 173 = .ok (.iconst 0, 1) := by decide +kernel
theorem dL_isTold_174 : decode cL_isTold 174 = .ok (.istore_n 3, 1) := by decide +kernel
theorem dL_isTold_175 : decode cL_isTold 175 = .ok (.iconst 0, 1) := by decide +kernel
theorem dL_isTold_176 : decode cL_isTold 176 = .ok (.istore 4, 2) := by decide +kernel
theorem dL_isTold_178 : decode cL_isTold 178 = .ok (.iload 4, 2) := by decide +kernel
theorem dL_isTold_180 : decode cL_isTold 180 = .ok (.bipush 12, 2) := by decide +kernel
theorem dL_isTold_182 : decode cL_isTold 182 = .ok (.if_icmp .ge 108, 3) := by decide +kernel
theorem dL_isTold_185 : decode cL_isTold 185 = .ok (.aload_n 1, 1) := by decide +kernel
theorem dL_isTold_186 : decode cL_isTold 186 = .ok (.bipush 30, 2) := by decide +kernel
theorem dL_isTold_188 : decode cL_isTold 188 = .ok (.iload 4, 2) := by decide +kernel
theorem dL_isTold_190 : decode cL_isTold 190 = .ok (.iadd, 1) := by decide +kernel
theorem dL_isTold_191 : decode cL_isTold 191 = .ok (.iaload, 1) := by decide +kernel
theorem dL_isTold_192 : decode cL_isTold 192 = .ok (.istore 5, 2) := by decide +kernel
theorem dL_isTold_194 : decode cL_isTold 194 = .ok (.iload_n 3, 1) := by decide +kernel
theorem dL_isTold_195 : decode cL_isTold 195 = .ok (.iload 5, 2) := by decide +kernel
theorem dL_isTold_197 : decode cL_isTold 197 = .ok (.ifCond .ge 7, 3) := by decide +kernel
theorem dL_isTold_200 : decode cL_isTold 200 = .ok (.iconst 0, 1) := by decide +kernel
theorem dL_isTold_201 : decode cL_isTold 201 = .ok (.goto 4, 3) := by decide +kernel
theorem dL_isTold_204 : decode cL_isTold 204 = .ok (.iconst 1, 1) := by decide +kernel
theorem dL_isTold_205 : decode cL_isTold 205 = .ok (.iadd, 1) := by decide +kernel
theorem dL_isTold_206 : decode cL_isTold 206 = .ok (.istore_n 3, 1) := by decide +kernel
theorem dL_isTold_207 : decode cL_isTold 207 = .ok (.aload_n 0, 1) := by decide +kernel
theorem dL_isTold_208 : decode cL_isTold 208 = .ok (.iload 4, 2) := by decide +kernel
theorem dL_isTold_210 : decode cL_isTold 210 = .ok (.iconst 0, 1) := by decide +kernel
theorem dL_isTold_211 : decode cL_isTold 211 = .ok (.invokevirtual 29, 3) := by decide +kernel
theorem dL_isTold_214 : decode cL_isTold 214 = .ok (.iload 5, 2) := by decide +kernel
theorem dL_isTold_216 : decode cL_isTold 216 = .ok (.ifCond .ge 7, 3) := by decide +kernel
theorem dL_isTold_219 : decode cL_isTold 219 = .ok (.iconst (-1), 1) := by decide +kernel
theorem dL_isTold_220 : decode cL_isTold 220 = .ok (.goto 8, 3) := by decide +kernel
theorem dL_isTold_223 : decode cL_isTold 223 = .ok (.iload 5, 2) := by decide +kernel
theorem dL_isTold_225 : decode cL_isTold 225 = .ok (.bipush 100, 2) := by decide +kernel
theorem dL_isTold_227 : decode cL_isTold 227 = .ok (.idiv, 1) := by decide +kernel
theorem dL_isTold_228 : decode cL_isTold 228 = .ok (.if_icmp .ne 54, 3) := by decide +kernel
theorem dL_isTold_231 : decode cL_isTold 231 = .ok (.aload_n 0, 1) := by decide +kernel
theorem dL_isTold_232 : decode cL_isTold 232 = .ok (.iload 4, 2) := by decide +kernel
theorem dL_isTold_234 : decode cL_isTold 234 = .ok (.iconst 1, 1) := by decide +kernel
theorem dL_isTold_235 : decode cL_isTold 235 = .ok (.invokevirtual 29, 3) := by decide +kernel
theorem dL_isTold_238 : decode cL_isTold 238 = .ok (.iload 5, 2) := by decide +kernel
theorem dL_isTold_240 : decode cL_isTold 240 = .ok (.ifCond .ge 7, 3) := by decide +kernel
theorem dL_isTold_243 : decode cL_isTold 243 = .ok (.iconst (-1), 1) := by decide +kernel
theorem dL_isTold_244 : decode cL_isTold 244 = .ok (.goto 11, 3) := by decide +kernel
theorem dL_isTold_247 : decode cL_isTold 247 = .ok (.iload 5, 2) := by decide +kernel
theorem dL_isTold_249 : decode cL_isTold 249 = .ok (.bipush 10, 2) := by decide +kernel
theorem dL_isTold_251 : decode cL_isTold 251 = .ok (.idiv, 1) := by decide +kernel
theorem dL_isTold_252 : decode cL_isTold 252 = .ok (.bipush 10, 2) := by decide +kernel
theorem dL_isTold_254 : decode cL_isTold 254 = .ok (.irem, 1) := by decide +kernel
theorem dL_isTold_255 : decode cL_isTold 255 = .ok (.if_icmp .ne 27, 3) := by decide +kernel
theorem dL_isTold_258 : decode cL_isTold 258 = .ok (.aload_n 0, 1) := by decide +kernel
theorem dL_isTold_259 : decode cL_isTold 259 = .ok (.iload 4, 2) := by decide +kernel
theorem dL_isTold_261 : decode cL_isTold 261 = .ok (.iconst 2, 1) := by decide +kernel
theorem dL_isTold_262 : decode cL_isTold 262 = .ok (.invokevirtual 29, 3) := by decide +kernel
theorem dL_isTold_265 : decode cL_isTold 265 = .ok (.iload 5, 2) := by decide +kernel
theorem dL_isTold_267 : decode cL_isTold 267 = .ok (.ifCond .ge 7, 3) := by decide +kernel
theorem dL_isTold_270 : decode cL_isTold 270 = .ok (.iconst (-1), 1) := by decide +kernel
theorem dL_isTold_271 : decode cL_isTold 271 = .ok (.goto 8, 3) := by decide +kernel
theorem dL_isTold_274 : decode cL_isTold 274 = .ok (.iload 5, 2) := by decide +kernel
theorem dL_isTold_276 : decode cL_isTold 276 = .ok (.bipush 10, 2) := by decide +kernel
theorem dL_isTold_278 : decode cL_isTold 278 = .ok (.irem, 1) := by decide +kernel
theorem dL_isTold_279 : decode cL_isTold 279 = .ok (.if_icmp .eq 5, 3) := by decide +kernel
theorem dL_isTold_282 : decode cL_isTold 282 = .ok (.iconst 0, 1) := by decide +kernel
theorem dL_isTold_283 : decode cL_isTold 283 = .ok (.ireturn, 1) := by decide +kernel
theorem dL_isTold_284 : decode cL_isTold 284 = .ok (.iinc 4 1, 3) := by decide +kernel
theorem dL_isTold_287 : decode cL_isTold 287 = .ok (.goto (-109), 3) := by decide +kernel
theorem dL_isTold_290 : decode cL_isTold 290 = .ok (.aload_n 0, 1) := by decide +kernel
theorem dL_isTold_291 : decode cL_isTold 291 = .ok (.iconst 0, 1) := by decide +kernel
theorem dL_isTold_292 : decode cL_isTold 292 = .ok (.invokevirtual 32, 3) := by decide +kernel
theorem dL_isTold_295 : decode cL_isTold 295 = .ok (.aload_n 1, 1) := by decide +kernel
theorem dL_isTold_296 : decode cL_isTold 296 = .ok (.bipush 21, 2) := by decide +kernel
theorem dL_isTold_298 : decode cL_isTold 298 = .ok (.iaload, 1) := by decide +kernel
theorem dL_isTold_299 : decode cL_isTold 299 = .ok (.if_icmp .ne 101, 3) := by decide +kernel
theorem dL_isTold_302 : decode cL_isTold 302 = .ok (.aload_n 0, 1) := by decide +kernel
theorem dL_isTold_303 : decode cL_isTold 303 = .ok (.iconst 1, 1) := by decide +kernel
theorem dL_isTold_304 : decode cL_isTold 304 = .ok (.invokevirtual 32, 3) := by decide +kernel
theorem dL_isTold_307 : decode cL_isTold 307 = .ok (.iload_n 2, 1) := by decide +kernel
theorem dL_isTold_308 : decode cL_isTold 308 = .ok (.if_icmp .ne 92, 3) := by decide +kernel
theorem dL_isTold_311 : decode cL_isTold 311 = .ok (.aload_n 0, 1) := by decide +kernel
theorem dL_isTold_312 : decode cL_isTold 312 = .ok (.iconst 2, 1) := by decide +kernel
theorem dL_isTold_313 : decode cL_isTold 313 = .ok (.invokevirtual 32, 3) := by decide +kernel
theorem dL_isTold_316 : decode cL_isTold 316 = .ok (.aload_n 1, 1) := by decide +kernel
theorem dL_isTold_317 : decode cL_isTold 317 = .ok (.bipush 22, 2) := by decide +kernel
theorem dL_isTold_319 : decode cL_isTold 319 = .ok (.iaload, 1) := by decide +kernel
theorem dL_isTold_320 : decode cL_isTold 320 = .ok (.if_icmp .ne 80, 3) := by decide +kernel
theorem dL_isTold_323 : decode cL_isTold 323 = .ok (.aload_n 0, 1) := by decide +kernel
theorem dL_isTold_324 : decode cL_isTold 324 = .ok (.iconst 4, 1) := by decide +kernel
theorem dL_isTold_325 : decode cL_isTold 325 = .ok (.invokevirtual 32, 3) := by decide +kernel
theorem dL_isTold_328 : decode cL_isTold 328 = .ok (.aload_n 1, 1) := by decide +kernel
theorem dL_isTold_329 : decode cL_isTold 329 = .ok (.bipush 24, 2) := by decide +kernel
theorem dL_isTold_331 : decode cL_isTold 331 = .ok (.iaload, 1) := by decide +kernel
theorem dL_isTold_332 : decode cL_isTold 332 = .ok (.if_icmp .ne 68, 3) := by decide +kernel
theorem dL_isTold_335 : decode cL_isTold 335 = .ok (.aload_n 0, 1) := by decide +kernel
theorem dL_isTold_336 : decode cL_isTold 336 = .ok (.iconst 5, 1) := by decide +kernel
theorem dL_isTold_337 : decode cL_isTold 337 = .ok (.invokevirtual 32, 3) := by decide +kernel
theorem dL_isTold_340 : decode cL_isTold 340 = .ok (.iload_n 3, 1) := by decide +kernel
theorem dL_isTold_341 : decode cL_isTold 341 = .ok (.if_icmp .ne 59, 3) := by decide +kernel
theorem dL_isTold_344 : decode cL_isTold 344 = .ok (.aload_n 0, 1) := by decide +kernel
theorem dL_isTold_345 : decode cL_isTold 345 = .ok (.bipush 6, 2) := by decide +kernel
theorem dL_isTold_347 : decode cL_isTold 347 = .ok (.invokevirtual 32, 3) := by decide +kernel
theorem dL_isTold_350 : decode cL_isTold 350 = .ok (.aload_n 1, 1) := by decide +kernel
theorem dL_isTold_351 : decode cL_isTold 351 = .ok (.bipush 25, 2) := by decide +kernel
theorem dL_isTold_353 : decode cL_isTold 353 = .ok (.iaload, 1) := by decide +kernel
theorem dL_isTold_354 : decode cL_isTold 354 = .ok (.if_icmp .ne 46, 3) := by decide +kernel
theorem dL_isTold_357 : decode cL_isTold 357 = .ok (.aload_n 0, 1) := by decide +kernel
theorem dL_isTold_358 : decode cL_isTold 358 = .ok (.bipush 7, 2) := by decide +kernel
theorem dL_isTold_360 : decode cL_isTold 360 = .ok (.invokevirtual 32, 3) := by decide +kernel
theorem dL_isTold_363 : decode cL_isTold 363 = .ok (.aload_n 1, 1) := by decide +kernel
theorem dL_isTold_364 : decode cL_isTold 364 = .ok (.bipush 26, 2) := by decide +kernel
theorem dL_isTold_366 : decode cL_isTold 366 = .ok (.iaload, 1) := by decide +kernel
theorem dL_isTold_367 : decode cL_isTold 367 = .ok (.if_icmp .ne 33, 3) := by decide +kernel
theorem dL_isTold_370 : decode cL_isTold 370 = .ok (.aload_n 0, 1) := by decide +kernel
theorem dL_isTold_371 : decode cL_isTold 371 = .ok (.aload_n 1, 1) := by decide +kernel
theorem dL_isTold_372 : decode cL_isTold 372 = .ok (.bipush 21, 2) := by decide +kernel
theorem dL_isTold_374 : decode cL_isTold 374 = .ok (.iaload, 1) := by decide +kernel
theorem dL_isTold_375 : decode cL_isTold 375 = .ok (.iconst 0, 1) := by decide +kernel
theorem dL_isTold_376 : decode cL_isTold 376 = .ok (.invokevirtual 23, 3) := by decide +kernel
theorem dL_isTold_379 : decode cL_isTold 379 = .ok (.bipush (-2), 2) := by decide +kernel
theorem dL_isTold_381 : decode cL_isTold 381 = .ok (.if_icmp .ne 19, 3) := by decide +kernel
theorem dL_isTold_384 : decode cL_isTold 384 = .ok (.aload_n 0, 1) := by decide +kernel
theorem dL_isTold_385 : decode cL_isTold 385 = .ok (.iconst 0, 1) := by decide +kernel
theorem dL_isTold_386 : decode cL_isTold 386 = .ok (.bipush 8, 2) := by decide +kernel
theorem dL_isTold_388 : decode cL_isTold 388 = .ok (.invokevirtual 23, 3) := by decide +kernel
theorem dL_isTold_391 : decode cL_isTold 391 = .ok (.bipush (-2), 2) := by decide +kernel
theorem dL_isTold_393 : decode cL_isTold 393 = .ok (.if_icmp .ne 7, 3) := by decide +kernel
theorem dL_isTold_396 : decode cL_isTold 396 = .ok (.iconst 1, 1) := by decide +kernel
theorem dL_isTold_397 : decode cL_isTold 397 = .ok (.goto 4, 3) := by decide +kernel
theorem dL_isTold_400 : decode cL_isTold 400 = .ok (.iconst 0, 1) := by decide +kernel
theorem dL_isTold_401 : decode cL_isTold 401 = .ok (.ireturn, 1) := by decide +kernel
set_option maxRecDepth 20000 in
theorem ggL_fixes_X4_fix : GoodIn wsL_fixes wsX4_fix := goodIn_r _ [5, 6, 7, 8, 9, 10, 11, 12, 13, 14, 15, 16, 17, 18, 19, 20, 21, 22, 23, 24, 25, 26, 27, 28, 29, 30, 31, 32, 33, 34, 35, 36, 37, 38, 39, 40, 41, 42, 43, 44, 45, 46, 47, 48, 49, 50, 51, 52, 53, 54, 55, 56, 57, 58, 59] (by decide +kernel) (by decide +kernel)
set_option maxRecDepth 20000 in
theorem gL_fixes_X4_fix : GoodIn wsL_fixes (wsV RL 36 RX4 yX4_fix wsX4_fix) := goodIn_app (goodIn_of _ (by decide +kernel)) ggL_fixes_X4_fix
theorem dL_fixes_0 : decode cL_fixes 0 = .ok (.aload_n 1, 1) := by decide +kernel
theorem dL_fixes_1 : decode cL_fixes 1 = .ok (.bipush 7, 2) := by decide +kernel
theorem dL_fixes_3 : decode cL_fixes 3 = .ok (.iload_n 2, 1) := by decide +kernel
theorem dL_fixes_4 : decode cL_fixes 4 = .ok (.imul, 1) := by decide +kernel
theorem dL_fixes_5 : decode cL_fixes 5 = .ok (.bipush 6, 2) := by decide +kernel
theorem dL_fixes_7 : decode cL_fixes 7 = .ok (.iadd, 1) := by decide +kernel
theorem dL_fixes_8 : decode cL_fixes 8 = .ok (.iaload, 1) := by decide +kernel
theorem dL_fixes_9 : decode cL_fixes 9 = .ok (.istore 4, 2) := by decide +kernel
theorem dL_fixes_11 : decode cL_fixes 11 = .ok (.aload_n 1, 1) := by decide +kernel
theorem dL_fixes_12 : decode cL_fixes 12 = .ok (.bipush 7, 2) := by decide +kernel
theorem dL_fixes_14 : decode cL_fixes 14 = .ok (.iload_n 3, 1) := by decide +kernel
theorem dL_fixes_15 : decode cL_fixes 15 = .ok (.imul, 1) := by decide +kernel
theorem dL_fixes_16 : decode cL_fixes 16 = .ok (.bipush 6, 2) := by decide +kernel
theorem dL_fixes_18 : decode cL_fixes 18 = .ok (.iadd, 1) := by decide +kernel
theorem dL_fixes_19 : decode cL_fixes 19 = .ok (.iaload, 1) := by decide +kernel
theorem dL_fixes_20 : decode cL_fixes 20 = .ok (.istore 5, 2) := by decide +kernel
theorem dL_fixes_22 : decode cL_fixes 22 = .ok (.iload 4, 2) := by decide +kernel
theorem dL_fixes_24 : decode cL_fixes 24 = .ok (.iload 5, 2) := by decide +kernel
theorem dL_fixes_26 : decode cL_fixes 26 = .ok (.if_icmp .ne 20, 3) := by decide +kernel
theorem dL_fixes_29 : decode cL_fixes 29 = .ok (.aload_n 0, 1) := by decide +kernel
theorem dL_fixes_30 : decode cL_fixes 30 = .ok (.iload_n 2, 1) := by decide +kernel
theorem dL_fixes_31 : decode cL_fixes 31 = .ok (.iload_n 3, 1) := by decide +kernel
theorem dL_fixes_32 : decode cL_fixes 32 = .ok (.invokevirtual 36, 3) := by decide +kernel
theorem dL_fixes_35 : decode cL_fixes 35 = .ok (.bipush (-3), 2) := by decide +kernel
theorem dL_fixes_37 : decode cL_fixes 37 = .ok (.if_icmp .ne 7, 3) := by decide +kernel
theorem dL_fixes_40 : decode cL_fixes 40 = .ok (.iconst 1, 1) := by decide +kernel
theorem dL_fixes_41 : decode cL_fixes 41 = .ok (.goto 4, 3) := by decide +kernel
theorem dL_fixes_44 : decode cL_fixes 44 = .ok (.iconst 0, 1) := by decide +kernel
theorem dL_fixes_45 : decode cL_fixes 45 = .ok (.ireturn, 1) := by decide +kernel
theorem dL_fixes_46 : decode cL_fixes 46 = .ok (.iload 4, 2) := by decide +kernel
theorem dL_fixes_48 : decode cL_fixes 48 = .ok (.iload 5, 2) := by decide +kernel
theorem dL_fixes_50 : decode cL_fixes 50 = .ok (.if_icmp .ge 8, 3) := by decide +kernel
theorem dL_fixes_53 : decode cL_fixes 53 = .ok (.iload 4, 2) := by decide +kernel
theorem dL_fixes_55 : decode cL_fixes 55 = .ok (.goto 5, 3) := by decide +kernel
theorem dL_fixes_58 : decode cL_fixes 58 = .ok (.iload 5, 2) := by decide +kernel
theorem dL_fixes_60 : decode cL_fixes 60 = .ok (.istore 6, 2) := by decide +kernel
theorem dL_fixes_62 : decode cL_fixes 62 = .ok (.iconst 0, 1) := by decide +kernel
theorem dL_fixes_63 : decode cL_fixes 63 = .ok (.istore 7, 2) := by decide +kernel
theorem dL_fixes_65 : decode cL_fixes 65 = .ok (.iload 7, 2) := by decide +kernel
theorem dL_fixes_67 : decode cL_fixes 67 = .ok (.aload_n 1, 1) := by decide +kernel
theorem dL_fixes_68 : decode cL_fixes 68 = .ok (.bipush 21, 2) := by decide +kernel
theorem dL_fixes_70 : decode cL_fixes 70 = .ok (.iaload, 1) := by decide +kernel
theorem dL_fixes_71 : decode cL_fixes 71 = .ok (.if_icmp .ge 64, 3) := by decide +kernel
theorem dL_fixes_74 : decode cL_fixes 74 = .ok (.aload_n 1, 1) := by decide +kernel
theorem dL_fixes_75 : decode cL_fixes 75 = .ok (.bipush 7, 2) := by decide +kernel
theorem dL_fixes_77 : decode cL_fixes 77 = .ok (.iload 7, 2) := by decide +kernel
theorem dL_fixes_79 : decode cL_fixes 79 = .ok (.imul, 1) := by decide +kernel
theorem dL_fixes_80 : decode cL_fixes 80 = .ok (.bipush 6, 2) := by decide +kernel
theorem dL_fixes_82 : decode cL_fixes 82 = .ok (.iadd, 1) := by decide +kernel
theorem dL_fixes_83 : decode cL_fixes 83 = .ok (.aload_n 1, 1) := by decide +kernel
theorem dL_fixes_84 : decode cL_fixes 84 = .ok (.bipush 7, 2) := by decide +kernel
theorem dL_fixes_86 : decode cL_fixes 86 = .ok (.iload 7, 2) := by decide +kernel
theorem dL_fixes_88 : decode cL_fixes 88 = .ok (.imul, 1) := by decide +kernel
theorem dL_fixes_89 : decode cL_fixes 89 = .ok (.bipush 6, 2) := by decide +kernel
theorem dL_fixes_91 : decode cL_fixes 91 = .ok (.iadd, 1) := by decide +kernel
theorem dL_fixes_92 : decode cL_fixes 92 = .ok (.iaload, 1) := by decide +kernel
theorem dL_fixes_93 : decode cL_fixes 93 = .ok (.iload 4, 2) := by decide +kernel
theorem dL_fixes_95 : decode cL_fixes 95 = .ok (.if_icmp .eq 18, 3) := by decide +kernel
theorem dL_fixes_98 : decode cL_fixes 98 = .ok (.aload_n 1, 1) := by decide +kernel
theorem dL_fixes_99 : decode cL_fixes 99 = .ok (.bipush 7, 2) := by decide +kernel
theorem dL_fixes_101 : decode cL_fixes 101 = .ok (.iload 7, 2) := by decide +kernel
theorem dL_fixes_103 : decode cL_fixes 103 = .ok (.imul, 1) := by decide +kernel
theorem dL_fixes_104 : decode cL_fixes 104 = .ok (.bipush 6, 2) := by decide +kernel
theorem dL_fixes_106 : decode cL_fixes 106 = .ok (.iadd, 1) := by decide +kernel
theorem dL_fixes_107 : decode cL_fixes 107 = .ok (.iaload, 1) := by decide +kernel
theorem dL_fixes_108 : decode cL_fixes 108 = .ok (.iload 5, 2) := by decide +kernel
theorem dL_fixes_110 : decode cL_fixes 110 = .ok (.if_icmp .ne 8, 3) := by decide +kernel
theorem dL_fixes_113 : decode cL_fixes 113 = .ok (.iload 6, 2) := by decide +kernel
theorem dL_fixes_115 : decode cL_fixes 115 = .ok (.goto 13, 3) := by decide +kernel
theorem dL_fixes_118 : decode cL_fixes 118 = .ok (.aload_n 1, 1) := by decide +kernel
theorem dL_fixes_119 : decode cL_fixes 119 = .ok (.bipush 7, 2) := by decide +kernel
theorem dL_fixes_121 : decode cL_fixes 121 = .ok (.iload 7, 2) := by decide +kernel
theorem dL_fixes_123 : decode cL_fixes 123 = .ok (.imul, 1) := by decide +kernel
theorem dL_fixes_124 : decode cL_fixes 124 = .ok (.bipush 6, 2) := by decide +kernel
theorem dL_fixes_126 : decode cL_fixes 126 = .ok (.iadd, 1) := by decide +kernel
theorem dL_fixes_127 : decode cL_fixes 127 = .ok (.iaload, 1) := by decide +kernel
theorem dL_fixes_128 : decode cL_fixes 128 = .ok (.iastore, 1) := by decide +kernel
theorem dL_fixes_129 : decode cL_fixes 129 = .ok (.iinc 7 1, 3) := by decide +kernel
theorem dL_fixes_132 : decode cL_fixes 132 = .ok (.goto (-67), 3) := by decide +kernel
theorem dL_fixes_135 : decode cL_fixes 135 = .ok (.aload_n 0, 1) := by decide +kernel
theorem dL_fixes_136 : decode cL_fixes 136 = .ok (.iload_n 2, 1) := by decide +kernel
theorem dL_fixes_137 : decode cL_fixes 137 = .ok (.iload_n 3, 1) := by decide +kernel
theorem dL_fixes_138 : decode cL_fixes 138 = .ok (.invokevirtual 36, 3) := by decide +kernel
theorem dL_fixes_141 : decode cL_fixes 141 = .ok (.iload 6, 2) := by decide +kernel
theorem dL_fixes_143 : decode cL_fixes 143 = .ok (.if_icmp .ne 7, 3) := by decide +kernel
theorem dL_fixes_146 : decode cL_fixes 146 = .ok (.iconst 1, 1) := by decide +kernel
theorem dL_fixes_147 : decode cL_fixes 147 = .ok (.goto 4, 3) := by decide +kernel
theorem dL_fixes_150 : decode cL_fixes 150 = .ok (.iconst 0, 1) := by decide +kernel
theorem dL_fixes_151 : decode cL_fixes 151 = .ok (.ireturn, 1) := by decide +kernel
set_option maxRecDepth 20000 in
theorem ggL_loosens_X4_loosen : GoodIn wsL_loosens wsX4_loosen := goodIn_r _ [5, 6, 7, 8, 9, 10, 11, 12, 13, 14, 15, 16, 17, 18, 19, 20, 21, 22, 23, 24, 25, 26, 27, 28, 29, 30, 31, 32, 33, 34, 35, 36, 37, 38, 39, 40, 41, 42, 43, 44, 45, 46, 47, 48, 49, 50, 51, 52, 53, 54, 55, 56, 57, 58, 59, 60, 61, 62, 63, 64, 65, 66] (by decide +kernel) (by decide +kernel)
set_option maxRecDepth 20000 in
theorem gL_loosens_X4_loosen : GoodIn wsL_loosens (wsV RL 39 RX4 yX4_loosen wsX4_loosen) := goodIn_app (goodIn_of _ (by decide +kernel)) ggL_loosens_X4_loosen
theorem dL_loosens_0 : decode cL_loosens 0 = .ok (.aload_n 1, 1) := by decide +kernel
theorem dL_loosens_1 : decode cL_loosens 1 = .ok (.bipush 7, 2) := by decide +kernel
theorem dL_loosens_3 : decode cL_loosens 3 = .ok (.iload_n 2, 1) := by decide +kernel
theorem dL_loosens_4 : decode cL_loosens 4 = .ok (.imul, 1) := by decide +kernel
theorem dL_loosens_5 : decode cL_loosens 5 = .ok (.bipush 6, 2) := by decide +kernel
theorem dL_loosens_7 : decode cL_loosens 7 = .ok (.iadd, 1) := by decide +kernel
theorem dL_loosens_8 : decode cL_loosens 8 = .ok (.iaload, 1) := by decide +kernel
theorem dL_loosens_9 : decode cL_loosens 9 = .ok (.istore_n 3, 1) := by decide +kernel
theorem dL_loosens_10 : decode cL_loosens 10 = .ok (.iconst 0, 1) := by decide +kernel
theorem dL_loosens_11 : decode cL_loosens 11 = .ok (.istore 4, 2) := by decide +kernel
theorem dL_loosens_13 : decode cL_loosens 13 = .ok (.iconst 0, 1) := by decide +kernel
theorem dL_loosens_14 : decode cL_loosens 14 = .ok (.istore 5, 2) := by decide +kernel
theorem dL_loosens_16 : decode cL_loosens 16 = .ok (.iconst 0, 1) := by decide +kernel
theorem dL_loosens_17 : decode cL_loosens 17 = .ok (.istore 6, 2) := by decide +kernel
theorem dL_loosens_19 : decode cL_loosens 19 = .ok (.iload 6, 2) := by decide +kernel
theorem dL_loosens_21 : decode cL_loosens 21 = .ok (.aload_n 1, 1) := by decide +kernel
theorem dL_loosens_22 : decode cL_loosens 22 = .ok (.bipush 21, 2) := by decide +kernel
theorem dL_loosens_24 : decode cL_loosens 24 = .ok (.iaload, 1) := by decide +kernel
theorem dL_loosens_25 : decode cL_loosens 25 = .ok (.if_icmp .ge 33, 3) := by decide +kernel
theorem dL_loosens_28 : decode cL_loosens 28 = .ok (.iload 4, 2) := by decide +kernel
theorem dL_loosens_30 : decode cL_loosens 30 = .ok (.aload_n 1, 1) := by decide +kernel
theorem dL_loosens_31 : decode cL_loosens 31 = .ok (.bipush 7, 2) := by decide +kernel
theorem dL_loosens_33 : decode cL_loosens 33 = .ok (.iload 6, 2) := by decide +kernel
theorem dL_loosens_35 : decode cL_loosens 35 = .ok (.imul, 1) := by decide +kernel
theorem dL_loosens_36 : decode cL_loosens 36 = .ok (.bipush 6, 2) := by decide +kernel
theorem dL_loosens_38 : decode cL_loosens 38 = .ok (.iadd, 1) := by decide +kernel
theorem dL_loosens_39 : decode cL_loosens 39 = .ok (.iaload, 1) := by decide +kernel
theorem dL_loosens_40 : decode cL_loosens 40 = .ok (.iload_n 3, 1) := by decide +kernel
theorem dL_loosens_41 : decode cL_loosens 41 = .ok (.if_icmp .ne 7, 3) := by decide +kernel
theorem dL_loosens_44 : decode cL_loosens 44 = .ok (.iconst 1, 1) := by decide +kernel
theorem dL_loosens_45 : decode cL_loosens 45 = .ok (.goto 4, 3) := by decide +kernel
theorem dL_loosens_48 : decode cL_loosens 48 = .ok (.iconst 0, 1) := by decide +kernel
theorem dL_loosens_49 : decode cL_loosens 49 = .ok (.iadd, 1) := by decide +kernel
theorem dL_loosens_50 : decode cL_loosens 50 = .ok (.istore 4, 2) := by decide +kernel
theorem dL_loosens_52 : decode cL_loosens 52 = .ok (.iinc 6 1, 3) := by decide +kernel
theorem dL_loosens_55 : decode cL_loosens 55 = .ok (.goto (-36), 3) := by decide +kernel
theorem dL_loosens_58 : decode cL_loosens 58 = .ok (.iload 4, 2) := by decide +kernel
theorem dL_loosens_60 : decode cL_loosens 60 = .ok (.iconst 1, 1) := by decide +kernel
theorem dL_loosens_61 : decode cL_loosens 61 = .ok (.if_icmp .ne 19, 3) := by decide +kernel
theorem dL_loosens_64 : decode cL_loosens 64 = .ok (.aload_n 0, 1) := by decide +kernel
theorem dL_loosens_65 : decode cL_loosens 65 = .ok (.iload_n 2, 1) := by decide +kernel
theorem dL_loosens_66 : decode cL_loosens 66 = .ok (.invokevirtual 39, 3) := by decide +kernel
theorem dL_loosens_69 : decode cL_loosens 69 = .ok (.bipush (-3), 2) := by decide +kernel
theorem dL_loosens_71 : decode cL_loosens 71 = .ok (.if_icmp .ne 7, 3) := by decide +kernel
theorem dL_loosens_74 : decode cL_loosens 74 = .ok (.iconst 1, 1) := by decide +kernel
theorem dL_loosens_75 : decode cL_loosens 75 = .ok (.goto 4, 3) := by decide +kernel
theorem dL_loosens_78 : decode cL_loosens 78 = .ok (.iconst 0, 1) := by decide +kernel
theorem dL_loosens_79 : decode cL_loosens 79 = .ok (.ireturn, 1) := by decide +kernel
theorem dL_loosens_80 : decode cL_loosens 80 = .ok (.iconst 0, 1) := by decide +kernel
theorem dL_loosens_81 : decode cL_loosens 81 = .ok (.istore 6, 2) := by decide +kernel
theorem dL_loosens_83 : decode cL_loosens 83 = .ok (.iload 6, 2) := by decide +kernel
theorem dL_loosens_85 : decode cL_loosens 85 = .ok (.aload_n 1, 1) := by decide +kernel
theorem dL_loosens_86 : decode cL_loosens 86 = .ok (.bipush 21, 2) := by decide +kernel
theorem dL_loosens_88 : decode cL_loosens 88 = .ok (.iaload, 1) := by decide +kernel
theorem dL_loosens_89 : decode cL_loosens 89 = .ok (.if_icmp .ge 73, 3) := by decide +kernel
theorem dL_loosens_92 : decode cL_loosens 92 = .ok (.aload_n 1, 1) := by decide +kernel
theorem dL_loosens_93 : decode cL_loosens 93 = .ok (.bipush 7, 2) := by decide +kernel
theorem dL_loosens_95 : decode cL_loosens 95 = .ok (.iload 6, 2) := by decide +kernel
theorem dL_loosens_97 : decode cL_loosens 97 = .ok (.imul, 1) := by decide +kernel
theorem dL_loosens_98 : decode cL_loosens 98 = .ok (.bipush 6, 2) := by decide +kernel
theorem dL_loosens_100 : decode cL_loosens 100 = .ok (.iadd, 1) := by decide +kernel
theorem dL_loosens_101 : decode cL_loosens 101 = .ok (.aload_n 1, 1) := by decide +kernel
theorem dL_loosens_102 : decode cL_loosens 102 = .ok (.bipush 7, 2) := by decide +kernel
theorem dL_loosens_104 : decode cL_loosens 104 = .ok (.iload 6, 2) := by decide +kernel
theorem dL_loosens_106 : decode cL_loosens 106 = .ok (.imul, 1) := by decide +kernel
theorem dL_loosens_107 : decode cL_loosens 107 = .ok (.bipush 6, 2) := by decide +kernel
theorem dL_loosens_109 : decode cL_loosens 109 = .ok (.iadd, 1) := by decide +kernel
theorem dL_loosens_110 : decode cL_loosens 110 = .ok (.iaload, 1) := by decide +kernel
theorem dL_loosens_111 : decode cL_loosens 111 = .ok (.iload_n 3, 1) := by decide +kernel
theorem dL_loosens_112 : decode cL_loosens 112 = .ok (.if_icmp .ne 8, 3) := by decide +kernel
theorem dL_loosens_115 : decode cL_loosens 115 = .ok (.iload 6, 2) := by decide +kernel
theorem dL_loosens_117 : decode cL_loosens 117 = .ok (.goto 13, 3) := by decide +kernel
theorem dL_loosens_120 : decode cL_loosens 120 = .ok (.aload_n 1, 1) := by decide +kernel
theorem dL_loosens_121 : decode cL_loosens 121 = .ok (.bipush 7, 2) := by decide +kernel
theorem dL_loosens_123 : decode cL_loosens 123 = .ok (.iload 6, 2) := by decide +kernel
theorem dL_loosens_125 : decode cL_loosens 125 = .ok (.imul, 1) := by decide +kernel
theorem dL_loosens_126 : decode cL_loosens 126 = .ok (.bipush 6, 2) := by decide +kernel
theorem dL_loosens_128 : decode cL_loosens 128 = .ok (.iadd, 1) := by decide +kernel
theorem dL_loosens_129 : decode cL_loosens 129 = .ok (.iaload, 1) := by decide +kernel
theorem dL_loosens_130 : decode cL_loosens 130 = .ok (.iastore, 1) := by decide +kernel
theorem dL_loosens_131 : decode cL_loosens 131 = .ok (.iload 5, 2) := by decide +kernel
theorem dL_loosens_133 : decode cL_loosens 133 = .ok (.aload_n 1, 1) := by decide +kernel
theorem dL_loosens_134 : decode cL_loosens 134 = .ok (.bipush 7, 2) := by decide +kernel
theorem dL_loosens_136 : decode cL_loosens 136 = .ok (.iload 6, 2) := by decide +kernel
theorem dL_loosens_138 : decode cL_loosens 138 = .ok (.imul, 1) := by decide +kernel
theorem dL_loosens_139 : decode cL_loosens 139 = .ok (.bipush 6, 2) := by decide +kernel
theorem dL_loosens_141 : decode cL_loosens 141 = .ok (.iadd, 1) := by decide +kernel
theorem dL_loosens_142 : decode cL_loosens 142 = .ok (.iaload, 1) := by decide +kernel
theorem dL_loosens_143 : decode cL_loosens 143 = .ok (.iload 6, 2) := by decide +kernel
theorem dL_loosens_145 : decode cL_loosens 145 = .ok (.if_icmp .ne 7, 3) := by decide +kernel
theorem dL_loosens_148 : decode cL_loosens 148 = .ok (.iconst 1, 1) := by decide +kernel
theorem dL_loosens_149 : decode cL_loosens 149 = .ok (.goto 4, 3) := by decide +kernel
theorem dL_loosens_152 : decode cL_loosens 152 = .ok (.iconst 0, 1) := by decide +kernel
theorem dL_loosens_153 : decode cL_loosens 153 = .ok (.iadd, 1) := by decide +kernel
theorem dL_loosens_154 : decode cL_loosens 154 = .ok (.istore 5, 2) := by decide +kernel
theorem dL_loosens_156 : decode cL_loosens 156 = .ok (.iinc 6 1, 3) := by decide +kernel
theorem dL_loosens_159 : decode cL_loosens 159 = .ok (.goto (-76), 3) := by decide +kernel
theorem dL_loosens_162 : decode cL_loosens 162 = .ok (.aload_n 0, 1) := by decide +kernel
theorem dL_loosens_163 : decode cL_loosens 163 = .ok (.iload_n 2, 1) := by decide +kernel
theorem dL_loosens_164 : decode cL_loosens 164 = .ok (.invokevirtual 39, 3) := by decide +kernel
theorem dL_loosens_167 : decode cL_loosens 167 = .ok (.iload 5, 2) := by decide +kernel
theorem dL_loosens_169 : decode cL_loosens 169 = .ok (.if_icmp .ne 7, 3) := by decide +kernel
theorem dL_loosens_172 : decode cL_loosens 172 = .ok (.iconst 1, 1) := by decide +kernel
theorem dL_loosens_173 : decode cL_loosens 173 = .ok (.goto 4, 3) := by decide +kernel
theorem dL_loosens_176 : decode cL_loosens 176 = .ok (.iconst 0, 1) := by decide +kernel
theorem dL_loosens_177 : decode cL_loosens 177 = .ok (.ireturn, 1) := by decide +kernel
set_option maxRecDepth 20000 in
theorem ggL_setsAmount_X4_setAmount : GoodIn wsL_setsAmount wsX4_setAmount := goodIn_r _ [5, 6, 7, 8, 9, 10, 11, 12, 13, 14, 15, 16, 17, 18, 19, 20, 21, 22, 23, 24, 25, 26, 27, 28, 29, 30, 31, 32, 33, 34, 35, 36, 37, 38, 39, 40, 41, 42, 43, 44, 45, 46, 47, 48, 49, 50, 51, 52, 53, 54, 55, 56, 57, 58, 59, 60, 61] (by decide +kernel) (by decide +kernel)
set_option maxRecDepth 20000 in
theorem gL_setsAmount_X4_setAmount : GoodIn wsL_setsAmount (wsV RL 42 RX4 yX4_setAmount wsX4_setAmount) := goodIn_app (goodIn_of _ (by decide +kernel)) ggL_setsAmount_X4_setAmount
theorem dL_setsAmount_0 : decode cL_setsAmount 0 = .ok (.aload_n 1, 1) := by decide +kernel
theorem dL_setsAmount_1 : decode cL_setsAmount 1 = .ok (.bipush 7, 2) := by decide +kernel
theorem dL_setsAmount_3 : decode cL_setsAmount 3 = .ok (.iload_n 2, 1) := by decide +kernel
theorem dL_setsAmount_4 : decode cL_setsAmount 4 = .ok (.imul, 1) := by decide +kernel
theorem dL_setsAmount_5 : decode cL_setsAmount 5 = .ok (.iaload, 1) := by decide +kernel
theorem dL_setsAmount_6 : decode cL_setsAmount 6 = .ok (.istore 4, 2) := by decide +kernel
theorem dL_setsAmount_8 : decode cL_setsAmount 8 = .ok (.aload_n 1, 1) := by decide +kernel
theorem dL_setsAmount_9 : decode cL_setsAmount 9 = .ok (.bipush 7, 2) := by decide +kernel
theorem dL_setsAmount_11 : decode cL_setsAmount 11 = .ok (.iload_n 2, 1) := by decide +kernel
theorem dL_setsAmount_12 : decode cL_setsAmount 12 = .ok (.imul, 1) := by decide +kernel
theorem dL_setsAmount_13 : decode cL_setsAmount 13 = .ok (.iload_n 3, 1) := by decide +kernel
theorem dL_setsAmount_14 : decode cL_setsAmount 14 = .ok (.iastore, 1) := by decide +kernel
theorem dL_setsAmount_15 : decode cL_setsAmount 15 = .ok (.aload_n 1, 1) := by decide +kernel
theorem dL_setsAmount_16 : decode cL_setsAmount 16 = .ok (.bipush 7, 2) := by decide +kernel
theorem dL_setsAmount_18 : decode cL_setsAmount 18 = .ok (.iload_n 2, 1) := by decide +kernel
theorem dL_setsAmount_19 : decode cL_setsAmount 19 = .ok (.imul, 1) := by decide +kernel
theorem dL_setsAmount_20 : decode cL_setsAmount 20 = .ok (.iconst 1, 1) := by decide +kernel
theorem dL_setsAmount_21 : decode cL_setsAmount 21 = .ok (.iadd, 1) := by decide +kernel
theorem dL_setsAmount_22 : decode cL_setsAmount 22 = .ok (.iconst 0, 1) := by decide +kernel
theorem dL_setsAmount_23 : decode cL_setsAmount 23 = .ok (.iastore, 1) := by decide +kernel
theorem dL_setsAmount_24 : decode cL_setsAmount 24 = .ok (.aload_n 1, 1) := by decide +kernel
theorem dL_setsAmount_25 : decode cL_setsAmount 25 = .ok (.bipush 7, 2) := by decide +kernel
theorem dL_setsAmount_27 : decode cL_setsAmount 27 = .ok (.iload_n 2, 1) := by decide +kernel
theorem dL_setsAmount_28 : decode cL_setsAmount 28 = .ok (.imul, 1) := by decide +kernel
theorem dL_setsAmount_29 : decode cL_setsAmount 29 = .ok (.iconst 4, 1) := by decide +kernel
theorem dL_setsAmount_30 : decode cL_setsAmount 30 = .ok (.iadd, 1) := by decide +kernel
theorem dL_setsAmount_31 : decode cL_setsAmount 31 = .ok (.iconst 0, 1) := by decide +kernel
theorem dL_setsAmount_32 : decode cL_setsAmount 32 = .ok (.iastore, 1) := by decide +kernel
theorem dL_setsAmount_33 : decode cL_setsAmount 33 = .ok (.aload_n 1, 1) := by decide +kernel
theorem dL_setsAmount_34 : decode cL_setsAmount 34 = .ok (.bipush 7, 2) := by decide +kernel
theorem dL_setsAmount_36 : decode cL_setsAmount 36 = .ok (.iload_n 2, 1) := by decide +kernel
theorem dL_setsAmount_37 : decode cL_setsAmount 37 = .ok (.imul, 1) := by decide +kernel
theorem dL_setsAmount_38 : decode cL_setsAmount 38 = .ok (.iconst 5, 1) := by decide +kernel
theorem dL_setsAmount_39 : decode cL_setsAmount 39 = .ok (.iadd, 1) := by decide +kernel
theorem dL_setsAmount_40 : decode cL_setsAmount 40 = .ok (.iconst 0, 1) := by decide +kernel
theorem dL_setsAmount_41 : decode cL_setsAmount 41 = .ok (.iastore, 1) := by decide +kernel
theorem dL_setsAmount_42 : decode cL_setsAmount 42 = .ok (.aload_n 0, 1) := by decide +kernel
theorem dL_setsAmount_43 : decode cL_setsAmount 43 = .ok (.iload_n 2, 1) := by decide +kernel
theorem dL_setsAmount_44 : decode cL_setsAmount 44 = .ok (.iload_n 3, 1) := by decide +kernel
theorem dL_setsAmount_45 : decode cL_setsAmount 45 = .ok (.invokevirtual 42, 3) := by decide +kernel
theorem dL_setsAmount_48 : decode cL_setsAmount 48 = .ok (.iload 4, 2) := by decide +kernel
theorem dL_setsAmount_50 : decode cL_setsAmount 50 = .ok (.if_icmp .ne 19, 3) := by decide +kernel
theorem dL_setsAmount_53 : decode cL_setsAmount 53 = .ok (.aload_n 0, 1) := by decide +kernel
theorem dL_setsAmount_54 : decode cL_setsAmount 54 = .ok (.iload_n 2, 1) := by decide +kernel
theorem dL_setsAmount_55 : decode cL_setsAmount 55 = .ok (.bipush 13, 2) := by decide +kernel
theorem dL_setsAmount_57 : decode cL_setsAmount 57 = .ok (.invokevirtual 42, 3) := by decide +kernel
theorem dL_setsAmount_60 : decode cL_setsAmount 60 = .ok (.bipush (-2), 2) := by decide +kernel
theorem dL_setsAmount_62 : decode cL_setsAmount 62 = .ok (.if_icmp .ne 7, 3) := by decide +kernel
theorem dL_setsAmount_65 : decode cL_setsAmount 65 = .ok (.iconst 1, 1) := by decide +kernel
theorem dL_setsAmount_66 : decode cL_setsAmount 66 = .ok (.goto 4, 3) := by decide +kernel
theorem dL_setsAmount_69 : decode cL_setsAmount 69 = .ok (.iconst 0, 1) := by decide +kernel
theorem dL_setsAmount_70 : decode cL_setsAmount 70 = .ok (.ireturn, 1) := by decide +kernel
set_option maxRecDepth 20000 in
theorem ggL_setsKind_X4_setKind : GoodIn wsL_setsKind wsX4_setKind := goodIn_r _ [5, 6, 7, 8, 9, 10, 11, 12, 13, 14, 15, 16, 17, 18, 19, 20, 21, 22, 23, 24, 25, 26, 27, 28, 29, 30, 31, 32, 33, 34, 35, 36, 37, 38, 39, 40, 41, 42, 43, 44, 45, 46, 47, 48, 49, 50, 51, 52, 53, 54, 55, 56, 57, 58, 59, 60, 61] (by decide +kernel) (by decide +kernel)
set_option maxRecDepth 20000 in
theorem gL_setsKind_X4_setKind : GoodIn wsL_setsKind (wsV RL 45 RX4 yX4_setKind wsX4_setKind) := goodIn_app (goodIn_of _ (by decide +kernel)) ggL_setsKind_X4_setKind
theorem dL_setsKind_0 : decode cL_setsKind 0 = .ok (.aload_n 1, 1) := by decide +kernel
theorem dL_setsKind_1 : decode cL_setsKind 1 = .ok (.bipush 7, 2) := by decide +kernel
theorem dL_setsKind_3 : decode cL_setsKind 3 = .ok (.iload_n 2, 1) := by decide +kernel
theorem dL_setsKind_4 : decode cL_setsKind 4 = .ok (.imul, 1) := by decide +kernel
theorem dL_setsKind_5 : decode cL_setsKind 5 = .ok (.iconst 2, 1) := by decide +kernel
theorem dL_setsKind_6 : decode cL_setsKind 6 = .ok (.iadd, 1) := by decide +kernel
theorem dL_setsKind_7 : decode cL_setsKind 7 = .ok (.iaload, 1) := by decide +kernel
theorem dL_setsKind_8 : decode cL_setsKind 8 = .ok (.istore 5, 2) := by decide +kernel
theorem dL_setsKind_10 : decode cL_setsKind 10 = .ok (.aload_n 1, 1) := by decide +kernel
theorem dL_setsKind_11 : decode cL_setsKind 11 = .ok (.bipush 7, 2) := by decide +kernel
theorem dL_setsKind_13 : decode cL_setsKind 13 = .ok (.iload_n 2, 1) := by decide +kernel
theorem dL_setsKind_14 : decode cL_setsKind 14 = .ok (.imul, 1) := by decide +kernel
theorem dL_setsKind_15 : decode cL_setsKind 15 = .ok (.iconst 2, 1) := by decide +kernel
theorem dL_setsKind_16 : decode cL_setsKind 16 = .ok (.iadd, 1) := by decide +kernel
theorem dL_setsKind_17 : decode cL_setsKind 17 = .ok (.iload_n 3, 1) := by decide +kernel
theorem dL_setsKind_18 : decode cL_setsKind 18 = .ok (.iastore, 1) := by decide +kernel
theorem dL_setsKind_19 : decode cL_setsKind 19 = .ok (.aload_n 1, 1) := by decide +kernel
theorem dL_setsKind_20 : decode cL_setsKind 20 = .ok (.bipush 7, 2) := by decide +kernel
theorem dL_setsKind_22 : decode cL_setsKind 22 = .ok (.iload_n 2, 1) := by decide +kernel
theorem dL_setsKind_23 : decode cL_setsKind 23 = .ok (.imul, 1) := by decide +kernel
theorem dL_setsKind_24 : decode cL_setsKind 24 = .ok (.iconst 3, 1) := by decide +kernel
theorem dL_setsKind_25 : decode cL_setsKind 25 = .ok (.iadd, 1) := by decide +kernel
theorem dL_setsKind_26 : decode cL_setsKind 26 = .ok (.iload 4, 2) := by decide +kernel
theorem dL_setsKind_28 : decode cL_setsKind 28 = .ok (.iastore, 1) := by decide +kernel
theorem dL_setsKind_29 : decode cL_setsKind 29 = .ok (.aload_n 1, 1) := by decide +kernel
theorem dL_setsKind_30 : decode cL_setsKind 30 = .ok (.bipush 7, 2) := by decide +kernel
theorem dL_setsKind_32 : decode cL_setsKind 32 = .ok (.iload_n 2, 1) := by decide +kernel
theorem dL_setsKind_33 : decode cL_setsKind 33 = .ok (.imul, 1) := by decide +kernel
theorem dL_setsKind_34 : decode cL_setsKind 34 = .ok (.iconst 4, 1) := by decide +kernel
theorem dL_setsKind_35 : decode cL_setsKind 35 = .ok (.iadd, 1) := by decide +kernel
theorem dL_setsKind_36 : decode cL_setsKind 36 = .ok (.iconst 0, 1) := by decide +kernel
theorem dL_setsKind_37 : decode cL_setsKind 37 = .ok (.iastore, 1) := by decide +kernel
theorem dL_setsKind_38 : decode cL_setsKind 38 = .ok (.aload_n 1, 1) := by decide +kernel
theorem dL_setsKind_39 : decode cL_setsKind 39 = .ok (.bipush 7, 2) := by decide +kernel
theorem dL_setsKind_41 : decode cL_setsKind 41 = .ok (.iload_n 2, 1) := by decide +kernel
theorem dL_setsKind_42 : decode cL_setsKind 42 = .ok (.imul, 1) := by decide +kernel
theorem dL_setsKind_43 : decode cL_setsKind 43 = .ok (.iconst 5, 1) := by decide +kernel
theorem dL_setsKind_44 : decode cL_setsKind 44 = .ok (.iadd, 1) := by decide +kernel
theorem dL_setsKind_45 : decode cL_setsKind 45 = .ok (.iconst 0, 1) := by decide +kernel
theorem dL_setsKind_46 : decode cL_setsKind 46 = .ok (.iastore, 1) := by decide +kernel
theorem dL_setsKind_47 : decode cL_setsKind 47 = .ok (.aload_n 0, 1) := by decide +kernel
theorem dL_setsKind_48 : decode cL_setsKind 48 = .ok (.iload_n 2, 1) := by decide +kernel
theorem dL_setsKind_49 : decode cL_setsKind 49 = .ok (.iload_n 3, 1) := by decide +kernel
theorem dL_setsKind_50 : decode cL_setsKind 50 = .ok (.iload 4, 2) := by decide +kernel
theorem dL_setsKind_52 : decode cL_setsKind 52 = .ok (.invokevirtual 45, 3) := by decide +kernel
theorem dL_setsKind_55 : decode cL_setsKind 55 = .ok (.iload 5, 2) := by decide +kernel
theorem dL_setsKind_57 : decode cL_setsKind 57 = .ok (.if_icmp .ne 32, 3) := by decide +kernel
theorem dL_setsKind_60 : decode cL_setsKind 60 = .ok (.aload_n 0, 1) := by decide +kernel
theorem dL_setsKind_61 : decode cL_setsKind 61 = .ok (.iload_n 2, 1) := by decide +kernel
theorem dL_setsKind_62 : decode cL_setsKind 62 = .ok (.iconst 3, 1) := by decide +kernel
theorem dL_setsKind_63 : decode cL_setsKind 63 = .ok (.iconst 1, 1) := by decide +kernel
theorem dL_setsKind_64 : decode cL_setsKind 64 = .ok (.invokevirtual 45, 3) := by decide +kernel
theorem dL_setsKind_67 : decode cL_setsKind 67 = .ok (.bipush (-2), 2) := by decide +kernel
theorem dL_setsKind_69 : decode cL_setsKind 69 = .ok (.if_icmp .ne 20, 3) := by decide +kernel
theorem dL_setsKind_72 : decode cL_setsKind 72 = .ok (.aload_n 0, 1) := by decide +kernel
theorem dL_setsKind_73 : decode cL_setsKind 73 = .ok (.iload_n 2, 1) := by decide +kernel
theorem dL_setsKind_74 : decode cL_setsKind 74 = .ok (.iconst 0, 1) := by decide +kernel
theorem dL_setsKind_75 : decode cL_setsKind 75 = .ok (.bipush 10, 2) := by decide +kernel
theorem dL_setsKind_77 : decode cL_setsKind 77 = .ok (.invokevirtual 45, 3) := by decide +kernel
theorem dL_setsKind_80 : decode cL_setsKind 80 = .ok (.bipush (-2), 2) := by decide +kernel
theorem dL_setsKind_82 : decode cL_setsKind 82 = .ok (.if_icmp .ne 7, 3) := by decide +kernel
theorem dL_setsKind_85 : decode cL_setsKind 85 = .ok (.iconst 1, 1) := by decide +kernel
theorem dL_setsKind_86 : decode cL_setsKind 86 = .ok (.goto 4, 3) := by decide +kernel
theorem dL_setsKind_89 : decode cL_setsKind 89 = .ok (.iconst 0, 1) := by decide +kernel
theorem dL_setsKind_90 : decode cL_setsKind 90 = .ok (.ireturn, 1) := by decide +kernel
set_option maxRecDepth 20000 in
theorem ggL_setsGlasses_X4_setGlasses : GoodIn wsL_setsGlasses wsX4_setGlasses := goodIn_r _ [5, 6, 7, 8, 9, 10, 11, 12, 13, 14, 15, 16, 17, 18, 19, 20, 21, 22, 23, 24, 25, 26, 27, 28, 29, 30, 31, 32, 33, 34, 35, 36, 37, 38, 39, 40, 41, 42, 43, 44, 45, 46, 47, 48, 49, 50, 51, 52, 53, 54, 55, 56, 57, 58, 59, 60, 61, 62, 63, 64, 65] (by decide +kernel) (by decide +kernel)
set_option maxRecDepth 20000 in
theorem gL_setsGlasses_X4_setGlasses : GoodIn wsL_setsGlasses (wsV RL 49 RX4 yX4_setGlasses wsX4_setGlasses) := goodIn_app (goodIn_of _ (by decide +kernel)) ggL_setsGlasses_X4_setGlasses
theorem dL_setsGlasses_0 : decode cL_setsGlasses 0 = .ok (.aload_n 1, 1) := by decide +kernel
theorem dL_setsGlasses_1 : decode cL_setsGlasses 1 = .ok (.bipush 21, 2) := by decide +kernel
theorem dL_setsGlasses_3 : decode cL_setsGlasses 3 = .ok (.iaload, 1) := by decide +kernel
theorem dL_setsGlasses_4 : decode cL_setsGlasses 4 = .ok (.istore_n 3, 1) := by decide +kernel
theorem dL_setsGlasses_5 : decode cL_setsGlasses 5 = .ok (.iconst 0, 1) := by decide +kernel
theorem dL_setsGlasses_6 : decode cL_setsGlasses 6 = .ok (.istore 4, 2) := by decide +kernel
theorem dL_setsGlasses_8 : decode cL_setsGlasses 8 = .ok (.iload 4, 2) := by decide +kernel
theorem dL_setsGlasses_10 : decode cL_setsGlasses 10 = .ok (.iconst 3, 1) := by decide +kernel
theorem dL_setsGlasses_11 : decode cL_setsGlasses 11 = .ok (.if_icmp .ge 87, 3) := by decide +kernel
theorem dL_setsGlasses_14 : decode cL_setsGlasses 14 = .ok (.iload 4, 2) := by decide +kernel
theorem dL_setsGlasses_16 : decode cL_setsGlasses 16 = .ok (.iload_n 3, 1) := by decide +kernel
theorem dL_setsGlasses_17 : decode cL_setsGlasses 17 = .ok (.if_icmp .ge 13, 3) := by decide +kernel
theorem dL_setsGlasses_20 : decode cL_setsGlasses 20 = .ok (.aload_n 1, 1) := by decide +kernel
theorem dL_setsGlasses_21 : decode cL_setsGlasses 21 = .ok (.bipush 7, 2) := by decide +kernel
theorem dL_setsGlasses_23 : decode cL_setsGlasses 23 = .ok (.iload 4, 2) := by decide +kernel
theorem dL_setsGlasses_25 : decode cL_setsGlasses 25 = .ok (.imul, 1) := by decide +kernel
theorem dL_setsGlasses_26 : decode cL_setsGlasses 26 = .ok (.iaload, 1) := by decide +kernel
theorem dL_setsGlasses_27 : decode cL_setsGlasses 27 = .ok (.goto 4, 3) := by decide +kernel
theorem dL_setsGlasses_30 : decode cL_setsGlasses 30 = .ok (.iconst 5, 1) := by decide +kernel
theorem dL_setsGlasses_31 : decode cL_setsGlasses 31 = .ok (.istore 5, 2) := by decide +kernel
theorem dL_setsGlasses_33 : decode cL_setsGlasses 33 = .ok (.iconst 0, 1) := by decide +kernel
theorem dL_setsGlasses_34 : decode cL_setsGlasses 34 = .ok (.istore 6, 2) := by decide +kernel
theorem dL_setsGlasses_36 : decode cL_setsGlasses 36 = .ok (.iload 6, 2) := by decide +kernel
theorem dL_setsGlasses_38 : decode cL_setsGlasses 38 = .ok (.bipush 7, 2) := by decide +kernel
theorem dL_setsGlasses_40 : decode cL_setsGlasses 40 = .ok (.if_icmp .ge 52, 3) := by decide +kernel
theorem dL_setsGlasses_43 : decode cL_setsGlasses 43 = .ok (.aload_n 1, 1) := by decide +kernel
theorem dL_setsGlasses_44 : decode cL_setsGlasses 44 = .ok (.bipush 7, 2) := by decide +kernel
theorem dL_setsGlasses_46 : decode cL_setsGlasses 46 = .ok (.iload 4, 2) := by decide +kernel
theorem dL_setsGlasses_48 : decode cL_setsGlasses 48 = .ok (.imul, 1) := by decide +kernel
theorem dL_setsGlasses_49 : decode cL_setsGlasses 49 = .ok (.iload 6, 2) := by decide +kernel
theorem dL_setsGlasses_51 : decode cL_setsGlasses 51 = .ok (.iadd, 1) := by decide +kernel
theorem dL_setsGlasses_52 : decode cL_setsGlasses 52 = .ok (.iload 6, 2) := by decide +kernel
theorem dL_setsGlasses_54 : decode cL_setsGlasses 54 = .ok (.ifCond .ne 8, 3) := by decide +kernel
theorem dL_setsGlasses_57 : decode cL_setsGlasses 57 = .ok (.iload 5, 2) := by decide +kernel
theorem dL_setsGlasses_59 : decode cL_setsGlasses 59 = .ok (.goto 26, 3) := by decide +kernel
theorem dL_setsGlasses_62 : decode cL_setsGlasses 62 = .ok (.iload 6, 2) := by decide +kernel
theorem dL_setsGlasses_64 : decode cL_setsGlasses 64 = .ok (.iconst 3, 1) := by decide +kernel
theorem dL_setsGlasses_65 : decode cL_setsGlasses 65 = .ok (.if_icmp .ne 7, 3) := by decide +kernel
theorem dL_setsGlasses_68 : decode cL_setsGlasses 68 = .ok (.iconst 3, 1) := by decide +kernel
theorem dL_setsGlasses_69 : decode cL_setsGlasses 69 = .ok (.goto 16, 3) := by decide +kernel
theorem dL_setsGlasses_72 : decode cL_setsGlasses 72 = .ok (.iload 6, 2) := by decide +kernel
theorem dL_setsGlasses_74 : decode cL_setsGlasses 74 = .ok (.bipush 6, 2) := by decide +kernel
theorem dL_setsGlasses_76 : decode cL_setsGlasses 76 = .ok (.if_icmp .ne 8, 3) := by decide +kernel
theorem dL_setsGlasses_79 : decode cL_setsGlasses 79 = .ok (.iload 4, 2) := by decide +kernel
theorem dL_setsGlasses_81 : decode cL_setsGlasses 81 = .ok (.goto 4, 3) := by decide +kernel
theorem dL_setsGlasses_84 : decode cL_setsGlasses 84 = .ok (.iconst 0, 1) := by decide +kernel
theorem dL_setsGlasses_85 : decode cL_setsGlasses 85 = .ok (.iastore, 1) := by decide +kernel
theorem dL_setsGlasses_86 : decode cL_setsGlasses 86 = .ok (.iinc 6 1, 3) := by decide +kernel
theorem dL_setsGlasses_89 : decode cL_setsGlasses 89 = .ok (.goto (-53), 3) := by decide +kernel
theorem dL_setsGlasses_92 : decode cL_setsGlasses 92 = .ok (.iinc 4 1, 3) := by decide +kernel
theorem dL_setsGlasses_95 : decode cL_setsGlasses 95 = .ok (.goto (-87), 3) := by decide +kernel
theorem dL_setsGlasses_98 : decode cL_setsGlasses 98 = .ok (.aload_n 1, 1) := by decide +kernel
theorem dL_setsGlasses_99 : decode cL_setsGlasses 99 = .ok (.bipush 21, 2) := by decide +kernel
