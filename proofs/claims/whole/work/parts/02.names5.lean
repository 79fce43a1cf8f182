theorem dX4_turn_37 : decode cX4_turn 37 = .ok (.iload_n 1, 1) := by decide +kernel
theorem dX4_turn_38 : decode cX4_turn 38 = .ok (.iconst 1, 1) := by decide +kernel
theorem dX4_turn_39 : decode cX4_turn 39 = .ok (.invokevirtual 59, 3) := by decide +kernel
theorem dX4_turn_42 : decode cX4_turn 42 = .ok (.ireturn, 1) := by decide +kernel
set_option maxRecDepth 20000 in
theorem ggX4_tap_X0_has : GoodIn wsX4_tap wsX0_has := goodIn_r _ [7, 8, 9, 10, 6, 11, 12, 53] (by decide +kernel) (by decide +kernel)
set_option maxRecDepth 20000 in
theorem gX4_tap_X0_has : GoodIn wsX4_tap (wsV RX4 56 RX0 yX0_has wsX0_has) := goodIn_app (goodIn_of _ (by decide +kernel)) ggX4_tap_X0_has
set_option maxRecDepth 20000 in
theorem ggX4_tap_X1_keep : GoodIn wsX4_tap wsX1_keep := goodIn_r _ [17, 18, 19, 20, 21, 22, 23, 24, 25, 26, 27, 6, 28, 12, 29, 30, 31, 32, 54, 55, 56, 53] (by decide +kernel) (by decide +kernel)
set_option maxRecDepth 20000 in
theorem gX4_tap_X1_keep : GoodIn wsX4_tap (wsV RX4 48 RX1 yX1_keep wsX1_keep) := goodIn_app (goodIn_of _ (by decide +kernel)) ggX4_tap_X1_keep
set_option maxRecDepth 20000 in
theorem ggX4_tap_X0_property : GoodIn wsX4_tap wsX0_property := goodIn_r _ [36, 12, 53] (by decide +kernel) (by decide +kernel)
set_option maxRecDepth 20000 in
theorem gX4_tap_X0_property : GoodIn wsX4_tap (wsV RX4 59 RX0 yX0_property wsX0_property) := goodIn_app (goodIn_of _ (by decide +kernel)) ggX4_tap_X0_property
set_option maxRecDepth 20000 in
theorem ggX4_tap_X0_tapGlass : GoodIn wsX4_tap wsX0_tapGlass := goodIn_r _ [40, 12, 41, 42, 43, 6, 44, 45, 46, 47, 48, 53] (by decide +kernel) (by decide +kernel)
set_option maxRecDepth 20000 in
theorem gX4_tap_X0_tapGlass : GoodIn wsX4_tap (wsV RX4 86 RX0 yX0_tapGlass wsX0_tapGlass) := goodIn_app (goodIn_of _ (by decide +kernel)) ggX4_tap_X0_tapGlass
theorem dX4_tap_0 : decode cX4_tap 0 = .ok (.aload_n 0, 1) := by decide +kernel
theorem dX4_tap_1 : decode cX4_tap 1 = .ok (.getfield 10, 3) := by decide +kernel
theorem dX4_tap_4 : decode cX4_tap 4 = .ok (.iload_n 1, 1) := by decide +kernel
theorem dX4_tap_5 : decode cX4_tap 5 = .ok (.invokevirtual 56, 3) := by decide +kernel
theorem dX4_tap_8 : decode cX4_tap 8 = .ok (.ifCond .ne 6, 3) := by decide +kernel
theorem dX4_tap_11 : decode cX4_tap 11 = .ok (.bipush (-2), 2) := by decide +kernel
theorem dX4_tap_13 : decode cX4_tap 13 = .ok (.ireturn, 1) := by decide +kernel
theorem dX4_tap_14 : decode cX4_tap 14 = .ok (.aload_n 0, 1) := by decide +kernel
theorem dX4_tap_15 : decode cX4_tap 15 = .ok (.getfield 19, 3) := by decide +kernel
theorem dX4_tap_18 : decode cX4_tap 18 = .ok (.aload_n 0, 1) := by decide +kernel
theorem dX4_tap_19 : decode cX4_tap 19 = .ok (.getfield 10, 3) := by decide +kernel
theorem dX4_tap_22 : decode cX4_tap 22 = .ok (.invokevirtual 48, 3) := by decide +kernel
theorem dX4_tap_25 : decode cX4_tap 25 = .ok (.aload_n 0, 1) := by decide +kernel
theorem dX4_tap_26 : decode cX4_tap 26 = .ok (.getfield 10, 3) := by decide +kernel
theorem dX4_tap_29 : decode cX4_tap 29 = .ok (.iload_n 1, 1) := by decide +kernel
theorem dX4_tap_30 : decode cX4_tap 30 = .ok (.iconst 4, 1) := by decide +kernel
theorem dX4_tap_31 : decode cX4_tap 31 = .ok (.invokevirtual 59, 3) := by decide +kernel
theorem dX4_tap_34 : decode cX4_tap 34 = .ok (.istore_n 2, 1) := by decide +kernel
theorem dX4_tap_35 : decode cX4_tap 35 = .ok (.aload_n 0, 1) := by decide +kernel
theorem dX4_tap_36 : decode cX4_tap 36 = .ok (.getfield 10, 3) := by decide +kernel
theorem dX4_tap_39 : decode cX4_tap 39 = .ok (.iload_n 1, 1) := by decide +kernel
theorem dX4_tap_40 : decode cX4_tap 40 = .ok (.invokevirtual 86, 3) := by decide +kernel
theorem dX4_tap_43 : decode cX4_tap 43 = .ok (.iload_n 2, 1) := by decide +kernel
theorem dX4_tap_44 : decode cX4_tap 44 = .ok (.ireturn, 1) := by decide +kernel
set_option maxRecDepth 20000 in
theorem ggX4_pass_X0_hasTimeFor : GoodIn wsX4_pass wsX0_hasTimeFor := goodIn_r _ [7, 8, 77] (by decide +kernel) (by decide +kernel)
set_option maxRecDepth 20000 in
theorem gX4_pass_X0_hasTimeFor : GoodIn wsX4_pass (wsV RX4 89 RX0 yX0_hasTimeFor wsX0_hasTimeFor) := goodIn_app (goodIn_of _ (by decide +kernel)) ggX4_pass_X0_hasTimeFor
set_option maxRecDepth 20000 in
theorem ggX4_pass_X1_keep : GoodIn wsX4_pass wsX1_keep := goodIn_r _ [13, 14, 15, 16, 17, 18, 19, 20, 21, 22, 23, 6, 24, 8, 25, 26, 27, 28, 78, 79, 80, 77] (by decide +kernel) (by decide +kernel)
set_option maxRecDepth 20000 in
theorem gX4_pass_X1_keep : GoodIn wsX4_pass (wsV RX4 48 RX1 yX1_keep wsX1_keep) := goodIn_app (goodIn_of _ (by decide +kernel)) ggX4_pass_X1_keep
set_option maxRecDepth 20000 in
theorem ggX4_pass_X0_letPass : GoodIn wsX4_pass wsX0_letPass := goodIn_r _ [32, 8, 33, 34, 35, 6, 36, 37, 38, 39, 40, 41, 42, 43, 44, 45, 46, 47, 48, 49, 50, 51, 52, 53, 18, 19, 20, 54, 55, 56, 57, 58, 59, 60, 61, 62, 63, 64, 65, 66, 67, 68, 69, 70, 71, 72, 77] (by decide +kernel) (by decide +kernel)
set_option maxRecDepth 20000 in
theorem gX4_pass_X0_letPass : GoodIn wsX4_pass (wsV RX4 92 RX0 yX0_letPass wsX0_letPass) := goodIn_app (goodIn_of _ (by decide +kernel)) ggX4_pass_X0_letPass
theorem dX4_pass_0 : decode cX4_pass 0 = .ok (.iload_n 1, 1) := by decide +kernel
theorem dX4_pass_1 : decode cX4_pass 1 = .ok (.iconst 1, 1) := by decide +kernel
theorem dX4_pass_2 : decode cX4_pass 2 = .ok (.if_icmp .lt 10, 3) := by decide +kernel
theorem dX4_pass_5 : decode cX4_pass 5 = .ok (.iload_n 1, 1) := by decide +kernel
theorem dX4_pass_6 : decode cX4_pass 6 = .ok (.sipush 999, 3) := by decide +kernel
theorem dX4_pass_9 : decode cX4_pass 9 = .ok (.if_icmp .le 6, 3) := by decide +kernel
theorem dX4_pass_12 : decode cX4_pass 12 = .ok (.bipush (-2), 2) := by decide +kernel
theorem dX4_pass_14 : decode cX4_pass 14 = .ok (.ireturn, 1) := by decide +kernel
theorem dX4_pass_15 : decode cX4_pass 15 = .ok (.aload_n 0, 1) := by decide +kernel
theorem dX4_pass_16 : decode cX4_pass 16 = .ok (.getfield 10, 3) := by decide +kernel
theorem dX4_pass_19 : decode cX4_pass 19 = .ok (.iload_n 1, 1) := by decide +kernel
theorem dX4_pass_20 : decode cX4_pass 20 = .ok (.invokevirtual 89, 3) := by decide +kernel
theorem dX4_pass_23 : decode cX4_pass 23 = .ok (.ifCond .ne 6, 3) := by decide +kernel
theorem dX4_pass_26 : decode cX4_pass 26 = .ok (.bipush (-4), 2) := by decide +kernel
theorem dX4_pass_28 : decode cX4_pass 28 = .ok (.ireturn, 1) := by decide +kernel
theorem dX4_pass_29 : decode cX4_pass 29 = .ok (.aload_n 0, 1) := by decide +kernel
theorem dX4_pass_30 : decode cX4_pass 30 = .ok (.getfield 19, 3) := by decide +kernel
theorem dX4_pass_33 : decode cX4_pass 33 = .ok (.aload_n 0, 1) := by decide +kernel
theorem dX4_pass_34 : decode cX4_pass 34 = .ok (.getfield 10, 3) := by decide +kernel
theorem dX4_pass_37 : decode cX4_pass 37 = .ok (.invokevirtual 48, 3) := by decide +kernel
theorem dX4_pass_40 : decode cX4_pass 40 = .ok (.aload_n 0, 1) := by decide +kernel
theorem dX4_pass_41 : decode cX4_pass 41 = .ok (.getfield 10, 3) := by decide +kernel
theorem dX4_pass_44 : decode cX4_pass 44 = .ok (.iload_n 1, 1) := by decide +kernel
theorem dX4_pass_45 : decode cX4_pass 45 = .ok (.invokevirtual 92, 3) := by decide +kernel
theorem dX4_pass_48 : decode cX4_pass 48 = .ok (.ireturn, 1) := by decide +kernel
set_option maxRecDepth 20000 in
theorem ggX4_await_X0_secondsToEvent : GoodIn wsX4_await wsX0_secondsToEvent := goodIn_r _ [7, 8, 9, 10, 6, 11, 12, 13, 14, 15, 16, 17, 18, 19, 20, 21, 22, 23, 24, 25, 26, 27, 28, 78] (by decide +kernel) (by decide +kernel)
set_option maxRecDepth 20000 in
theorem gX4_await_X0_secondsToEvent : GoodIn wsX4_await (wsV RX4 95 RX0 yX0_secondsToEvent wsX0_secondsToEvent) := goodIn_app (goodIn_of _ (by decide +kernel)) ggX4_await_X0_secondsToEvent
set_option maxRecDepth 20000 in
theorem ggX4_await_X0_hasTimeFor : GoodIn wsX4_await wsX0_hasTimeFor := goodIn_r _ [32, 12, 78] (by decide +kernel) (by decide +kernel)
set_option maxRecDepth 20000 in
theorem gX4_await_X0_hasTimeFor : GoodIn wsX4_await (wsV RX4 89 RX0 yX0_hasTimeFor wsX0_hasTimeFor) := goodIn_app (goodIn_of _ (by decide +kernel)) ggX4_await_X0_hasTimeFor
set_option maxRecDepth 20000 in
theorem ggX4_await_X1_keep : GoodIn wsX4_await wsX1_keep := goodIn_r _ [37, 38, 39, 40, 41, 26, 27, 28, 42, 43, 44, 6, 45, 12, 46, 47, 48, 49, 79, 80, 81, 78] (by decide +kernel) (by decide +kernel)
set_option maxRecDepth 20000 in
theorem gX4_await_X1_keep : GoodIn wsX4_await (wsV RX4 48 RX1 yX1_keep wsX1_keep) := goodIn_app (goodIn_of _ (by decide +kernel)) ggX4_await_X1_keep
set_option maxRecDepth 20000 in
theorem ggX4_await_X0_letPass : GoodIn wsX4_await wsX0_letPass := goodIn_r _ [53, 12, 54, 4, 5, 6, 7, 8, 9, 10, 11, 13, 14, 15, 16, 17, 18, 19, 20, 21, 22, 23, 24, 25, 26, 27, 28, 55, 56, 57, 58, 59, 60, 61, 62, 63, 64, 65, 66, 67, 68, 69, 70, 71, 72, 73, 78] (by decide +kernel) (by decide +kernel)
set_option maxRecDepth 20000 in
theorem gX4_await_X0_letPass : GoodIn wsX4_await (wsV RX4 92 RX0 yX0_letPass wsX0_letPass) := goodIn_app (goodIn_of _ (by decide +kernel)) ggX4_await_X0_letPass
theorem dX4_await_0 : decode cX4_await 0 = .ok (.aload_n 0, 1) := by decide +kernel
theorem dX4_await_1 : decode cX4_await 1 = .ok (.getfield 10, 3) := by decide +kernel
theorem dX4_await_4 : decode cX4_await 4 = .ok (.invokevirtual 95, 3) := by decide +kernel
theorem dX4_await_7 : decode cX4_await 7 = .ok (.istore_n 1, 1) := by decide +kernel
theorem dX4_await_8 : decode cX4_await 8 = .ok (.iload_n 1, 1) := by decide +kernel
theorem dX4_await_9 : decode cX4_await 9 = .ok (.ifCond .ne 6, 3) := by decide +kernel
theorem dX4_await_12 : decode cX4_await 12 = .ok (.bipush (-3), 2) := by decide +kernel
theorem dX4_await_14 : decode cX4_await 14 = .ok (.ireturn, 1) := by decide +kernel
theorem dX4_await_15 : decode cX4_await 15 = .ok (.aload_n 0, 1) := by decide +kernel
theorem dX4_await_16 : decode cX4_await 16 = .ok (.getfield 10, 3) := by decide +kernel
theorem dX4_await_19 : decode cX4_await 19 = .ok (.iload_n 1, 1) := by decide +kernel
theorem dX4_await_20 : decode cX4_await 20 = .ok (.invokevirtual 89, 3) := by decide +kernel
theorem dX4_await_23 : decode cX4_await 23 = .ok (.ifCond .ne 6, 3) := by decide +kernel
theorem dX4_await_26 : decode cX4_await 26 = .ok (.bipush (-4), 2) := by decide +kernel
theorem dX4_await_28 : decode cX4_await 28 = .ok (.ireturn, 1) := by decide +kernel
theorem dX4_await_29 : decode cX4_await 29 = .ok (.aload_n 0, 1) := by decide +kernel
theorem dX4_await_30 : decode cX4_await 30 = .ok (.getfield 19, 3) := by decide +kernel
theorem dX4_await_33 : decode cX4_await 33 = .ok (.aload_n 0, 1) := by decide +kernel
theorem dX4_await_34 : decode cX4_await 34 = .ok (.getfield 10, 3) := by decide +kernel
theorem dX4_await_37 : decode cX4_await 37 = .ok (.invokevirtual 48, 3) := by decide +kernel
theorem dX4_await_40 : decode cX4_await 40 = .ok (.aload_n 0, 1) := by decide +kernel
theorem dX4_await_41 : decode cX4_await 41 = .ok (.getfield 10, 3) := by decide +kernel
theorem dX4_await_44 : decode cX4_await 44 = .ok (.iload_n 1, 1) := by decide +kernel
theorem dX4_await_45 : decode cX4_await 45 = .ok (.invokevirtual 92, 3) := by decide +kernel
theorem dX4_await_48 : decode cX4_await 48 = .ok (.pop, 1) := by decide +kernel
theorem dX4_await_49 : decode cX4_await 49 = .ok (.iload_n 1, 1) := by decide +kernel
theorem dX4_await_50 : decode cX4_await 50 = .ok (.ireturn, 1) := by decide +kernel
set_option maxRecDepth 20000 in
theorem ggX4_mark_X1_keep : GoodIn wsX4_mark wsX1_keep := goodIn_r _ [7, 8, 9, 10, 11, 12, 13, 14, 15, 16, 17, 18, 19, 20, 21, 22, 23, 24, 37, 38, 39, 40] (by decide +kernel) (by decide +kernel)
set_option maxRecDepth 20000 in
theorem gX4_mark_X1_keep : GoodIn wsX4_mark (wsV RX4 48 RX1 yX1_keep wsX1_keep) := goodIn_app (goodIn_of _ (by decide +kernel)) ggX4_mark_X1_keep
set_option maxRecDepth 20000 in
theorem ggX4_mark_X0_markedTime : GoodIn wsX4_mark wsX0_markedTime := goodIn_r _ [28, 20, 40] (by decide +kernel) (by decide +kernel)
set_option maxRecDepth 20000 in
theorem gX4_mark_X0_markedTime : GoodIn wsX4_mark (wsV RX4 98 RX0 yX0_markedTime wsX0_markedTime) := goodIn_app (goodIn_of _ (by decide +kernel)) ggX4_mark_X0_markedTime
set_option maxRecDepth 20000 in
theorem ggX4_mark_X0_markTime : GoodIn wsX4_mark wsX0_markTime := goodIn_r _ [32, 20, 40] (by decide +kernel) (by decide +kernel)
set_option maxRecDepth 20000 in
theorem gX4_mark_X0_markTime : GoodIn wsX4_mark (wsV RX4 101 RX0 yX0_markTime wsX0_markTime) := goodIn_app (goodIn_of _ (by decide +kernel)) ggX4_mark_X0_markTime
theorem dX4_mark_0 : decode cX4_mark 0 = .ok (.aload_n 0, 1) := by decide +kernel
theorem dX4_mark_1 : decode cX4_mark 1 = .ok (.getfield 19, 3) := by decide +kernel
theorem dX4_mark_4 : decode cX4_mark 4 = .ok (.aload_n 0, 1) := by decide +kernel
theorem dX4_mark_5 : decode cX4_mark 5 = .ok (.getfield 10, 3) := by decide +kernel
theorem dX4_mark_8 : decode cX4_mark 8 = .ok (.invokevirtual 48, 3) := by decide +kernel
theorem dX4_mark_11 : decode cX4_mark 11 = .ok (.aload_n 0, 1) := by decide +kernel
theorem dX4_mark_12 : decode cX4_mark 12 = .ok (.getfield 10, 3) := by decide +kernel
theorem dX4_mark_15 : decode cX4_mark 15 = .ok (.invokevirtual 98, 3) := by decide +kernel
theorem dX4_mark_18 : decode cX4_mark 18 = .ok (.istore_n 1, 1) := by decide +kernel
theorem dX4_mark_19 : decode cX4_mark 19 = .ok (.aload_n 0, 1) := by decide +kernel
theorem dX4_mark_20 : decode cX4_mark 20 = .ok (.getfield 10, 3) := by decide +kernel
theorem dX4_mark_23 : decode cX4_mark 23 = .ok (.invokevirtual 101, 3) := by decide +kernel
theorem dX4_mark_26 : decode cX4_mark 26 = .ok (.iload_n 1, 1) := by decide +kernel
theorem dX4_mark_27 : decode cX4_mark 27 = .ok (.ireturn, 1) := by decide +kernel
set_option maxRecDepth 20000 in
theorem ggX4_run_X0_glasses : GoodIn wsX4_run wsX0_glasses := goodIn_r _ [8, 9, 169] (by decide +kernel) (by decide +kernel)
set_option maxRecDepth 20000 in
theorem gX4_run_X0_glasses : GoodIn wsX4_run (wsV RX4 41 RX0 yX0_glasses wsX0_glasses) := goodIn_app (goodIn_of _ (by decide +kernel)) ggX4_run_X0_glasses
set_option maxRecDepth 20000 in
theorem ggX4_run_X3_read : GoodIn wsX4_run wsX3_read := goodIn_r _ [14, 15, 16, 17, 18, 19, 20, 21, 13, 22, 23, 24, 25, 26, 27, 28, 29, 30, 31, 32, 33, 34, 35, 36, 37, 38, 39, 40, 41, 42, 43, 44, 45, 46, 47, 48, 49, 50, 51, 52, 53, 54, 55, 56, 57, 58, 59, 60, 61, 62, 63, 64, 65, 66, 67, 68, 69, 170, 171, 172, 173, 174, 175, 176, 177] (by decide +kernel) (by decide +kernel)
set_option maxRecDepth 20000 in
theorem gX4_run_X3_read : GoodIn wsX4_run (wsV RX4 44 RX3 yX3_read wsX3_read) := goodIn_app (goodIn_of _ (by decide +kernel)) ggX4_run_X3_read
set_option maxRecDepth 20000 in
theorem ggX4_run_X1_keep : GoodIn wsX4_run wsX1_keep := goodIn_r _ [74, 75, 76, 77, 78, 79, 80, 81, 82, 83, 84, 7, 85, 9, 86, 87, 88, 89, 178, 179, 180, 169] (by decide +kernel) (by decide +kernel)
set_option maxRecDepth 20000 in
theorem gX4_run_X1_keep : GoodIn wsX4_run (wsV RX4 48 RX1 yX1_keep wsX1_keep) := goodIn_app (goodIn_of _ (by decide +kernel)) ggX4_run_X1_keep
set_option maxRecDepth 20000 in
theorem ggX4_run_X3_steps : GoodIn wsX4_run wsX3_steps := goodIn_r _ [93, 18, 170, 171, 172, 173, 174, 175, 176, 177] (by decide +kernel) (by decide +kernel)
set_option maxRecDepth 20000 in
theorem gX4_run_X3_steps : GoodIn wsX4_run (wsV RX4 104 RX3 yX3_steps wsX3_steps) := goodIn_app (goodIn_of _ (by decide +kernel)) ggX4_run_X3_steps
set_option maxRecDepth 20000 in
theorem ggX4_run_X3_letter : GoodIn wsX4_run wsX3_letter := goodIn_r _ [97, 18, 56, 170, 171, 172, 173, 174, 175, 176, 177] (by decide +kernel) (by decide +kernel)
set_option maxRecDepth 20000 in
theorem gX4_run_X3_letter : GoodIn wsX4_run (wsV RX4 107 RX3 yX3_letter wsX3_letter) := goodIn_app (goodIn_of _ (by decide +kernel)) ggX4_run_X3_letter
set_option maxRecDepth 20000 in
theorem ggX4_run_X3_number : GoodIn wsX4_run wsX3_number := goodIn_r _ [101, 18, 57, 170, 171, 172, 173, 174, 175, 176, 177] (by decide +kernel) (by decide +kernel)
set_option maxRecDepth 20000 in
theorem gX4_run_X3_number : GoodIn wsX4_run (wsV RX4 110 RX3 yX3_number wsX3_number) := goodIn_app (goodIn_of _ (by decide +kernel)) ggX4_run_X3_number
set_option maxRecDepth 20000 in
theorem ggX4_run_X4_perform : GoodIn wsX4_run wsX4_perform := goodIn_r _ [106, 2, 107, 108, 109, 7, 110, 9, 111, 112, 113, 114, 115, 5, 6, 8, 116, 117, 118, 119, 120, 121, 122, 123, 124, 125, 126, 127, 128, 129, 130, 131, 132, 133, 134, 135, 136, 137, 138, 139, 140, 79, 80, 81, 141, 142, 143, 144, 145, 146, 147, 148, 149, 150, 151, 152, 153, 154, 155, 156, 157, 158, 159, 160, 161, 162, 163, 164, 165, 166, 167, 168, 169] (by decide +kernel) (by decide +kernel)
set_option maxRecDepth 20000 in
theorem gX4_run_X4_perform : GoodIn wsX4_run (wsV RX4 113 RX4 yX4_perform wsX4_perform) := goodIn_app (goodIn_of _ (by decide +kernel)) ggX4_run_X4_perform
theorem dX4_run_0 : decode cX4_run 0 = .ok (.aload_n 0, 1) := by decide +kernel
theorem dX4_run_1 : decode cX4_run 1 = .ok (.getfield 26, 3) := by decide +kernel
theorem dX4_run_4 : decode cX4_run 4 = .ok (.aload_n 0, 1) := by decide +kernel
theorem dX4_run_5 : decode cX4_run 5 = .ok (.getfield 10, 3) := by decide +kernel
theorem dX4_run_8 : decode cX4_run 8 = .ok (.invokevirtual 41, 3) := by decide +kernel
theorem dX4_run_11 : decode cX4_run 11 = .ok (.invokevirtual 44, 3) := by decide +kernel
theorem dX4_run_14 : decode cX4_run 14 = .ok (.iconst (-1), 1) := by decide +kernel
theorem dX4_run_15 : decode cX4_run 15 = .ok (.if_icmp .eq 6, 3) := by decide +kernel
theorem dX4_run_18 : decode cX4_run 18 = .ok (.bipush (-3), 2) := by decide +kernel
theorem dX4_run_20 : decode cX4_run 20 = .ok (.ireturn, 1) := by decide +kernel
theorem dX4_run_21 : decode cX4_run 21 = .ok (.aload_n 0, 1) := by decide +kernel
theorem dX4_run_22 : decode cX4_run 22 = .ok (.getfield 19, 3) := by decide +kernel
theorem dX4_run_25 : decode cX4_run 25 = .ok (.aload_n 0, 1) := by decide +kernel
theorem dX4_run_26 : decode cX4_run 26 = .ok (.getfield 10, 3) := by decide +kernel
theorem dX4_run_29 : decode cX4_run 29 = .ok (.invokevirtual 48, 3) := by decide +kernel
theorem dX4_run_32 : decode cX4_run 32 = .ok (.iconst 0, 1) := by decide +kernel
theorem dX4_run_33 : decode cX4_run 33 = .ok (.istore_n 1, 1) := by decide +kernel
theorem dX4_run_34 : decode cX4_run 34 = .ok (.iload_n 1, 1) := by decide +kernel
theorem dX4_run_35 : decode cX4_run 35 = .ok (.aload_n 0, 1) := by decide +kernel
theorem dX4_run_36 : decode cX4_run 36 = .ok (.getfield 26, 3) := by decide +kernel
theorem dX4_run_39 : decode cX4_run 39 = .ok (.invokevirtual 104, 3) := by decide +kernel
theorem dX4_run_42 : decode cX4_run 42 = .ok (.if_icmp .ge 32, 3) := by decide +kernel
theorem dX4_run_45 : decode cX4_run 45 = .ok (.aload_n 0, 1) := by decide +kernel
theorem dX4_run_46 : decode cX4_run 46 = .ok (.aload_n 0, 1) := by decide +kernel
theorem dX4_run_47 : decode cX4_run 47 = .ok (.getfield 26, 3) := by decide +kernel
theorem dX4_run_50 : decode cX4_run 50 = .ok (.iload_n 1, 1) := by decide +kernel
theorem dX4_run_51 : decode cX4_run 51 = .ok (.invokevirtual 107, 3) := by decide +kernel
theorem dX4_run_54 : decode cX4_run 54 = .ok (.aload_n 0, 1) := by decide +kernel
theorem dX4_run_55 : decode cX4_run 55 = .ok (.getfield 26, 3) := by decide +kernel
theorem dX4_run_58 : decode cX4_run 58 = .ok (.iload_n 1, 1) := by decide +kernel
theorem dX4_run_59 : decode cX4_run 59 = .ok (.invokevirtual 110, 3) := by decide +kernel
theorem dX4_run_62 : decode cX4_run 62 = .ok (.invokevirtual 113, 3) := by decide +kernel
theorem dX4_run_65 : decode cX4_run 65 = .ok (.ifCond .eq 9, 3) := by decide +kernel
theorem dX4_run_68 : decode cX4_run 68 = .ok (.iinc 1 1, 3) := by decide +kernel
theorem dX4_run_71 : decode cX4_run 71 = .ok (.goto (-37), 3) := by decide +kernel
theorem dX4_run_74 : decode cX4_run 74 = .ok (.iload_n 1, 1) := by decide +kernel
theorem dX4_run_75 : decode cX4_run 75 = .ok (.ireturn, 1) := by decide +kernel
set_option maxRecDepth 20000 in
theorem ggX4_undo_X1_restore : GoodIn wsX4_undo wsX1_restore := goodIn_r _ [7, 8, 9, 10, 11, 12, 13, 14, 15, 16, 17, 18, 19, 20, 29, 30, 31, 32] (by decide +kernel) (by decide +kernel)
set_option maxRecDepth 20000 in
theorem gX4_undo_X1_restore : GoodIn wsX4_undo (wsV RX4 117 RX1 yX1_restore wsX1_restore) := goodIn_app (goodIn_of _ (by decide +kernel)) ggX4_undo_X1_restore
set_option maxRecDepth 20000 in
theorem ggX4_undo_X1_states : GoodIn wsX4_undo wsX1_states := goodIn_r _ [24, 8, 29, 30, 31] (by decide +kernel) (by decide +kernel)
set_option maxRecDepth 20000 in
theorem gX4_undo_X1_states : GoodIn wsX4_undo (wsV RX4 121 RX1 yX1_states wsX1_states) := goodIn_app (goodIn_of _ (by decide +kernel)) ggX4_undo_X1_states
theorem dX4_undo_0 : decode cX4_undo 0 = .ok (.aload_n 0, 1) := by decide +kernel
theorem dX4_undo_1 : decode cX4_undo 1 = .ok (.getfield 19, 3) := by decide +kernel
theorem dX4_undo_4 : decode cX4_undo 4 = .ok (.aload_n 0, 1) := by decide +kernel
theorem dX4_undo_5 : decode cX4_undo 5 = .ok (.getfield 10, 3) := by decide +kernel
theorem dX4_undo_8 : decode cX4_undo 8 = .ok (.invokevirtual 117, 3) := by decide +kernel
theorem dX4_undo_11 : decode cX4_undo 11 = .ok (.ifCond .eq 13, 3) := by decide +kernel
theorem dX4_undo_14 : decode cX4_undo 14 = .ok (.aload_n 0, 1) := by decide +kernel
theorem dX4_undo_15 : decode cX4_undo 15 = .ok (.getfield 19, 3) := by decide +kernel
theorem dX4_undo_18 : decode cX4_undo 18 = .ok (.invokevirtual 121, 3) := by decide +kernel
theorem dX4_undo_21 : decode cX4_undo 21 = .ok (.goto 5, 3) := by decide +kernel
theorem dX4_undo_24 : decode cX4_undo 24 = .ok (.bipush (-3), 2) := by decide +kernel
theorem dX4_undo_26 : decode cX4_undo 26 = .ok (.ireturn, 1) := by decide +kernel
set_option maxRecDepth 20000 in
theorem ggX4_glass_X0_has : GoodIn wsX4_glass wsX0_has := goodIn_r _ [6, 7, 8, 9, 5, 10, 11, 25] (by decide +kernel) (by decide +kernel)
set_option maxRecDepth 20000 in
theorem gX4_glass_X0_has : GoodIn wsX4_glass (wsV RX4 56 RX0 yX0_has wsX0_has) := goodIn_app (goodIn_of _ (by decide +kernel)) ggX4_glass_X0_has
set_option maxRecDepth 20000 in
theorem ggX4_glass_X0_property : GoodIn wsX4_glass wsX0_property := goodIn_r _ [15, 11, 25] (by decide +kernel) (by decide +kernel)
set_option maxRecDepth 20000 in
theorem gX4_glass_X0_property : GoodIn wsX4_glass (wsV RX4 59 RX0 yX0_property wsX0_property) := goodIn_app (goodIn_of _ (by decide +kernel)) ggX4_glass_X0_property
set_option maxRecDepth 20000 in
theorem ggX4_glass_X0_runs : GoodIn wsX4_glass wsX0_runs := goodIn_r _ [19, 20, 13, 14, 5, 15, 11, 25] (by decide +kernel) (by decide +kernel)
set_option maxRecDepth 20000 in
theorem gX4_glass_X0_runs : GoodIn wsX4_glass (wsV RX4 124 RX0 yX0_runs wsX0_runs) := goodIn_app (goodIn_of _ (by decide +kernel)) ggX4_glass_X0_runs
theorem dX4_glass_0 : decode cX4_glass 0 = .ok (.aload_n 0, 1) := by decide +kernel
theorem dX4_glass_1 : decode cX4_glass 1 = .ok (.getfield 10, 3) := by decide +kernel
theorem dX4_glass_4 : decode cX4_glass 4 = .ok (.iload_n 1, 1) := by decide +kernel
theorem dX4_glass_5 : decode cX4_glass 5 = .ok (.invokevirtual 56, 3) := by decide +kernel
theorem dX4_glass_8 : decode cX4_glass 8 = .ok (.ifCond .eq 13, 3) := by decide +kernel
theorem dX4_glass_11 : decode cX4_glass 11 = .ok (.iload_n 2, 1) := by decide +kernel
theorem dX4_glass_12 : decode cX4_glass 12 = .ok (.ifCond .lt 9, 3) := by decide +kernel
theorem dX4_glass_15 : decode cX4_glass 15 = .ok (.iload_n 2, 1) := by decide +kernel
theorem dX4_glass_16 : decode cX4_glass 16 = .ok (.bipush 7, 2) := by decide +kernel
theorem dX4_glass_18 : decode cX4_glass 18 = .ok (.if_icmp .le 6, 3) := by decide +kernel
theorem dX4_glass_21 : decode cX4_glass 21 = .ok (.bipush (-2), 2) := by decide +kernel
theorem dX4_glass_23 : decode cX4_glass 23 = .ok (.ireturn, 1) := by decide +kernel
theorem dX4_glass_24 : decode cX4_glass 24 = .ok (.iload_n 2, 1) := by decide +kernel
theorem dX4_glass_25 : decode cX4_glass 25 = .ok (.bipush 7, 2) := by decide +kernel
theorem dX4_glass_27 : decode cX4_glass 27 = .ok (.if_icmp .ge 13, 3) := by decide +kernel
theorem dX4_glass_30 : decode cX4_glass 30 = .ok (.aload_n 0, 1) := by decide +kernel
theorem dX4_glass_31 : decode cX4_glass 31 = .ok (.getfield 10, 3) := by decide +kernel
theorem dX4_glass_34 : decode cX4_glass 34 = .ok (.iload_n 1, 1) := by decide +kernel
theorem dX4_glass_35 : decode cX4_glass 35 = .ok (.iload_n 2, 1) := by decide +kernel
theorem dX4_glass_36 : decode cX4_glass 36 = .ok (.invokevirtual 59, 3) := by decide +kernel
theorem dX4_glass_39 : decode cX4_glass 39 = .ok (.ireturn, 1) := by decide +kernel
theorem dX4_glass_40 : decode cX4_glass 40 = .ok (.aload_n 0, 1) := by decide +kernel
theorem dX4_glass_41 : decode cX4_glass 41 = .ok (.getfield 10, 3) := by decide +kernel
theorem dX4_glass_44 : decode cX4_glass 44 = .ok (.iload_n 1, 1) := by decide +kernel
theorem dX4_glass_45 : decode cX4_glass 45 = .ok (.invokevirtual 124, 3) := by decide +kernel
theorem dX4_glass_48 : decode cX4_glass 48 = .ok (.ifCond .eq 7, 3) := by decide +kernel
theorem dX4_glass_51 : decode cX4_glass 51 = .ok (.iconst 1, 1) := by decide +kernel
theorem dX4_glass_52 : decode cX4_glass 52 = .ok (.goto 4, 3) := by decide +kernel
theorem dX4_glass_55 : decode cX4_glass 55 = .ok (.iconst 0, 1) := by decide +kernel
theorem dX4_glass_56 : decode cX4_glass 56 = .ok (.ireturn, 1) := by decide +kernel
set_option maxRecDepth 20000 in
theorem ggX4_event_X0_eventsListed : GoodIn wsX4_event wsX0_eventsListed := goodIn_r _ [6, 7, 8, 9, 10, 11, 23] (by decide +kernel) (by decide +kernel)
set_option maxRecDepth 20000 in
theorem gX4_event_X0_eventsListed : GoodIn wsX4_event (wsV RX4 127 RX0 yX0_eventsListed wsX0_eventsListed) := goodIn_app (goodIn_of _ (by decide +kernel)) ggX4_event_X0_eventsListed
set_option maxRecDepth 20000 in
theorem ggX4_event_X0_eventPart : GoodIn wsX4_event wsX0_eventPart := goodIn_r _ [15, 7, 16, 17, 5, 18, 23] (by decide +kernel) (by decide +kernel)
set_option maxRecDepth 20000 in
theorem gX4_event_X0_eventPart : GoodIn wsX4_event (wsV RX4 130 RX0 yX0_eventPart wsX0_eventPart) := goodIn_app (goodIn_of _ (by decide +kernel)) ggX4_event_X0_eventPart
theorem dX4_event_0 : decode cX4_event 0 = .ok (.iload_n 1, 1) := by decide +kernel
theorem dX4_event_1 : decode cX4_event 1 = .ok (.ifCond .lt 12, 3) := by decide +kernel
theorem dX4_event_4 : decode cX4_event 4 = .ok (.iload_n 2, 1) := by decide +kernel
theorem dX4_event_5 : decode cX4_event 5 = .ok (.ifCond .lt 8, 3) := by decide +kernel
theorem dX4_event_8 : decode cX4_event 8 = .ok (.iload_n 2, 1) := by decide +kernel
theorem dX4_event_9 : decode cX4_event 9 = .ok (.iconst 3, 1) := by decide +kernel
theorem dX4_event_10 : decode cX4_event 10 = .ok (.if_icmp .lt 6, 3) := by decide +kernel
theorem dX4_event_13 : decode cX4_event 13 = .ok (.bipush (-2), 2) := by decide +kernel
theorem dX4_event_15 : decode cX4_event 15 = .ok (.ireturn, 1) := by decide +kernel
theorem dX4_event_16 : decode cX4_event 16 = .ok (.iload_n 1, 1) := by decide +kernel
theorem dX4_event_17 : decode cX4_event 17 = .ok (.aload_n 0, 1) := by decide +kernel
theorem dX4_event_18 : decode cX4_event 18 = .ok (.getfield 10, 3) := by decide +kernel
theorem dX4_event_21 : decode cX4_event 21 = .ok (.invokevirtual 127, 3) := by decide +kernel
theorem dX4_event_24 : decode cX4_event 24 = .ok (.if_icmp .ge 15, 3) := by decide +kernel
theorem dX4_event_27 : decode cX4_event 27 = .ok (.aload_n 0, 1) := by decide +kernel
theorem dX4_event_28 : decode cX4_event 28 = .ok (.getfield 10, 3) := by decide +kernel
theorem dX4_event_31 : decode cX4_event 31 = .ok (.iload_n 1, 1) := by decide +kernel
theorem dX4_event_32 : decode cX4_event 32 = .ok (.iload_n 2, 1) := by decide +kernel
theorem dX4_event_33 : decode cX4_event 33 = .ok (.invokevirtual 130, 3) := by decide +kernel
theorem dX4_event_36 : decode cX4_event 36 = .ok (.goto 4, 3) := by decide +kernel
theorem dX4_event_39 : decode cX4_event 39 = .ok (.iconst (-1), 1) := by decide +kernel
theorem dX4_event_40 : decode cX4_event 40 = .ok (.ireturn, 1) := by decide +kernel
set_option maxRecDepth 20000 in
theorem ggX4_cost_X4_isSpan : GoodIn wsX4_cost wsX4_isSpan := goodIn_r _ [4] (by decide +kernel) (by decide +kernel)
set_option maxRecDepth 20000 in
theorem gX4_cost_X4_isSpan : GoodIn wsX4_cost (va_wsS RX4 133 yX4_isSpan wsX4_isSpan) := goodIn_app (goodIn_of _ (by decide +kernel)) ggX4_cost_X4_isSpan
set_option maxRecDepth 20000 in
theorem ggX4_cost_X4_readyPlanner : GoodIn wsX4_cost wsX4_readyPlanner := goodIn_r _ [8, 9, 10, 11, 12, 13, 14, 15, 16, 17, 18, 19, 20, 21, 22, 23, 24, 25, 26, 27, 28, 29, 30, 31, 32, 33, 34, 35, 36, 37, 38, 39, 40, 41, 42, 43, 44, 45, 46, 47, 48, 49, 50, 51, 52, 53, 54, 55, 56, 57, 58, 59, 60, 61, 62, 63, 64, 65, 66, 67, 68, 69, 70, 71, 72, 73, 74, 75, 76, 77, 78, 79, 80, 81, 82, 83, 84, 85, 86, 87, 88, 118, 119, 120, 121, 122, 123, 124, 125, 126, 127, 128, 129, 130, 131, 132, 133] (by decide +kernel) (by decide +kernel)
set_option maxRecDepth 20000 in
theorem gX4_cost_X4_readyPlanner : GoodIn wsX4_cost (wsV RX4 136 RX4 yX4_readyPlanner wsX4_readyPlanner) := goodIn_app (goodIn_of _ (by decide +kernel)) ggX4_cost_X4_readyPlanner
set_option maxRecDepth 20000 in
theorem ggX4_cost_X2_leastCost : GoodIn wsX4_cost wsX2_leastCost := goodIn_r _ [92, 93, 94, 95, 12, 96, 33, 34, 97, 98, 99, 100, 32, 26, 101, 102, 103, 104, 105, 106, 107, 108, 24, 109, 110, 111, 112, 113, 114, 115, 116, 117, 122, 123, 124, 125, 126, 127, 128, 129, 130, 131, 132] (by decide +kernel) (by decide +kernel)
set_option maxRecDepth 20000 in
theorem gX4_cost_X2_leastCost : GoodIn wsX4_cost (wsV RX4 140 RX2 yX2_leastCost wsX2_leastCost) := goodIn_app (goodIn_of _ (by decide +kernel)) ggX4_cost_X2_leastCost
theorem dX4_cost_0 : decode cX4_cost 0 = .ok (.iload_n 1, 1) := by decide +kernel
theorem dX4_cost_1 : decode cX4_cost 1 = .ok (.invokestatic 133, 3) := by decide +kernel
theorem dX4_cost_4 : decode cX4_cost 4 = .ok (.ifCond .ne 6, 3) := by decide +kernel
theorem dX4_cost_7 : decode cX4_cost 7 = .ok (.bipush (-2), 2) := by decide +kernel
theorem dX4_cost_9 : decode cX4_cost 9 = .ok (.ireturn, 1) := by decide +kernel
theorem dX4_cost_10 : decode cX4_cost 10 = .ok (.aload_n 0, 1) := by decide +kernel
theorem dX4_cost_11 : decode cX4_cost 11 = .ok (.invokevirtual 136, 3) := by decide +kernel
theorem dX4_cost_14 : decode cX4_cost 14 = .ok (.iload_n 1, 1) := by decide +kernel
theorem dX4_cost_15 : decode cX4_cost 15 = .ok (.invokevirtual 140, 3) := by decide +kernel
theorem dX4_cost_18 : decode cX4_cost 18 = .ok (.ireturn, 1) := by decide +kernel
set_option maxRecDepth 20000 in
theorem ggX4_planned_X4_isSpan : GoodIn wsX4_planned wsX4_isSpan := goodIn_r _ [4] (by decide +kernel) (by decide +kernel)
set_option maxRecDepth 20000 in
theorem gX4_planned_X4_isSpan : GoodIn wsX4_planned (va_wsS RX4 133 yX4_isSpan wsX4_isSpan) := goodIn_app (goodIn_of _ (by decide +kernel)) ggX4_planned_X4_isSpan
set_option maxRecDepth 20000 in
theorem ggX4_planned_X4_readyPlanner : GoodIn wsX4_planned wsX4_readyPlanner := goodIn_r _ [8, 9, 10, 11, 12, 13, 14, 15, 16, 17, 18, 19, 20, 21, 22, 23, 24, 25, 26, 27, 28, 29, 30, 31, 32, 33, 34, 35, 36, 37, 38, 39, 40, 41, 42, 43, 44, 45, 46, 47, 48, 49, 50, 51, 52, 53, 54, 55, 56, 57, 58, 59, 60, 61, 62, 63, 64, 65, 66, 67, 68, 69, 70, 71, 72, 73, 74, 75, 76, 77, 78, 79, 80, 81, 82, 83, 84, 85, 86, 87, 88, 126, 127, 128, 129, 130, 131, 132, 133, 134, 135, 136, 137, 138, 139, 140, 141] (by decide +kernel) (by decide +kernel)
set_option maxRecDepth 20000 in
theorem gX4_planned_X4_readyPlanner : GoodIn wsX4_planned (wsV RX4 136 RX4 yX4_readyPlanner wsX4_readyPlanner) := goodIn_app (goodIn_of _ (by decide +kernel)) ggX4_planned_X4_readyPlanner
set_option maxRecDepth 20000 in
theorem ggX4_planned_X2_stepOf : GoodIn wsX4_planned wsX2_stepOf := goodIn_r _ [92, 24, 93, 94, 95, 96, 12, 97, 98, 99, 100, 101, 33, 34, 102, 103, 104, 105, 32, 26, 106, 107, 108, 109, 110, 111, 112, 113, 114, 115, 116, 117, 118, 119, 120, 121, 122, 123, 124, 125, 130, 131, 132, 133, 134, 135, 136, 137, 138, 139, 140] (by decide +kernel) (by decide +kernel)
set_option maxRecDepth 20000 in
theorem gX4_planned_X2_stepOf : GoodIn wsX4_planned (wsV RX4 145 RX2 yX2_stepOf wsX2_stepOf) := goodIn_app (goodIn_of _ (by decide +kernel)) ggX4_planned_X2_stepOf
theorem dX4_planned_0 : decode cX4_planned 0 = .ok (.iload_n 1, 1) := by decide +kernel
theorem dX4_planned_1 : decode cX4_planned 1 = .ok (.invokestatic 133, 3) := by decide +kernel
theorem dX4_planned_4 : decode cX4_planned 4 = .ok (.ifCond .eq 7, 3) := by decide +kernel
theorem dX4_planned_7 : decode cX4_planned 7 = .ok (.iload_n 2, 1) := by decide +kernel
theorem dX4_planned_8 : decode cX4_planned 8 = .ok (.ifCond .ge 6, 3) := by decide +kernel
theorem dX4_planned_11 : decode cX4_planned 11 = .ok (.bipush (-2), 2) := by decide +kernel
theorem dX4_planned_13 : decode cX4_planned 13 = .ok (.ireturn, 1) := by decide +kernel
theorem dX4_planned_14 : decode cX4_planned 14 = .ok (.aload_n 0, 1) := by decide +kernel
theorem dX4_planned_15 : decode cX4_planned 15 = .ok (.invokevirtual 136, 3) := by decide +kernel
theorem dX4_planned_18 : decode cX4_planned 18 = .ok (.iload_n 1, 1) := by decide +kernel
theorem dX4_planned_19 : decode cX4_planned 19 = .ok (.iload_n 2, 1) := by decide +kernel
theorem dX4_planned_20 : decode cX4_planned 20 = .ok (.iload_n 3, 1) := by decide +kernel
theorem dX4_planned_21 : decode cX4_planned 21 = .ok (.invokevirtual 145, 3) := by decide +kernel
theorem dX4_planned_24 : decode cX4_planned 24 = .ok (.ireturn, 1) := by decide +kernel
set_option maxRecDepth 20000 in
theorem ggX4_measurable_X4_readyPlanner : GoodIn wsX4_measurable wsX4_readyPlanner := goodIn_r _ [5, 6, 7, 8, 9, 10, 11, 12, 13, 14, 15, 16, 17, 18, 19, 20, 21, 22, 23, 24, 25, 26, 27, 28, 29, 30, 31, 32, 33, 34, 35, 36, 37, 38, 39, 40, 41, 42, 43, 44, 45, 46, 47, 48, 49, 50, 51, 52, 53, 54, 55, 56, 57, 58, 59, 60, 61, 62, 63, 64, 65, 66, 67, 68, 69, 70, 71, 72, 73, 74, 75, 76, 77, 78, 79, 80, 81, 82, 83, 84, 85, 122, 123, 124, 125, 126, 127, 128, 129, 130, 131, 132, 133, 134, 135, 136, 137] (by decide +kernel) (by decide +kernel)
set_option maxRecDepth 20000 in
theorem gX4_measurable_X4_readyPlanner : GoodIn wsX4_measurable (wsV RX4 136 RX4 yX4_readyPlanner wsX4_readyPlanner) := goodIn_app (goodIn_of _ (by decide +kernel)) ggX4_measurable_X4_readyPlanner
set_option maxRecDepth 20000 in
theorem ggX4_measurable_X2_spansWithin : GoodIn wsX4_measurable wsX2_spansWithin := goodIn_r _ [89, 30, 90, 91, 92, 9, 93, 31, 94, 95, 96, 97, 29, 23, 98, 99, 100, 101, 102, 103, 104, 105, 21, 106, 107, 108, 109, 110, 111, 126, 127, 128, 129, 130, 131, 132, 133, 134, 135, 136] (by decide +kernel) (by decide +kernel)
set_option maxRecDepth 20000 in
theorem gX4_measurable_X2_spansWithin : GoodIn wsX4_measurable (wsV RX4 149 RX2 yX2_spansWithin wsX2_spansWithin) := goodIn_app (goodIn_of _ (by decide +kernel)) ggX4_measurable_X2_spansWithin
set_option maxRecDepth 20000 in
theorem ggX4_measurable_J13_bitCount_95d88 : GoodIn wsX4_measurable wsJ13_bitCount_95d88 := goodIn_r _ [115, 116, 117, 118] (by decide +kernel) (by decide +kernel)
set_option maxRecDepth 20000 in
theorem gX4_measurable_J13_bitCount_95d88 : GoodIn wsX4_measurable (va_wsS RX4 153 yJ13_bitCount_95d88 wsJ13_bitCount_95d88) := goodIn_app (goodIn_of _ (by decide +kernel)) ggX4_measurable_J13_bitCount_95d88
set_option maxRecDepth 20000 in
theorem ggX4_measurable_X4_bitOf : GoodIn wsX4_measurable wsX4_bitOf := goodIn_r _ [121] (by decide +kernel) (by decide +kernel)
set_option maxRecDepth 20000 in
theorem gX4_measurable_X4_bitOf : GoodIn wsX4_measurable (va_wsS RX4 159 yX4_bitOf wsX4_bitOf) := goodIn_app (goodIn_of _ (by decide +kernel)) ggX4_measurable_X4_bitOf
theorem dX4_measurable_0 : decode cX4_measurable 0 = .ok (.iload_n 1, 1) := by decide +kernel
theorem dX4_measurable_1 : decode cX4_measurable 1 = .ok (.iconst (-1), 1) := by decide +kernel
theorem dX4_measurable_2 : decode cX4_measurable 2 = .ok (.if_icmp .lt 13, 3) := by decide +kernel
theorem dX4_measurable_5 : decode cX4_measurable 5 = .ok (.iload_n 2, 1) := by decide +kernel
theorem dX4_measurable_6 : decode cX4_measurable 6 = .ok (.ifCond .lt 9, 3) := by decide +kernel
theorem dX4_measurable_9 : decode cX4_measurable 9 = .ok (.iload_n 2, 1) := by decide +kernel
theorem dX4_measurable_10 : decode cX4_measurable 10 = .ok (.bipush 9, 2) := by decide +kernel
theorem dX4_measurable_12 : decode cX4_measurable 12 = .ok (.if_icmp .le 6, 3) := by decide +kernel
theorem dX4_measurable_15 : decode cX4_measurable 15 = .ok (.bipush (-2), 2) := by decide +kernel
theorem dX4_measurable_17 : decode cX4_measurable 17 = .ok (.ireturn, 1) := by decide +kernel
theorem dX4_measurable_18 : decode cX4_measurable 18 = .ok (.aload_n 0, 1) := by decide +kernel
theorem dX4_measurable_19 : decode cX4_measurable 19 = .ok (.invokevirtual 136, 3) := by decide +kernel
theorem dX4_measurable_22 : decode cX4_measurable 22 = .ok (.iload_n 2, 1) := by decide +kernel
theorem dX4_measurable_23 : decode cX4_measurable 23 = .ok (.invokevirtual 149, 3) := by decide +kernel
theorem dX4_measurable_26 : decode cX4_measurable 26 = .ok (.lstore_n 3, 1) := by decide +kernel
theorem dX4_measurable_27 : decode cX4_measurable 27 = .ok (.iload_n 1, 1) := by decide +kernel
theorem dX4_measurable_28 : decode cX4_measurable 28 = .ok (.iconst (-1), 1) := by decide +kernel
theorem dX4_measurable_29 : decode cX4_measurable 29 = .ok (.if_icmp .ne 10, 3) := by decide +kernel
theorem dX4_measurable_32 : decode cX4_measurable 32 = .ok (.lload_n 3, 1) := by decide +kernel
theorem dX4_measurable_33 : decode cX4_measurable 33 = .ok (.invokestatic 153, 3) := by decide +kernel
theorem dX4_measurable_36 : decode cX4_measurable 36 = .ok (.goto 8, 3) := by decide +kernel
theorem dX4_measurable_39 : decode cX4_measurable 39 = .ok (.lload_n 3, 1) := by decide +kernel
theorem dX4_measurable_40 : decode cX4_measurable 40 = .ok (.iload_n 1, 1) := by decide +kernel
theorem dX4_measurable_41 : decode cX4_measurable 41 = .ok (.invokestatic 159, 3) := by decide +kernel
theorem dX4_measurable_44 : decode cX4_measurable 44 = .ok (.ireturn, 1) := by decide +kernel
set_option maxRecDepth 20000 in
theorem ggX4_count_X0_glasses : GoodIn wsX4_count wsX0_glasses := goodIn_r _ [8, 9, 63] (by decide +kernel) (by decide +kernel)
set_option maxRecDepth 20000 in
theorem gX4_count_X0_glasses : GoodIn wsX4_count (wsV RX4 41 RX0 yX0_glasses wsX0_glasses) := goodIn_app (goodIn_of _ (by decide +kernel)) ggX4_count_X0_glasses
set_option maxRecDepth 20000 in
theorem ggX4_count_X0_stacks : GoodIn wsX4_count wsX0_stacks := goodIn_r _ [13, 14, 5, 6, 7, 8, 9, 15, 16, 17, 18, 63] (by decide +kernel) (by decide +kernel)
set_option maxRecDepth 20000 in
theorem gX4_count_X0_stacks : GoodIn wsX4_count (wsV RX4 80 RX0 yX0_stacks wsX0_stacks) := goodIn_app (goodIn_of _ (by decide +kernel)) ggX4_count_X0_stacks
set_option maxRecDepth 20000 in
theorem ggX4_count_X0_time : GoodIn wsX4_count wsX0_time := goodIn_r _ [22, 9, 63] (by decide +kernel) (by decide +kernel)
set_option maxRecDepth 20000 in
theorem gX4_count_X0_time : GoodIn wsX4_count (wsV RX4 163 RX0 yX0_time wsX0_time) := goodIn_app (goodIn_of _ (by decide +kernel)) ggX4_count_X0_time
set_option maxRecDepth 20000 in
theorem ggX4_count_X0_markedTime : GoodIn wsX4_count wsX0_markedTime := goodIn_r _ [26, 9, 63] (by decide +kernel) (by decide +kernel)
set_option maxRecDepth 20000 in
theorem gX4_count_X0_markedTime : GoodIn wsX4_count (wsV RX4 98 RX0 yX0_markedTime wsX0_markedTime) := goodIn_app (goodIn_of _ (by decide +kernel)) ggX4_count_X0_markedTime
set_option maxRecDepth 20000 in
theorem ggX4_count_X0_eventsEver : GoodIn wsX4_count wsX0_eventsEver := goodIn_r _ [30, 9, 63] (by decide +kernel) (by decide +kernel)
set_option maxRecDepth 20000 in
theorem gX4_count_X0_eventsEver : GoodIn wsX4_count (wsV RX4 166 RX0 yX0_eventsEver wsX0_eventsEver) := goodIn_app (goodIn_of _ (by decide +kernel)) ggX4_count_X0_eventsEver
set_option maxRecDepth 20000 in
theorem ggX4_count_X0_eventsListed : GoodIn wsX4_count wsX0_eventsListed := goodIn_r _ [34, 9, 35, 36, 37, 38, 63] (by decide +kernel) (by decide +kernel)
set_option maxRecDepth 20000 in
theorem gX4_count_X0_eventsListed : GoodIn wsX4_count (wsV RX4 127 RX0 yX0_eventsListed wsX0_eventsListed) := goodIn_app (goodIn_of _ (by decide +kernel)) ggX4_count_X0_eventsListed
set_option maxRecDepth 20000 in
theorem ggX4_count_X0_turns : GoodIn wsX4_count wsX0_turns := goodIn_r _ [42, 9, 63] (by decide +kernel) (by decide +kernel)
set_option maxRecDepth 20000 in
theorem gX4_count_X0_turns : GoodIn wsX4_count (wsV RX4 169 RX0 yX0_turns wsX0_turns) := goodIn_app (goodIn_of _ (by decide +kernel)) ggX4_count_X0_turns
set_option maxRecDepth 20000 in
theorem ggX4_count_X0_taps : GoodIn wsX4_count wsX0_taps := goodIn_r _ [46, 9, 63] (by decide +kernel) (by decide +kernel)
set_option maxRecDepth 20000 in
theorem gX4_count_X0_taps : GoodIn wsX4_count (wsV RX4 172 RX0 yX0_taps wsX0_taps) := goodIn_app (goodIn_of _ (by decide +kernel)) ggX4_count_X0_taps
set_option maxRecDepth 20000 in
theorem ggX4_count_X1_states : GoodIn wsX4_count wsX1_states := goodIn_r _ [51, 52, 64, 65, 66] (by decide +kernel) (by decide +kernel)
set_option maxRecDepth 20000 in
theorem gX4_count_X1_states : GoodIn wsX4_count (wsV RX4 121 RX1 yX1_states wsX1_states) := goodIn_app (goodIn_of _ (by decide +kernel)) ggX4_count_X1_states
set_option maxRecDepth 20000 in
theorem ggX4_count_X3_length : GoodIn wsX4_count wsX3_length := goodIn_r _ [57, 58, 67, 68, 69, 70, 71, 72, 73, 74] (by decide +kernel) (by decide +kernel)
set_option maxRecDepth 20000 in
theorem gX4_count_X3_length : GoodIn wsX4_count (wsV RX4 34 RX3 yX3_length wsX3_length) := goodIn_app (goodIn_of _ (by decide +kernel)) ggX4_count_X3_length
theorem dX4_count_0 : decode cX4_count 0 = .ok (.iload_n 1, 1) := by decide +kernel
theorem dX4_count_1 : decode cX4_count 1 = .ok (.tableswitch 158 0 9 #[55, 63, 71, 79, 110, 118, 126, 134, 142, 150], 55) := by decide +kernel
theorem dX4_count_56 : decode cX4_count 56 = .ok (.aload_n 0, 1) := by decide +kernel
theorem dX4_count_57 : decode cX4_count 57 = .ok (.getfield 10, 3) := by decide +kernel
theorem dX4_count_60 : decode cX4_count 60 = .ok (.invokevirtual 41, 3) := by decide +kernel
theorem dX4_count_63 : decode cX4_count 63 = .ok (.ireturn, 1) := by decide +kernel
theorem dX4_count_64 : decode cX4_count 64 = .ok (.aload_n 0, 1) := by decide +kernel
theorem dX4_count_65 : decode cX4_count 65 = .ok (.getfield 10, 3) := by decide +kernel
theorem dX4_count_68 : decode cX4_count 68 = .ok (.invokevirtual 80, 3) := by decide +kernel
theorem dX4_count_71 : decode cX4_count 71 = .ok (.ireturn, 1) := by decide +kernel
theorem dX4_count_72 : decode cX4_count 72 = .ok (.aload_n 0, 1) := by decide +kernel
theorem dX4_count_73 : decode cX4_count 73 = .ok (.getfield 10, 3) := by decide +kernel
theorem dX4_count_76 : decode cX4_count 76 = .ok (.invokevirtual 163, 3) := by decide +kernel
theorem dX4_count_79 : decode cX4_count 79 = .ok (.ireturn, 1) := by decide +kernel
theorem dX4_count_80 : decode cX4_count 80 = .ok (.aload_n 0, 1) := by decide +kernel
theorem dX4_count_81 : decode cX4_count 81 = .ok (.getfield 10, 3) := by decide +kernel
theorem dX4_count_84 : decode cX4_count 84 = .ok (.invokevirtual 98, 3) := by decide +kernel
theorem dX4_count_87 : decode cX4_count 87 = .ok (.iconst (-1), 1) := by decide +kernel
theorem dX4_count_88 : decode cX4_count 88 = .ok (.if_icmp .ne 7, 3) := by decide +kernel
theorem dX4_count_91 : decode cX4_count 91 = .ok (.iconst (-1), 1) := by decide +kernel
theorem dX4_count_92 : decode cX4_count 92 = .ok (.goto 18, 3) := by decide +kernel
theorem dX4_count_95 : decode cX4_count 95 = .ok (.aload_n 0, 1) := by decide +kernel
theorem dX4_count_96 : decode cX4_count 96 = .ok (.getfield 10, 3) := by decide +kernel
theorem dX4_count_99 : decode cX4_count 99 = .ok (.invokevirtual 163, 3) := by decide +kernel
theorem dX4_count_102 : decode cX4_count 102 = .ok (.aload_n 0, 1) := by decide +kernel
theorem dX4_count_103 : decode cX4_count 103 = .ok (.getfield 10, 3) := by decide +kernel
theorem dX4_count_106 : decode cX4_count 106 = .ok (.invokevirtual 98, 3) := by decide +kernel
theorem dX4_count_109 : decode cX4_count 109 = .ok (.isub, 1) := by decide +kernel
theorem dX4_count_110 : decode cX4_count 110 = .ok (.ireturn, 1) := by decide +kernel
theorem dX4_count_111 : decode cX4_count 111 = .ok (.aload_n 0, 1) := by decide +kernel
theorem dX4_count_112 : decode cX4_count 112 = .ok (.getfield 10, 3) := by decide +kernel
theorem dX4_count_115 : decode cX4_count 115 = .ok (.invokevirtual 166, 3) := by decide +kernel
theorem dX4_count_118 : decode cX4_count 118 = .ok (.ireturn, 1) := by decide +kernel
theorem dX4_count_119 : decode cX4_count 119 = .ok (.aload_n 0, 1) := by decide +kernel
theorem dX4_count_120 : decode cX4_count 120 = .ok (.getfield 10, 3) := by decide +kernel
theorem dX4_count_123 : decode cX4_count 123 = .ok (.invokevirtual 127, 3) := by decide +kernel
theorem dX4_count_126 : decode cX4_count 126 = .ok (.ireturn, 1) := by decide +kernel
theorem dX4_count_127 : decode cX4_count 127 = .ok (.aload_n 0, 1) := by decide +kernel
theorem dX4_count_128 : decode cX4_count 128 = .ok (.getfield 10, 3) := by decide +kernel
theorem dX4_count_131 : decode cX4_count 131 = .ok (.invokevirtual 169, 3) := by decide +kernel
theorem dX4_count_134 : decode cX4_count 134 = .ok (.ireturn, 1) := by decide +kernel
theorem dX4_count_135 : decode cX4_count 135 = .ok (.aload_n 0, 1) := by decide +kernel
theorem dX4_count_136 : decode cX4_count 136 = .ok (.getfield 10, 3) := by decide +kernel
theorem dX4_count_139 : decode cX4_count 139 = .ok (.invokevirtual 172, 3) := by decide +kernel
theorem dX4_count_142 : decode cX4_count 142 = .ok (.ireturn, 1) := by decide +kernel
theorem dX4_count_143 : decode cX4_count 143 = .ok (.aload_n 0, 1) := by decide +kernel
theorem dX4_count_144 : decode cX4_count 144 = .ok (.getfield 19, 3) := by decide +kernel
theorem dX4_count_147 : decode cX4_count 147 = .ok (.invokevirtual 121, 3) := by decide +kernel
theorem dX4_count_150 : decode cX4_count 150 = .ok (.ireturn, 1) := by decide +kernel
theorem dX4_count_151 : decode cX4_count 151 = .ok (.aload_n 0, 1) := by decide +kernel
theorem dX4_count_152 : decode cX4_count 152 = .ok (.getfield 26, 3) := by decide +kernel
theorem dX4_count_155 : decode cX4_count 155 = .ok (.invokevirtual 34, 3) := by decide +kernel
theorem dX4_count_158 : decode cX4_count 158 = .ok (.ireturn, 1) := by decide +kernel
theorem dX4_count_159 : decode cX4_count 159 = .ok (.bipush (-2), 2) := by decide +kernel
theorem dX4_count_161 : decode cX4_count 161 = .ok (.ireturn, 1) := by decide +kernel
set_option maxRecDepth 20000 in
theorem ggX4_digest_X4_count : GoodIn wsX4_digest wsX4_count := goodIn_r _ [9, 3, 10, 4, 11, 12, 13, 14, 15, 16, 17, 18, 19, 20, 21, 22, 23, 24, 25, 26, 27, 28, 29, 30, 31, 32, 33, 34, 35, 36, 37, 38, 39, 40, 41, 42, 43, 44, 45, 46, 47, 48, 49, 50, 51, 52, 53, 54, 55, 56, 57, 58, 59, 60, 61, 62, 63, 64, 65, 209, 210, 211, 212, 213, 214, 215, 216, 217, 218, 219, 220, 221, 222, 223, 224] (by decide +kernel) (by decide +kernel)
set_option maxRecDepth 20000 in
theorem gX4_digest_X4_count : GoodIn wsX4_digest (wsV RX4 179 RX4 yX4_count wsX4_count) := goodIn_app (goodIn_of _ (by decide +kernel)) ggX4_digest_X4_count
set_option maxRecDepth 20000 in
theorem ggX4_digest_X0_glasses : GoodIn wsX4_digest wsX0_glasses := goodIn_r _ [15, 16, 213] (by decide +kernel) (by decide +kernel)
set_option maxRecDepth 20000 in
theorem gX4_digest_X0_glasses : GoodIn wsX4_digest (wsV RX4 41 RX0 yX0_glasses wsX0_glasses) := goodIn_app (goodIn_of _ (by decide +kernel)) ggX4_digest_X0_glasses
set_option maxRecDepth 20000 in
theorem ggX4_digest_X4_glass : GoodIn wsX4_digest wsX4_glass := goodIn_r _ [69, 3, 70, 71, 72, 14, 73, 21, 12, 13, 15, 16, 74, 23, 24, 25, 75, 76, 77, 78, 22, 209, 210, 211, 212, 213] (by decide +kernel) (by decide +kernel)
set_option maxRecDepth 20000 in
theorem gX4_digest_X4_glass : GoodIn wsX4_digest (wsV RX4 182 RX4 yX4_glass wsX4_glass) := goodIn_app (goodIn_of _ (by decide +kernel)) ggX4_digest_X4_glass
set_option maxRecDepth 20000 in
theorem ggX4_digest_X0_eventsListed : GoodIn wsX4_digest wsX0_eventsListed := goodIn_r _ [41, 16, 42, 43, 44, 45, 213] (by decide +kernel) (by decide +kernel)
set_option maxRecDepth 20000 in
theorem gX4_digest_X0_eventsListed : GoodIn wsX4_digest (wsV RX4 127 RX0 yX0_eventsListed wsX0_eventsListed) := goodIn_app (goodIn_of _ (by decide +kernel)) ggX4_digest_X0_eventsListed
set_option maxRecDepth 20000 in
theorem ggX4_digest_X4_event : GoodIn wsX4_digest wsX4_event := goodIn_r _ [82, 3, 38, 39, 40, 14, 41, 16, 42, 43, 44, 45, 83, 84, 85, 86, 87, 88, 89, 209, 210, 211, 212, 213] (by decide +kernel) (by decide +kernel)
set_option maxRecDepth 20000 in
theorem gX4_digest_X4_event : GoodIn wsX4_digest (wsV RX4 185 RX4 yX4_event wsX4_event) := goodIn_app (goodIn_of _ (by decide +kernel)) ggX4_digest_X4_event
set_option maxRecDepth 20000 in
theorem ggX4_digest_X4_readyPlanner : GoodIn wsX4_digest wsX4_readyPlanner := goodIn_r _ [93, 94, 95, 96, 97, 3, 98, 99, 100, 101, 102, 103, 104, 105, 106, 107, 108, 109, 110, 111, 112, 113, 114, 115, 116, 117, 118, 119, 120, 121, 122, 12, 13, 14, 15, 16, 123, 23, 24, 25, 124, 125, 126, 127, 128, 129, 130, 131, 132, 133, 134, 135, 136, 137, 138, 139, 140, 141, 142, 143, 144, 145, 146, 147, 148, 149, 150, 151, 152, 153, 154, 155, 156, 157, 158, 159, 44, 160, 161, 162, 163, 209, 210, 211, 212, 225, 226, 227, 228, 229, 230, 231, 232, 233, 234, 235, 213] (by decide +kernel) (by decide +kernel)
set_option maxRecDepth 20000 in
theorem gX4_digest_X4_readyPlanner : GoodIn wsX4_digest (wsV RX4 136 RX4 yX4_readyPlanner wsX4_readyPlanner) := goodIn_app (goodIn_of _ (by decide +kernel)) ggX4_digest_X4_readyPlanner
set_option maxRecDepth 20000 in
theorem ggX4_digest_X2_leastCost : GoodIn wsX4_digest wsX2_leastCost := goodIn_r _ [167, 168, 169, 170, 97, 171, 117, 118, 172, 173, 174, 175, 116, 110, 176, 177, 178, 179, 180, 181, 182, 183, 108, 184, 185, 186, 187, 188, 189, 190, 191, 192, 225, 226, 227, 228, 229, 230, 231, 232, 233, 234, 235] (by decide +kernel) (by decide +kernel)
set_option maxRecDepth 20000 in
theorem gX4_digest_X2_leastCost : GoodIn wsX4_digest (wsV RX4 140 RX2 yX2_leastCost wsX2_leastCost) := goodIn_app (goodIn_of _ (by decide +kernel)) ggX4_digest_X2_leastCost
set_option maxRecDepth 20000 in
theorem ggX4_digest_X2_spansWithin : GoodIn wsX4_digest wsX2_spansWithin := goodIn_r _ [196, 117, 168, 169, 170, 97, 171, 118, 172, 173, 174, 175, 116, 110, 176, 177, 178, 179, 180, 181, 182, 183, 108, 184, 185, 186, 187, 188, 189, 225, 226, 227, 228, 229, 230, 231, 232, 233, 234, 235] (by decide +kernel) (by decide +kernel)
set_option maxRecDepth 20000 in
theorem gX4_digest_X2_spansWithin : GoodIn wsX4_digest (wsV RX4 149 RX2 yX2_spansWithin wsX2_spansWithin) := goodIn_app (goodIn_of _ (by decide +kernel)) ggX4_digest_X2_spansWithin
set_option maxRecDepth 20000 in
theorem ggX4_digest_J13_bitCount_95d88 : GoodIn wsX4_digest wsJ13_bitCount_95d88 := goodIn_r _ [200, 201, 202, 203] (by decide +kernel) (by decide +kernel)
set_option maxRecDepth 20000 in
theorem gX4_digest_J13_bitCount_95d88 : GoodIn wsX4_digest (va_wsS RX4 153 yJ13_bitCount_95d88 wsJ13_bitCount_95d88) := goodIn_app (goodIn_of _ (by decide +kernel)) ggX4_digest_J13_bitCount_95d88
set_option maxRecDepth 20000 in
theorem ggX4_digest_X3_length : GoodIn wsX4_digest wsX3_length := goodIn_r _ [64, 65, 217, 218, 219, 220, 221, 222, 223, 224] (by decide +kernel) (by decide +kernel)
set_option maxRecDepth 20000 in
theorem gX4_digest_X3_length : GoodIn wsX4_digest (wsV RX4 34 RX3 yX3_length wsX3_length) := goodIn_app (goodIn_of _ (by decide +kernel)) ggX4_digest_X3_length
set_option maxRecDepth 20000 in
theorem ggX4_digest_X3_byteAt : GoodIn wsX4_digest wsX3_byteAt := goodIn_r _ [207, 65, 208, 217, 218, 219, 220, 221, 222, 223, 224] (by decide +kernel) (by decide +kernel)
set_option maxRecDepth 20000 in
theorem gX4_digest_X3_byteAt : GoodIn wsX4_digest (wsV RX4 188 RX3 yX3_byteAt wsX3_byteAt) := goodIn_app (goodIn_of _ (by decide +kernel)) ggX4_digest_X3_byteAt
theorem dX4_digest_0 : decode cX4_digest 0 = .ok (.ldc2_w 175, 3) := by decide +kernel
theorem dX4_digest_3 : decode cX4_digest 3 = .ok (.lstore_n 1, 1) := by decide +kernel
theorem dX4_digest_4 : decode cX4_digest 4 = .ok (.iconst 0, 1) := by decide +kernel
theorem dX4_digest_5 : decode cX4_digest 5 = .ok (.istore_n 3, 1) := by decide +kernel
theorem dX4_digest_6 : decode cX4_digest 6 = .ok (.iload_n 3, 1) := by decide +kernel
theorem dX4_digest_7 : decode cX4_digest 7 = .ok (.bipush 9, 2) := by decide +kernel
theorem dX4_digest_9 : decode cX4_digest 9 = .ok (.if_icmp .gt 22, 3) := by decide +kernel
theorem dX4_digest_12 : decode cX4_digest 12 = .ok (.ldc2_w 177, 3) := by decide +kernel
theorem dX4_digest_15 : decode cX4_digest 15 = .ok (.lload_n 1, 1) := by decide +kernel
theorem dX4_digest_16 : decode cX4_digest 16 = .ok (.lmul, 1) := by decide +kernel
theorem dX4_digest_17 : decode cX4_digest 17 = .ok (.aload_n 0, 1) := by decide +kernel
theorem dX4_digest_18 : decode cX4_digest 18 = .ok (.iload_n 3, 1) := by decide +kernel
theorem dX4_digest_19 : decode cX4_digest 19 = .ok (.invokevirtual 179, 3) := by decide +kernel
theorem dX4_digest_22 : decode cX4_digest 22 = .ok (.i2l, 1) := by decide +kernel
theorem dX4_digest_23 : decode cX4_digest 23 = .ok (.ladd, 1) := by decide +kernel
theorem dX4_digest_24 : decode cX4_digest 24 = .ok (.lstore_n 1, 1) := by decide +kernel
theorem dX4_digest_25 : decode cX4_digest 25 = .ok (.iinc 3 1, 3) := by decide +kernel
theorem dX4_digest_28 : decode cX4_digest 28 = .ok (.goto (-22), 3) := by decide +kernel
theorem dX4_digest_31 : decode cX4_digest 31 = .ok (.iconst 0, 1) := by decide +kernel
theorem dX4_digest_32 : decode cX4_digest 32 = .ok (.istore_n 3, 1) := by decide +kernel
theorem dX4_digest_33 : decode cX4_digest 33 = .ok (.iload_n 3, 1) := by decide +kernel
theorem dX4_digest_34 : decode cX4_digest 34 = .ok (.aload_n 0, 1) := by decide +kernel
theorem dX4_digest_35 : decode cX4_digest 35 = .ok (.getfield 10, 3) := by decide +kernel
theorem dX4_digest_38 : decode cX4_digest 38 = .ok (.invokevirtual 41, 3) := by decide +kernel
theorem dX4_digest_41 : decode cX4_digest 41 = .ok (.if_icmp .ge 40, 3) := by decide +kernel
theorem dX4_digest_44 : decode cX4_digest 44 = .ok (.iconst 0, 1) := by decide +kernel
theorem dX4_digest_45 : decode cX4_digest 45 = .ok (.istore 4, 2) := by decide +kernel
theorem dX4_digest_47 : decode cX4_digest 47 = .ok (.iload 4, 2) := by decide +kernel
theorem dX4_digest_49 : decode cX4_digest 49 = .ok (.bipush 7, 2) := by decide +kernel
theorem dX4_digest_51 : decode cX4_digest 51 = .ok (.if_icmp .gt 24, 3) := by decide +kernel
theorem dX4_digest_54 : decode cX4_digest 54 = .ok (.ldc2_w 177, 3) := by decide +kernel
theorem dX4_digest_57 : decode cX4_digest 57 = .ok (.lload_n 1, 1) := by decide +kernel
theorem dX4_digest_58 : decode cX4_digest 58 = .ok (.lmul, 1) := by decide +kernel
theorem dX4_digest_59 : decode cX4_digest 59 = .ok (.aload_n 0, 1) := by decide +kernel
theorem dX4_digest_60 : decode cX4_digest 60 = .ok (.iload_n 3, 1) := by decide +kernel
theorem dX4_digest_61 : decode cX4_digest 61 = .ok (.iload 4, 2) := by decide +kernel
theorem dX4_digest_63 : decode cX4_digest 63 = .ok (.invokevirtual 182, 3) := by decide +kernel
theorem dX4_digest_66 : decode cX4_digest 66 = .ok (.i2l, 1) := by decide +kernel
theorem dX4_digest_67 : decode cX4_digest 67 = .ok (.ladd, 1) := by decide +kernel
theorem dX4_digest_68 : decode cX4_digest 68 = .ok (.lstore_n 1, 1) := by decide +kernel
theorem dX4_digest_69 : decode cX4_digest 69 = .ok (.iinc 4 1, 3) := by decide +kernel
theorem dX4_digest_72 : decode cX4_digest 72 = .ok (.goto (-25), 3) := by decide +kernel
theorem dX4_digest_75 : decode cX4_digest 75 = .ok (.iinc 3 1, 3) := by decide +kernel
theorem dX4_digest_78 : decode cX4_digest 78 = .ok (.goto (-45), 3) := by decide +kernel
theorem dX4_digest_81 : decode cX4_digest 81 = .ok (.iconst 0, 1) := by decide +kernel
theorem dX4_digest_82 : decode cX4_digest 82 = .ok (.istore_n 3, 1) := by decide +kernel
theorem dX4_digest_83 : decode cX4_digest 83 = .ok (.iload_n 3, 1) := by decide +kernel
theorem dX4_digest_84 : decode cX4_digest 84 = .ok (.aload_n 0, 1) := by decide +kernel
theorem dX4_digest_85 : decode cX4_digest 85 = .ok (.getfield 10, 3) := by decide +kernel
theorem dX4_digest_88 : decode cX4_digest 88 = .ok (.invokevirtual 127, 3) := by decide +kernel
theorem dX4_digest_91 : decode cX4_digest 91 = .ok (.if_icmp .ge 39, 3) := by decide +kernel
theorem dX4_digest_94 : decode cX4_digest 94 = .ok (.iconst 0, 1) := by decide +kernel
theorem dX4_digest_95 : decode cX4_digest 95 = .ok (.istore 4, 2) := by decide +kernel
theorem dX4_digest_97 : decode cX4_digest 97 = .ok (.iload 4, 2) := by decide +kernel
theorem dX4_digest_99 : decode cX4_digest 99 = .ok (.iconst 3, 1) := by decide +kernel
theorem dX4_digest_100 : decode cX4_digest 100 = .ok (.if_icmp .ge 24, 3) := by decide +kernel
theorem dX4_digest_103 : decode cX4_digest 103 = .ok (.ldc2_w 177, 3) := by decide +kernel
theorem dX4_digest_106 : decode cX4_digest 106 = .ok (.lload_n 1, 1) := by decide +kernel
theorem dX4_digest_107 : decode cX4_digest 107 = .ok (.lmul, 1) := by decide +kernel
theorem dX4_digest_108 : decode cX4_digest 108 = .ok (.aload_n 0, 1) := by decide +kernel
theorem dX4_digest_109 : decode cX4_digest 109 = .ok (.iload_n 3, 1) := by decide +kernel
theorem dX4_digest_110 : decode cX4_digest 110 = .ok (.iload 4, 2) := by decide +kernel
theorem dX4_digest_112 : decode cX4_digest 112 = .ok (.invokevirtual 185, 3) := by decide +kernel
theorem dX4_digest_115 : decode cX4_digest 115 = .ok (.i2l, 1) := by decide +kernel
theorem dX4_digest_116 : decode cX4_digest 116 = .ok (.ladd, 1) := by decide +kernel
theorem dX4_digest_117 : decode cX4_digest 117 = .ok (.lstore_n 1, 1) := by decide +kernel
theorem dX4_digest_118 : decode cX4_digest 118 = .ok (.iinc 4 1, 3) := by decide +kernel
theorem dX4_digest_121 : decode cX4_digest 121 = .ok (.goto (-24), 3) := by decide +kernel
theorem dX4_digest_124 : decode cX4_digest 124 = .ok (.iinc 3 1, 3) := by decide +kernel
theorem dX4_digest_127 : decode cX4_digest 127 = .ok (.goto (-44), 3) := by decide +kernel
theorem dX4_digest_130 : decode cX4_digest 130 = .ok (.aload_n 0, 1) := by decide +kernel
theorem dX4_digest_131 : decode cX4_digest 131 = .ok (.invokevirtual 136, 3) := by decide +kernel
theorem dX4_digest_134 : decode cX4_digest 134 = .ok (.astore_n 3, 1) := by decide +kernel
theorem dX4_digest_135 : decode cX4_digest 135 = .ok (.iconst 1, 1) := by decide +kernel
theorem dX4_digest_136 : decode cX4_digest 136 = .ok (.istore 4, 2) := by decide +kernel
theorem dX4_digest_138 : decode cX4_digest 138 = .ok (.iload 4, 2) := by decide +kernel
theorem dX4_digest_140 : decode cX4_digest 140 = .ok (.bipush 20, 2) := by decide +kernel
theorem dX4_digest_142 : decode cX4_digest 142 = .ok (.if_icmp .gt 23, 3) := by decide +kernel
theorem dX4_digest_145 : decode cX4_digest 145 = .ok (.ldc2_w 177, 3) := by decide +kernel
theorem dX4_digest_148 : decode cX4_digest 148 = .ok (.lload_n 1, 1) := by decide +kernel
theorem dX4_digest_149 : decode cX4_digest 149 = .ok (.lmul, 1) := by decide +kernel
theorem dX4_digest_150 : decode cX4_digest 150 = .ok (.aload_n 3, 1) := by decide +kernel
theorem dX4_digest_151 : decode cX4_digest 151 = .ok (.iload 4, 2) := by decide +kernel
theorem dX4_digest_153 : decode cX4_digest 153 = .ok (.invokevirtual 140, 3) := by decide +kernel
theorem dX4_digest_156 : decode cX4_digest 156 = .ok (.i2l, 1) := by decide +kernel
theorem dX4_digest_157 : decode cX4_digest 157 = .ok (.ladd, 1) := by decide +kernel
theorem dX4_digest_158 : decode cX4_digest 158 = .ok (.lstore_n 1, 1) := by decide +kernel
theorem dX4_digest_159 : decode cX4_digest 159 = .ok (.iinc 4 1, 3) := by decide +kernel
theorem dX4_digest_162 : decode cX4_digest 162 = .ok (.goto (-24), 3) := by decide +kernel
theorem dX4_digest_165 : decode cX4_digest 165 = .ok (.ldc2_w 177, 3) := by decide +kernel
theorem dX4_digest_168 : decode cX4_digest 168 = .ok (.lload_n 1, 1) := by decide +kernel
theorem dX4_digest_169 : decode cX4_digest 169 = .ok (.lmul, 1) := by decide +kernel
theorem dX4_digest_170 : decode cX4_digest 170 = .ok (.aload_n 3, 1) := by decide +kernel
theorem dX4_digest_171 : decode cX4_digest 171 = .ok (.iconst 3, 1) := by decide +kernel
theorem dX4_digest_172 : decode cX4_digest 172 = .ok (.invokevirtual 149, 3) := by decide +kernel
theorem dX4_digest_175 : decode cX4_digest 175 = .ok (.invokestatic 153, 3) := by decide +kernel
theorem dX4_digest_178 : decode cX4_digest 178 = .ok (.i2l, 1) := by decide +kernel
theorem dX4_digest_179 : decode cX4_digest 179 = .ok (.ladd, 1) := by decide +kernel
theorem dX4_digest_180 : decode cX4_digest 180 = .ok (.lstore_n 1, 1) := by decide +kernel
theorem dX4_digest_181 : decode cX4_digest 181 = .ok (.iconst 0, 1) := by decide +kernel
theorem dX4_digest_182 : decode cX4_digest 182 = .ok (.istore 4, 2) := by decide +kernel
theorem dX4_digest_184 : decode cX4_digest 184 = .ok (.iload 4, 2) := by decide +kernel
theorem dX4_digest_186 : decode cX4_digest 186 = .ok (.aload_n 0, 1) := by decide +kernel
theorem dX4_digest_187 : decode cX4_digest 187 = .ok (.getfield 26, 3) := by decide +kernel
theorem dX4_digest_190 : decode cX4_digest 190 = .ok (.invokevirtual 34, 3) := by decide +kernel
theorem dX4_digest_193 : decode cX4_digest 193 = .ok (.if_icmp .ge 26, 3) := by decide +kernel
theorem dX4_digest_196 : decode cX4_digest 196 = .ok (.ldc2_w 177, 3) := by decide +kernel
theorem dX4_digest_199 : decode cX4_digest 199 = .ok (.lload_n 1, 1) := by decide +kernel
theorem dX4_digest_200 : decode cX4_digest 200 = .ok (.lmul, 1) := by decide +kernel
theorem dX4_digest_201 : decode cX4_digest 201 = .ok (.aload_n 0, 1) := by decide +kernel
theorem dX4_digest_202 : decode cX4_digest 202 = .ok (.getfield 26, 3) := by decide +kernel
theorem dX4_digest_205 : decode cX4_digest 205 = .ok (.iload 4, 2) := by decide +kernel
theorem dX4_digest_207 : decode cX4_digest 207 = .ok (.invokevirtual 188, 3) := by decide +kernel
theorem dX4_digest_210 : decode cX4_digest 210 = .ok (.i2l, 1) := by decide +kernel
theorem dX4_digest_211 : decode cX4_digest 211 = .ok (.ladd, 1) := by decide +kernel
theorem dX4_digest_212 : decode cX4_digest 212 = .ok (.lstore_n 1, 1) := by decide +kernel
theorem dX4_digest_213 : decode cX4_digest 213 = .ok (.iinc 4 1, 3) := by decide +kernel
theorem dX4_digest_216 : decode cX4_digest 216 = .ok (.goto (-32), 3) := by decide +kernel
theorem dX4_digest_219 : decode cX4_digest 219 = .ok (.lload_n 1, 1) := by decide +kernel
theorem dX4_digest_220 : decode cX4_digest 220 = .ok (.lreturn, 1) := by decide +kernel
set_option maxRecDepth 20000 in
theorem ggX4_perform_X0_turnStackOf : GoodIn wsX4_perform wsX0_turnStackOf := goodIn_r _ [6, 7, 8, 9, 10, 5, 11, 12, 13, 14, 15, 16, 17, 18, 19, 20, 21, 22, 23, 72] (by decide +kernel) (by decide +kernel)
set_option maxRecDepth 20000 in
theorem gX4_perform_X0_turnStackOf : GoodIn wsX4_perform (wsV RX4 83 RX0 yX0_turnStackOf wsX0_turnStackOf) := goodIn_app (goodIn_of _ (by decide +kernel)) ggX4_perform_X0_turnStackOf
set_option maxRecDepth 20000 in
theorem ggX4_perform_X0_tapGlass : GoodIn wsX4_perform wsX0_tapGlass := goodIn_r _ [27, 7, 20, 21, 22, 5, 23, 16, 17, 18, 19, 72] (by decide +kernel) (by decide +kernel)
set_option maxRecDepth 20000 in
theorem gX4_perform_X0_tapGlass : GoodIn wsX4_perform (wsV RX4 86 RX0 yX0_tapGlass wsX0_tapGlass) := goodIn_app (goodIn_of _ (by decide +kernel)) ggX4_perform_X0_tapGlass
set_option maxRecDepth 20000 in
theorem ggX4_perform_X0_secondsToEvent : GoodIn wsX4_perform wsX0_secondsToEvent := goodIn_r _ [31, 12, 13, 14, 5, 15, 7, 32, 33, 34, 35, 8, 9, 10, 11, 36, 37, 38, 39, 40, 41, 42, 43, 72] (by decide +kernel) (by decide +kernel)
set_option maxRecDepth 20000 in
theorem gX4_perform_X0_secondsToEvent : GoodIn wsX4_perform (wsV RX4 95 RX0 yX0_secondsToEvent wsX0_secondsToEvent) := goodIn_app (goodIn_of _ (by decide +kernel)) ggX4_perform_X0_secondsToEvent
set_option maxRecDepth 20000 in
theorem ggX4_perform_X0_hasTimeFor : GoodIn wsX4_perform wsX0_hasTimeFor := goodIn_r _ [47, 7, 72] (by decide +kernel) (by decide +kernel)
set_option maxRecDepth 20000 in
theorem gX4_perform_X0_hasTimeFor : GoodIn wsX4_perform (wsV RX4 89 RX0 yX0_hasTimeFor wsX0_hasTimeFor) := goodIn_app (goodIn_of _ (by decide +kernel)) ggX4_perform_X0_hasTimeFor
set_option maxRecDepth 20000 in
theorem ggX4_perform_X0_letPass : GoodIn wsX4_perform wsX0_letPass := goodIn_r _ [51, 7, 52, 29, 30, 5, 31, 12, 13, 14, 15, 32, 33, 34, 35, 8, 9, 10, 11, 36, 37, 38, 39, 40, 41, 42, 43, 53, 54, 55, 56, 57, 58, 59, 60, 16, 17, 18, 19, 61, 62, 63, 64, 65, 66, 67, 72] (by decide +kernel) (by decide +kernel)
set_option maxRecDepth 20000 in
theorem gX4_perform_X0_letPass : GoodIn wsX4_perform (wsV RX4 92 RX0 yX0_letPass wsX0_letPass) := goodIn_app (goodIn_of _ (by decide +kernel)) ggX4_perform_X0_letPass
theorem dX4_perform_0 : decode cX4_perform 0 = .ok (.iload_n 1, 1) := by decide +kernel
theorem dX4_perform_1 : decode cX4_perform 1 = .ok (.bipush 116, 2) := by decide +kernel
theorem dX4_perform_3 : decode cX4_perform 3 = .ok (.if_icmp .ne 13, 3) := by decide +kernel
theorem dX4_perform_6 : decode cX4_perform 6 = .ok (.aload_n 0, 1) := by decide +kernel
theorem dX4_perform_7 : decode cX4_perform 7 = .ok (.getfield 10, 3) := by decide +kernel
theorem dX4_perform_10 : decode cX4_perform 10 = .ok (.iload_n 2, 1) := by decide +kernel
theorem dX4_perform_11 : decode cX4_perform 11 = .ok (.invokevirtual 83, 3) := by decide +kernel
theorem dX4_perform_14 : decode cX4_perform 14 = .ok (.iconst 1, 1) := by decide +kernel
theorem dX4_perform_15 : decode cX4_perform 15 = .ok (.ireturn, 1) := by decide +kernel
theorem dX4_perform_16 : decode cX4_perform 16 = .ok (.iload_n 1, 1) := by decide +kernel
theorem dX4_perform_17 : decode cX4_perform 17 = .ok (.bipush 107, 2) := by decide +kernel
theorem dX4_perform_19 : decode cX4_perform 19 = .ok (.if_icmp .ne 13, 3) := by decide +kernel
theorem dX4_perform_22 : decode cX4_perform 22 = .ok (.aload_n 0, 1) := by decide +kernel
theorem dX4_perform_23 : decode cX4_perform 23 = .ok (.getfield 10, 3) := by decide +kernel
theorem dX4_perform_26 : decode cX4_perform 26 = .ok (.iload_n 2, 1) := by decide +kernel
theorem dX4_perform_27 : decode cX4_perform 27 = .ok (.invokevirtual 86, 3) := by decide +kernel
theorem dX4_perform_30 : decode cX4_perform 30 = .ok (.iconst 1, 1) := by decide +kernel
theorem dX4_perform_31 : decode cX4_perform 31 = .ok (.ireturn, 1) := by decide +kernel
theorem dX4_perform_32 : decode cX4_perform 32 = .ok (.iload_n 1, 1) := by decide +kernel
theorem dX4_perform_33 : decode cX4_perform 33 = .ok (.bipush 119, 2) := by decide +kernel
theorem dX4_perform_35 : decode cX4_perform 35 = .ok (.if_icmp .ne 7, 3) := by decide +kernel
theorem dX4_perform_38 : decode cX4_perform 38 = .ok (.iload_n 2, 1) := by decide +kernel
theorem dX4_perform_39 : decode cX4_perform 39 = .ok (.goto 10, 3) := by decide +kernel
theorem dX4_perform_42 : decode cX4_perform 42 = .ok (.aload_n 0, 1) := by decide +kernel
theorem dX4_perform_43 : decode cX4_perform 43 = .ok (.getfield 10, 3) := by decide +kernel
theorem dX4_perform_46 : decode cX4_perform 46 = .ok (.invokevirtual 95, 3) := by decide +kernel
theorem dX4_perform_49 : decode cX4_perform 49 = .ok (.istore_n 3, 1) := by decide +kernel
theorem dX4_perform_50 : decode cX4_perform 50 = .ok (.aload_n 0, 1) := by decide +kernel
theorem dX4_perform_51 : decode cX4_perform 51 = .ok (.getfield 10, 3) := by decide +kernel
theorem dX4_perform_54 : decode cX4_perform 54 = .ok (.iload_n 3, 1) := by decide +kernel
theorem dX4_perform_55 : decode cX4_perform 55 = .ok (.invokevirtual 89, 3) := by decide +kernel
theorem dX4_perform_58 : decode cX4_perform 58 = .ok (.ifCond .ne 5, 3) := by decide +kernel
theorem dX4_perform_61 : decode cX4_perform 61 = .ok (.iconst 0, 1) := by decide +kernel
theorem dX4_perform_62 : decode cX4_perform 62 = .ok (.ireturn, 1) := by decide +kernel
theorem dX4_perform_63 : decode cX4_perform 63 = .ok (.aload_n 0, 1) := by decide +kernel
theorem dX4_perform_64 : decode cX4_perform 64 = .ok (.getfield 10, 3) := by decide +kernel
theorem dX4_perform_67 : decode cX4_perform 67 = .ok (.iload_n 3, 1) := by decide +kernel
theorem dX4_perform_68 : decode cX4_perform 68 = .ok (.invokevirtual 92, 3) := by decide +kernel
theorem dX4_perform_71 : decode cX4_perform 71 = .ok (.pop, 1) := by decide +kernel
theorem dX4_perform_72 : decode cX4_perform 72 = .ok (.iconst 1, 1) := by decide +kernel
theorem dX4_perform_73 : decode cX4_perform 73 = .ok (.ireturn, 1) := by decide +kernel
set_option maxRecDepth 20000 in
theorem ggX4_readyPlanner_X2_init : GoodIn wsX4_readyPlanner wsX2_init := goodIn_r _ [7, 8, 9, 10, 11, 12, 13, 14, 15, 16, 17, 18, 85, 86, 87, 88, 89, 90, 91, 92, 93, 94, 95] (by decide +kernel) (by decide +kernel)
set_option maxRecDepth 20000 in
theorem gX4_readyPlanner_X2_init_n195 : GoodIn wsX4_readyPlanner (wsX2_init) := ggX4_readyPlanner_X2_init
set_option maxRecDepth 20000 in
theorem ggX4_readyPlanner_X2_lookAt : GoodIn wsX4_readyPlanner wsX2_lookAt := goodIn_r _ [22, 11, 23, 24, 14, 25, 26, 27, 28, 4, 29, 30, 31, 32, 33, 34, 35, 36, 37, 38, 39, 40, 41, 42, 43, 13, 44, 45, 46, 47, 48, 49, 50, 51, 52, 53, 54, 55, 15, 56, 57, 58, 59, 60, 61, 62, 63, 16, 64, 65, 66, 67, 68, 69, 70, 71, 72, 73, 74, 75, 76, 77, 78, 79, 80, 85, 86, 87, 88, 89, 90, 91, 92, 93, 94, 95, 96] (by decide +kernel) (by decide +kernel)
set_option maxRecDepth 20000 in
theorem gX4_readyPlanner_X2_lookAt : GoodIn wsX4_readyPlanner (wsV RX4 196 RX2 yX2_lookAt wsX2_lookAt) := goodIn_app (goodIn_of _ (by decide +kernel)) ggX4_readyPlanner_X2_lookAt
theorem dX4_readyPlanner_0 : decode cX4_readyPlanner 0 = .ok (.aload_n 0, 1) := by decide +kernel
theorem dX4_readyPlanner_1 : decode cX4_readyPlanner 1 = .ok (.getfield 191, 3) := by decide +kernel
theorem dX4_readyPlanner_4 : decode cX4_readyPlanner 4 = .ok (.ifnonnull 14, 3) := by decide +kernel
theorem dX4_readyPlanner_7 : decode cX4_readyPlanner 7 = .ok (.aload_n 0, 1) := by decide +kernel
theorem dX4_readyPlanner_8 : decode cX4_readyPlanner 8 = .ok (.new 141, 3) := by decide +kernel
theorem dX4_readyPlanner_11 : decode cX4_readyPlanner 11 = .ok (.dup, 1) := by decide +kernel
theorem dX4_readyPlanner_12 : decode cX4_readyPlanner 12 = .ok (.invokespecial 195, 3) := by decide +kernel
theorem dX4_readyPlanner_15 : decode cX4_readyPlanner 15 = .ok (.putfield 191, 3) := by decide +kernel
theorem dX4_readyPlanner_18 : decode cX4_readyPlanner 18 = .ok (.aload_n 0, 1) := by decide +kernel
theorem dX4_readyPlanner_19 : decode cX4_readyPlanner 19 = .ok (.getfield 191, 3) := by decide +kernel
theorem dX4_readyPlanner_22 : decode cX4_readyPlanner 22 = .ok (.aload_n 0, 1) := by decide +kernel
theorem dX4_readyPlanner_23 : decode cX4_readyPlanner 23 = .ok (.getfield 10, 3) := by decide +kernel
theorem dX4_readyPlanner_26 : decode cX4_readyPlanner 26 = .ok (.invokevirtual 196, 3) := by decide +kernel
theorem dX4_readyPlanner_29 : decode cX4_readyPlanner 29 = .ok (.aload_n 0, 1) := by decide +kernel
theorem dX4_readyPlanner_30 : decode cX4_readyPlanner 30 = .ok (.getfield 191, 3) := by decide +kernel
theorem dX4_readyPlanner_33 : decode cX4_readyPlanner 33 = .ok (.areturn, 1) := by decide +kernel
theorem dX4_isSpan_0 : decode cX4_isSpan 0 = .ok (.iload_n 0, 1) := by decide +kernel
theorem dX4_isSpan_1 : decode cX4_isSpan 1 = .ok (.iconst 1, 1) := by decide +kernel
theorem dX4_isSpan_2 : decode cX4_isSpan 2 = .ok (.if_icmp .lt 13, 3) := by decide +kernel
theorem dX4_isSpan_5 : decode cX4_isSpan 5 = .ok (.iload_n 0, 1) := by decide +kernel
theorem dX4_isSpan_6 : decode cX4_isSpan 6 = .ok (.bipush 40, 2) := by decide +kernel
theorem dX4_isSpan_8 : decode cX4_isSpan 8 = .ok (.if_icmp .gt 7, 3) := by decide +kernel
theorem dX4_isSpan_11 : decode cX4_isSpan 11 = .ok (.iconst 1, 1) := by decide +kernel
theorem dX4_isSpan_12 : decode cX4_isSpan 12 = .ok (.goto 4, 3) := by decide +kernel
theorem dX4_isSpan_15 : decode cX4_isSpan 15 = .ok (.iconst 0, 1) := by decide +kernel
theorem dX4_isSpan_16 : decode cX4_isSpan 16 = .ok (.ireturn, 1) := by decide +kernel
theorem dX4_bitOf_0 : decode cX4_bitOf 0 = .ok (.iconst 0, 1) := by decide +kernel
theorem dX4_bitOf_1 : decode cX4_bitOf 1 = .ok (.istore_n 3, 1) := by decide +kernel
theorem dX4_bitOf_2 : decode cX4_bitOf 2 = .ok (.iconst 0, 1) := by decide +kernel
theorem dX4_bitOf_3 : decode cX4_bitOf 3 = .ok (.istore 4, 2) := by decide +kernel
theorem dX4_bitOf_5 : decode cX4_bitOf 5 = .ok (.iload 4, 2) := by decide +kernel
theorem dX4_bitOf_7 : decode cX4_bitOf 7 = .ok (.bipush 40, 2) := by decide +kernel
theorem dX4_bitOf_9 : decode cX4_bitOf 9 = .ok (.if_icmp .gt 31, 3) := by decide +kernel
theorem dX4_bitOf_12 : decode cX4_bitOf 12 = .ok (.lload_n 0, 1) := by decide +kernel
theorem dX4_bitOf_13 : decode cX4_bitOf 13 = .ok (.iload 4, 2) := by decide +kernel
theorem dX4_bitOf_15 : decode cX4_bitOf 15 = .ok (.lshr, 1) := by decide +kernel
theorem dX4_bitOf_16 : decode cX4_bitOf 16 = .ok (.lconst 1, 1) := by decide +kernel
theorem dX4_bitOf_17 : decode cX4_bitOf 17 = .ok (.land, 1) := by decide +kernel
theorem dX4_bitOf_18 : decode cX4_bitOf 18 = .ok (.lconst 1, 1) := by decide +kernel
theorem dX4_bitOf_19 : decode cX4_bitOf 19 = .ok (.lcmp, 1) := by decide +kernel
theorem dX4_bitOf_20 : decode cX4_bitOf 20 = .ok (.ifCond .ne 14, 3) := by decide +kernel
theorem dX4_bitOf_23 : decode cX4_bitOf 23 = .ok (.iload_n 3, 1) := by decide +kernel
theorem dX4_bitOf_24 : decode cX4_bitOf 24 = .ok (.iload_n 2, 1) := by decide +kernel
theorem dX4_bitOf_25 : decode cX4_bitOf 25 = .ok (.if_icmp .ne 6, 3) := by decide +kernel
theorem dX4_bitOf_28 : decode cX4_bitOf 28 = .ok (.iload 4, 2) := by decide +kernel
theorem dX4_bitOf_30 : decode cX4_bitOf 30 = .ok (.ireturn, 1) := by decide +kernel
theorem dX4_bitOf_31 : decode cX4_bitOf 31 = .ok (.iinc 3 1, 3) := by decide +kernel
theorem dX4_bitOf_34 : decode cX4_bitOf 34 = .ok (.iinc 4 1, 3) := by decide +kernel
theorem dX4_bitOf_37 : decode cX4_bitOf 37 = .ok (.goto (-32), 3) := by decide +kernel
theorem dX4_bitOf_40 : decode cX4_bitOf 40 = .ok (.iconst (-1), 1) := by decide +kernel
theorem dX4_bitOf_41 : decode cX4_bitOf 41 = .ok (.ireturn, 1) := by decide +kernel
set_option maxRecDepth 20000 in
theorem ggX5_init_X5_put : GoodIn wsX5_init wsX5_put := goodIn_r _ [24, 5, 25, 26, 27, 28, 29, 30, 31, 32, 33, 34, 35, 36, 37, 38, 39, 40, 41, 42, 43, 44, 45, 46] (by decide +kernel) (by decide +kernel)
set_option maxRecDepth 20000 in
theorem gX5_init_X5_put : GoodIn wsX5_init (wsV RX5 51 RX5 yX5_put wsX5_put) := goodIn_app (goodIn_of _ (by decide +kernel)) ggX5_init_X5_put
theorem dX5_init_0 : decode cX5_init 0 = .ok (.aload_n 0, 1) := by decide +kernel
theorem dX5_init_1 : decode cX5_init 1 = .ok (.invokespecial 1, 3) := by decide +kernel
theorem dX5_init_4 : decode cX5_init 4 = .ok (.aload_n 0, 1) := by decide +kernel
theorem dX5_init_5 : decode cX5_init 5 = .ok (.bipush 64, 2) := by decide +kernel
theorem dX5_init_7 : decode cX5_init 7 = .ok (.newarray .int, 2) := by decide +kernel
theorem dX5_init_9 : decode cX5_init 9 = .ok (.putfield 7, 3) := by decide +kernel
theorem dX5_init_12 : decode cX5_init 12 = .ok (.aload_n 0, 1) := by decide +kernel
theorem dX5_init_13 : decode cX5_init 13 = .ok (.sipush 512, 3) := by decide +kernel
theorem dX5_init_16 : decode cX5_init 16 = .ok (.newarray .int, 2) := by decide +kernel
theorem dX5_init_18 : decode cX5_init 18 = .ok (.putfield 13, 3) := by decide +kernel
theorem dX5_init_21 : decode cX5_init 21 = .ok (.aload_n 0, 1) := by decide +kernel
theorem dX5_init_22 : decode cX5_init 22 = .ok (.bipush 64, 2) := by decide +kernel
theorem dX5_init_24 : decode cX5_init 24 = .ok (.newarray .int, 2) := by decide +kernel
theorem dX5_init_26 : decode cX5_init 26 = .ok (.putfield 16, 3) := by decide +kernel
theorem dX5_init_29 : decode cX5_init 29 = .ok (.aload_n 0, 1) := by decide +kernel
theorem dX5_init_30 : decode cX5_init 30 = .ok (.bipush 60, 2) := by decide +kernel
theorem dX5_init_32 : decode cX5_init 32 = .ok (.newarray .int, 2) := by decide +kernel
theorem dX5_init_34 : decode cX5_init 34 = .ok (.putfield 19, 3) := by decide +kernel
theorem dX5_init_37 : decode cX5_init 37 = .ok (.aload_n 0, 1) := by decide +kernel
theorem dX5_init_38 : decode cX5_init 38 = .ok (.bipush 60, 2) := by decide +kernel
theorem dX5_init_40 : decode cX5_init 40 = .ok (.newarray .int, 2) := by decide +kernel
theorem dX5_init_42 : decode cX5_init 42 = .ok (.putfield 22, 3) := by decide +kernel
theorem dX5_init_45 : decode cX5_init 45 = .ok (.aload_n 0, 1) := by decide +kernel
theorem dX5_init_46 : decode cX5_init 46 = .ok (.bipush 60, 2) := by decide +kernel
theorem dX5_init_48 : decode cX5_init 48 = .ok (.newarray .int, 2) := by decide +kernel
theorem dX5_init_50 : decode cX5_init 50 = .ok (.putfield 25, 3) := by decide +kernel
theorem dX5_init_53 : decode cX5_init 53 = .ok (.aload_n 0, 1) := by decide +kernel
theorem dX5_init_54 : decode cX5_init 54 = .ok (.iconst 2, 1) := by decide +kernel
theorem dX5_init_55 : decode cX5_init 55 = .ok (.newarray .int, 2) := by decide +kernel
theorem dX5_init_57 : decode cX5_init 57 = .ok (.putfield 28, 3) := by decide +kernel
theorem dX5_init_60 : decode cX5_init 60 = .ok (.aload_n 0, 1) := by decide +kernel
theorem dX5_init_61 : decode cX5_init 61 = .ok (.iconst 2, 1) := by decide +kernel
theorem dX5_init_62 : decode cX5_init 62 = .ok (.newarray .int, 2) := by decide +kernel
theorem dX5_init_64 : decode cX5_init 64 = .ok (.putfield 31, 3) := by decide +kernel
theorem dX5_init_67 : decode cX5_init 67 = .ok (.aload_n 0, 1) := by decide +kernel
theorem dX5_init_68 : decode cX5_init 68 = .ok (.ldc 34, 2) := by decide +kernel
theorem dX5_init_70 : decode cX5_init 70 = .ok (.newarray .int, 2) := by decide +kernel
theorem dX5_init_72 : decode cX5_init 72 = .ok (.putfield 35, 3) := by decide +kernel
theorem dX5_init_75 : decode cX5_init 75 = .ok (.aload_n 0, 1) := by decide +kernel
theorem dX5_init_76 : decode cX5_init 76 = .ok (.bipush 9, 2) := by decide +kernel
theorem dX5_init_78 : decode cX5_init 78 = .ok (.newarray .int, 2) := by decide +kernel
theorem dX5_init_80 : decode cX5_init 80 = .ok (.putfield 38, 3) := by decide +kernel
theorem dX5_init_83 : decode cX5_init 83 = .ok (.aload_n 0, 1) := by decide +kernel
theorem dX5_init_84 : decode cX5_init 84 = .ok (.iconst 3, 1) := by decide +kernel
theorem dX5_init_85 : decode cX5_init 85 = .ok (.newarray .int, 2) := by decide +kernel
theorem dX5_init_87 : decode cX5_init 87 = .ok (.putfield 41, 3) := by decide +kernel
theorem dX5_init_90 : decode cX5_init 90 = .ok (.aload_n 0, 1) := by decide +kernel
theorem dX5_init_91 : decode cX5_init 91 = .ok (.iconst 3, 1) := by decide +kernel
theorem dX5_init_92 : decode cX5_init 92 = .ok (.newarray .boolean, 2) := by decide +kernel
theorem dX5_init_94 : decode cX5_init 94 = .ok (.putfield 44, 3) := by decide +kernel
theorem dX5_init_97 : decode cX5_init 97 = .ok (.aload_n 0, 1) := by decide +kernel
theorem dX5_init_98 : decode cX5_init 98 = .ok (.iconst 3, 1) := by decide +kernel
theorem dX5_init_99 : decode cX5_init 99 = .ok (.newarray .int, 2) := by decide +kernel
theorem dX5_init_101 : decode cX5_init 101 = .ok (.putfield 48, 3) := by decide +kernel
theorem dX5_init_104 : decode cX5_init 104 = .ok (.aload_n 0, 1) := by decide +kernel
theorem dX5_init_105 : decode cX5_init 105 = .ok (.getfield 7, 3) := by decide +kernel
theorem dX5_init_108 : decode cX5_init 108 = .ok (.bipush 21, 2) := by decide +kernel
theorem dX5_init_110 : decode cX5_init 110 = .ok (.iconst 3, 1) := by decide +kernel
theorem dX5_init_111 : decode cX5_init 111 = .ok (.iastore, 1) := by decide +kernel
theorem dX5_init_112 : decode cX5_init 112 = .ok (.aload_n 0, 1) := by decide +kernel
theorem dX5_init_113 : decode cX5_init 113 = .ok (.getfield 7, 3) := by decide +kernel
theorem dX5_init_116 : decode cX5_init 116 = .ok (.bipush 23, 2) := by decide +kernel
theorem dX5_init_118 : decode cX5_init 118 = .ok (.iconst (-1), 1) := by decide +kernel
theorem dX5_init_119 : decode cX5_init 119 = .ok (.iastore, 1) := by decide +kernel
theorem dX5_init_120 : decode cX5_init 120 = .ok (.iconst 0, 1) := by decide +kernel
theorem dX5_init_121 : decode cX5_init 121 = .ok (.istore_n 1, 1) := by decide +kernel
theorem dX5_init_122 : decode cX5_init 122 = .ok (.iload_n 1, 1) := by decide +kernel
theorem dX5_init_123 : decode cX5_init 123 = .ok (.iconst 3, 1) := by decide +kernel
theorem dX5_init_124 : decode cX5_init 124 = .ok (.if_icmp .ge 49, 3) := by decide +kernel
theorem dX5_init_127 : decode cX5_init 127 = .ok (.aload_n 0, 1) := by decide +kernel
theorem dX5_init_128 : decode cX5_init 128 = .ok (.iload_n 1, 1) := by decide +kernel
theorem dX5_init_129 : decode cX5_init 129 = .ok (.iconst 0, 1) := by decide +kernel
theorem dX5_init_130 : decode cX5_init 130 = .ok (.iload_n 1, 1) := by decide +kernel
theorem dX5_init_131 : decode cX5_init 131 = .ok (.ifCond .ne 7, 3) := by decide +kernel
theorem dX5_init_134 : decode cX5_init 134 = .ok (.iconst 3, 1) := by decide +kernel
theorem dX5_init_135 : decode cX5_init 135 = .ok (.goto 14, 3) := by decide +kernel
theorem dX5_init_138 : decode cX5_init 138 = .ok (.iload_n 1, 1) := by decide +kernel
theorem dX5_init_139 : decode cX5_init 139 = .ok (.iconst 1, 1) := by decide +kernel
theorem dX5_init_140 : decode cX5_init 140 = .ok (.if_icmp .ne 7, 3) := by decide +kernel
theorem dX5_init_143 : decode cX5_init 143 = .ok (.iconst 5, 1) := by decide +kernel
theorem dX5_init_144 : decode cX5_init 144 = .ok (.goto 5, 3) := by decide +kernel
theorem dX5_init_147 : decode cX5_init 147 = .ok (.bipush 8, 2) := by decide +kernel
theorem dX5_init_149 : decode cX5_init 149 = .ok (.invokevirtual 51, 3) := by decide +kernel
theorem dX5_init_152 : decode cX5_init 152 = .ok (.aload_n 0, 1) := by decide +kernel
theorem dX5_init_153 : decode cX5_init 153 = .ok (.iload_n 1, 1) := by decide +kernel
theorem dX5_init_154 : decode cX5_init 154 = .ok (.iconst 3, 1) := by decide +kernel
theorem dX5_init_155 : decode cX5_init 155 = .ok (.iconst 3, 1) := by decide +kernel
theorem dX5_init_156 : decode cX5_init 156 = .ok (.invokevirtual 51, 3) := by decide +kernel
theorem dX5_init_159 : decode cX5_init 159 = .ok (.aload_n 0, 1) := by decide +kernel
theorem dX5_init_160 : decode cX5_init 160 = .ok (.iload_n 1, 1) := by decide +kernel
theorem dX5_init_161 : decode cX5_init 161 = .ok (.bipush 6, 2) := by decide +kernel
theorem dX5_init_163 : decode cX5_init 163 = .ok (.iload_n 1, 1) := by decide +kernel
theorem dX5_init_164 : decode cX5_init 164 = .ok (.invokevirtual 51, 3) := by decide +kernel
theorem dX5_init_167 : decode cX5_init 167 = .ok (.iinc 1 1, 3) := by decide +kernel
theorem dX5_init_170 : decode cX5_init 170 = .ok (.goto (-48), 3) := by decide +kernel
theorem dX5_init_173 : decode cX5_init 173 = .ok (.return_, 1) := by decide +kernel
theorem dX5_in_0 : decode cX5_in 0 = .ok (.iload_n 0, 1) := by decide +kernel
theorem dX5_in_1 : decode cX5_in 1 = .ok (.iload_n 1, 1) := by decide +kernel
theorem dX5_in_2 : decode cX5_in 2 = .ok (.if_icmp .lt 12, 3) := by decide +kernel
theorem dX5_in_5 : decode cX5_in 5 = .ok (.iload_n 0, 1) := by decide +kernel
theorem dX5_in_6 : decode cX5_in 6 = .ok (.iload_n 2, 1) := by decide +kernel
theorem dX5_in_7 : decode cX5_in 7 = .ok (.if_icmp .gt 7, 3) := by decide +kernel
theorem dX5_in_10 : decode cX5_in 10 = .ok (.iconst 1, 1) := by decide +kernel
theorem dX5_in_11 : decode cX5_in 11 = .ok (.goto 4, 3) := by decide +kernel
theorem dX5_in_14 : decode cX5_in 14 = .ok (.iconst 0, 1) := by decide +kernel
theorem dX5_in_15 : decode cX5_in 15 = .ok (.ireturn, 1) := by decide +kernel
theorem dX5_of_0 : decode cX5_of 0 = .ok (.aload_n 0, 1) := by decide +kernel
theorem dX5_of_1 : decode cX5_of 1 = .ok (.getfield 7, 3) := by decide +kernel
theorem dX5_of_4 : decode cX5_of 4 = .ok (.bipush 7, 2) := by decide +kernel
theorem dX5_of_6 : decode cX5_of 6 = .ok (.iload_n 1, 1) := by decide +kernel
theorem dX5_of_7 : decode cX5_of 7 = .ok (.imul, 1) := by decide +kernel
theorem dX5_of_8 : decode cX5_of 8 = .ok (.iload_n 2, 1) := by decide +kernel
theorem dX5_of_9 : decode cX5_of 9 = .ok (.iadd, 1) := by decide +kernel
theorem dX5_of_10 : decode cX5_of 10 = .ok (.iaload, 1) := by decide +kernel
theorem dX5_of_11 : decode cX5_of 11 = .ok (.ireturn, 1) := by decide +kernel
theorem dX5_put_0 : decode cX5_put 0 = .ok (.aload_n 0, 1) := by decide +kernel
theorem dX5_put_1 : decode cX5_put 1 = .ok (.getfield 7, 3) := by decide +kernel
theorem dX5_put_4 : decode cX5_put 4 = .ok (.bipush 7, 2) := by decide +kernel
theorem dX5_put_6 : decode cX5_put 6 = .ok (.iload_n 1, 1) := by decide +kernel
theorem dX5_put_7 : decode cX5_put 7 = .ok (.imul, 1) := by decide +kernel
theorem dX5_put_8 : decode cX5_put 8 = .ok (.iload_n 2, 1) := by decide +kernel
theorem dX5_put_9 : decode cX5_put 9 = .ok (.iadd, 1) := by decide +kernel
theorem dX5_put_10 : decode cX5_put 10 = .ok (.iload_n 3, 1) := by decide +kernel
theorem dX5_put_11 : decode cX5_put 11 = .ok (.iastore, 1) := by decide +kernel
theorem dX5_put_12 : decode cX5_put 12 = .ok (.return_, 1) := by decide +kernel
set_option maxRecDepth 20000 in
theorem ggX5_isGlass_X5_in : GoodIn wsX5_isGlass wsX5_in := goodIn_r _ [5] (by decide +kernel) (by decide +kernel)
set_option maxRecDepth 20000 in
theorem gX5_isGlass_X5_in : GoodIn wsX5_isGlass (va_wsS RX5 55 yX5_in wsX5_in) := goodIn_app (goodIn_of _ (by decide +kernel)) ggX5_isGlass_X5_in
theorem dX5_isGlass_0 : decode cX5_isGlass 0 = .ok (.iload_n 1, 1) := by decide +kernel
theorem dX5_isGlass_1 : decode cX5_isGlass 1 = .ok (.iconst 0, 1) := by decide +kernel
theorem dX5_isGlass_2 : decode cX5_isGlass 2 = .ok (.aload_n 0, 1) := by decide +kernel
theorem dX5_isGlass_3 : decode cX5_isGlass 3 = .ok (.getfield 7, 3) := by decide +kernel
theorem dX5_isGlass_6 : decode cX5_isGlass 6 = .ok (.bipush 21, 2) := by decide +kernel
theorem dX5_isGlass_8 : decode cX5_isGlass 8 = .ok (.iaload, 1) := by decide +kernel
theorem dX5_isGlass_9 : decode cX5_isGlass 9 = .ok (.iconst 1, 1) := by decide +kernel
theorem dX5_isGlass_10 : decode cX5_isGlass 10 = .ok (.isub, 1) := by decide +kernel
theorem dX5_isGlass_11 : decode cX5_isGlass 11 = .ok (.invokestatic 55, 3) := by decide +kernel
theorem dX5_isGlass_14 : decode cX5_isGlass 14 = .ok (.ireturn, 1) := by decide +kernel
theorem dX5_keeps_0 : decode cX5_keeps 0 = .ok (.aload_n 0, 1) := by decide +kernel
theorem dX5_keeps_1 : decode cX5_keeps 1 = .ok (.getfield 59, 3) := by decide +kernel
theorem dX5_keeps_4 : decode cX5_keeps 4 = .ok (.bipush 8, 2) := by decide +kernel
theorem dX5_keeps_6 : decode cX5_keeps 6 = .ok (.if_icmp .ne 43, 3) := by decide +kernel
theorem dX5_keeps_9 : decode cX5_keeps 9 = .ok (.iconst 0, 1) := by decide +kernel
theorem dX5_keeps_10 : decode cX5_keeps 10 = .ok (.istore_n 1, 1) := by decide +kernel
theorem dX5_keeps_11 : decode cX5_keeps 11 = .ok (.iload_n 1, 1) := by decide +kernel
theorem dX5_keeps_12 : decode cX5_keeps 12 = .ok (.sipush 448, 3) := by decide +kernel
theorem dX5_keeps_15 : decode cX5_keeps 15 = .ok (.if_icmp .ge 24, 3) := by decide +kernel
theorem dX5_keeps_18 : decode cX5_keeps 18 = .ok (.aload_n 0, 1) := by decide +kernel
theorem dX5_keeps_19 : decode cX5_keeps 19 = .ok (.getfield 13, 3) := by decide +kernel
theorem dX5_keeps_22 : decode cX5_keeps 22 = .ok (.iload_n 1, 1) := by decide +kernel
theorem dX5_keeps_23 : decode cX5_keeps 23 = .ok (.aload_n 0, 1) := by decide +kernel
theorem dX5_keeps_24 : decode cX5_keeps 24 = .ok (.getfield 13, 3) := by decide +kernel
theorem dX5_keeps_27 : decode cX5_keeps 27 = .ok (.iload_n 1, 1) := by decide +kernel
theorem dX5_keeps_28 : decode cX5_keeps 28 = .ok (.bipush 64, 2) := by decide +kernel
theorem dX5_keeps_30 : decode cX5_keeps 30 = .ok (.iadd, 1) := by decide +kernel
theorem dX5_keeps_31 : decode cX5_keeps 31 = .ok (.iaload, 1) := by decide +kernel
theorem dX5_keeps_32 : decode cX5_keeps 32 = .ok (.iastore, 1) := by decide +kernel
theorem dX5_keeps_33 : decode cX5_keeps 33 = .ok (.iinc 1 1, 3) := by decide +kernel
theorem dX5_keeps_36 : decode cX5_keeps 36 = .ok (.goto (-25), 3) := by decide +kernel
theorem dX5_keeps_39 : decode cX5_keeps 39 = .ok (.aload_n 0, 1) := by decide +kernel
theorem dX5_keeps_40 : decode cX5_keeps 40 = .ok (.dup, 1) := by decide +kernel
theorem dX5_keeps_41 : decode cX5_keeps 41 = .ok (.getfield 59, 3) := by decide +kernel
theorem dX5_keeps_44 : decode cX5_keeps 44 = .ok (.iconst 1, 1) := by decide +kernel
theorem dX5_keeps_45 : decode cX5_keeps 45 = .ok (.isub, 1) := by decide +kernel
theorem dX5_keeps_46 : decode cX5_keeps 46 = .ok (.putfield 59, 3) := by decide +kernel
theorem dX5_keeps_49 : decode cX5_keeps 49 = .ok (.iconst 0, 1) := by decide +kernel
theorem dX5_keeps_50 : decode cX5_keeps 50 = .ok (.istore_n 1, 1) := by decide +kernel
theorem dX5_keeps_51 : decode cX5_keeps 51 = .ok (.iload_n 1, 1) := by decide +kernel
theorem dX5_keeps_52 : decode cX5_keeps 52 = .ok (.bipush 64, 2) := by decide +kernel
theorem dX5_keeps_54 : decode cX5_keeps 54 = .ok (.if_icmp .ge 29, 3) := by decide +kernel
theorem dX5_keeps_57 : decode cX5_keeps 57 = .ok (.aload_n 0, 1) := by decide +kernel
theorem dX5_keeps_58 : decode cX5_keeps 58 = .ok (.getfield 13, 3) := by decide +kernel
theorem dX5_keeps_61 : decode cX5_keeps 61 = .ok (.bipush 64, 2) := by decide +kernel
theorem dX5_keeps_63 : decode cX5_keeps 63 = .ok (.aload_n 0, 1) := by decide +kernel
theorem dX5_keeps_64 : decode cX5_keeps 64 = .ok (.getfield 59, 3) := by decide +kernel
theorem dX5_keeps_67 : decode cX5_keeps 67 = .ok (.imul, 1) := by decide +kernel
theorem dX5_keeps_68 : decode cX5_keeps 68 = .ok (.iload_n 1, 1) := by decide +kernel
theorem dX5_keeps_69 : decode cX5_keeps 69 = .ok (.iadd, 1) := by decide +kernel
theorem dX5_keeps_70 : decode cX5_keeps 70 = .ok (.aload_n 0, 1) := by decide +kernel
theorem dX5_keeps_71 : decode cX5_keeps 71 = .ok (.getfield 7, 3) := by decide +kernel
theorem dX5_keeps_74 : decode cX5_keeps 74 = .ok (.iload_n 1, 1) := by decide +kernel
theorem dX5_keeps_75 : decode cX5_keeps 75 = .ok (.iaload, 1) := by decide +kernel
theorem dX5_keeps_76 : decode cX5_keeps 76 = .ok (.iastore, 1) := by decide +kernel
theorem dX5_keeps_77 : decode cX5_keeps 77 = .ok (.iinc 1 1, 3) := by decide +kernel
theorem dX5_keeps_80 : decode cX5_keeps 80 = .ok (.goto (-29), 3) := by decide +kernel
theorem dX5_keeps_83 : decode cX5_keeps 83 = .ok (.aload_n 0, 1) := by decide +kernel
theorem dX5_keeps_84 : decode cX5_keeps 84 = .ok (.dup, 1) := by decide +kernel
theorem dX5_keeps_85 : decode cX5_keeps 85 = .ok (.getfield 59, 3) := by decide +kernel
theorem dX5_keeps_88 : decode cX5_keeps 88 = .ok (.iconst 1, 1) := by decide +kernel
theorem dX5_keeps_89 : decode cX5_keeps 89 = .ok (.iadd, 1) := by decide +kernel
theorem dX5_keeps_90 : decode cX5_keeps 90 = .ok (.putfield 59, 3) := by decide +kernel
theorem dX5_keeps_93 : decode cX5_keeps 93 = .ok (.return_, 1) := by decide +kernel
theorem dX5_undo_0 : decode cX5_undo 0 = .ok (.aload_n 0, 1) := by decide +kernel
theorem dX5_undo_1 : decode cX5_undo 1 = .ok (.getfield 59, 3) := by decide +kernel
theorem dX5_undo_4 : decode cX5_undo 4 = .ok (.ifCond .ne 6, 3) := by decide +kernel
theorem dX5_undo_7 : decode cX5_undo 7 = .ok (.bipush (-3), 2) := by decide +kernel
theorem dX5_undo_9 : decode cX5_undo 9 = .ok (.ireturn, 1) := by decide +kernel
theorem dX5_undo_10 : decode cX5_undo 10 = .ok (.aload_n 0, 1) := by decide +kernel
theorem dX5_undo_11 : decode cX5_undo 11 = .ok (.dup, 1) := by decide +kernel
theorem dX5_undo_12 : decode cX5_undo 12 = .ok (.getfield 59, 3) := by decide +kernel
theorem dX5_undo_15 : decode cX5_undo 15 = .ok (.iconst 1, 1) := by decide +kernel
theorem dX5_undo_16 : decode cX5_undo 16 = .ok (.isub, 1) := by decide +kernel
theorem dX5_undo_17 : decode cX5_undo 17 = .ok (.putfield 59, 3) := by decide +kernel
theorem dX5_undo_20 : decode cX5_undo 20 = .ok (.iconst 0, 1) := by decide +kernel
theorem dX5_undo_21 : decode cX5_undo 21 = .ok (.istore_n 1, 1) := by decide +kernel
theorem dX5_undo_22 : decode cX5_undo 22 = .ok (.iload_n 1, 1) := by decide +kernel
theorem dX5_undo_23 : decode cX5_undo 23 = .ok (.bipush 64, 2) := by decide +kernel
theorem dX5_undo_25 : decode cX5_undo 25 = .ok (.if_icmp .ge 29, 3) := by decide +kernel
theorem dX5_undo_28 : decode cX5_undo 28 = .ok (.aload_n 0, 1) := by decide +kernel
theorem dX5_undo_29 : decode cX5_undo 29 = .ok (.getfield 7, 3) := by decide +kernel
theorem dX5_undo_32 : decode cX5_undo 32 = .ok (.iload_n 1, 1) := by decide +kernel
theorem dX5_undo_33 : decode cX5_undo 33 = .ok (.aload_n 0, 1) := by decide +kernel
theorem dX5_undo_34 : decode cX5_undo 34 = .ok (.getfield 13, 3) := by decide +kernel
theorem dX5_undo_37 : decode cX5_undo 37 = .ok (.bipush 64, 2) := by decide +kernel
theorem dX5_undo_39 : decode cX5_undo 39 = .ok (.aload_n 0, 1) := by decide +kernel
theorem dX5_undo_40 : decode cX5_undo 40 = .ok (.getfield 59, 3) := by decide +kernel
theorem dX5_undo_43 : decode cX5_undo 43 = .ok (.imul, 1) := by decide +kernel
theorem dX5_undo_44 : decode cX5_undo 44 = .ok (.iload_n 1, 1) := by decide +kernel
theorem dX5_undo_45 : decode cX5_undo 45 = .ok (.iadd, 1) := by decide +kernel
theorem dX5_undo_46 : decode cX5_undo 46 = .ok (.iaload, 1) := by decide +kernel
theorem dX5_undo_47 : decode cX5_undo 47 = .ok (.iastore, 1) := by decide +kernel
theorem dX5_undo_48 : decode cX5_undo 48 = .ok (.iinc 1 1, 3) := by decide +kernel
theorem dX5_undo_51 : decode cX5_undo 51 = .ok (.goto (-29), 3) := by decide +kernel
theorem dX5_undo_54 : decode cX5_undo 54 = .ok (.aload_n 0, 1) := by decide +kernel
theorem dX5_undo_55 : decode cX5_undo 55 = .ok (.getfield 59, 3) := by decide +kernel
theorem dX5_undo_58 : decode cX5_undo 58 = .ok (.ireturn, 1) := by decide +kernel
set_option maxRecDepth 20000 in
theorem ggX5_runs_X5_of : GoodIn wsX5_runs wsX5_of := goodIn_r _ [5, 6, 7, 8, 9, 10, 11, 12, 13, 14, 15, 16, 17, 18, 19, 20, 21, 22, 23, 24, 25, 26, 27, 28] (by decide +kernel) (by decide +kernel)
set_option maxRecDepth 20000 in
theorem gX5_runs_X5_of : GoodIn wsX5_runs (wsV RX5 63 RX5 yX5_of wsX5_of) := goodIn_app (goodIn_of _ (by decide +kernel)) ggX5_runs_X5_of
theorem dX5_runs_0 : decode cX5_runs 0 = .ok (.aload_n 0, 1) := by decide +kernel
theorem dX5_runs_1 : decode cX5_runs 1 = .ok (.iload_n 1, 1) := by decide +kernel
theorem dX5_runs_2 : decode cX5_runs 2 = .ok (.iconst 1, 1) := by decide +kernel
theorem dX5_runs_3 : decode cX5_runs 3 = .ok (.invokevirtual 63, 3) := by decide +kernel
theorem dX5_runs_6 : decode cX5_runs 6 = .ok (.ifCond .le 26, 3) := by decide +kernel
theorem dX5_runs_9 : decode cX5_runs 9 = .ok (.aload_n 0, 1) := by decide +kernel
theorem dX5_runs_10 : decode cX5_runs 10 = .ok (.iload_n 1, 1) := by decide +kernel
theorem dX5_runs_11 : decode cX5_runs 11 = .ok (.iconst 2, 1) := by decide +kernel
theorem dX5_runs_12 : decode cX5_runs 12 = .ok (.invokevirtual 63, 3) := by decide +kernel
theorem dX5_runs_15 : decode cX5_runs 15 = .ok (.iconst 2, 1) := by decide +kernel
theorem dX5_runs_16 : decode cX5_runs 16 = .ok (.if_icmp .eq 16, 3) := by decide +kernel
theorem dX5_runs_19 : decode cX5_runs 19 = .ok (.aload_n 0, 1) := by decide +kernel
theorem dX5_runs_20 : decode cX5_runs 20 = .ok (.iload_n 1, 1) := by decide +kernel
theorem dX5_runs_21 : decode cX5_runs 21 = .ok (.iconst 4, 1) := by decide +kernel
theorem dX5_runs_22 : decode cX5_runs 22 = .ok (.invokevirtual 63, 3) := by decide +kernel
theorem dX5_runs_25 : decode cX5_runs 25 = .ok (.ifCond .ne 7, 3) := by decide +kernel
theorem dX5_runs_28 : decode cX5_runs 28 = .ok (.iconst 1, 1) := by decide +kernel
theorem dX5_runs_29 : decode cX5_runs 29 = .ok (.goto 4, 3) := by decide +kernel
theorem dX5_runs_32 : decode cX5_runs 32 = .ok (.iconst 0, 1) := by decide +kernel
theorem dX5_runs_33 : decode cX5_runs 33 = .ok (.ireturn, 1) := by decide +kernel
set_option maxRecDepth 20000 in
theorem ggX5_runsAny_X5_runs : GoodIn wsX5_runsAny wsX5_runs := goodIn_r _ [6, 7, 8, 9, 5, 10, 1, 11, 12, 13, 14, 15, 16, 17, 18, 19, 20, 21, 22, 23, 24, 25, 26, 27, 28, 29, 30, 31, 32] (by decide +kernel) (by decide +kernel)
set_option maxRecDepth 20000 in
theorem gX5_runsAny_X5_runs : GoodIn wsX5_runsAny (wsV RX5 67 RX5 yX5_runs wsX5_runs) := goodIn_app (goodIn_of _ (by decide +kernel)) ggX5_runsAny_X5_runs
theorem dX5_runsAny_0 : decode cX5_runsAny 0 = .ok (.iconst 0, 1) := by decide +kernel
theorem dX5_runsAny_1 : decode cX5_runsAny 1 = .ok (.istore_n 1, 1) := by decide +kernel
theorem dX5_runsAny_2 : decode cX5_runsAny 2 = .ok (.iconst 0, 1) := by decide +kernel
theorem dX5_runsAny_3 : decode cX5_runsAny 3 = .ok (.istore_n 2, 1) := by decide +kernel
theorem dX5_runsAny_4 : decode cX5_runsAny 4 = .ok (.iload_n 2, 1) := by decide +kernel
theorem dX5_runsAny_5 : decode cX5_runsAny 5 = .ok (.aload_n 0, 1) := by decide +kernel
theorem dX5_runsAny_6 : decode cX5_runsAny 6 = .ok (.getfield 7, 3) := by decide +kernel
theorem dX5_runsAny_9 : decode cX5_runsAny 9 = .ok (.bipush 21, 2) := by decide +kernel
theorem dX5_runsAny_11 : decode cX5_runsAny 11 = .ok (.iaload, 1) := by decide +kernel
theorem dX5_runsAny_12 : decode cX5_runsAny 12 = .ok (.if_icmp .ge 27, 3) := by decide +kernel
theorem dX5_runsAny_15 : decode cX5_runsAny 15 = .ok (.iload_n 1, 1) := by decide +kernel
theorem dX5_runsAny_16 : decode cX5_runsAny 16 = .ok (.ifCond .ne 11, 3) := by decide +kernel
theorem dX5_runsAny_19 : decode cX5_runsAny 19 = .ok (.aload_n 0, 1) := by decide +kernel
theorem dX5_runsAny_20 : decode cX5_runsAny 20 = .ok (.iload_n 2, 1) := by decide +kernel
theorem dX5_runsAny_21 : decode cX5_runsAny 21 = .ok (.invokevirtual 67, 3) := by decide +kernel
theorem dX5_runsAny_24 : decode cX5_runsAny 24 = .ok (.ifCond .eq 7, 3) := by decide +kernel
theorem dX5_runsAny_27 : decode cX5_runsAny 27 = .ok (.iconst 1, 1) := by decide +kernel
theorem dX5_runsAny_28 : decode cX5_runsAny 28 = .ok (.goto 4, 3) := by decide +kernel
theorem dX5_runsAny_31 : decode cX5_runsAny 31 = .ok (.iconst 0, 1) := by decide +kernel
theorem dX5_runsAny_32 : decode cX5_runsAny 32 = .ok (.istore_n 1, 1) := by decide +kernel
theorem dX5_runsAny_33 : decode cX5_runsAny 33 = .ok (.iinc 2 1, 3) := by decide +kernel
theorem dX5_runsAny_36 : decode cX5_runsAny 36 = .ok (.goto (-32), 3) := by decide +kernel
theorem dX5_runsAny_39 : decode cX5_runsAny 39 = .ok (.iload_n 1, 1) := by decide +kernel
theorem dX5_runsAny_40 : decode cX5_runsAny 40 = .ok (.ireturn, 1) := by decide +kernel
theorem dX5_writes_0 : decode cX5_writes 0 = .ok (.aload_n 0, 1) := by decide +kernel
theorem dX5_writes_1 : decode cX5_writes 1 = .ok (.getfield 7, 3) := by decide +kernel
theorem dX5_writes_4 : decode cX5_writes 4 = .ok (.bipush 27, 2) := by decide +kernel
theorem dX5_writes_6 : decode cX5_writes 6 = .ok (.iaload, 1) := by decide +kernel
theorem dX5_writes_7 : decode cX5_writes 7 = .ok (.bipush 12, 2) := by decide +kernel
theorem dX5_writes_9 : decode cX5_writes 9 = .ok (.if_icmp .ne 43, 3) := by decide +kernel
theorem dX5_writes_12 : decode cX5_writes 12 = .ok (.bipush 28, 2) := by decide +kernel
theorem dX5_writes_14 : decode cX5_writes 14 = .ok (.istore_n 3, 1) := by decide +kernel
theorem dX5_writes_15 : decode cX5_writes 15 = .ok (.iload_n 3, 1) := by decide +kernel
theorem dX5_writes_16 : decode cX5_writes 16 = .ok (.bipush 61, 2) := by decide +kernel
theorem dX5_writes_18 : decode cX5_writes 18 = .ok (.if_icmp .ge 23, 3) := by decide +kernel
theorem dX5_writes_21 : decode cX5_writes 21 = .ok (.aload_n 0, 1) := by decide +kernel
theorem dX5_writes_22 : decode cX5_writes 22 = .ok (.getfield 7, 3) := by decide +kernel
theorem dX5_writes_25 : decode cX5_writes 25 = .ok (.iload_n 3, 1) := by decide +kernel
theorem dX5_writes_26 : decode cX5_writes 26 = .ok (.aload_n 0, 1) := by decide +kernel
theorem dX5_writes_27 : decode cX5_writes 27 = .ok (.getfield 7, 3) := by decide +kernel
theorem dX5_writes_30 : decode cX5_writes 30 = .ok (.iload_n 3, 1) := by decide +kernel
theorem dX5_writes_31 : decode cX5_writes 31 = .ok (.iconst 3, 1) := by decide +kernel
theorem dX5_writes_32 : decode cX5_writes 32 = .ok (.iadd, 1) := by decide +kernel
theorem dX5_writes_33 : decode cX5_writes 33 = .ok (.iaload, 1) := by decide +kernel
theorem dX5_writes_34 : decode cX5_writes 34 = .ok (.iastore, 1) := by decide +kernel
theorem dX5_writes_35 : decode cX5_writes 35 = .ok (.iinc 3 1, 3) := by decide +kernel
theorem dX5_writes_38 : decode cX5_writes 38 = .ok (.goto (-23), 3) := by decide +kernel
theorem dX5_writes_41 : decode cX5_writes 41 = .ok (.aload_n 0, 1) := by decide +kernel
theorem dX5_writes_42 : decode cX5_writes 42 = .ok (.getfield 7, 3) := by decide +kernel
theorem dX5_writes_45 : decode cX5_writes 45 = .ok (.bipush 27, 2) := by decide +kernel
theorem dX5_writes_47 : decode cX5_writes 47 = .ok (.dup2, 1) := by decide +kernel
theorem dX5_writes_48 : decode cX5_writes 48 = .ok (.iaload, 1) := by decide +kernel
theorem dX5_writes_49 : decode cX5_writes 49 = .ok (.iconst 1, 1) := by decide +kernel
theorem dX5_writes_50 : decode cX5_writes 50 = .ok (.isub, 1) := by decide +kernel
theorem dX5_writes_51 : decode cX5_writes 51 = .ok (.iastore, 1) := by decide +kernel
theorem dX5_writes_52 : decode cX5_writes 52 = .ok (.bipush 28, 2) := by decide +kernel
theorem dX5_writes_54 : decode cX5_writes 54 = .ok (.iconst 3, 1) := by decide +kernel
theorem dX5_writes_55 : decode cX5_writes 55 = .ok (.aload_n 0, 1) := by decide +kernel
theorem dX5_writes_56 : decode cX5_writes 56 = .ok (.getfield 7, 3) := by decide +kernel
theorem dX5_writes_59 : decode cX5_writes 59 = .ok (.bipush 27, 2) := by decide +kernel
theorem dX5_writes_61 : decode cX5_writes 61 = .ok (.iaload, 1) := by decide +kernel
theorem dX5_writes_62 : decode cX5_writes 62 = .ok (.imul, 1) := by decide +kernel
theorem dX5_writes_63 : decode cX5_writes 63 = .ok (.iadd, 1) := by decide +kernel
theorem dX5_writes_64 : decode cX5_writes 64 = .ok (.istore_n 3, 1) := by decide +kernel
theorem dX5_writes_65 : decode cX5_writes 65 = .ok (.aload_n 0, 1) := by decide +kernel
theorem dX5_writes_66 : decode cX5_writes 66 = .ok (.getfield 7, 3) := by decide +kernel
theorem dX5_writes_69 : decode cX5_writes 69 = .ok (.iload_n 3, 1) := by decide +kernel
theorem dX5_writes_70 : decode cX5_writes 70 = .ok (.aload_n 0, 1) := by decide +kernel
theorem dX5_writes_71 : decode cX5_writes 71 = .ok (.getfield 7, 3) := by decide +kernel
theorem dX5_writes_74 : decode cX5_writes 74 = .ok (.bipush 22, 2) := by decide +kernel
theorem dX5_writes_76 : decode cX5_writes 76 = .ok (.iaload, 1) := by decide +kernel
theorem dX5_writes_77 : decode cX5_writes 77 = .ok (.iastore, 1) := by decide +kernel
theorem dX5_writes_78 : decode cX5_writes 78 = .ok (.aload_n 0, 1) := by decide +kernel
theorem dX5_writes_79 : decode cX5_writes 79 = .ok (.getfield 7, 3) := by decide +kernel
theorem dX5_writes_82 : decode cX5_writes 82 = .ok (.iload_n 3, 1) := by decide +kernel
theorem dX5_writes_83 : decode cX5_writes 83 = .ok (.iconst 1, 1) := by decide +kernel
theorem dX5_writes_84 : decode cX5_writes 84 = .ok (.iadd, 1) := by decide +kernel
theorem dX5_writes_85 : decode cX5_writes 85 = .ok (.iload_n 1, 1) := by decide +kernel
theorem dX5_writes_86 : decode cX5_writes 86 = .ok (.iastore, 1) := by decide +kernel
theorem dX5_writes_87 : decode cX5_writes 87 = .ok (.aload_n 0, 1) := by decide +kernel
theorem dX5_writes_88 : decode cX5_writes 88 = .ok (.getfield 7, 3) := by decide +kernel
theorem dX5_writes_91 : decode cX5_writes 91 = .ok (.iload_n 3, 1) := by decide +kernel
theorem dX5_writes_92 : decode cX5_writes 92 = .ok (.iconst 2, 1) := by decide +kernel
theorem dX5_writes_93 : decode cX5_writes 93 = .ok (.iadd, 1) := by decide +kernel
theorem dX5_writes_94 : decode cX5_writes 94 = .ok (.iload_n 2, 1) := by decide +kernel
theorem dX5_writes_95 : decode cX5_writes 95 = .ok (.iastore, 1) := by decide +kernel
theorem dX5_writes_96 : decode cX5_writes 96 = .ok (.aload_n 0, 1) := by decide +kernel
theorem dX5_writes_97 : decode cX5_writes 97 = .ok (.getfield 7, 3) := by decide +kernel
theorem dX5_writes_100 : decode cX5_writes 100 = .ok (.bipush 27, 2) := by decide +kernel
theorem dX5_writes_102 : decode cX5_writes 102 = .ok (.dup2, 1) := by decide +kernel
theorem dX5_writes_103 : decode cX5_writes 103 = .ok (.iaload, 1) := by decide +kernel
theorem dX5_writes_104 : decode cX5_writes 104 = .ok (.iconst 1, 1) := by decide +kernel
theorem dX5_writes_105 : decode cX5_writes 105 = .ok (.iadd, 1) := by decide +kernel
theorem dX5_writes_106 : decode cX5_writes 106 = .ok (.iastore, 1) := by decide +kernel
theorem dX5_writes_107 : decode cX5_writes 107 = .ok (.aload_n 0, 1) := by decide +kernel
theorem dX5_writes_108 : decode cX5_writes 108 = .ok (.getfield 7, 3) := by decide +kernel
theorem dX5_writes_111 : decode cX5_writes 111 = .ok (.bipush 24, 2) := by decide +kernel
theorem dX5_writes_113 : decode cX5_writes 113 = .ok (.dup2, 1) := by decide +kernel
theorem dX5_writes_114 : decode cX5_writes 114 = .ok (.iaload, 1) := by decide +kernel
theorem dX5_writes_115 : decode cX5_writes 115 = .ok (.iconst 1, 1) := by decide +kernel
theorem dX5_writes_116 : decode cX5_writes 116 = .ok (.iadd, 1) := by decide +kernel
theorem dX5_writes_117 : decode cX5_writes 117 = .ok (.iastore, 1) := by decide +kernel
theorem dX5_writes_118 : decode cX5_writes 118 = .ok (.return_, 1) := by decide +kernel
set_option maxRecDepth 20000 in
theorem ggX5_second_X5_runs : GoodIn wsX5_second wsX5_runs := goodIn_r _ [6, 7, 8, 9, 5, 10, 1, 19, 20, 21, 22, 23, 24, 25, 26, 27, 28, 29, 30, 31, 32, 33, 34, 35, 36, 37, 38, 39, 40] (by decide +kernel) (by decide +kernel)
set_option maxRecDepth 20000 in
theorem gX5_second_X5_runs : GoodIn wsX5_second (wsV RX5 67 RX5 yX5_runs wsX5_runs) := goodIn_app (goodIn_of _ (by decide +kernel)) ggX5_second_X5_runs
set_option maxRecDepth 20000 in
theorem ggX5_second_X5_of : GoodIn wsX5_second wsX5_of := goodIn_r _ [10, 1, 19, 20, 21, 22, 23, 24, 25, 26, 27, 28, 29, 30, 31, 32, 33, 34, 35, 36, 37, 38, 39, 40] (by decide +kernel) (by decide +kernel)
set_option maxRecDepth 20000 in
theorem gX5_second_X5_of : GoodIn wsX5_second (wsV RX5 63 RX5 yX5_of wsX5_of) := goodIn_app (goodIn_of _ (by decide +kernel)) ggX5_second_X5_of
set_option maxRecDepth 20000 in
theorem ggX5_second_X5_put : GoodIn wsX5_second wsX5_put := goodIn_r _ [14, 1, 19, 20, 21, 22, 23, 24, 25, 26, 27, 28, 29, 30, 31, 32, 33, 34, 35, 36, 37, 38, 39, 40] (by decide +kernel) (by decide +kernel)
set_option maxRecDepth 20000 in
theorem gX5_second_X5_put : GoodIn wsX5_second (wsV RX5 51 RX5 yX5_put wsX5_put) := goodIn_app (goodIn_of _ (by decide +kernel)) ggX5_second_X5_put
set_option maxRecDepth 20000 in
theorem ggX5_second_X5_writes : GoodIn wsX5_second wsX5_writes := goodIn_r _ [18, 1, 19, 20, 21, 22, 23, 24, 25, 26, 27, 28, 29, 30, 31, 32, 33, 34, 35, 36, 37, 38, 39, 40] (by decide +kernel) (by decide +kernel)
set_option maxRecDepth 20000 in
theorem gX5_second_X5_writes : GoodIn wsX5_second (wsV RX5 71 RX5 yX5_writes wsX5_writes) := goodIn_app (goodIn_of _ (by decide +kernel)) ggX5_second_X5_writes
theorem dX5_second_0 : decode cX5_second 0 = .ok (.iconst 0, 1) := by decide +kernel
theorem dX5_second_1 : decode cX5_second 1 = .ok (.istore_n 1, 1) := by decide +kernel
theorem dX5_second_2 : decode cX5_second 2 = .ok (.iconst 0, 1) := by decide +kernel
theorem dX5_second_3 : decode cX5_second 3 = .ok (.istore_n 2, 1) := by decide +kernel
theorem dX5_second_4 : decode cX5_second 4 = .ok (.iload_n 2, 1) := by decide +kernel
theorem dX5_second_5 : decode cX5_second 5 = .ok (.aload_n 0, 1) := by decide +kernel
theorem dX5_second_6 : decode cX5_second 6 = .ok (.getfield 7, 3) := by decide +kernel
theorem dX5_second_9 : decode cX5_second 9 = .ok (.bipush 21, 2) := by decide +kernel
theorem dX5_second_11 : decode cX5_second 11 = .ok (.iaload, 1) := by decide +kernel
theorem dX5_second_12 : decode cX5_second 12 = .ok (.if_icmp .ge 65, 3) := by decide +kernel
theorem dX5_second_15 : decode cX5_second 15 = .ok (.aload_n 0, 1) := by decide +kernel
theorem dX5_second_16 : decode cX5_second 16 = .ok (.iload_n 2, 1) := by decide +kernel
theorem dX5_second_17 : decode cX5_second 17 = .ok (.invokevirtual 67, 3) := by decide +kernel
theorem dX5_second_20 : decode cX5_second 20 = .ok (.ifCond .eq 51, 3) := by decide +kernel
theorem dX5_second_23 : decode cX5_second 23 = .ok (.iload_n 1, 1) := by decide +kernel
theorem dX5_second_24 : decode cX5_second 24 = .ok (.iconst 1, 1) := by decide +kernel
theorem dX5_second_25 : decode cX5_second 25 = .ok (.iload_n 2, 1) := by decide +kernel
theorem dX5_second_26 : decode cX5_second 26 = .ok (.ishl, 1) := by decide +kernel
theorem dX5_second_27 : decode cX5_second 27 = .ok (.ior, 1) := by decide +kernel
theorem dX5_second_28 : decode cX5_second 28 = .ok (.istore_n 1, 1) := by decide +kernel
theorem dX5_second_29 : decode cX5_second 29 = .ok (.aload_n 0, 1) := by decide +kernel
theorem dX5_second_30 : decode cX5_second 30 = .ok (.iload_n 2, 1) := by decide +kernel
theorem dX5_second_31 : decode cX5_second 31 = .ok (.iconst 1, 1) := by decide +kernel
theorem dX5_second_32 : decode cX5_second 32 = .ok (.aload_n 0, 1) := by decide +kernel
theorem dX5_second_33 : decode cX5_second 33 = .ok (.iload_n 2, 1) := by decide +kernel
theorem dX5_second_34 : decode cX5_second 34 = .ok (.iconst 1, 1) := by decide +kernel
theorem dX5_second_35 : decode cX5_second 35 = .ok (.invokevirtual 63, 3) := by decide +kernel
theorem dX5_second_38 : decode cX5_second 38 = .ok (.iconst 1, 1) := by decide +kernel
theorem dX5_second_39 : decode cX5_second 39 = .ok (.isub, 1) := by decide +kernel
theorem dX5_second_40 : decode cX5_second 40 = .ok (.invokevirtual 51, 3) := by decide +kernel
theorem dX5_second_43 : decode cX5_second 43 = .ok (.aload_n 0, 1) := by decide +kernel
theorem dX5_second_44 : decode cX5_second 44 = .ok (.iload_n 2, 1) := by decide +kernel
theorem dX5_second_45 : decode cX5_second 45 = .ok (.iconst 5, 1) := by decide +kernel
theorem dX5_second_46 : decode cX5_second 46 = .ok (.aload_n 0, 1) := by decide +kernel
theorem dX5_second_47 : decode cX5_second 47 = .ok (.iload_n 2, 1) := by decide +kernel
theorem dX5_second_48 : decode cX5_second 48 = .ok (.iconst 5, 1) := by decide +kernel
theorem dX5_second_49 : decode cX5_second 49 = .ok (.invokevirtual 63, 3) := by decide +kernel
theorem dX5_second_52 : decode cX5_second 52 = .ok (.aload_n 0, 1) := by decide +kernel
theorem dX5_second_53 : decode cX5_second 53 = .ok (.iload_n 2, 1) := by decide +kernel
theorem dX5_second_54 : decode cX5_second 54 = .ok (.iconst 2, 1) := by decide +kernel
theorem dX5_second_55 : decode cX5_second 55 = .ok (.invokevirtual 63, 3) := by decide +kernel
theorem dX5_second_58 : decode cX5_second 58 = .ok (.iconst 1, 1) := by decide +kernel
theorem dX5_second_59 : decode cX5_second 59 = .ok (.if_icmp .ne 7, 3) := by decide +kernel
theorem dX5_second_62 : decode cX5_second 62 = .ok (.iconst 1, 1) := by decide +kernel
theorem dX5_second_63 : decode cX5_second 63 = .ok (.goto 4, 3) := by decide +kernel
theorem dX5_second_66 : decode cX5_second 66 = .ok (.iconst 0, 1) := by decide +kernel
theorem dX5_second_67 : decode cX5_second 67 = .ok (.iadd, 1) := by decide +kernel
theorem dX5_second_68 : decode cX5_second 68 = .ok (.invokevirtual 51, 3) := by decide +kernel
theorem dX5_second_71 : decode cX5_second 71 = .ok (.iinc 2 1, 3) := by decide +kernel
theorem dX5_second_74 : decode cX5_second 74 = .ok (.goto (-70), 3) := by decide +kernel
theorem dX5_second_77 : decode cX5_second 77 = .ok (.aload_n 0, 1) := by decide +kernel
theorem dX5_second_78 : decode cX5_second 78 = .ok (.getfield 7, 3) := by decide +kernel
theorem dX5_second_81 : decode cX5_second 81 = .ok (.bipush 22, 2) := by decide +kernel
theorem dX5_second_83 : decode cX5_second 83 = .ok (.dup2, 1) := by decide +kernel
theorem dX5_second_84 : decode cX5_second 84 = .ok (.iaload, 1) := by decide +kernel
theorem dX5_second_85 : decode cX5_second 85 = .ok (.iconst 1, 1) := by decide +kernel
theorem dX5_second_86 : decode cX5_second 86 = .ok (.iadd, 1) := by decide +kernel
theorem dX5_second_87 : decode cX5_second 87 = .ok (.iastore, 1) := by decide +kernel
theorem dX5_second_88 : decode cX5_second 88 = .ok (.iconst 0, 1) := by decide +kernel
theorem dX5_second_89 : decode cX5_second 89 = .ok (.istore_n 2, 1) := by decide +kernel
theorem dX5_second_90 : decode cX5_second 90 = .ok (.iconst 0, 1) := by decide +kernel
theorem dX5_second_91 : decode cX5_second 91 = .ok (.istore_n 3, 1) := by decide +kernel
theorem dX5_second_92 : decode cX5_second 92 = .ok (.iload_n 3, 1) := by decide +kernel
theorem dX5_second_93 : decode cX5_second 93 = .ok (.aload_n 0, 1) := by decide +kernel
theorem dX5_second_94 : decode cX5_second 94 = .ok (.getfield 7, 3) := by decide +kernel
theorem dX5_second_97 : decode cX5_second 97 = .ok (.bipush 21, 2) := by decide +kernel
theorem dX5_second_99 : decode cX5_second 99 = .ok (.iaload, 1) := by decide +kernel
theorem dX5_second_100 : decode cX5_second 100 = .ok (.if_icmp .ge 137, 3) := by decide +kernel
theorem dX5_second_103 : decode cX5_second 103 = .ok (.iload_n 1, 1) := by decide +kernel
theorem dX5_second_104 : decode cX5_second 104 = .ok (.iload_n 3, 1) := by decide +kernel
theorem dX5_second_105 : decode cX5_second 105 = .ok (.ishr, 1) := by decide +kernel
theorem dX5_second_106 : decode cX5_second 106 = .ok (.iconst 1, 1) := by decide +kernel
theorem dX5_second_107 : decode cX5_second 107 = .ok (.iand, 1) := by decide +kernel
theorem dX5_second_108 : decode cX5_second 108 = .ok (.iconst 1, 1) := by decide +kernel
theorem dX5_second_109 : decode cX5_second 109 = .ok (.if_icmp .ne 7, 3) := by decide +kernel
theorem dX5_second_112 : decode cX5_second 112 = .ok (.iconst 1, 1) := by decide +kernel
theorem dX5_second_113 : decode cX5_second 113 = .ok (.goto 4, 3) := by decide +kernel
theorem dX5_second_116 : decode cX5_second 116 = .ok (.iconst 0, 1) := by decide +kernel
theorem dX5_second_117 : decode cX5_second 117 = .ok (.istore 4, 2) := by decide +kernel
theorem dX5_second_119 : decode cX5_second 119 = .ok (.iload 4, 2) := by decide +kernel
theorem dX5_second_121 : decode cX5_second 121 = .ok (.ifCond .eq 16, 3) := by decide +kernel
theorem dX5_second_124 : decode cX5_second 124 = .ok (.aload_n 0, 1) := by decide +kernel
theorem dX5_second_125 : decode cX5_second 125 = .ok (.iload_n 3, 1) := by decide +kernel
theorem dX5_second_126 : decode cX5_second 126 = .ok (.iconst 1, 1) := by decide +kernel
theorem dX5_second_127 : decode cX5_second 127 = .ok (.invokevirtual 63, 3) := by decide +kernel
theorem dX5_second_130 : decode cX5_second 130 = .ok (.ifCond .ne 7, 3) := by decide +kernel
theorem dX5_second_133 : decode cX5_second 133 = .ok (.iconst 1, 1) := by decide +kernel
theorem dX5_second_134 : decode cX5_second 134 = .ok (.goto 4, 3) := by decide +kernel
theorem dX5_second_137 : decode cX5_second 137 = .ok (.iconst 0, 1) := by decide +kernel
theorem dX5_second_138 : decode cX5_second 138 = .ok (.istore 5, 2) := by decide +kernel
theorem dX5_second_140 : decode cX5_second 140 = .ok (.iload 4, 2) := by decide +kernel
theorem dX5_second_142 : decode cX5_second 142 = .ok (.ifCond .eq 37, 3) := by decide +kernel
theorem dX5_second_145 : decode cX5_second 145 = .ok (.iload 5, 2) := by decide +kernel
theorem dX5_second_147 : decode cX5_second 147 = .ok (.ifCond .ne 32, 3) := by decide +kernel
theorem dX5_second_150 : decode cX5_second 150 = .ok (.aload_n 0, 1) := by decide +kernel
theorem dX5_second_151 : decode cX5_second 151 = .ok (.iload_n 3, 1) := by decide +kernel
theorem dX5_second_152 : decode cX5_second 152 = .ok (.iconst 2, 1) := by decide +kernel
theorem dX5_second_153 : decode cX5_second 153 = .ok (.invokevirtual 63, 3) := by decide +kernel
theorem dX5_second_156 : decode cX5_second 156 = .ok (.iconst 1, 1) := by decide +kernel
theorem dX5_second_157 : decode cX5_second 157 = .ok (.if_icmp .ne 22, 3) := by decide +kernel
theorem dX5_second_160 : decode cX5_second 160 = .ok (.aload_n 0, 1) := by decide +kernel
theorem dX5_second_161 : decode cX5_second 161 = .ok (.iload_n 3, 1) := by decide +kernel
theorem dX5_second_162 : decode cX5_second 162 = .ok (.iconst 5, 1) := by decide +kernel
theorem dX5_second_163 : decode cX5_second 163 = .ok (.invokevirtual 63, 3) := by decide +kernel
theorem dX5_second_166 : decode cX5_second 166 = .ok (.aload_n 0, 1) := by decide +kernel
theorem dX5_second_167 : decode cX5_second 167 = .ok (.iload_n 3, 1) := by decide +kernel
theorem dX5_second_168 : decode cX5_second 168 = .ok (.iconst 3, 1) := by decide +kernel
theorem dX5_second_169 : decode cX5_second 169 = .ok (.invokevirtual 63, 3) := by decide +kernel
theorem dX5_second_172 : decode cX5_second 172 = .ok (.if_icmp .lt 7, 3) := by decide +kernel
theorem dX5_second_175 : decode cX5_second 175 = .ok (.iconst 1, 1) := by decide +kernel
theorem dX5_second_176 : decode cX5_second 176 = .ok (.goto 4, 3) := by decide +kernel
theorem dX5_second_179 : decode cX5_second 179 = .ok (.iconst 0, 1) := by decide +kernel
theorem dX5_second_180 : decode cX5_second 180 = .ok (.istore 6, 2) := by decide +kernel
theorem dX5_second_182 : decode cX5_second 182 = .ok (.aload_n 0, 1) := by decide +kernel
theorem dX5_second_183 : decode cX5_second 183 = .ok (.iload_n 3, 1) := by decide +kernel
theorem dX5_second_184 : decode cX5_second 184 = .ok (.iconst 4, 1) := by decide +kernel
theorem dX5_second_185 : decode cX5_second 185 = .ok (.iload 6, 2) := by decide +kernel
theorem dX5_second_187 : decode cX5_second 187 = .ok (.ifCond .eq 7, 3) := by decide +kernel
theorem dX5_second_190 : decode cX5_second 190 = .ok (.iconst 1, 1) := by decide +kernel
theorem dX5_second_191 : decode cX5_second 191 = .ok (.goto 9, 3) := by decide +kernel
theorem dX5_second_194 : decode cX5_second 194 = .ok (.aload_n 0, 1) := by decide +kernel
theorem dX5_second_195 : decode cX5_second 195 = .ok (.iload_n 3, 1) := by decide +kernel
theorem dX5_second_196 : decode cX5_second 196 = .ok (.iconst 4, 1) := by decide +kernel
theorem dX5_second_197 : decode cX5_second 197 = .ok (.invokevirtual 63, 3) := by decide +kernel
theorem dX5_second_200 : decode cX5_second 200 = .ok (.invokevirtual 51, 3) := by decide +kernel
theorem dX5_second_203 : decode cX5_second 203 = .ok (.iload 5, 2) := by decide +kernel
theorem dX5_second_205 : decode cX5_second 205 = .ok (.ifCond .ne 8, 3) := by decide +kernel
theorem dX5_second_208 : decode cX5_second 208 = .ok (.iload 6, 2) := by decide +kernel
theorem dX5_second_210 : decode cX5_second 210 = .ok (.ifCond .eq 21, 3) := by decide +kernel
theorem dX5_second_213 : decode cX5_second 213 = .ok (.aload_n 0, 1) := by decide +kernel
theorem dX5_second_214 : decode cX5_second 214 = .ok (.iload_n 3, 1) := by decide +kernel
theorem dX5_second_215 : decode cX5_second 215 = .ok (.iload 5, 2) := by decide +kernel
theorem dX5_second_217 : decode cX5_second 217 = .ok (.ifCond .eq 7, 3) := by decide +kernel
theorem dX5_second_220 : decode cX5_second 220 = .ok (.iconst 0, 1) := by decide +kernel
theorem dX5_second_221 : decode cX5_second 221 = .ok (.goto 4, 3) := by decide +kernel
theorem dX5_second_224 : decode cX5_second 224 = .ok (.iconst 1, 1) := by decide +kernel
theorem dX5_second_225 : decode cX5_second 225 = .ok (.invokevirtual 71, 3) := by decide +kernel
theorem dX5_second_228 : decode cX5_second 228 = .ok (.iinc 2 1, 3) := by decide +kernel
theorem dX5_second_231 : decode cX5_second 231 = .ok (.iinc 3 1, 3) := by decide +kernel
theorem dX5_second_234 : decode cX5_second 234 = .ok (.goto (-142), 3) := by decide +kernel
theorem dX5_second_237 : decode cX5_second 237 = .ok (.iload_n 2, 1) := by decide +kernel
theorem dX5_second_238 : decode cX5_second 238 = .ok (.ireturn, 1) := by decide +kernel
set_option maxRecDepth 20000 in
theorem ggX5_untilEvent_X5_second : GoodIn wsX5_untilEvent wsX5_second := goodIn_r _ [7, 2, 8, 9, 10, 6, 11, 12, 13, 14, 15, 16, 17, 18, 19, 20, 21, 22, 23, 24, 25, 26, 27, 28, 29, 30, 31, 32, 33, 34, 35, 36, 37, 38, 39, 40, 41, 42, 43, 44, 45] (by decide +kernel) (by decide +kernel)
set_option maxRecDepth 20000 in
theorem gX5_untilEvent_X5_second : GoodIn wsX5_untilEvent (wsV RX5 75 RX5 yX5_second wsX5_second) := goodIn_app (goodIn_of _ (by decide +kernel)) ggX5_untilEvent_X5_second
theorem dX5_untilEvent_0 : decode cX5_untilEvent 0 = .ok (.iconst 0, 1) := by decide +kernel
theorem dX5_untilEvent_1 : decode cX5_untilEvent 1 = .ok (.istore_n 1, 1) := by decide +kernel
