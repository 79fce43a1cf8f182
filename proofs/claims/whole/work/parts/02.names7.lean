theorem dX5_runsScript_75 : decode cX5_runsScript 75 = .ok (.iload_n 2, 1) := by decide +kernel
theorem dX5_runsScript_76 : decode cX5_runsScript 76 = .ok (.iconst 1, 1) := by decide +kernel
theorem dX5_runsScript_77 : decode cX5_runsScript 77 = .ok (.isub, 1) := by decide +kernel
theorem dX5_runsScript_78 : decode cX5_runsScript 78 = .ok (.iaload, 1) := by decide +kernel
theorem dX5_runsScript_79 : decode cX5_runsScript 79 = .ok (.ifCond .le 14, 3) := by decide +kernel
theorem dX5_runsScript_82 : decode cX5_runsScript 82 = .ok (.aload_n 0, 1) := by decide +kernel
theorem dX5_runsScript_83 : decode cX5_runsScript 83 = .ok (.getfield 28, 3) := by decide +kernel
theorem dX5_runsScript_86 : decode cX5_runsScript 86 = .ok (.iload_n 2, 1) := by decide +kernel
theorem dX5_runsScript_87 : decode cX5_runsScript 87 = .ok (.iconst 1, 1) := by decide +kernel
theorem dX5_runsScript_88 : decode cX5_runsScript 88 = .ok (.isub, 1) := by decide +kernel
theorem dX5_runsScript_89 : decode cX5_runsScript 89 = .ok (.iaload, 1) := by decide +kernel
theorem dX5_runsScript_90 : decode cX5_runsScript 90 = .ok (.goto 4, 3) := by decide +kernel
theorem dX5_runsScript_93 : decode cX5_runsScript 93 = .ok (.iload_n 3, 1) := by decide +kernel
theorem dX5_runsScript_94 : decode cX5_runsScript 94 = .ok (.istore_n 3, 1) := by decide +kernel
theorem dX5_runsScript_95 : decode cX5_runsScript 95 = .ok (.iload_n 2, 1) := by decide +kernel
theorem dX5_runsScript_96 : decode cX5_runsScript 96 = .ok (.aload_n 0, 1) := by decide +kernel
theorem dX5_runsScript_97 : decode cX5_runsScript 97 = .ok (.getfield 31, 3) := by decide +kernel
theorem dX5_runsScript_100 : decode cX5_runsScript 100 = .ok (.iload_n 2, 1) := by decide +kernel
theorem dX5_runsScript_101 : decode cX5_runsScript 101 = .ok (.iconst 1, 1) := by decide +kernel
theorem dX5_runsScript_102 : decode cX5_runsScript 102 = .ok (.isub, 1) := by decide +kernel
theorem dX5_runsScript_103 : decode cX5_runsScript 103 = .ok (.iaload, 1) := by decide +kernel
theorem dX5_runsScript_104 : decode cX5_runsScript 104 = .ok (.ifCond .le 7, 3) := by decide +kernel
theorem dX5_runsScript_107 : decode cX5_runsScript 107 = .ok (.iconst 0, 1) := by decide +kernel
theorem dX5_runsScript_108 : decode cX5_runsScript 108 = .ok (.goto 4, 3) := by decide +kernel
theorem dX5_runsScript_111 : decode cX5_runsScript 111 = .ok (.iconst 1, 1) := by decide +kernel
theorem dX5_runsScript_112 : decode cX5_runsScript 112 = .ok (.isub, 1) := by decide +kernel
theorem dX5_runsScript_113 : decode cX5_runsScript 113 = .ok (.istore_n 2, 1) := by decide +kernel
theorem dX5_runsScript_114 : decode cX5_runsScript 114 = .ok (.goto 22, 3) := by decide +kernel
theorem dX5_runsScript_117 : decode cX5_runsScript 117 = .ok (.iload_n 1, 1) := by decide +kernel
theorem dX5_runsScript_118 : decode cX5_runsScript 118 = .ok (.bipush 100, 2) := by decide +kernel
theorem dX5_runsScript_120 : decode cX5_runsScript 120 = .ok (.if_icmp .eq 11, 3) := by decide +kernel
theorem dX5_runsScript_123 : decode cX5_runsScript 123 = .ok (.aload_n 0, 1) := by decide +kernel
theorem dX5_runsScript_124 : decode cX5_runsScript 124 = .ok (.iload_n 3, 1) := by decide +kernel
theorem dX5_runsScript_125 : decode cX5_runsScript 125 = .ok (.invokevirtual 152, 3) := by decide +kernel
theorem dX5_runsScript_128 : decode cX5_runsScript 128 = .ok (.ifCond .ne 5, 3) := by decide +kernel
theorem dX5_runsScript_131 : decode cX5_runsScript 131 = .ok (.iload_n 1, 1) := by decide +kernel
theorem dX5_runsScript_132 : decode cX5_runsScript 132 = .ok (.ireturn, 1) := by decide +kernel
theorem dX5_runsScript_133 : decode cX5_runsScript 133 = .ok (.iinc 1 1, 3) := by decide +kernel
theorem dX5_runsScript_136 : decode cX5_runsScript 136 = .ok (.iinc 3 1, 3) := by decide +kernel
theorem dX5_runsScript_139 : decode cX5_runsScript 139 = .ok (.goto (-133), 3) := by decide +kernel
theorem dX5_runsScript_142 : decode cX5_runsScript 142 = .ok (.iload_n 1, 1) := by decide +kernel
theorem dX5_runsScript_143 : decode cX5_runsScript 143 = .ok (.ireturn, 1) := by decide +kernel
set_option maxRecDepth 20000 in
theorem ggX5_run_X5_reads : GoodIn wsX5_run wsX5_reads := goodIn_r _ [6, 7, 1, 8, 9, 10, 11, 12, 13, 5, 14, 15, 16, 17, 18, 19, 20, 21, 22, 23, 24, 25, 26, 27, 28, 29, 30, 31, 32, 33, 34, 35, 36, 37, 38, 39, 40, 41, 42, 43, 44, 45, 46, 47, 48, 49, 50, 51, 52, 53, 115, 116, 117, 118, 119, 120, 121, 122, 123, 124, 125, 126, 127, 128, 129, 130, 131, 132, 133, 134, 135, 136] (by decide +kernel) (by decide +kernel)
set_option maxRecDepth 20000 in
theorem gX5_run_X5_reads : GoodIn wsX5_run (wsV RX5 149 RX5 yX5_reads wsX5_reads) := goodIn_app (goodIn_of _ (by decide +kernel)) ggX5_run_X5_reads
set_option maxRecDepth 20000 in
theorem ggX5_run_X5_keeps : GoodIn wsX5_run wsX5_keeps := goodIn_r _ [57, 58, 59, 42, 115, 116, 117, 118, 119, 120, 121, 122, 123, 124, 125, 126, 127, 128, 129, 130, 131, 132, 133, 134, 135, 136] (by decide +kernel) (by decide +kernel)
set_option maxRecDepth 20000 in
theorem gX5_run_X5_keeps : GoodIn wsX5_run (wsV RX5 79 RX5 yX5_keeps wsX5_keeps) := goodIn_app (goodIn_of _ (by decide +kernel)) ggX5_run_X5_keeps
set_option maxRecDepth 20000 in
theorem ggX5_run_X5_runsScript : GoodIn wsX5_run wsX5_runsScript := goodIn_r _ [63, 8, 32, 64, 65, 33, 66, 67, 68, 5, 69, 42, 70, 71, 72, 73, 74, 75, 76, 77, 78, 79, 80, 81, 82, 83, 84, 85, 86, 87, 88, 89, 90, 91, 92, 93, 94, 95, 96, 97, 98, 99, 100, 101, 102, 103, 104, 105, 106, 107, 108, 109, 110, 111, 112, 113, 114, 115, 116, 117, 118, 119, 120, 121, 122, 123, 124, 125, 126, 127, 128, 129, 130, 131, 132, 133, 134, 135, 136] (by decide +kernel) (by decide +kernel)
set_option maxRecDepth 20000 in
theorem gX5_run_X5_runsScript : GoodIn wsX5_run (wsV RX5 155 RX5 yX5_runsScript wsX5_runsScript) := goodIn_app (goodIn_of _ (by decide +kernel)) ggX5_run_X5_runsScript
theorem dX5_run_0 : decode cX5_run 0 = .ok (.aload_n 0, 1) := by decide +kernel
theorem dX5_run_1 : decode cX5_run 1 = .ok (.invokevirtual 149, 3) := by decide +kernel
theorem dX5_run_4 : decode cX5_run 4 = .ok (.aload_n 0, 1) := by decide +kernel
theorem dX5_run_5 : decode cX5_run 5 = .ok (.getfield 118, 3) := by decide +kernel
theorem dX5_run_8 : decode cX5_run 8 = .ok (.iconst (-1), 1) := by decide +kernel
theorem dX5_run_9 : decode cX5_run 9 = .ok (.if_icmp .eq 6, 3) := by decide +kernel
theorem dX5_run_12 : decode cX5_run 12 = .ok (.bipush (-3), 2) := by decide +kernel
theorem dX5_run_14 : decode cX5_run 14 = .ok (.ireturn, 1) := by decide +kernel
theorem dX5_run_15 : decode cX5_run 15 = .ok (.aload_n 0, 1) := by decide +kernel
theorem dX5_run_16 : decode cX5_run 16 = .ok (.invokevirtual 79, 3) := by decide +kernel
theorem dX5_run_19 : decode cX5_run 19 = .ok (.aload_n 0, 1) := by decide +kernel
theorem dX5_run_20 : decode cX5_run 20 = .ok (.invokevirtual 155, 3) := by decide +kernel
theorem dX5_run_23 : decode cX5_run 23 = .ok (.ireturn, 1) := by decide +kernel
set_option maxRecDepth 20000 in
theorem ggX5_glass_X5_isGlass : GoodIn wsX5_glass wsX5_isGlass := goodIn_r _ [5, 6, 7, 8, 4, 9, 18, 19, 20, 21, 22, 23, 24, 25, 26, 27, 28, 29, 30, 31, 32, 33, 34, 35, 36, 37, 38, 39] (by decide +kernel) (by decide +kernel)
set_option maxRecDepth 20000 in
theorem gX5_glass_X5_isGlass : GoodIn wsX5_glass (wsV RX5 82 RX5 yX5_isGlass wsX5_isGlass) := goodIn_app (goodIn_of _ (by decide +kernel)) ggX5_glass_X5_isGlass
set_option maxRecDepth 20000 in
theorem ggX5_glass_X5_of : GoodIn wsX5_glass wsX5_of := goodIn_r _ [13, 6, 18, 19, 20, 21, 22, 23, 24, 25, 26, 27, 28, 29, 30, 31, 32, 33, 34, 35, 36, 37, 38, 39] (by decide +kernel) (by decide +kernel)
set_option maxRecDepth 20000 in
theorem gX5_glass_X5_of : GoodIn wsX5_glass (wsV RX5 63 RX5 yX5_of wsX5_of) := goodIn_app (goodIn_of _ (by decide +kernel)) ggX5_glass_X5_of
set_option maxRecDepth 20000 in
theorem ggX5_glass_X5_runs : GoodIn wsX5_glass wsX5_runs := goodIn_r _ [17, 10, 11, 12, 4, 13, 6, 18, 19, 20, 21, 22, 23, 24, 25, 26, 27, 28, 29, 30, 31, 32, 33, 34, 35, 36, 37, 38, 39] (by decide +kernel) (by decide +kernel)
set_option maxRecDepth 20000 in
theorem gX5_glass_X5_runs : GoodIn wsX5_glass (wsV RX5 67 RX5 yX5_runs wsX5_runs) := goodIn_app (goodIn_of _ (by decide +kernel)) ggX5_glass_X5_runs
theorem dX5_glass_0 : decode cX5_glass 0 = .ok (.aload_n 0, 1) := by decide +kernel
theorem dX5_glass_1 : decode cX5_glass 1 = .ok (.iload_n 1, 1) := by decide +kernel
theorem dX5_glass_2 : decode cX5_glass 2 = .ok (.invokevirtual 82, 3) := by decide +kernel
theorem dX5_glass_5 : decode cX5_glass 5 = .ok (.ifCond .ne 6, 3) := by decide +kernel
theorem dX5_glass_8 : decode cX5_glass 8 = .ok (.bipush (-2), 2) := by decide +kernel
theorem dX5_glass_10 : decode cX5_glass 10 = .ok (.ireturn, 1) := by decide +kernel
theorem dX5_glass_11 : decode cX5_glass 11 = .ok (.iload_n 2, 1) := by decide +kernel
theorem dX5_glass_12 : decode cX5_glass 12 = .ok (.tableswitch 84 0 7 #[48, 48, 48, 48, 48, 55, 63, 70], 48) := by decide +kernel
theorem dX5_glass_60 : decode cX5_glass 60 = .ok (.aload_n 0, 1) := by decide +kernel
theorem dX5_glass_61 : decode cX5_glass 61 = .ok (.iload_n 1, 1) := by decide +kernel
theorem dX5_glass_62 : decode cX5_glass 62 = .ok (.iload_n 2, 1) := by decide +kernel
theorem dX5_glass_63 : decode cX5_glass 63 = .ok (.invokevirtual 63, 3) := by decide +kernel
theorem dX5_glass_66 : decode cX5_glass 66 = .ok (.ireturn, 1) := by decide +kernel
theorem dX5_glass_67 : decode cX5_glass 67 = .ok (.aload_n 0, 1) := by decide +kernel
theorem dX5_glass_68 : decode cX5_glass 68 = .ok (.iload_n 1, 1) := by decide +kernel
theorem dX5_glass_69 : decode cX5_glass 69 = .ok (.bipush 6, 2) := by decide +kernel
theorem dX5_glass_71 : decode cX5_glass 71 = .ok (.invokevirtual 63, 3) := by decide +kernel
theorem dX5_glass_74 : decode cX5_glass 74 = .ok (.ireturn, 1) := by decide +kernel
theorem dX5_glass_75 : decode cX5_glass 75 = .ok (.aload_n 0, 1) := by decide +kernel
theorem dX5_glass_76 : decode cX5_glass 76 = .ok (.iload_n 1, 1) := by decide +kernel
theorem dX5_glass_77 : decode cX5_glass 77 = .ok (.iconst 5, 1) := by decide +kernel
theorem dX5_glass_78 : decode cX5_glass 78 = .ok (.invokevirtual 63, 3) := by decide +kernel
theorem dX5_glass_81 : decode cX5_glass 81 = .ok (.ireturn, 1) := by decide +kernel
theorem dX5_glass_82 : decode cX5_glass 82 = .ok (.aload_n 0, 1) := by decide +kernel
theorem dX5_glass_83 : decode cX5_glass 83 = .ok (.iload_n 1, 1) := by decide +kernel
theorem dX5_glass_84 : decode cX5_glass 84 = .ok (.invokevirtual 67, 3) := by decide +kernel
theorem dX5_glass_87 : decode cX5_glass 87 = .ok (.ifCond .eq 7, 3) := by decide +kernel
theorem dX5_glass_90 : decode cX5_glass 90 = .ok (.iconst 1, 1) := by decide +kernel
theorem dX5_glass_91 : decode cX5_glass 91 = .ok (.goto 4, 3) := by decide +kernel
theorem dX5_glass_94 : decode cX5_glass 94 = .ok (.iconst 0, 1) := by decide +kernel
theorem dX5_glass_95 : decode cX5_glass 95 = .ok (.ireturn, 1) := by decide +kernel
theorem dX5_glass_96 : decode cX5_glass 96 = .ok (.bipush (-2), 2) := by decide +kernel
theorem dX5_glass_98 : decode cX5_glass 98 = .ok (.ireturn, 1) := by decide +kernel
set_option maxRecDepth 20000 in
theorem ggX5_event_X5_in : GoodIn wsX5_event wsX5_in := goodIn_r _ [5] (by decide +kernel) (by decide +kernel)
set_option maxRecDepth 20000 in
theorem gX5_event_X5_in : GoodIn wsX5_event (va_wsS RX5 55 yX5_in wsX5_in) := goodIn_app (goodIn_of _ (by decide +kernel)) ggX5_event_X5_in
theorem dX5_event_0 : decode cX5_event 0 = .ok (.iload_n 1, 1) := by decide +kernel
theorem dX5_event_1 : decode cX5_event 1 = .ok (.ifCond .lt 12, 3) := by decide +kernel
theorem dX5_event_4 : decode cX5_event 4 = .ok (.iload_n 2, 1) := by decide +kernel
theorem dX5_event_5 : decode cX5_event 5 = .ok (.iconst 0, 1) := by decide +kernel
theorem dX5_event_6 : decode cX5_event 6 = .ok (.iconst 2, 1) := by decide +kernel
theorem dX5_event_7 : decode cX5_event 7 = .ok (.invokestatic 55, 3) := by decide +kernel
theorem dX5_event_10 : decode cX5_event 10 = .ok (.ifCond .ne 6, 3) := by decide +kernel
theorem dX5_event_13 : decode cX5_event 13 = .ok (.bipush (-2), 2) := by decide +kernel
theorem dX5_event_15 : decode cX5_event 15 = .ok (.ireturn, 1) := by decide +kernel
theorem dX5_event_16 : decode cX5_event 16 = .ok (.iload_n 1, 1) := by decide +kernel
theorem dX5_event_17 : decode cX5_event 17 = .ok (.aload_n 0, 1) := by decide +kernel
theorem dX5_event_18 : decode cX5_event 18 = .ok (.getfield 7, 3) := by decide +kernel
theorem dX5_event_21 : decode cX5_event 21 = .ok (.bipush 27, 2) := by decide +kernel
theorem dX5_event_23 : decode cX5_event 23 = .ok (.iaload, 1) := by decide +kernel
theorem dX5_event_24 : decode cX5_event 24 = .ok (.if_icmp .ge 29, 3) := by decide +kernel
theorem dX5_event_27 : decode cX5_event 27 = .ok (.aload_n 0, 1) := by decide +kernel
theorem dX5_event_28 : decode cX5_event 28 = .ok (.getfield 7, 3) := by decide +kernel
theorem dX5_event_31 : decode cX5_event 31 = .ok (.bipush 28, 2) := by decide +kernel
theorem dX5_event_33 : decode cX5_event 33 = .ok (.iconst 3, 1) := by decide +kernel
theorem dX5_event_34 : decode cX5_event 34 = .ok (.aload_n 0, 1) := by decide +kernel
theorem dX5_event_35 : decode cX5_event 35 = .ok (.getfield 7, 3) := by decide +kernel
theorem dX5_event_38 : decode cX5_event 38 = .ok (.bipush 27, 2) := by decide +kernel
theorem dX5_event_40 : decode cX5_event 40 = .ok (.iaload, 1) := by decide +kernel
theorem dX5_event_41 : decode cX5_event 41 = .ok (.iconst 1, 1) := by decide +kernel
theorem dX5_event_42 : decode cX5_event 42 = .ok (.isub, 1) := by decide +kernel
theorem dX5_event_43 : decode cX5_event 43 = .ok (.iload_n 1, 1) := by decide +kernel
theorem dX5_event_44 : decode cX5_event 44 = .ok (.isub, 1) := by decide +kernel
theorem dX5_event_45 : decode cX5_event 45 = .ok (.imul, 1) := by decide +kernel
theorem dX5_event_46 : decode cX5_event 46 = .ok (.iadd, 1) := by decide +kernel
theorem dX5_event_47 : decode cX5_event 47 = .ok (.iload_n 2, 1) := by decide +kernel
theorem dX5_event_48 : decode cX5_event 48 = .ok (.iadd, 1) := by decide +kernel
theorem dX5_event_49 : decode cX5_event 49 = .ok (.iaload, 1) := by decide +kernel
theorem dX5_event_50 : decode cX5_event 50 = .ok (.goto 4, 3) := by decide +kernel
theorem dX5_event_53 : decode cX5_event 53 = .ok (.iconst (-1), 1) := by decide +kernel
theorem dX5_event_54 : decode cX5_event 54 = .ok (.ireturn, 1) := by decide +kernel
theorem dX5_place_0 : decode cX5_place 0 = .ok (.sipush 2197, 3) := by decide +kernel
theorem dX5_place_3 : decode cX5_place 3 = .ok (.iload_n 0, 1) := by decide +kernel
theorem dX5_place_4 : decode cX5_place 4 = .ok (.imul, 1) := by decide +kernel
theorem dX5_place_5 : decode cX5_place 5 = .ok (.sipush 169, 3) := by decide +kernel
theorem dX5_place_8 : decode cX5_place 8 = .ok (.iload_n 1, 1) := by decide +kernel
theorem dX5_place_9 : decode cX5_place 9 = .ok (.imul, 1) := by decide +kernel
theorem dX5_place_10 : decode cX5_place 10 = .ok (.iadd, 1) := by decide +kernel
theorem dX5_place_11 : decode cX5_place 11 = .ok (.bipush 13, 2) := by decide +kernel
theorem dX5_place_13 : decode cX5_place 13 = .ok (.iload_n 2, 1) := by decide +kernel
theorem dX5_place_14 : decode cX5_place 14 = .ok (.imul, 1) := by decide +kernel
theorem dX5_place_15 : decode cX5_place 15 = .ok (.iadd, 1) := by decide +kernel
theorem dX5_place_16 : decode cX5_place 16 = .ok (.iload_n 3, 1) := by decide +kernel
theorem dX5_place_17 : decode cX5_place 17 = .ok (.iadd, 1) := by decide +kernel
theorem dX5_place_18 : decode cX5_place 18 = .ok (.ireturn, 1) := by decide +kernel
set_option maxRecDepth 20000 in
theorem ggX5_isTable_X5_of : GoodIn wsX5_isTable wsX5_of := goodIn_r _ [10, 3, 11, 12, 13, 14, 15, 16, 17, 18, 19, 20, 21, 22, 23, 24, 25, 26, 27, 28, 29, 30, 31, 32] (by decide +kernel) (by decide +kernel)
set_option maxRecDepth 20000 in
theorem gX5_isTable_X5_of : GoodIn wsX5_isTable (wsV RX5 63 RX5 yX5_of wsX5_of) := goodIn_app (goodIn_of _ (by decide +kernel)) ggX5_isTable_X5_of
theorem dX5_isTable_0 : decode cX5_isTable 0 = .ok (.aload_n 0, 1) := by decide +kernel
theorem dX5_isTable_1 : decode cX5_isTable 1 = .ok (.getfield 158, 3) := by decide +kernel
theorem dX5_isTable_4 : decode cX5_isTable 4 = .ok (.istore_n 1, 1) := by decide +kernel
theorem dX5_isTable_5 : decode cX5_isTable 5 = .ok (.iconst 0, 1) := by decide +kernel
theorem dX5_isTable_6 : decode cX5_isTable 6 = .ok (.istore_n 2, 1) := by decide +kernel
theorem dX5_isTable_7 : decode cX5_isTable 7 = .ok (.iload_n 2, 1) := by decide +kernel
theorem dX5_isTable_8 : decode cX5_isTable 8 = .ok (.iconst 3, 1) := by decide +kernel
theorem dX5_isTable_9 : decode cX5_isTable 9 = .ok (.if_icmp .ge 197, 3) := by decide +kernel
theorem dX5_isTable_12 : decode cX5_isTable 12 = .ok (.aload_n 0, 1) := by decide +kernel
theorem dX5_isTable_13 : decode cX5_isTable 13 = .ok (.getfield 41, 3) := by decide +kernel
theorem dX5_isTable_16 : decode cX5_isTable 16 = .ok (.iload_n 2, 1) := by decide +kernel
theorem dX5_isTable_17 : decode cX5_isTable 17 = .ok (.iload_n 2, 1) := by decide +kernel
theorem dX5_isTable_18 : decode cX5_isTable 18 = .ok (.aload_n 0, 1) := by decide +kernel
theorem dX5_isTable_19 : decode cX5_isTable 19 = .ok (.getfield 7, 3) := by decide +kernel
theorem dX5_isTable_22 : decode cX5_isTable 22 = .ok (.bipush 21, 2) := by decide +kernel
theorem dX5_isTable_24 : decode cX5_isTable 24 = .ok (.iaload, 1) := by decide +kernel
theorem dX5_isTable_25 : decode cX5_isTable 25 = .ok (.if_icmp .ge 12, 3) := by decide +kernel
theorem dX5_isTable_28 : decode cX5_isTable 28 = .ok (.aload_n 0, 1) := by decide +kernel
theorem dX5_isTable_29 : decode cX5_isTable 29 = .ok (.iload_n 2, 1) := by decide +kernel
theorem dX5_isTable_30 : decode cX5_isTable 30 = .ok (.iconst 0, 1) := by decide +kernel
theorem dX5_isTable_31 : decode cX5_isTable 31 = .ok (.invokevirtual 63, 3) := by decide +kernel
theorem dX5_isTable_34 : decode cX5_isTable 34 = .ok (.goto 4, 3) := by decide +kernel
theorem dX5_isTable_37 : decode cX5_isTable 37 = .ok (.iconst 0, 1) := by decide +kernel
theorem dX5_isTable_38 : decode cX5_isTable 38 = .ok (.iastore, 1) := by decide +kernel
theorem dX5_isTable_39 : decode cX5_isTable 39 = .ok (.aload_n 0, 1) := by decide +kernel
theorem dX5_isTable_40 : decode cX5_isTable 40 = .ok (.getfield 44, 3) := by decide +kernel
theorem dX5_isTable_43 : decode cX5_isTable 43 = .ok (.iload_n 2, 1) := by decide +kernel
theorem dX5_isTable_44 : decode cX5_isTable 44 = .ok (.iload_n 2, 1) := by decide +kernel
theorem dX5_isTable_45 : decode cX5_isTable 45 = .ok (.aload_n 0, 1) := by decide +kernel
theorem dX5_isTable_46 : decode cX5_isTable 46 = .ok (.getfield 7, 3) := by decide +kernel
theorem dX5_isTable_49 : decode cX5_isTable 49 = .ok (.bipush 21, 2) := by decide +kernel
theorem dX5_isTable_51 : decode cX5_isTable 51 = .ok (.iaload, 1) := by decide +kernel
theorem dX5_isTable_52 : decode cX5_isTable 52 = .ok (.if_icmp .ge 13, 3) := by decide +kernel
theorem dX5_isTable_55 : decode cX5_isTable 55 = .ok (.aload_n 0, 1) := by decide +kernel
theorem dX5_isTable_56 : decode cX5_isTable 56 = .ok (.iload_n 2, 1) := by decide +kernel
theorem dX5_isTable_57 : decode cX5_isTable 57 = .ok (.iconst 2, 1) := by decide +kernel
theorem dX5_isTable_58 : decode cX5_isTable 58 = .ok (.invokevirtual 63, 3) := by decide +kernel
theorem dX5_isTable_61 : decode cX5_isTable 61 = .ok (.iconst 2, 1) := by decide +kernel
theorem dX5_isTable_62 : decode cX5_isTable 62 = .ok (.if_icmp .ne 7, 3) := by decide +kernel
theorem dX5_isTable_65 : decode cX5_isTable 65 = .ok (.iconst 1, 1) := by decide +kernel
theorem dX5_isTable_66 : decode cX5_isTable 66 = .ok (.goto 4, 3) := by decide +kernel
theorem dX5_isTable_69 : decode cX5_isTable 69 = .ok (.iconst 0, 1) := by decide +kernel
theorem dX5_isTable_70 : decode cX5_isTable 70 = .ok (.bastore, 1) := by decide +kernel
theorem dX5_isTable_71 : decode cX5_isTable 71 = .ok (.iload_n 1, 1) := by decide +kernel
theorem dX5_isTable_72 : decode cX5_isTable 72 = .ok (.ifCond .eq 71, 3) := by decide +kernel
theorem dX5_isTable_75 : decode cX5_isTable 75 = .ok (.aload_n 0, 1) := by decide +kernel
theorem dX5_isTable_76 : decode cX5_isTable 76 = .ok (.getfield 38, 3) := by decide +kernel
theorem dX5_isTable_79 : decode cX5_isTable 79 = .ok (.iconst 3, 1) := by decide +kernel
theorem dX5_isTable_80 : decode cX5_isTable 80 = .ok (.iload_n 2, 1) := by decide +kernel
theorem dX5_isTable_81 : decode cX5_isTable 81 = .ok (.imul, 1) := by decide +kernel
theorem dX5_isTable_82 : decode cX5_isTable 82 = .ok (.iaload, 1) := by decide +kernel
theorem dX5_isTable_83 : decode cX5_isTable 83 = .ok (.aload_n 0, 1) := by decide +kernel
theorem dX5_isTable_84 : decode cX5_isTable 84 = .ok (.getfield 41, 3) := by decide +kernel
theorem dX5_isTable_87 : decode cX5_isTable 87 = .ok (.iload_n 2, 1) := by decide +kernel
theorem dX5_isTable_88 : decode cX5_isTable 88 = .ok (.iaload, 1) := by decide +kernel
theorem dX5_isTable_89 : decode cX5_isTable 89 = .ok (.if_icmp .ne 54, 3) := by decide +kernel
theorem dX5_isTable_92 : decode cX5_isTable 92 = .ok (.aload_n 0, 1) := by decide +kernel
theorem dX5_isTable_93 : decode cX5_isTable 93 = .ok (.getfield 38, 3) := by decide +kernel
theorem dX5_isTable_96 : decode cX5_isTable 96 = .ok (.iconst 3, 1) := by decide +kernel
theorem dX5_isTable_97 : decode cX5_isTable 97 = .ok (.iload_n 2, 1) := by decide +kernel
theorem dX5_isTable_98 : decode cX5_isTable 98 = .ok (.imul, 1) := by decide +kernel
theorem dX5_isTable_99 : decode cX5_isTable 99 = .ok (.iconst 1, 1) := by decide +kernel
theorem dX5_isTable_100 : decode cX5_isTable 100 = .ok (.iadd, 1) := by decide +kernel
theorem dX5_isTable_101 : decode cX5_isTable 101 = .ok (.iaload, 1) := by decide +kernel
theorem dX5_isTable_102 : decode cX5_isTable 102 = .ok (.aload_n 0, 1) := by decide +kernel
theorem dX5_isTable_103 : decode cX5_isTable 103 = .ok (.getfield 44, 3) := by decide +kernel
theorem dX5_isTable_106 : decode cX5_isTable 106 = .ok (.iload_n 2, 1) := by decide +kernel
theorem dX5_isTable_107 : decode cX5_isTable 107 = .ok (.baload, 1) := by decide +kernel
theorem dX5_isTable_108 : decode cX5_isTable 108 = .ok (.ifCond .eq 7, 3) := by decide +kernel
theorem dX5_isTable_111 : decode cX5_isTable 111 = .ok (.iconst 1, 1) := by decide +kernel
theorem dX5_isTable_112 : decode cX5_isTable 112 = .ok (.goto 4, 3) := by decide +kernel
theorem dX5_isTable_115 : decode cX5_isTable 115 = .ok (.iconst 0, 1) := by decide +kernel
theorem dX5_isTable_116 : decode cX5_isTable 116 = .ok (.if_icmp .ne 27, 3) := by decide +kernel
theorem dX5_isTable_119 : decode cX5_isTable 119 = .ok (.aload_n 0, 1) := by decide +kernel
theorem dX5_isTable_120 : decode cX5_isTable 120 = .ok (.getfield 38, 3) := by decide +kernel
theorem dX5_isTable_123 : decode cX5_isTable 123 = .ok (.iconst 3, 1) := by decide +kernel
theorem dX5_isTable_124 : decode cX5_isTable 124 = .ok (.iload_n 2, 1) := by decide +kernel
theorem dX5_isTable_125 : decode cX5_isTable 125 = .ok (.imul, 1) := by decide +kernel
theorem dX5_isTable_126 : decode cX5_isTable 126 = .ok (.iconst 2, 1) := by decide +kernel
theorem dX5_isTable_127 : decode cX5_isTable 127 = .ok (.iadd, 1) := by decide +kernel
theorem dX5_isTable_128 : decode cX5_isTable 128 = .ok (.iaload, 1) := by decide +kernel
theorem dX5_isTable_129 : decode cX5_isTable 129 = .ok (.aload_n 0, 1) := by decide +kernel
theorem dX5_isTable_130 : decode cX5_isTable 130 = .ok (.iload_n 2, 1) := by decide +kernel
theorem dX5_isTable_131 : decode cX5_isTable 131 = .ok (.bipush 6, 2) := by decide +kernel
theorem dX5_isTable_133 : decode cX5_isTable 133 = .ok (.invokevirtual 63, 3) := by decide +kernel
theorem dX5_isTable_136 : decode cX5_isTable 136 = .ok (.if_icmp .ne 7, 3) := by decide +kernel
theorem dX5_isTable_139 : decode cX5_isTable 139 = .ok (.iconst 1, 1) := by decide +kernel
theorem dX5_isTable_140 : decode cX5_isTable 140 = .ok (.goto 4, 3) := by decide +kernel
theorem dX5_isTable_143 : decode cX5_isTable 143 = .ok (.iconst 0, 1) := by decide +kernel
theorem dX5_isTable_144 : decode cX5_isTable 144 = .ok (.istore_n 1, 1) := by decide +kernel
theorem dX5_isTable_145 : decode cX5_isTable 145 = .ok (.aload_n 0, 1) := by decide +kernel
theorem dX5_isTable_146 : decode cX5_isTable 146 = .ok (.getfield 38, 3) := by decide +kernel
theorem dX5_isTable_149 : decode cX5_isTable 149 = .ok (.iconst 3, 1) := by decide +kernel
theorem dX5_isTable_150 : decode cX5_isTable 150 = .ok (.iload_n 2, 1) := by decide +kernel
theorem dX5_isTable_151 : decode cX5_isTable 151 = .ok (.imul, 1) := by decide +kernel
theorem dX5_isTable_152 : decode cX5_isTable 152 = .ok (.aload_n 0, 1) := by decide +kernel
theorem dX5_isTable_153 : decode cX5_isTable 153 = .ok (.getfield 41, 3) := by decide +kernel
theorem dX5_isTable_156 : decode cX5_isTable 156 = .ok (.iload_n 2, 1) := by decide +kernel
theorem dX5_isTable_157 : decode cX5_isTable 157 = .ok (.iaload, 1) := by decide +kernel
theorem dX5_isTable_158 : decode cX5_isTable 158 = .ok (.iastore, 1) := by decide +kernel
theorem dX5_isTable_159 : decode cX5_isTable 159 = .ok (.aload_n 0, 1) := by decide +kernel
theorem dX5_isTable_160 : decode cX5_isTable 160 = .ok (.getfield 38, 3) := by decide +kernel
theorem dX5_isTable_163 : decode cX5_isTable 163 = .ok (.iconst 3, 1) := by decide +kernel
theorem dX5_isTable_164 : decode cX5_isTable 164 = .ok (.iload_n 2, 1) := by decide +kernel
theorem dX5_isTable_165 : decode cX5_isTable 165 = .ok (.imul, 1) := by decide +kernel
theorem dX5_isTable_166 : decode cX5_isTable 166 = .ok (.iconst 1, 1) := by decide +kernel
theorem dX5_isTable_167 : decode cX5_isTable 167 = .ok (.iadd, 1) := by decide +kernel
theorem dX5_isTable_168 : decode cX5_isTable 168 = .ok (.aload_n 0, 1) := by decide +kernel
theorem dX5_isTable_169 : decode cX5_isTable 169 = .ok (.getfield 44, 3) := by decide +kernel
theorem dX5_isTable_172 : decode cX5_isTable 172 = .ok (.iload_n 2, 1) := by decide +kernel
theorem dX5_isTable_173 : decode cX5_isTable 173 = .ok (.baload, 1) := by decide +kernel
theorem dX5_isTable_174 : decode cX5_isTable 174 = .ok (.ifCond .eq 7, 3) := by decide +kernel
theorem dX5_isTable_177 : decode cX5_isTable 177 = .ok (.iconst 1, 1) := by decide +kernel
theorem dX5_isTable_178 : decode cX5_isTable 178 = .ok (.goto 4, 3) := by decide +kernel
theorem dX5_isTable_181 : decode cX5_isTable 181 = .ok (.iconst 0, 1) := by decide +kernel
theorem dX5_isTable_182 : decode cX5_isTable 182 = .ok (.iastore, 1) := by decide +kernel
theorem dX5_isTable_183 : decode cX5_isTable 183 = .ok (.aload_n 0, 1) := by decide +kernel
theorem dX5_isTable_184 : decode cX5_isTable 184 = .ok (.getfield 38, 3) := by decide +kernel
theorem dX5_isTable_187 : decode cX5_isTable 187 = .ok (.iconst 3, 1) := by decide +kernel
theorem dX5_isTable_188 : decode cX5_isTable 188 = .ok (.iload_n 2, 1) := by decide +kernel
theorem dX5_isTable_189 : decode cX5_isTable 189 = .ok (.imul, 1) := by decide +kernel
theorem dX5_isTable_190 : decode cX5_isTable 190 = .ok (.iconst 2, 1) := by decide +kernel
theorem dX5_isTable_191 : decode cX5_isTable 191 = .ok (.iadd, 1) := by decide +kernel
theorem dX5_isTable_192 : decode cX5_isTable 192 = .ok (.aload_n 0, 1) := by decide +kernel
theorem dX5_isTable_193 : decode cX5_isTable 193 = .ok (.iload_n 2, 1) := by decide +kernel
theorem dX5_isTable_194 : decode cX5_isTable 194 = .ok (.bipush 6, 2) := by decide +kernel
theorem dX5_isTable_196 : decode cX5_isTable 196 = .ok (.invokevirtual 63, 3) := by decide +kernel
theorem dX5_isTable_199 : decode cX5_isTable 199 = .ok (.iastore, 1) := by decide +kernel
theorem dX5_isTable_200 : decode cX5_isTable 200 = .ok (.iinc 2 1, 3) := by decide +kernel
theorem dX5_isTable_203 : decode cX5_isTable 203 = .ok (.goto (-196), 3) := by decide +kernel
theorem dX5_isTable_206 : decode cX5_isTable 206 = .ok (.aload_n 0, 1) := by decide +kernel
theorem dX5_isTable_207 : decode cX5_isTable 207 = .ok (.iconst 1, 1) := by decide +kernel
theorem dX5_isTable_208 : decode cX5_isTable 208 = .ok (.putfield 158, 3) := by decide +kernel
theorem dX5_isTable_211 : decode cX5_isTable 211 = .ok (.iload_n 1, 1) := by decide +kernel
theorem dX5_isTable_212 : decode cX5_isTable 212 = .ok (.ireturn, 1) := by decide +kernel
set_option maxRecDepth 20000 in
theorem ggX5_isStacks_X5_of : GoodIn wsX5_isStacks wsX5_of := goodIn_r _ [6, 1, 7, 8, 9, 10, 11, 12, 13, 14, 15, 16, 17, 18, 19, 20, 21, 22, 23, 24, 25, 26, 27, 28] (by decide +kernel) (by decide +kernel)
set_option maxRecDepth 20000 in
theorem gX5_isStacks_X5_of : GoodIn wsX5_isStacks (wsV RX5 63 RX5 yX5_of wsX5_of) := goodIn_app (goodIn_of _ (by decide +kernel)) ggX5_isStacks_X5_of
theorem dX5_isStacks_0 : decode cX5_isStacks 0 = .ok (.iconst 1, 1) := by decide +kernel
theorem dX5_isStacks_1 : decode cX5_isStacks 1 = .ok (.istore_n 2, 1) := by decide +kernel
theorem dX5_isStacks_2 : decode cX5_isStacks 2 = .ok (.iconst 0, 1) := by decide +kernel
theorem dX5_isStacks_3 : decode cX5_isStacks 3 = .ok (.istore_n 3, 1) := by decide +kernel
theorem dX5_isStacks_4 : decode cX5_isStacks 4 = .ok (.iload_n 3, 1) := by decide +kernel
theorem dX5_isStacks_5 : decode cX5_isStacks 5 = .ok (.iconst 3, 1) := by decide +kernel
theorem dX5_isStacks_6 : decode cX5_isStacks 6 = .ok (.if_icmp .ge 49, 3) := by decide +kernel
theorem dX5_isStacks_9 : decode cX5_isStacks 9 = .ok (.iload_n 2, 1) := by decide +kernel
theorem dX5_isStacks_10 : decode cX5_isStacks 10 = .ok (.ifCond .eq 37, 3) := by decide +kernel
theorem dX5_isStacks_13 : decode cX5_isStacks 13 = .ok (.iload_n 1, 1) := by decide +kernel
theorem dX5_isStacks_14 : decode cX5_isStacks 14 = .ok (.iload_n 3, 1) := by decide +kernel
theorem dX5_isStacks_15 : decode cX5_isStacks 15 = .ok (.ishr, 1) := by decide +kernel
theorem dX5_isStacks_16 : decode cX5_isStacks 16 = .ok (.iconst 1, 1) := by decide +kernel
theorem dX5_isStacks_17 : decode cX5_isStacks 17 = .ok (.iand, 1) := by decide +kernel
theorem dX5_isStacks_18 : decode cX5_isStacks 18 = .ok (.ifCond .eq 25, 3) := by decide +kernel
theorem dX5_isStacks_21 : decode cX5_isStacks 21 = .ok (.iload_n 3, 1) := by decide +kernel
theorem dX5_isStacks_22 : decode cX5_isStacks 22 = .ok (.aload_n 0, 1) := by decide +kernel
theorem dX5_isStacks_23 : decode cX5_isStacks 23 = .ok (.getfield 7, 3) := by decide +kernel
theorem dX5_isStacks_26 : decode cX5_isStacks 26 = .ok (.bipush 21, 2) := by decide +kernel
theorem dX5_isStacks_28 : decode cX5_isStacks 28 = .ok (.iaload, 1) := by decide +kernel
theorem dX5_isStacks_29 : decode cX5_isStacks 29 = .ok (.if_icmp .ge 18, 3) := by decide +kernel
theorem dX5_isStacks_32 : decode cX5_isStacks 32 = .ok (.aload_n 0, 1) := by decide +kernel
theorem dX5_isStacks_33 : decode cX5_isStacks 33 = .ok (.iload_n 3, 1) := by decide +kernel
theorem dX5_isStacks_34 : decode cX5_isStacks 34 = .ok (.bipush 6, 2) := by decide +kernel
theorem dX5_isStacks_36 : decode cX5_isStacks 36 = .ok (.invokevirtual 63, 3) := by decide +kernel
theorem dX5_isStacks_39 : decode cX5_isStacks 39 = .ok (.iload_n 3, 1) := by decide +kernel
theorem dX5_isStacks_40 : decode cX5_isStacks 40 = .ok (.if_icmp .ne 7, 3) := by decide +kernel
theorem dX5_isStacks_43 : decode cX5_isStacks 43 = .ok (.iconst 1, 1) := by decide +kernel
theorem dX5_isStacks_44 : decode cX5_isStacks 44 = .ok (.goto 4, 3) := by decide +kernel
theorem dX5_isStacks_47 : decode cX5_isStacks 47 = .ok (.iconst 0, 1) := by decide +kernel
theorem dX5_isStacks_48 : decode cX5_isStacks 48 = .ok (.istore_n 2, 1) := by decide +kernel
theorem dX5_isStacks_49 : decode cX5_isStacks 49 = .ok (.iinc 3 1, 3) := by decide +kernel
theorem dX5_isStacks_52 : decode cX5_isStacks 52 = .ok (.goto (-48), 3) := by decide +kernel
theorem dX5_isStacks_55 : decode cX5_isStacks 55 = .ok (.iload_n 2, 1) := by decide +kernel
theorem dX5_isStacks_56 : decode cX5_isStacks 56 = .ok (.ireturn, 1) := by decide +kernel
set_option maxRecDepth 20000 in
theorem ggX5_chooses_X5_of : GoodIn wsX5_chooses wsX5_of := goodIn_r _ [10, 3, 11, 12, 13, 14, 15, 16, 17, 18, 19, 20, 21, 22, 23, 24, 25, 26, 27, 28, 29, 30, 31, 32] (by decide +kernel) (by decide +kernel)
set_option maxRecDepth 20000 in
theorem gX5_chooses_X5_of : GoodIn wsX5_chooses (wsV RX5 63 RX5 yX5_of wsX5_of) := goodIn_app (goodIn_of _ (by decide +kernel)) ggX5_chooses_X5_of
theorem dX5_chooses_0 : decode cX5_chooses 0 = .ok (.aload_n 0, 1) := by decide +kernel
theorem dX5_chooses_1 : decode cX5_chooses 1 = .ok (.getfield 48, 3) := by decide +kernel
theorem dX5_chooses_4 : decode cX5_chooses 4 = .ok (.iconst 0, 1) := by decide +kernel
theorem dX5_chooses_5 : decode cX5_chooses 5 = .ok (.iload_n 2, 1) := by decide +kernel
theorem dX5_chooses_6 : decode cX5_chooses 6 = .ok (.iastore, 1) := by decide +kernel
theorem dX5_chooses_7 : decode cX5_chooses 7 = .ok (.aload_n 0, 1) := by decide +kernel
theorem dX5_chooses_8 : decode cX5_chooses 8 = .ok (.getfield 48, 3) := by decide +kernel
theorem dX5_chooses_11 : decode cX5_chooses 11 = .ok (.iconst 1, 1) := by decide +kernel
theorem dX5_chooses_12 : decode cX5_chooses 12 = .ok (.iload_n 3, 1) := by decide +kernel
theorem dX5_chooses_13 : decode cX5_chooses 13 = .ok (.iastore, 1) := by decide +kernel
theorem dX5_chooses_14 : decode cX5_chooses 14 = .ok (.aload_n 0, 1) := by decide +kernel
theorem dX5_chooses_15 : decode cX5_chooses 15 = .ok (.getfield 48, 3) := by decide +kernel
theorem dX5_chooses_18 : decode cX5_chooses 18 = .ok (.iconst 2, 1) := by decide +kernel
theorem dX5_chooses_19 : decode cX5_chooses 19 = .ok (.iload 4, 2) := by decide +kernel
theorem dX5_chooses_21 : decode cX5_chooses 21 = .ok (.iastore, 1) := by decide +kernel
theorem dX5_chooses_22 : decode cX5_chooses 22 = .ok (.aload_n 0, 1) := by decide +kernel
theorem dX5_chooses_23 : decode cX5_chooses 23 = .ok (.iconst (-1), 1) := by decide +kernel
theorem dX5_chooses_24 : decode cX5_chooses 24 = .ok (.putfield 162, 3) := by decide +kernel
theorem dX5_chooses_27 : decode cX5_chooses 27 = .ok (.iconst 0, 1) := by decide +kernel
theorem dX5_chooses_28 : decode cX5_chooses 28 = .ok (.istore 5, 2) := by decide +kernel
theorem dX5_chooses_30 : decode cX5_chooses 30 = .ok (.iload 5, 2) := by decide +kernel
theorem dX5_chooses_32 : decode cX5_chooses 32 = .ok (.iconst 3, 1) := by decide +kernel
theorem dX5_chooses_33 : decode cX5_chooses 33 = .ok (.if_icmp .ge 129, 3) := by decide +kernel
theorem dX5_chooses_36 : decode cX5_chooses 36 = .ok (.aload_n 0, 1) := by decide +kernel
theorem dX5_chooses_37 : decode cX5_chooses 37 = .ok (.getfield 48, 3) := by decide +kernel
theorem dX5_chooses_40 : decode cX5_chooses 40 = .ok (.iload 5, 2) := by decide +kernel
theorem dX5_chooses_42 : decode cX5_chooses 42 = .ok (.iload_n 1, 1) := by decide +kernel
theorem dX5_chooses_43 : decode cX5_chooses 43 = .ok (.aload_n 0, 1) := by decide +kernel
theorem dX5_chooses_44 : decode cX5_chooses 44 = .ok (.iload 5, 2) := by decide +kernel
theorem dX5_chooses_46 : decode cX5_chooses 46 = .ok (.bipush 6, 2) := by decide +kernel
theorem dX5_chooses_48 : decode cX5_chooses 48 = .ok (.invokevirtual 63, 3) := by decide +kernel
theorem dX5_chooses_51 : decode cX5_chooses 51 = .ok (.ishr, 1) := by decide +kernel
theorem dX5_chooses_52 : decode cX5_chooses 52 = .ok (.iconst 1, 1) := by decide +kernel
theorem dX5_chooses_53 : decode cX5_chooses 53 = .ok (.iand, 1) := by decide +kernel
theorem dX5_chooses_54 : decode cX5_chooses 54 = .ok (.iconst 1, 1) := by decide +kernel
theorem dX5_chooses_55 : decode cX5_chooses 55 = .ok (.if_icmp .ne 33, 3) := by decide +kernel
theorem dX5_chooses_58 : decode cX5_chooses 58 = .ok (.iload 5, 2) := by decide +kernel
theorem dX5_chooses_60 : decode cX5_chooses 60 = .ok (.aload_n 0, 1) := by decide +kernel
theorem dX5_chooses_61 : decode cX5_chooses 61 = .ok (.getfield 7, 3) := by decide +kernel
theorem dX5_chooses_64 : decode cX5_chooses 64 = .ok (.bipush 21, 2) := by decide +kernel
theorem dX5_chooses_66 : decode cX5_chooses 66 = .ok (.iaload, 1) := by decide +kernel
theorem dX5_chooses_67 : decode cX5_chooses 67 = .ok (.if_icmp .ge 21, 3) := by decide +kernel
theorem dX5_chooses_70 : decode cX5_chooses 70 = .ok (.aload_n 0, 1) := by decide +kernel
theorem dX5_chooses_71 : decode cX5_chooses 71 = .ok (.getfield 41, 3) := by decide +kernel
theorem dX5_chooses_74 : decode cX5_chooses 74 = .ok (.iload 5, 2) := by decide +kernel
theorem dX5_chooses_76 : decode cX5_chooses 76 = .ok (.iaload, 1) := by decide +kernel
theorem dX5_chooses_77 : decode cX5_chooses 77 = .ok (.aload_n 0, 1) := by decide +kernel
theorem dX5_chooses_78 : decode cX5_chooses 78 = .ok (.getfield 48, 3) := by decide +kernel
theorem dX5_chooses_81 : decode cX5_chooses 81 = .ok (.iload 5, 2) := by decide +kernel
theorem dX5_chooses_83 : decode cX5_chooses 83 = .ok (.iaload, 1) := by decide +kernel
theorem dX5_chooses_84 : decode cX5_chooses 84 = .ok (.isub, 1) := by decide +kernel
theorem dX5_chooses_85 : decode cX5_chooses 85 = .ok (.goto 10, 3) := by decide +kernel
theorem dX5_chooses_88 : decode cX5_chooses 88 = .ok (.aload_n 0, 1) := by decide +kernel
theorem dX5_chooses_89 : decode cX5_chooses 89 = .ok (.getfield 48, 3) := by decide +kernel
theorem dX5_chooses_92 : decode cX5_chooses 92 = .ok (.iload 5, 2) := by decide +kernel
theorem dX5_chooses_94 : decode cX5_chooses 94 = .ok (.iaload, 1) := by decide +kernel
theorem dX5_chooses_95 : decode cX5_chooses 95 = .ok (.iastore, 1) := by decide +kernel
theorem dX5_chooses_96 : decode cX5_chooses 96 = .ok (.aload_n 0, 1) := by decide +kernel
theorem dX5_chooses_97 : decode cX5_chooses 97 = .ok (.aload_n 0, 1) := by decide +kernel
theorem dX5_chooses_98 : decode cX5_chooses 98 = .ok (.getfield 44, 3) := by decide +kernel
theorem dX5_chooses_101 : decode cX5_chooses 101 = .ok (.iload 5, 2) := by decide +kernel
theorem dX5_chooses_103 : decode cX5_chooses 103 = .ok (.baload, 1) := by decide +kernel
theorem dX5_chooses_104 : decode cX5_chooses 104 = .ok (.ifCond .ne 45, 3) := by decide +kernel
theorem dX5_chooses_107 : decode cX5_chooses 107 = .ok (.aload_n 0, 1) := by decide +kernel
theorem dX5_chooses_108 : decode cX5_chooses 108 = .ok (.getfield 48, 3) := by decide +kernel
theorem dX5_chooses_111 : decode cX5_chooses 111 = .ok (.iload 5, 2) := by decide +kernel
theorem dX5_chooses_113 : decode cX5_chooses 113 = .ok (.iaload, 1) := by decide +kernel
theorem dX5_chooses_114 : decode cX5_chooses 114 = .ok (.ifCond .le 35, 3) := by decide +kernel
theorem dX5_chooses_117 : decode cX5_chooses 117 = .ok (.aload_n 0, 1) := by decide +kernel
theorem dX5_chooses_118 : decode cX5_chooses 118 = .ok (.getfield 162, 3) := by decide +kernel
theorem dX5_chooses_121 : decode cX5_chooses 121 = .ok (.iconst (-1), 1) := by decide +kernel
theorem dX5_chooses_122 : decode cX5_chooses 122 = .ok (.if_icmp .eq 17, 3) := by decide +kernel
theorem dX5_chooses_125 : decode cX5_chooses 125 = .ok (.aload_n 0, 1) := by decide +kernel
theorem dX5_chooses_126 : decode cX5_chooses 126 = .ok (.getfield 48, 3) := by decide +kernel
theorem dX5_chooses_129 : decode cX5_chooses 129 = .ok (.iload 5, 2) := by decide +kernel
theorem dX5_chooses_131 : decode cX5_chooses 131 = .ok (.iaload, 1) := by decide +kernel
theorem dX5_chooses_132 : decode cX5_chooses 132 = .ok (.aload_n 0, 1) := by decide +kernel
theorem dX5_chooses_133 : decode cX5_chooses 133 = .ok (.getfield 162, 3) := by decide +kernel
theorem dX5_chooses_136 : decode cX5_chooses 136 = .ok (.if_icmp .ge 13, 3) := by decide +kernel
theorem dX5_chooses_139 : decode cX5_chooses 139 = .ok (.aload_n 0, 1) := by decide +kernel
theorem dX5_chooses_140 : decode cX5_chooses 140 = .ok (.getfield 48, 3) := by decide +kernel
theorem dX5_chooses_143 : decode cX5_chooses 143 = .ok (.iload 5, 2) := by decide +kernel
theorem dX5_chooses_145 : decode cX5_chooses 145 = .ok (.iaload, 1) := by decide +kernel
theorem dX5_chooses_146 : decode cX5_chooses 146 = .ok (.goto 7, 3) := by decide +kernel
theorem dX5_chooses_149 : decode cX5_chooses 149 = .ok (.aload_n 0, 1) := by decide +kernel
theorem dX5_chooses_150 : decode cX5_chooses 150 = .ok (.getfield 162, 3) := by decide +kernel
theorem dX5_chooses_153 : decode cX5_chooses 153 = .ok (.putfield 162, 3) := by decide +kernel
theorem dX5_chooses_156 : decode cX5_chooses 156 = .ok (.iinc 5 1, 3) := by decide +kernel
theorem dX5_chooses_159 : decode cX5_chooses 159 = .ok (.goto (-129), 3) := by decide +kernel
theorem dX5_chooses_162 : decode cX5_chooses 162 = .ok (.iconst 0, 1) := by decide +kernel
theorem dX5_chooses_163 : decode cX5_chooses 163 = .ok (.istore 5, 2) := by decide +kernel
theorem dX5_chooses_165 : decode cX5_chooses 165 = .ok (.iload 5, 2) := by decide +kernel
theorem dX5_chooses_167 : decode cX5_chooses 167 = .ok (.iconst 3, 1) := by decide +kernel
theorem dX5_chooses_168 : decode cX5_chooses 168 = .ok (.if_icmp .ge 47, 3) := by decide +kernel
theorem dX5_chooses_171 : decode cX5_chooses 171 = .ok (.aload_n 0, 1) := by decide +kernel
theorem dX5_chooses_172 : decode cX5_chooses 172 = .ok (.getfield 48, 3) := by decide +kernel
theorem dX5_chooses_175 : decode cX5_chooses 175 = .ok (.iload 5, 2) := by decide +kernel
theorem dX5_chooses_177 : decode cX5_chooses 177 = .ok (.dup2, 1) := by decide +kernel
theorem dX5_chooses_178 : decode cX5_chooses 178 = .ok (.iaload, 1) := by decide +kernel
theorem dX5_chooses_179 : decode cX5_chooses 179 = .ok (.aload_n 0, 1) := by decide +kernel
theorem dX5_chooses_180 : decode cX5_chooses 180 = .ok (.getfield 44, 3) := by decide +kernel
theorem dX5_chooses_183 : decode cX5_chooses 183 = .ok (.iload 5, 2) := by decide +kernel
theorem dX5_chooses_185 : decode cX5_chooses 185 = .ok (.baload, 1) := by decide +kernel
theorem dX5_chooses_186 : decode cX5_chooses 186 = .ok (.ifCond .ne 20, 3) := by decide +kernel
theorem dX5_chooses_189 : decode cX5_chooses 189 = .ok (.aload_n 0, 1) := by decide +kernel
theorem dX5_chooses_190 : decode cX5_chooses 190 = .ok (.getfield 48, 3) := by decide +kernel
theorem dX5_chooses_193 : decode cX5_chooses 193 = .ok (.iload 5, 2) := by decide +kernel
theorem dX5_chooses_195 : decode cX5_chooses 195 = .ok (.iaload, 1) := by decide +kernel
theorem dX5_chooses_196 : decode cX5_chooses 196 = .ok (.ifCond .le 10, 3) := by decide +kernel
theorem dX5_chooses_199 : decode cX5_chooses 199 = .ok (.aload_n 0, 1) := by decide +kernel
theorem dX5_chooses_200 : decode cX5_chooses 200 = .ok (.getfield 162, 3) := by decide +kernel
theorem dX5_chooses_203 : decode cX5_chooses 203 = .ok (.goto 4, 3) := by decide +kernel
theorem dX5_chooses_206 : decode cX5_chooses 206 = .ok (.iconst 0, 1) := by decide +kernel
theorem dX5_chooses_207 : decode cX5_chooses 207 = .ok (.isub, 1) := by decide +kernel
theorem dX5_chooses_208 : decode cX5_chooses 208 = .ok (.iastore, 1) := by decide +kernel
theorem dX5_chooses_209 : decode cX5_chooses 209 = .ok (.iinc 5 1, 3) := by decide +kernel
theorem dX5_chooses_212 : decode cX5_chooses 212 = .ok (.goto (-47), 3) := by decide +kernel
theorem dX5_chooses_215 : decode cX5_chooses 215 = .ok (.return_, 1) := by decide +kernel
theorem dX5_bits_0 : decode cX5_bits 0 = .ok (.iload_n 0, 1) := by decide +kernel
theorem dX5_bits_1 : decode cX5_bits 1 = .ok (.iconst 1, 1) := by decide +kernel
theorem dX5_bits_2 : decode cX5_bits 2 = .ok (.iand, 1) := by decide +kernel
theorem dX5_bits_3 : decode cX5_bits 3 = .ok (.iload_n 0, 1) := by decide +kernel
theorem dX5_bits_4 : decode cX5_bits 4 = .ok (.iconst 1, 1) := by decide +kernel
theorem dX5_bits_5 : decode cX5_bits 5 = .ok (.ishr, 1) := by decide +kernel
theorem dX5_bits_6 : decode cX5_bits 6 = .ok (.iconst 1, 1) := by decide +kernel
theorem dX5_bits_7 : decode cX5_bits 7 = .ok (.iand, 1) := by decide +kernel
theorem dX5_bits_8 : decode cX5_bits 8 = .ok (.iadd, 1) := by decide +kernel
theorem dX5_bits_9 : decode cX5_bits 9 = .ok (.iload_n 0, 1) := by decide +kernel
theorem dX5_bits_10 : decode cX5_bits 10 = .ok (.iconst 2, 1) := by decide +kernel
theorem dX5_bits_11 : decode cX5_bits 11 = .ok (.ishr, 1) := by decide +kernel
theorem dX5_bits_12 : decode cX5_bits 12 = .ok (.iconst 1, 1) := by decide +kernel
theorem dX5_bits_13 : decode cX5_bits 13 = .ok (.iand, 1) := by decide +kernel
theorem dX5_bits_14 : decode cX5_bits 14 = .ok (.iadd, 1) := by decide +kernel
theorem dX5_bits_15 : decode cX5_bits 15 = .ok (.ireturn, 1) := by decide +kernel
set_option maxRecDepth 20000 in
theorem ggX5_costWith_X5_chooses : GoodIn wsX5_costWith wsX5_chooses := goodIn_r _ [8, 3, 1, 9, 10, 11, 12, 13, 14, 7, 15, 22, 23, 24, 25, 26, 27, 28, 29, 30, 31, 32, 33, 34, 35, 36, 37, 38, 39, 40, 41, 42, 43] (by decide +kernel) (by decide +kernel)
set_option maxRecDepth 20000 in
theorem gX5_costWith_X5_chooses : GoodIn wsX5_costWith (wsV RX5 165 RX5 yX5_chooses wsX5_chooses) := goodIn_app (goodIn_of _ (by decide +kernel)) ggX5_costWith_X5_chooses
set_option maxRecDepth 20000 in
theorem ggX5_costWith_X5_bits : GoodIn wsX5_costWith wsX5_bits := goodIn_r _ [18] (by decide +kernel) (by decide +kernel)
set_option maxRecDepth 20000 in
theorem gX5_costWith_X5_bits : GoodIn wsX5_costWith (va_wsS RX5 169 yX5_bits wsX5_bits) := goodIn_app (goodIn_of _ (by decide +kernel)) ggX5_costWith_X5_bits
set_option maxRecDepth 20000 in
theorem ggX5_costWith_X5_place : GoodIn wsX5_costWith wsX5_place := goodIn_r _ [21] (by decide +kernel) (by decide +kernel)
set_option maxRecDepth 20000 in
theorem gX5_costWith_X5_place : GoodIn wsX5_costWith (va_wsS RX5 172 yX5_place wsX5_place) := goodIn_app (goodIn_of _ (by decide +kernel)) ggX5_costWith_X5_place
theorem dX5_costWith_0 : decode cX5_costWith 0 = .ok (.aload_n 0, 1) := by decide +kernel
theorem dX5_costWith_1 : decode cX5_costWith 1 = .ok (.iload_n 1, 1) := by decide +kernel
theorem dX5_costWith_2 : decode cX5_costWith 2 = .ok (.iload_n 3, 1) := by decide +kernel
theorem dX5_costWith_3 : decode cX5_costWith 3 = .ok (.iload 4, 2) := by decide +kernel
theorem dX5_costWith_5 : decode cX5_costWith 5 = .ok (.iload 5, 2) := by decide +kernel
theorem dX5_costWith_7 : decode cX5_costWith 7 = .ok (.invokevirtual 165, 3) := by decide +kernel
theorem dX5_costWith_10 : decode cX5_costWith 10 = .ok (.aload_n 0, 1) := by decide +kernel
theorem dX5_costWith_11 : decode cX5_costWith 11 = .ok (.getfield 162, 3) := by decide +kernel
theorem dX5_costWith_14 : decode cX5_costWith 14 = .ok (.iconst (-1), 1) := by decide +kernel
theorem dX5_costWith_15 : decode cX5_costWith 15 = .ok (.if_icmp .eq 11, 3) := by decide +kernel
theorem dX5_costWith_18 : decode cX5_costWith 18 = .ok (.aload_n 0, 1) := by decide +kernel
theorem dX5_costWith_19 : decode cX5_costWith 19 = .ok (.getfield 162, 3) := by decide +kernel
theorem dX5_costWith_22 : decode cX5_costWith 22 = .ok (.iload_n 2, 1) := by decide +kernel
theorem dX5_costWith_23 : decode cX5_costWith 23 = .ok (.if_icmp .le 7, 3) := by decide +kernel
theorem dX5_costWith_26 : decode cX5_costWith 26 = .ok (.sipush 1000, 3) := by decide +kernel
theorem dX5_costWith_29 : decode cX5_costWith 29 = .ok (.ireturn, 1) := by decide +kernel
theorem dX5_costWith_30 : decode cX5_costWith 30 = .ok (.iload_n 1, 1) := by decide +kernel
theorem dX5_costWith_31 : decode cX5_costWith 31 = .ok (.invokestatic 169, 3) := by decide +kernel
theorem dX5_costWith_34 : decode cX5_costWith 34 = .ok (.aload_n 0, 1) := by decide +kernel
theorem dX5_costWith_35 : decode cX5_costWith 35 = .ok (.getfield 162, 3) := by decide +kernel
theorem dX5_costWith_38 : decode cX5_costWith 38 = .ok (.iload_n 2, 1) := by decide +kernel
theorem dX5_costWith_39 : decode cX5_costWith 39 = .ok (.if_icmp .ne 7, 3) := by decide +kernel
theorem dX5_costWith_42 : decode cX5_costWith 42 = .ok (.iconst 0, 1) := by decide +kernel
theorem dX5_costWith_43 : decode cX5_costWith 43 = .ok (.goto 35, 3) := by decide +kernel
theorem dX5_costWith_46 : decode cX5_costWith 46 = .ok (.aload_n 0, 1) := by decide +kernel
theorem dX5_costWith_47 : decode cX5_costWith 47 = .ok (.getfield 35, 3) := by decide +kernel
theorem dX5_costWith_50 : decode cX5_costWith 50 = .ok (.iload_n 2, 1) := by decide +kernel
theorem dX5_costWith_51 : decode cX5_costWith 51 = .ok (.aload_n 0, 1) := by decide +kernel
theorem dX5_costWith_52 : decode cX5_costWith 52 = .ok (.getfield 162, 3) := by decide +kernel
theorem dX5_costWith_55 : decode cX5_costWith 55 = .ok (.isub, 1) := by decide +kernel
theorem dX5_costWith_56 : decode cX5_costWith 56 = .ok (.aload_n 0, 1) := by decide +kernel
theorem dX5_costWith_57 : decode cX5_costWith 57 = .ok (.getfield 48, 3) := by decide +kernel
theorem dX5_costWith_60 : decode cX5_costWith 60 = .ok (.iconst 0, 1) := by decide +kernel
theorem dX5_costWith_61 : decode cX5_costWith 61 = .ok (.iaload, 1) := by decide +kernel
theorem dX5_costWith_62 : decode cX5_costWith 62 = .ok (.aload_n 0, 1) := by decide +kernel
theorem dX5_costWith_63 : decode cX5_costWith 63 = .ok (.getfield 48, 3) := by decide +kernel
theorem dX5_costWith_66 : decode cX5_costWith 66 = .ok (.iconst 1, 1) := by decide +kernel
theorem dX5_costWith_67 : decode cX5_costWith 67 = .ok (.iaload, 1) := by decide +kernel
theorem dX5_costWith_68 : decode cX5_costWith 68 = .ok (.aload_n 0, 1) := by decide +kernel
theorem dX5_costWith_69 : decode cX5_costWith 69 = .ok (.getfield 48, 3) := by decide +kernel
theorem dX5_costWith_72 : decode cX5_costWith 72 = .ok (.iconst 2, 1) := by decide +kernel
theorem dX5_costWith_73 : decode cX5_costWith 73 = .ok (.iaload, 1) := by decide +kernel
theorem dX5_costWith_74 : decode cX5_costWith 74 = .ok (.invokestatic 172, 3) := by decide +kernel
theorem dX5_costWith_77 : decode cX5_costWith 77 = .ok (.iaload, 1) := by decide +kernel
theorem dX5_costWith_78 : decode cX5_costWith 78 = .ok (.iadd, 1) := by decide +kernel
theorem dX5_costWith_79 : decode cX5_costWith 79 = .ok (.ireturn, 1) := by decide +kernel
set_option maxRecDepth 20000 in
theorem ggX5_best_X5_isStacks : GoodIn wsX5_best wsX5_isStacks := goodIn_r _ [5, 6, 7, 8, 9, 4, 10, 30, 31, 32, 33, 34, 35, 36, 37, 38, 39, 40, 41, 42, 43, 44, 45, 46, 47, 48, 49, 50, 51] (by decide +kernel) (by decide +kernel)
set_option maxRecDepth 20000 in
theorem gX5_best_X5_isStacks : GoodIn wsX5_best (wsV RX5 176 RX5 yX5_isStacks wsX5_isStacks) := goodIn_app (goodIn_of _ (by decide +kernel)) ggX5_best_X5_isStacks
set_option maxRecDepth 20000 in
theorem ggX5_best_X5_costWith : GoodIn wsX5_best wsX5_costWith := goodIn_r _ [14, 15, 16, 17, 18, 19, 20, 4, 21, 6, 22, 23, 7, 8, 9, 10, 24, 25, 26, 27, 28, 29, 30, 31, 32, 33, 34, 35, 36, 37, 38, 39, 40, 41, 42, 43, 44, 45, 46, 47, 48, 49, 50, 51] (by decide +kernel) (by decide +kernel)
set_option maxRecDepth 20000 in
theorem gX5_best_X5_costWith : GoodIn wsX5_best (wsV RX5 179 RX5 yX5_costWith wsX5_costWith) := goodIn_app (goodIn_of _ (by decide +kernel)) ggX5_best_X5_costWith
theorem dX5_best_0 : decode cX5_best 0 = .ok (.sipush 1000, 3) := by decide +kernel
theorem dX5_best_3 : decode cX5_best 3 = .ok (.istore 5, 2) := by decide +kernel
theorem dX5_best_5 : decode cX5_best 5 = .ok (.iconst 0, 1) := by decide +kernel
theorem dX5_best_6 : decode cX5_best 6 = .ok (.istore 6, 2) := by decide +kernel
theorem dX5_best_8 : decode cX5_best 8 = .ok (.iload 6, 2) := by decide +kernel
theorem dX5_best_10 : decode cX5_best 10 = .ok (.bipush 8, 2) := by decide +kernel
theorem dX5_best_12 : decode cX5_best 12 = .ok (.if_icmp .ge 53, 3) := by decide +kernel
theorem dX5_best_15 : decode cX5_best 15 = .ok (.aload_n 0, 1) := by decide +kernel
theorem dX5_best_16 : decode cX5_best 16 = .ok (.iload 6, 2) := by decide +kernel
theorem dX5_best_18 : decode cX5_best 18 = .ok (.invokevirtual 176, 3) := by decide +kernel
theorem dX5_best_21 : decode cX5_best 21 = .ok (.ifCond .eq 17, 3) := by decide +kernel
theorem dX5_best_24 : decode cX5_best 24 = .ok (.aload_n 0, 1) := by decide +kernel
theorem dX5_best_25 : decode cX5_best 25 = .ok (.iload 6, 2) := by decide +kernel
theorem dX5_best_27 : decode cX5_best 27 = .ok (.iload_n 1, 1) := by decide +kernel
theorem dX5_best_28 : decode cX5_best 28 = .ok (.iload_n 2, 1) := by decide +kernel
theorem dX5_best_29 : decode cX5_best 29 = .ok (.iload_n 3, 1) := by decide +kernel
theorem dX5_best_30 : decode cX5_best 30 = .ok (.iload 4, 2) := by decide +kernel
theorem dX5_best_32 : decode cX5_best 32 = .ok (.invokevirtual 179, 3) := by decide +kernel
theorem dX5_best_35 : decode cX5_best 35 = .ok (.goto 6, 3) := by decide +kernel
theorem dX5_best_38 : decode cX5_best 38 = .ok (.sipush 1000, 3) := by decide +kernel
theorem dX5_best_41 : decode cX5_best 41 = .ok (.istore 7, 2) := by decide +kernel
theorem dX5_best_43 : decode cX5_best 43 = .ok (.iload 7, 2) := by decide +kernel
theorem dX5_best_45 : decode cX5_best 45 = .ok (.iload 5, 2) := by decide +kernel
theorem dX5_best_47 : decode cX5_best 47 = .ok (.if_icmp .ge 8, 3) := by decide +kernel
theorem dX5_best_50 : decode cX5_best 50 = .ok (.iload 7, 2) := by decide +kernel
theorem dX5_best_52 : decode cX5_best 52 = .ok (.goto 5, 3) := by decide +kernel
theorem dX5_best_55 : decode cX5_best 55 = .ok (.iload 5, 2) := by decide +kernel
theorem dX5_best_57 : decode cX5_best 57 = .ok (.istore 5, 2) := by decide +kernel
theorem dX5_best_59 : decode cX5_best 59 = .ok (.iinc 6 1, 3) := by decide +kernel
theorem dX5_best_62 : decode cX5_best 62 = .ok (.goto (-54), 3) := by decide +kernel
theorem dX5_best_65 : decode cX5_best 65 = .ok (.iload 5, 2) := by decide +kernel
theorem dX5_best_67 : decode cX5_best 67 = .ok (.ireturn, 1) := by decide +kernel
set_option maxRecDepth 20000 in
theorem ggX5_fills_X5_isTable : GoodIn wsX5_fills wsX5_isTable := goodIn_r _ [7, 8, 1, 9, 10, 11, 12, 13, 14, 6, 15, 40, 41, 42, 43, 44, 45, 46, 47, 48, 49, 50, 51, 52, 53, 54, 55, 56, 57, 58, 59, 60, 61] (by decide +kernel) (by decide +kernel)
set_option maxRecDepth 20000 in
theorem gX5_fills_X5_isTable : GoodIn wsX5_fills (wsV RX5 183 RX5 yX5_isTable wsX5_isTable) := goodIn_app (goodIn_of _ (by decide +kernel)) ggX5_fills_X5_isTable
set_option maxRecDepth 20000 in
theorem ggX5_fills_X5_place : GoodIn wsX5_fills wsX5_place := goodIn_r _ [18] (by decide +kernel) (by decide +kernel)
set_option maxRecDepth 20000 in
theorem gX5_fills_X5_place : GoodIn wsX5_fills (va_wsS RX5 172 yX5_place wsX5_place) := goodIn_app (goodIn_of _ (by decide +kernel)) ggX5_fills_X5_place
set_option maxRecDepth 20000 in
theorem ggX5_fills_X5_best : GoodIn wsX5_fills wsX5_best := goodIn_r _ [22, 23, 24, 25, 6, 26, 9, 12, 13, 14, 15, 27, 28, 29, 30, 31, 2, 32, 33, 34, 35, 36, 1, 10, 37, 38, 39, 16, 17, 18, 40, 41, 42, 43, 44, 45, 46, 47, 48, 49, 50, 51, 52, 53, 54, 55, 56, 57, 58, 59, 60, 61] (by decide +kernel) (by decide +kernel)
set_option maxRecDepth 20000 in
theorem gX5_fills_X5_best : GoodIn wsX5_fills (wsV RX5 186 RX5 yX5_best wsX5_best) := goodIn_app (goodIn_of _ (by decide +kernel)) ggX5_fills_X5_best
theorem dX5_fills_0 : decode cX5_fills 0 = .ok (.aload_n 0, 1) := by decide +kernel
theorem dX5_fills_1 : decode cX5_fills 1 = .ok (.invokevirtual 183, 3) := by decide +kernel
theorem dX5_fills_4 : decode cX5_fills 4 = .ok (.ifCond .eq 4, 3) := by decide +kernel
theorem dX5_fills_7 : decode cX5_fills 7 = .ok (.return_, 1) := by decide +kernel
theorem dX5_fills_8 : decode cX5_fills 8 = .ok (.iconst 1, 1) := by decide +kernel
theorem dX5_fills_9 : decode cX5_fills 9 = .ok (.istore_n 1, 1) := by decide +kernel
theorem dX5_fills_10 : decode cX5_fills 10 = .ok (.iload_n 1, 1) := by decide +kernel
theorem dX5_fills_11 : decode cX5_fills 11 = .ok (.bipush 40, 2) := by decide +kernel
theorem dX5_fills_13 : decode cX5_fills 13 = .ok (.if_icmp .gt 87, 3) := by decide +kernel
theorem dX5_fills_16 : decode cX5_fills 16 = .ok (.iconst 0, 1) := by decide +kernel
theorem dX5_fills_17 : decode cX5_fills 17 = .ok (.istore_n 2, 1) := by decide +kernel
theorem dX5_fills_18 : decode cX5_fills 18 = .ok (.iload_n 2, 1) := by decide +kernel
theorem dX5_fills_19 : decode cX5_fills 19 = .ok (.aload_n 0, 1) := by decide +kernel
theorem dX5_fills_20 : decode cX5_fills 20 = .ok (.getfield 41, 3) := by decide +kernel
theorem dX5_fills_23 : decode cX5_fills 23 = .ok (.iconst 0, 1) := by decide +kernel
theorem dX5_fills_24 : decode cX5_fills 24 = .ok (.iaload, 1) := by decide +kernel
theorem dX5_fills_25 : decode cX5_fills 25 = .ok (.if_icmp .gt 69, 3) := by decide +kernel
theorem dX5_fills_28 : decode cX5_fills 28 = .ok (.iconst 0, 1) := by decide +kernel
theorem dX5_fills_29 : decode cX5_fills 29 = .ok (.istore_n 3, 1) := by decide +kernel
theorem dX5_fills_30 : decode cX5_fills 30 = .ok (.iload_n 3, 1) := by decide +kernel
theorem dX5_fills_31 : decode cX5_fills 31 = .ok (.aload_n 0, 1) := by decide +kernel
theorem dX5_fills_32 : decode cX5_fills 32 = .ok (.getfield 41, 3) := by decide +kernel
theorem dX5_fills_35 : decode cX5_fills 35 = .ok (.iconst 1, 1) := by decide +kernel
theorem dX5_fills_36 : decode cX5_fills 36 = .ok (.iaload, 1) := by decide +kernel
theorem dX5_fills_37 : decode cX5_fills 37 = .ok (.if_icmp .gt 51, 3) := by decide +kernel
theorem dX5_fills_40 : decode cX5_fills 40 = .ok (.iconst 0, 1) := by decide +kernel
theorem dX5_fills_41 : decode cX5_fills 41 = .ok (.istore 4, 2) := by decide +kernel
theorem dX5_fills_43 : decode cX5_fills 43 = .ok (.iload 4, 2) := by decide +kernel
theorem dX5_fills_45 : decode cX5_fills 45 = .ok (.aload_n 0, 1) := by decide +kernel
theorem dX5_fills_46 : decode cX5_fills 46 = .ok (.getfield 41, 3) := by decide +kernel
theorem dX5_fills_49 : decode cX5_fills 49 = .ok (.iconst 2, 1) := by decide +kernel
theorem dX5_fills_50 : decode cX5_fills 50 = .ok (.iaload, 1) := by decide +kernel
theorem dX5_fills_51 : decode cX5_fills 51 = .ok (.if_icmp .gt 31, 3) := by decide +kernel
theorem dX5_fills_54 : decode cX5_fills 54 = .ok (.aload_n 0, 1) := by decide +kernel
theorem dX5_fills_55 : decode cX5_fills 55 = .ok (.getfield 35, 3) := by decide +kernel
theorem dX5_fills_58 : decode cX5_fills 58 = .ok (.iload_n 1, 1) := by decide +kernel
theorem dX5_fills_59 : decode cX5_fills 59 = .ok (.iload_n 2, 1) := by decide +kernel
theorem dX5_fills_60 : decode cX5_fills 60 = .ok (.iload_n 3, 1) := by decide +kernel
theorem dX5_fills_61 : decode cX5_fills 61 = .ok (.iload 4, 2) := by decide +kernel
theorem dX5_fills_63 : decode cX5_fills 63 = .ok (.invokestatic 172, 3) := by decide +kernel
theorem dX5_fills_66 : decode cX5_fills 66 = .ok (.aload_n 0, 1) := by decide +kernel
theorem dX5_fills_67 : decode cX5_fills 67 = .ok (.iload_n 1, 1) := by decide +kernel
theorem dX5_fills_68 : decode cX5_fills 68 = .ok (.iload_n 2, 1) := by decide +kernel
theorem dX5_fills_69 : decode cX5_fills 69 = .ok (.iload_n 3, 1) := by decide +kernel
theorem dX5_fills_70 : decode cX5_fills 70 = .ok (.iload 4, 2) := by decide +kernel
theorem dX5_fills_72 : decode cX5_fills 72 = .ok (.invokevirtual 186, 3) := by decide +kernel
theorem dX5_fills_75 : decode cX5_fills 75 = .ok (.iastore, 1) := by decide +kernel
theorem dX5_fills_76 : decode cX5_fills 76 = .ok (.iinc 4 1, 3) := by decide +kernel
theorem dX5_fills_79 : decode cX5_fills 79 = .ok (.goto (-36), 3) := by decide +kernel
theorem dX5_fills_82 : decode cX5_fills 82 = .ok (.iinc 3 1, 3) := by decide +kernel
theorem dX5_fills_85 : decode cX5_fills 85 = .ok (.goto (-55), 3) := by decide +kernel
theorem dX5_fills_88 : decode cX5_fills 88 = .ok (.iinc 2 1, 3) := by decide +kernel
theorem dX5_fills_91 : decode cX5_fills 91 = .ok (.goto (-73), 3) := by decide +kernel
theorem dX5_fills_94 : decode cX5_fills 94 = .ok (.iinc 1 1, 3) := by decide +kernel
theorem dX5_fills_97 : decode cX5_fills 97 = .ok (.goto (-87), 3) := by decide +kernel
theorem dX5_fills_100 : decode cX5_fills 100 = .ok (.return_, 1) := by decide +kernel
set_option maxRecDepth 20000 in
theorem ggX5_above_X5_of : GoodIn wsX5_above wsX5_of := goodIn_r _ [6, 1, 7, 8, 9, 10, 11, 12, 13, 14, 15, 16, 17, 18, 19, 20, 21, 22, 23, 24, 25, 26, 27, 28] (by decide +kernel) (by decide +kernel)
set_option maxRecDepth 20000 in
theorem gX5_above_X5_of : GoodIn wsX5_above (wsV RX5 63 RX5 yX5_of wsX5_of) := goodIn_app (goodIn_of _ (by decide +kernel)) ggX5_above_X5_of
theorem dX5_above_0 : decode cX5_above 0 = .ok (.iload_n 1, 1) := by decide +kernel
theorem dX5_above_1 : decode cX5_above 1 = .ok (.aload_n 0, 1) := by decide +kernel
theorem dX5_above_2 : decode cX5_above 2 = .ok (.getfield 7, 3) := by decide +kernel
theorem dX5_above_5 : decode cX5_above 5 = .ok (.bipush 21, 2) := by decide +kernel
theorem dX5_above_7 : decode cX5_above 7 = .ok (.iaload, 1) := by decide +kernel
theorem dX5_above_8 : decode cX5_above 8 = .ok (.if_icmp .ge 12, 3) := by decide +kernel
theorem dX5_above_11 : decode cX5_above 11 = .ok (.aload_n 0, 1) := by decide +kernel
theorem dX5_above_12 : decode cX5_above 12 = .ok (.iload_n 1, 1) := by decide +kernel
theorem dX5_above_13 : decode cX5_above 13 = .ok (.iconst 1, 1) := by decide +kernel
theorem dX5_above_14 : decode cX5_above 14 = .ok (.invokevirtual 63, 3) := by decide +kernel
theorem dX5_above_17 : decode cX5_above 17 = .ok (.goto 4, 3) := by decide +kernel
theorem dX5_above_20 : decode cX5_above 20 = .ok (.iconst 0, 1) := by decide +kernel
theorem dX5_above_21 : decode cX5_above 21 = .ok (.ireturn, 1) := by decide +kernel
set_option maxRecDepth 20000 in
theorem ggX5_costOf_X5_fills : GoodIn wsX5_costOf wsX5_fills := goodIn_r _ [6, 7, 1, 8, 9, 10, 5, 11, 12, 13, 14, 15, 16, 17, 18, 19, 20, 21, 22, 23, 24, 25, 26, 27, 28, 29, 30, 31, 32, 33, 34, 35, 36, 37, 38, 39, 40, 41, 42, 43, 48, 49, 50, 51, 52, 53, 54, 55, 56, 57, 58, 59, 60, 61, 62, 63, 64, 65, 66, 67, 68, 69] (by decide +kernel) (by decide +kernel)
set_option maxRecDepth 20000 in
theorem gX5_costOf_X5_fills : GoodIn wsX5_costOf (wsV RX5 189 RX5 yX5_fills wsX5_fills) := goodIn_app (goodIn_of _ (by decide +kernel)) ggX5_costOf_X5_fills
set_option maxRecDepth 20000 in
theorem ggX5_costOf_X5_above : GoodIn wsX5_costOf wsX5_above := goodIn_r _ [47, 13, 16, 17, 18, 5, 19, 48, 49, 50, 51, 52, 53, 54, 55, 56, 57, 58, 59, 60, 61, 62, 63, 64, 65, 66, 67, 68, 69] (by decide +kernel) (by decide +kernel)
set_option maxRecDepth 20000 in
theorem gX5_costOf_X5_above : GoodIn wsX5_costOf (wsV RX5 192 RX5 yX5_above wsX5_above) := goodIn_app (goodIn_of _ (by decide +kernel)) ggX5_costOf_X5_above
set_option maxRecDepth 20000 in
theorem ggX5_costOf_X5_place : GoodIn wsX5_costOf wsX5_place := goodIn_r _ [22] (by decide +kernel) (by decide +kernel)
set_option maxRecDepth 20000 in
theorem gX5_costOf_X5_place : GoodIn wsX5_costOf (va_wsS RX5 172 yX5_place wsX5_place) := goodIn_app (goodIn_of _ (by decide +kernel)) ggX5_costOf_X5_place
theorem dX5_costOf_0 : decode cX5_costOf 0 = .ok (.aload_n 0, 1) := by decide +kernel
theorem dX5_costOf_1 : decode cX5_costOf 1 = .ok (.invokevirtual 189, 3) := by decide +kernel
theorem dX5_costOf_4 : decode cX5_costOf 4 = .ok (.aload_n 0, 1) := by decide +kernel
theorem dX5_costOf_5 : decode cX5_costOf 5 = .ok (.getfield 35, 3) := by decide +kernel
theorem dX5_costOf_8 : decode cX5_costOf 8 = .ok (.iload_n 1, 1) := by decide +kernel
theorem dX5_costOf_9 : decode cX5_costOf 9 = .ok (.aload_n 0, 1) := by decide +kernel
theorem dX5_costOf_10 : decode cX5_costOf 10 = .ok (.iconst 0, 1) := by decide +kernel
theorem dX5_costOf_11 : decode cX5_costOf 11 = .ok (.invokevirtual 192, 3) := by decide +kernel
theorem dX5_costOf_14 : decode cX5_costOf 14 = .ok (.aload_n 0, 1) := by decide +kernel
theorem dX5_costOf_15 : decode cX5_costOf 15 = .ok (.iconst 1, 1) := by decide +kernel
theorem dX5_costOf_16 : decode cX5_costOf 16 = .ok (.invokevirtual 192, 3) := by decide +kernel
theorem dX5_costOf_19 : decode cX5_costOf 19 = .ok (.aload_n 0, 1) := by decide +kernel
theorem dX5_costOf_20 : decode cX5_costOf 20 = .ok (.iconst 2, 1) := by decide +kernel
theorem dX5_costOf_21 : decode cX5_costOf 21 = .ok (.invokevirtual 192, 3) := by decide +kernel
theorem dX5_costOf_24 : decode cX5_costOf 24 = .ok (.invokestatic 172, 3) := by decide +kernel
theorem dX5_costOf_27 : decode cX5_costOf 27 = .ok (.iaload, 1) := by decide +kernel
theorem dX5_costOf_28 : decode cX5_costOf 28 = .ok (.istore_n 2, 1) := by decide +kernel
theorem dX5_costOf_29 : decode cX5_costOf 29 = .ok (.iload_n 2, 1) := by decide +kernel
theorem dX5_costOf_30 : decode cX5_costOf 30 = .ok (.sipush 1000, 3) := by decide +kernel
theorem dX5_costOf_33 : decode cX5_costOf 33 = .ok (.if_icmp .lt 7, 3) := by decide +kernel
theorem dX5_costOf_36 : decode cX5_costOf 36 = .ok (.iconst (-1), 1) := by decide +kernel
theorem dX5_costOf_37 : decode cX5_costOf 37 = .ok (.goto 4, 3) := by decide +kernel
theorem dX5_costOf_40 : decode cX5_costOf 40 = .ok (.iload_n 2, 1) := by decide +kernel
theorem dX5_costOf_41 : decode cX5_costOf 41 = .ok (.ireturn, 1) := by decide +kernel
set_option maxRecDepth 20000 in
theorem ggX5_cost_X5_in : GoodIn wsX5_cost wsX5_in := goodIn_r _ [4] (by decide +kernel) (by decide +kernel)
set_option maxRecDepth 20000 in
theorem gX5_cost_X5_in : GoodIn wsX5_cost (va_wsS RX5 55 yX5_in wsX5_in) := goodIn_app (goodIn_of _ (by decide +kernel)) ggX5_cost_X5_in
set_option maxRecDepth 20000 in
theorem ggX5_cost_X5_costOf : GoodIn wsX5_cost wsX5_costOf := goodIn_r _ [8, 9, 10, 11, 12, 3, 13, 14, 15, 16, 17, 18, 19, 20, 21, 22, 23, 24, 25, 26, 27, 28, 29, 30, 31, 32, 33, 34, 35, 36, 37, 38, 39, 40, 41, 42, 43, 44, 45, 46, 47, 48, 49, 50, 51, 52, 53, 54, 55, 56, 57, 58, 59, 60, 61, 62, 63, 64, 65, 66, 67, 68, 69, 70, 71, 72, 73, 74, 75, 76] (by decide +kernel) (by decide +kernel)
set_option maxRecDepth 20000 in
theorem gX5_cost_X5_costOf : GoodIn wsX5_cost (wsV RX5 195 RX5 yX5_costOf wsX5_costOf) := goodIn_app (goodIn_of _ (by decide +kernel)) ggX5_cost_X5_costOf
theorem dX5_cost_0 : decode cX5_cost 0 = .ok (.iload_n 1, 1) := by decide +kernel
theorem dX5_cost_1 : decode cX5_cost 1 = .ok (.iconst 1, 1) := by decide +kernel
theorem dX5_cost_2 : decode cX5_cost 2 = .ok (.bipush 40, 2) := by decide +kernel
theorem dX5_cost_4 : decode cX5_cost 4 = .ok (.invokestatic 55, 3) := by decide +kernel
theorem dX5_cost_7 : decode cX5_cost 7 = .ok (.ifCond .eq 11, 3) := by decide +kernel
theorem dX5_cost_10 : decode cX5_cost 10 = .ok (.aload_n 0, 1) := by decide +kernel
theorem dX5_cost_11 : decode cX5_cost 11 = .ok (.iload_n 1, 1) := by decide +kernel
theorem dX5_cost_12 : decode cX5_cost 12 = .ok (.invokevirtual 195, 3) := by decide +kernel
theorem dX5_cost_15 : decode cX5_cost 15 = .ok (.goto 5, 3) := by decide +kernel
theorem dX5_cost_18 : decode cX5_cost 18 = .ok (.bipush (-2), 2) := by decide +kernel
theorem dX5_cost_20 : decode cX5_cost 20 = .ok (.ireturn, 1) := by decide +kernel
set_option maxRecDepth 20000 in
theorem ggX5_plannedStep_X5_above : GoodIn wsX5_plannedStep wsX5_above := goodIn_r _ [7, 8, 9, 10, 11, 6, 12, 34, 35, 36, 37, 38, 39, 40, 41, 42, 43, 44, 45, 46, 47, 48, 49, 50, 51, 52, 53, 54, 55] (by decide +kernel) (by decide +kernel)
set_option maxRecDepth 20000 in
theorem gX5_plannedStep_X5_above : GoodIn wsX5_plannedStep (wsV RX5 192 RX5 yX5_above wsX5_above) := goodIn_app (goodIn_of _ (by decide +kernel)) ggX5_plannedStep_X5_above
set_option maxRecDepth 20000 in
theorem ggX5_plannedStep_X5_isStacks : GoodIn wsX5_plannedStep wsX5_isStacks := goodIn_r _ [16, 8, 9, 10, 11, 6, 12, 34, 35, 36, 37, 38, 39, 40, 41, 42, 43, 44, 45, 46, 47, 48, 49, 50, 51, 52, 53, 54, 55] (by decide +kernel) (by decide +kernel)
set_option maxRecDepth 20000 in
theorem gX5_plannedStep_X5_isStacks : GoodIn wsX5_plannedStep (wsV RX5 176 RX5 yX5_isStacks wsX5_isStacks) := goodIn_app (goodIn_of _ (by decide +kernel)) ggX5_plannedStep_X5_isStacks
set_option maxRecDepth 20000 in
theorem ggX5_plannedStep_X5_costWith : GoodIn wsX5_plannedStep wsX5_costWith := goodIn_r _ [20, 1, 21, 2, 22, 23, 24, 6, 25, 8, 26, 27, 9, 10, 11, 12, 28, 29, 30, 31, 32, 33, 34, 35, 36, 37, 38, 39, 40, 41, 42, 43, 44, 45, 46, 47, 48, 49, 50, 51, 52, 53, 54, 55] (by decide +kernel) (by decide +kernel)
set_option maxRecDepth 20000 in
theorem gX5_plannedStep_X5_costWith : GoodIn wsX5_plannedStep (wsV RX5 179 RX5 yX5_costWith wsX5_costWith) := goodIn_app (goodIn_of _ (by decide +kernel)) ggX5_plannedStep_X5_costWith
set_option maxRecDepth 20000 in
theorem ggX5_plannedStep_X5_chooses : GoodIn wsX5_plannedStep wsX5_chooses := goodIn_r _ [25, 2, 1, 8, 26, 27, 9, 10, 11, 6, 12, 34, 35, 36, 37, 38, 39, 40, 41, 42, 43, 44, 45, 46, 47, 48, 49, 50, 51, 52, 53, 54, 55] (by decide +kernel) (by decide +kernel)
set_option maxRecDepth 20000 in
theorem gX5_plannedStep_X5_chooses : GoodIn wsX5_plannedStep (wsV RX5 165 RX5 yX5_chooses wsX5_chooses) := goodIn_app (goodIn_of _ (by decide +kernel)) ggX5_plannedStep_X5_chooses
set_option maxRecDepth 20000 in
theorem ggX5_plannedStep_X5_bits : GoodIn wsX5_plannedStep wsX5_bits := goodIn_r _ [30] (by decide +kernel) (by decide +kernel)
set_option maxRecDepth 20000 in
theorem gX5_plannedStep_X5_bits : GoodIn wsX5_plannedStep (va_wsS RX5 169 yX5_bits wsX5_bits) := goodIn_app (goodIn_of _ (by decide +kernel)) ggX5_plannedStep_X5_bits
theorem dX5_plannedStep_0 : decode cX5_plannedStep 0 = .ok (.iload_n 1, 1) := by decide +kernel
theorem dX5_plannedStep_1 : decode cX5_plannedStep 1 = .ok (.istore 5, 2) := by decide +kernel
theorem dX5_plannedStep_3 : decode cX5_plannedStep 3 = .ok (.iload 4, 2) := by decide +kernel
theorem dX5_plannedStep_5 : decode cX5_plannedStep 5 = .ok (.istore 6, 2) := by decide +kernel
theorem dX5_plannedStep_7 : decode cX5_plannedStep 7 = .ok (.aload_n 0, 1) := by decide +kernel
theorem dX5_plannedStep_8 : decode cX5_plannedStep 8 = .ok (.iconst 0, 1) := by decide +kernel
theorem dX5_plannedStep_9 : decode cX5_plannedStep 9 = .ok (.invokevirtual 192, 3) := by decide +kernel
theorem dX5_plannedStep_12 : decode cX5_plannedStep 12 = .ok (.istore 7, 2) := by decide +kernel
theorem dX5_plannedStep_14 : decode cX5_plannedStep 14 = .ok (.aload_n 0, 1) := by decide +kernel
theorem dX5_plannedStep_15 : decode cX5_plannedStep 15 = .ok (.iconst 1, 1) := by decide +kernel
theorem dX5_plannedStep_16 : decode cX5_plannedStep 16 = .ok (.invokevirtual 192, 3) := by decide +kernel
theorem dX5_plannedStep_19 : decode cX5_plannedStep 19 = .ok (.istore 8, 2) := by decide +kernel
theorem dX5_plannedStep_21 : decode cX5_plannedStep 21 = .ok (.aload_n 0, 1) := by decide +kernel
theorem dX5_plannedStep_22 : decode cX5_plannedStep 22 = .ok (.iconst 2, 1) := by decide +kernel
theorem dX5_plannedStep_23 : decode cX5_plannedStep 23 = .ok (.invokevirtual 192, 3) := by decide +kernel
theorem dX5_plannedStep_26 : decode cX5_plannedStep 26 = .ok (.istore 9, 2) := by decide +kernel
theorem dX5_plannedStep_28 : decode cX5_plannedStep 28 = .ok (.iconst 0, 1) := by decide +kernel
theorem dX5_plannedStep_29 : decode cX5_plannedStep 29 = .ok (.istore 10, 2) := by decide +kernel
theorem dX5_plannedStep_31 : decode cX5_plannedStep 31 = .ok (.iload 5, 2) := by decide +kernel
theorem dX5_plannedStep_33 : decode cX5_plannedStep 33 = .ok (.ifCond .le 121, 3) := by decide +kernel
theorem dX5_plannedStep_36 : decode cX5_plannedStep 36 = .ok (.iconst 0, 1) := by decide +kernel
theorem dX5_plannedStep_37 : decode cX5_plannedStep 37 = .ok (.istore 11, 2) := by decide +kernel
theorem dX5_plannedStep_39 : decode cX5_plannedStep 39 = .ok (.aload_n 0, 1) := by decide +kernel
theorem dX5_plannedStep_40 : decode cX5_plannedStep 40 = .ok (.iload 11, 2) := by decide +kernel
theorem dX5_plannedStep_42 : decode cX5_plannedStep 42 = .ok (.invokevirtual 176, 3) := by decide +kernel
theorem dX5_plannedStep_45 : decode cX5_plannedStep 45 = .ok (.ifCond .eq 22, 3) := by decide +kernel
theorem dX5_plannedStep_48 : decode cX5_plannedStep 48 = .ok (.aload_n 0, 1) := by decide +kernel
theorem dX5_plannedStep_49 : decode cX5_plannedStep 49 = .ok (.iload 11, 2) := by decide +kernel
theorem dX5_plannedStep_51 : decode cX5_plannedStep 51 = .ok (.iload 5, 2) := by decide +kernel
theorem dX5_plannedStep_53 : decode cX5_plannedStep 53 = .ok (.iload 7, 2) := by decide +kernel
theorem dX5_plannedStep_55 : decode cX5_plannedStep 55 = .ok (.iload 8, 2) := by decide +kernel
theorem dX5_plannedStep_57 : decode cX5_plannedStep 57 = .ok (.iload 9, 2) := by decide +kernel
theorem dX5_plannedStep_59 : decode cX5_plannedStep 59 = .ok (.invokevirtual 179, 3) := by decide +kernel
theorem dX5_plannedStep_62 : decode cX5_plannedStep 62 = .ok (.iload 6, 2) := by decide +kernel
theorem dX5_plannedStep_64 : decode cX5_plannedStep 64 = .ok (.if_icmp .eq 9, 3) := by decide +kernel
theorem dX5_plannedStep_67 : decode cX5_plannedStep 67 = .ok (.iinc 11 1, 3) := by decide +kernel
theorem dX5_plannedStep_70 : decode cX5_plannedStep 70 = .ok (.goto (-31), 3) := by decide +kernel
theorem dX5_plannedStep_73 : decode cX5_plannedStep 73 = .ok (.iload 10, 2) := by decide +kernel
theorem dX5_plannedStep_75 : decode cX5_plannedStep 75 = .ok (.iload_n 2, 1) := by decide +kernel
theorem dX5_plannedStep_76 : decode cX5_plannedStep 76 = .ok (.if_icmp .ne 17, 3) := by decide +kernel
theorem dX5_plannedStep_79 : decode cX5_plannedStep 79 = .ok (.iload_n 3, 1) := by decide +kernel
theorem dX5_plannedStep_80 : decode cX5_plannedStep 80 = .ok (.ifCond .eq 8, 3) := by decide +kernel
theorem dX5_plannedStep_83 : decode cX5_plannedStep 83 = .ok (.iload 11, 2) := by decide +kernel
theorem dX5_plannedStep_85 : decode cX5_plannedStep 85 = .ok (.goto 7, 3) := by decide +kernel
theorem dX5_plannedStep_88 : decode cX5_plannedStep 88 = .ok (.iload_n 1, 1) := by decide +kernel
theorem dX5_plannedStep_89 : decode cX5_plannedStep 89 = .ok (.iload 5, 2) := by decide +kernel
theorem dX5_plannedStep_91 : decode cX5_plannedStep 91 = .ok (.isub, 1) := by decide +kernel
theorem dX5_plannedStep_92 : decode cX5_plannedStep 92 = .ok (.ireturn, 1) := by decide +kernel
theorem dX5_plannedStep_93 : decode cX5_plannedStep 93 = .ok (.aload_n 0, 1) := by decide +kernel
theorem dX5_plannedStep_94 : decode cX5_plannedStep 94 = .ok (.iload 11, 2) := by decide +kernel
theorem dX5_plannedStep_96 : decode cX5_plannedStep 96 = .ok (.iload 7, 2) := by decide +kernel
theorem dX5_plannedStep_98 : decode cX5_plannedStep 98 = .ok (.iload 8, 2) := by decide +kernel
theorem dX5_plannedStep_100 : decode cX5_plannedStep 100 = .ok (.iload 9, 2) := by decide +kernel
theorem dX5_plannedStep_102 : decode cX5_plannedStep 102 = .ok (.invokevirtual 165, 3) := by decide +kernel
theorem dX5_plannedStep_105 : decode cX5_plannedStep 105 = .ok (.iload 6, 2) := by decide +kernel
theorem dX5_plannedStep_107 : decode cX5_plannedStep 107 = .ok (.iload 11, 2) := by decide +kernel
theorem dX5_plannedStep_109 : decode cX5_plannedStep 109 = .ok (.invokestatic 169, 3) := by decide +kernel
theorem dX5_plannedStep_112 : decode cX5_plannedStep 112 = .ok (.isub, 1) := by decide +kernel
theorem dX5_plannedStep_113 : decode cX5_plannedStep 113 = .ok (.istore 6, 2) := by decide +kernel
theorem dX5_plannedStep_115 : decode cX5_plannedStep 115 = .ok (.iload 5, 2) := by decide +kernel
theorem dX5_plannedStep_117 : decode cX5_plannedStep 117 = .ok (.aload_n 0, 1) := by decide +kernel
theorem dX5_plannedStep_118 : decode cX5_plannedStep 118 = .ok (.getfield 162, 3) := by decide +kernel
theorem dX5_plannedStep_121 : decode cX5_plannedStep 121 = .ok (.isub, 1) := by decide +kernel
theorem dX5_plannedStep_122 : decode cX5_plannedStep 122 = .ok (.istore 5, 2) := by decide +kernel
theorem dX5_plannedStep_124 : decode cX5_plannedStep 124 = .ok (.aload_n 0, 1) := by decide +kernel
theorem dX5_plannedStep_125 : decode cX5_plannedStep 125 = .ok (.getfield 48, 3) := by decide +kernel
theorem dX5_plannedStep_128 : decode cX5_plannedStep 128 = .ok (.iconst 0, 1) := by decide +kernel
theorem dX5_plannedStep_129 : decode cX5_plannedStep 129 = .ok (.iaload, 1) := by decide +kernel
theorem dX5_plannedStep_130 : decode cX5_plannedStep 130 = .ok (.istore 7, 2) := by decide +kernel
theorem dX5_plannedStep_132 : decode cX5_plannedStep 132 = .ok (.aload_n 0, 1) := by decide +kernel
theorem dX5_plannedStep_133 : decode cX5_plannedStep 133 = .ok (.getfield 48, 3) := by decide +kernel
theorem dX5_plannedStep_136 : decode cX5_plannedStep 136 = .ok (.iconst 1, 1) := by decide +kernel
theorem dX5_plannedStep_137 : decode cX5_plannedStep 137 = .ok (.iaload, 1) := by decide +kernel
theorem dX5_plannedStep_138 : decode cX5_plannedStep 138 = .ok (.istore 8, 2) := by decide +kernel
theorem dX5_plannedStep_140 : decode cX5_plannedStep 140 = .ok (.aload_n 0, 1) := by decide +kernel
theorem dX5_plannedStep_141 : decode cX5_plannedStep 141 = .ok (.getfield 48, 3) := by decide +kernel
theorem dX5_plannedStep_144 : decode cX5_plannedStep 144 = .ok (.iconst 2, 1) := by decide +kernel
theorem dX5_plannedStep_145 : decode cX5_plannedStep 145 = .ok (.iaload, 1) := by decide +kernel
theorem dX5_plannedStep_146 : decode cX5_plannedStep 146 = .ok (.istore 9, 2) := by decide +kernel
theorem dX5_plannedStep_148 : decode cX5_plannedStep 148 = .ok (.iinc 10 1, 3) := by decide +kernel
theorem dX5_plannedStep_151 : decode cX5_plannedStep 151 = .ok (.goto (-120), 3) := by decide +kernel
theorem dX5_plannedStep_154 : decode cX5_plannedStep 154 = .ok (.iconst (-1), 1) := by decide +kernel
theorem dX5_plannedStep_155 : decode cX5_plannedStep 155 = .ok (.ireturn, 1) := by decide +kernel
set_option maxRecDepth 20000 in
theorem ggX5_planned_X5_in : GoodIn wsX5_planned wsX5_in := goodIn_r _ [4] (by decide +kernel) (by decide +kernel)
set_option maxRecDepth 20000 in
theorem gX5_planned_X5_in : GoodIn wsX5_planned (va_wsS RX5 55 yX5_in wsX5_in) := goodIn_app (goodIn_of _ (by decide +kernel)) ggX5_planned_X5_in
set_option maxRecDepth 20000 in
theorem ggX5_planned_X5_costOf : GoodIn wsX5_planned wsX5_costOf := goodIn_r _ [8, 9, 10, 11, 12, 3, 13, 14, 15, 16, 17, 18, 19, 20, 21, 22, 23, 24, 25, 26, 27, 28, 29, 30, 31, 32, 33, 34, 35, 36, 37, 38, 39, 40, 41, 42, 43, 44, 45, 46, 47, 48, 49, 50, 51, 52, 53, 54, 59, 60, 61, 62, 63, 64, 65, 66, 67, 68, 69, 70, 71, 72, 73, 74, 75, 76, 77, 78, 79, 80] (by decide +kernel) (by decide +kernel)
set_option maxRecDepth 20000 in
theorem gX5_planned_X5_costOf : GoodIn wsX5_planned (wsV RX5 195 RX5 yX5_costOf wsX5_costOf) := goodIn_app (goodIn_of _ (by decide +kernel)) ggX5_planned_X5_costOf
set_option maxRecDepth 20000 in
theorem ggX5_planned_X5_plannedStep : GoodIn wsX5_planned wsX5_plannedStep := goodIn_r _ [58, 42, 43, 51, 52, 53, 3, 54, 20, 23, 24, 25, 26, 34, 35, 36, 37, 38, 39, 40, 41, 9, 44, 45, 46, 47, 14, 21, 48, 49, 50, 27, 28, 29, 59, 60, 61, 62, 63, 64, 65, 66, 67, 68, 69, 70, 71, 72, 73, 74, 75, 76, 77, 78, 79, 80] (by decide +kernel) (by decide +kernel)
set_option maxRecDepth 20000 in
theorem gX5_planned_X5_plannedStep : GoodIn wsX5_planned (wsV RX5 198 RX5 yX5_plannedStep wsX5_plannedStep) := goodIn_app (goodIn_of _ (by decide +kernel)) ggX5_planned_X5_plannedStep
theorem dX5_planned_0 : decode cX5_planned 0 = .ok (.iload_n 1, 1) := by decide +kernel
theorem dX5_planned_1 : decode cX5_planned 1 = .ok (.iconst 1, 1) := by decide +kernel
theorem dX5_planned_2 : decode cX5_planned 2 = .ok (.bipush 40, 2) := by decide +kernel
theorem dX5_planned_4 : decode cX5_planned 4 = .ok (.invokestatic 55, 3) := by decide +kernel
theorem dX5_planned_7 : decode cX5_planned 7 = .ok (.ifCond .eq 7, 3) := by decide +kernel
theorem dX5_planned_10 : decode cX5_planned 10 = .ok (.iload_n 2, 1) := by decide +kernel
theorem dX5_planned_11 : decode cX5_planned 11 = .ok (.ifCond .ge 6, 3) := by decide +kernel
theorem dX5_planned_14 : decode cX5_planned 14 = .ok (.bipush (-2), 2) := by decide +kernel
theorem dX5_planned_16 : decode cX5_planned 16 = .ok (.ireturn, 1) := by decide +kernel
theorem dX5_planned_17 : decode cX5_planned 17 = .ok (.aload_n 0, 1) := by decide +kernel
theorem dX5_planned_18 : decode cX5_planned 18 = .ok (.iload_n 1, 1) := by decide +kernel
theorem dX5_planned_19 : decode cX5_planned 19 = .ok (.invokevirtual 195, 3) := by decide +kernel
theorem dX5_planned_22 : decode cX5_planned 22 = .ok (.istore 4, 2) := by decide +kernel
theorem dX5_planned_24 : decode cX5_planned 24 = .ok (.iload 4, 2) := by decide +kernel
theorem dX5_planned_26 : decode cX5_planned 26 = .ok (.iconst (-1), 1) := by decide +kernel
theorem dX5_planned_27 : decode cX5_planned 27 = .ok (.if_icmp .ne 7, 3) := by decide +kernel
theorem dX5_planned_30 : decode cX5_planned 30 = .ok (.iconst (-1), 1) := by decide +kernel
theorem dX5_planned_31 : decode cX5_planned 31 = .ok (.goto 12, 3) := by decide +kernel
theorem dX5_planned_34 : decode cX5_planned 34 = .ok (.aload_n 0, 1) := by decide +kernel
theorem dX5_planned_35 : decode cX5_planned 35 = .ok (.iload_n 1, 1) := by decide +kernel
theorem dX5_planned_36 : decode cX5_planned 36 = .ok (.iload_n 2, 1) := by decide +kernel
theorem dX5_planned_37 : decode cX5_planned 37 = .ok (.iload_n 3, 1) := by decide +kernel
theorem dX5_planned_38 : decode cX5_planned 38 = .ok (.iload 4, 2) := by decide +kernel
theorem dX5_planned_40 : decode cX5_planned 40 = .ok (.invokevirtual 198, 3) := by decide +kernel
theorem dX5_planned_43 : decode cX5_planned 43 = .ok (.ireturn, 1) := by decide +kernel
set_option maxRecDepth 20000 in
theorem ggX5_measurableOf_X5_costOf : GoodIn wsX5_measurableOf wsX5_costOf := goodIn_r _ [5, 6, 7, 8, 9, 4, 10, 11, 12, 13, 14, 15, 16, 17, 18, 19, 20, 21, 22, 23, 24, 25, 26, 27, 28, 29, 30, 31, 32, 33, 34, 35, 36, 37, 38, 39, 40, 41, 42, 43, 44, 45, 46, 47, 48, 49, 50, 51, 52, 53, 54, 55, 56, 57, 58, 59, 60, 61, 62, 63, 64, 65, 66, 67, 68, 69, 70, 71, 72, 73] (by decide +kernel) (by decide +kernel)
set_option maxRecDepth 20000 in
theorem gX5_measurableOf_X5_costOf : GoodIn wsX5_measurableOf (wsV RX5 195 RX5 yX5_costOf wsX5_costOf) := goodIn_app (goodIn_of _ (by decide +kernel)) ggX5_measurableOf_X5_costOf
theorem dX5_measurableOf_0 : decode cX5_measurableOf 0 = .ok (.iconst 0, 1) := by decide +kernel
theorem dX5_measurableOf_1 : decode cX5_measurableOf 1 = .ok (.istore_n 3, 1) := by decide +kernel
theorem dX5_measurableOf_2 : decode cX5_measurableOf 2 = .ok (.iconst 1, 1) := by decide +kernel
theorem dX5_measurableOf_3 : decode cX5_measurableOf 3 = .ok (.istore 4, 2) := by decide +kernel
theorem dX5_measurableOf_5 : decode cX5_measurableOf 5 = .ok (.iload 4, 2) := by decide +kernel
theorem dX5_measurableOf_7 : decode cX5_measurableOf 7 = .ok (.bipush 40, 2) := by decide +kernel
theorem dX5_measurableOf_9 : decode cX5_measurableOf 9 = .ok (.if_icmp .gt 40, 3) := by decide +kernel
theorem dX5_measurableOf_12 : decode cX5_measurableOf 12 = .ok (.aload_n 0, 1) := by decide +kernel
theorem dX5_measurableOf_13 : decode cX5_measurableOf 13 = .ok (.iload 4, 2) := by decide +kernel
theorem dX5_measurableOf_15 : decode cX5_measurableOf 15 = .ok (.invokevirtual 195, 3) := by decide +kernel
theorem dX5_measurableOf_18 : decode cX5_measurableOf 18 = .ok (.istore 5, 2) := by decide +kernel
theorem dX5_measurableOf_20 : decode cX5_measurableOf 20 = .ok (.iload 5, 2) := by decide +kernel
theorem dX5_measurableOf_22 : decode cX5_measurableOf 22 = .ok (.iconst (-1), 1) := by decide +kernel
theorem dX5_measurableOf_23 : decode cX5_measurableOf 23 = .ok (.if_icmp .eq 20, 3) := by decide +kernel
theorem dX5_measurableOf_26 : decode cX5_measurableOf 26 = .ok (.iload 5, 2) := by decide +kernel
theorem dX5_measurableOf_28 : decode cX5_measurableOf 28 = .ok (.iload_n 2, 1) := by decide +kernel
theorem dX5_measurableOf_29 : decode cX5_measurableOf 29 = .ok (.if_icmp .gt 14, 3) := by decide +kernel
theorem dX5_measurableOf_32 : decode cX5_measurableOf 32 = .ok (.iload_n 3, 1) := by decide +kernel
theorem dX5_measurableOf_33 : decode cX5_measurableOf 33 = .ok (.iload_n 1, 1) := by decide +kernel
theorem dX5_measurableOf_34 : decode cX5_measurableOf 34 = .ok (.if_icmp .ne 6, 3) := by decide +kernel
theorem dX5_measurableOf_37 : decode cX5_measurableOf 37 = .ok (.iload 4, 2) := by decide +kernel
theorem dX5_measurableOf_39 : decode cX5_measurableOf 39 = .ok (.ireturn, 1) := by decide +kernel
theorem dX5_measurableOf_40 : decode cX5_measurableOf 40 = .ok (.iinc 3 1, 3) := by decide +kernel
theorem dX5_measurableOf_43 : decode cX5_measurableOf 43 = .ok (.iinc 4 1, 3) := by decide +kernel
theorem dX5_measurableOf_46 : decode cX5_measurableOf 46 = .ok (.goto (-41), 3) := by decide +kernel
theorem dX5_measurableOf_49 : decode cX5_measurableOf 49 = .ok (.iload_n 1, 1) := by decide +kernel
theorem dX5_measurableOf_50 : decode cX5_measurableOf 50 = .ok (.iconst (-1), 1) := by decide +kernel
theorem dX5_measurableOf_51 : decode cX5_measurableOf 51 = .ok (.if_icmp .ne 7, 3) := by decide +kernel
theorem dX5_measurableOf_54 : decode cX5_measurableOf 54 = .ok (.iload_n 3, 1) := by decide +kernel
theorem dX5_measurableOf_55 : decode cX5_measurableOf 55 = .ok (.goto 4, 3) := by decide +kernel
theorem dX5_measurableOf_58 : decode cX5_measurableOf 58 = .ok (.iconst (-1), 1) := by decide +kernel
theorem dX5_measurableOf_59 : decode cX5_measurableOf 59 = .ok (.ireturn, 1) := by decide +kernel
set_option maxRecDepth 20000 in
theorem ggX5_measurable_X5_in : GoodIn wsX5_measurable wsX5_in := goodIn_r _ [4] (by decide +kernel) (by decide +kernel)
set_option maxRecDepth 20000 in
theorem gX5_measurable_X5_in : GoodIn wsX5_measurable (va_wsS RX5 55 yX5_in wsX5_in) := goodIn_app (goodIn_of _ (by decide +kernel)) ggX5_measurable_X5_in
set_option maxRecDepth 20000 in
theorem ggX5_measurable_X5_measurableOf : GoodIn wsX5_measurable wsX5_measurableOf := goodIn_r _ [8, 9, 10, 11, 3, 12, 13, 14, 15, 16, 17, 18, 19, 20, 21, 22, 23, 24, 25, 26, 27, 28, 29, 30, 31, 32, 33, 34, 35, 36, 37, 38, 39, 40, 41, 42, 43, 44, 45, 46, 47, 48, 49, 50, 51, 52, 53, 54, 55, 56, 57, 58, 59, 60, 61, 62, 63, 64, 65, 66, 67, 68, 69, 70, 71, 72, 73, 74, 75, 76, 77, 78, 79, 80] (by decide +kernel) (by decide +kernel)
set_option maxRecDepth 20000 in
theorem gX5_measurable_X5_measurableOf : GoodIn wsX5_measurable (wsV RX5 202 RX5 yX5_measurableOf wsX5_measurableOf) := goodIn_app (goodIn_of _ (by decide +kernel)) ggX5_measurable_X5_measurableOf
theorem dX5_measurable_0 : decode cX5_measurable 0 = .ok (.iload_n 1, 1) := by decide +kernel
theorem dX5_measurable_1 : decode cX5_measurable 1 = .ok (.iconst (-1), 1) := by decide +kernel
theorem dX5_measurable_2 : decode cX5_measurable 2 = .ok (.if_icmp .lt 13, 3) := by decide +kernel
theorem dX5_measurable_5 : decode cX5_measurable 5 = .ok (.iload_n 2, 1) := by decide +kernel
theorem dX5_measurable_6 : decode cX5_measurable 6 = .ok (.iconst 0, 1) := by decide +kernel
theorem dX5_measurable_7 : decode cX5_measurable 7 = .ok (.bipush 9, 2) := by decide +kernel
theorem dX5_measurable_9 : decode cX5_measurable 9 = .ok (.invokestatic 55, 3) := by decide +kernel
theorem dX5_measurable_12 : decode cX5_measurable 12 = .ok (.ifCond .ne 8, 3) := by decide +kernel
theorem dX5_measurable_15 : decode cX5_measurable 15 = .ok (.bipush (-2), 2) := by decide +kernel
theorem dX5_measurable_17 : decode cX5_measurable 17 = .ok (.goto 9, 3) := by decide +kernel
theorem dX5_measurable_20 : decode cX5_measurable 20 = .ok (.aload_n 0, 1) := by decide +kernel
theorem dX5_measurable_21 : decode cX5_measurable 21 = .ok (.iload_n 1, 1) := by decide +kernel
theorem dX5_measurable_22 : decode cX5_measurable 22 = .ok (.iload_n 2, 1) := by decide +kernel
theorem dX5_measurable_23 : decode cX5_measurable 23 = .ok (.invokevirtual 202, 3) := by decide +kernel
theorem dX5_measurable_26 : decode cX5_measurable 26 = .ok (.ireturn, 1) := by decide +kernel
set_option maxRecDepth 20000 in
theorem ggX5_count_X5_stacks : GoodIn wsX5_count wsX5_stacks := goodIn_r _ [8, 1, 9, 10, 11, 7, 12, 13, 14, 15, 16, 17, 18, 19, 20, 21, 22, 23, 24, 25, 26, 27, 28, 29, 30, 31, 32, 33, 34] (by decide +kernel) (by decide +kernel)
set_option maxRecDepth 20000 in
theorem gX5_count_X5_stacks : GoodIn wsX5_count (wsV RX5 89 RX5 yX5_stacks wsX5_stacks) := goodIn_app (goodIn_of _ (by decide +kernel)) ggX5_count_X5_stacks
theorem dX5_count_0 : decode cX5_count 0 = .ok (.iload_n 1, 1) := by decide +kernel
theorem dX5_count_1 : decode cX5_count 1 = .ok (.tableswitch 149 0 9 #[55, 63, 68, 76, 107, 115, 123, 131, 139, 144], 55) := by decide +kernel
theorem dX5_count_56 : decode cX5_count 56 = .ok (.aload_n 0, 1) := by decide +kernel
theorem dX5_count_57 : decode cX5_count 57 = .ok (.getfield 7, 3) := by decide +kernel
theorem dX5_count_60 : decode cX5_count 60 = .ok (.bipush 21, 2) := by decide +kernel
theorem dX5_count_62 : decode cX5_count 62 = .ok (.iaload, 1) := by decide +kernel
theorem dX5_count_63 : decode cX5_count 63 = .ok (.ireturn, 1) := by decide +kernel
theorem dX5_count_64 : decode cX5_count 64 = .ok (.aload_n 0, 1) := by decide +kernel
theorem dX5_count_65 : decode cX5_count 65 = .ok (.invokevirtual 89, 3) := by decide +kernel
theorem dX5_count_68 : decode cX5_count 68 = .ok (.ireturn, 1) := by decide +kernel
theorem dX5_count_69 : decode cX5_count 69 = .ok (.aload_n 0, 1) := by decide +kernel
theorem dX5_count_70 : decode cX5_count 70 = .ok (.getfield 7, 3) := by decide +kernel
theorem dX5_count_73 : decode cX5_count 73 = .ok (.bipush 22, 2) := by decide +kernel
theorem dX5_count_75 : decode cX5_count 75 = .ok (.iaload, 1) := by decide +kernel
theorem dX5_count_76 : decode cX5_count 76 = .ok (.ireturn, 1) := by decide +kernel
theorem dX5_count_77 : decode cX5_count 77 = .ok (.aload_n 0, 1) := by decide +kernel
theorem dX5_count_78 : decode cX5_count 78 = .ok (.getfield 7, 3) := by decide +kernel
theorem dX5_count_81 : decode cX5_count 81 = .ok (.bipush 23, 2) := by decide +kernel
theorem dX5_count_83 : decode cX5_count 83 = .ok (.iaload, 1) := by decide +kernel
theorem dX5_count_84 : decode cX5_count 84 = .ok (.iconst (-1), 1) := by decide +kernel
theorem dX5_count_85 : decode cX5_count 85 = .ok (.if_icmp .ne 7, 3) := by decide +kernel
theorem dX5_count_88 : decode cX5_count 88 = .ok (.iconst (-1), 1) := by decide +kernel
theorem dX5_count_89 : decode cX5_count 89 = .ok (.goto 18, 3) := by decide +kernel
theorem dX5_count_92 : decode cX5_count 92 = .ok (.aload_n 0, 1) := by decide +kernel
theorem dX5_count_93 : decode cX5_count 93 = .ok (.getfield 7, 3) := by decide +kernel
theorem dX5_count_96 : decode cX5_count 96 = .ok (.bipush 22, 2) := by decide +kernel
theorem dX5_count_98 : decode cX5_count 98 = .ok (.iaload, 1) := by decide +kernel
theorem dX5_count_99 : decode cX5_count 99 = .ok (.aload_n 0, 1) := by decide +kernel
theorem dX5_count_100 : decode cX5_count 100 = .ok (.getfield 7, 3) := by decide +kernel
theorem dX5_count_103 : decode cX5_count 103 = .ok (.bipush 23, 2) := by decide +kernel
theorem dX5_count_105 : decode cX5_count 105 = .ok (.iaload, 1) := by decide +kernel
theorem dX5_count_106 : decode cX5_count 106 = .ok (.isub, 1) := by decide +kernel
theorem dX5_count_107 : decode cX5_count 107 = .ok (.ireturn, 1) := by decide +kernel
theorem dX5_count_108 : decode cX5_count 108 = .ok (.aload_n 0, 1) := by decide +kernel
theorem dX5_count_109 : decode cX5_count 109 = .ok (.getfield 7, 3) := by decide +kernel
theorem dX5_count_112 : decode cX5_count 112 = .ok (.bipush 24, 2) := by decide +kernel
theorem dX5_count_114 : decode cX5_count 114 = .ok (.iaload, 1) := by decide +kernel
theorem dX5_count_115 : decode cX5_count 115 = .ok (.ireturn, 1) := by decide +kernel
theorem dX5_count_116 : decode cX5_count 116 = .ok (.aload_n 0, 1) := by decide +kernel
theorem dX5_count_117 : decode cX5_count 117 = .ok (.getfield 7, 3) := by decide +kernel
theorem dX5_count_120 : decode cX5_count 120 = .ok (.bipush 27, 2) := by decide +kernel
theorem dX5_count_122 : decode cX5_count 122 = .ok (.iaload, 1) := by decide +kernel
theorem dX5_count_123 : decode cX5_count 123 = .ok (.ireturn, 1) := by decide +kernel
theorem dX5_count_124 : decode cX5_count 124 = .ok (.aload_n 0, 1) := by decide +kernel
theorem dX5_count_125 : decode cX5_count 125 = .ok (.getfield 7, 3) := by decide +kernel
theorem dX5_count_128 : decode cX5_count 128 = .ok (.bipush 25, 2) := by decide +kernel
theorem dX5_count_130 : decode cX5_count 130 = .ok (.iaload, 1) := by decide +kernel
theorem dX5_count_131 : decode cX5_count 131 = .ok (.ireturn, 1) := by decide +kernel
theorem dX5_count_132 : decode cX5_count 132 = .ok (.aload_n 0, 1) := by decide +kernel
theorem dX5_count_133 : decode cX5_count 133 = .ok (.getfield 7, 3) := by decide +kernel
theorem dX5_count_136 : decode cX5_count 136 = .ok (.bipush 26, 2) := by decide +kernel
theorem dX5_count_138 : decode cX5_count 138 = .ok (.iaload, 1) := by decide +kernel
theorem dX5_count_139 : decode cX5_count 139 = .ok (.ireturn, 1) := by decide +kernel
theorem dX5_count_140 : decode cX5_count 140 = .ok (.aload_n 0, 1) := by decide +kernel
theorem dX5_count_141 : decode cX5_count 141 = .ok (.getfield 59, 3) := by decide +kernel
theorem dX5_count_144 : decode cX5_count 144 = .ok (.ireturn, 1) := by decide +kernel
theorem dX5_count_145 : decode cX5_count 145 = .ok (.aload_n 0, 1) := by decide +kernel
theorem dX5_count_146 : decode cX5_count 146 = .ok (.getfield 109, 3) := by decide +kernel
theorem dX5_count_149 : decode cX5_count 149 = .ok (.ireturn, 1) := by decide +kernel
theorem dX5_count_150 : decode cX5_count 150 = .ok (.bipush (-2), 2) := by decide +kernel
theorem dX5_count_152 : decode cX5_count 152 = .ok (.ireturn, 1) := by decide +kernel
theorem dX5_mixes_0 : decode cX5_mixes 0 = .ok (.aload_n 0, 1) := by decide +kernel
theorem dX5_mixes_1 : decode cX5_mixes 1 = .ok (.ldc2_w 205, 3) := by decide +kernel
theorem dX5_mixes_4 : decode cX5_mixes 4 = .ok (.aload_n 0, 1) := by decide +kernel
theorem dX5_mixes_5 : decode cX5_mixes 5 = .ok (.getfield 207, 3) := by decide +kernel
theorem dX5_mixes_8 : decode cX5_mixes 8 = .ok (.lmul, 1) := by decide +kernel
theorem dX5_mixes_9 : decode cX5_mixes 9 = .ok (.iload_n 1, 1) := by decide +kernel
theorem dX5_mixes_10 : decode cX5_mixes 10 = .ok (.i2l, 1) := by decide +kernel
theorem dX5_mixes_11 : decode cX5_mixes 11 = .ok (.ladd, 1) := by decide +kernel
theorem dX5_mixes_12 : decode cX5_mixes 12 = .ok (.putfield 207, 3) := by decide +kernel
theorem dX5_mixes_15 : decode cX5_mixes 15 = .ok (.return_, 1) := by decide +kernel
set_option maxRecDepth 20000 in
theorem ggX5_digest_X5_count : GoodIn wsX5_digest wsX5_count := goodIn_r _ [10, 3, 11, 4, 12, 13, 14, 9, 15, 16, 17, 18, 19, 93, 94, 95, 96, 97, 98, 99, 100, 101, 102, 103, 104, 105, 106, 107, 108, 109, 110, 111, 112, 113, 114] (by decide +kernel) (by decide +kernel)
set_option maxRecDepth 20000 in
theorem gX5_digest_X5_count : GoodIn wsX5_digest (wsV RX5 213 RX5 yX5_count wsX5_count) := goodIn_app (goodIn_of _ (by decide +kernel)) ggX5_digest_X5_count
set_option maxRecDepth 20000 in
theorem ggX5_digest_X5_mixes : GoodIn wsX5_digest wsX5_mixes := goodIn_r _ [23, 24, 2, 93, 94, 95, 96, 97, 98, 99, 100, 101, 102, 103, 104, 105, 106, 107, 108, 109, 110, 111, 112, 113, 114] (by decide +kernel) (by decide +kernel)
set_option maxRecDepth 20000 in
theorem gX5_digest_X5_mixes : GoodIn wsX5_digest (wsV RX5 216 RX5 yX5_mixes wsX5_mixes) := goodIn_app (goodIn_of _ (by decide +kernel)) ggX5_digest_X5_mixes
set_option maxRecDepth 20000 in
theorem ggX5_digest_X5_glass : GoodIn wsX5_digest wsX5_glass := goodIn_r _ [28, 29, 30, 31, 9, 32, 3, 33, 34, 35, 16, 17, 18, 19, 36, 37, 38, 39, 93, 94, 95, 96, 97, 98, 99, 100, 101, 102, 103, 104, 105, 106, 107, 108, 109, 110, 111, 112, 113, 114] (by decide +kernel) (by decide +kernel)
set_option maxRecDepth 20000 in
theorem gX5_digest_X5_glass : GoodIn wsX5_digest (wsV RX5 219 RX5 yX5_glass wsX5_glass) := goodIn_app (goodIn_of _ (by decide +kernel)) ggX5_digest_X5_glass
set_option maxRecDepth 20000 in
theorem ggX5_digest_X5_event : GoodIn wsX5_digest wsX5_event := goodIn_r _ [43, 3, 33, 34, 9, 35, 93, 94, 95, 96, 97, 98, 99, 100, 101, 102, 103, 104, 105, 106, 107, 108, 109, 110, 111, 112, 113, 114] (by decide +kernel) (by decide +kernel)
set_option maxRecDepth 20000 in
theorem gX5_digest_X5_event : GoodIn wsX5_digest (wsV RX5 222 RX5 yX5_event wsX5_event) := goodIn_app (goodIn_of _ (by decide +kernel)) ggX5_digest_X5_event
set_option maxRecDepth 20000 in
theorem ggX5_digest_X5_costOf : GoodIn wsX5_digest wsX5_costOf := goodIn_r _ [47, 48, 49, 50, 51, 9, 52, 53, 54, 55, 56, 57, 58, 3, 59, 60, 16, 17, 18, 19, 61, 62, 63, 64, 65, 66, 67, 68, 69, 70, 71, 72, 73, 74, 75, 76, 77, 78, 79, 80, 81, 82, 83, 84, 85, 86, 87, 88, 93, 94, 95, 96, 97, 98, 99, 100, 101, 102, 103, 104, 105, 106, 107, 108, 109, 110, 111, 112, 113, 114] (by decide +kernel) (by decide +kernel)
set_option maxRecDepth 20000 in
theorem gX5_digest_X5_costOf : GoodIn wsX5_digest (wsV RX5 195 RX5 yX5_costOf wsX5_costOf) := goodIn_app (goodIn_of _ (by decide +kernel)) ggX5_digest_X5_costOf
set_option maxRecDepth 20000 in
theorem ggX5_digest_X5_measurableOf : GoodIn wsX5_digest wsX5_measurableOf := goodIn_r _ [92, 44, 45, 46, 9, 47, 48, 49, 50, 51, 52, 53, 54, 55, 56, 57, 58, 3, 59, 60, 16, 17, 18, 19, 61, 62, 63, 64, 65, 66, 67, 68, 69, 70, 71, 72, 73, 74, 75, 76, 77, 78, 79, 80, 81, 82, 83, 84, 85, 86, 87, 88, 93, 94, 95, 96, 97, 98, 99, 100, 101, 102, 103, 104, 105, 106, 107, 108, 109, 110, 111, 112, 113, 114] (by decide +kernel) (by decide +kernel)
set_option maxRecDepth 20000 in
theorem gX5_digest_X5_measurableOf : GoodIn wsX5_digest (wsV RX5 202 RX5 yX5_measurableOf wsX5_measurableOf) := goodIn_app (goodIn_of _ (by decide +kernel)) ggX5_digest_X5_measurableOf
theorem dX5_digest_0 : decode cX5_digest 0 = .ok (.aload_n 0, 1) := by decide +kernel
theorem dX5_digest_1 : decode cX5_digest 1 = .ok (.ldc2_w 211, 3) := by decide +kernel
theorem dX5_digest_4 : decode cX5_digest 4 = .ok (.putfield 207, 3) := by decide +kernel
theorem dX5_digest_7 : decode cX5_digest 7 = .ok (.iconst 0, 1) := by decide +kernel
theorem dX5_digest_8 : decode cX5_digest 8 = .ok (.istore_n 1, 1) := by decide +kernel
theorem dX5_digest_9 : decode cX5_digest 9 = .ok (.iload_n 1, 1) := by decide +kernel
theorem dX5_digest_10 : decode cX5_digest 10 = .ok (.bipush 10, 2) := by decide +kernel
theorem dX5_digest_12 : decode cX5_digest 12 = .ok (.if_icmp .ge 18, 3) := by decide +kernel
theorem dX5_digest_15 : decode cX5_digest 15 = .ok (.aload_n 0, 1) := by decide +kernel
theorem dX5_digest_16 : decode cX5_digest 16 = .ok (.aload_n 0, 1) := by decide +kernel
theorem dX5_digest_17 : decode cX5_digest 17 = .ok (.iload_n 1, 1) := by decide +kernel
theorem dX5_digest_18 : decode cX5_digest 18 = .ok (.invokevirtual 213, 3) := by decide +kernel
theorem dX5_digest_21 : decode cX5_digest 21 = .ok (.invokevirtual 216, 3) := by decide +kernel
theorem dX5_digest_24 : decode cX5_digest 24 = .ok (.iinc 1 1, 3) := by decide +kernel
theorem dX5_digest_27 : decode cX5_digest 27 = .ok (.goto (-18), 3) := by decide +kernel
theorem dX5_digest_30 : decode cX5_digest 30 = .ok (.iconst 0, 1) := by decide +kernel
theorem dX5_digest_31 : decode cX5_digest 31 = .ok (.istore_n 1, 1) := by decide +kernel
theorem dX5_digest_32 : decode cX5_digest 32 = .ok (.iload_n 1, 1) := by decide +kernel
theorem dX5_digest_33 : decode cX5_digest 33 = .ok (.bipush 8, 2) := by decide +kernel
theorem dX5_digest_35 : decode cX5_digest 35 = .ok (.aload_n 0, 1) := by decide +kernel
theorem dX5_digest_36 : decode cX5_digest 36 = .ok (.getfield 7, 3) := by decide +kernel
theorem dX5_digest_39 : decode cX5_digest 39 = .ok (.bipush 21, 2) := by decide +kernel
theorem dX5_digest_41 : decode cX5_digest 41 = .ok (.iaload, 1) := by decide +kernel
theorem dX5_digest_42 : decode cX5_digest 42 = .ok (.imul, 1) := by decide +kernel
theorem dX5_digest_43 : decode cX5_digest 43 = .ok (.if_icmp .ge 25, 3) := by decide +kernel
theorem dX5_digest_46 : decode cX5_digest 46 = .ok (.aload_n 0, 1) := by decide +kernel
theorem dX5_digest_47 : decode cX5_digest 47 = .ok (.aload_n 0, 1) := by decide +kernel
theorem dX5_digest_48 : decode cX5_digest 48 = .ok (.iload_n 1, 1) := by decide +kernel
theorem dX5_digest_49 : decode cX5_digest 49 = .ok (.bipush 8, 2) := by decide +kernel
theorem dX5_digest_51 : decode cX5_digest 51 = .ok (.idiv, 1) := by decide +kernel
theorem dX5_digest_52 : decode cX5_digest 52 = .ok (.iload_n 1, 1) := by decide +kernel
theorem dX5_digest_53 : decode cX5_digest 53 = .ok (.bipush 8, 2) := by decide +kernel
theorem dX5_digest_55 : decode cX5_digest 55 = .ok (.irem, 1) := by decide +kernel
theorem dX5_digest_56 : decode cX5_digest 56 = .ok (.invokevirtual 219, 3) := by decide +kernel
theorem dX5_digest_59 : decode cX5_digest 59 = .ok (.invokevirtual 216, 3) := by decide +kernel
theorem dX5_digest_62 : decode cX5_digest 62 = .ok (.iinc 1 1, 3) := by decide +kernel
theorem dX5_digest_65 : decode cX5_digest 65 = .ok (.goto (-33), 3) := by decide +kernel
theorem dX5_digest_68 : decode cX5_digest 68 = .ok (.iconst 0, 1) := by decide +kernel
theorem dX5_digest_69 : decode cX5_digest 69 = .ok (.istore_n 1, 1) := by decide +kernel
theorem dX5_digest_70 : decode cX5_digest 70 = .ok (.iload_n 1, 1) := by decide +kernel
theorem dX5_digest_71 : decode cX5_digest 71 = .ok (.iconst 3, 1) := by decide +kernel
theorem dX5_digest_72 : decode cX5_digest 72 = .ok (.aload_n 0, 1) := by decide +kernel
theorem dX5_digest_73 : decode cX5_digest 73 = .ok (.getfield 7, 3) := by decide +kernel
theorem dX5_digest_76 : decode cX5_digest 76 = .ok (.bipush 27, 2) := by decide +kernel
theorem dX5_digest_78 : decode cX5_digest 78 = .ok (.iaload, 1) := by decide +kernel
theorem dX5_digest_79 : decode cX5_digest 79 = .ok (.imul, 1) := by decide +kernel
theorem dX5_digest_80 : decode cX5_digest 80 = .ok (.if_icmp .ge 23, 3) := by decide +kernel
theorem dX5_digest_83 : decode cX5_digest 83 = .ok (.aload_n 0, 1) := by decide +kernel
theorem dX5_digest_84 : decode cX5_digest 84 = .ok (.aload_n 0, 1) := by decide +kernel
theorem dX5_digest_85 : decode cX5_digest 85 = .ok (.iload_n 1, 1) := by decide +kernel
theorem dX5_digest_86 : decode cX5_digest 86 = .ok (.iconst 3, 1) := by decide +kernel
theorem dX5_digest_87 : decode cX5_digest 87 = .ok (.idiv, 1) := by decide +kernel
theorem dX5_digest_88 : decode cX5_digest 88 = .ok (.iload_n 1, 1) := by decide +kernel
theorem dX5_digest_89 : decode cX5_digest 89 = .ok (.iconst 3, 1) := by decide +kernel
theorem dX5_digest_90 : decode cX5_digest 90 = .ok (.irem, 1) := by decide +kernel
theorem dX5_digest_91 : decode cX5_digest 91 = .ok (.invokevirtual 222, 3) := by decide +kernel
theorem dX5_digest_94 : decode cX5_digest 94 = .ok (.invokevirtual 216, 3) := by decide +kernel
theorem dX5_digest_97 : decode cX5_digest 97 = .ok (.iinc 1 1, 3) := by decide +kernel
theorem dX5_digest_100 : decode cX5_digest 100 = .ok (.goto (-30), 3) := by decide +kernel
theorem dX5_digest_103 : decode cX5_digest 103 = .ok (.iconst 1, 1) := by decide +kernel
theorem dX5_digest_104 : decode cX5_digest 104 = .ok (.istore_n 1, 1) := by decide +kernel
theorem dX5_digest_105 : decode cX5_digest 105 = .ok (.iload_n 1, 1) := by decide +kernel
theorem dX5_digest_106 : decode cX5_digest 106 = .ok (.bipush 20, 2) := by decide +kernel
theorem dX5_digest_108 : decode cX5_digest 108 = .ok (.if_icmp .gt 18, 3) := by decide +kernel
theorem dX5_digest_111 : decode cX5_digest 111 = .ok (.aload_n 0, 1) := by decide +kernel
theorem dX5_digest_112 : decode cX5_digest 112 = .ok (.aload_n 0, 1) := by decide +kernel
theorem dX5_digest_113 : decode cX5_digest 113 = .ok (.iload_n 1, 1) := by decide +kernel
theorem dX5_digest_114 : decode cX5_digest 114 = .ok (.invokevirtual 195, 3) := by decide +kernel
theorem dX5_digest_117 : decode cX5_digest 117 = .ok (.invokevirtual 216, 3) := by decide +kernel
theorem dX5_digest_120 : decode cX5_digest 120 = .ok (.iinc 1 1, 3) := by decide +kernel
theorem dX5_digest_123 : decode cX5_digest 123 = .ok (.goto (-18), 3) := by decide +kernel
theorem dX5_digest_126 : decode cX5_digest 126 = .ok (.aload_n 0, 1) := by decide +kernel
theorem dX5_digest_127 : decode cX5_digest 127 = .ok (.aload_n 0, 1) := by decide +kernel
theorem dX5_digest_128 : decode cX5_digest 128 = .ok (.iconst (-1), 1) := by decide +kernel
theorem dX5_digest_129 : decode cX5_digest 129 = .ok (.iconst 3, 1) := by decide +kernel
theorem dX5_digest_130 : decode cX5_digest 130 = .ok (.invokevirtual 202, 3) := by decide +kernel
theorem dX5_digest_133 : decode cX5_digest 133 = .ok (.invokevirtual 216, 3) := by decide +kernel
theorem dX5_digest_136 : decode cX5_digest 136 = .ok (.iconst 0, 1) := by decide +kernel
theorem dX5_digest_137 : decode cX5_digest 137 = .ok (.istore_n 1, 1) := by decide +kernel
theorem dX5_digest_138 : decode cX5_digest 138 = .ok (.iload_n 1, 1) := by decide +kernel
theorem dX5_digest_139 : decode cX5_digest 139 = .ok (.aload_n 0, 1) := by decide +kernel
theorem dX5_digest_140 : decode cX5_digest 140 = .ok (.getfield 109, 3) := by decide +kernel
theorem dX5_digest_143 : decode cX5_digest 143 = .ok (.if_icmp .ge 19, 3) := by decide +kernel
theorem dX5_digest_146 : decode cX5_digest 146 = .ok (.aload_n 0, 1) := by decide +kernel
theorem dX5_digest_147 : decode cX5_digest 147 = .ok (.aload_n 0, 1) := by decide +kernel
theorem dX5_digest_148 : decode cX5_digest 148 = .ok (.getfield 19, 3) := by decide +kernel
theorem dX5_digest_151 : decode cX5_digest 151 = .ok (.iload_n 1, 1) := by decide +kernel
theorem dX5_digest_152 : decode cX5_digest 152 = .ok (.iaload, 1) := by decide +kernel
theorem dX5_digest_153 : decode cX5_digest 153 = .ok (.invokevirtual 216, 3) := by decide +kernel
theorem dX5_digest_156 : decode cX5_digest 156 = .ok (.iinc 1 1, 3) := by decide +kernel
theorem dX5_digest_159 : decode cX5_digest 159 = .ok (.goto (-21), 3) := by decide +kernel
theorem dX5_digest_162 : decode cX5_digest 162 = .ok (.aload_n 0, 1) := by decide +kernel
theorem dX5_digest_163 : decode cX5_digest 163 = .ok (.getfield 207, 3) := by decide +kernel
theorem dX5_digest_166 : decode cX5_digest 166 = .ok (.lreturn, 1) := by decide +kernel
theorem dJ13_bitCount_95d88_0 : decode cJ13_bitCount_95d88 0 = .ok (.lload_n 0, 1) := by decide +kernel
theorem dJ13_bitCount_95d88_1 : decode cJ13_bitCount_95d88 1 = .ok (.lload_n 0, 1) := by decide +kernel
theorem dJ13_bitCount_95d88_2 : decode cJ13_bitCount_95d88 2 = .ok (.iconst 1, 1) := by decide +kernel
theorem dJ13_bitCount_95d88_3 : decode cJ13_bitCount_95d88 3 = .ok (.lushr, 1) := by decide +kernel
theorem dJ13_bitCount_95d88_4 : decode cJ13_bitCount_95d88 4 = .ok (.ldc2_w 314, 3) := by decide +kernel
theorem dJ13_bitCount_95d88_7 : decode cJ13_bitCount_95d88 7 = .ok (.land, 1) := by decide +kernel
theorem dJ13_bitCount_95d88_8 : decode cJ13_bitCount_95d88 8 = .ok (.lsub, 1) := by decide +kernel
theorem dJ13_bitCount_95d88_9 : decode cJ13_bitCount_95d88 9 = .ok (.lstore_n 0, 1) := by decide +kernel
theorem dJ13_bitCount_95d88_10 : decode cJ13_bitCount_95d88 10 = .ok (.lload_n 0, 1) := by decide +kernel
theorem dJ13_bitCount_95d88_11 : decode cJ13_bitCount_95d88 11 = .ok (.ldc2_w 316, 3) := by decide +kernel
theorem dJ13_bitCount_95d88_14 : decode cJ13_bitCount_95d88 14 = .ok (.land, 1) := by decide +kernel
theorem dJ13_bitCount_95d88_15 : decode cJ13_bitCount_95d88 15 = .ok (.lload_n 0, 1) := by decide +kernel
theorem dJ13_bitCount_95d88_16 : decode cJ13_bitCount_95d88 16 = .ok (.iconst 2, 1) := by decide +kernel
theorem dJ13_bitCount_95d88_17 : decode cJ13_bitCount_95d88 17 = .ok (.lushr, 1) := by decide +kernel
theorem dJ13_bitCount_95d88_18 : decode cJ13_bitCount_95d88 18 = .ok (.ldc2_w 316, 3) := by decide +kernel
theorem dJ13_bitCount_95d88_21 : decode cJ13_bitCount_95d88 21 = .ok (.land, 1) := by decide +kernel
theorem dJ13_bitCount_95d88_22 : decode cJ13_bitCount_95d88 22 = .ok (.ladd, 1) := by decide +kernel
theorem dJ13_bitCount_95d88_23 : decode cJ13_bitCount_95d88 23 = .ok (.lstore_n 0, 1) := by decide +kernel
theorem dJ13_bitCount_95d88_24 : decode cJ13_bitCount_95d88 24 = .ok (.lload_n 0, 1) := by decide +kernel
theorem dJ13_bitCount_95d88_25 : decode cJ13_bitCount_95d88 25 = .ok (.lload_n 0, 1) := by decide +kernel
theorem dJ13_bitCount_95d88_26 : decode cJ13_bitCount_95d88 26 = .ok (.iconst 4, 1) := by decide +kernel
theorem dJ13_bitCount_95d88_27 : decode cJ13_bitCount_95d88 27 = .ok (.lushr, 1) := by decide +kernel
theorem dJ13_bitCount_95d88_28 : decode cJ13_bitCount_95d88 28 = .ok (.ladd, 1) := by decide +kernel
theorem dJ13_bitCount_95d88_29 : decode cJ13_bitCount_95d88 29 = .ok (.ldc2_w 318, 3) := by decide +kernel
theorem dJ13_bitCount_95d88_32 : decode cJ13_bitCount_95d88 32 = .ok (.land, 1) := by decide +kernel
theorem dJ13_bitCount_95d88_33 : decode cJ13_bitCount_95d88 33 = .ok (.lstore_n 0, 1) := by decide +kernel
theorem dJ13_bitCount_95d88_34 : decode cJ13_bitCount_95d88 34 = .ok (.lload_n 0, 1) := by decide +kernel
theorem dJ13_bitCount_95d88_35 : decode cJ13_bitCount_95d88 35 = .ok (.lload_n 0, 1) := by decide +kernel
theorem dJ13_bitCount_95d88_36 : decode cJ13_bitCount_95d88 36 = .ok (.bipush 8, 2) := by decide +kernel
theorem dJ13_bitCount_95d88_38 : decode cJ13_bitCount_95d88 38 = .ok (.lushr, 1) := by decide +kernel
theorem dJ13_bitCount_95d88_39 : decode cJ13_bitCount_95d88 39 = .ok (.ladd, 1) := by decide +kernel
theorem dJ13_bitCount_95d88_40 : decode cJ13_bitCount_95d88 40 = .ok (.lstore_n 0, 1) := by decide +kernel
theorem dJ13_bitCount_95d88_41 : decode cJ13_bitCount_95d88 41 = .ok (.lload_n 0, 1) := by decide +kernel
theorem dJ13_bitCount_95d88_42 : decode cJ13_bitCount_95d88 42 = .ok (.lload_n 0, 1) := by decide +kernel
theorem dJ13_bitCount_95d88_43 : decode cJ13_bitCount_95d88 43 = .ok (.bipush 16, 2) := by decide +kernel
theorem dJ13_bitCount_95d88_45 : decode cJ13_bitCount_95d88 45 = .ok (.lushr, 1) := by decide +kernel
theorem dJ13_bitCount_95d88_46 : decode cJ13_bitCount_95d88 46 = .ok (.ladd, 1) := by decide +kernel
theorem dJ13_bitCount_95d88_47 : decode cJ13_bitCount_95d88 47 = .ok (.lstore_n 0, 1) := by decide +kernel
theorem dJ13_bitCount_95d88_48 : decode cJ13_bitCount_95d88 48 = .ok (.lload_n 0, 1) := by decide +kernel
theorem dJ13_bitCount_95d88_49 : decode cJ13_bitCount_95d88 49 = .ok (.lload_n 0, 1) := by decide +kernel
theorem dJ13_bitCount_95d88_50 : decode cJ13_bitCount_95d88 50 = .ok (.bipush 32, 2) := by decide +kernel
theorem dJ13_bitCount_95d88_52 : decode cJ13_bitCount_95d88 52 = .ok (.lushr, 1) := by decide +kernel
theorem dJ13_bitCount_95d88_53 : decode cJ13_bitCount_95d88 53 = .ok (.ladd, 1) := by decide +kernel
theorem dJ13_bitCount_95d88_54 : decode cJ13_bitCount_95d88 54 = .ok (.lstore_n 0, 1) := by decide +kernel
theorem dJ13_bitCount_95d88_55 : decode cJ13_bitCount_95d88 55 = .ok (.lload_n 0, 1) := by decide +kernel
theorem dJ13_bitCount_95d88_56 : decode cJ13_bitCount_95d88 56 = .ok (.l2i, 1) := by decide +kernel
theorem dJ13_bitCount_95d88_57 : decode cJ13_bitCount_95d88 57 = .ok (.bipush 127, 2) := by decide +kernel
theorem dJ13_bitCount_95d88_59 : decode cJ13_bitCount_95d88 59 = .ok (.iand, 1) := by decide +kernel
theorem dJ13_bitCount_95d88_60 : decode cJ13_bitCount_95d88 60 = .ok (.ireturn, 1) := by decide +kernel
theorem dJ9_max_7cf53_0 : decode cJ9_max_7cf53 0 = .ok (.iload_n 0, 1) := by decide +kernel
theorem dJ9_max_7cf53_1 : decode cJ9_max_7cf53 1 = .ok (.iload_n 1, 1) := by decide +kernel
theorem dJ9_max_7cf53_2 : decode cJ9_max_7cf53 2 = .ok (.if_icmp .lt 7, 3) := by decide +kernel
theorem dJ9_max_7cf53_5 : decode cJ9_max_7cf53 5 = .ok (.iload_n 0, 1) := by decide +kernel
theorem dJ9_max_7cf53_6 : decode cJ9_max_7cf53 6 = .ok (.goto 4, 3) := by decide +kernel
theorem dJ9_max_7cf53_9 : decode cJ9_max_7cf53 9 = .ok (.iload_n 1, 1) := by decide +kernel
theorem dJ9_max_7cf53_10 : decode cJ9_max_7cf53 10 = .ok (.ireturn, 1) := by decide +kernel
theorem dJ9_min_7cf53_0 : decode cJ9_min_7cf53 0 = .ok (.iload_n 0, 1) := by decide +kernel
theorem dJ9_min_7cf53_1 : decode cJ9_min_7cf53 1 = .ok (.iload_n 1, 1) := by decide +kernel
theorem dJ9_min_7cf53_2 : decode cJ9_min_7cf53 2 = .ok (.if_icmp .gt 7, 3) := by decide +kernel
theorem dJ9_min_7cf53_5 : decode cJ9_min_7cf53 5 = .ok (.iload_n 0, 1) := by decide +kernel
theorem dJ9_min_7cf53_6 : decode cJ9_min_7cf53 6 = .ok (.goto 4, 3) := by decide +kernel
theorem dJ9_min_7cf53_9 : decode cJ9_min_7cf53 9 = .ok (.iload_n 1, 1) := by decide +kernel
theorem dJ9_min_7cf53_10 : decode cJ9_min_7cf53 10 = .ok (.ireturn, 1) := by decide +kernel
theorem dJ7_fill_53178_0 : decode cJ7_fill_53178 0 = .ok (.iconst 0, 1) := by decide +kernel
theorem dJ7_fill_53178_1 : decode cJ7_fill_53178 1 = .ok (.istore_n 2, 1) := by decide +kernel
theorem dJ7_fill_53178_2 : decode cJ7_fill_53178 2 = .ok (.aload_n 0, 1) := by decide +kernel
theorem dJ7_fill_53178_3 : decode cJ7_fill_53178 3 = .ok (.arraylength, 1) := by decide +kernel
theorem dJ7_fill_53178_4 : decode cJ7_fill_53178 4 = .ok (.istore_n 3, 1) := by decide +kernel
theorem dJ7_fill_53178_5 : decode cJ7_fill_53178 5 = .ok (.iload_n 2, 1) := by decide +kernel
theorem dJ7_fill_53178_6 : decode cJ7_fill_53178 6 = .ok (.iload_n 3, 1) := by decide +kernel
theorem dJ7_fill_53178_7 : decode cJ7_fill_53178 7 = .ok (.if_icmp .ge 13, 3) := by decide +kernel
theorem dJ7_fill_53178_10 : decode cJ7_fill_53178 10 = .ok (.aload_n 0, 1) := by decide +kernel
theorem dJ7_fill_53178_11 : decode cJ7_fill_53178 11 = .ok (.iload_n 2, 1) := by decide +kernel
theorem dJ7_fill_53178_12 : decode cJ7_fill_53178 12 = .ok (.iload_n 1, 1) := by decide +kernel
theorem dJ7_fill_53178_13 : decode cJ7_fill_53178 13 = .ok (.iastore, 1) := by decide +kernel
theorem dJ7_fill_53178_14 : decode cJ7_fill_53178 14 = .ok (.iinc 2 1, 3) := by decide +kernel
theorem dJ7_fill_53178_17 : decode cJ7_fill_53178 17 = .ok (.goto (-12), 3) := by decide +kernel
theorem dJ7_fill_53178_20 : decode cJ7_fill_53178 20 = .ok (.return_, 1) := by decide +kernel
set_option maxRecDepth 20000 in
theorem ggL_law_X4_init : GoodIn wsL_law wsX4_init := goodIn_r _ [8, 9, 10, 11, 12, 13, 14, 15, 16, 17, 18, 19, 20, 21, 22, 23, 24, 25, 26, 27, 28, 29, 30, 31, 32, 33, 34, 35, 36, 37, 38, 39, 40, 41, 42, 43, 44, 45, 46, 47, 48, 49, 50, 51, 52, 53, 54, 55, 56, 57, 58, 59, 60, 61, 62, 63, 805, 779, 780, 781, 782, 806, 807, 808, 809, 810, 811, 812, 813, 814, 815, 816] (by decide +kernel) (by decide +kernel)
set_option maxRecDepth 20000 in
theorem gL_law_X4_init : GoodIn wsL_law (wsX4_init) := ggL_law_X4_init
set_option maxRecDepth 20000 in
theorem ggL_law_X5_init : GoodIn wsL_law wsX5_init := goodIn_r _ [66, 67, 10, 11, 28, 68, 69, 70, 71, 72, 73, 74, 75, 76, 77, 78, 79, 80, 81, 82, 83, 84, 85, 5, 86, 783, 784, 785, 786, 787, 788, 789, 790, 791, 792, 793, 794, 795, 796, 797, 798, 799, 800, 801, 802, 803, 804] (by decide +kernel) (by decide +kernel)
set_option maxRecDepth 20000 in
theorem gL_law_X5_init : GoodIn wsL_law (wsX5_init) := ggL_law_X5_init
set_option maxRecDepth 20000 in
theorem ggL_law_X4_type : GoodIn wsL_law wsX4_type := goodIn_r _ [90, 23, 91, 92, 93, 22, 94, 95, 61, 96, 97, 98, 99, 779, 780, 781, 782, 809, 810, 811, 812, 813, 814, 815, 816] (by decide +kernel) (by decide +kernel)
set_option maxRecDepth 20000 in
theorem gL_law_X4_type : GoodIn wsL_law (wsV RL 13 RX4 yX4_type wsX4_type) := goodIn_app (goodIn_of _ (by decide +kernel)) ggL_law_X4_type
set_option maxRecDepth 20000 in
theorem ggL_law_X5_type : GoodIn wsL_law wsX5_type := goodIn_r _ [103, 104, 71, 105, 106, 5, 107, 783, 784, 785, 786, 787, 788, 789, 790, 791, 792, 793, 794, 795, 796, 797, 798, 799, 800, 801, 802, 803, 804] (by decide +kernel) (by decide +kernel)
set_option maxRecDepth 20000 in
theorem gL_law_X5_type : GoodIn wsL_law (wsV RL 17 RX5 yX5_type wsX5_type) := goodIn_app (goodIn_of _ (by decide +kernel)) ggL_law_X5_type
set_option maxRecDepth 20000 in
theorem ggL_law_X4_clearText : GoodIn wsL_law wsX4_clearText := goodIn_r _ [111, 23, 112, 113, 114, 22, 115, 95, 779, 780, 781, 782, 809, 810, 811, 812, 813, 814, 815, 816] (by decide +kernel) (by decide +kernel)
set_option maxRecDepth 20000 in
theorem gL_law_X4_clearText : GoodIn wsL_law (wsV RL 18 RX4 yX4_clearText wsX4_clearText) := goodIn_app (goodIn_of _ (by decide +kernel)) ggL_law_X4_clearText
set_option maxRecDepth 20000 in
theorem ggL_law_X5_clearText : GoodIn wsL_law wsX5_clearText := goodIn_r _ [119, 104, 783, 784, 785, 786, 787, 788, 789, 790, 791, 792, 793, 794, 795, 796, 797, 798, 799, 800, 801, 802, 803, 804] (by decide +kernel) (by decide +kernel)
set_option maxRecDepth 20000 in
theorem gL_law_X5_clearText : GoodIn wsL_law (wsV RL 22 RX5 yX5_clearText wsX5_clearText) := goodIn_app (goodIn_of _ (by decide +kernel)) ggL_law_X5_clearText
set_option maxRecDepth 20000 in
theorem ggL_law_X4_fault : GoodIn wsL_law wsX4_fault := goodIn_r _ [123, 23, 15, 124, 125, 126, 14, 127, 29, 128, 129, 130, 22, 131, 132, 133, 134, 135, 136, 137, 138, 139, 140, 141, 142, 143, 144, 145, 146, 147, 95, 61, 148, 149, 150, 151, 152, 153, 154, 155, 156, 157, 158, 159, 160, 161, 162, 163, 164, 165, 166, 167, 168, 169, 170, 62, 63, 171, 172, 173, 174, 175, 176, 177, 178, 179, 180, 181, 182, 779, 780, 781, 782, 805, 809, 810, 811, 812, 813, 814, 815, 816] (by decide +kernel) (by decide +kernel)
set_option maxRecDepth 20000 in
theorem gL_law_X4_fault : GoodIn wsL_law (wsV RL 23 RX4 yX4_fault wsX4_fault) := goodIn_app (goodIn_of _ (by decide +kernel)) ggL_law_X4_fault
set_option maxRecDepth 20000 in
theorem ggL_law_X5_fault : GoodIn wsL_law wsX5_fault := goodIn_r _ [186, 187, 188, 189, 190, 5, 191, 192, 193, 194, 104, 195, 196, 197, 198, 199, 200, 201, 202, 71, 203, 204, 205, 206, 207, 208, 209, 210, 211, 212, 213, 214, 72, 73, 215, 216, 217, 218, 219, 220, 221, 222, 68, 105, 106, 107, 223, 224, 225, 226, 227, 228, 229, 230, 783, 784, 785, 786, 787, 788, 789, 790, 791, 792, 793, 794, 795, 796, 797, 798, 799, 800, 801, 802, 803, 804] (by decide +kernel) (by decide +kernel)
set_option maxRecDepth 20000 in
theorem gL_law_X5_fault : GoodIn wsL_law (wsV RL 26 RX5 yX5_fault wsX5_fault) := goodIn_app (goodIn_of _ (by decide +kernel)) ggL_law_X5_fault
set_option maxRecDepth 20000 in
theorem ggL_law_X4_setGlasses : GoodIn wsL_law wsX4_setGlasses := goodIn_r _ [234, 19, 15, 235, 236, 237, 18, 238, 57, 239, 240, 241, 242, 243, 244, 245, 246, 247, 14, 248, 29, 249, 250, 251, 252, 124, 125, 126, 127, 253, 31, 32, 33, 34, 35, 36, 37, 38, 39, 40, 41, 42, 43, 44, 45, 46, 47, 48, 49, 50, 51, 52, 53, 779, 780, 781, 782, 806, 807, 808, 805] (by decide +kernel) (by decide +kernel)
set_option maxRecDepth 20000 in
theorem gL_law_X4_setGlasses : GoodIn wsL_law (wsV RL 27 RX4 yX4_setGlasses wsX4_setGlasses) := goodIn_app (goodIn_of _ (by decide +kernel)) ggL_law_X4_setGlasses
set_option maxRecDepth 20000 in
theorem ggL_law_X5_setGlasses : GoodIn wsL_law wsX5_setGlasses := goodIn_r _ [257, 68, 105, 106, 5, 107, 258, 259, 260, 261, 262, 69, 263, 264, 265, 266, 83, 84, 85, 86, 783, 784, 785, 786, 787, 788, 789, 790, 791, 792, 793, 794, 795, 796, 797, 798, 799, 800, 801, 802, 803, 804] (by decide +kernel) (by decide +kernel)
set_option maxRecDepth 20000 in
theorem gL_law_X5_setGlasses : GoodIn wsL_law (wsV RL 30 RX5 yX5_setGlasses wsX5_setGlasses) := goodIn_app (goodIn_of _ (by decide +kernel)) ggL_law_X5_setGlasses
set_option maxRecDepth 20000 in
theorem ggL_law_X4_setAmount : GoodIn wsL_law wsX4_setAmount := goodIn_r _ [270, 15, 19, 271, 272, 273, 14, 274, 275, 125, 126, 127, 29, 235, 236, 237, 18, 238, 57, 239, 240, 241, 242, 243, 244, 245, 246, 247, 248, 249, 250, 251, 252, 276, 35, 36, 37, 277, 39, 40, 41, 42, 43, 44, 45, 46, 47, 48, 49, 779, 780, 781, 782, 805, 806, 807, 808] (by decide +kernel) (by decide +kernel)
set_option maxRecDepth 20000 in
theorem gL_law_X4_setAmount : GoodIn wsL_law (wsV RL 31 RX4 yX4_setAmount wsX4_setAmount) := goodIn_app (goodIn_of _ (by decide +kernel)) ggL_law_X4_setAmount
set_option maxRecDepth 20000 in
theorem ggL_law_X5_setAmount : GoodIn wsL_law wsX5_setAmount := goodIn_r _ [281, 219, 220, 221, 5, 222, 68, 105, 106, 107, 258, 259, 260, 261, 262, 69, 263, 264, 265, 266, 83, 84, 85, 86, 282, 283, 284, 285, 783, 784, 785, 786, 787, 788, 789, 790, 791, 792, 793, 794, 795, 796, 797, 798, 799, 800, 801, 802, 803, 804] (by decide +kernel) (by decide +kernel)
set_option maxRecDepth 20000 in
theorem gL_law_X5_setAmount : GoodIn wsL_law (wsV RL 35 RX5 yX5_setAmount wsX5_setAmount) := goodIn_app (goodIn_of _ (by decide +kernel)) ggL_law_X5_setAmount
set_option maxRecDepth 20000 in
theorem ggL_law_X4_setKind : GoodIn wsL_law wsX4_setKind := goodIn_r _ [289, 15, 19, 271, 272, 273, 14, 274, 275, 125, 126, 127, 29, 235, 236, 237, 18, 238, 57, 239, 240, 241, 242, 243, 244, 245, 246, 247, 248, 249, 250, 251, 252, 276, 35, 36, 37, 290, 51, 52, 53, 42, 43, 44, 45, 46, 47, 48, 49, 779, 780, 781, 782, 805, 806, 807, 808] (by decide +kernel) (by decide +kernel)
set_option maxRecDepth 20000 in
theorem gL_law_X4_setKind : GoodIn wsL_law (wsV RL 36 RX4 yX4_setKind wsX4_setKind) := goodIn_app (goodIn_of _ (by decide +kernel)) ggL_law_X4_setKind
set_option maxRecDepth 20000 in
theorem ggL_law_X5_setKind : GoodIn wsL_law wsX5_setKind := goodIn_r _ [294, 219, 220, 221, 5, 222, 68, 105, 106, 107, 258, 259, 260, 261, 262, 69, 263, 264, 265, 266, 83, 84, 85, 86, 282, 283, 284, 285, 783, 784, 785, 786, 787, 788, 789, 790, 791, 792, 793, 794, 795, 796, 797, 798, 799, 800, 801, 802, 803, 804] (by decide +kernel) (by decide +kernel)
set_option maxRecDepth 20000 in
theorem gL_law_X5_setKind : GoodIn wsL_law (wsV RL 40 RX5 yX5_setKind wsX5_setKind) := goodIn_app (goodIn_of _ (by decide +kernel)) ggL_law_X5_setKind
set_option maxRecDepth 20000 in
theorem ggL_law_X4_fix : GoodIn wsL_law wsX4_fix := goodIn_r _ [298, 15, 19, 271, 272, 273, 14, 274, 275, 125, 126, 127, 29, 276, 35, 36, 37, 235, 236, 237, 18, 238, 57, 239, 240, 241, 242, 243, 244, 245, 246, 247, 248, 249, 250, 251, 252, 299, 300, 301, 302, 303, 34, 42, 43, 44, 45, 779, 780, 781, 782, 805, 806, 807, 808] (by decide +kernel) (by decide +kernel)
set_option maxRecDepth 20000 in
theorem gL_law_X4_fix : GoodIn wsL_law (wsV RL 41 RX4 yX4_fix wsX4_fix) := goodIn_app (goodIn_of _ (by decide +kernel)) ggL_law_X4_fix
set_option maxRecDepth 20000 in
theorem ggL_law_X5_fix : GoodIn wsL_law wsX5_fix := goodIn_r _ [307, 68, 219, 220, 221, 5, 222, 105, 106, 107, 263, 264, 265, 266, 258, 259, 260, 261, 262, 69, 83, 84, 85, 86, 783, 784, 785, 786, 787, 788, 789, 790, 791, 792, 793, 794, 795, 796, 797, 798, 799, 800, 801, 802, 803, 804] (by decide +kernel) (by decide +kernel)
set_option maxRecDepth 20000 in
theorem gL_law_X5_fix : GoodIn wsL_law (wsV RL 44 RX5 yX5_fix wsX5_fix) := goodIn_app (goodIn_of _ (by decide +kernel)) ggL_law_X5_fix
set_option maxRecDepth 20000 in
theorem ggL_law_X4_loosen : GoodIn wsL_law wsX4_loosen := goodIn_r _ [311, 15, 19, 271, 272, 273, 14, 274, 275, 125, 126, 127, 29, 276, 35, 36, 37, 312, 313, 314, 315, 34, 235, 236, 237, 18, 238, 57, 239, 240, 241, 242, 243, 244, 245, 246, 247, 248, 249, 250, 251, 252, 316, 317, 318, 319, 42, 43, 44, 45, 320, 321, 322, 323, 779, 780, 781, 782, 805, 806, 807, 808] (by decide +kernel) (by decide +kernel)
set_option maxRecDepth 20000 in
theorem gL_law_X4_loosen : GoodIn wsL_law (wsV RL 45 RX4 yX4_loosen wsX4_loosen) := goodIn_app (goodIn_of _ (by decide +kernel)) ggL_law_X4_loosen
set_option maxRecDepth 20000 in
theorem ggL_law_X5_loosen : GoodIn wsL_law wsX5_loosen := goodIn_r _ [327, 68, 219, 220, 221, 5, 222, 105, 106, 107, 263, 264, 265, 266, 258, 259, 260, 261, 262, 69, 83, 84, 85, 86, 328, 329, 330, 331, 783, 784, 785, 786, 787, 788, 789, 790, 791, 792, 793, 794, 795, 796, 797, 798, 799, 800, 801, 802, 803, 804] (by decide +kernel) (by decide +kernel)
set_option maxRecDepth 20000 in
theorem gL_law_X5_loosen : GoodIn wsL_law (wsV RL 48 RX5 yX5_loosen wsX5_loosen) := goodIn_app (goodIn_of _ (by decide +kernel)) ggL_law_X5_loosen
set_option maxRecDepth 20000 in
theorem ggL_law_X4_turn : GoodIn wsL_law wsX4_turn := goodIn_r _ [335, 15, 19, 271, 272, 273, 14, 274, 275, 125, 126, 127, 29, 235, 236, 237, 18, 238, 57, 239, 240, 241, 242, 243, 244, 245, 246, 247, 248, 249, 250, 251, 252, 336, 337, 338, 339, 34, 35, 36, 37, 42, 43, 44, 45, 46, 47, 48, 49, 276, 779, 780, 781, 782, 805, 806, 807, 808] (by decide +kernel) (by decide +kernel)
set_option maxRecDepth 20000 in
theorem gL_law_X4_turn : GoodIn wsL_law (wsV RL 49 RX4 yX4_turn wsX4_turn) := goodIn_app (goodIn_of _ (by decide +kernel)) ggL_law_X4_turn
set_option maxRecDepth 20000 in
theorem ggL_law_X5_turn : GoodIn wsL_law wsX5_turn := goodIn_r _ [343, 219, 220, 221, 5, 222, 68, 105, 106, 107, 258, 259, 260, 261, 262, 69, 344, 345, 346, 347, 263, 264, 265, 266, 83, 84, 85, 86, 282, 283, 284, 285, 783, 784, 785, 786, 787, 788, 789, 790, 791, 792, 793, 794, 795, 796, 797, 798, 799, 800, 801, 802, 803, 804] (by decide +kernel) (by decide +kernel)
set_option maxRecDepth 20000 in
theorem gL_law_X5_turn : GoodIn wsL_law (wsV RL 52 RX5 yX5_turn wsX5_turn) := goodIn_app (goodIn_of _ (by decide +kernel)) ggL_law_X5_turn
set_option maxRecDepth 20000 in
theorem ggL_law_X4_tap : GoodIn wsL_law wsX4_tap := goodIn_r _ [351, 15, 19, 271, 272, 273, 14, 274, 275, 125, 126, 127, 29, 235, 236, 237, 18, 238, 57, 239, 240, 241, 242, 243, 244, 245, 246, 247, 248, 249, 250, 251, 252, 276, 35, 36, 37, 352, 353, 354, 355, 46, 47, 48, 49, 42, 43, 44, 45, 779, 780, 781, 782, 805, 806, 807, 808] (by decide +kernel) (by decide +kernel)
set_option maxRecDepth 20000 in
theorem gL_law_X4_tap : GoodIn wsL_law (wsV RL 53 RX4 yX4_tap wsX4_tap) := goodIn_app (goodIn_of _ (by decide +kernel)) ggL_law_X4_tap
set_option maxRecDepth 20000 in
theorem ggL_law_X5_tap : GoodIn wsL_law wsX5_tap := goodIn_r _ [359, 219, 220, 221, 5, 222, 68, 105, 106, 107, 258, 259, 260, 261, 262, 69, 360, 361, 362, 363, 263, 264, 265, 266, 282, 283, 284, 285, 83, 84, 85, 86, 783, 784, 785, 786, 787, 788, 789, 790, 791, 792, 793, 794, 795, 796, 797, 798, 799, 800, 801, 802, 803, 804] (by decide +kernel) (by decide +kernel)
set_option maxRecDepth 20000 in
theorem gL_law_X5_tap : GoodIn wsL_law (wsV RL 56 RX5 yX5_tap wsX5_tap) := goodIn_app (goodIn_of _ (by decide +kernel)) ggL_law_X5_tap
set_option maxRecDepth 20000 in
theorem ggL_law_X4_pass : GoodIn wsL_law wsX4_pass := goodIn_r _ [367, 15, 19, 368, 369, 370, 14, 371, 29, 235, 236, 237, 18, 238, 57, 239, 240, 241, 242, 243, 244, 245, 246, 247, 248, 249, 250, 251, 252, 372, 373, 374, 375, 376, 377, 378, 379, 275, 125, 126, 127, 380, 381, 382, 383, 34, 35, 36, 37, 384, 385, 386, 387, 303, 388, 389, 390, 391, 392, 393, 394, 395, 42, 43, 44, 45, 396, 397, 398, 399, 400, 401, 402, 779, 780, 781, 782, 805, 806, 807, 808] (by decide +kernel) (by decide +kernel)
set_option maxRecDepth 20000 in
theorem gL_law_X4_pass : GoodIn wsL_law (wsV RL 57 RX4 yX4_pass wsX4_pass) := goodIn_app (goodIn_of _ (by decide +kernel)) ggL_law_X4_pass
set_option maxRecDepth 20000 in
theorem ggL_law_X5_pass : GoodIn wsL_law wsX5_pass := goodIn_r _ [406, 68, 105, 106, 5, 107, 258, 259, 260, 261, 262, 69, 407, 408, 409, 410, 411, 412, 413, 414, 415, 416, 417, 418, 263, 264, 265, 266, 83, 84, 85, 86, 419, 420, 421, 422, 783, 784, 785, 786, 787, 788, 789, 790, 791, 792, 793, 794, 795, 796, 797, 798, 799, 800, 801, 802, 803, 804] (by decide +kernel) (by decide +kernel)
set_option maxRecDepth 20000 in
theorem gL_law_X5_pass : GoodIn wsL_law (wsV RL 60 RX5 yX5_pass wsX5_pass) := goodIn_app (goodIn_of _ (by decide +kernel)) ggL_law_X5_pass
set_option maxRecDepth 20000 in
theorem ggL_law_X4_await : GoodIn wsL_law wsX4_await := goodIn_r _ [426, 15, 19, 427, 377, 378, 14, 379, 275, 125, 126, 127, 29, 380, 381, 382, 383, 34, 35, 36, 37, 384, 385, 386, 387, 303, 242, 243, 244, 368, 369, 370, 371, 235, 236, 237, 18, 238, 57, 239, 240, 241, 245, 246, 247, 248, 249, 250, 251, 252, 372, 373, 374, 375, 376, 388, 389, 390, 391, 392, 393, 394, 395, 42, 43, 44, 45, 396, 397, 398, 399, 400, 401, 402, 779, 780, 781, 782, 805, 806, 807, 808] (by decide +kernel) (by decide +kernel)
set_option maxRecDepth 20000 in
theorem gL_law_X4_await : GoodIn wsL_law (wsV RL 61 RX4 yX4_await wsX4_await) := goodIn_app (goodIn_of _ (by decide +kernel)) ggL_law_X4_await
set_option maxRecDepth 20000 in
theorem ggL_law_X5_await : GoodIn wsL_law wsX5_await := goodIn_r _ [431, 68, 432, 433, 434, 5, 435, 415, 416, 417, 418, 263, 264, 265, 266, 436, 437, 438, 439, 70, 411, 412, 413, 414, 83, 84, 85, 86, 419, 420, 421, 422, 258, 259, 260, 261, 262, 69, 407, 408, 409, 410, 783, 784, 785, 786, 787, 788, 789, 790, 791, 792, 793, 794, 795, 796, 797, 798, 799, 800, 801, 802, 803, 804] (by decide +kernel) (by decide +kernel)
set_option maxRecDepth 20000 in
theorem gL_law_X5_await : GoodIn wsL_law (wsV RL 64 RX5 yX5_await wsX5_await) := goodIn_app (goodIn_of _ (by decide +kernel)) ggL_law_X5_await
set_option maxRecDepth 20000 in
theorem ggL_law_X4_mark : GoodIn wsL_law wsX4_mark := goodIn_r _ [443, 19, 15, 235, 236, 237, 18, 238, 57, 239, 240, 241, 242, 243, 244, 245, 246, 247, 14, 248, 29, 249, 250, 251, 252, 444, 445, 446, 447, 448, 449, 450, 451, 779, 780, 781, 782, 806, 807, 808, 805] (by decide +kernel) (by decide +kernel)
set_option maxRecDepth 20000 in
theorem gL_law_X4_mark : GoodIn wsL_law (wsV RL 65 RX4 yX4_mark wsX4_mark) := goodIn_app (goodIn_of _ (by decide +kernel)) ggL_law_X4_mark
set_option maxRecDepth 20000 in
theorem ggL_law_X5_mark : GoodIn wsL_law wsX5_mark := goodIn_r _ [455, 68, 258, 259, 260, 5, 261, 262, 69, 783, 784, 785, 786, 787, 788, 789, 790, 791, 792, 793, 794, 795, 796, 797, 798, 799, 800, 801, 802, 803, 804] (by decide +kernel) (by decide +kernel)
set_option maxRecDepth 20000 in
theorem gL_law_X5_mark : GoodIn wsL_law (wsV RL 68 RX5 yX5_mark wsX5_mark) := goodIn_app (goodIn_of _ (by decide +kernel)) ggL_law_X5_mark
