theorem dX5_untilEvent_2 : decode cX5_untilEvent 2 = .ok (.iload_n 1, 1) := by decide +kernel
theorem dX5_untilEvent_3 : decode cX5_untilEvent 3 = .ok (.bipush 64, 2) := by decide +kernel
theorem dX5_untilEvent_5 : decode cX5_untilEvent 5 = .ok (.if_icmp .ge 21, 3) := by decide +kernel
theorem dX5_untilEvent_8 : decode cX5_untilEvent 8 = .ok (.aload_n 0, 1) := by decide +kernel
theorem dX5_untilEvent_9 : decode cX5_untilEvent 9 = .ok (.getfield 16, 3) := by decide +kernel
theorem dX5_untilEvent_12 : decode cX5_untilEvent 12 = .ok (.iload_n 1, 1) := by decide +kernel
theorem dX5_untilEvent_13 : decode cX5_untilEvent 13 = .ok (.aload_n 0, 1) := by decide +kernel
theorem dX5_untilEvent_14 : decode cX5_untilEvent 14 = .ok (.getfield 7, 3) := by decide +kernel
theorem dX5_untilEvent_17 : decode cX5_untilEvent 17 = .ok (.iload_n 1, 1) := by decide +kernel
theorem dX5_untilEvent_18 : decode cX5_untilEvent 18 = .ok (.iaload, 1) := by decide +kernel
theorem dX5_untilEvent_19 : decode cX5_untilEvent 19 = .ok (.iastore, 1) := by decide +kernel
theorem dX5_untilEvent_20 : decode cX5_untilEvent 20 = .ok (.iinc 1 1, 3) := by decide +kernel
theorem dX5_untilEvent_23 : decode cX5_untilEvent 23 = .ok (.goto (-21), 3) := by decide +kernel
theorem dX5_untilEvent_26 : decode cX5_untilEvent 26 = .ok (.iconst 1, 1) := by decide +kernel
theorem dX5_untilEvent_27 : decode cX5_untilEvent 27 = .ok (.istore_n 1, 1) := by decide +kernel
theorem dX5_untilEvent_28 : decode cX5_untilEvent 28 = .ok (.aload_n 0, 1) := by decide +kernel
theorem dX5_untilEvent_29 : decode cX5_untilEvent 29 = .ok (.invokevirtual 75, 3) := by decide +kernel
theorem dX5_untilEvent_32 : decode cX5_untilEvent 32 = .ok (.ifCond .ne 9, 3) := by decide +kernel
theorem dX5_untilEvent_35 : decode cX5_untilEvent 35 = .ok (.iinc 1 1, 3) := by decide +kernel
theorem dX5_untilEvent_38 : decode cX5_untilEvent 38 = .ok (.goto (-10), 3) := by decide +kernel
theorem dX5_untilEvent_41 : decode cX5_untilEvent 41 = .ok (.iconst 0, 1) := by decide +kernel
theorem dX5_untilEvent_42 : decode cX5_untilEvent 42 = .ok (.istore_n 2, 1) := by decide +kernel
theorem dX5_untilEvent_43 : decode cX5_untilEvent 43 = .ok (.iload_n 2, 1) := by decide +kernel
theorem dX5_untilEvent_44 : decode cX5_untilEvent 44 = .ok (.bipush 64, 2) := by decide +kernel
theorem dX5_untilEvent_46 : decode cX5_untilEvent 46 = .ok (.if_icmp .ge 21, 3) := by decide +kernel
theorem dX5_untilEvent_49 : decode cX5_untilEvent 49 = .ok (.aload_n 0, 1) := by decide +kernel
theorem dX5_untilEvent_50 : decode cX5_untilEvent 50 = .ok (.getfield 7, 3) := by decide +kernel
theorem dX5_untilEvent_53 : decode cX5_untilEvent 53 = .ok (.iload_n 2, 1) := by decide +kernel
theorem dX5_untilEvent_54 : decode cX5_untilEvent 54 = .ok (.aload_n 0, 1) := by decide +kernel
theorem dX5_untilEvent_55 : decode cX5_untilEvent 55 = .ok (.getfield 16, 3) := by decide +kernel
theorem dX5_untilEvent_58 : decode cX5_untilEvent 58 = .ok (.iload_n 2, 1) := by decide +kernel
theorem dX5_untilEvent_59 : decode cX5_untilEvent 59 = .ok (.iaload, 1) := by decide +kernel
theorem dX5_untilEvent_60 : decode cX5_untilEvent 60 = .ok (.iastore, 1) := by decide +kernel
theorem dX5_untilEvent_61 : decode cX5_untilEvent 61 = .ok (.iinc 2 1, 3) := by decide +kernel
theorem dX5_untilEvent_64 : decode cX5_untilEvent 64 = .ok (.goto (-21), 3) := by decide +kernel
theorem dX5_untilEvent_67 : decode cX5_untilEvent 67 = .ok (.iload_n 1, 1) := by decide +kernel
theorem dX5_untilEvent_68 : decode cX5_untilEvent 68 = .ok (.ireturn, 1) := by decide +kernel
set_option maxRecDepth 20000 in
theorem ggX5_passes_X5_second : GoodIn wsX5_passes wsX5_second := goodIn_r _ [5, 6, 7, 8, 9, 4, 10, 11, 12, 13, 14, 15, 16, 17, 18, 19, 20, 21, 22, 23, 24, 25, 26, 27, 28, 29, 30, 31, 32, 33, 34, 35, 36, 37, 38, 39, 40, 41, 42, 43, 44] (by decide +kernel) (by decide +kernel)
set_option maxRecDepth 20000 in
theorem gX5_passes_X5_second : GoodIn wsX5_passes (wsV RX5 75 RX5 yX5_second wsX5_second) := goodIn_app (goodIn_of _ (by decide +kernel)) ggX5_passes_X5_second
theorem dX5_passes_0 : decode cX5_passes 0 = .ok (.iconst 0, 1) := by decide +kernel
theorem dX5_passes_1 : decode cX5_passes 1 = .ok (.istore_n 2, 1) := by decide +kernel
theorem dX5_passes_2 : decode cX5_passes 2 = .ok (.iconst 0, 1) := by decide +kernel
theorem dX5_passes_3 : decode cX5_passes 3 = .ok (.istore_n 3, 1) := by decide +kernel
theorem dX5_passes_4 : decode cX5_passes 4 = .ok (.iload_n 3, 1) := by decide +kernel
theorem dX5_passes_5 : decode cX5_passes 5 = .ok (.iload_n 1, 1) := by decide +kernel
theorem dX5_passes_6 : decode cX5_passes 6 = .ok (.if_icmp .ge 16, 3) := by decide +kernel
theorem dX5_passes_9 : decode cX5_passes 9 = .ok (.iload_n 2, 1) := by decide +kernel
theorem dX5_passes_10 : decode cX5_passes 10 = .ok (.aload_n 0, 1) := by decide +kernel
theorem dX5_passes_11 : decode cX5_passes 11 = .ok (.invokevirtual 75, 3) := by decide +kernel
theorem dX5_passes_14 : decode cX5_passes 14 = .ok (.iadd, 1) := by decide +kernel
theorem dX5_passes_15 : decode cX5_passes 15 = .ok (.istore_n 2, 1) := by decide +kernel
theorem dX5_passes_16 : decode cX5_passes 16 = .ok (.iinc 3 1, 3) := by decide +kernel
theorem dX5_passes_19 : decode cX5_passes 19 = .ok (.goto (-15), 3) := by decide +kernel
theorem dX5_passes_22 : decode cX5_passes 22 = .ok (.iload_n 2, 1) := by decide +kernel
theorem dX5_passes_23 : decode cX5_passes 23 = .ok (.ireturn, 1) := by decide +kernel
set_option maxRecDepth 20000 in
theorem ggX5_setGlasses_X5_in : GoodIn wsX5_setGlasses wsX5_in := goodIn_r _ [5] (by decide +kernel) (by decide +kernel)
set_option maxRecDepth 20000 in
theorem gX5_setGlasses_X5_in : GoodIn wsX5_setGlasses (va_wsS RX5 55 yX5_in wsX5_in) := goodIn_app (goodIn_of _ (by decide +kernel)) ggX5_setGlasses_X5_in
set_option maxRecDepth 20000 in
theorem ggX5_setGlasses_X5_keeps : GoodIn wsX5_setGlasses wsX5_keeps := goodIn_r _ [9, 10, 11, 1, 20, 21, 22, 23, 24, 25, 26, 27, 28, 29, 30, 31, 32, 33, 34, 35, 36, 37, 38, 39, 40, 41] (by decide +kernel) (by decide +kernel)
set_option maxRecDepth 20000 in
theorem gX5_setGlasses_X5_keeps : GoodIn wsX5_setGlasses (wsV RX5 79 RX5 yX5_keeps wsX5_keeps) := goodIn_app (goodIn_of _ (by decide +kernel)) ggX5_setGlasses_X5_keeps
set_option maxRecDepth 20000 in
theorem ggX5_setGlasses_X5_of : GoodIn wsX5_setGlasses wsX5_of := goodIn_r _ [15, 1, 20, 21, 22, 23, 24, 25, 26, 27, 28, 29, 30, 31, 32, 33, 34, 35, 36, 37, 38, 39, 40, 41] (by decide +kernel) (by decide +kernel)
set_option maxRecDepth 20000 in
theorem gX5_setGlasses_X5_of : GoodIn wsX5_setGlasses (wsV RX5 63 RX5 yX5_of wsX5_of) := goodIn_app (goodIn_of _ (by decide +kernel)) ggX5_setGlasses_X5_of
set_option maxRecDepth 20000 in
theorem ggX5_setGlasses_X5_put : GoodIn wsX5_setGlasses wsX5_put := goodIn_r _ [19, 1, 20, 21, 22, 23, 24, 25, 26, 27, 28, 29, 30, 31, 32, 33, 34, 35, 36, 37, 38, 39, 40, 41] (by decide +kernel) (by decide +kernel)
set_option maxRecDepth 20000 in
theorem gX5_setGlasses_X5_put : GoodIn wsX5_setGlasses (wsV RX5 51 RX5 yX5_put wsX5_put) := goodIn_app (goodIn_of _ (by decide +kernel)) ggX5_setGlasses_X5_put
theorem dX5_setGlasses_0 : decode cX5_setGlasses 0 = .ok (.iload_n 1, 1) := by decide +kernel
theorem dX5_setGlasses_1 : decode cX5_setGlasses 1 = .ok (.iconst 1, 1) := by decide +kernel
theorem dX5_setGlasses_2 : decode cX5_setGlasses 2 = .ok (.iconst 3, 1) := by decide +kernel
theorem dX5_setGlasses_3 : decode cX5_setGlasses 3 = .ok (.invokestatic 55, 3) := by decide +kernel
theorem dX5_setGlasses_6 : decode cX5_setGlasses 6 = .ok (.ifCond .ne 6, 3) := by decide +kernel
theorem dX5_setGlasses_9 : decode cX5_setGlasses 9 = .ok (.bipush (-2), 2) := by decide +kernel
theorem dX5_setGlasses_11 : decode cX5_setGlasses 11 = .ok (.ireturn, 1) := by decide +kernel
theorem dX5_setGlasses_12 : decode cX5_setGlasses 12 = .ok (.aload_n 0, 1) := by decide +kernel
theorem dX5_setGlasses_13 : decode cX5_setGlasses 13 = .ok (.invokevirtual 79, 3) := by decide +kernel
theorem dX5_setGlasses_16 : decode cX5_setGlasses 16 = .ok (.aload_n 0, 1) := by decide +kernel
theorem dX5_setGlasses_17 : decode cX5_setGlasses 17 = .ok (.getfield 7, 3) := by decide +kernel
theorem dX5_setGlasses_20 : decode cX5_setGlasses 20 = .ok (.bipush 21, 2) := by decide +kernel
theorem dX5_setGlasses_22 : decode cX5_setGlasses 22 = .ok (.iaload, 1) := by decide +kernel
theorem dX5_setGlasses_23 : decode cX5_setGlasses 23 = .ok (.istore_n 2, 1) := by decide +kernel
theorem dX5_setGlasses_24 : decode cX5_setGlasses 24 = .ok (.iconst 0, 1) := by decide +kernel
theorem dX5_setGlasses_25 : decode cX5_setGlasses 25 = .ok (.istore_n 3, 1) := by decide +kernel
theorem dX5_setGlasses_26 : decode cX5_setGlasses 26 = .ok (.iload_n 3, 1) := by decide +kernel
theorem dX5_setGlasses_27 : decode cX5_setGlasses 27 = .ok (.iconst 3, 1) := by decide +kernel
theorem dX5_setGlasses_28 : decode cX5_setGlasses 28 = .ok (.if_icmp .ge 81, 3) := by decide +kernel
theorem dX5_setGlasses_31 : decode cX5_setGlasses 31 = .ok (.iload_n 3, 1) := by decide +kernel
theorem dX5_setGlasses_32 : decode cX5_setGlasses 32 = .ok (.iload_n 2, 1) := by decide +kernel
theorem dX5_setGlasses_33 : decode cX5_setGlasses 33 = .ok (.if_icmp .ge 12, 3) := by decide +kernel
theorem dX5_setGlasses_36 : decode cX5_setGlasses 36 = .ok (.aload_n 0, 1) := by decide +kernel
theorem dX5_setGlasses_37 : decode cX5_setGlasses 37 = .ok (.iload_n 3, 1) := by decide +kernel
theorem dX5_setGlasses_38 : decode cX5_setGlasses 38 = .ok (.iconst 0, 1) := by decide +kernel
theorem dX5_setGlasses_39 : decode cX5_setGlasses 39 = .ok (.invokevirtual 63, 3) := by decide +kernel
theorem dX5_setGlasses_42 : decode cX5_setGlasses 42 = .ok (.goto 4, 3) := by decide +kernel
theorem dX5_setGlasses_45 : decode cX5_setGlasses 45 = .ok (.iconst 5, 1) := by decide +kernel
theorem dX5_setGlasses_46 : decode cX5_setGlasses 46 = .ok (.istore 4, 2) := by decide +kernel
theorem dX5_setGlasses_48 : decode cX5_setGlasses 48 = .ok (.iconst 0, 1) := by decide +kernel
theorem dX5_setGlasses_49 : decode cX5_setGlasses 49 = .ok (.istore 5, 2) := by decide +kernel
theorem dX5_setGlasses_51 : decode cX5_setGlasses 51 = .ok (.iload 5, 2) := by decide +kernel
theorem dX5_setGlasses_53 : decode cX5_setGlasses 53 = .ok (.bipush 7, 2) := by decide +kernel
theorem dX5_setGlasses_55 : decode cX5_setGlasses 55 = .ok (.if_icmp .ge 48, 3) := by decide +kernel
theorem dX5_setGlasses_58 : decode cX5_setGlasses 58 = .ok (.aload_n 0, 1) := by decide +kernel
theorem dX5_setGlasses_59 : decode cX5_setGlasses 59 = .ok (.iload_n 3, 1) := by decide +kernel
theorem dX5_setGlasses_60 : decode cX5_setGlasses 60 = .ok (.iload 5, 2) := by decide +kernel
theorem dX5_setGlasses_62 : decode cX5_setGlasses 62 = .ok (.iload 5, 2) := by decide +kernel
theorem dX5_setGlasses_64 : decode cX5_setGlasses 64 = .ok (.ifCond .ne 8, 3) := by decide +kernel
theorem dX5_setGlasses_67 : decode cX5_setGlasses 67 = .ok (.iload 4, 2) := by decide +kernel
theorem dX5_setGlasses_69 : decode cX5_setGlasses 69 = .ok (.goto 25, 3) := by decide +kernel
theorem dX5_setGlasses_72 : decode cX5_setGlasses 72 = .ok (.iload 5, 2) := by decide +kernel
theorem dX5_setGlasses_74 : decode cX5_setGlasses 74 = .ok (.iconst 3, 1) := by decide +kernel
theorem dX5_setGlasses_75 : decode cX5_setGlasses 75 = .ok (.if_icmp .ne 7, 3) := by decide +kernel
theorem dX5_setGlasses_78 : decode cX5_setGlasses 78 = .ok (.iconst 3, 1) := by decide +kernel
theorem dX5_setGlasses_79 : decode cX5_setGlasses 79 = .ok (.goto 15, 3) := by decide +kernel
theorem dX5_setGlasses_82 : decode cX5_setGlasses 82 = .ok (.iload 5, 2) := by decide +kernel
theorem dX5_setGlasses_84 : decode cX5_setGlasses 84 = .ok (.bipush 6, 2) := by decide +kernel
theorem dX5_setGlasses_86 : decode cX5_setGlasses 86 = .ok (.if_icmp .ne 7, 3) := by decide +kernel
theorem dX5_setGlasses_89 : decode cX5_setGlasses 89 = .ok (.iload_n 3, 1) := by decide +kernel
theorem dX5_setGlasses_90 : decode cX5_setGlasses 90 = .ok (.goto 4, 3) := by decide +kernel
theorem dX5_setGlasses_93 : decode cX5_setGlasses 93 = .ok (.iconst 0, 1) := by decide +kernel
theorem dX5_setGlasses_94 : decode cX5_setGlasses 94 = .ok (.invokevirtual 51, 3) := by decide +kernel
theorem dX5_setGlasses_97 : decode cX5_setGlasses 97 = .ok (.iinc 5 1, 3) := by decide +kernel
theorem dX5_setGlasses_100 : decode cX5_setGlasses 100 = .ok (.goto (-49), 3) := by decide +kernel
theorem dX5_setGlasses_103 : decode cX5_setGlasses 103 = .ok (.iinc 3 1, 3) := by decide +kernel
theorem dX5_setGlasses_106 : decode cX5_setGlasses 106 = .ok (.goto (-80), 3) := by decide +kernel
theorem dX5_setGlasses_109 : decode cX5_setGlasses 109 = .ok (.aload_n 0, 1) := by decide +kernel
theorem dX5_setGlasses_110 : decode cX5_setGlasses 110 = .ok (.getfield 7, 3) := by decide +kernel
theorem dX5_setGlasses_113 : decode cX5_setGlasses 113 = .ok (.bipush 21, 2) := by decide +kernel
theorem dX5_setGlasses_115 : decode cX5_setGlasses 115 = .ok (.iload_n 1, 1) := by decide +kernel
theorem dX5_setGlasses_116 : decode cX5_setGlasses 116 = .ok (.iastore, 1) := by decide +kernel
theorem dX5_setGlasses_117 : decode cX5_setGlasses 117 = .ok (.iload_n 2, 1) := by decide +kernel
theorem dX5_setGlasses_118 : decode cX5_setGlasses 118 = .ok (.ireturn, 1) := by decide +kernel
set_option maxRecDepth 20000 in
theorem ggX5_resets_X5_put : GoodIn wsX5_resets wsX5_put := goodIn_r _ [5, 6, 7, 8, 9, 10, 11, 12, 13, 14, 15, 16, 17, 18, 19, 20, 21, 22, 23, 24, 25, 26, 27, 28] (by decide +kernel) (by decide +kernel)
set_option maxRecDepth 20000 in
theorem gX5_resets_X5_put : GoodIn wsX5_resets (wsV RX5 51 RX5 yX5_put wsX5_put) := goodIn_app (goodIn_of _ (by decide +kernel)) ggX5_resets_X5_put
theorem dX5_resets_0 : decode cX5_resets 0 = .ok (.aload_n 0, 1) := by decide +kernel
theorem dX5_resets_1 : decode cX5_resets 1 = .ok (.iload_n 1, 1) := by decide +kernel
theorem dX5_resets_2 : decode cX5_resets 2 = .ok (.iconst 4, 1) := by decide +kernel
theorem dX5_resets_3 : decode cX5_resets 3 = .ok (.iconst 0, 1) := by decide +kernel
theorem dX5_resets_4 : decode cX5_resets 4 = .ok (.invokevirtual 51, 3) := by decide +kernel
theorem dX5_resets_7 : decode cX5_resets 7 = .ok (.aload_n 0, 1) := by decide +kernel
theorem dX5_resets_8 : decode cX5_resets 8 = .ok (.iload_n 1, 1) := by decide +kernel
theorem dX5_resets_9 : decode cX5_resets 9 = .ok (.iconst 5, 1) := by decide +kernel
theorem dX5_resets_10 : decode cX5_resets 10 = .ok (.iconst 0, 1) := by decide +kernel
theorem dX5_resets_11 : decode cX5_resets 11 = .ok (.invokevirtual 51, 3) := by decide +kernel
theorem dX5_resets_14 : decode cX5_resets 14 = .ok (.return_, 1) := by decide +kernel
set_option maxRecDepth 20000 in
theorem ggX5_setAmount_X5_isGlass : GoodIn wsX5_setAmount wsX5_isGlass := goodIn_r _ [5, 6, 7, 8, 4, 9, 28, 29, 30, 31, 32, 33, 34, 35, 36, 37, 38, 39, 40, 41, 42, 43, 44, 45, 46, 47, 48, 49] (by decide +kernel) (by decide +kernel)
set_option maxRecDepth 20000 in
theorem gX5_setAmount_X5_isGlass : GoodIn wsX5_setAmount (wsV RX5 82 RX5 yX5_isGlass wsX5_isGlass) := goodIn_app (goodIn_of _ (by decide +kernel)) ggX5_setAmount_X5_isGlass
set_option maxRecDepth 20000 in
theorem ggX5_setAmount_X5_in : GoodIn wsX5_setAmount wsX5_in := goodIn_r _ [9] (by decide +kernel) (by decide +kernel)
set_option maxRecDepth 20000 in
theorem gX5_setAmount_X5_in : GoodIn wsX5_setAmount (va_wsS RX5 55 yX5_in wsX5_in) := goodIn_app (goodIn_of _ (by decide +kernel)) ggX5_setAmount_X5_in
set_option maxRecDepth 20000 in
theorem ggX5_setAmount_X5_keeps : GoodIn wsX5_setAmount wsX5_keeps := goodIn_r _ [13, 14, 15, 6, 28, 29, 30, 31, 32, 33, 34, 35, 36, 37, 38, 39, 40, 41, 42, 43, 44, 45, 46, 47, 48, 49] (by decide +kernel) (by decide +kernel)
set_option maxRecDepth 20000 in
theorem gX5_setAmount_X5_keeps : GoodIn wsX5_setAmount (wsV RX5 79 RX5 yX5_keeps wsX5_keeps) := goodIn_app (goodIn_of _ (by decide +kernel)) ggX5_setAmount_X5_keeps
set_option maxRecDepth 20000 in
theorem ggX5_setAmount_X5_of : GoodIn wsX5_setAmount wsX5_of := goodIn_r _ [19, 6, 28, 29, 30, 31, 32, 33, 34, 35, 36, 37, 38, 39, 40, 41, 42, 43, 44, 45, 46, 47, 48, 49] (by decide +kernel) (by decide +kernel)
set_option maxRecDepth 20000 in
theorem gX5_setAmount_X5_of : GoodIn wsX5_setAmount (wsV RX5 63 RX5 yX5_of wsX5_of) := goodIn_app (goodIn_of _ (by decide +kernel)) ggX5_setAmount_X5_of
set_option maxRecDepth 20000 in
theorem ggX5_setAmount_X5_put : GoodIn wsX5_setAmount wsX5_put := goodIn_r _ [23, 6, 28, 29, 30, 31, 32, 33, 34, 35, 36, 37, 38, 39, 40, 41, 42, 43, 44, 45, 46, 47, 48, 49] (by decide +kernel) (by decide +kernel)
set_option maxRecDepth 20000 in
theorem gX5_setAmount_X5_put : GoodIn wsX5_setAmount (wsV RX5 51 RX5 yX5_put wsX5_put) := goodIn_app (goodIn_of _ (by decide +kernel)) ggX5_setAmount_X5_put
set_option maxRecDepth 20000 in
theorem ggX5_setAmount_X5_resets : GoodIn wsX5_setAmount wsX5_resets := goodIn_r _ [27, 20, 21, 22, 4, 23, 6, 28, 29, 30, 31, 32, 33, 34, 35, 36, 37, 38, 39, 40, 41, 42, 43, 44, 45, 46, 47, 48, 49] (by decide +kernel) (by decide +kernel)
set_option maxRecDepth 20000 in
theorem gX5_setAmount_X5_resets : GoodIn wsX5_setAmount (wsV RX5 85 RX5 yX5_resets wsX5_resets) := goodIn_app (goodIn_of _ (by decide +kernel)) ggX5_setAmount_X5_resets
theorem dX5_setAmount_0 : decode cX5_setAmount 0 = .ok (.aload_n 0, 1) := by decide +kernel
theorem dX5_setAmount_1 : decode cX5_setAmount 1 = .ok (.iload_n 1, 1) := by decide +kernel
theorem dX5_setAmount_2 : decode cX5_setAmount 2 = .ok (.invokevirtual 82, 3) := by decide +kernel
theorem dX5_setAmount_5 : decode cX5_setAmount 5 = .ok (.ifCond .eq 13, 3) := by decide +kernel
theorem dX5_setAmount_8 : decode cX5_setAmount 8 = .ok (.iload_n 2, 1) := by decide +kernel
theorem dX5_setAmount_9 : decode cX5_setAmount 9 = .ok (.iconst 1, 1) := by decide +kernel
theorem dX5_setAmount_10 : decode cX5_setAmount 10 = .ok (.bipush 12, 2) := by decide +kernel
theorem dX5_setAmount_12 : decode cX5_setAmount 12 = .ok (.invokestatic 55, 3) := by decide +kernel
theorem dX5_setAmount_15 : decode cX5_setAmount 15 = .ok (.ifCond .ne 6, 3) := by decide +kernel
theorem dX5_setAmount_18 : decode cX5_setAmount 18 = .ok (.bipush (-2), 2) := by decide +kernel
theorem dX5_setAmount_20 : decode cX5_setAmount 20 = .ok (.ireturn, 1) := by decide +kernel
theorem dX5_setAmount_21 : decode cX5_setAmount 21 = .ok (.aload_n 0, 1) := by decide +kernel
theorem dX5_setAmount_22 : decode cX5_setAmount 22 = .ok (.invokevirtual 79, 3) := by decide +kernel
theorem dX5_setAmount_25 : decode cX5_setAmount 25 = .ok (.aload_n 0, 1) := by decide +kernel
theorem dX5_setAmount_26 : decode cX5_setAmount 26 = .ok (.iload_n 1, 1) := by decide +kernel
theorem dX5_setAmount_27 : decode cX5_setAmount 27 = .ok (.iconst 0, 1) := by decide +kernel
theorem dX5_setAmount_28 : decode cX5_setAmount 28 = .ok (.invokevirtual 63, 3) := by decide +kernel
theorem dX5_setAmount_31 : decode cX5_setAmount 31 = .ok (.istore_n 3, 1) := by decide +kernel
theorem dX5_setAmount_32 : decode cX5_setAmount 32 = .ok (.aload_n 0, 1) := by decide +kernel
theorem dX5_setAmount_33 : decode cX5_setAmount 33 = .ok (.iload_n 1, 1) := by decide +kernel
theorem dX5_setAmount_34 : decode cX5_setAmount 34 = .ok (.iconst 0, 1) := by decide +kernel
theorem dX5_setAmount_35 : decode cX5_setAmount 35 = .ok (.iload_n 2, 1) := by decide +kernel
theorem dX5_setAmount_36 : decode cX5_setAmount 36 = .ok (.invokevirtual 51, 3) := by decide +kernel
theorem dX5_setAmount_39 : decode cX5_setAmount 39 = .ok (.aload_n 0, 1) := by decide +kernel
theorem dX5_setAmount_40 : decode cX5_setAmount 40 = .ok (.iload_n 1, 1) := by decide +kernel
theorem dX5_setAmount_41 : decode cX5_setAmount 41 = .ok (.iconst 1, 1) := by decide +kernel
theorem dX5_setAmount_42 : decode cX5_setAmount 42 = .ok (.iconst 0, 1) := by decide +kernel
theorem dX5_setAmount_43 : decode cX5_setAmount 43 = .ok (.invokevirtual 51, 3) := by decide +kernel
theorem dX5_setAmount_46 : decode cX5_setAmount 46 = .ok (.aload_n 0, 1) := by decide +kernel
theorem dX5_setAmount_47 : decode cX5_setAmount 47 = .ok (.iload_n 1, 1) := by decide +kernel
theorem dX5_setAmount_48 : decode cX5_setAmount 48 = .ok (.invokevirtual 85, 3) := by decide +kernel
theorem dX5_setAmount_51 : decode cX5_setAmount 51 = .ok (.iload_n 3, 1) := by decide +kernel
theorem dX5_setAmount_52 : decode cX5_setAmount 52 = .ok (.ireturn, 1) := by decide +kernel
set_option maxRecDepth 20000 in
theorem ggX5_setKind_X5_isGlass : GoodIn wsX5_setKind wsX5_isGlass := goodIn_r _ [5, 6, 7, 8, 4, 9, 28, 29, 30, 31, 32, 33, 34, 35, 36, 37, 38, 39, 40, 41, 42, 43, 44, 45, 46, 47, 48, 49] (by decide +kernel) (by decide +kernel)
set_option maxRecDepth 20000 in
theorem gX5_setKind_X5_isGlass : GoodIn wsX5_setKind (wsV RX5 82 RX5 yX5_isGlass wsX5_isGlass) := goodIn_app (goodIn_of _ (by decide +kernel)) ggX5_setKind_X5_isGlass
set_option maxRecDepth 20000 in
theorem ggX5_setKind_X5_in : GoodIn wsX5_setKind wsX5_in := goodIn_r _ [9] (by decide +kernel) (by decide +kernel)
set_option maxRecDepth 20000 in
theorem gX5_setKind_X5_in : GoodIn wsX5_setKind (va_wsS RX5 55 yX5_in wsX5_in) := goodIn_app (goodIn_of _ (by decide +kernel)) ggX5_setKind_X5_in
set_option maxRecDepth 20000 in
theorem ggX5_setKind_X5_keeps : GoodIn wsX5_setKind wsX5_keeps := goodIn_r _ [13, 14, 15, 6, 28, 29, 30, 31, 32, 33, 34, 35, 36, 37, 38, 39, 40, 41, 42, 43, 44, 45, 46, 47, 48, 49] (by decide +kernel) (by decide +kernel)
set_option maxRecDepth 20000 in
theorem gX5_setKind_X5_keeps : GoodIn wsX5_setKind (wsV RX5 79 RX5 yX5_keeps wsX5_keeps) := goodIn_app (goodIn_of _ (by decide +kernel)) ggX5_setKind_X5_keeps
set_option maxRecDepth 20000 in
theorem ggX5_setKind_X5_of : GoodIn wsX5_setKind wsX5_of := goodIn_r _ [19, 6, 28, 29, 30, 31, 32, 33, 34, 35, 36, 37, 38, 39, 40, 41, 42, 43, 44, 45, 46, 47, 48, 49] (by decide +kernel) (by decide +kernel)
set_option maxRecDepth 20000 in
theorem gX5_setKind_X5_of : GoodIn wsX5_setKind (wsV RX5 63 RX5 yX5_of wsX5_of) := goodIn_app (goodIn_of _ (by decide +kernel)) ggX5_setKind_X5_of
set_option maxRecDepth 20000 in
theorem ggX5_setKind_X5_put : GoodIn wsX5_setKind wsX5_put := goodIn_r _ [23, 6, 28, 29, 30, 31, 32, 33, 34, 35, 36, 37, 38, 39, 40, 41, 42, 43, 44, 45, 46, 47, 48, 49] (by decide +kernel) (by decide +kernel)
set_option maxRecDepth 20000 in
theorem gX5_setKind_X5_put : GoodIn wsX5_setKind (wsV RX5 51 RX5 yX5_put wsX5_put) := goodIn_app (goodIn_of _ (by decide +kernel)) ggX5_setKind_X5_put
set_option maxRecDepth 20000 in
theorem ggX5_setKind_X5_resets : GoodIn wsX5_setKind wsX5_resets := goodIn_r _ [27, 20, 21, 22, 4, 23, 6, 28, 29, 30, 31, 32, 33, 34, 35, 36, 37, 38, 39, 40, 41, 42, 43, 44, 45, 46, 47, 48, 49] (by decide +kernel) (by decide +kernel)
set_option maxRecDepth 20000 in
theorem gX5_setKind_X5_resets : GoodIn wsX5_setKind (wsV RX5 85 RX5 yX5_resets wsX5_resets) := goodIn_app (goodIn_of _ (by decide +kernel)) ggX5_setKind_X5_resets
theorem dX5_setKind_0 : decode cX5_setKind 0 = .ok (.aload_n 0, 1) := by decide +kernel
theorem dX5_setKind_1 : decode cX5_setKind 1 = .ok (.iload_n 1, 1) := by decide +kernel
theorem dX5_setKind_2 : decode cX5_setKind 2 = .ok (.invokevirtual 82, 3) := by decide +kernel
theorem dX5_setKind_5 : decode cX5_setKind 5 = .ok (.ifCond .eq 22, 3) := by decide +kernel
theorem dX5_setKind_8 : decode cX5_setKind 8 = .ok (.iload_n 2, 1) := by decide +kernel
theorem dX5_setKind_9 : decode cX5_setKind 9 = .ok (.iconst 0, 1) := by decide +kernel
theorem dX5_setKind_10 : decode cX5_setKind 10 = .ok (.iconst 2, 1) := by decide +kernel
theorem dX5_setKind_11 : decode cX5_setKind 11 = .ok (.invokestatic 55, 3) := by decide +kernel
theorem dX5_setKind_14 : decode cX5_setKind 14 = .ok (.ifCond .eq 13, 3) := by decide +kernel
theorem dX5_setKind_17 : decode cX5_setKind 17 = .ok (.iload_n 3, 1) := by decide +kernel
theorem dX5_setKind_18 : decode cX5_setKind 18 = .ok (.iconst 1, 1) := by decide +kernel
theorem dX5_setKind_19 : decode cX5_setKind 19 = .ok (.bipush 9, 2) := by decide +kernel
theorem dX5_setKind_21 : decode cX5_setKind 21 = .ok (.invokestatic 55, 3) := by decide +kernel
theorem dX5_setKind_24 : decode cX5_setKind 24 = .ok (.ifCond .ne 6, 3) := by decide +kernel
theorem dX5_setKind_27 : decode cX5_setKind 27 = .ok (.bipush (-2), 2) := by decide +kernel
theorem dX5_setKind_29 : decode cX5_setKind 29 = .ok (.ireturn, 1) := by decide +kernel
theorem dX5_setKind_30 : decode cX5_setKind 30 = .ok (.aload_n 0, 1) := by decide +kernel
theorem dX5_setKind_31 : decode cX5_setKind 31 = .ok (.invokevirtual 79, 3) := by decide +kernel
theorem dX5_setKind_34 : decode cX5_setKind 34 = .ok (.aload_n 0, 1) := by decide +kernel
theorem dX5_setKind_35 : decode cX5_setKind 35 = .ok (.iload_n 1, 1) := by decide +kernel
theorem dX5_setKind_36 : decode cX5_setKind 36 = .ok (.iconst 2, 1) := by decide +kernel
theorem dX5_setKind_37 : decode cX5_setKind 37 = .ok (.invokevirtual 63, 3) := by decide +kernel
theorem dX5_setKind_40 : decode cX5_setKind 40 = .ok (.istore 4, 2) := by decide +kernel
theorem dX5_setKind_42 : decode cX5_setKind 42 = .ok (.aload_n 0, 1) := by decide +kernel
theorem dX5_setKind_43 : decode cX5_setKind 43 = .ok (.iload_n 1, 1) := by decide +kernel
theorem dX5_setKind_44 : decode cX5_setKind 44 = .ok (.iconst 2, 1) := by decide +kernel
theorem dX5_setKind_45 : decode cX5_setKind 45 = .ok (.iload_n 2, 1) := by decide +kernel
theorem dX5_setKind_46 : decode cX5_setKind 46 = .ok (.invokevirtual 51, 3) := by decide +kernel
theorem dX5_setKind_49 : decode cX5_setKind 49 = .ok (.aload_n 0, 1) := by decide +kernel
theorem dX5_setKind_50 : decode cX5_setKind 50 = .ok (.iload_n 1, 1) := by decide +kernel
theorem dX5_setKind_51 : decode cX5_setKind 51 = .ok (.iconst 3, 1) := by decide +kernel
theorem dX5_setKind_52 : decode cX5_setKind 52 = .ok (.iload_n 3, 1) := by decide +kernel
theorem dX5_setKind_53 : decode cX5_setKind 53 = .ok (.invokevirtual 51, 3) := by decide +kernel
theorem dX5_setKind_56 : decode cX5_setKind 56 = .ok (.aload_n 0, 1) := by decide +kernel
theorem dX5_setKind_57 : decode cX5_setKind 57 = .ok (.iload_n 1, 1) := by decide +kernel
theorem dX5_setKind_58 : decode cX5_setKind 58 = .ok (.invokevirtual 85, 3) := by decide +kernel
theorem dX5_setKind_61 : decode cX5_setKind 61 = .ok (.iload 4, 2) := by decide +kernel
theorem dX5_setKind_63 : decode cX5_setKind 63 = .ok (.ireturn, 1) := by decide +kernel
set_option maxRecDepth 20000 in
theorem ggX5_stacks_X5_of : GoodIn wsX5_stacks wsX5_of := goodIn_r _ [6, 1, 7, 8, 9, 10, 11, 12, 13, 14, 15, 16, 17, 18, 19, 20, 21, 22, 23, 24, 25, 26, 27, 28] (by decide +kernel) (by decide +kernel)
set_option maxRecDepth 20000 in
theorem gX5_stacks_X5_of : GoodIn wsX5_stacks (wsV RX5 63 RX5 yX5_of wsX5_of) := goodIn_app (goodIn_of _ (by decide +kernel)) ggX5_stacks_X5_of
theorem dX5_stacks_0 : decode cX5_stacks 0 = .ok (.iconst 0, 1) := by decide +kernel
theorem dX5_stacks_1 : decode cX5_stacks 1 = .ok (.istore_n 1, 1) := by decide +kernel
theorem dX5_stacks_2 : decode cX5_stacks 2 = .ok (.iconst 0, 1) := by decide +kernel
theorem dX5_stacks_3 : decode cX5_stacks 3 = .ok (.istore_n 2, 1) := by decide +kernel
theorem dX5_stacks_4 : decode cX5_stacks 4 = .ok (.iload_n 2, 1) := by decide +kernel
theorem dX5_stacks_5 : decode cX5_stacks 5 = .ok (.aload_n 0, 1) := by decide +kernel
theorem dX5_stacks_6 : decode cX5_stacks 6 = .ok (.getfield 7, 3) := by decide +kernel
theorem dX5_stacks_9 : decode cX5_stacks 9 = .ok (.bipush 21, 2) := by decide +kernel
theorem dX5_stacks_11 : decode cX5_stacks 11 = .ok (.iaload, 1) := by decide +kernel
theorem dX5_stacks_12 : decode cX5_stacks 12 = .ok (.if_icmp .ge 28, 3) := by decide +kernel
theorem dX5_stacks_15 : decode cX5_stacks 15 = .ok (.iload_n 1, 1) := by decide +kernel
theorem dX5_stacks_16 : decode cX5_stacks 16 = .ok (.aload_n 0, 1) := by decide +kernel
theorem dX5_stacks_17 : decode cX5_stacks 17 = .ok (.iload_n 2, 1) := by decide +kernel
theorem dX5_stacks_18 : decode cX5_stacks 18 = .ok (.bipush 6, 2) := by decide +kernel
theorem dX5_stacks_20 : decode cX5_stacks 20 = .ok (.invokevirtual 63, 3) := by decide +kernel
theorem dX5_stacks_23 : decode cX5_stacks 23 = .ok (.iload_n 2, 1) := by decide +kernel
theorem dX5_stacks_24 : decode cX5_stacks 24 = .ok (.if_icmp .ne 7, 3) := by decide +kernel
theorem dX5_stacks_27 : decode cX5_stacks 27 = .ok (.iconst 1, 1) := by decide +kernel
theorem dX5_stacks_28 : decode cX5_stacks 28 = .ok (.goto 4, 3) := by decide +kernel
theorem dX5_stacks_31 : decode cX5_stacks 31 = .ok (.iconst 0, 1) := by decide +kernel
theorem dX5_stacks_32 : decode cX5_stacks 32 = .ok (.iadd, 1) := by decide +kernel
theorem dX5_stacks_33 : decode cX5_stacks 33 = .ok (.istore_n 1, 1) := by decide +kernel
theorem dX5_stacks_34 : decode cX5_stacks 34 = .ok (.iinc 2 1, 3) := by decide +kernel
theorem dX5_stacks_37 : decode cX5_stacks 37 = .ok (.goto (-33), 3) := by decide +kernel
theorem dX5_stacks_40 : decode cX5_stacks 40 = .ok (.iload_n 1, 1) := by decide +kernel
theorem dX5_stacks_41 : decode cX5_stacks 41 = .ok (.ireturn, 1) := by decide +kernel
set_option maxRecDepth 20000 in
theorem ggX5_fix_X5_isGlass : GoodIn wsX5_fix wsX5_isGlass := goodIn_r _ [6, 1, 7, 8, 5, 9, 24, 25, 26, 27, 28, 29, 30, 31, 32, 33, 34, 35, 36, 37, 38, 39, 40, 41, 42, 43, 44, 45] (by decide +kernel) (by decide +kernel)
set_option maxRecDepth 20000 in
theorem gX5_fix_X5_isGlass : GoodIn wsX5_fix (wsV RX5 82 RX5 yX5_isGlass wsX5_isGlass) := goodIn_app (goodIn_of _ (by decide +kernel)) ggX5_fix_X5_isGlass
set_option maxRecDepth 20000 in
theorem ggX5_fix_X5_of : GoodIn wsX5_fix wsX5_of := goodIn_r _ [13, 1, 24, 25, 26, 27, 28, 29, 30, 31, 32, 33, 34, 35, 36, 37, 38, 39, 40, 41, 42, 43, 44, 45] (by decide +kernel) (by decide +kernel)
set_option maxRecDepth 20000 in
theorem gX5_fix_X5_of : GoodIn wsX5_fix (wsV RX5 63 RX5 yX5_of wsX5_of) := goodIn_app (goodIn_of _ (by decide +kernel)) ggX5_fix_X5_of
set_option maxRecDepth 20000 in
theorem ggX5_fix_X5_keeps : GoodIn wsX5_fix wsX5_keeps := goodIn_r _ [17, 18, 19, 1, 24, 25, 26, 27, 28, 29, 30, 31, 32, 33, 34, 35, 36, 37, 38, 39, 40, 41, 42, 43, 44, 45] (by decide +kernel) (by decide +kernel)
set_option maxRecDepth 20000 in
theorem gX5_fix_X5_keeps : GoodIn wsX5_fix (wsV RX5 79 RX5 yX5_keeps wsX5_keeps) := goodIn_app (goodIn_of _ (by decide +kernel)) ggX5_fix_X5_keeps
set_option maxRecDepth 20000 in
theorem ggX5_fix_X5_put : GoodIn wsX5_fix wsX5_put := goodIn_r _ [23, 1, 24, 25, 26, 27, 28, 29, 30, 31, 32, 33, 34, 35, 36, 37, 38, 39, 40, 41, 42, 43, 44, 45] (by decide +kernel) (by decide +kernel)
set_option maxRecDepth 20000 in
theorem gX5_fix_X5_put : GoodIn wsX5_fix (wsV RX5 51 RX5 yX5_put wsX5_put) := goodIn_app (goodIn_of _ (by decide +kernel)) ggX5_fix_X5_put
theorem dX5_fix_0 : decode cX5_fix 0 = .ok (.aload_n 0, 1) := by decide +kernel
theorem dX5_fix_1 : decode cX5_fix 1 = .ok (.iload_n 1, 1) := by decide +kernel
theorem dX5_fix_2 : decode cX5_fix 2 = .ok (.invokevirtual 82, 3) := by decide +kernel
theorem dX5_fix_5 : decode cX5_fix 5 = .ok (.ifCond .eq 11, 3) := by decide +kernel
theorem dX5_fix_8 : decode cX5_fix 8 = .ok (.aload_n 0, 1) := by decide +kernel
theorem dX5_fix_9 : decode cX5_fix 9 = .ok (.iload_n 2, 1) := by decide +kernel
theorem dX5_fix_10 : decode cX5_fix 10 = .ok (.invokevirtual 82, 3) := by decide +kernel
theorem dX5_fix_13 : decode cX5_fix 13 = .ok (.ifCond .ne 6, 3) := by decide +kernel
theorem dX5_fix_16 : decode cX5_fix 16 = .ok (.bipush (-2), 2) := by decide +kernel
theorem dX5_fix_18 : decode cX5_fix 18 = .ok (.ireturn, 1) := by decide +kernel
theorem dX5_fix_19 : decode cX5_fix 19 = .ok (.aload_n 0, 1) := by decide +kernel
theorem dX5_fix_20 : decode cX5_fix 20 = .ok (.iload_n 1, 1) := by decide +kernel
theorem dX5_fix_21 : decode cX5_fix 21 = .ok (.bipush 6, 2) := by decide +kernel
theorem dX5_fix_23 : decode cX5_fix 23 = .ok (.invokevirtual 63, 3) := by decide +kernel
theorem dX5_fix_26 : decode cX5_fix 26 = .ok (.istore_n 3, 1) := by decide +kernel
theorem dX5_fix_27 : decode cX5_fix 27 = .ok (.aload_n 0, 1) := by decide +kernel
theorem dX5_fix_28 : decode cX5_fix 28 = .ok (.iload_n 2, 1) := by decide +kernel
theorem dX5_fix_29 : decode cX5_fix 29 = .ok (.bipush 6, 2) := by decide +kernel
theorem dX5_fix_31 : decode cX5_fix 31 = .ok (.invokevirtual 63, 3) := by decide +kernel
theorem dX5_fix_34 : decode cX5_fix 34 = .ok (.istore 4, 2) := by decide +kernel
theorem dX5_fix_36 : decode cX5_fix 36 = .ok (.iload_n 3, 1) := by decide +kernel
theorem dX5_fix_37 : decode cX5_fix 37 = .ok (.iload 4, 2) := by decide +kernel
theorem dX5_fix_39 : decode cX5_fix 39 = .ok (.if_icmp .ne 6, 3) := by decide +kernel
theorem dX5_fix_42 : decode cX5_fix 42 = .ok (.bipush (-3), 2) := by decide +kernel
theorem dX5_fix_44 : decode cX5_fix 44 = .ok (.ireturn, 1) := by decide +kernel
theorem dX5_fix_45 : decode cX5_fix 45 = .ok (.aload_n 0, 1) := by decide +kernel
theorem dX5_fix_46 : decode cX5_fix 46 = .ok (.invokevirtual 79, 3) := by decide +kernel
theorem dX5_fix_49 : decode cX5_fix 49 = .ok (.iload_n 3, 1) := by decide +kernel
theorem dX5_fix_50 : decode cX5_fix 50 = .ok (.iload 4, 2) := by decide +kernel
theorem dX5_fix_52 : decode cX5_fix 52 = .ok (.if_icmp .ge 7, 3) := by decide +kernel
theorem dX5_fix_55 : decode cX5_fix 55 = .ok (.iload_n 3, 1) := by decide +kernel
theorem dX5_fix_56 : decode cX5_fix 56 = .ok (.goto 5, 3) := by decide +kernel
theorem dX5_fix_59 : decode cX5_fix 59 = .ok (.iload 4, 2) := by decide +kernel
theorem dX5_fix_61 : decode cX5_fix 61 = .ok (.istore 5, 2) := by decide +kernel
theorem dX5_fix_63 : decode cX5_fix 63 = .ok (.iconst 0, 1) := by decide +kernel
theorem dX5_fix_64 : decode cX5_fix 64 = .ok (.istore 6, 2) := by decide +kernel
theorem dX5_fix_66 : decode cX5_fix 66 = .ok (.iload 6, 2) := by decide +kernel
theorem dX5_fix_68 : decode cX5_fix 68 = .ok (.aload_n 0, 1) := by decide +kernel
theorem dX5_fix_69 : decode cX5_fix 69 = .ok (.getfield 7, 3) := by decide +kernel
theorem dX5_fix_72 : decode cX5_fix 72 = .ok (.bipush 21, 2) := by decide +kernel
theorem dX5_fix_74 : decode cX5_fix 74 = .ok (.iaload, 1) := by decide +kernel
theorem dX5_fix_75 : decode cX5_fix 75 = .ok (.if_icmp .ge 55, 3) := by decide +kernel
theorem dX5_fix_78 : decode cX5_fix 78 = .ok (.aload_n 0, 1) := by decide +kernel
theorem dX5_fix_79 : decode cX5_fix 79 = .ok (.iload 6, 2) := by decide +kernel
theorem dX5_fix_81 : decode cX5_fix 81 = .ok (.bipush 6, 2) := by decide +kernel
theorem dX5_fix_83 : decode cX5_fix 83 = .ok (.aload_n 0, 1) := by decide +kernel
theorem dX5_fix_84 : decode cX5_fix 84 = .ok (.iload 6, 2) := by decide +kernel
theorem dX5_fix_86 : decode cX5_fix 86 = .ok (.bipush 6, 2) := by decide +kernel
theorem dX5_fix_88 : decode cX5_fix 88 = .ok (.invokevirtual 63, 3) := by decide +kernel
theorem dX5_fix_91 : decode cX5_fix 91 = .ok (.iload_n 3, 1) := by decide +kernel
theorem dX5_fix_92 : decode cX5_fix 92 = .ok (.if_icmp .eq 16, 3) := by decide +kernel
theorem dX5_fix_95 : decode cX5_fix 95 = .ok (.aload_n 0, 1) := by decide +kernel
theorem dX5_fix_96 : decode cX5_fix 96 = .ok (.iload 6, 2) := by decide +kernel
theorem dX5_fix_98 : decode cX5_fix 98 = .ok (.bipush 6, 2) := by decide +kernel
theorem dX5_fix_100 : decode cX5_fix 100 = .ok (.invokevirtual 63, 3) := by decide +kernel
theorem dX5_fix_103 : decode cX5_fix 103 = .ok (.iload 4, 2) := by decide +kernel
theorem dX5_fix_105 : decode cX5_fix 105 = .ok (.if_icmp .ne 8, 3) := by decide +kernel
theorem dX5_fix_108 : decode cX5_fix 108 = .ok (.iload 5, 2) := by decide +kernel
theorem dX5_fix_110 : decode cX5_fix 110 = .ok (.goto 11, 3) := by decide +kernel
theorem dX5_fix_113 : decode cX5_fix 113 = .ok (.aload_n 0, 1) := by decide +kernel
theorem dX5_fix_114 : decode cX5_fix 114 = .ok (.iload 6, 2) := by decide +kernel
theorem dX5_fix_116 : decode cX5_fix 116 = .ok (.bipush 6, 2) := by decide +kernel
theorem dX5_fix_118 : decode cX5_fix 118 = .ok (.invokevirtual 63, 3) := by decide +kernel
theorem dX5_fix_121 : decode cX5_fix 121 = .ok (.invokevirtual 51, 3) := by decide +kernel
theorem dX5_fix_124 : decode cX5_fix 124 = .ok (.iinc 6 1, 3) := by decide +kernel
theorem dX5_fix_127 : decode cX5_fix 127 = .ok (.goto (-61), 3) := by decide +kernel
theorem dX5_fix_130 : decode cX5_fix 130 = .ok (.iload 5, 2) := by decide +kernel
theorem dX5_fix_132 : decode cX5_fix 132 = .ok (.ireturn, 1) := by decide +kernel
set_option maxRecDepth 20000 in
theorem ggX5_loosen_X5_isGlass : GoodIn wsX5_loosen wsX5_isGlass := goodIn_r _ [6, 1, 7, 8, 5, 9, 28, 29, 30, 31, 32, 33, 34, 35, 36, 37, 38, 39, 40, 41, 42, 43, 44, 45, 46, 47, 48, 49] (by decide +kernel) (by decide +kernel)
set_option maxRecDepth 20000 in
theorem gX5_loosen_X5_isGlass : GoodIn wsX5_loosen (wsV RX5 82 RX5 yX5_isGlass wsX5_isGlass) := goodIn_app (goodIn_of _ (by decide +kernel)) ggX5_loosen_X5_isGlass
set_option maxRecDepth 20000 in
theorem ggX5_loosen_X5_of : GoodIn wsX5_loosen wsX5_of := goodIn_r _ [13, 1, 28, 29, 30, 31, 32, 33, 34, 35, 36, 37, 38, 39, 40, 41, 42, 43, 44, 45, 46, 47, 48, 49] (by decide +kernel) (by decide +kernel)
set_option maxRecDepth 20000 in
theorem gX5_loosen_X5_of : GoodIn wsX5_loosen (wsV RX5 63 RX5 yX5_of wsX5_of) := goodIn_app (goodIn_of _ (by decide +kernel)) ggX5_loosen_X5_of
set_option maxRecDepth 20000 in
theorem ggX5_loosen_X5_keeps : GoodIn wsX5_loosen wsX5_keeps := goodIn_r _ [17, 18, 19, 1, 28, 29, 30, 31, 32, 33, 34, 35, 36, 37, 38, 39, 40, 41, 42, 43, 44, 45, 46, 47, 48, 49] (by decide +kernel) (by decide +kernel)
set_option maxRecDepth 20000 in
theorem gX5_loosen_X5_keeps : GoodIn wsX5_loosen (wsV RX5 79 RX5 yX5_keeps wsX5_keeps) := goodIn_app (goodIn_of _ (by decide +kernel)) ggX5_loosen_X5_keeps
set_option maxRecDepth 20000 in
theorem ggX5_loosen_X5_put : GoodIn wsX5_loosen wsX5_put := goodIn_r _ [23, 1, 28, 29, 30, 31, 32, 33, 34, 35, 36, 37, 38, 39, 40, 41, 42, 43, 44, 45, 46, 47, 48, 49] (by decide +kernel) (by decide +kernel)
set_option maxRecDepth 20000 in
theorem gX5_loosen_X5_put : GoodIn wsX5_loosen (wsV RX5 51 RX5 yX5_put wsX5_put) := goodIn_app (goodIn_of _ (by decide +kernel)) ggX5_loosen_X5_put
set_option maxRecDepth 20000 in
theorem ggX5_loosen_X5_stacks : GoodIn wsX5_loosen wsX5_stacks := goodIn_r _ [27, 1, 10, 11, 12, 5, 13, 28, 29, 30, 31, 32, 33, 34, 35, 36, 37, 38, 39, 40, 41, 42, 43, 44, 45, 46, 47, 48, 49] (by decide +kernel) (by decide +kernel)
set_option maxRecDepth 20000 in
theorem gX5_loosen_X5_stacks : GoodIn wsX5_loosen (wsV RX5 89 RX5 yX5_stacks wsX5_stacks) := goodIn_app (goodIn_of _ (by decide +kernel)) ggX5_loosen_X5_stacks
theorem dX5_loosen_0 : decode cX5_loosen 0 = .ok (.aload_n 0, 1) := by decide +kernel
theorem dX5_loosen_1 : decode cX5_loosen 1 = .ok (.iload_n 1, 1) := by decide +kernel
theorem dX5_loosen_2 : decode cX5_loosen 2 = .ok (.invokevirtual 82, 3) := by decide +kernel
theorem dX5_loosen_5 : decode cX5_loosen 5 = .ok (.ifCond .ne 6, 3) := by decide +kernel
theorem dX5_loosen_8 : decode cX5_loosen 8 = .ok (.bipush (-2), 2) := by decide +kernel
theorem dX5_loosen_10 : decode cX5_loosen 10 = .ok (.ireturn, 1) := by decide +kernel
theorem dX5_loosen_11 : decode cX5_loosen 11 = .ok (.aload_n 0, 1) := by decide +kernel
theorem dX5_loosen_12 : decode cX5_loosen 12 = .ok (.iload_n 1, 1) := by decide +kernel
theorem dX5_loosen_13 : decode cX5_loosen 13 = .ok (.bipush 6, 2) := by decide +kernel
theorem dX5_loosen_15 : decode cX5_loosen 15 = .ok (.invokevirtual 63, 3) := by decide +kernel
theorem dX5_loosen_18 : decode cX5_loosen 18 = .ok (.istore_n 2, 1) := by decide +kernel
theorem dX5_loosen_19 : decode cX5_loosen 19 = .ok (.iconst 0, 1) := by decide +kernel
theorem dX5_loosen_20 : decode cX5_loosen 20 = .ok (.istore_n 3, 1) := by decide +kernel
theorem dX5_loosen_21 : decode cX5_loosen 21 = .ok (.iconst 0, 1) := by decide +kernel
theorem dX5_loosen_22 : decode cX5_loosen 22 = .ok (.istore 4, 2) := by decide +kernel
theorem dX5_loosen_24 : decode cX5_loosen 24 = .ok (.iload 4, 2) := by decide +kernel
theorem dX5_loosen_26 : decode cX5_loosen 26 = .ok (.aload_n 0, 1) := by decide +kernel
theorem dX5_loosen_27 : decode cX5_loosen 27 = .ok (.getfield 7, 3) := by decide +kernel
theorem dX5_loosen_30 : decode cX5_loosen 30 = .ok (.bipush 21, 2) := by decide +kernel
theorem dX5_loosen_32 : decode cX5_loosen 32 = .ok (.iaload, 1) := by decide +kernel
theorem dX5_loosen_33 : decode cX5_loosen 33 = .ok (.if_icmp .ge 29, 3) := by decide +kernel
theorem dX5_loosen_36 : decode cX5_loosen 36 = .ok (.iload_n 3, 1) := by decide +kernel
theorem dX5_loosen_37 : decode cX5_loosen 37 = .ok (.aload_n 0, 1) := by decide +kernel
theorem dX5_loosen_38 : decode cX5_loosen 38 = .ok (.iload 4, 2) := by decide +kernel
theorem dX5_loosen_40 : decode cX5_loosen 40 = .ok (.bipush 6, 2) := by decide +kernel
theorem dX5_loosen_42 : decode cX5_loosen 42 = .ok (.invokevirtual 63, 3) := by decide +kernel
theorem dX5_loosen_45 : decode cX5_loosen 45 = .ok (.iload_n 2, 1) := by decide +kernel
theorem dX5_loosen_46 : decode cX5_loosen 46 = .ok (.if_icmp .ne 7, 3) := by decide +kernel
theorem dX5_loosen_49 : decode cX5_loosen 49 = .ok (.iconst 1, 1) := by decide +kernel
theorem dX5_loosen_50 : decode cX5_loosen 50 = .ok (.goto 4, 3) := by decide +kernel
theorem dX5_loosen_53 : decode cX5_loosen 53 = .ok (.iconst 0, 1) := by decide +kernel
theorem dX5_loosen_54 : decode cX5_loosen 54 = .ok (.iadd, 1) := by decide +kernel
theorem dX5_loosen_55 : decode cX5_loosen 55 = .ok (.istore_n 3, 1) := by decide +kernel
theorem dX5_loosen_56 : decode cX5_loosen 56 = .ok (.iinc 4 1, 3) := by decide +kernel
theorem dX5_loosen_59 : decode cX5_loosen 59 = .ok (.goto (-35), 3) := by decide +kernel
theorem dX5_loosen_62 : decode cX5_loosen 62 = .ok (.iload_n 3, 1) := by decide +kernel
theorem dX5_loosen_63 : decode cX5_loosen 63 = .ok (.iconst 1, 1) := by decide +kernel
theorem dX5_loosen_64 : decode cX5_loosen 64 = .ok (.if_icmp .ne 6, 3) := by decide +kernel
theorem dX5_loosen_67 : decode cX5_loosen 67 = .ok (.bipush (-3), 2) := by decide +kernel
theorem dX5_loosen_69 : decode cX5_loosen 69 = .ok (.ireturn, 1) := by decide +kernel
theorem dX5_loosen_70 : decode cX5_loosen 70 = .ok (.aload_n 0, 1) := by decide +kernel
theorem dX5_loosen_71 : decode cX5_loosen 71 = .ok (.invokevirtual 79, 3) := by decide +kernel
theorem dX5_loosen_74 : decode cX5_loosen 74 = .ok (.iconst 0, 1) := by decide +kernel
theorem dX5_loosen_75 : decode cX5_loosen 75 = .ok (.istore 4, 2) := by decide +kernel
theorem dX5_loosen_77 : decode cX5_loosen 77 = .ok (.iload 4, 2) := by decide +kernel
theorem dX5_loosen_79 : decode cX5_loosen 79 = .ok (.aload_n 0, 1) := by decide +kernel
theorem dX5_loosen_80 : decode cX5_loosen 80 = .ok (.getfield 7, 3) := by decide +kernel
theorem dX5_loosen_83 : decode cX5_loosen 83 = .ok (.bipush 21, 2) := by decide +kernel
theorem dX5_loosen_85 : decode cX5_loosen 85 = .ok (.iaload, 1) := by decide +kernel
theorem dX5_loosen_86 : decode cX5_loosen 86 = .ok (.if_icmp .ge 42, 3) := by decide +kernel
theorem dX5_loosen_89 : decode cX5_loosen 89 = .ok (.aload_n 0, 1) := by decide +kernel
theorem dX5_loosen_90 : decode cX5_loosen 90 = .ok (.iload 4, 2) := by decide +kernel
theorem dX5_loosen_92 : decode cX5_loosen 92 = .ok (.bipush 6, 2) := by decide +kernel
theorem dX5_loosen_94 : decode cX5_loosen 94 = .ok (.aload_n 0, 1) := by decide +kernel
theorem dX5_loosen_95 : decode cX5_loosen 95 = .ok (.iload 4, 2) := by decide +kernel
theorem dX5_loosen_97 : decode cX5_loosen 97 = .ok (.bipush 6, 2) := by decide +kernel
theorem dX5_loosen_99 : decode cX5_loosen 99 = .ok (.invokevirtual 63, 3) := by decide +kernel
theorem dX5_loosen_102 : decode cX5_loosen 102 = .ok (.iload_n 2, 1) := by decide +kernel
theorem dX5_loosen_103 : decode cX5_loosen 103 = .ok (.if_icmp .ne 8, 3) := by decide +kernel
theorem dX5_loosen_106 : decode cX5_loosen 106 = .ok (.iload 4, 2) := by decide +kernel
theorem dX5_loosen_108 : decode cX5_loosen 108 = .ok (.goto 11, 3) := by decide +kernel
theorem dX5_loosen_111 : decode cX5_loosen 111 = .ok (.aload_n 0, 1) := by decide +kernel
theorem dX5_loosen_112 : decode cX5_loosen 112 = .ok (.iload 4, 2) := by decide +kernel
theorem dX5_loosen_114 : decode cX5_loosen 114 = .ok (.bipush 6, 2) := by decide +kernel
theorem dX5_loosen_116 : decode cX5_loosen 116 = .ok (.invokevirtual 63, 3) := by decide +kernel
theorem dX5_loosen_119 : decode cX5_loosen 119 = .ok (.invokevirtual 51, 3) := by decide +kernel
theorem dX5_loosen_122 : decode cX5_loosen 122 = .ok (.iinc 4 1, 3) := by decide +kernel
theorem dX5_loosen_125 : decode cX5_loosen 125 = .ok (.goto (-48), 3) := by decide +kernel
theorem dX5_loosen_128 : decode cX5_loosen 128 = .ok (.aload_n 0, 1) := by decide +kernel
theorem dX5_loosen_129 : decode cX5_loosen 129 = .ok (.invokevirtual 89, 3) := by decide +kernel
theorem dX5_loosen_132 : decode cX5_loosen 132 = .ok (.ireturn, 1) := by decide +kernel
set_option maxRecDepth 20000 in
theorem ggX5_turns_X5_of : GoodIn wsX5_turns wsX5_of := goodIn_r _ [6, 1, 15, 16, 17, 18, 19, 20, 21, 22, 23, 24, 25, 26, 27, 28, 29, 30, 31, 32, 33, 34, 35, 36] (by decide +kernel) (by decide +kernel)
set_option maxRecDepth 20000 in
theorem gX5_turns_X5_of : GoodIn wsX5_turns (wsV RX5 63 RX5 yX5_of wsX5_of) := goodIn_app (goodIn_of _ (by decide +kernel)) ggX5_turns_X5_of
set_option maxRecDepth 20000 in
theorem ggX5_turns_X5_put : GoodIn wsX5_turns wsX5_put := goodIn_r _ [10, 1, 15, 16, 17, 18, 19, 20, 21, 22, 23, 24, 25, 26, 27, 28, 29, 30, 31, 32, 33, 34, 35, 36] (by decide +kernel) (by decide +kernel)
set_option maxRecDepth 20000 in
theorem gX5_turns_X5_put : GoodIn wsX5_turns (wsV RX5 51 RX5 yX5_put wsX5_put) := goodIn_app (goodIn_of _ (by decide +kernel)) ggX5_turns_X5_put
set_option maxRecDepth 20000 in
theorem ggX5_turns_X5_resets : GoodIn wsX5_turns wsX5_resets := goodIn_r _ [14, 7, 8, 9, 5, 10, 1, 15, 16, 17, 18, 19, 20, 21, 22, 23, 24, 25, 26, 27, 28, 29, 30, 31, 32, 33, 34, 35, 36] (by decide +kernel) (by decide +kernel)
set_option maxRecDepth 20000 in
theorem gX5_turns_X5_resets : GoodIn wsX5_turns (wsV RX5 85 RX5 yX5_resets wsX5_resets) := goodIn_app (goodIn_of _ (by decide +kernel)) ggX5_turns_X5_resets
theorem dX5_turns_0 : decode cX5_turns 0 = .ok (.aload_n 0, 1) := by decide +kernel
theorem dX5_turns_1 : decode cX5_turns 1 = .ok (.iload_n 1, 1) := by decide +kernel
theorem dX5_turns_2 : decode cX5_turns 2 = .ok (.bipush 6, 2) := by decide +kernel
theorem dX5_turns_4 : decode cX5_turns 4 = .ok (.invokevirtual 63, 3) := by decide +kernel
theorem dX5_turns_7 : decode cX5_turns 7 = .ok (.istore_n 2, 1) := by decide +kernel
theorem dX5_turns_8 : decode cX5_turns 8 = .ok (.iconst 0, 1) := by decide +kernel
theorem dX5_turns_9 : decode cX5_turns 9 = .ok (.istore_n 3, 1) := by decide +kernel
theorem dX5_turns_10 : decode cX5_turns 10 = .ok (.iload_n 3, 1) := by decide +kernel
theorem dX5_turns_11 : decode cX5_turns 11 = .ok (.aload_n 0, 1) := by decide +kernel
theorem dX5_turns_12 : decode cX5_turns 12 = .ok (.getfield 7, 3) := by decide +kernel
theorem dX5_turns_15 : decode cX5_turns 15 = .ok (.bipush 21, 2) := by decide +kernel
theorem dX5_turns_17 : decode cX5_turns 17 = .ok (.iaload, 1) := by decide +kernel
theorem dX5_turns_18 : decode cX5_turns 18 = .ok (.if_icmp .ge 44, 3) := by decide +kernel
theorem dX5_turns_21 : decode cX5_turns 21 = .ok (.aload_n 0, 1) := by decide +kernel
theorem dX5_turns_22 : decode cX5_turns 22 = .ok (.iload_n 3, 1) := by decide +kernel
theorem dX5_turns_23 : decode cX5_turns 23 = .ok (.bipush 6, 2) := by decide +kernel
theorem dX5_turns_25 : decode cX5_turns 25 = .ok (.invokevirtual 63, 3) := by decide +kernel
theorem dX5_turns_28 : decode cX5_turns 28 = .ok (.iload_n 2, 1) := by decide +kernel
theorem dX5_turns_29 : decode cX5_turns 29 = .ok (.if_icmp .ne 27, 3) := by decide +kernel
theorem dX5_turns_32 : decode cX5_turns 32 = .ok (.aload_n 0, 1) := by decide +kernel
theorem dX5_turns_33 : decode cX5_turns 33 = .ok (.iload_n 3, 1) := by decide +kernel
theorem dX5_turns_34 : decode cX5_turns 34 = .ok (.iconst 1, 1) := by decide +kernel
theorem dX5_turns_35 : decode cX5_turns 35 = .ok (.aload_n 0, 1) := by decide +kernel
theorem dX5_turns_36 : decode cX5_turns 36 = .ok (.iload_n 3, 1) := by decide +kernel
theorem dX5_turns_37 : decode cX5_turns 37 = .ok (.iconst 0, 1) := by decide +kernel
theorem dX5_turns_38 : decode cX5_turns 38 = .ok (.invokevirtual 63, 3) := by decide +kernel
theorem dX5_turns_41 : decode cX5_turns 41 = .ok (.aload_n 0, 1) := by decide +kernel
theorem dX5_turns_42 : decode cX5_turns 42 = .ok (.iload_n 3, 1) := by decide +kernel
theorem dX5_turns_43 : decode cX5_turns 43 = .ok (.iconst 1, 1) := by decide +kernel
theorem dX5_turns_44 : decode cX5_turns 44 = .ok (.invokevirtual 63, 3) := by decide +kernel
theorem dX5_turns_47 : decode cX5_turns 47 = .ok (.isub, 1) := by decide +kernel
theorem dX5_turns_48 : decode cX5_turns 48 = .ok (.invokevirtual 51, 3) := by decide +kernel
theorem dX5_turns_51 : decode cX5_turns 51 = .ok (.aload_n 0, 1) := by decide +kernel
theorem dX5_turns_52 : decode cX5_turns 52 = .ok (.iload_n 3, 1) := by decide +kernel
theorem dX5_turns_53 : decode cX5_turns 53 = .ok (.invokevirtual 85, 3) := by decide +kernel
theorem dX5_turns_56 : decode cX5_turns 56 = .ok (.iinc 3 1, 3) := by decide +kernel
theorem dX5_turns_59 : decode cX5_turns 59 = .ok (.goto (-49), 3) := by decide +kernel
theorem dX5_turns_62 : decode cX5_turns 62 = .ok (.aload_n 0, 1) := by decide +kernel
theorem dX5_turns_63 : decode cX5_turns 63 = .ok (.getfield 7, 3) := by decide +kernel
theorem dX5_turns_66 : decode cX5_turns 66 = .ok (.bipush 25, 2) := by decide +kernel
theorem dX5_turns_68 : decode cX5_turns 68 = .ok (.dup2, 1) := by decide +kernel
theorem dX5_turns_69 : decode cX5_turns 69 = .ok (.iaload, 1) := by decide +kernel
theorem dX5_turns_70 : decode cX5_turns 70 = .ok (.iconst 1, 1) := by decide +kernel
theorem dX5_turns_71 : decode cX5_turns 71 = .ok (.iadd, 1) := by decide +kernel
theorem dX5_turns_72 : decode cX5_turns 72 = .ok (.iastore, 1) := by decide +kernel
theorem dX5_turns_73 : decode cX5_turns 73 = .ok (.return_, 1) := by decide +kernel
set_option maxRecDepth 20000 in
theorem ggX5_turn_X5_isGlass : GoodIn wsX5_turn wsX5_isGlass := goodIn_r _ [5, 6, 7, 8, 4, 9, 32, 33, 34, 35, 36, 37, 38, 39, 40, 41, 42, 43, 44, 45, 46, 47, 48, 49, 50, 51, 52, 53] (by decide +kernel) (by decide +kernel)
set_option maxRecDepth 20000 in
theorem gX5_turn_X5_isGlass : GoodIn wsX5_turn (wsV RX5 82 RX5 yX5_isGlass wsX5_isGlass) := goodIn_app (goodIn_of _ (by decide +kernel)) ggX5_turn_X5_isGlass
set_option maxRecDepth 20000 in
theorem ggX5_turn_X5_keeps : GoodIn wsX5_turn wsX5_keeps := goodIn_r _ [13, 14, 15, 6, 32, 33, 34, 35, 36, 37, 38, 39, 40, 41, 42, 43, 44, 45, 46, 47, 48, 49, 50, 51, 52, 53] (by decide +kernel) (by decide +kernel)
set_option maxRecDepth 20000 in
theorem gX5_turn_X5_keeps : GoodIn wsX5_turn (wsV RX5 79 RX5 yX5_keeps wsX5_keeps) := goodIn_app (goodIn_of _ (by decide +kernel)) ggX5_turn_X5_keeps
set_option maxRecDepth 20000 in
theorem ggX5_turn_X5_turns : GoodIn wsX5_turn wsX5_turns := goodIn_r _ [19, 6, 20, 21, 22, 4, 23, 24, 25, 26, 27, 28, 29, 30, 31, 32, 33, 34, 35, 36, 37, 38, 39, 40, 41, 42, 43, 44, 45, 46, 47, 48, 49, 50, 51, 52, 53] (by decide +kernel) (by decide +kernel)
set_option maxRecDepth 20000 in
theorem gX5_turn_X5_turns : GoodIn wsX5_turn (wsV RX5 92 RX5 yX5_turns wsX5_turns) := goodIn_app (goodIn_of _ (by decide +kernel)) ggX5_turn_X5_turns
set_option maxRecDepth 20000 in
theorem ggX5_turn_X5_of : GoodIn wsX5_turn wsX5_of := goodIn_r _ [23, 6, 32, 33, 34, 35, 36, 37, 38, 39, 40, 41, 42, 43, 44, 45, 46, 47, 48, 49, 50, 51, 52, 53] (by decide +kernel) (by decide +kernel)
set_option maxRecDepth 20000 in
theorem gX5_turn_X5_of : GoodIn wsX5_turn (wsV RX5 63 RX5 yX5_of wsX5_of) := goodIn_app (goodIn_of _ (by decide +kernel)) ggX5_turn_X5_of
theorem dX5_turn_0 : decode cX5_turn 0 = .ok (.aload_n 0, 1) := by decide +kernel
theorem dX5_turn_1 : decode cX5_turn 1 = .ok (.iload_n 1, 1) := by decide +kernel
theorem dX5_turn_2 : decode cX5_turn 2 = .ok (.invokevirtual 82, 3) := by decide +kernel
theorem dX5_turn_5 : decode cX5_turn 5 = .ok (.ifCond .ne 6, 3) := by decide +kernel
theorem dX5_turn_8 : decode cX5_turn 8 = .ok (.bipush (-2), 2) := by decide +kernel
theorem dX5_turn_10 : decode cX5_turn 10 = .ok (.ireturn, 1) := by decide +kernel
theorem dX5_turn_11 : decode cX5_turn 11 = .ok (.aload_n 0, 1) := by decide +kernel
theorem dX5_turn_12 : decode cX5_turn 12 = .ok (.invokevirtual 79, 3) := by decide +kernel
theorem dX5_turn_15 : decode cX5_turn 15 = .ok (.aload_n 0, 1) := by decide +kernel
theorem dX5_turn_16 : decode cX5_turn 16 = .ok (.iload_n 1, 1) := by decide +kernel
theorem dX5_turn_17 : decode cX5_turn 17 = .ok (.invokevirtual 92, 3) := by decide +kernel
theorem dX5_turn_20 : decode cX5_turn 20 = .ok (.aload_n 0, 1) := by decide +kernel
theorem dX5_turn_21 : decode cX5_turn 21 = .ok (.iload_n 1, 1) := by decide +kernel
theorem dX5_turn_22 : decode cX5_turn 22 = .ok (.iconst 1, 1) := by decide +kernel
theorem dX5_turn_23 : decode cX5_turn 23 = .ok (.invokevirtual 63, 3) := by decide +kernel
theorem dX5_turn_26 : decode cX5_turn 26 = .ok (.ireturn, 1) := by decide +kernel
set_option maxRecDepth 20000 in
theorem ggX5_taps_X5_of : GoodIn wsX5_taps wsX5_of := goodIn_r _ [6, 1, 15, 16, 17, 18, 19, 20, 21, 22, 23, 24, 25, 26, 27, 28, 29, 30, 31, 32, 33, 34, 35, 36] (by decide +kernel) (by decide +kernel)
set_option maxRecDepth 20000 in
theorem gX5_taps_X5_of : GoodIn wsX5_taps (wsV RX5 63 RX5 yX5_of wsX5_of) := goodIn_app (goodIn_of _ (by decide +kernel)) ggX5_taps_X5_of
set_option maxRecDepth 20000 in
theorem ggX5_taps_X5_resets : GoodIn wsX5_taps wsX5_resets := goodIn_r _ [10, 11, 12, 13, 5, 14, 1, 15, 16, 17, 18, 19, 20, 21, 22, 23, 24, 25, 26, 27, 28, 29, 30, 31, 32, 33, 34, 35, 36] (by decide +kernel) (by decide +kernel)
set_option maxRecDepth 20000 in
theorem gX5_taps_X5_resets : GoodIn wsX5_taps (wsV RX5 85 RX5 yX5_resets wsX5_resets) := goodIn_app (goodIn_of _ (by decide +kernel)) ggX5_taps_X5_resets
theorem dX5_taps_0 : decode cX5_taps 0 = .ok (.aload_n 0, 1) := by decide +kernel
theorem dX5_taps_1 : decode cX5_taps 1 = .ok (.iload_n 1, 1) := by decide +kernel
theorem dX5_taps_2 : decode cX5_taps 2 = .ok (.iconst 4, 1) := by decide +kernel
theorem dX5_taps_3 : decode cX5_taps 3 = .ok (.invokevirtual 63, 3) := by decide +kernel
theorem dX5_taps_6 : decode cX5_taps 6 = .ok (.istore_n 2, 1) := by decide +kernel
theorem dX5_taps_7 : decode cX5_taps 7 = .ok (.aload_n 0, 1) := by decide +kernel
theorem dX5_taps_8 : decode cX5_taps 8 = .ok (.iload_n 1, 1) := by decide +kernel
theorem dX5_taps_9 : decode cX5_taps 9 = .ok (.invokevirtual 85, 3) := by decide +kernel
theorem dX5_taps_12 : decode cX5_taps 12 = .ok (.aload_n 0, 1) := by decide +kernel
theorem dX5_taps_13 : decode cX5_taps 13 = .ok (.getfield 7, 3) := by decide +kernel
theorem dX5_taps_16 : decode cX5_taps 16 = .ok (.bipush 26, 2) := by decide +kernel
theorem dX5_taps_18 : decode cX5_taps 18 = .ok (.dup2, 1) := by decide +kernel
theorem dX5_taps_19 : decode cX5_taps 19 = .ok (.iaload, 1) := by decide +kernel
theorem dX5_taps_20 : decode cX5_taps 20 = .ok (.iconst 1, 1) := by decide +kernel
theorem dX5_taps_21 : decode cX5_taps 21 = .ok (.iadd, 1) := by decide +kernel
theorem dX5_taps_22 : decode cX5_taps 22 = .ok (.iastore, 1) := by decide +kernel
theorem dX5_taps_23 : decode cX5_taps 23 = .ok (.iload_n 2, 1) := by decide +kernel
theorem dX5_taps_24 : decode cX5_taps 24 = .ok (.ireturn, 1) := by decide +kernel
set_option maxRecDepth 20000 in
theorem ggX5_tap_X5_isGlass : GoodIn wsX5_tap wsX5_isGlass := goodIn_r _ [5, 6, 7, 8, 4, 9, 32, 33, 34, 35, 36, 37, 38, 39, 40, 41, 42, 43, 44, 45, 46, 47, 48, 49, 50, 51, 52, 53] (by decide +kernel) (by decide +kernel)
set_option maxRecDepth 20000 in
theorem gX5_tap_X5_isGlass : GoodIn wsX5_tap (wsV RX5 82 RX5 yX5_isGlass wsX5_isGlass) := goodIn_app (goodIn_of _ (by decide +kernel)) ggX5_tap_X5_isGlass
set_option maxRecDepth 20000 in
theorem ggX5_tap_X5_keeps : GoodIn wsX5_tap wsX5_keeps := goodIn_r _ [13, 14, 15, 6, 32, 33, 34, 35, 36, 37, 38, 39, 40, 41, 42, 43, 44, 45, 46, 47, 48, 49, 50, 51, 52, 53] (by decide +kernel) (by decide +kernel)
set_option maxRecDepth 20000 in
theorem gX5_tap_X5_keeps : GoodIn wsX5_tap (wsV RX5 79 RX5 yX5_keeps wsX5_keeps) := goodIn_app (goodIn_of _ (by decide +kernel)) ggX5_tap_X5_keeps
set_option maxRecDepth 20000 in
theorem ggX5_tap_X5_taps : GoodIn wsX5_tap wsX5_taps := goodIn_r _ [19, 6, 20, 21, 22, 4, 23, 24, 25, 26, 27, 28, 29, 30, 31, 32, 33, 34, 35, 36, 37, 38, 39, 40, 41, 42, 43, 44, 45, 46, 47, 48, 49, 50, 51, 52, 53] (by decide +kernel) (by decide +kernel)
set_option maxRecDepth 20000 in
theorem gX5_tap_X5_taps : GoodIn wsX5_tap (wsV RX5 95 RX5 yX5_taps wsX5_taps) := goodIn_app (goodIn_of _ (by decide +kernel)) ggX5_tap_X5_taps
theorem dX5_tap_0 : decode cX5_tap 0 = .ok (.aload_n 0, 1) := by decide +kernel
theorem dX5_tap_1 : decode cX5_tap 1 = .ok (.iload_n 1, 1) := by decide +kernel
theorem dX5_tap_2 : decode cX5_tap 2 = .ok (.invokevirtual 82, 3) := by decide +kernel
theorem dX5_tap_5 : decode cX5_tap 5 = .ok (.ifCond .ne 6, 3) := by decide +kernel
theorem dX5_tap_8 : decode cX5_tap 8 = .ok (.bipush (-2), 2) := by decide +kernel
theorem dX5_tap_10 : decode cX5_tap 10 = .ok (.ireturn, 1) := by decide +kernel
theorem dX5_tap_11 : decode cX5_tap 11 = .ok (.aload_n 0, 1) := by decide +kernel
theorem dX5_tap_12 : decode cX5_tap 12 = .ok (.invokevirtual 79, 3) := by decide +kernel
theorem dX5_tap_15 : decode cX5_tap 15 = .ok (.aload_n 0, 1) := by decide +kernel
theorem dX5_tap_16 : decode cX5_tap 16 = .ok (.iload_n 1, 1) := by decide +kernel
theorem dX5_tap_17 : decode cX5_tap 17 = .ok (.invokevirtual 95, 3) := by decide +kernel
theorem dX5_tap_20 : decode cX5_tap 20 = .ok (.ireturn, 1) := by decide +kernel
set_option maxRecDepth 20000 in
theorem ggX5_pass_X5_in : GoodIn wsX5_pass wsX5_in := goodIn_r _ [5] (by decide +kernel) (by decide +kernel)
set_option maxRecDepth 20000 in
theorem gX5_pass_X5_in : GoodIn wsX5_pass (va_wsS RX5 55 yX5_in wsX5_in) := goodIn_app (goodIn_of _ (by decide +kernel)) ggX5_pass_X5_in
set_option maxRecDepth 20000 in
theorem ggX5_pass_X5_keeps : GoodIn wsX5_pass wsX5_keeps := goodIn_r _ [9, 10, 11, 1, 36, 37, 38, 39, 40, 41, 42, 43, 44, 45, 46, 47, 48, 49, 50, 51, 52, 53, 54, 55, 56, 57] (by decide +kernel) (by decide +kernel)
set_option maxRecDepth 20000 in
theorem gX5_pass_X5_keeps : GoodIn wsX5_pass (wsV RX5 79 RX5 yX5_keeps wsX5_keeps) := goodIn_app (goodIn_of _ (by decide +kernel)) ggX5_pass_X5_keeps
set_option maxRecDepth 20000 in
theorem ggX5_pass_X5_passes : GoodIn wsX5_pass wsX5_passes := goodIn_r _ [15, 16, 17, 18, 4, 19, 1, 20, 21, 22, 23, 24, 25, 26, 27, 28, 29, 30, 31, 32, 33, 34, 35, 36, 37, 38, 39, 40, 41, 42, 43, 44, 45, 46, 47, 48, 49, 50, 51, 52, 53, 54, 55, 56, 57] (by decide +kernel) (by decide +kernel)
set_option maxRecDepth 20000 in
theorem gX5_pass_X5_passes : GoodIn wsX5_pass (wsV RX5 99 RX5 yX5_passes wsX5_passes) := goodIn_app (goodIn_of _ (by decide +kernel)) ggX5_pass_X5_passes
theorem dX5_pass_0 : decode cX5_pass 0 = .ok (.iload_n 1, 1) := by decide +kernel
theorem dX5_pass_1 : decode cX5_pass 1 = .ok (.iconst 1, 1) := by decide +kernel
theorem dX5_pass_2 : decode cX5_pass 2 = .ok (.sipush 999, 3) := by decide +kernel
theorem dX5_pass_5 : decode cX5_pass 5 = .ok (.invokestatic 55, 3) := by decide +kernel
theorem dX5_pass_8 : decode cX5_pass 8 = .ok (.ifCond .ne 6, 3) := by decide +kernel
theorem dX5_pass_11 : decode cX5_pass 11 = .ok (.bipush (-2), 2) := by decide +kernel
theorem dX5_pass_13 : decode cX5_pass 13 = .ok (.ireturn, 1) := by decide +kernel
theorem dX5_pass_14 : decode cX5_pass 14 = .ok (.aload_n 0, 1) := by decide +kernel
theorem dX5_pass_15 : decode cX5_pass 15 = .ok (.getfield 7, 3) := by decide +kernel
theorem dX5_pass_18 : decode cX5_pass 18 = .ok (.bipush 22, 2) := by decide +kernel
theorem dX5_pass_20 : decode cX5_pass 20 = .ok (.iaload, 1) := by decide +kernel
theorem dX5_pass_21 : decode cX5_pass 21 = .ok (.iload_n 1, 1) := by decide +kernel
theorem dX5_pass_22 : decode cX5_pass 22 = .ok (.iadd, 1) := by decide +kernel
theorem dX5_pass_23 : decode cX5_pass 23 = .ok (.sipush 9999, 3) := by decide +kernel
theorem dX5_pass_26 : decode cX5_pass 26 = .ok (.if_icmp .le 6, 3) := by decide +kernel
theorem dX5_pass_29 : decode cX5_pass 29 = .ok (.bipush (-4), 2) := by decide +kernel
theorem dX5_pass_31 : decode cX5_pass 31 = .ok (.ireturn, 1) := by decide +kernel
theorem dX5_pass_32 : decode cX5_pass 32 = .ok (.aload_n 0, 1) := by decide +kernel
theorem dX5_pass_33 : decode cX5_pass 33 = .ok (.invokevirtual 79, 3) := by decide +kernel
theorem dX5_pass_36 : decode cX5_pass 36 = .ok (.aload_n 0, 1) := by decide +kernel
theorem dX5_pass_37 : decode cX5_pass 37 = .ok (.iload_n 1, 1) := by decide +kernel
theorem dX5_pass_38 : decode cX5_pass 38 = .ok (.invokevirtual 99, 3) := by decide +kernel
theorem dX5_pass_41 : decode cX5_pass 41 = .ok (.ireturn, 1) := by decide +kernel
set_option maxRecDepth 20000 in
theorem ggX5_await_X5_runsAny : GoodIn wsX5_await wsX5_runsAny := goodIn_r _ [6, 1, 7, 8, 9, 5, 10, 11, 12, 13, 14, 42, 43, 44, 45, 46, 47, 48, 49, 50, 51, 52, 53, 54, 55, 56, 57, 58, 59, 60, 61, 62, 63] (by decide +kernel) (by decide +kernel)
set_option maxRecDepth 20000 in
theorem gX5_await_X5_runsAny : GoodIn wsX5_await (wsV RX5 102 RX5 yX5_runsAny wsX5_runsAny) := goodIn_app (goodIn_of _ (by decide +kernel)) ggX5_await_X5_runsAny
set_option maxRecDepth 20000 in
theorem ggX5_await_X5_untilEvent : GoodIn wsX5_await wsX5_untilEvent := goodIn_r _ [18, 19, 1, 20, 21, 22, 5, 23, 7, 8, 9, 10, 11, 12, 13, 14, 24, 25, 26, 27, 28, 29, 30, 31, 42, 43, 44, 45, 46, 47, 48, 49, 50, 51, 52, 53, 54, 55, 56, 57, 58, 59, 60, 61, 62, 63] (by decide +kernel) (by decide +kernel)
set_option maxRecDepth 20000 in
theorem gX5_await_X5_untilEvent : GoodIn wsX5_await (wsV RX5 106 RX5 yX5_untilEvent wsX5_untilEvent) := goodIn_app (goodIn_of _ (by decide +kernel)) ggX5_await_X5_untilEvent
set_option maxRecDepth 20000 in
theorem ggX5_await_X5_keeps : GoodIn wsX5_await wsX5_keeps := goodIn_r _ [35, 36, 37, 1, 42, 43, 44, 45, 46, 47, 48, 49, 50, 51, 52, 53, 54, 55, 56, 57, 58, 59, 60, 61, 62, 63] (by decide +kernel) (by decide +kernel)
set_option maxRecDepth 20000 in
theorem gX5_await_X5_keeps : GoodIn wsX5_await (wsV RX5 79 RX5 yX5_keeps wsX5_keeps) := goodIn_app (goodIn_of _ (by decide +kernel)) ggX5_await_X5_keeps
set_option maxRecDepth 20000 in
theorem ggX5_await_X5_passes : GoodIn wsX5_await wsX5_passes := goodIn_r _ [41, 20, 21, 22, 5, 23, 1, 7, 8, 9, 10, 11, 12, 13, 14, 24, 25, 26, 27, 28, 29, 30, 31, 42, 43, 44, 45, 46, 47, 48, 49, 50, 51, 52, 53, 54, 55, 56, 57, 58, 59, 60, 61, 62, 63] (by decide +kernel) (by decide +kernel)
set_option maxRecDepth 20000 in
theorem gX5_await_X5_passes : GoodIn wsX5_await (wsV RX5 99 RX5 yX5_passes wsX5_passes) := goodIn_app (goodIn_of _ (by decide +kernel)) ggX5_await_X5_passes
theorem dX5_await_0 : decode cX5_await 0 = .ok (.aload_n 0, 1) := by decide +kernel
theorem dX5_await_1 : decode cX5_await 1 = .ok (.invokevirtual 102, 3) := by decide +kernel
theorem dX5_await_4 : decode cX5_await 4 = .ok (.ifCond .ne 6, 3) := by decide +kernel
theorem dX5_await_7 : decode cX5_await 7 = .ok (.bipush (-3), 2) := by decide +kernel
theorem dX5_await_9 : decode cX5_await 9 = .ok (.ireturn, 1) := by decide +kernel
theorem dX5_await_10 : decode cX5_await 10 = .ok (.aload_n 0, 1) := by decide +kernel
theorem dX5_await_11 : decode cX5_await 11 = .ok (.invokevirtual 106, 3) := by decide +kernel
theorem dX5_await_14 : decode cX5_await 14 = .ok (.istore_n 1, 1) := by decide +kernel
theorem dX5_await_15 : decode cX5_await 15 = .ok (.aload_n 0, 1) := by decide +kernel
theorem dX5_await_16 : decode cX5_await 16 = .ok (.getfield 7, 3) := by decide +kernel
theorem dX5_await_19 : decode cX5_await 19 = .ok (.bipush 22, 2) := by decide +kernel
theorem dX5_await_21 : decode cX5_await 21 = .ok (.iaload, 1) := by decide +kernel
theorem dX5_await_22 : decode cX5_await 22 = .ok (.iload_n 1, 1) := by decide +kernel
theorem dX5_await_23 : decode cX5_await 23 = .ok (.iadd, 1) := by decide +kernel
theorem dX5_await_24 : decode cX5_await 24 = .ok (.sipush 9999, 3) := by decide +kernel
theorem dX5_await_27 : decode cX5_await 27 = .ok (.if_icmp .le 6, 3) := by decide +kernel
theorem dX5_await_30 : decode cX5_await 30 = .ok (.bipush (-4), 2) := by decide +kernel
theorem dX5_await_32 : decode cX5_await 32 = .ok (.ireturn, 1) := by decide +kernel
theorem dX5_await_33 : decode cX5_await 33 = .ok (.aload_n 0, 1) := by decide +kernel
theorem dX5_await_34 : decode cX5_await 34 = .ok (.invokevirtual 79, 3) := by decide +kernel
theorem dX5_await_37 : decode cX5_await 37 = .ok (.aload_n 0, 1) := by decide +kernel
theorem dX5_await_38 : decode cX5_await 38 = .ok (.iload_n 1, 1) := by decide +kernel
theorem dX5_await_39 : decode cX5_await 39 = .ok (.invokevirtual 99, 3) := by decide +kernel
theorem dX5_await_42 : decode cX5_await 42 = .ok (.ifCond .le 7, 3) := by decide +kernel
theorem dX5_await_45 : decode cX5_await 45 = .ok (.iload_n 1, 1) := by decide +kernel
theorem dX5_await_46 : decode cX5_await 46 = .ok (.goto 4, 3) := by decide +kernel
theorem dX5_await_49 : decode cX5_await 49 = .ok (.iconst (-1), 1) := by decide +kernel
theorem dX5_await_50 : decode cX5_await 50 = .ok (.ireturn, 1) := by decide +kernel
set_option maxRecDepth 20000 in
theorem ggX5_mark_X5_keeps : GoodIn wsX5_mark wsX5_keeps := goodIn_r _ [6, 7, 8, 1, 9, 10, 11, 12, 13, 14, 15, 16, 17, 18, 19, 20, 21, 22, 23, 24, 25, 26, 27, 28, 29, 30] (by decide +kernel) (by decide +kernel)
set_option maxRecDepth 20000 in
theorem gX5_mark_X5_keeps : GoodIn wsX5_mark (wsV RX5 79 RX5 yX5_keeps wsX5_keeps) := goodIn_app (goodIn_of _ (by decide +kernel)) ggX5_mark_X5_keeps
theorem dX5_mark_0 : decode cX5_mark 0 = .ok (.aload_n 0, 1) := by decide +kernel
theorem dX5_mark_1 : decode cX5_mark 1 = .ok (.invokevirtual 79, 3) := by decide +kernel
theorem dX5_mark_4 : decode cX5_mark 4 = .ok (.aload_n 0, 1) := by decide +kernel
theorem dX5_mark_5 : decode cX5_mark 5 = .ok (.getfield 7, 3) := by decide +kernel
theorem dX5_mark_8 : decode cX5_mark 8 = .ok (.bipush 23, 2) := by decide +kernel
theorem dX5_mark_10 : decode cX5_mark 10 = .ok (.iaload, 1) := by decide +kernel
theorem dX5_mark_11 : decode cX5_mark 11 = .ok (.istore_n 1, 1) := by decide +kernel
theorem dX5_mark_12 : decode cX5_mark 12 = .ok (.aload_n 0, 1) := by decide +kernel
theorem dX5_mark_13 : decode cX5_mark 13 = .ok (.getfield 7, 3) := by decide +kernel
theorem dX5_mark_16 : decode cX5_mark 16 = .ok (.bipush 23, 2) := by decide +kernel
theorem dX5_mark_18 : decode cX5_mark 18 = .ok (.aload_n 0, 1) := by decide +kernel
theorem dX5_mark_19 : decode cX5_mark 19 = .ok (.getfield 7, 3) := by decide +kernel
theorem dX5_mark_22 : decode cX5_mark 22 = .ok (.bipush 22, 2) := by decide +kernel
theorem dX5_mark_24 : decode cX5_mark 24 = .ok (.iaload, 1) := by decide +kernel
theorem dX5_mark_25 : decode cX5_mark 25 = .ok (.iastore, 1) := by decide +kernel
theorem dX5_mark_26 : decode cX5_mark 26 = .ok (.iload_n 1, 1) := by decide +kernel
theorem dX5_mark_27 : decode cX5_mark 27 = .ok (.ireturn, 1) := by decide +kernel
set_option maxRecDepth 20000 in
theorem ggX5_type_X5_in : GoodIn wsX5_type wsX5_in := goodIn_r _ [6] (by decide +kernel) (by decide +kernel)
set_option maxRecDepth 20000 in
theorem gX5_type_X5_in : GoodIn wsX5_type (va_wsS RX5 55 yX5_in wsX5_in) := goodIn_app (goodIn_of _ (by decide +kernel)) ggX5_type_X5_in
theorem dX5_type_0 : decode cX5_type 0 = .ok (.iload_n 1, 1) := by decide +kernel
theorem dX5_type_1 : decode cX5_type 1 = .ok (.iconst 0, 1) := by decide +kernel
theorem dX5_type_2 : decode cX5_type 2 = .ok (.bipush 127, 2) := by decide +kernel
theorem dX5_type_4 : decode cX5_type 4 = .ok (.invokestatic 55, 3) := by decide +kernel
theorem dX5_type_7 : decode cX5_type 7 = .ok (.ifCond .ne 6, 3) := by decide +kernel
theorem dX5_type_10 : decode cX5_type 10 = .ok (.bipush (-2), 2) := by decide +kernel
theorem dX5_type_12 : decode cX5_type 12 = .ok (.ireturn, 1) := by decide +kernel
theorem dX5_type_13 : decode cX5_type 13 = .ok (.aload_n 0, 1) := by decide +kernel
theorem dX5_type_14 : decode cX5_type 14 = .ok (.getfield 109, 3) := by decide +kernel
theorem dX5_type_17 : decode cX5_type 17 = .ok (.bipush 60, 2) := by decide +kernel
theorem dX5_type_19 : decode cX5_type 19 = .ok (.if_icmp .ne 6, 3) := by decide +kernel
theorem dX5_type_22 : decode cX5_type 22 = .ok (.bipush (-4), 2) := by decide +kernel
theorem dX5_type_24 : decode cX5_type 24 = .ok (.ireturn, 1) := by decide +kernel
theorem dX5_type_25 : decode cX5_type 25 = .ok (.aload_n 0, 1) := by decide +kernel
theorem dX5_type_26 : decode cX5_type 26 = .ok (.getfield 19, 3) := by decide +kernel
theorem dX5_type_29 : decode cX5_type 29 = .ok (.aload_n 0, 1) := by decide +kernel
theorem dX5_type_30 : decode cX5_type 30 = .ok (.getfield 109, 3) := by decide +kernel
theorem dX5_type_33 : decode cX5_type 33 = .ok (.iload_n 1, 1) := by decide +kernel
theorem dX5_type_34 : decode cX5_type 34 = .ok (.iastore, 1) := by decide +kernel
theorem dX5_type_35 : decode cX5_type 35 = .ok (.aload_n 0, 1) := by decide +kernel
theorem dX5_type_36 : decode cX5_type 36 = .ok (.dup, 1) := by decide +kernel
theorem dX5_type_37 : decode cX5_type 37 = .ok (.getfield 109, 3) := by decide +kernel
theorem dX5_type_40 : decode cX5_type 40 = .ok (.iconst 1, 1) := by decide +kernel
theorem dX5_type_41 : decode cX5_type 41 = .ok (.iadd, 1) := by decide +kernel
theorem dX5_type_42 : decode cX5_type 42 = .ok (.putfield 109, 3) := by decide +kernel
theorem dX5_type_45 : decode cX5_type 45 = .ok (.aload_n 0, 1) := by decide +kernel
theorem dX5_type_46 : decode cX5_type 46 = .ok (.getfield 109, 3) := by decide +kernel
theorem dX5_type_49 : decode cX5_type 49 = .ok (.ireturn, 1) := by decide +kernel
theorem dX5_clearText_0 : decode cX5_clearText 0 = .ok (.aload_n 0, 1) := by decide +kernel
theorem dX5_clearText_1 : decode cX5_clearText 1 = .ok (.getfield 109, 3) := by decide +kernel
theorem dX5_clearText_4 : decode cX5_clearText 4 = .ok (.istore_n 1, 1) := by decide +kernel
theorem dX5_clearText_5 : decode cX5_clearText 5 = .ok (.aload_n 0, 1) := by decide +kernel
theorem dX5_clearText_6 : decode cX5_clearText 6 = .ok (.iconst 0, 1) := by decide +kernel
theorem dX5_clearText_7 : decode cX5_clearText 7 = .ok (.putfield 109, 3) := by decide +kernel
theorem dX5_clearText_10 : decode cX5_clearText 10 = .ok (.iload_n 1, 1) := by decide +kernel
theorem dX5_clearText_11 : decode cX5_clearText 11 = .ok (.ireturn, 1) := by decide +kernel
theorem dX5_next_0 : decode cX5_next 0 = .ok (.aload_n 0, 1) := by decide +kernel
theorem dX5_next_1 : decode cX5_next 1 = .ok (.getfield 112, 3) := by decide +kernel
theorem dX5_next_4 : decode cX5_next 4 = .ok (.aload_n 0, 1) := by decide +kernel
theorem dX5_next_5 : decode cX5_next 5 = .ok (.getfield 109, 3) := by decide +kernel
theorem dX5_next_8 : decode cX5_next 8 = .ok (.if_icmp .ge 15, 3) := by decide +kernel
theorem dX5_next_11 : decode cX5_next 11 = .ok (.aload_n 0, 1) := by decide +kernel
theorem dX5_next_12 : decode cX5_next 12 = .ok (.getfield 19, 3) := by decide +kernel
theorem dX5_next_15 : decode cX5_next 15 = .ok (.aload_n 0, 1) := by decide +kernel
theorem dX5_next_16 : decode cX5_next 16 = .ok (.getfield 112, 3) := by decide +kernel
theorem dX5_next_19 : decode cX5_next 19 = .ok (.iaload, 1) := by decide +kernel
theorem dX5_next_20 : decode cX5_next 20 = .ok (.goto 4, 3) := by decide +kernel
theorem dX5_next_23 : decode cX5_next 23 = .ok (.iconst (-1), 1) := by decide +kernel
theorem dX5_next_24 : decode cX5_next 24 = .ok (.ireturn, 1) := by decide +kernel
set_option maxRecDepth 20000 in
theorem ggX5_isDigit_X5_next : GoodIn wsX5_isDigit wsX5_next := goodIn_r _ [5, 6, 7, 8, 12, 13, 14, 15, 16, 17, 18, 19, 20, 21, 22, 23, 24, 25, 26, 27, 28, 29, 30, 31, 32, 33] (by decide +kernel) (by decide +kernel)
set_option maxRecDepth 20000 in
theorem gX5_isDigit_X5_next : GoodIn wsX5_isDigit (wsV RX5 115 RX5 yX5_next wsX5_next) := goodIn_app (goodIn_of _ (by decide +kernel)) ggX5_isDigit_X5_next
set_option maxRecDepth 20000 in
theorem ggX5_isDigit_X5_in : GoodIn wsX5_isDigit wsX5_in := goodIn_r _ [11] (by decide +kernel) (by decide +kernel)
set_option maxRecDepth 20000 in
theorem gX5_isDigit_X5_in : GoodIn wsX5_isDigit (va_wsS RX5 55 yX5_in wsX5_in) := goodIn_app (goodIn_of _ (by decide +kernel)) ggX5_isDigit_X5_in
theorem dX5_isDigit_0 : decode cX5_isDigit 0 = .ok (.aload_n 0, 1) := by decide +kernel
theorem dX5_isDigit_1 : decode cX5_isDigit 1 = .ok (.invokevirtual 115, 3) := by decide +kernel
theorem dX5_isDigit_4 : decode cX5_isDigit 4 = .ok (.bipush 48, 2) := by decide +kernel
theorem dX5_isDigit_6 : decode cX5_isDigit 6 = .ok (.bipush 57, 2) := by decide +kernel
theorem dX5_isDigit_8 : decode cX5_isDigit 8 = .ok (.invokestatic 55, 3) := by decide +kernel
theorem dX5_isDigit_11 : decode cX5_isDigit 11 = .ok (.ireturn, 1) := by decide +kernel
set_option maxRecDepth 20000 in
theorem ggX5_blanks_X5_next : GoodIn wsX5_blanks wsX5_next := goodIn_r _ [6, 1, 7, 8, 9, 10, 11, 12, 13, 14, 15, 16, 17, 18, 19, 20, 21, 22, 23, 24, 25, 26, 27, 28, 29, 30] (by decide +kernel) (by decide +kernel)
set_option maxRecDepth 20000 in
theorem gX5_blanks_X5_next : GoodIn wsX5_blanks (wsV RX5 115 RX5 yX5_next wsX5_next) := goodIn_app (goodIn_of _ (by decide +kernel)) ggX5_blanks_X5_next
theorem dX5_blanks_0 : decode cX5_blanks 0 = .ok (.aload_n 0, 1) := by decide +kernel
theorem dX5_blanks_1 : decode cX5_blanks 1 = .ok (.invokevirtual 115, 3) := by decide +kernel
theorem dX5_blanks_4 : decode cX5_blanks 4 = .ok (.bipush 32, 2) := by decide +kernel
theorem dX5_blanks_6 : decode cX5_blanks 6 = .ok (.if_icmp .ne 16, 3) := by decide +kernel
theorem dX5_blanks_9 : decode cX5_blanks 9 = .ok (.aload_n 0, 1) := by decide +kernel
theorem dX5_blanks_10 : decode cX5_blanks 10 = .ok (.dup, 1) := by decide +kernel
theorem dX5_blanks_11 : decode cX5_blanks 11 = .ok (.getfield 112, 3) := by decide +kernel
theorem dX5_blanks_14 : decode cX5_blanks 14 = .ok (.iconst 1, 1) := by decide +kernel
theorem dX5_blanks_15 : decode cX5_blanks 15 = .ok (.iadd, 1) := by decide +kernel
theorem dX5_blanks_16 : decode cX5_blanks 16 = .ok (.putfield 112, 3) := by decide +kernel
theorem dX5_blanks_19 : decode cX5_blanks 19 = .ok (.goto (-19), 3) := by decide +kernel
theorem dX5_blanks_22 : decode cX5_blanks 22 = .ok (.return_, 1) := by decide +kernel
theorem dX5_fails_0 : decode cX5_fails 0 = .ok (.aload_n 0, 1) := by decide +kernel
theorem dX5_fails_1 : decode cX5_fails 1 = .ok (.aload_n 0, 1) := by decide +kernel
theorem dX5_fails_2 : decode cX5_fails 2 = .ok (.getfield 118, 3) := by decide +kernel
theorem dX5_fails_5 : decode cX5_fails 5 = .ok (.iconst (-1), 1) := by decide +kernel
theorem dX5_fails_6 : decode cX5_fails 6 = .ok (.if_icmp .ne 7, 3) := by decide +kernel
theorem dX5_fails_9 : decode cX5_fails 9 = .ok (.iload_n 1, 1) := by decide +kernel
theorem dX5_fails_10 : decode cX5_fails 10 = .ok (.goto 7, 3) := by decide +kernel
theorem dX5_fails_13 : decode cX5_fails 13 = .ok (.aload_n 0, 1) := by decide +kernel
theorem dX5_fails_14 : decode cX5_fails 14 = .ok (.getfield 118, 3) := by decide +kernel
theorem dX5_fails_17 : decode cX5_fails 17 = .ok (.putfield 118, 3) := by decide +kernel
theorem dX5_fails_20 : decode cX5_fails 20 = .ok (.return_, 1) := by decide +kernel
set_option maxRecDepth 20000 in
theorem ggX5_needs_X5_blanks : GoodIn wsX5_needs wsX5_blanks := goodIn_r _ [7, 2, 8, 9, 10, 6, 11, 12, 13, 18, 19, 20, 21, 22, 23, 24, 25, 26, 27, 28, 29, 30, 31, 32, 33, 34, 35, 36, 37, 38, 39] (by decide +kernel) (by decide +kernel)
set_option maxRecDepth 20000 in
theorem gX5_needs_X5_blanks : GoodIn wsX5_needs (wsV RX5 121 RX5 yX5_blanks wsX5_blanks) := goodIn_app (goodIn_of _ (by decide +kernel)) ggX5_needs_X5_blanks
set_option maxRecDepth 20000 in
theorem ggX5_needs_X5_fails : GoodIn wsX5_needs wsX5_fails := goodIn_r _ [17, 1, 18, 19, 20, 21, 22, 23, 24, 25, 26, 27, 28, 29, 30, 31, 32, 33, 34, 35, 36, 37, 38, 39] (by decide +kernel) (by decide +kernel)
set_option maxRecDepth 20000 in
theorem gX5_needs_X5_fails : GoodIn wsX5_needs (wsV RX5 124 RX5 yX5_fails wsX5_fails) := goodIn_app (goodIn_of _ (by decide +kernel)) ggX5_needs_X5_fails
theorem dX5_needs_0 : decode cX5_needs 0 = .ok (.aload_n 0, 1) := by decide +kernel
theorem dX5_needs_1 : decode cX5_needs 1 = .ok (.getfield 118, 3) := by decide +kernel
theorem dX5_needs_4 : decode cX5_needs 4 = .ok (.iconst (-1), 1) := by decide +kernel
theorem dX5_needs_5 : decode cX5_needs 5 = .ok (.if_icmp .ne 24, 3) := by decide +kernel
theorem dX5_needs_8 : decode cX5_needs 8 = .ok (.iload_n 1, 1) := by decide +kernel
theorem dX5_needs_9 : decode cX5_needs 9 = .ok (.ifCond .eq 20, 3) := by decide +kernel
theorem dX5_needs_12 : decode cX5_needs 12 = .ok (.aload_n 0, 1) := by decide +kernel
theorem dX5_needs_13 : decode cX5_needs 13 = .ok (.dup, 1) := by decide +kernel
theorem dX5_needs_14 : decode cX5_needs 14 = .ok (.getfield 112, 3) := by decide +kernel
theorem dX5_needs_17 : decode cX5_needs 17 = .ok (.iconst 1, 1) := by decide +kernel
theorem dX5_needs_18 : decode cX5_needs 18 = .ok (.iadd, 1) := by decide +kernel
theorem dX5_needs_19 : decode cX5_needs 19 = .ok (.putfield 112, 3) := by decide +kernel
theorem dX5_needs_22 : decode cX5_needs 22 = .ok (.aload_n 0, 1) := by decide +kernel
theorem dX5_needs_23 : decode cX5_needs 23 = .ok (.invokevirtual 121, 3) := by decide +kernel
theorem dX5_needs_26 : decode cX5_needs 26 = .ok (.goto 11, 3) := by decide +kernel
theorem dX5_needs_29 : decode cX5_needs 29 = .ok (.aload_n 0, 1) := by decide +kernel
theorem dX5_needs_30 : decode cX5_needs 30 = .ok (.aload_n 0, 1) := by decide +kernel
theorem dX5_needs_31 : decode cX5_needs 31 = .ok (.getfield 112, 3) := by decide +kernel
theorem dX5_needs_34 : decode cX5_needs 34 = .ok (.invokevirtual 124, 3) := by decide +kernel
theorem dX5_needs_37 : decode cX5_needs 37 = .ok (.return_, 1) := by decide +kernel
set_option maxRecDepth 20000 in
theorem ggX5_number_X5_isDigit : GoodIn wsX5_number wsX5_isDigit := goodIn_r _ [6, 7, 8, 9, 5, 10, 1, 11, 12, 13, 14, 15, 25, 26, 27, 28, 29, 30, 31, 32, 33, 34, 35, 36, 37, 38, 39, 40, 41, 42, 43, 44, 45, 46] (by decide +kernel) (by decide +kernel)
set_option maxRecDepth 20000 in
theorem gX5_number_X5_isDigit : GoodIn wsX5_number (wsV RX5 127 RX5 yX5_isDigit wsX5_isDigit) := goodIn_app (goodIn_of _ (by decide +kernel)) ggX5_number_X5_isDigit
set_option maxRecDepth 20000 in
theorem ggX5_number_X5_next : GoodIn wsX5_number wsX5_next := goodIn_r _ [10, 1, 11, 12, 25, 26, 27, 28, 29, 30, 31, 32, 33, 34, 35, 36, 37, 38, 39, 40, 41, 42, 43, 44, 45, 46] (by decide +kernel) (by decide +kernel)
set_option maxRecDepth 20000 in
theorem gX5_number_X5_next : GoodIn wsX5_number (wsV RX5 115 RX5 yX5_next wsX5_next) := goodIn_app (goodIn_of _ (by decide +kernel)) ggX5_number_X5_next
set_option maxRecDepth 20000 in
theorem ggX5_number_X5_in : GoodIn wsX5_number wsX5_in := goodIn_r _ [15] (by decide +kernel) (by decide +kernel)
set_option maxRecDepth 20000 in
theorem gX5_number_X5_in : GoodIn wsX5_number (va_wsS RX5 55 yX5_in wsX5_in) := goodIn_app (goodIn_of _ (by decide +kernel)) ggX5_number_X5_in
set_option maxRecDepth 20000 in
theorem ggX5_number_X5_fails : GoodIn wsX5_number wsX5_fails := goodIn_r _ [19, 20, 25, 26, 27, 28, 29, 30, 31, 32, 33, 34, 35, 36, 37, 38, 39, 40, 41, 42, 43, 44, 45, 46] (by decide +kernel) (by decide +kernel)
set_option maxRecDepth 20000 in
theorem gX5_number_X5_fails : GoodIn wsX5_number (wsV RX5 124 RX5 yX5_fails wsX5_fails) := goodIn_app (goodIn_of _ (by decide +kernel)) ggX5_number_X5_fails
set_option maxRecDepth 20000 in
theorem ggX5_number_X5_blanks : GoodIn wsX5_number wsX5_blanks := goodIn_r _ [24, 1, 7, 8, 9, 5, 10, 11, 12, 25, 26, 27, 28, 29, 30, 31, 32, 33, 34, 35, 36, 37, 38, 39, 40, 41, 42, 43, 44, 45, 46] (by decide +kernel) (by decide +kernel)
set_option maxRecDepth 20000 in
theorem gX5_number_X5_blanks : GoodIn wsX5_number (wsV RX5 121 RX5 yX5_blanks wsX5_blanks) := goodIn_app (goodIn_of _ (by decide +kernel)) ggX5_number_X5_blanks
theorem dX5_number_0 : decode cX5_number 0 = .ok (.aload_n 0, 1) := by decide +kernel
theorem dX5_number_1 : decode cX5_number 1 = .ok (.getfield 112, 3) := by decide +kernel
theorem dX5_number_4 : decode cX5_number 4 = .ok (.istore_n 2, 1) := by decide +kernel
theorem dX5_number_5 : decode cX5_number 5 = .ok (.iconst 0, 1) := by decide +kernel
theorem dX5_number_6 : decode cX5_number 6 = .ok (.istore_n 3, 1) := by decide +kernel
theorem dX5_number_7 : decode cX5_number 7 = .ok (.aload_n 0, 1) := by decide +kernel
theorem dX5_number_8 : decode cX5_number 8 = .ok (.getfield 112, 3) := by decide +kernel
theorem dX5_number_11 : decode cX5_number 11 = .ok (.iload_n 2, 1) := by decide +kernel
theorem dX5_number_12 : decode cX5_number 12 = .ok (.iconst 2, 1) := by decide +kernel
theorem dX5_number_13 : decode cX5_number 13 = .ok (.iadd, 1) := by decide +kernel
theorem dX5_number_14 : decode cX5_number 14 = .ok (.if_icmp .ge 36, 3) := by decide +kernel
theorem dX5_number_17 : decode cX5_number 17 = .ok (.aload_n 0, 1) := by decide +kernel
theorem dX5_number_18 : decode cX5_number 18 = .ok (.invokevirtual 127, 3) := by decide +kernel
theorem dX5_number_21 : decode cX5_number 21 = .ok (.ifCond .eq 29, 3) := by decide +kernel
theorem dX5_number_24 : decode cX5_number 24 = .ok (.bipush 10, 2) := by decide +kernel
theorem dX5_number_26 : decode cX5_number 26 = .ok (.iload_n 3, 1) := by decide +kernel
theorem dX5_number_27 : decode cX5_number 27 = .ok (.imul, 1) := by decide +kernel
theorem dX5_number_28 : decode cX5_number 28 = .ok (.aload_n 0, 1) := by decide +kernel
theorem dX5_number_29 : decode cX5_number 29 = .ok (.invokevirtual 115, 3) := by decide +kernel
theorem dX5_number_32 : decode cX5_number 32 = .ok (.iadd, 1) := by decide +kernel
theorem dX5_number_33 : decode cX5_number 33 = .ok (.bipush 48, 2) := by decide +kernel
theorem dX5_number_35 : decode cX5_number 35 = .ok (.isub, 1) := by decide +kernel
theorem dX5_number_36 : decode cX5_number 36 = .ok (.istore_n 3, 1) := by decide +kernel
theorem dX5_number_37 : decode cX5_number 37 = .ok (.aload_n 0, 1) := by decide +kernel
theorem dX5_number_38 : decode cX5_number 38 = .ok (.dup, 1) := by decide +kernel
theorem dX5_number_39 : decode cX5_number 39 = .ok (.getfield 112, 3) := by decide +kernel
theorem dX5_number_42 : decode cX5_number 42 = .ok (.iconst 1, 1) := by decide +kernel
theorem dX5_number_43 : decode cX5_number 43 = .ok (.iadd, 1) := by decide +kernel
theorem dX5_number_44 : decode cX5_number 44 = .ok (.putfield 112, 3) := by decide +kernel
theorem dX5_number_47 : decode cX5_number 47 = .ok (.goto (-40), 3) := by decide +kernel
theorem dX5_number_50 : decode cX5_number 50 = .ok (.aload_n 0, 1) := by decide +kernel
theorem dX5_number_51 : decode cX5_number 51 = .ok (.getfield 112, 3) := by decide +kernel
theorem dX5_number_54 : decode cX5_number 54 = .ok (.iload_n 2, 1) := by decide +kernel
theorem dX5_number_55 : decode cX5_number 55 = .ok (.if_icmp .eq 12, 3) := by decide +kernel
theorem dX5_number_58 : decode cX5_number 58 = .ok (.iload_n 3, 1) := by decide +kernel
theorem dX5_number_59 : decode cX5_number 59 = .ok (.iconst 1, 1) := by decide +kernel
theorem dX5_number_60 : decode cX5_number 60 = .ok (.iload_n 1, 1) := by decide +kernel
theorem dX5_number_61 : decode cX5_number 61 = .ok (.invokestatic 55, 3) := by decide +kernel
theorem dX5_number_64 : decode cX5_number 64 = .ok (.ifCond .ne 8, 3) := by decide +kernel
theorem dX5_number_67 : decode cX5_number 67 = .ok (.aload_n 0, 1) := by decide +kernel
theorem dX5_number_68 : decode cX5_number 68 = .ok (.iload_n 2, 1) := by decide +kernel
theorem dX5_number_69 : decode cX5_number 69 = .ok (.invokevirtual 124, 3) := by decide +kernel
theorem dX5_number_72 : decode cX5_number 72 = .ok (.aload_n 0, 1) := by decide +kernel
theorem dX5_number_73 : decode cX5_number 73 = .ok (.invokevirtual 127, 3) := by decide +kernel
theorem dX5_number_76 : decode cX5_number 76 = .ok (.ifCond .eq 11, 3) := by decide +kernel
theorem dX5_number_79 : decode cX5_number 79 = .ok (.aload_n 0, 1) := by decide +kernel
theorem dX5_number_80 : decode cX5_number 80 = .ok (.aload_n 0, 1) := by decide +kernel
theorem dX5_number_81 : decode cX5_number 81 = .ok (.getfield 112, 3) := by decide +kernel
theorem dX5_number_84 : decode cX5_number 84 = .ok (.invokevirtual 124, 3) := by decide +kernel
theorem dX5_number_87 : decode cX5_number 87 = .ok (.aload_n 0, 1) := by decide +kernel
theorem dX5_number_88 : decode cX5_number 88 = .ok (.invokevirtual 121, 3) := by decide +kernel
theorem dX5_number_91 : decode cX5_number 91 = .ok (.iload_n 3, 1) := by decide +kernel
theorem dX5_number_92 : decode cX5_number 92 = .ok (.ireturn, 1) := by decide +kernel
theorem dX5_adds_0 : decode cX5_adds 0 = .ok (.aload_n 0, 1) := by decide +kernel
theorem dX5_adds_1 : decode cX5_adds 1 = .ok (.getfield 22, 3) := by decide +kernel
theorem dX5_adds_4 : decode cX5_adds 4 = .ok (.aload_n 0, 1) := by decide +kernel
theorem dX5_adds_5 : decode cX5_adds 5 = .ok (.getfield 130, 3) := by decide +kernel
theorem dX5_adds_8 : decode cX5_adds 8 = .ok (.iload_n 1, 1) := by decide +kernel
theorem dX5_adds_9 : decode cX5_adds 9 = .ok (.iastore, 1) := by decide +kernel
theorem dX5_adds_10 : decode cX5_adds 10 = .ok (.aload_n 0, 1) := by decide +kernel
theorem dX5_adds_11 : decode cX5_adds 11 = .ok (.getfield 25, 3) := by decide +kernel
theorem dX5_adds_14 : decode cX5_adds 14 = .ok (.aload_n 0, 1) := by decide +kernel
theorem dX5_adds_15 : decode cX5_adds 15 = .ok (.getfield 130, 3) := by decide +kernel
theorem dX5_adds_18 : decode cX5_adds 18 = .ok (.iload_n 2, 1) := by decide +kernel
theorem dX5_adds_19 : decode cX5_adds 19 = .ok (.iastore, 1) := by decide +kernel
theorem dX5_adds_20 : decode cX5_adds 20 = .ok (.aload_n 0, 1) := by decide +kernel
theorem dX5_adds_21 : decode cX5_adds 21 = .ok (.dup, 1) := by decide +kernel
theorem dX5_adds_22 : decode cX5_adds 22 = .ok (.getfield 130, 3) := by decide +kernel
theorem dX5_adds_25 : decode cX5_adds 25 = .ok (.iconst 1, 1) := by decide +kernel
theorem dX5_adds_26 : decode cX5_adds 26 = .ok (.iadd, 1) := by decide +kernel
theorem dX5_adds_27 : decode cX5_adds 27 = .ok (.putfield 130, 3) := by decide +kernel
theorem dX5_adds_30 : decode cX5_adds 30 = .ok (.return_, 1) := by decide +kernel
set_option maxRecDepth 20000 in
theorem ggX5_readsStep_X5_next : GoodIn wsX5_readsStep wsX5_next := goodIn_r _ [7, 2, 8, 9, 46, 47, 48, 49, 50, 51, 52, 53, 54, 55, 56, 57, 58, 59, 60, 61, 62, 63, 64, 65, 66, 67] (by decide +kernel) (by decide +kernel)
set_option maxRecDepth 20000 in
theorem gX5_readsStep_X5_next : GoodIn wsX5_readsStep (wsV RX5 115 RX5 yX5_next wsX5_next) := goodIn_app (goodIn_of _ (by decide +kernel)) ggX5_readsStep_X5_next
set_option maxRecDepth 20000 in
theorem ggX5_readsStep_X5_needs : GoodIn wsX5_readsStep wsX5_needs := goodIn_r _ [13, 14, 2, 15, 16, 17, 6, 18, 3, 4, 5, 7, 8, 9, 19, 20, 21, 22, 46, 47, 48, 49, 50, 51, 52, 53, 54, 55, 56, 57, 58, 59, 60, 61, 62, 63, 64, 65, 66, 67] (by decide +kernel) (by decide +kernel)
set_option maxRecDepth 20000 in
theorem gX5_readsStep_X5_needs : GoodIn wsX5_readsStep (wsV RX5 133 RX5 yX5_needs wsX5_needs) := goodIn_app (goodIn_of _ (by decide +kernel)) ggX5_readsStep_X5_needs
set_option maxRecDepth 20000 in
theorem ggX5_readsStep_X5_isGlass : GoodIn wsX5_readsStep wsX5_isGlass := goodIn_r _ [26, 27, 28, 29, 6, 30, 46, 47, 48, 49, 50, 51, 52, 53, 54, 55, 56, 57, 58, 59, 60, 61, 62, 63, 64, 65, 66, 67] (by decide +kernel) (by decide +kernel)
set_option maxRecDepth 20000 in
theorem gX5_readsStep_X5_isGlass : GoodIn wsX5_readsStep (wsV RX5 82 RX5 yX5_isGlass wsX5_isGlass) := goodIn_app (goodIn_of _ (by decide +kernel)) ggX5_readsStep_X5_isGlass
set_option maxRecDepth 20000 in
theorem ggX5_readsStep_X5_adds : GoodIn wsX5_readsStep wsX5_adds := goodIn_r _ [34, 35, 36, 37, 46, 47, 48, 49, 50, 51, 52, 53, 54, 55, 56, 57, 58, 59, 60, 61, 62, 63, 64, 65, 66, 67] (by decide +kernel) (by decide +kernel)
set_option maxRecDepth 20000 in
theorem gX5_readsStep_X5_adds : GoodIn wsX5_readsStep (wsV RX5 137 RX5 yX5_adds wsX5_adds) := goodIn_app (goodIn_of _ (by decide +kernel)) ggX5_readsStep_X5_adds
set_option maxRecDepth 20000 in
theorem ggX5_readsStep_X5_number : GoodIn wsX5_readsStep wsX5_number := goodIn_r _ [41, 2, 42, 43, 44, 6, 45, 3, 4, 5, 7, 8, 9, 28, 29, 30, 19, 20, 21, 22, 14, 15, 16, 17, 18, 46, 47, 48, 49, 50, 51, 52, 53, 54, 55, 56, 57, 58, 59, 60, 61, 62, 63, 64, 65, 66, 67] (by decide +kernel) (by decide +kernel)
set_option maxRecDepth 20000 in
theorem gX5_readsStep_X5_number : GoodIn wsX5_readsStep (wsV RX5 140 RX5 yX5_number wsX5_number) := goodIn_app (goodIn_of _ (by decide +kernel)) ggX5_readsStep_X5_number
set_option maxRecDepth 20000 in
theorem ggX5_readsStep_X5_isDigit : GoodIn wsX5_readsStep wsX5_isDigit := goodIn_r _ [45, 3, 4, 5, 6, 7, 2, 8, 9, 28, 29, 30, 46, 47, 48, 49, 50, 51, 52, 53, 54, 55, 56, 57, 58, 59, 60, 61, 62, 63, 64, 65, 66, 67] (by decide +kernel) (by decide +kernel)
set_option maxRecDepth 20000 in
theorem gX5_readsStep_X5_isDigit : GoodIn wsX5_readsStep (wsV RX5 127 RX5 yX5_isDigit wsX5_isDigit) := goodIn_app (goodIn_of _ (by decide +kernel)) ggX5_readsStep_X5_isDigit
set_option maxRecDepth 20000 in
theorem ggX5_readsStep_X5_fails : GoodIn wsX5_readsStep wsX5_fails := goodIn_r _ [22, 14, 46, 47, 48, 49, 50, 51, 52, 53, 54, 55, 56, 57, 58, 59, 60, 61, 62, 63, 64, 65, 66, 67] (by decide +kernel) (by decide +kernel)
set_option maxRecDepth 20000 in
theorem gX5_readsStep_X5_fails : GoodIn wsX5_readsStep (wsV RX5 124 RX5 yX5_fails wsX5_fails) := goodIn_app (goodIn_of _ (by decide +kernel)) ggX5_readsStep_X5_fails
theorem dX5_readsStep_0 : decode cX5_readsStep 0 = .ok (.aload_n 0, 1) := by decide +kernel
theorem dX5_readsStep_1 : decode cX5_readsStep 1 = .ok (.invokevirtual 115, 3) := by decide +kernel
theorem dX5_readsStep_4 : decode cX5_readsStep 4 = .ok (.istore_n 1, 1) := by decide +kernel
theorem dX5_readsStep_5 : decode cX5_readsStep 5 = .ok (.iload_n 1, 1) := by decide +kernel
theorem dX5_readsStep_6 : decode cX5_readsStep 6 = .ok (.bipush 116, 2) := by decide +kernel
theorem dX5_readsStep_8 : decode cX5_readsStep 8 = .ok (.if_icmp .eq 9, 3) := by decide +kernel
theorem dX5_readsStep_11 : decode cX5_readsStep 11 = .ok (.iload_n 1, 1) := by decide +kernel
theorem dX5_readsStep_12 : decode cX5_readsStep 12 = .ok (.bipush 107, 2) := by decide +kernel
theorem dX5_readsStep_14 : decode cX5_readsStep 14 = .ok (.if_icmp .ne 62, 3) := by decide +kernel
theorem dX5_readsStep_17 : decode cX5_readsStep 17 = .ok (.aload_n 0, 1) := by decide +kernel
theorem dX5_readsStep_18 : decode cX5_readsStep 18 = .ok (.iconst 1, 1) := by decide +kernel
theorem dX5_readsStep_19 : decode cX5_readsStep 19 = .ok (.invokevirtual 133, 3) := by decide +kernel
theorem dX5_readsStep_22 : decode cX5_readsStep 22 = .ok (.aload_n 0, 1) := by decide +kernel
theorem dX5_readsStep_23 : decode cX5_readsStep 23 = .ok (.invokevirtual 115, 3) := by decide +kernel
theorem dX5_readsStep_26 : decode cX5_readsStep 26 = .ok (.bipush 48, 2) := by decide +kernel
theorem dX5_readsStep_28 : decode cX5_readsStep 28 = .ok (.isub, 1) := by decide +kernel
theorem dX5_readsStep_29 : decode cX5_readsStep 29 = .ok (.istore_n 2, 1) := by decide +kernel
theorem dX5_readsStep_30 : decode cX5_readsStep 30 = .ok (.aload_n 0, 1) := by decide +kernel
theorem dX5_readsStep_31 : decode cX5_readsStep 31 = .ok (.aload_n 0, 1) := by decide +kernel
theorem dX5_readsStep_32 : decode cX5_readsStep 32 = .ok (.iload_n 2, 1) := by decide +kernel
theorem dX5_readsStep_33 : decode cX5_readsStep 33 = .ok (.invokevirtual 82, 3) := by decide +kernel
theorem dX5_readsStep_36 : decode cX5_readsStep 36 = .ok (.invokevirtual 133, 3) := by decide +kernel
theorem dX5_readsStep_39 : decode cX5_readsStep 39 = .ok (.aload_n 0, 1) := by decide +kernel
theorem dX5_readsStep_40 : decode cX5_readsStep 40 = .ok (.iload_n 1, 1) := by decide +kernel
theorem dX5_readsStep_41 : decode cX5_readsStep 41 = .ok (.bipush 116, 2) := by decide +kernel
theorem dX5_readsStep_43 : decode cX5_readsStep 43 = .ok (.if_icmp .ne 7, 3) := by decide +kernel
theorem dX5_readsStep_46 : decode cX5_readsStep 46 = .ok (.iconst 0, 1) := by decide +kernel
theorem dX5_readsStep_47 : decode cX5_readsStep 47 = .ok (.goto 4, 3) := by decide +kernel
theorem dX5_readsStep_50 : decode cX5_readsStep 50 = .ok (.iconst 1, 1) := by decide +kernel
theorem dX5_readsStep_51 : decode cX5_readsStep 51 = .ok (.iload_n 2, 1) := by decide +kernel
theorem dX5_readsStep_52 : decode cX5_readsStep 52 = .ok (.invokevirtual 137, 3) := by decide +kernel
theorem dX5_readsStep_55 : decode cX5_readsStep 55 = .ok (.aload_n 0, 1) := by decide +kernel
theorem dX5_readsStep_56 : decode cX5_readsStep 56 = .ok (.aload_n 0, 1) := by decide +kernel
theorem dX5_readsStep_57 : decode cX5_readsStep 57 = .ok (.invokevirtual 115, 3) := by decide +kernel
theorem dX5_readsStep_60 : decode cX5_readsStep 60 = .ok (.bipush 59, 2) := by decide +kernel
theorem dX5_readsStep_62 : decode cX5_readsStep 62 = .ok (.if_icmp .ne 7, 3) := by decide +kernel
theorem dX5_readsStep_65 : decode cX5_readsStep 65 = .ok (.iconst 1, 1) := by decide +kernel
theorem dX5_readsStep_66 : decode cX5_readsStep 66 = .ok (.goto 4, 3) := by decide +kernel
theorem dX5_readsStep_69 : decode cX5_readsStep 69 = .ok (.iconst 0, 1) := by decide +kernel
theorem dX5_readsStep_70 : decode cX5_readsStep 70 = .ok (.invokevirtual 133, 3) := by decide +kernel
theorem dX5_readsStep_73 : decode cX5_readsStep 73 = .ok (.goto 149, 3) := by decide +kernel
theorem dX5_readsStep_76 : decode cX5_readsStep 76 = .ok (.iload_n 1, 1) := by decide +kernel
theorem dX5_readsStep_77 : decode cX5_readsStep 77 = .ok (.bipush 119, 2) := by decide +kernel
theorem dX5_readsStep_79 : decode cX5_readsStep 79 = .ok (.if_icmp .ne 40, 3) := by decide +kernel
theorem dX5_readsStep_82 : decode cX5_readsStep 82 = .ok (.aload_n 0, 1) := by decide +kernel
theorem dX5_readsStep_83 : decode cX5_readsStep 83 = .ok (.iconst 1, 1) := by decide +kernel
theorem dX5_readsStep_84 : decode cX5_readsStep 84 = .ok (.invokevirtual 133, 3) := by decide +kernel
theorem dX5_readsStep_87 : decode cX5_readsStep 87 = .ok (.aload_n 0, 1) := by decide +kernel
theorem dX5_readsStep_88 : decode cX5_readsStep 88 = .ok (.iconst 2, 1) := by decide +kernel
theorem dX5_readsStep_89 : decode cX5_readsStep 89 = .ok (.aload_n 0, 1) := by decide +kernel
theorem dX5_readsStep_90 : decode cX5_readsStep 90 = .ok (.bipush 99, 2) := by decide +kernel
theorem dX5_readsStep_92 : decode cX5_readsStep 92 = .ok (.invokevirtual 140, 3) := by decide +kernel
theorem dX5_readsStep_95 : decode cX5_readsStep 95 = .ok (.invokevirtual 137, 3) := by decide +kernel
theorem dX5_readsStep_98 : decode cX5_readsStep 98 = .ok (.aload_n 0, 1) := by decide +kernel
theorem dX5_readsStep_99 : decode cX5_readsStep 99 = .ok (.aload_n 0, 1) := by decide +kernel
theorem dX5_readsStep_100 : decode cX5_readsStep 100 = .ok (.invokevirtual 115, 3) := by decide +kernel
theorem dX5_readsStep_103 : decode cX5_readsStep 103 = .ok (.bipush 59, 2) := by decide +kernel
theorem dX5_readsStep_105 : decode cX5_readsStep 105 = .ok (.if_icmp .ne 7, 3) := by decide +kernel
theorem dX5_readsStep_108 : decode cX5_readsStep 108 = .ok (.iconst 1, 1) := by decide +kernel
theorem dX5_readsStep_109 : decode cX5_readsStep 109 = .ok (.goto 4, 3) := by decide +kernel
theorem dX5_readsStep_112 : decode cX5_readsStep 112 = .ok (.iconst 0, 1) := by decide +kernel
theorem dX5_readsStep_113 : decode cX5_readsStep 113 = .ok (.invokevirtual 133, 3) := by decide +kernel
theorem dX5_readsStep_116 : decode cX5_readsStep 116 = .ok (.goto 106, 3) := by decide +kernel
theorem dX5_readsStep_119 : decode cX5_readsStep 119 = .ok (.iload_n 1, 1) := by decide +kernel
theorem dX5_readsStep_120 : decode cX5_readsStep 120 = .ok (.bipush 101, 2) := by decide +kernel
theorem dX5_readsStep_122 : decode cX5_readsStep 122 = .ok (.if_icmp .ne 35, 3) := by decide +kernel
theorem dX5_readsStep_125 : decode cX5_readsStep 125 = .ok (.aload_n 0, 1) := by decide +kernel
theorem dX5_readsStep_126 : decode cX5_readsStep 126 = .ok (.iconst 1, 1) := by decide +kernel
theorem dX5_readsStep_127 : decode cX5_readsStep 127 = .ok (.invokevirtual 133, 3) := by decide +kernel
theorem dX5_readsStep_130 : decode cX5_readsStep 130 = .ok (.aload_n 0, 1) := by decide +kernel
theorem dX5_readsStep_131 : decode cX5_readsStep 131 = .ok (.iconst 3, 1) := by decide +kernel
theorem dX5_readsStep_132 : decode cX5_readsStep 132 = .ok (.iconst 0, 1) := by decide +kernel
theorem dX5_readsStep_133 : decode cX5_readsStep 133 = .ok (.invokevirtual 137, 3) := by decide +kernel
theorem dX5_readsStep_136 : decode cX5_readsStep 136 = .ok (.aload_n 0, 1) := by decide +kernel
theorem dX5_readsStep_137 : decode cX5_readsStep 137 = .ok (.aload_n 0, 1) := by decide +kernel
theorem dX5_readsStep_138 : decode cX5_readsStep 138 = .ok (.invokevirtual 115, 3) := by decide +kernel
theorem dX5_readsStep_141 : decode cX5_readsStep 141 = .ok (.bipush 59, 2) := by decide +kernel
theorem dX5_readsStep_143 : decode cX5_readsStep 143 = .ok (.if_icmp .ne 7, 3) := by decide +kernel
theorem dX5_readsStep_146 : decode cX5_readsStep 146 = .ok (.iconst 1, 1) := by decide +kernel
theorem dX5_readsStep_147 : decode cX5_readsStep 147 = .ok (.goto 4, 3) := by decide +kernel
theorem dX5_readsStep_150 : decode cX5_readsStep 150 = .ok (.iconst 0, 1) := by decide +kernel
theorem dX5_readsStep_151 : decode cX5_readsStep 151 = .ok (.invokevirtual 133, 3) := by decide +kernel
theorem dX5_readsStep_154 : decode cX5_readsStep 154 = .ok (.goto 68, 3) := by decide +kernel
theorem dX5_readsStep_157 : decode cX5_readsStep 157 = .ok (.aload_n 0, 1) := by decide +kernel
theorem dX5_readsStep_158 : decode cX5_readsStep 158 = .ok (.invokevirtual 127, 3) := by decide +kernel
theorem dX5_readsStep_161 : decode cX5_readsStep 161 = .ok (.ifCond .eq 53, 3) := by decide +kernel
theorem dX5_readsStep_164 : decode cX5_readsStep 164 = .ok (.aload_n 0, 1) := by decide +kernel
theorem dX5_readsStep_165 : decode cX5_readsStep 165 = .ok (.iconst 4, 1) := by decide +kernel
theorem dX5_readsStep_166 : decode cX5_readsStep 166 = .ok (.aload_n 0, 1) := by decide +kernel
theorem dX5_readsStep_167 : decode cX5_readsStep 167 = .ok (.bipush 20, 2) := by decide +kernel
theorem dX5_readsStep_169 : decode cX5_readsStep 169 = .ok (.invokevirtual 140, 3) := by decide +kernel
theorem dX5_readsStep_172 : decode cX5_readsStep 172 = .ok (.invokevirtual 137, 3) := by decide +kernel
theorem dX5_readsStep_175 : decode cX5_readsStep 175 = .ok (.aload_n 0, 1) := by decide +kernel
theorem dX5_readsStep_176 : decode cX5_readsStep 176 = .ok (.aload_n 0, 1) := by decide +kernel
theorem dX5_readsStep_177 : decode cX5_readsStep 177 = .ok (.invokevirtual 115, 3) := by decide +kernel
theorem dX5_readsStep_180 : decode cX5_readsStep 180 = .ok (.bipush 40, 2) := by decide +kernel
theorem dX5_readsStep_182 : decode cX5_readsStep 182 = .ok (.if_icmp .ne 15, 3) := by decide +kernel
theorem dX5_readsStep_185 : decode cX5_readsStep 185 = .ok (.aload_n 0, 1) := by decide +kernel
theorem dX5_readsStep_186 : decode cX5_readsStep 186 = .ok (.getfield 143, 3) := by decide +kernel
theorem dX5_readsStep_189 : decode cX5_readsStep 189 = .ok (.iconst 2, 1) := by decide +kernel
theorem dX5_readsStep_190 : decode cX5_readsStep 190 = .ok (.if_icmp .ge 7, 3) := by decide +kernel
theorem dX5_readsStep_193 : decode cX5_readsStep 193 = .ok (.iconst 1, 1) := by decide +kernel
theorem dX5_readsStep_194 : decode cX5_readsStep 194 = .ok (.goto 4, 3) := by decide +kernel
theorem dX5_readsStep_197 : decode cX5_readsStep 197 = .ok (.iconst 0, 1) := by decide +kernel
theorem dX5_readsStep_198 : decode cX5_readsStep 198 = .ok (.invokevirtual 133, 3) := by decide +kernel
theorem dX5_readsStep_201 : decode cX5_readsStep 201 = .ok (.aload_n 0, 1) := by decide +kernel
theorem dX5_readsStep_202 : decode cX5_readsStep 202 = .ok (.dup, 1) := by decide +kernel
theorem dX5_readsStep_203 : decode cX5_readsStep 203 = .ok (.getfield 143, 3) := by decide +kernel
theorem dX5_readsStep_206 : decode cX5_readsStep 206 = .ok (.iconst 1, 1) := by decide +kernel
theorem dX5_readsStep_207 : decode cX5_readsStep 207 = .ok (.iadd, 1) := by decide +kernel
theorem dX5_readsStep_208 : decode cX5_readsStep 208 = .ok (.putfield 143, 3) := by decide +kernel
theorem dX5_readsStep_211 : decode cX5_readsStep 211 = .ok (.goto 11, 3) := by decide +kernel
theorem dX5_readsStep_214 : decode cX5_readsStep 214 = .ok (.aload_n 0, 1) := by decide +kernel
theorem dX5_readsStep_215 : decode cX5_readsStep 215 = .ok (.aload_n 0, 1) := by decide +kernel
theorem dX5_readsStep_216 : decode cX5_readsStep 216 = .ok (.getfield 112, 3) := by decide +kernel
theorem dX5_readsStep_219 : decode cX5_readsStep 219 = .ok (.invokevirtual 124, 3) := by decide +kernel
theorem dX5_readsStep_222 : decode cX5_readsStep 222 = .ok (.return_, 1) := by decide +kernel
set_option maxRecDepth 20000 in
theorem ggX5_reads_X5_blanks : GoodIn wsX5_reads wsX5_blanks := goodIn_r _ [10, 1, 11, 12, 13, 9, 14, 5, 15, 50, 51, 52, 53, 54, 55, 56, 57, 58, 59, 60, 61, 62, 63, 64, 65, 66, 67, 68, 69, 70, 71] (by decide +kernel) (by decide +kernel)
set_option maxRecDepth 20000 in
theorem gX5_reads_X5_blanks : GoodIn wsX5_reads (wsV RX5 121 RX5 yX5_blanks wsX5_blanks) := goodIn_app (goodIn_of _ (by decide +kernel)) ggX5_reads_X5_blanks
set_option maxRecDepth 20000 in
theorem ggX5_reads_X5_next : GoodIn wsX5_reads wsX5_next := goodIn_r _ [14, 1, 5, 15, 50, 51, 52, 53, 54, 55, 56, 57, 58, 59, 60, 61, 62, 63, 64, 65, 66, 67, 68, 69, 70, 71] (by decide +kernel) (by decide +kernel)
set_option maxRecDepth 20000 in
theorem gX5_reads_X5_next : GoodIn wsX5_reads (wsV RX5 115 RX5 yX5_next wsX5_next) := goodIn_app (goodIn_of _ (by decide +kernel)) ggX5_reads_X5_next
set_option maxRecDepth 20000 in
theorem ggX5_reads_X5_needs : GoodIn wsX5_reads wsX5_needs := goodIn_r _ [19, 2, 1, 6, 7, 8, 9, 10, 11, 12, 13, 14, 5, 15, 20, 21, 22, 23, 50, 51, 52, 53, 54, 55, 56, 57, 58, 59, 60, 61, 62, 63, 64, 65, 66, 67, 68, 69, 70, 71] (by decide +kernel) (by decide +kernel)
set_option maxRecDepth 20000 in
theorem gX5_reads_X5_needs : GoodIn wsX5_reads (wsV RX5 133 RX5 yX5_needs wsX5_needs) := goodIn_app (goodIn_of _ (by decide +kernel)) ggX5_reads_X5_needs
set_option maxRecDepth 20000 in
theorem ggX5_reads_X5_adds : GoodIn wsX5_reads wsX5_adds := goodIn_r _ [27, 28, 3, 29, 50, 51, 52, 53, 54, 55, 56, 57, 58, 59, 60, 61, 62, 63, 64, 65, 66, 67, 68, 69, 70, 71] (by decide +kernel) (by decide +kernel)
set_option maxRecDepth 20000 in
theorem gX5_reads_X5_adds : GoodIn wsX5_reads (wsV RX5 137 RX5 yX5_adds wsX5_adds) := goodIn_app (goodIn_of _ (by decide +kernel)) ggX5_reads_X5_adds
set_option maxRecDepth 20000 in
theorem ggX5_reads_X5_readsStep : GoodIn wsX5_reads wsX5_readsStep := goodIn_r _ [33, 4, 1, 11, 12, 13, 9, 14, 5, 15, 16, 17, 18, 19, 2, 6, 7, 8, 10, 20, 21, 22, 23, 34, 35, 36, 37, 38, 39, 40, 41, 24, 25, 26, 27, 28, 3, 29, 42, 43, 44, 45, 46, 47, 48, 49, 50, 51, 52, 53, 54, 55, 56, 57, 58, 59, 60, 61, 62, 63, 64, 65, 66, 67, 68, 69, 70, 71] (by decide +kernel) (by decide +kernel)
set_option maxRecDepth 20000 in
theorem gX5_reads_X5_readsStep : GoodIn wsX5_reads (wsV RX5 146 RX5 yX5_readsStep wsX5_readsStep) := goodIn_app (goodIn_of _ (by decide +kernel)) ggX5_reads_X5_readsStep
theorem dX5_reads_0 : decode cX5_reads 0 = .ok (.aload_n 0, 1) := by decide +kernel
theorem dX5_reads_1 : decode cX5_reads 1 = .ok (.iconst 0, 1) := by decide +kernel
theorem dX5_reads_2 : decode cX5_reads 2 = .ok (.putfield 112, 3) := by decide +kernel
theorem dX5_reads_5 : decode cX5_reads 5 = .ok (.aload_n 0, 1) := by decide +kernel
theorem dX5_reads_6 : decode cX5_reads 6 = .ok (.iconst (-1), 1) := by decide +kernel
theorem dX5_reads_7 : decode cX5_reads 7 = .ok (.putfield 118, 3) := by decide +kernel
theorem dX5_reads_10 : decode cX5_reads 10 = .ok (.aload_n 0, 1) := by decide +kernel
theorem dX5_reads_11 : decode cX5_reads 11 = .ok (.iconst 0, 1) := by decide +kernel
theorem dX5_reads_12 : decode cX5_reads 12 = .ok (.putfield 130, 3) := by decide +kernel
theorem dX5_reads_15 : decode cX5_reads 15 = .ok (.aload_n 0, 1) := by decide +kernel
theorem dX5_reads_16 : decode cX5_reads 16 = .ok (.iconst 0, 1) := by decide +kernel
theorem dX5_reads_17 : decode cX5_reads 17 = .ok (.putfield 143, 3) := by decide +kernel
theorem dX5_reads_20 : decode cX5_reads 20 = .ok (.aload_n 0, 1) := by decide +kernel
theorem dX5_reads_21 : decode cX5_reads 21 = .ok (.invokevirtual 121, 3) := by decide +kernel
theorem dX5_reads_24 : decode cX5_reads 24 = .ok (.aload_n 0, 1) := by decide +kernel
theorem dX5_reads_25 : decode cX5_reads 25 = .ok (.getfield 118, 3) := by decide +kernel
theorem dX5_reads_28 : decode cX5_reads 28 = .ok (.iconst (-1), 1) := by decide +kernel
theorem dX5_reads_29 : decode cX5_reads 29 = .ok (.if_icmp .ne 86, 3) := by decide +kernel
theorem dX5_reads_32 : decode cX5_reads 32 = .ok (.aload_n 0, 1) := by decide +kernel
theorem dX5_reads_33 : decode cX5_reads 33 = .ok (.getfield 112, 3) := by decide +kernel
theorem dX5_reads_36 : decode cX5_reads 36 = .ok (.aload_n 0, 1) := by decide +kernel
theorem dX5_reads_37 : decode cX5_reads 37 = .ok (.getfield 109, 3) := by decide +kernel
theorem dX5_reads_40 : decode cX5_reads 40 = .ok (.if_icmp .lt 10, 3) := by decide +kernel
theorem dX5_reads_43 : decode cX5_reads 43 = .ok (.aload_n 0, 1) := by decide +kernel
theorem dX5_reads_44 : decode cX5_reads 44 = .ok (.getfield 143, 3) := by decide +kernel
theorem dX5_reads_47 : decode cX5_reads 47 = .ok (.ifCond .le 68, 3) := by decide +kernel
theorem dX5_reads_50 : decode cX5_reads 50 = .ok (.aload_n 0, 1) := by decide +kernel
theorem dX5_reads_51 : decode cX5_reads 51 = .ok (.invokevirtual 115, 3) := by decide +kernel
theorem dX5_reads_54 : decode cX5_reads 54 = .ok (.bipush 41, 2) := by decide +kernel
theorem dX5_reads_56 : decode cX5_reads 56 = .ok (.if_icmp .ne 52, 3) := by decide +kernel
theorem dX5_reads_59 : decode cX5_reads 59 = .ok (.aload_n 0, 1) := by decide +kernel
theorem dX5_reads_60 : decode cX5_reads 60 = .ok (.getfield 143, 3) := by decide +kernel
theorem dX5_reads_63 : decode cX5_reads 63 = .ok (.ifCond .le 45, 3) := by decide +kernel
theorem dX5_reads_66 : decode cX5_reads 66 = .ok (.aload_n 0, 1) := by decide +kernel
theorem dX5_reads_67 : decode cX5_reads 67 = .ok (.iconst 1, 1) := by decide +kernel
theorem dX5_reads_68 : decode cX5_reads 68 = .ok (.invokevirtual 133, 3) := by decide +kernel
theorem dX5_reads_71 : decode cX5_reads 71 = .ok (.aload_n 0, 1) := by decide +kernel
theorem dX5_reads_72 : decode cX5_reads 72 = .ok (.dup, 1) := by decide +kernel
theorem dX5_reads_73 : decode cX5_reads 73 = .ok (.getfield 143, 3) := by decide +kernel
theorem dX5_reads_76 : decode cX5_reads 76 = .ok (.iconst 1, 1) := by decide +kernel
theorem dX5_reads_77 : decode cX5_reads 77 = .ok (.isub, 1) := by decide +kernel
theorem dX5_reads_78 : decode cX5_reads 78 = .ok (.putfield 143, 3) := by decide +kernel
theorem dX5_reads_81 : decode cX5_reads 81 = .ok (.aload_n 0, 1) := by decide +kernel
theorem dX5_reads_82 : decode cX5_reads 82 = .ok (.iconst 5, 1) := by decide +kernel
theorem dX5_reads_83 : decode cX5_reads 83 = .ok (.iconst 0, 1) := by decide +kernel
theorem dX5_reads_84 : decode cX5_reads 84 = .ok (.invokevirtual 137, 3) := by decide +kernel
theorem dX5_reads_87 : decode cX5_reads 87 = .ok (.aload_n 0, 1) := by decide +kernel
theorem dX5_reads_88 : decode cX5_reads 88 = .ok (.aload_n 0, 1) := by decide +kernel
theorem dX5_reads_89 : decode cX5_reads 89 = .ok (.invokevirtual 115, 3) := by decide +kernel
theorem dX5_reads_92 : decode cX5_reads 92 = .ok (.bipush 59, 2) := by decide +kernel
theorem dX5_reads_94 : decode cX5_reads 94 = .ok (.if_icmp .ne 7, 3) := by decide +kernel
theorem dX5_reads_97 : decode cX5_reads 97 = .ok (.iconst 1, 1) := by decide +kernel
theorem dX5_reads_98 : decode cX5_reads 98 = .ok (.goto 4, 3) := by decide +kernel
theorem dX5_reads_101 : decode cX5_reads 101 = .ok (.iconst 0, 1) := by decide +kernel
theorem dX5_reads_102 : decode cX5_reads 102 = .ok (.invokevirtual 133, 3) := by decide +kernel
theorem dX5_reads_105 : decode cX5_reads 105 = .ok (.goto (-81), 3) := by decide +kernel
theorem dX5_reads_108 : decode cX5_reads 108 = .ok (.aload_n 0, 1) := by decide +kernel
theorem dX5_reads_109 : decode cX5_reads 109 = .ok (.invokevirtual 146, 3) := by decide +kernel
theorem dX5_reads_112 : decode cX5_reads 112 = .ok (.goto (-88), 3) := by decide +kernel
theorem dX5_reads_115 : decode cX5_reads 115 = .ok (.return_, 1) := by decide +kernel
set_option maxRecDepth 20000 in
theorem ggX5_fault_X5_reads : GoodIn wsX5_fault wsX5_reads := goodIn_r _ [6, 7, 1, 8, 9, 10, 11, 12, 13, 5, 14, 15, 16, 17, 18, 19, 20, 21, 22, 23, 24, 25, 26, 27, 28, 29, 30, 31, 32, 33, 34, 35, 36, 37, 38, 39, 40, 41, 42, 43, 44, 45, 46, 47, 48, 49, 50, 51, 52, 53, 54, 55, 56, 57, 58, 59, 60, 61, 62, 63, 64, 65, 66, 67, 68, 69, 70, 71, 72, 73, 74, 75] (by decide +kernel) (by decide +kernel)
set_option maxRecDepth 20000 in
theorem gX5_fault_X5_reads : GoodIn wsX5_fault (wsV RX5 149 RX5 yX5_reads wsX5_reads) := goodIn_app (goodIn_of _ (by decide +kernel)) ggX5_fault_X5_reads
theorem dX5_fault_0 : decode cX5_fault 0 = .ok (.aload_n 0, 1) := by decide +kernel
theorem dX5_fault_1 : decode cX5_fault 1 = .ok (.invokevirtual 149, 3) := by decide +kernel
theorem dX5_fault_4 : decode cX5_fault 4 = .ok (.aload_n 0, 1) := by decide +kernel
theorem dX5_fault_5 : decode cX5_fault 5 = .ok (.getfield 118, 3) := by decide +kernel
theorem dX5_fault_8 : decode cX5_fault 8 = .ok (.ireturn, 1) := by decide +kernel
set_option maxRecDepth 20000 in
theorem ggX5_does_X5_turns : GoodIn wsX5_does wsX5_turns := goodIn_r _ [8, 3, 9, 10, 11, 7, 12, 13, 14, 15, 16, 17, 18, 19, 20, 50, 51, 52, 53, 54, 55, 56, 57, 58, 59, 60, 61, 62, 63, 64, 65, 66, 67, 68, 69, 70, 71] (by decide +kernel) (by decide +kernel)
set_option maxRecDepth 20000 in
theorem gX5_does_X5_turns : GoodIn wsX5_does (wsV RX5 92 RX5 yX5_turns wsX5_turns) := goodIn_app (goodIn_of _ (by decide +kernel)) ggX5_does_X5_turns
set_option maxRecDepth 20000 in
theorem ggX5_does_X5_taps : GoodIn wsX5_does wsX5_taps := goodIn_r _ [24, 3, 9, 10, 11, 7, 12, 17, 18, 19, 20, 13, 14, 15, 16, 50, 51, 52, 53, 54, 55, 56, 57, 58, 59, 60, 61, 62, 63, 64, 65, 66, 67, 68, 69, 70, 71] (by decide +kernel) (by decide +kernel)
set_option maxRecDepth 20000 in
theorem gX5_does_X5_taps : GoodIn wsX5_does (wsV RX5 95 RX5 yX5_taps wsX5_taps) := goodIn_app (goodIn_of _ (by decide +kernel)) ggX5_does_X5_taps
set_option maxRecDepth 20000 in
theorem ggX5_does_X5_runsAny : GoodIn wsX5_does wsX5_runsAny := goodIn_r _ [28, 3, 29, 30, 31, 7, 32, 9, 10, 11, 12, 50, 51, 52, 53, 54, 55, 56, 57, 58, 59, 60, 61, 62, 63, 64, 65, 66, 67, 68, 69, 70, 71] (by decide +kernel) (by decide +kernel)
set_option maxRecDepth 20000 in
theorem gX5_does_X5_runsAny : GoodIn wsX5_does (wsV RX5 102 RX5 yX5_runsAny wsX5_runsAny) := goodIn_app (goodIn_of _ (by decide +kernel)) ggX5_does_X5_runsAny
set_option maxRecDepth 20000 in
theorem ggX5_does_X5_untilEvent : GoodIn wsX5_does wsX5_untilEvent := goodIn_r _ [36, 37, 3, 38, 39, 40, 7, 41, 29, 30, 31, 32, 9, 10, 11, 12, 13, 14, 15, 16, 42, 43, 44, 45, 50, 51, 52, 53, 54, 55, 56, 57, 58, 59, 60, 61, 62, 63, 64, 65, 66, 67, 68, 69, 70, 71] (by decide +kernel) (by decide +kernel)
set_option maxRecDepth 20000 in
theorem gX5_does_X5_untilEvent : GoodIn wsX5_does (wsV RX5 106 RX5 yX5_untilEvent wsX5_untilEvent) := goodIn_app (goodIn_of _ (by decide +kernel)) ggX5_does_X5_untilEvent
set_option maxRecDepth 20000 in
theorem ggX5_does_X5_passes : GoodIn wsX5_does wsX5_passes := goodIn_r _ [49, 38, 39, 40, 7, 41, 3, 29, 30, 31, 32, 9, 10, 11, 12, 13, 14, 15, 16, 42, 43, 44, 45, 50, 51, 52, 53, 54, 55, 56, 57, 58, 59, 60, 61, 62, 63, 64, 65, 66, 67, 68, 69, 70, 71] (by decide +kernel) (by decide +kernel)
set_option maxRecDepth 20000 in
theorem gX5_does_X5_passes : GoodIn wsX5_does (wsV RX5 99 RX5 yX5_passes wsX5_passes) := goodIn_app (goodIn_of _ (by decide +kernel)) ggX5_does_X5_passes
theorem dX5_does_0 : decode cX5_does 0 = .ok (.aload_n 0, 1) := by decide +kernel
theorem dX5_does_1 : decode cX5_does 1 = .ok (.getfield 22, 3) := by decide +kernel
theorem dX5_does_4 : decode cX5_does 4 = .ok (.iload_n 1, 1) := by decide +kernel
theorem dX5_does_5 : decode cX5_does 5 = .ok (.iaload, 1) := by decide +kernel
theorem dX5_does_6 : decode cX5_does 6 = .ok (.iconst 2, 1) := by decide +kernel
theorem dX5_does_7 : decode cX5_does 7 = .ok (.if_icmp .ge 38, 3) := by decide +kernel
theorem dX5_does_10 : decode cX5_does 10 = .ok (.aload_n 0, 1) := by decide +kernel
theorem dX5_does_11 : decode cX5_does 11 = .ok (.getfield 22, 3) := by decide +kernel
theorem dX5_does_14 : decode cX5_does 14 = .ok (.iload_n 1, 1) := by decide +kernel
theorem dX5_does_15 : decode cX5_does 15 = .ok (.iaload, 1) := by decide +kernel
theorem dX5_does_16 : decode cX5_does 16 = .ok (.ifCond .ne 16, 3) := by decide +kernel
theorem dX5_does_19 : decode cX5_does 19 = .ok (.aload_n 0, 1) := by decide +kernel
theorem dX5_does_20 : decode cX5_does 20 = .ok (.aload_n 0, 1) := by decide +kernel
theorem dX5_does_21 : decode cX5_does 21 = .ok (.getfield 25, 3) := by decide +kernel
theorem dX5_does_24 : decode cX5_does 24 = .ok (.iload_n 1, 1) := by decide +kernel
theorem dX5_does_25 : decode cX5_does 25 = .ok (.iaload, 1) := by decide +kernel
theorem dX5_does_26 : decode cX5_does 26 = .ok (.invokevirtual 92, 3) := by decide +kernel
theorem dX5_does_29 : decode cX5_does 29 = .ok (.goto 14, 3) := by decide +kernel
theorem dX5_does_32 : decode cX5_does 32 = .ok (.aload_n 0, 1) := by decide +kernel
theorem dX5_does_33 : decode cX5_does 33 = .ok (.aload_n 0, 1) := by decide +kernel
theorem dX5_does_34 : decode cX5_does 34 = .ok (.getfield 25, 3) := by decide +kernel
theorem dX5_does_37 : decode cX5_does 37 = .ok (.iload_n 1, 1) := by decide +kernel
theorem dX5_does_38 : decode cX5_does 38 = .ok (.iaload, 1) := by decide +kernel
theorem dX5_does_39 : decode cX5_does 39 = .ok (.invokevirtual 95, 3) := by decide +kernel
theorem dX5_does_42 : decode cX5_does 42 = .ok (.pop, 1) := by decide +kernel
theorem dX5_does_43 : decode cX5_does 43 = .ok (.iconst 1, 1) := by decide +kernel
theorem dX5_does_44 : decode cX5_does 44 = .ok (.ireturn, 1) := by decide +kernel
theorem dX5_does_45 : decode cX5_does 45 = .ok (.aload_n 0, 1) := by decide +kernel
theorem dX5_does_46 : decode cX5_does 46 = .ok (.getfield 22, 3) := by decide +kernel
theorem dX5_does_49 : decode cX5_does 49 = .ok (.iload_n 1, 1) := by decide +kernel
theorem dX5_does_50 : decode cX5_does 50 = .ok (.iaload, 1) := by decide +kernel
theorem dX5_does_51 : decode cX5_does 51 = .ok (.iconst 2, 1) := by decide +kernel
theorem dX5_does_52 : decode cX5_does 52 = .ok (.if_icmp .ne 12, 3) := by decide +kernel
theorem dX5_does_55 : decode cX5_does 55 = .ok (.aload_n 0, 1) := by decide +kernel
theorem dX5_does_56 : decode cX5_does 56 = .ok (.getfield 25, 3) := by decide +kernel
theorem dX5_does_59 : decode cX5_does 59 = .ok (.iload_n 1, 1) := by decide +kernel
theorem dX5_does_60 : decode cX5_does 60 = .ok (.iaload, 1) := by decide +kernel
theorem dX5_does_61 : decode cX5_does 61 = .ok (.goto 18, 3) := by decide +kernel
theorem dX5_does_64 : decode cX5_does 64 = .ok (.aload_n 0, 1) := by decide +kernel
theorem dX5_does_65 : decode cX5_does 65 = .ok (.invokevirtual 102, 3) := by decide +kernel
theorem dX5_does_68 : decode cX5_does 68 = .ok (.ifCond .eq 10, 3) := by decide +kernel
theorem dX5_does_71 : decode cX5_does 71 = .ok (.aload_n 0, 1) := by decide +kernel
theorem dX5_does_72 : decode cX5_does 72 = .ok (.invokevirtual 106, 3) := by decide +kernel
theorem dX5_does_75 : decode cX5_does 75 = .ok (.goto 4, 3) := by decide +kernel
theorem dX5_does_78 : decode cX5_does 78 = .ok (.iconst 0, 1) := by decide +kernel
theorem dX5_does_79 : decode cX5_does 79 = .ok (.istore_n 2, 1) := by decide +kernel
theorem dX5_does_80 : decode cX5_does 80 = .ok (.aload_n 0, 1) := by decide +kernel
theorem dX5_does_81 : decode cX5_does 81 = .ok (.getfield 7, 3) := by decide +kernel
theorem dX5_does_84 : decode cX5_does 84 = .ok (.bipush 22, 2) := by decide +kernel
theorem dX5_does_86 : decode cX5_does 86 = .ok (.iaload, 1) := by decide +kernel
theorem dX5_does_87 : decode cX5_does 87 = .ok (.iload_n 2, 1) := by decide +kernel
theorem dX5_does_88 : decode cX5_does 88 = .ok (.iadd, 1) := by decide +kernel
theorem dX5_does_89 : decode cX5_does 89 = .ok (.sipush 9999, 3) := by decide +kernel
theorem dX5_does_92 : decode cX5_does 92 = .ok (.if_icmp .le 5, 3) := by decide +kernel
theorem dX5_does_95 : decode cX5_does 95 = .ok (.iconst 0, 1) := by decide +kernel
theorem dX5_does_96 : decode cX5_does 96 = .ok (.ireturn, 1) := by decide +kernel
theorem dX5_does_97 : decode cX5_does 97 = .ok (.aload_n 0, 1) := by decide +kernel
theorem dX5_does_98 : decode cX5_does 98 = .ok (.iload_n 2, 1) := by decide +kernel
theorem dX5_does_99 : decode cX5_does 99 = .ok (.invokevirtual 99, 3) := by decide +kernel
theorem dX5_does_102 : decode cX5_does 102 = .ok (.ifCond .lt 7, 3) := by decide +kernel
theorem dX5_does_105 : decode cX5_does 105 = .ok (.iconst 1, 1) := by decide +kernel
theorem dX5_does_106 : decode cX5_does 106 = .ok (.goto 4, 3) := by decide +kernel
theorem dX5_does_109 : decode cX5_does 109 = .ok (.iconst 0, 1) := by decide +kernel
theorem dX5_does_110 : decode cX5_does 110 = .ok (.ireturn, 1) := by decide +kernel
set_option maxRecDepth 20000 in
theorem ggX5_runsScript_X5_does : GoodIn wsX5_runsScript wsX5_does := goodIn_r _ [10, 2, 5, 11, 12, 13, 14, 9, 15, 16, 17, 18, 19, 20, 21, 22, 23, 24, 25, 26, 27, 28, 29, 30, 31, 32, 33, 34, 35, 36, 37, 38, 39, 40, 41, 42, 43, 44, 45, 46, 47, 48, 49, 50, 51, 52, 53, 54, 55, 56, 57, 58, 59, 60, 61, 62, 63, 64, 65, 66, 67, 68, 69, 70, 71, 72, 73, 74, 75, 76, 77, 78] (by decide +kernel) (by decide +kernel)
set_option maxRecDepth 20000 in
theorem gX5_runsScript_X5_does : GoodIn wsX5_runsScript (wsV RX5 152 RX5 yX5_does wsX5_does) := goodIn_app (goodIn_of _ (by decide +kernel)) ggX5_runsScript_X5_does
theorem dX5_runsScript_0 : decode cX5_runsScript 0 = .ok (.iconst 0, 1) := by decide +kernel
theorem dX5_runsScript_1 : decode cX5_runsScript 1 = .ok (.istore_n 1, 1) := by decide +kernel
theorem dX5_runsScript_2 : decode cX5_runsScript 2 = .ok (.iconst 0, 1) := by decide +kernel
theorem dX5_runsScript_3 : decode cX5_runsScript 3 = .ok (.istore_n 2, 1) := by decide +kernel
theorem dX5_runsScript_4 : decode cX5_runsScript 4 = .ok (.iconst 0, 1) := by decide +kernel
theorem dX5_runsScript_5 : decode cX5_runsScript 5 = .ok (.istore_n 3, 1) := by decide +kernel
theorem dX5_runsScript_6 : decode cX5_runsScript 6 = .ok (.iload_n 3, 1) := by decide +kernel
theorem dX5_runsScript_7 : decode cX5_runsScript 7 = .ok (.aload_n 0, 1) := by decide +kernel
theorem dX5_runsScript_8 : decode cX5_runsScript 8 = .ok (.getfield 130, 3) := by decide +kernel
theorem dX5_runsScript_11 : decode cX5_runsScript 11 = .ok (.if_icmp .ge 131, 3) := by decide +kernel
theorem dX5_runsScript_14 : decode cX5_runsScript 14 = .ok (.aload_n 0, 1) := by decide +kernel
theorem dX5_runsScript_15 : decode cX5_runsScript 15 = .ok (.getfield 22, 3) := by decide +kernel
theorem dX5_runsScript_18 : decode cX5_runsScript 18 = .ok (.iload_n 3, 1) := by decide +kernel
theorem dX5_runsScript_19 : decode cX5_runsScript 19 = .ok (.iaload, 1) := by decide +kernel
theorem dX5_runsScript_20 : decode cX5_runsScript 20 = .ok (.iconst 4, 1) := by decide +kernel
theorem dX5_runsScript_21 : decode cX5_runsScript 21 = .ok (.if_icmp .ne 28, 3) := by decide +kernel
theorem dX5_runsScript_24 : decode cX5_runsScript 24 = .ok (.aload_n 0, 1) := by decide +kernel
theorem dX5_runsScript_25 : decode cX5_runsScript 25 = .ok (.getfield 28, 3) := by decide +kernel
theorem dX5_runsScript_28 : decode cX5_runsScript 28 = .ok (.iload_n 2, 1) := by decide +kernel
theorem dX5_runsScript_29 : decode cX5_runsScript 29 = .ok (.iload_n 3, 1) := by decide +kernel
theorem dX5_runsScript_30 : decode cX5_runsScript 30 = .ok (.iastore, 1) := by decide +kernel
theorem dX5_runsScript_31 : decode cX5_runsScript 31 = .ok (.aload_n 0, 1) := by decide +kernel
theorem dX5_runsScript_32 : decode cX5_runsScript 32 = .ok (.getfield 31, 3) := by decide +kernel
theorem dX5_runsScript_35 : decode cX5_runsScript 35 = .ok (.iload_n 2, 1) := by decide +kernel
theorem dX5_runsScript_36 : decode cX5_runsScript 36 = .ok (.aload_n 0, 1) := by decide +kernel
theorem dX5_runsScript_37 : decode cX5_runsScript 37 = .ok (.getfield 25, 3) := by decide +kernel
theorem dX5_runsScript_40 : decode cX5_runsScript 40 = .ok (.iload_n 3, 1) := by decide +kernel
theorem dX5_runsScript_41 : decode cX5_runsScript 41 = .ok (.iaload, 1) := by decide +kernel
theorem dX5_runsScript_42 : decode cX5_runsScript 42 = .ok (.iastore, 1) := by decide +kernel
theorem dX5_runsScript_43 : decode cX5_runsScript 43 = .ok (.iinc 2 1, 3) := by decide +kernel
theorem dX5_runsScript_46 : decode cX5_runsScript 46 = .ok (.goto 90, 3) := by decide +kernel
theorem dX5_runsScript_49 : decode cX5_runsScript 49 = .ok (.aload_n 0, 1) := by decide +kernel
theorem dX5_runsScript_50 : decode cX5_runsScript 50 = .ok (.getfield 22, 3) := by decide +kernel
theorem dX5_runsScript_53 : decode cX5_runsScript 53 = .ok (.iload_n 3, 1) := by decide +kernel
theorem dX5_runsScript_54 : decode cX5_runsScript 54 = .ok (.iaload, 1) := by decide +kernel
theorem dX5_runsScript_55 : decode cX5_runsScript 55 = .ok (.iconst 5, 1) := by decide +kernel
theorem dX5_runsScript_56 : decode cX5_runsScript 56 = .ok (.if_icmp .ne 61, 3) := by decide +kernel
theorem dX5_runsScript_59 : decode cX5_runsScript 59 = .ok (.aload_n 0, 1) := by decide +kernel
theorem dX5_runsScript_60 : decode cX5_runsScript 60 = .ok (.getfield 31, 3) := by decide +kernel
theorem dX5_runsScript_63 : decode cX5_runsScript 63 = .ok (.iload_n 2, 1) := by decide +kernel
theorem dX5_runsScript_64 : decode cX5_runsScript 64 = .ok (.iconst 1, 1) := by decide +kernel
theorem dX5_runsScript_65 : decode cX5_runsScript 65 = .ok (.isub, 1) := by decide +kernel
theorem dX5_runsScript_66 : decode cX5_runsScript 66 = .ok (.dup2, 1) := by decide +kernel
theorem dX5_runsScript_67 : decode cX5_runsScript 67 = .ok (.iaload, 1) := by decide +kernel
theorem dX5_runsScript_68 : decode cX5_runsScript 68 = .ok (.iconst 1, 1) := by decide +kernel
theorem dX5_runsScript_69 : decode cX5_runsScript 69 = .ok (.isub, 1) := by decide +kernel
theorem dX5_runsScript_70 : decode cX5_runsScript 70 = .ok (.iastore, 1) := by decide +kernel
theorem dX5_runsScript_71 : decode cX5_runsScript 71 = .ok (.aload_n 0, 1) := by decide +kernel
theorem dX5_runsScript_72 : decode cX5_runsScript 72 = .ok (.getfield 31, 3) := by decide +kernel
