set_option maxRecDepth 20000 in
theorem ggX2_findTurned_X0_glasses : GoodIn wsX2_findTurned wsX0_glasses := goodIn_r _ [12, 13, 33] (by decide +kernel) (by decide +kernel)
set_option maxRecDepth 20000 in
theorem gX2_findTurned_X0_glasses : GoodIn wsX2_findTurned (wsV RX2 108 RX0 yX0_glasses wsX0_glasses) := goodIn_app (goodIn_of _ (by decide +kernel)) ggX2_findTurned_X0_glasses
set_option maxRecDepth 20000 in
theorem ggX2_findTurned_X2_unitsOf : GoodIn wsX2_findTurned wsX2_unitsOf := goodIn_r _ [17] (by decide +kernel) (by decide +kernel)
set_option maxRecDepth 20000 in
theorem gX2_findTurned_X2_unitsOf : GoodIn wsX2_findTurned (va_wsS RX2 112 yX2_unitsOf wsX2_unitsOf) := goodIn_app (goodIn_of _ (by decide +kernel)) ggX2_findTurned_X2_unitsOf
set_option maxRecDepth 20000 in
theorem ggX2_findTurned_X0_property : GoodIn wsX2_findTurned wsX0_property := goodIn_r _ [21, 13, 33] (by decide +kernel) (by decide +kernel)
set_option maxRecDepth 20000 in
theorem gX2_findTurned_X0_property : GoodIn wsX2_findTurned (wsV RX2 116 RX0 yX0_property wsX0_property) := goodIn_app (goodIn_of _ (by decide +kernel)) ggX2_findTurned_X0_property
theorem dX2_findTurned_0 : decode cX2_findTurned 0 = .ok (.aload_n 0, 1) := by decide +kernel
theorem dX2_findTurned_1 : decode cX2_findTurned 1 = .ok (.getfield 17, 3) := by decide +kernel
theorem dX2_findTurned_4 : decode cX2_findTurned 4 = .ok (.iconst 0, 1) := by decide +kernel
theorem dX2_findTurned_5 : decode cX2_findTurned 5 = .ok (.invokestatic 99, 3) := by decide +kernel
theorem dX2_findTurned_8 : decode cX2_findTurned 8 = .ok (.aload_n 0, 1) := by decide +kernel
theorem dX2_findTurned_9 : decode cX2_findTurned 9 = .ok (.iconst 0, 1) := by decide +kernel
theorem dX2_findTurned_10 : decode cX2_findTurned 10 = .ok (.putfield 105, 3) := by decide +kernel
theorem dX2_findTurned_13 : decode cX2_findTurned 13 = .ok (.iconst 0, 1) := by decide +kernel
theorem dX2_findTurned_14 : decode cX2_findTurned 14 = .ok (.istore_n 2, 1) := by decide +kernel
theorem dX2_findTurned_15 : decode cX2_findTurned 15 = .ok (.iload_n 2, 1) := by decide +kernel
theorem dX2_findTurned_16 : decode cX2_findTurned 16 = .ok (.aload_n 1, 1) := by decide +kernel
theorem dX2_findTurned_17 : decode cX2_findTurned 17 = .ok (.invokevirtual 108, 3) := by decide +kernel
theorem dX2_findTurned_20 : decode cX2_findTurned 20 = .ok (.if_icmp .ge 78, 3) := by decide +kernel
theorem dX2_findTurned_23 : decode cX2_findTurned 23 = .ok (.aload_n 0, 1) := by decide +kernel
theorem dX2_findTurned_24 : decode cX2_findTurned 24 = .ok (.getfield 38, 3) := by decide +kernel
theorem dX2_findTurned_27 : decode cX2_findTurned 27 = .ok (.iload_n 2, 1) := by decide +kernel
theorem dX2_findTurned_28 : decode cX2_findTurned 28 = .ok (.invokestatic 112, 3) := by decide +kernel
theorem dX2_findTurned_31 : decode cX2_findTurned 31 = .ok (.ifCond .le 61, 3) := by decide +kernel
theorem dX2_findTurned_34 : decode cX2_findTurned 34 = .ok (.iconst 1, 1) := by decide +kernel
theorem dX2_findTurned_35 : decode cX2_findTurned 35 = .ok (.aload_n 1, 1) := by decide +kernel
theorem dX2_findTurned_36 : decode cX2_findTurned 36 = .ok (.iload_n 2, 1) := by decide +kernel
theorem dX2_findTurned_37 : decode cX2_findTurned 37 = .ok (.iconst 5, 1) := by decide +kernel
theorem dX2_findTurned_38 : decode cX2_findTurned 38 = .ok (.invokevirtual 116, 3) := by decide +kernel
theorem dX2_findTurned_41 : decode cX2_findTurned 41 = .ok (.ishl, 1) := by decide +kernel
theorem dX2_findTurned_42 : decode cX2_findTurned 42 = .ok (.istore_n 3, 1) := by decide +kernel
theorem dX2_findTurned_43 : decode cX2_findTurned 43 = .ok (.aload_n 0, 1) := by decide +kernel
theorem dX2_findTurned_44 : decode cX2_findTurned 44 = .ok (.dup, 1) := by decide +kernel
theorem dX2_findTurned_45 : decode cX2_findTurned 45 = .ok (.getfield 105, 3) := by decide +kernel
theorem dX2_findTurned_48 : decode cX2_findTurned 48 = .ok (.iload_n 3, 1) := by decide +kernel
theorem dX2_findTurned_49 : decode cX2_findTurned 49 = .ok (.ior, 1) := by decide +kernel
theorem dX2_findTurned_50 : decode cX2_findTurned 50 = .ok (.putfield 105, 3) := by decide +kernel
theorem dX2_findTurned_53 : decode cX2_findTurned 53 = .ok (.iconst 0, 1) := by decide +kernel
theorem dX2_findTurned_54 : decode cX2_findTurned 54 = .ok (.istore 4, 2) := by decide +kernel
theorem dX2_findTurned_56 : decode cX2_findTurned 56 = .ok (.iload 4, 2) := by decide +kernel
theorem dX2_findTurned_58 : decode cX2_findTurned 58 = .ok (.bipush 8, 2) := by decide +kernel
theorem dX2_findTurned_60 : decode cX2_findTurned 60 = .ok (.if_icmp .ge 32, 3) := by decide +kernel
theorem dX2_findTurned_63 : decode cX2_findTurned 63 = .ok (.iload 4, 2) := by decide +kernel
theorem dX2_findTurned_65 : decode cX2_findTurned 65 = .ok (.iload_n 3, 1) := by decide +kernel
theorem dX2_findTurned_66 : decode cX2_findTurned 66 = .ok (.iand, 1) := by decide +kernel
theorem dX2_findTurned_67 : decode cX2_findTurned 67 = .ok (.ifCond .eq 19, 3) := by decide +kernel
theorem dX2_findTurned_70 : decode cX2_findTurned 70 = .ok (.aload_n 0, 1) := by decide +kernel
theorem dX2_findTurned_71 : decode cX2_findTurned 71 = .ok (.getfield 17, 3) := by decide +kernel
theorem dX2_findTurned_74 : decode cX2_findTurned 74 = .ok (.iload 4, 2) := by decide +kernel
theorem dX2_findTurned_76 : decode cX2_findTurned 76 = .ok (.dup2, 1) := by decide +kernel
theorem dX2_findTurned_77 : decode cX2_findTurned 77 = .ok (.iaload, 1) := by decide +kernel
theorem dX2_findTurned_78 : decode cX2_findTurned 78 = .ok (.bipush 15, 2) := by decide +kernel
theorem dX2_findTurned_80 : decode cX2_findTurned 80 = .ok (.iconst 4, 1) := by decide +kernel
theorem dX2_findTurned_81 : decode cX2_findTurned 81 = .ok (.iload_n 2, 1) := by decide +kernel
theorem dX2_findTurned_82 : decode cX2_findTurned 82 = .ok (.imul, 1) := by decide +kernel
theorem dX2_findTurned_83 : decode cX2_findTurned 83 = .ok (.ishl, 1) := by decide +kernel
theorem dX2_findTurned_84 : decode cX2_findTurned 84 = .ok (.ior, 1) := by decide +kernel
theorem dX2_findTurned_85 : decode cX2_findTurned 85 = .ok (.iastore, 1) := by decide +kernel
theorem dX2_findTurned_86 : decode cX2_findTurned 86 = .ok (.iinc 4 1, 3) := by decide +kernel
theorem dX2_findTurned_89 : decode cX2_findTurned 89 = .ok (.goto (-33), 3) := by decide +kernel
theorem dX2_findTurned_92 : decode cX2_findTurned 92 = .ok (.iinc 2 1, 3) := by decide +kernel
theorem dX2_findTurned_95 : decode cX2_findTurned 95 = .ok (.goto (-80), 3) := by decide +kernel
theorem dX2_findTurned_98 : decode cX2_findTurned 98 = .ok (.return_, 1) := by decide +kernel
set_option maxRecDepth 20000 in
theorem ggX2_numberMoments_X2_isMoment : GoodIn wsX2_numberMoments wsX2_isMoment := goodIn_r _ [9, 2, 10, 11, 8, 12, 13, 14, 15, 16, 17, 18, 19, 20, 21, 22, 23] (by decide +kernel) (by decide +kernel)
set_option maxRecDepth 20000 in
theorem gX2_numberMoments_X2_isMoment : GoodIn wsX2_numberMoments (wsV RX2 119 RX2 yX2_isMoment wsX2_isMoment) := goodIn_app (goodIn_of _ (by decide +kernel)) ggX2_numberMoments_X2_isMoment
theorem dX2_numberMoments_0 : decode cX2_numberMoments 0 = .ok (.aload_n 0, 1) := by decide +kernel
theorem dX2_numberMoments_1 : decode cX2_numberMoments 1 = .ok (.iconst 0, 1) := by decide +kernel
theorem dX2_numberMoments_2 : decode cX2_numberMoments 2 = .ok (.putfield 48, 3) := by decide +kernel
theorem dX2_numberMoments_5 : decode cX2_numberMoments 5 = .ok (.iconst 0, 1) := by decide +kernel
theorem dX2_numberMoments_6 : decode cX2_numberMoments 6 = .ok (.istore_n 1, 1) := by decide +kernel
theorem dX2_numberMoments_7 : decode cX2_numberMoments 7 = .ok (.iload_n 1, 1) := by decide +kernel
theorem dX2_numberMoments_8 : decode cX2_numberMoments 8 = .ok (.aload_n 0, 1) := by decide +kernel
theorem dX2_numberMoments_9 : decode cX2_numberMoments 9 = .ok (.getfield 38, 3) := by decide +kernel
theorem dX2_numberMoments_12 : decode cX2_numberMoments 12 = .ok (.if_icmp .gt 57, 3) := by decide +kernel
theorem dX2_numberMoments_15 : decode cX2_numberMoments 15 = .ok (.aload_n 0, 1) := by decide +kernel
theorem dX2_numberMoments_16 : decode cX2_numberMoments 16 = .ok (.iload_n 1, 1) := by decide +kernel
theorem dX2_numberMoments_17 : decode cX2_numberMoments 17 = .ok (.invokevirtual 119, 3) := by decide +kernel
theorem dX2_numberMoments_20 : decode cX2_numberMoments 20 = .ok (.ifCond .eq 43, 3) := by decide +kernel
theorem dX2_numberMoments_23 : decode cX2_numberMoments 23 = .ok (.aload_n 0, 1) := by decide +kernel
theorem dX2_numberMoments_24 : decode cX2_numberMoments 24 = .ok (.getfield 48, 3) := by decide +kernel
theorem dX2_numberMoments_27 : decode cX2_numberMoments 27 = .ok (.sipush 469, 3) := by decide +kernel
theorem dX2_numberMoments_30 : decode cX2_numberMoments 30 = .ok (.if_icmp .ge 33, 3) := by decide +kernel
theorem dX2_numberMoments_33 : decode cX2_numberMoments 33 = .ok (.aload_n 0, 1) := by decide +kernel
theorem dX2_numberMoments_34 : decode cX2_numberMoments 34 = .ok (.getfield 21, 3) := by decide +kernel
theorem dX2_numberMoments_37 : decode cX2_numberMoments 37 = .ok (.aload_n 0, 1) := by decide +kernel
theorem dX2_numberMoments_38 : decode cX2_numberMoments 38 = .ok (.getfield 48, 3) := by decide +kernel
theorem dX2_numberMoments_41 : decode cX2_numberMoments 41 = .ok (.iload_n 1, 1) := by decide +kernel
theorem dX2_numberMoments_42 : decode cX2_numberMoments 42 = .ok (.iastore, 1) := by decide +kernel
theorem dX2_numberMoments_43 : decode cX2_numberMoments 43 = .ok (.aload_n 0, 1) := by decide +kernel
theorem dX2_numberMoments_44 : decode cX2_numberMoments 44 = .ok (.getfield 24, 3) := by decide +kernel
theorem dX2_numberMoments_47 : decode cX2_numberMoments 47 = .ok (.iload_n 1, 1) := by decide +kernel
theorem dX2_numberMoments_48 : decode cX2_numberMoments 48 = .ok (.aload_n 0, 1) := by decide +kernel
theorem dX2_numberMoments_49 : decode cX2_numberMoments 49 = .ok (.getfield 48, 3) := by decide +kernel
theorem dX2_numberMoments_52 : decode cX2_numberMoments 52 = .ok (.iastore, 1) := by decide +kernel
theorem dX2_numberMoments_53 : decode cX2_numberMoments 53 = .ok (.aload_n 0, 1) := by decide +kernel
theorem dX2_numberMoments_54 : decode cX2_numberMoments 54 = .ok (.dup, 1) := by decide +kernel
theorem dX2_numberMoments_55 : decode cX2_numberMoments 55 = .ok (.getfield 48, 3) := by decide +kernel
theorem dX2_numberMoments_58 : decode cX2_numberMoments 58 = .ok (.iconst 1, 1) := by decide +kernel
theorem dX2_numberMoments_59 : decode cX2_numberMoments 59 = .ok (.iadd, 1) := by decide +kernel
theorem dX2_numberMoments_60 : decode cX2_numberMoments 60 = .ok (.putfield 48, 3) := by decide +kernel
theorem dX2_numberMoments_63 : decode cX2_numberMoments 63 = .ok (.iinc 1 1, 3) := by decide +kernel
theorem dX2_numberMoments_66 : decode cX2_numberMoments 66 = .ok (.goto (-59), 3) := by decide +kernel
theorem dX2_numberMoments_69 : decode cX2_numberMoments 69 = .ok (.return_, 1) := by decide +kernel
set_option maxRecDepth 20000 in
theorem ggX2_isMoment_X2_unitsOf : GoodIn wsX2_isMoment wsX2_unitsOf := goodIn_r _ [5] (by decide +kernel) (by decide +kernel)
set_option maxRecDepth 20000 in
theorem gX2_isMoment_X2_unitsOf : GoodIn wsX2_isMoment (va_wsS RX2 112 yX2_unitsOf wsX2_unitsOf) := goodIn_app (goodIn_of _ (by decide +kernel)) ggX2_isMoment_X2_unitsOf
theorem dX2_isMoment_0 : decode cX2_isMoment 0 = .ok (.iconst 0, 1) := by decide +kernel
theorem dX2_isMoment_1 : decode cX2_isMoment 1 = .ok (.istore_n 2, 1) := by decide +kernel
theorem dX2_isMoment_2 : decode cX2_isMoment 2 = .ok (.iconst 0, 1) := by decide +kernel
theorem dX2_isMoment_3 : decode cX2_isMoment 3 = .ok (.istore_n 3, 1) := by decide +kernel
theorem dX2_isMoment_4 : decode cX2_isMoment 4 = .ok (.iload_n 3, 1) := by decide +kernel
theorem dX2_isMoment_5 : decode cX2_isMoment 5 = .ok (.iconst 3, 1) := by decide +kernel
theorem dX2_isMoment_6 : decode cX2_isMoment 6 = .ok (.if_icmp .ge 53, 3) := by decide +kernel
theorem dX2_isMoment_9 : decode cX2_isMoment 9 = .ok (.iload_n 1, 1) := by decide +kernel
theorem dX2_isMoment_10 : decode cX2_isMoment 10 = .ok (.iload_n 3, 1) := by decide +kernel
theorem dX2_isMoment_11 : decode cX2_isMoment 11 = .ok (.invokestatic 112, 3) := by decide +kernel
theorem dX2_isMoment_14 : decode cX2_isMoment 14 = .ok (.istore 4, 2) := by decide +kernel
theorem dX2_isMoment_16 : decode cX2_isMoment 16 = .ok (.aload_n 0, 1) := by decide +kernel
theorem dX2_isMoment_17 : decode cX2_isMoment 17 = .ok (.getfield 38, 3) := by decide +kernel
theorem dX2_isMoment_20 : decode cX2_isMoment 20 = .ok (.iload_n 3, 1) := by decide +kernel
theorem dX2_isMoment_21 : decode cX2_isMoment 21 = .ok (.invokestatic 112, 3) := by decide +kernel
theorem dX2_isMoment_24 : decode cX2_isMoment 24 = .ok (.istore 5, 2) := by decide +kernel
theorem dX2_isMoment_26 : decode cX2_isMoment 26 = .ok (.iload 4, 2) := by decide +kernel
theorem dX2_isMoment_28 : decode cX2_isMoment 28 = .ok (.iload 5, 2) := by decide +kernel
theorem dX2_isMoment_30 : decode cX2_isMoment 30 = .ok (.if_icmp .le 5, 3) := by decide +kernel
theorem dX2_isMoment_33 : decode cX2_isMoment 33 = .ok (.iconst 0, 1) := by decide +kernel
theorem dX2_isMoment_34 : decode cX2_isMoment 34 = .ok (.ireturn, 1) := by decide +kernel
theorem dX2_isMoment_35 : decode cX2_isMoment 35 = .ok (.iload_n 2, 1) := by decide +kernel
theorem dX2_isMoment_36 : decode cX2_isMoment 36 = .ok (.iload 4, 2) := by decide +kernel
theorem dX2_isMoment_38 : decode cX2_isMoment 38 = .ok (.ifCond .ne 12, 3) := by decide +kernel
theorem dX2_isMoment_41 : decode cX2_isMoment 41 = .ok (.iload 5, 2) := by decide +kernel
theorem dX2_isMoment_43 : decode cX2_isMoment 43 = .ok (.ifCond .le 7, 3) := by decide +kernel
theorem dX2_isMoment_46 : decode cX2_isMoment 46 = .ok (.iconst 1, 1) := by decide +kernel
theorem dX2_isMoment_47 : decode cX2_isMoment 47 = .ok (.goto 4, 3) := by decide +kernel
theorem dX2_isMoment_50 : decode cX2_isMoment 50 = .ok (.iconst 0, 1) := by decide +kernel
theorem dX2_isMoment_51 : decode cX2_isMoment 51 = .ok (.ior, 1) := by decide +kernel
theorem dX2_isMoment_52 : decode cX2_isMoment 52 = .ok (.istore_n 2, 1) := by decide +kernel
theorem dX2_isMoment_53 : decode cX2_isMoment 53 = .ok (.iinc 3 1, 3) := by decide +kernel
theorem dX2_isMoment_56 : decode cX2_isMoment 56 = .ok (.goto (-52), 3) := by decide +kernel
theorem dX2_isMoment_59 : decode cX2_isMoment 59 = .ok (.iload_n 2, 1) := by decide +kernel
theorem dX2_isMoment_60 : decode cX2_isMoment 60 = .ok (.ireturn, 1) := by decide +kernel
set_option maxRecDepth 20000 in
theorem ggX2_findWays_X2_wayFrom : GoodIn wsX2_findWays wsX2_wayFrom := goodIn_r _ [7, 8, 9, 10, 11, 12, 6, 13, 14, 15, 16, 17, 18, 19, 20, 21, 22, 23, 24, 25, 26, 27, 28, 29, 30, 31, 32, 33, 34] (by decide +kernel) (by decide +kernel)
set_option maxRecDepth 20000 in
theorem gX2_findWays_X2_wayFrom : GoodIn wsX2_findWays (wsV RX2 122 RX2 yX2_wayFrom wsX2_wayFrom) := goodIn_app (goodIn_of _ (by decide +kernel)) ggX2_findWays_X2_wayFrom
theorem dX2_findWays_0 : decode cX2_findWays 0 = .ok (.iconst 0, 1) := by decide +kernel
theorem dX2_findWays_1 : decode cX2_findWays 1 = .ok (.istore_n 3, 1) := by decide +kernel
theorem dX2_findWays_2 : decode cX2_findWays 2 = .ok (.iload_n 3, 1) := by decide +kernel
theorem dX2_findWays_3 : decode cX2_findWays 3 = .ok (.bipush 8, 2) := by decide +kernel
theorem dX2_findWays_5 : decode cX2_findWays 5 = .ok (.if_icmp .ge 41, 3) := by decide +kernel
theorem dX2_findWays_8 : decode cX2_findWays 8 = .ok (.aload_n 0, 1) := by decide +kernel
theorem dX2_findWays_9 : decode cX2_findWays 9 = .ok (.getfield 27, 3) := by decide +kernel
theorem dX2_findWays_12 : decode cX2_findWays 12 = .ok (.iload_n 1, 1) := by decide +kernel
theorem dX2_findWays_13 : decode cX2_findWays 13 = .ok (.bipush 8, 2) := by decide +kernel
theorem dX2_findWays_15 : decode cX2_findWays 15 = .ok (.imul, 1) := by decide +kernel
theorem dX2_findWays_16 : decode cX2_findWays 16 = .ok (.iload_n 3, 1) := by decide +kernel
theorem dX2_findWays_17 : decode cX2_findWays 17 = .ok (.iadd, 1) := by decide +kernel
theorem dX2_findWays_18 : decode cX2_findWays 18 = .ok (.iload_n 3, 1) := by decide +kernel
theorem dX2_findWays_19 : decode cX2_findWays 19 = .ok (.aload_n 0, 1) := by decide +kernel
theorem dX2_findWays_20 : decode cX2_findWays 20 = .ok (.getfield 105, 3) := by decide +kernel
theorem dX2_findWays_23 : decode cX2_findWays 23 = .ok (.iconst (-1), 1) := by decide +kernel
theorem dX2_findWays_24 : decode cX2_findWays 24 = .ok (.ixor, 1) := by decide +kernel
theorem dX2_findWays_25 : decode cX2_findWays 25 = .ok (.iand, 1) := by decide +kernel
theorem dX2_findWays_26 : decode cX2_findWays 26 = .ok (.ifCond .ne 12, 3) := by decide +kernel
theorem dX2_findWays_29 : decode cX2_findWays 29 = .ok (.aload_n 0, 1) := by decide +kernel
theorem dX2_findWays_30 : decode cX2_findWays 30 = .ok (.iload_n 2, 1) := by decide +kernel
theorem dX2_findWays_31 : decode cX2_findWays 31 = .ok (.iload_n 3, 1) := by decide +kernel
theorem dX2_findWays_32 : decode cX2_findWays 32 = .ok (.invokevirtual 122, 3) := by decide +kernel
theorem dX2_findWays_35 : decode cX2_findWays 35 = .ok (.goto 4, 3) := by decide +kernel
theorem dX2_findWays_38 : decode cX2_findWays 38 = .ok (.iconst 0, 1) := by decide +kernel
theorem dX2_findWays_39 : decode cX2_findWays 39 = .ok (.iastore, 1) := by decide +kernel
theorem dX2_findWays_40 : decode cX2_findWays 40 = .ok (.iinc 3 1, 3) := by decide +kernel
theorem dX2_findWays_43 : decode cX2_findWays 43 = .ok (.goto (-41), 3) := by decide +kernel
theorem dX2_findWays_46 : decode cX2_findWays 46 = .ok (.return_, 1) := by decide +kernel
set_option maxRecDepth 20000 in
theorem ggX2_wayFrom_X2_secondsToRunOut : GoodIn wsX2_wayFrom wsX2_secondsToRunOut := goodIn_r _ [7, 8, 9, 6, 10] (by decide +kernel) (by decide +kernel)
set_option maxRecDepth 20000 in
theorem gX2_wayFrom_X2_secondsToRunOut : GoodIn wsX2_wayFrom (va_wsS RX2 125 yX2_secondsToRunOut wsX2_secondsToRunOut) := goodIn_app (goodIn_of _ (by decide +kernel)) ggX2_wayFrom_X2_secondsToRunOut
set_option maxRecDepth 20000 in
theorem ggX2_wayFrom_X2_behind : GoodIn wsX2_wayFrom wsX2_behind := goodIn_r _ [13, 14, 15, 16, 17, 8, 9, 6, 10] (by decide +kernel) (by decide +kernel)
set_option maxRecDepth 20000 in
theorem gX2_wayFrom_X2_behind : GoodIn wsX2_wayFrom (va_wsS RX2 128 yX2_behind wsX2_behind) := goodIn_app (goodIn_of _ (by decide +kernel)) ggX2_wayFrom_X2_behind
theorem dX2_wayFrom_0 : decode cX2_wayFrom 0 = .ok (.aload_n 0, 1) := by decide +kernel
theorem dX2_wayFrom_1 : decode cX2_wayFrom 1 = .ok (.getfield 17, 3) := by decide +kernel
theorem dX2_wayFrom_4 : decode cX2_wayFrom 4 = .ok (.iload_n 2, 1) := by decide +kernel
theorem dX2_wayFrom_5 : decode cX2_wayFrom 5 = .ok (.iaload, 1) := by decide +kernel
theorem dX2_wayFrom_6 : decode cX2_wayFrom 6 = .ok (.istore_n 3, 1) := by decide +kernel
theorem dX2_wayFrom_7 : decode cX2_wayFrom 7 = .ok (.iload_n 1, 1) := by decide +kernel
theorem dX2_wayFrom_8 : decode cX2_wayFrom 8 = .ok (.iload_n 3, 1) := by decide +kernel
theorem dX2_wayFrom_9 : decode cX2_wayFrom 9 = .ok (.iconst (-1), 1) := by decide +kernel
theorem dX2_wayFrom_10 : decode cX2_wayFrom 10 = .ok (.ixor, 1) := by decide +kernel
theorem dX2_wayFrom_11 : decode cX2_wayFrom 11 = .ok (.iand, 1) := by decide +kernel
theorem dX2_wayFrom_12 : decode cX2_wayFrom 12 = .ok (.aload_n 0, 1) := by decide +kernel
theorem dX2_wayFrom_13 : decode cX2_wayFrom 13 = .ok (.getfield 38, 3) := by decide +kernel
theorem dX2_wayFrom_16 : decode cX2_wayFrom 16 = .ok (.iload_n 3, 1) := by decide +kernel
theorem dX2_wayFrom_17 : decode cX2_wayFrom 17 = .ok (.iand, 1) := by decide +kernel
theorem dX2_wayFrom_18 : decode cX2_wayFrom 18 = .ok (.iadd, 1) := by decide +kernel
theorem dX2_wayFrom_19 : decode cX2_wayFrom 19 = .ok (.iload_n 1, 1) := by decide +kernel
theorem dX2_wayFrom_20 : decode cX2_wayFrom 20 = .ok (.iload_n 3, 1) := by decide +kernel
theorem dX2_wayFrom_21 : decode cX2_wayFrom 21 = .ok (.iand, 1) := by decide +kernel
theorem dX2_wayFrom_22 : decode cX2_wayFrom 22 = .ok (.isub, 1) := by decide +kernel
theorem dX2_wayFrom_23 : decode cX2_wayFrom 23 = .ok (.istore 4, 2) := by decide +kernel
theorem dX2_wayFrom_25 : decode cX2_wayFrom 25 = .ok (.iload 4, 2) := by decide +kernel
theorem dX2_wayFrom_27 : decode cX2_wayFrom 27 = .ok (.invokestatic 125, 3) := by decide +kernel
theorem dX2_wayFrom_30 : decode cX2_wayFrom 30 = .ok (.istore 5, 2) := by decide +kernel
theorem dX2_wayFrom_32 : decode cX2_wayFrom 32 = .ok (.iload 5, 2) := by decide +kernel
theorem dX2_wayFrom_34 : decode cX2_wayFrom 34 = .ok (.ifCond .ne 7, 3) := by decide +kernel
theorem dX2_wayFrom_37 : decode cX2_wayFrom 37 = .ok (.iconst 0, 1) := by decide +kernel
theorem dX2_wayFrom_38 : decode cX2_wayFrom 38 = .ok (.goto 20, 3) := by decide +kernel
theorem dX2_wayFrom_41 : decode cX2_wayFrom 41 = .ok (.aload_n 0, 1) := by decide +kernel
theorem dX2_wayFrom_42 : decode cX2_wayFrom 42 = .ok (.getfield 24, 3) := by decide +kernel
theorem dX2_wayFrom_45 : decode cX2_wayFrom 45 = .ok (.iload 4, 2) := by decide +kernel
theorem dX2_wayFrom_47 : decode cX2_wayFrom 47 = .ok (.iload 5, 2) := by decide +kernel
theorem dX2_wayFrom_49 : decode cX2_wayFrom 49 = .ok (.invokestatic 128, 3) := by decide +kernel
theorem dX2_wayFrom_52 : decode cX2_wayFrom 52 = .ok (.iaload, 1) := by decide +kernel
theorem dX2_wayFrom_53 : decode cX2_wayFrom 53 = .ok (.iconst 4, 1) := by decide +kernel
theorem dX2_wayFrom_54 : decode cX2_wayFrom 54 = .ok (.ishl, 1) := by decide +kernel
theorem dX2_wayFrom_55 : decode cX2_wayFrom 55 = .ok (.iload 5, 2) := by decide +kernel
theorem dX2_wayFrom_57 : decode cX2_wayFrom 57 = .ok (.ior, 1) := by decide +kernel
theorem dX2_wayFrom_58 : decode cX2_wayFrom 58 = .ok (.ireturn, 1) := by decide +kernel
set_option maxRecDepth 20000 in
theorem ggX2_secondsToRunOut_X2_unitsOf : GoodIn wsX2_secondsToRunOut wsX2_unitsOf := goodIn_r _ [4] (by decide +kernel) (by decide +kernel)
set_option maxRecDepth 20000 in
theorem gX2_secondsToRunOut_X2_unitsOf : GoodIn wsX2_secondsToRunOut (va_wsS RX2 112 yX2_unitsOf wsX2_unitsOf) := goodIn_app (goodIn_of _ (by decide +kernel)) ggX2_secondsToRunOut_X2_unitsOf
theorem dX2_secondsToRunOut_0 : decode cX2_secondsToRunOut 0 = .ok (.iconst 0, 1) := by decide +kernel
theorem dX2_secondsToRunOut_1 : decode cX2_secondsToRunOut 1 = .ok (.istore_n 1, 1) := by decide +kernel
theorem dX2_secondsToRunOut_2 : decode cX2_secondsToRunOut 2 = .ok (.iconst 0, 1) := by decide +kernel
theorem dX2_secondsToRunOut_3 : decode cX2_secondsToRunOut 3 = .ok (.istore_n 2, 1) := by decide +kernel
theorem dX2_secondsToRunOut_4 : decode cX2_secondsToRunOut 4 = .ok (.iload_n 2, 1) := by decide +kernel
theorem dX2_secondsToRunOut_5 : decode cX2_secondsToRunOut 5 = .ok (.iconst 3, 1) := by decide +kernel
theorem dX2_secondsToRunOut_6 : decode cX2_secondsToRunOut 6 = .ok (.if_icmp .ge 30, 3) := by decide +kernel
theorem dX2_secondsToRunOut_9 : decode cX2_secondsToRunOut 9 = .ok (.iload_n 0, 1) := by decide +kernel
theorem dX2_secondsToRunOut_10 : decode cX2_secondsToRunOut 10 = .ok (.iload_n 2, 1) := by decide +kernel
theorem dX2_secondsToRunOut_11 : decode cX2_secondsToRunOut 11 = .ok (.invokestatic 112, 3) := by decide +kernel
theorem dX2_secondsToRunOut_14 : decode cX2_secondsToRunOut 14 = .ok (.istore_n 3, 1) := by decide +kernel
theorem dX2_secondsToRunOut_15 : decode cX2_secondsToRunOut 15 = .ok (.iload_n 3, 1) := by decide +kernel
theorem dX2_secondsToRunOut_16 : decode cX2_secondsToRunOut 16 = .ok (.ifCond .le 14, 3) := by decide +kernel
theorem dX2_secondsToRunOut_19 : decode cX2_secondsToRunOut 19 = .ok (.iload_n 1, 1) := by decide +kernel
theorem dX2_secondsToRunOut_20 : decode cX2_secondsToRunOut 20 = .ok (.ifCond .eq 8, 3) := by decide +kernel
theorem dX2_secondsToRunOut_23 : decode cX2_secondsToRunOut 23 = .ok (.iload_n 3, 1) := by decide +kernel
theorem dX2_secondsToRunOut_24 : decode cX2_secondsToRunOut 24 = .ok (.iload_n 1, 1) := by decide +kernel
theorem dX2_secondsToRunOut_25 : decode cX2_secondsToRunOut 25 = .ok (.if_icmp .ge 5, 3) := by decide +kernel
theorem dX2_secondsToRunOut_28 : decode cX2_secondsToRunOut 28 = .ok (.iload_n 3, 1) := by decide +kernel
theorem dX2_secondsToRunOut_29 : decode cX2_secondsToRunOut 29 = .ok (.istore_n 1, 1) := by decide +kernel
theorem dX2_secondsToRunOut_30 : decode cX2_secondsToRunOut 30 = .ok (.iinc 2 1, 3) := by decide +kernel
theorem dX2_secondsToRunOut_33 : decode cX2_secondsToRunOut 33 = .ok (.goto (-29), 3) := by decide +kernel
theorem dX2_secondsToRunOut_36 : decode cX2_secondsToRunOut 36 = .ok (.iload_n 1, 1) := by decide +kernel
theorem dX2_secondsToRunOut_37 : decode cX2_secondsToRunOut 37 = .ok (.ireturn, 1) := by decide +kernel
set_option maxRecDepth 20000 in
theorem ggX2_behind_X2_unitsOf : GoodIn wsX2_behind wsX2_unitsOf := goodIn_r _ [8] (by decide +kernel) (by decide +kernel)
set_option maxRecDepth 20000 in
theorem gX2_behind_X2_unitsOf : GoodIn wsX2_behind (va_wsS RX2 112 yX2_unitsOf wsX2_unitsOf) := goodIn_app (goodIn_of _ (by decide +kernel)) ggX2_behind_X2_unitsOf
theorem dX2_behind_0 : decode cX2_behind 0 = .ok (.iconst 0, 1) := by decide +kernel
theorem dX2_behind_1 : decode cX2_behind 1 = .ok (.istore_n 2, 1) := by decide +kernel
theorem dX2_behind_2 : decode cX2_behind 2 = .ok (.iconst 0, 1) := by decide +kernel
theorem dX2_behind_3 : decode cX2_behind 3 = .ok (.istore_n 3, 1) := by decide +kernel
theorem dX2_behind_4 : decode cX2_behind 4 = .ok (.iload_n 3, 1) := by decide +kernel
theorem dX2_behind_5 : decode cX2_behind 5 = .ok (.iconst 3, 1) := by decide +kernel
theorem dX2_behind_6 : decode cX2_behind 6 = .ok (.if_icmp .ge 27, 3) := by decide +kernel
theorem dX2_behind_9 : decode cX2_behind 9 = .ok (.iload_n 2, 1) := by decide +kernel
theorem dX2_behind_10 : decode cX2_behind 10 = .ok (.iconst 0, 1) := by decide +kernel
theorem dX2_behind_11 : decode cX2_behind 11 = .ok (.iload_n 0, 1) := by decide +kernel
theorem dX2_behind_12 : decode cX2_behind 12 = .ok (.iload_n 3, 1) := by decide +kernel
theorem dX2_behind_13 : decode cX2_behind 13 = .ok (.invokestatic 112, 3) := by decide +kernel
theorem dX2_behind_16 : decode cX2_behind 16 = .ok (.iload_n 1, 1) := by decide +kernel
theorem dX2_behind_17 : decode cX2_behind 17 = .ok (.isub, 1) := by decide +kernel
theorem dX2_behind_18 : decode cX2_behind 18 = .ok (.invokestatic 131, 3) := by decide +kernel
theorem dX2_behind_21 : decode cX2_behind 21 = .ok (.iconst 4, 1) := by decide +kernel
theorem dX2_behind_22 : decode cX2_behind 22 = .ok (.iload_n 3, 1) := by decide +kernel
theorem dX2_behind_23 : decode cX2_behind 23 = .ok (.imul, 1) := by decide +kernel
theorem dX2_behind_24 : decode cX2_behind 24 = .ok (.ishl, 1) := by decide +kernel
theorem dX2_behind_25 : decode cX2_behind 25 = .ok (.ior, 1) := by decide +kernel
theorem dX2_behind_26 : decode cX2_behind 26 = .ok (.istore_n 2, 1) := by decide +kernel
theorem dX2_behind_27 : decode cX2_behind 27 = .ok (.iinc 3 1, 3) := by decide +kernel
theorem dX2_behind_30 : decode cX2_behind 30 = .ok (.goto (-26), 3) := by decide +kernel
theorem dX2_behind_33 : decode cX2_behind 33 = .ok (.iload_n 2, 1) := by decide +kernel
theorem dX2_behind_34 : decode cX2_behind 34 = .ok (.ireturn, 1) := by decide +kernel
theorem dX2_unitsOf_0 : decode cX2_unitsOf 0 = .ok (.iload_n 0, 1) := by decide +kernel
theorem dX2_unitsOf_1 : decode cX2_unitsOf 1 = .ok (.iconst 4, 1) := by decide +kernel
theorem dX2_unitsOf_2 : decode cX2_unitsOf 2 = .ok (.iload_n 1, 1) := by decide +kernel
theorem dX2_unitsOf_3 : decode cX2_unitsOf 3 = .ok (.imul, 1) := by decide +kernel
theorem dX2_unitsOf_4 : decode cX2_unitsOf 4 = .ok (.ishr, 1) := by decide +kernel
theorem dX2_unitsOf_5 : decode cX2_unitsOf 5 = .ok (.bipush 15, 2) := by decide +kernel
theorem dX2_unitsOf_7 : decode cX2_unitsOf 7 = .ok (.iand, 1) := by decide +kernel
theorem dX2_unitsOf_8 : decode cX2_unitsOf 8 = .ok (.ireturn, 1) := by decide +kernel
theorem dX2_isIn_0 : decode cX2_isIn 0 = .ok (.lload_n 0, 1) := by decide +kernel
theorem dX2_isIn_1 : decode cX2_isIn 1 = .ok (.iload_n 2, 1) := by decide +kernel
theorem dX2_isIn_2 : decode cX2_isIn 2 = .ok (.lshr, 1) := by decide +kernel
theorem dX2_isIn_3 : decode cX2_isIn 3 = .ok (.lconst 1, 1) := by decide +kernel
theorem dX2_isIn_4 : decode cX2_isIn 4 = .ok (.land, 1) := by decide +kernel
theorem dX2_isIn_5 : decode cX2_isIn 5 = .ok (.lconst 1, 1) := by decide +kernel
theorem dX2_isIn_6 : decode cX2_isIn 6 = .ok (.lcmp, 1) := by decide +kernel
theorem dX2_isIn_7 : decode cX2_isIn 7 = .ok (.ifCond .ne 7, 3) := by decide +kernel
theorem dX2_isIn_10 : decode cX2_isIn 10 = .ok (.iconst 1, 1) := by decide +kernel
theorem dX2_isIn_11 : decode cX2_isIn 11 = .ok (.goto 4, 3) := by decide +kernel
theorem dX2_isIn_14 : decode cX2_isIn 14 = .ok (.iconst 0, 1) := by decide +kernel
theorem dX2_isIn_15 : decode cX2_isIn 15 = .ok (.ireturn, 1) := by decide +kernel
set_option maxRecDepth 20000 in
theorem ggX2_sandAbove_X0_glasses : GoodIn wsX2_sandAbove wsX0_glasses := goodIn_r _ [5, 6, 11] (by decide +kernel) (by decide +kernel)
set_option maxRecDepth 20000 in
theorem gX2_sandAbove_X0_glasses : GoodIn wsX2_sandAbove (wsV RX2 108 RX0 yX0_glasses wsX0_glasses) := goodIn_app (goodIn_of _ (by decide +kernel)) ggX2_sandAbove_X0_glasses
set_option maxRecDepth 20000 in
theorem ggX2_sandAbove_X0_property : GoodIn wsX2_sandAbove wsX0_property := goodIn_r _ [10, 6, 11] (by decide +kernel) (by decide +kernel)
set_option maxRecDepth 20000 in
theorem gX2_sandAbove_X0_property : GoodIn wsX2_sandAbove (wsV RX2 116 RX0 yX0_property wsX0_property) := goodIn_app (goodIn_of _ (by decide +kernel)) ggX2_sandAbove_X0_property
theorem dX2_sandAbove_0 : decode cX2_sandAbove 0 = .ok (.iconst 0, 1) := by decide +kernel
theorem dX2_sandAbove_1 : decode cX2_sandAbove 1 = .ok (.istore_n 1, 1) := by decide +kernel
theorem dX2_sandAbove_2 : decode cX2_sandAbove 2 = .ok (.iconst 0, 1) := by decide +kernel
theorem dX2_sandAbove_3 : decode cX2_sandAbove 3 = .ok (.istore_n 2, 1) := by decide +kernel
theorem dX2_sandAbove_4 : decode cX2_sandAbove 4 = .ok (.iload_n 2, 1) := by decide +kernel
theorem dX2_sandAbove_5 : decode cX2_sandAbove 5 = .ok (.aload_n 0, 1) := by decide +kernel
theorem dX2_sandAbove_6 : decode cX2_sandAbove 6 = .ok (.invokevirtual 108, 3) := by decide +kernel
theorem dX2_sandAbove_9 : decode cX2_sandAbove 9 = .ok (.if_icmp .ge 32, 3) := by decide +kernel
theorem dX2_sandAbove_12 : decode cX2_sandAbove 12 = .ok (.aload_n 0, 1) := by decide +kernel
theorem dX2_sandAbove_13 : decode cX2_sandAbove 13 = .ok (.iload_n 2, 1) := by decide +kernel
theorem dX2_sandAbove_14 : decode cX2_sandAbove 14 = .ok (.iconst 2, 1) := by decide +kernel
theorem dX2_sandAbove_15 : decode cX2_sandAbove 15 = .ok (.invokevirtual 116, 3) := by decide +kernel
theorem dX2_sandAbove_18 : decode cX2_sandAbove 18 = .ok (.iconst 2, 1) := by decide +kernel
theorem dX2_sandAbove_19 : decode cX2_sandAbove 19 = .ok (.if_icmp .eq 16, 3) := by decide +kernel
theorem dX2_sandAbove_22 : decode cX2_sandAbove 22 = .ok (.iload_n 1, 1) := by decide +kernel
theorem dX2_sandAbove_23 : decode cX2_sandAbove 23 = .ok (.aload_n 0, 1) := by decide +kernel
theorem dX2_sandAbove_24 : decode cX2_sandAbove 24 = .ok (.iload_n 2, 1) := by decide +kernel
theorem dX2_sandAbove_25 : decode cX2_sandAbove 25 = .ok (.iconst 1, 1) := by decide +kernel
theorem dX2_sandAbove_26 : decode cX2_sandAbove 26 = .ok (.invokevirtual 116, 3) := by decide +kernel
theorem dX2_sandAbove_29 : decode cX2_sandAbove 29 = .ok (.iconst 4, 1) := by decide +kernel
theorem dX2_sandAbove_30 : decode cX2_sandAbove 30 = .ok (.iload_n 2, 1) := by decide +kernel
theorem dX2_sandAbove_31 : decode cX2_sandAbove 31 = .ok (.imul, 1) := by decide +kernel
theorem dX2_sandAbove_32 : decode cX2_sandAbove 32 = .ok (.ishl, 1) := by decide +kernel
theorem dX2_sandAbove_33 : decode cX2_sandAbove 33 = .ok (.ior, 1) := by decide +kernel
theorem dX2_sandAbove_34 : decode cX2_sandAbove 34 = .ok (.istore_n 1, 1) := by decide +kernel
theorem dX2_sandAbove_35 : decode cX2_sandAbove 35 = .ok (.iinc 2 1, 3) := by decide +kernel
theorem dX2_sandAbove_38 : decode cX2_sandAbove 38 = .ok (.goto (-34), 3) := by decide +kernel
theorem dX2_sandAbove_41 : decode cX2_sandAbove 41 = .ok (.iload_n 1, 1) := by decide +kernel
theorem dX2_sandAbove_42 : decode cX2_sandAbove 42 = .ok (.ireturn, 1) := by decide +kernel
set_option maxRecDepth 20000 in
theorem ggX2_shapeOf_X0_glasses : GoodIn wsX2_shapeOf wsX0_glasses := goodIn_r _ [5, 6, 11] (by decide +kernel) (by decide +kernel)
set_option maxRecDepth 20000 in
theorem gX2_shapeOf_X0_glasses : GoodIn wsX2_shapeOf (wsV RX2 108 RX0 yX0_glasses wsX0_glasses) := goodIn_app (goodIn_of _ (by decide +kernel)) ggX2_shapeOf_X0_glasses
set_option maxRecDepth 20000 in
theorem ggX2_shapeOf_X0_property : GoodIn wsX2_shapeOf wsX0_property := goodIn_r _ [10, 6, 11] (by decide +kernel) (by decide +kernel)
set_option maxRecDepth 20000 in
theorem gX2_shapeOf_X0_property : GoodIn wsX2_shapeOf (wsV RX2 116 RX0 yX0_property wsX0_property) := goodIn_app (goodIn_of _ (by decide +kernel)) ggX2_shapeOf_X0_property
theorem dX2_shapeOf_0 : decode cX2_shapeOf 0 = .ok (.iconst 0, 1) := by decide +kernel
theorem dX2_shapeOf_1 : decode cX2_shapeOf 1 = .ok (.istore_n 1, 1) := by decide +kernel
theorem dX2_shapeOf_2 : decode cX2_shapeOf 2 = .ok (.iconst 0, 1) := by decide +kernel
theorem dX2_shapeOf_3 : decode cX2_shapeOf 3 = .ok (.istore_n 2, 1) := by decide +kernel
theorem dX2_shapeOf_4 : decode cX2_shapeOf 4 = .ok (.iload_n 2, 1) := by decide +kernel
theorem dX2_shapeOf_5 : decode cX2_shapeOf 5 = .ok (.aload_n 0, 1) := by decide +kernel
theorem dX2_shapeOf_6 : decode cX2_shapeOf 6 = .ok (.invokevirtual 108, 3) := by decide +kernel
theorem dX2_shapeOf_9 : decode cX2_shapeOf 9 = .ok (.if_icmp .ge 47, 3) := by decide +kernel
theorem dX2_shapeOf_12 : decode cX2_shapeOf 12 = .ok (.aload_n 0, 1) := by decide +kernel
theorem dX2_shapeOf_13 : decode cX2_shapeOf 13 = .ok (.iload_n 2, 1) := by decide +kernel
theorem dX2_shapeOf_14 : decode cX2_shapeOf 14 = .ok (.iconst 2, 1) := by decide +kernel
theorem dX2_shapeOf_15 : decode cX2_shapeOf 15 = .ok (.invokevirtual 116, 3) := by decide +kernel
theorem dX2_shapeOf_18 : decode cX2_shapeOf 18 = .ok (.iconst 2, 1) := by decide +kernel
theorem dX2_shapeOf_19 : decode cX2_shapeOf 19 = .ok (.if_icmp .eq 31, 3) := by decide +kernel
theorem dX2_shapeOf_22 : decode cX2_shapeOf 22 = .ok (.iload_n 1, 1) := by decide +kernel
theorem dX2_shapeOf_23 : decode cX2_shapeOf 23 = .ok (.aload_n 0, 1) := by decide +kernel
theorem dX2_shapeOf_24 : decode cX2_shapeOf 24 = .ok (.iload_n 2, 1) := by decide +kernel
theorem dX2_shapeOf_25 : decode cX2_shapeOf 25 = .ok (.iconst 0, 1) := by decide +kernel
theorem dX2_shapeOf_26 : decode cX2_shapeOf 26 = .ok (.invokevirtual 116, 3) := by decide +kernel
theorem dX2_shapeOf_29 : decode cX2_shapeOf 29 = .ok (.iconst 4, 1) := by decide +kernel
theorem dX2_shapeOf_30 : decode cX2_shapeOf 30 = .ok (.iload_n 2, 1) := by decide +kernel
theorem dX2_shapeOf_31 : decode cX2_shapeOf 31 = .ok (.imul, 1) := by decide +kernel
theorem dX2_shapeOf_32 : decode cX2_shapeOf 32 = .ok (.ishl, 1) := by decide +kernel
theorem dX2_shapeOf_33 : decode cX2_shapeOf 33 = .ok (.ior, 1) := by decide +kernel
theorem dX2_shapeOf_34 : decode cX2_shapeOf 34 = .ok (.istore_n 1, 1) := by decide +kernel
theorem dX2_shapeOf_35 : decode cX2_shapeOf 35 = .ok (.iload_n 1, 1) := by decide +kernel
theorem dX2_shapeOf_36 : decode cX2_shapeOf 36 = .ok (.aload_n 0, 1) := by decide +kernel
theorem dX2_shapeOf_37 : decode cX2_shapeOf 37 = .ok (.iload_n 2, 1) := by decide +kernel
theorem dX2_shapeOf_38 : decode cX2_shapeOf 38 = .ok (.iconst 5, 1) := by decide +kernel
theorem dX2_shapeOf_39 : decode cX2_shapeOf 39 = .ok (.invokevirtual 116, 3) := by decide +kernel
theorem dX2_shapeOf_42 : decode cX2_shapeOf 42 = .ok (.iconst 4, 1) := by decide +kernel
theorem dX2_shapeOf_43 : decode cX2_shapeOf 43 = .ok (.iconst 3, 1) := by decide +kernel
theorem dX2_shapeOf_44 : decode cX2_shapeOf 44 = .ok (.iload_n 2, 1) := by decide +kernel
theorem dX2_shapeOf_45 : decode cX2_shapeOf 45 = .ok (.iadd, 1) := by decide +kernel
theorem dX2_shapeOf_46 : decode cX2_shapeOf 46 = .ok (.imul, 1) := by decide +kernel
theorem dX2_shapeOf_47 : decode cX2_shapeOf 47 = .ok (.ishl, 1) := by decide +kernel
theorem dX2_shapeOf_48 : decode cX2_shapeOf 48 = .ok (.ior, 1) := by decide +kernel
theorem dX2_shapeOf_49 : decode cX2_shapeOf 49 = .ok (.istore_n 1, 1) := by decide +kernel
theorem dX2_shapeOf_50 : decode cX2_shapeOf 50 = .ok (.iinc 2 1, 3) := by decide +kernel
theorem dX2_shapeOf_53 : decode cX2_shapeOf 53 = .ok (.goto (-49), 3) := by decide +kernel
theorem dX2_shapeOf_56 : decode cX2_shapeOf 56 = .ok (.iload_n 1, 1) := by decide +kernel
theorem dX2_shapeOf_57 : decode cX2_shapeOf 57 = .ok (.ireturn, 1) := by decide +kernel
theorem dX3_init_0 : decode cX3_init 0 = .ok (.aload_n 0, 1) := by decide +kernel
theorem dX3_init_1 : decode cX3_init 1 = .ok (.invokespecial 3, 3) := by decide +kernel
theorem dX3_init_4 : decode cX3_init 4 = .ok (.aload_n 0, 1) := by decide +kernel
theorem dX3_init_5 : decode cX3_init 5 = .ok (.bipush 60, 2) := by decide +kernel
theorem dX3_init_7 : decode cX3_init 7 = .ok (.newarray .int, 2) := by decide +kernel
theorem dX3_init_9 : decode cX3_init 9 = .ok (.putfield 11, 3) := by decide +kernel
theorem dX3_init_12 : decode cX3_init 12 = .ok (.aload_n 0, 1) := by decide +kernel
theorem dX3_init_13 : decode cX3_init 13 = .ok (.bipush 100, 2) := by decide +kernel
theorem dX3_init_15 : decode cX3_init 15 = .ok (.newarray .int, 2) := by decide +kernel
theorem dX3_init_17 : decode cX3_init 17 = .ok (.putfield 15, 3) := by decide +kernel
theorem dX3_init_20 : decode cX3_init 20 = .ok (.aload_n 0, 1) := by decide +kernel
theorem dX3_init_21 : decode cX3_init 21 = .ok (.bipush 100, 2) := by decide +kernel
theorem dX3_init_23 : decode cX3_init 23 = .ok (.newarray .int, 2) := by decide +kernel
theorem dX3_init_25 : decode cX3_init 25 = .ok (.putfield 18, 3) := by decide +kernel
theorem dX3_init_28 : decode cX3_init 28 = .ok (.return_, 1) := by decide +kernel
theorem dX3_length_0 : decode cX3_length 0 = .ok (.aload_n 0, 1) := by decide +kernel
theorem dX3_length_1 : decode cX3_length 1 = .ok (.getfield 21, 3) := by decide +kernel
theorem dX3_length_4 : decode cX3_length 4 = .ok (.ireturn, 1) := by decide +kernel
theorem dX3_byteAt_0 : decode cX3_byteAt 0 = .ok (.iload_n 1, 1) := by decide +kernel
theorem dX3_byteAt_1 : decode cX3_byteAt 1 = .ok (.ifCond .lt 20, 3) := by decide +kernel
theorem dX3_byteAt_4 : decode cX3_byteAt 4 = .ok (.iload_n 1, 1) := by decide +kernel
theorem dX3_byteAt_5 : decode cX3_byteAt 5 = .ok (.aload_n 0, 1) := by decide +kernel
theorem dX3_byteAt_6 : decode cX3_byteAt 6 = .ok (.getfield 21, 3) := by decide +kernel
theorem dX3_byteAt_9 : decode cX3_byteAt 9 = .ok (.if_icmp .ge 12, 3) := by decide +kernel
theorem dX3_byteAt_12 : decode cX3_byteAt 12 = .ok (.aload_n 0, 1) := by decide +kernel
theorem dX3_byteAt_13 : decode cX3_byteAt 13 = .ok (.getfield 11, 3) := by decide +kernel
theorem dX3_byteAt_16 : decode cX3_byteAt 16 = .ok (.iload_n 1, 1) := by decide +kernel
theorem dX3_byteAt_17 : decode cX3_byteAt 17 = .ok (.iaload, 1) := by decide +kernel
theorem dX3_byteAt_18 : decode cX3_byteAt 18 = .ok (.goto 4, 3) := by decide +kernel
theorem dX3_byteAt_21 : decode cX3_byteAt 21 = .ok (.iconst (-1), 1) := by decide +kernel
theorem dX3_byteAt_22 : decode cX3_byteAt 22 = .ok (.ireturn, 1) := by decide +kernel
theorem dX3_append_0 : decode cX3_append 0 = .ok (.aload_n 0, 1) := by decide +kernel
theorem dX3_append_1 : decode cX3_append 1 = .ok (.getfield 21, 3) := by decide +kernel
theorem dX3_append_4 : decode cX3_append 4 = .ok (.bipush 60, 2) := by decide +kernel
theorem dX3_append_6 : decode cX3_append 6 = .ok (.if_icmp .lt 5, 3) := by decide +kernel
theorem dX3_append_9 : decode cX3_append 9 = .ok (.iconst 0, 1) := by decide +kernel
theorem dX3_append_10 : decode cX3_append 10 = .ok (.ireturn, 1) := by decide +kernel
theorem dX3_append_11 : decode cX3_append 11 = .ok (.aload_n 0, 1) := by decide +kernel
theorem dX3_append_12 : decode cX3_append 12 = .ok (.getfield 11, 3) := by decide +kernel
theorem dX3_append_15 : decode cX3_append 15 = .ok (.aload_n 0, 1) := by decide +kernel
theorem dX3_append_16 : decode cX3_append 16 = .ok (.getfield 21, 3) := by decide +kernel
theorem dX3_append_19 : decode cX3_append 19 = .ok (.iload_n 1, 1) := by decide +kernel
theorem dX3_append_20 : decode cX3_append 20 = .ok (.iastore, 1) := by decide +kernel
theorem dX3_append_21 : decode cX3_append 21 = .ok (.aload_n 0, 1) := by decide +kernel
theorem dX3_append_22 : decode cX3_append 22 = .ok (.dup, 1) := by decide +kernel
theorem dX3_append_23 : decode cX3_append 23 = .ok (.getfield 21, 3) := by decide +kernel
theorem dX3_append_26 : decode cX3_append 26 = .ok (.iconst 1, 1) := by decide +kernel
theorem dX3_append_27 : decode cX3_append 27 = .ok (.iadd, 1) := by decide +kernel
theorem dX3_append_28 : decode cX3_append 28 = .ok (.putfield 21, 3) := by decide +kernel
theorem dX3_append_31 : decode cX3_append 31 = .ok (.iconst 1, 1) := by decide +kernel
theorem dX3_append_32 : decode cX3_append 32 = .ok (.ireturn, 1) := by decide +kernel
theorem dX3_clear_0 : decode cX3_clear 0 = .ok (.aload_n 0, 1) := by decide +kernel
theorem dX3_clear_1 : decode cX3_clear 1 = .ok (.getfield 21, 3) := by decide +kernel
theorem dX3_clear_4 : decode cX3_clear 4 = .ok (.istore_n 1, 1) := by decide +kernel
theorem dX3_clear_5 : decode cX3_clear 5 = .ok (.aload_n 0, 1) := by decide +kernel
theorem dX3_clear_6 : decode cX3_clear 6 = .ok (.iconst 0, 1) := by decide +kernel
theorem dX3_clear_7 : decode cX3_clear 7 = .ok (.putfield 21, 3) := by decide +kernel
theorem dX3_clear_10 : decode cX3_clear 10 = .ok (.iload_n 1, 1) := by decide +kernel
theorem dX3_clear_11 : decode cX3_clear 11 = .ok (.ireturn, 1) := by decide +kernel
theorem dX3_steps_0 : decode cX3_steps 0 = .ok (.aload_n 0, 1) := by decide +kernel
theorem dX3_steps_1 : decode cX3_steps 1 = .ok (.getfield 25, 3) := by decide +kernel
theorem dX3_steps_4 : decode cX3_steps 4 = .ok (.ireturn, 1) := by decide +kernel
theorem dX3_letter_0 : decode cX3_letter 0 = .ok (.iload_n 1, 1) := by decide +kernel
theorem dX3_letter_1 : decode cX3_letter 1 = .ok (.ifCond .lt 20, 3) := by decide +kernel
theorem dX3_letter_4 : decode cX3_letter 4 = .ok (.iload_n 1, 1) := by decide +kernel
theorem dX3_letter_5 : decode cX3_letter 5 = .ok (.aload_n 0, 1) := by decide +kernel
theorem dX3_letter_6 : decode cX3_letter 6 = .ok (.getfield 25, 3) := by decide +kernel
theorem dX3_letter_9 : decode cX3_letter 9 = .ok (.if_icmp .ge 12, 3) := by decide +kernel
theorem dX3_letter_12 : decode cX3_letter 12 = .ok (.aload_n 0, 1) := by decide +kernel
theorem dX3_letter_13 : decode cX3_letter 13 = .ok (.getfield 15, 3) := by decide +kernel
theorem dX3_letter_16 : decode cX3_letter 16 = .ok (.iload_n 1, 1) := by decide +kernel
theorem dX3_letter_17 : decode cX3_letter 17 = .ok (.iaload, 1) := by decide +kernel
theorem dX3_letter_18 : decode cX3_letter 18 = .ok (.goto 4, 3) := by decide +kernel
theorem dX3_letter_21 : decode cX3_letter 21 = .ok (.iconst (-1), 1) := by decide +kernel
theorem dX3_letter_22 : decode cX3_letter 22 = .ok (.ireturn, 1) := by decide +kernel
theorem dX3_number_0 : decode cX3_number 0 = .ok (.iload_n 1, 1) := by decide +kernel
theorem dX3_number_1 : decode cX3_number 1 = .ok (.ifCond .lt 20, 3) := by decide +kernel
theorem dX3_number_4 : decode cX3_number 4 = .ok (.iload_n 1, 1) := by decide +kernel
theorem dX3_number_5 : decode cX3_number 5 = .ok (.aload_n 0, 1) := by decide +kernel
theorem dX3_number_6 : decode cX3_number 6 = .ok (.getfield 25, 3) := by decide +kernel
theorem dX3_number_9 : decode cX3_number 9 = .ok (.if_icmp .ge 12, 3) := by decide +kernel
theorem dX3_number_12 : decode cX3_number 12 = .ok (.aload_n 0, 1) := by decide +kernel
theorem dX3_number_13 : decode cX3_number 13 = .ok (.getfield 18, 3) := by decide +kernel
theorem dX3_number_16 : decode cX3_number 16 = .ok (.iload_n 1, 1) := by decide +kernel
theorem dX3_number_17 : decode cX3_number 17 = .ok (.iaload, 1) := by decide +kernel
theorem dX3_number_18 : decode cX3_number 18 = .ok (.goto 4, 3) := by decide +kernel
theorem dX3_number_21 : decode cX3_number 21 = .ok (.iconst (-1), 1) := by decide +kernel
theorem dX3_number_22 : decode cX3_number 22 = .ok (.ireturn, 1) := by decide +kernel
set_option maxRecDepth 20000 in
theorem ggX3_read_X3_readSteps : GoodIn wsX3_read wsX3_readSteps := goodIn_r _ [9, 3, 10, 11, 12, 8, 13, 14, 15, 16, 17, 2, 18, 19, 20, 21, 22, 23, 24, 25, 26, 27, 28, 29, 30, 4, 31, 32, 33, 34, 35, 36, 37, 38, 5, 6, 7, 39, 40, 41, 42, 43, 44, 45, 46, 47, 48, 49, 50, 51, 52, 53, 54, 55, 56, 1, 57, 58, 59, 60, 61, 62, 63, 64] (by decide +kernel) (by decide +kernel)
set_option maxRecDepth 20000 in
theorem gX3_read_X3_readSteps : GoodIn wsX3_read (wsV RX3 37 RX3 yX3_readSteps wsX3_readSteps) := goodIn_app (goodIn_of _ (by decide +kernel)) ggX3_read_X3_readSteps
set_option maxRecDepth 20000 in
theorem ggX3_read_X3_peek : GoodIn wsX3_read wsX3_peek := goodIn_r _ [17, 2, 18, 19, 57, 58, 59, 60, 61, 62, 63, 64] (by decide +kernel) (by decide +kernel)
set_option maxRecDepth 20000 in
theorem gX3_read_X3_peek : GoodIn wsX3_read (wsV RX3 41 RX3 yX3_peek wsX3_peek) := goodIn_app (goodIn_of _ (by decide +kernel)) ggX3_read_X3_peek
theorem dX3_read_0 : decode cX3_read 0 = .ok (.aload_n 0, 1) := by decide +kernel
theorem dX3_read_1 : decode cX3_read 1 = .ok (.iload_n 1, 1) := by decide +kernel
theorem dX3_read_2 : decode cX3_read 2 = .ok (.putfield 28, 3) := by decide +kernel
theorem dX3_read_5 : decode cX3_read 5 = .ok (.aload_n 0, 1) := by decide +kernel
theorem dX3_read_6 : decode cX3_read 6 = .ok (.iconst 0, 1) := by decide +kernel
theorem dX3_read_7 : decode cX3_read 7 = .ok (.putfield 31, 3) := by decide +kernel
theorem dX3_read_10 : decode cX3_read 10 = .ok (.aload_n 0, 1) := by decide +kernel
theorem dX3_read_11 : decode cX3_read 11 = .ok (.iconst (-1), 1) := by decide +kernel
theorem dX3_read_12 : decode cX3_read 12 = .ok (.putfield 34, 3) := by decide +kernel
theorem dX3_read_15 : decode cX3_read 15 = .ok (.aload_n 0, 1) := by decide +kernel
theorem dX3_read_16 : decode cX3_read 16 = .ok (.iconst 0, 1) := by decide +kernel
theorem dX3_read_17 : decode cX3_read 17 = .ok (.putfield 25, 3) := by decide +kernel
theorem dX3_read_20 : decode cX3_read 20 = .ok (.aload_n 0, 1) := by decide +kernel
theorem dX3_read_21 : decode cX3_read 21 = .ok (.iconst 0, 1) := by decide +kernel
theorem dX3_read_22 : decode cX3_read 22 = .ok (.invokevirtual 37, 3) := by decide +kernel
theorem dX3_read_25 : decode cX3_read 25 = .ok (.aload_n 0, 1) := by decide +kernel
theorem dX3_read_26 : decode cX3_read 26 = .ok (.getfield 34, 3) := by decide +kernel
theorem dX3_read_29 : decode cX3_read 29 = .ok (.iconst (-1), 1) := by decide +kernel
theorem dX3_read_30 : decode cX3_read 30 = .ok (.if_icmp .ne 19, 3) := by decide +kernel
theorem dX3_read_33 : decode cX3_read 33 = .ok (.aload_n 0, 1) := by decide +kernel
theorem dX3_read_34 : decode cX3_read 34 = .ok (.invokevirtual 41, 3) := by decide +kernel
theorem dX3_read_37 : decode cX3_read 37 = .ok (.iconst (-1), 1) := by decide +kernel
theorem dX3_read_38 : decode cX3_read 38 = .ok (.if_icmp .eq 11, 3) := by decide +kernel
theorem dX3_read_41 : decode cX3_read 41 = .ok (.aload_n 0, 1) := by decide +kernel
theorem dX3_read_42 : decode cX3_read 42 = .ok (.aload_n 0, 1) := by decide +kernel
theorem dX3_read_43 : decode cX3_read 43 = .ok (.getfield 31, 3) := by decide +kernel
theorem dX3_read_46 : decode cX3_read 46 = .ok (.putfield 34, 3) := by decide +kernel
theorem dX3_read_49 : decode cX3_read 49 = .ok (.aload_n 0, 1) := by decide +kernel
theorem dX3_read_50 : decode cX3_read 50 = .ok (.getfield 34, 3) := by decide +kernel
theorem dX3_read_53 : decode cX3_read 53 = .ok (.ireturn, 1) := by decide +kernel
set_option maxRecDepth 20000 in
theorem ggX3_readSteps_X3_isStepAhead : GoodIn wsX3_readSteps wsX3_isStepAhead := goodIn_r _ [6, 7, 8, 9, 5, 10, 11, 12, 13, 14, 15, 16, 56, 57, 58, 59, 60, 61, 62, 63] (by decide +kernel) (by decide +kernel)
set_option maxRecDepth 20000 in
theorem gX3_readSteps_X3_isStepAhead : GoodIn wsX3_readSteps (wsV RX3 45 RX3 yX3_isStepAhead wsX3_isStepAhead) := goodIn_app (goodIn_of _ (by decide +kernel)) ggX3_readSteps_X3_isStepAhead
set_option maxRecDepth 20000 in
theorem ggX3_readSteps_X3_readStep : GoodIn wsX3_readSteps wsX3_readStep := goodIn_r _ [47, 11, 7, 8, 9, 5, 10, 12, 13, 14, 15, 16, 48, 49, 50, 26, 27, 28, 29, 1, 30, 31, 32, 33, 51, 52, 53, 54, 55, 43, 44, 45, 46, 25, 41, 42, 24, 20, 21, 22, 23, 34, 35, 36, 37, 38, 39, 40, 0, 2, 3, 4, 6, 17, 18, 19, 56, 57, 58, 59, 60, 61, 62, 63] (by decide +kernel) (by decide +kernel)
set_option maxRecDepth 20000 in
theorem gX3_readSteps_X3_readStep : GoodIn wsX3_readSteps (wsV RX3 49 RX3 yX3_readStep wsX3_readStep) := goodIn_app (goodIn_of _ (by decide +kernel)) ggX3_readSteps_X3_readStep
set_option maxRecDepth 20000 in
theorem ggX3_readSteps_X3_expect : GoodIn wsX3_readSteps wsX3_expect := goodIn_r _ [23, 1, 11, 7, 8, 9, 5, 10, 12, 13, 56, 57, 58, 59, 60, 61, 62, 63] (by decide +kernel) (by decide +kernel)
set_option maxRecDepth 20000 in
theorem gX3_readSteps_X3_expect : GoodIn wsX3_readSteps (wsV RX3 52 RX3 yX3_expect wsX3_expect) := goodIn_app (goodIn_of _ (by decide +kernel)) ggX3_readSteps_X3_expect
theorem dX3_readSteps_0 : decode cX3_readSteps 0 = .ok (.iconst 0, 1) := by decide +kernel
theorem dX3_readSteps_1 : decode cX3_readSteps 1 = .ok (.istore_n 2, 1) := by decide +kernel
theorem dX3_readSteps_2 : decode cX3_readSteps 2 = .ok (.iload_n 2, 1) := by decide +kernel
theorem dX3_readSteps_3 : decode cX3_readSteps 3 = .ok (.bipush 60, 2) := by decide +kernel
theorem dX3_readSteps_5 : decode cX3_readSteps 5 = .ok (.if_icmp .ge 35, 3) := by decide +kernel
theorem dX3_readSteps_8 : decode cX3_readSteps 8 = .ok (.aload_n 0, 1) := by decide +kernel
theorem dX3_readSteps_9 : decode cX3_readSteps 9 = .ok (.getfield 34, 3) := by decide +kernel
theorem dX3_readSteps_12 : decode cX3_readSteps 12 = .ok (.iconst (-1), 1) := by decide +kernel
theorem dX3_readSteps_13 : decode cX3_readSteps 13 = .ok (.if_icmp .ne 27, 3) := by decide +kernel
theorem dX3_readSteps_16 : decode cX3_readSteps 16 = .ok (.aload_n 0, 1) := by decide +kernel
theorem dX3_readSteps_17 : decode cX3_readSteps 17 = .ok (.invokevirtual 45, 3) := by decide +kernel
theorem dX3_readSteps_20 : decode cX3_readSteps 20 = .ok (.ifCond .eq 20, 3) := by decide +kernel
theorem dX3_readSteps_23 : decode cX3_readSteps 23 = .ok (.aload_n 0, 1) := by decide +kernel
theorem dX3_readSteps_24 : decode cX3_readSteps 24 = .ok (.iload_n 1, 1) := by decide +kernel
theorem dX3_readSteps_25 : decode cX3_readSteps 25 = .ok (.invokevirtual 49, 3) := by decide +kernel
theorem dX3_readSteps_28 : decode cX3_readSteps 28 = .ok (.aload_n 0, 1) := by decide +kernel
theorem dX3_readSteps_29 : decode cX3_readSteps 29 = .ok (.bipush 59, 2) := by decide +kernel
theorem dX3_readSteps_31 : decode cX3_readSteps 31 = .ok (.invokevirtual 52, 3) := by decide +kernel
theorem dX3_readSteps_34 : decode cX3_readSteps 34 = .ok (.iinc 2 1, 3) := by decide +kernel
theorem dX3_readSteps_37 : decode cX3_readSteps 37 = .ok (.goto (-35), 3) := by decide +kernel
theorem dX3_readSteps_40 : decode cX3_readSteps 40 = .ok (.return_, 1) := by decide +kernel
set_option maxRecDepth 20000 in
theorem ggX3_isStepAhead_X3_peek : GoodIn wsX3_isStepAhead wsX3_peek := goodIn_r _ [5, 6, 7, 8, 12, 13, 14, 15, 16, 17, 18, 19] (by decide +kernel) (by decide +kernel)
set_option maxRecDepth 20000 in
theorem gX3_isStepAhead_X3_peek : GoodIn wsX3_isStepAhead (wsV RX3 41 RX3 yX3_peek wsX3_peek) := goodIn_app (goodIn_of _ (by decide +kernel)) ggX3_isStepAhead_X3_peek
set_option maxRecDepth 20000 in
theorem ggX3_isStepAhead_X3_isDigit : GoodIn wsX3_isStepAhead wsX3_isDigit := goodIn_r _ [11] (by decide +kernel) (by decide +kernel)
set_option maxRecDepth 20000 in
theorem gX3_isStepAhead_X3_isDigit : GoodIn wsX3_isStepAhead (va_wsS RX3 55 yX3_isDigit wsX3_isDigit) := goodIn_app (goodIn_of _ (by decide +kernel)) ggX3_isStepAhead_X3_isDigit
theorem dX3_isStepAhead_0 : decode cX3_isStepAhead 0 = .ok (.aload_n 0, 1) := by decide +kernel
theorem dX3_isStepAhead_1 : decode cX3_isStepAhead 1 = .ok (.invokevirtual 41, 3) := by decide +kernel
theorem dX3_isStepAhead_4 : decode cX3_isStepAhead 4 = .ok (.istore_n 1, 1) := by decide +kernel
theorem dX3_isStepAhead_5 : decode cX3_isStepAhead 5 = .ok (.iload_n 1, 1) := by decide +kernel
theorem dX3_isStepAhead_6 : decode cX3_isStepAhead 6 = .ok (.bipush 116, 2) := by decide +kernel
theorem dX3_isStepAhead_8 : decode cX3_isStepAhead 8 = .ok (.if_icmp .eq 28, 3) := by decide +kernel
theorem dX3_isStepAhead_11 : decode cX3_isStepAhead 11 = .ok (.iload_n 1, 1) := by decide +kernel
theorem dX3_isStepAhead_12 : decode cX3_isStepAhead 12 = .ok (.bipush 107, 2) := by decide +kernel
theorem dX3_isStepAhead_14 : decode cX3_isStepAhead 14 = .ok (.if_icmp .eq 22, 3) := by decide +kernel
theorem dX3_isStepAhead_17 : decode cX3_isStepAhead 17 = .ok (.iload_n 1, 1) := by decide +kernel
theorem dX3_isStepAhead_18 : decode cX3_isStepAhead 18 = .ok (.bipush 119, 2) := by decide +kernel
theorem dX3_isStepAhead_20 : decode cX3_isStepAhead 20 = .ok (.if_icmp .eq 16, 3) := by decide +kernel
theorem dX3_isStepAhead_23 : decode cX3_isStepAhead 23 = .ok (.iload_n 1, 1) := by decide +kernel
theorem dX3_isStepAhead_24 : decode cX3_isStepAhead 24 = .ok (.bipush 101, 2) := by decide +kernel
theorem dX3_isStepAhead_26 : decode cX3_isStepAhead 26 = .ok (.if_icmp .eq 10, 3) := by decide +kernel
theorem dX3_isStepAhead_29 : decode cX3_isStepAhead 29 = .ok (.iload_n 1, 1) := by decide +kernel
theorem dX3_isStepAhead_30 : decode cX3_isStepAhead 30 = .ok (.invokestatic 55, 3) := by decide +kernel
theorem dX3_isStepAhead_33 : decode cX3_isStepAhead 33 = .ok (.ifCond .eq 7, 3) := by decide +kernel
theorem dX3_isStepAhead_36 : decode cX3_isStepAhead 36 = .ok (.iconst 1, 1) := by decide +kernel
theorem dX3_isStepAhead_37 : decode cX3_isStepAhead 37 = .ok (.goto 4, 3) := by decide +kernel
theorem dX3_isStepAhead_40 : decode cX3_isStepAhead 40 = .ok (.iconst 0, 1) := by decide +kernel
theorem dX3_isStepAhead_41 : decode cX3_isStepAhead 41 = .ok (.ireturn, 1) := by decide +kernel
set_option maxRecDepth 20000 in
theorem ggX3_readStep_X3_peek : GoodIn wsX3_readStep wsX3_peek := goodIn_r _ [6, 1, 7, 8, 56, 57, 58, 59, 60, 61, 62, 63] (by decide +kernel) (by decide +kernel)
set_option maxRecDepth 20000 in
theorem gX3_readStep_X3_peek : GoodIn wsX3_readStep (wsV RX3 41 RX3 yX3_peek wsX3_peek) := goodIn_app (goodIn_of _ (by decide +kernel)) ggX3_readStep_X3_peek
set_option maxRecDepth 20000 in
theorem ggX3_readStep_X3_isDigit : GoodIn wsX3_readStep wsX3_isDigit := goodIn_r _ [11] (by decide +kernel) (by decide +kernel)
set_option maxRecDepth 20000 in
theorem gX3_readStep_X3_isDigit : GoodIn wsX3_readStep (va_wsS RX3 55 yX3_isDigit wsX3_isDigit) := goodIn_app (goodIn_of _ (by decide +kernel)) ggX3_readStep_X3_isDigit
set_option maxRecDepth 20000 in
theorem ggX3_readStep_X3_readRepeat : GoodIn wsX3_readStep wsX3_readRepeat := goodIn_r _ [36, 19, 1, 33, 15, 16, 17, 5, 18, 2, 3, 4, 6, 7, 8, 9, 10, 11, 20, 21, 22, 23, 37, 38, 39, 40, 41, 42, 43, 44, 45, 46, 47, 34, 35, 29, 30, 31, 32, 0, 12, 13, 14, 24, 25, 26, 27, 28, 48, 49, 50, 51, 52, 53, 54, 55, 56, 57, 58, 59, 60, 61, 62, 63] (by decide +kernel) (by decide +kernel)
set_option maxRecDepth 20000 in
theorem gX3_readStep_X3_readRepeat : GoodIn wsX3_readStep (wsV RX3 59 RX3 yX3_readRepeat wsX3_readRepeat) := goodIn_app (goodIn_of _ (by decide +kernel)) ggX3_readStep_X3_readRepeat
set_option maxRecDepth 20000 in
theorem ggX3_readStep_X3_readNumber : GoodIn wsX3_readStep wsX3_readNumber := goodIn_r _ [18, 1, 19, 2, 3, 4, 5, 6, 7, 8, 9, 10, 11, 20, 21, 22, 23, 56, 57, 58, 59, 60, 61, 62, 63] (by decide +kernel) (by decide +kernel)
set_option maxRecDepth 20000 in
theorem gX3_readStep_X3_readNumber : GoodIn wsX3_readStep (wsV RX3 62 RX3 yX3_readNumber wsX3_readNumber) := goodIn_app (goodIn_of _ (by decide +kernel)) ggX3_readStep_X3_readNumber
set_option maxRecDepth 20000 in
theorem ggX3_readStep_X3_readGlass : GoodIn wsX3_readStep wsX3_readGlass := goodIn_r _ [27, 28, 1, 19, 2, 3, 4, 5, 6, 7, 8, 9, 10, 11, 56, 57, 58, 59, 60, 61, 62, 63] (by decide +kernel) (by decide +kernel)
set_option maxRecDepth 20000 in
theorem gX3_readStep_X3_readGlass : GoodIn wsX3_readStep (wsV RX3 66 RX3 yX3_readGlass wsX3_readGlass) := goodIn_app (goodIn_of _ (by decide +kernel)) ggX3_readStep_X3_readGlass
set_option maxRecDepth 20000 in
theorem ggX3_readStep_X3_add : GoodIn wsX3_readStep wsX3_add := goodIn_r _ [32, 33, 34, 35, 56, 57, 58, 59, 60, 61, 62, 63] (by decide +kernel) (by decide +kernel)
set_option maxRecDepth 20000 in
theorem gX3_readStep_X3_add : GoodIn wsX3_readStep (wsV RX3 69 RX3 yX3_add wsX3_add) := goodIn_app (goodIn_of _ (by decide +kernel)) ggX3_readStep_X3_add
theorem dX3_readStep_0 : decode cX3_readStep 0 = .ok (.aload_n 0, 1) := by decide +kernel
theorem dX3_readStep_1 : decode cX3_readStep 1 = .ok (.invokevirtual 41, 3) := by decide +kernel
theorem dX3_readStep_4 : decode cX3_readStep 4 = .ok (.istore_n 2, 1) := by decide +kernel
theorem dX3_readStep_5 : decode cX3_readStep 5 = .ok (.iload_n 2, 1) := by decide +kernel
theorem dX3_readStep_6 : decode cX3_readStep 6 = .ok (.invokestatic 55, 3) := by decide +kernel
theorem dX3_readStep_9 : decode cX3_readStep 9 = .ok (.ifCond .eq 9, 3) := by decide +kernel
theorem dX3_readStep_12 : decode cX3_readStep 12 = .ok (.aload_n 0, 1) := by decide +kernel
theorem dX3_readStep_13 : decode cX3_readStep 13 = .ok (.iload_n 1, 1) := by decide +kernel
theorem dX3_readStep_14 : decode cX3_readStep 14 = .ok (.invokevirtual 59, 3) := by decide +kernel
theorem dX3_readStep_17 : decode cX3_readStep 17 = .ok (.return_, 1) := by decide +kernel
theorem dX3_readStep_18 : decode cX3_readStep 18 = .ok (.aload_n 0, 1) := by decide +kernel
theorem dX3_readStep_19 : decode cX3_readStep 19 = .ok (.dup, 1) := by decide +kernel
theorem dX3_readStep_20 : decode cX3_readStep 20 = .ok (.getfield 31, 3) := by decide +kernel
theorem dX3_readStep_23 : decode cX3_readStep 23 = .ok (.iconst 1, 1) := by decide +kernel
theorem dX3_readStep_24 : decode cX3_readStep 24 = .ok (.iadd, 1) := by decide +kernel
theorem dX3_readStep_25 : decode cX3_readStep 25 = .ok (.putfield 31, 3) := by decide +kernel
theorem dX3_readStep_28 : decode cX3_readStep 28 = .ok (.iconst 0, 1) := by decide +kernel
theorem dX3_readStep_29 : decode cX3_readStep 29 = .ok (.istore_n 3, 1) := by decide +kernel
theorem dX3_readStep_30 : decode cX3_readStep 30 = .ok (.iload_n 2, 1) := by decide +kernel
theorem dX3_readStep_31 : decode cX3_readStep 31 = .ok (.bipush 119, 2) := by decide +kernel
theorem dX3_readStep_33 : decode cX3_readStep 33 = .ok (.if_icmp .ne 13, 3) := by decide +kernel
theorem dX3_readStep_36 : decode cX3_readStep 36 = .ok (.aload_n 0, 1) := by decide +kernel
theorem dX3_readStep_37 : decode cX3_readStep 37 = .ok (.bipush 99, 2) := by decide +kernel
theorem dX3_readStep_39 : decode cX3_readStep 39 = .ok (.invokevirtual 62, 3) := by decide +kernel
theorem dX3_readStep_42 : decode cX3_readStep 42 = .ok (.istore_n 3, 1) := by decide +kernel
theorem dX3_readStep_43 : decode cX3_readStep 43 = .ok (.goto 14, 3) := by decide +kernel
theorem dX3_readStep_46 : decode cX3_readStep 46 = .ok (.iload_n 2, 1) := by decide +kernel
theorem dX3_readStep_47 : decode cX3_readStep 47 = .ok (.bipush 101, 2) := by decide +kernel
theorem dX3_readStep_49 : decode cX3_readStep 49 = .ok (.if_icmp .eq 8, 3) := by decide +kernel
theorem dX3_readStep_52 : decode cX3_readStep 52 = .ok (.aload_n 0, 1) := by decide +kernel
theorem dX3_readStep_53 : decode cX3_readStep 53 = .ok (.invokevirtual 66, 3) := by decide +kernel
theorem dX3_readStep_56 : decode cX3_readStep 56 = .ok (.istore_n 3, 1) := by decide +kernel
theorem dX3_readStep_57 : decode cX3_readStep 57 = .ok (.aload_n 0, 1) := by decide +kernel
theorem dX3_readStep_58 : decode cX3_readStep 58 = .ok (.iload_n 2, 1) := by decide +kernel
theorem dX3_readStep_59 : decode cX3_readStep 59 = .ok (.iload_n 3, 1) := by decide +kernel
theorem dX3_readStep_60 : decode cX3_readStep 60 = .ok (.invokevirtual 69, 3) := by decide +kernel
theorem dX3_readStep_63 : decode cX3_readStep 63 = .ok (.return_, 1) := by decide +kernel
set_option maxRecDepth 20000 in
theorem ggX3_readRepeat_X3_readNumber : GoodIn wsX3_readRepeat wsX3_readNumber := goodIn_r _ [8, 2, 1, 9, 10, 11, 7, 12, 13, 14, 15, 16, 17, 18, 19, 20, 21, 56, 57, 58, 59, 60, 61, 62, 63] (by decide +kernel) (by decide +kernel)
set_option maxRecDepth 20000 in
theorem gX3_readRepeat_X3_readNumber : GoodIn wsX3_readRepeat (wsV RX3 62 RX3 yX3_readNumber wsX3_readNumber) := goodIn_app (goodIn_of _ (by decide +kernel)) ggX3_readRepeat_X3_readNumber
set_option maxRecDepth 20000 in
theorem ggX3_readRepeat_X3_peek : GoodIn wsX3_readRepeat wsX3_peek := goodIn_r _ [12, 2, 13, 14, 56, 57, 58, 59, 60, 61, 62, 63] (by decide +kernel) (by decide +kernel)
set_option maxRecDepth 20000 in
theorem gX3_readRepeat_X3_peek : GoodIn wsX3_readRepeat (wsV RX3 41 RX3 yX3_peek wsX3_peek) := goodIn_app (goodIn_of _ (by decide +kernel)) ggX3_readRepeat_X3_peek
set_option maxRecDepth 20000 in
theorem ggX3_readRepeat_X3_expect : GoodIn wsX3_readRepeat wsX3_expect := goodIn_r _ [25, 1, 2, 9, 10, 11, 7, 12, 13, 14, 56, 57, 58, 59, 60, 61, 62, 63] (by decide +kernel) (by decide +kernel)
set_option maxRecDepth 20000 in
theorem gX3_readRepeat_X3_expect : GoodIn wsX3_readRepeat (wsV RX3 52 RX3 yX3_expect wsX3_expect) := goodIn_app (goodIn_of _ (by decide +kernel)) ggX3_readRepeat_X3_expect
set_option maxRecDepth 20000 in
theorem ggX3_readRepeat_X3_readSteps : GoodIn wsX3_readRepeat wsX3_readSteps := goodIn_r _ [48, 1, 49, 50, 51, 7, 52, 9, 10, 11, 12, 2, 13, 14, 15, 16, 17, 53, 54, 55, 22, 23, 24, 25, 0, 3, 4, 5, 6, 8, 18, 19, 20, 21, 26, 27, 28, 29, 30, 31, 32, 33, 34, 35, 36, 37, 38, 39, 40, 41, 42, 43, 44, 45, 46, 47, 56, 57, 58, 59, 60, 61, 62, 63] (by decide +kernel) (by decide +kernel)
set_option maxRecDepth 20000 in
theorem gX3_readRepeat_X3_readSteps : GoodIn wsX3_readRepeat (wsV RX3 37 RX3 yX3_readSteps wsX3_readSteps) := goodIn_app (goodIn_of _ (by decide +kernel)) ggX3_readRepeat_X3_readSteps
set_option maxRecDepth 20000 in
theorem ggX3_readRepeat_X3_repeat : GoodIn wsX3_readRepeat wsX3_repeat := goodIn_r _ [32, 3, 33, 34, 35, 36, 37, 7, 38, 56, 57, 58, 59, 60, 61, 62, 63] (by decide +kernel) (by decide +kernel)
set_option maxRecDepth 20000 in
theorem gX3_readRepeat_X3_repeat : GoodIn wsX3_readRepeat (wsV RX3 73 RX3 yX3_repeat wsX3_repeat) := goodIn_app (goodIn_of _ (by decide +kernel)) ggX3_readRepeat_X3_repeat
theorem dX3_readRepeat_0 : decode cX3_readRepeat 0 = .ok (.aload_n 0, 1) := by decide +kernel
theorem dX3_readRepeat_1 : decode cX3_readRepeat 1 = .ok (.bipush 20, 2) := by decide +kernel
theorem dX3_readRepeat_3 : decode cX3_readRepeat 3 = .ok (.invokevirtual 62, 3) := by decide +kernel
theorem dX3_readRepeat_6 : decode cX3_readRepeat 6 = .ok (.istore_n 2, 1) := by decide +kernel
theorem dX3_readRepeat_7 : decode cX3_readRepeat 7 = .ok (.aload_n 0, 1) := by decide +kernel
theorem dX3_readRepeat_8 : decode cX3_readRepeat 8 = .ok (.getfield 34, 3) := by decide +kernel
theorem dX3_readRepeat_11 : decode cX3_readRepeat 11 = .ok (.iconst (-1), 1) := by decide +kernel
theorem dX3_readRepeat_12 : decode cX3_readRepeat 12 = .ok (.if_icmp .ne 21, 3) := by decide +kernel
theorem dX3_readRepeat_15 : decode cX3_readRepeat 15 = .ok (.iload_n 1, 1) := by decide +kernel
theorem dX3_readRepeat_16 : decode cX3_readRepeat 16 = .ok (.iconst 2, 1) := by decide +kernel
theorem dX3_readRepeat_17 : decode cX3_readRepeat 17 = .ok (.if_icmp .ne 16, 3) := by decide +kernel
theorem dX3_readRepeat_20 : decode cX3_readRepeat 20 = .ok (.aload_n 0, 1) := by decide +kernel
theorem dX3_readRepeat_21 : decode cX3_readRepeat 21 = .ok (.invokevirtual 41, 3) := by decide +kernel
theorem dX3_readRepeat_24 : decode cX3_readRepeat 24 = .ok (.pop, 1) := by decide +kernel
theorem dX3_readRepeat_25 : decode cX3_readRepeat 25 = .ok (.aload_n 0, 1) := by decide +kernel
theorem dX3_readRepeat_26 : decode cX3_readRepeat 26 = .ok (.aload_n 0, 1) := by decide +kernel
theorem dX3_readRepeat_27 : decode cX3_readRepeat 27 = .ok (.getfield 31, 3) := by decide +kernel
theorem dX3_readRepeat_30 : decode cX3_readRepeat 30 = .ok (.putfield 34, 3) := by decide +kernel
theorem dX3_readRepeat_33 : decode cX3_readRepeat 33 = .ok (.aload_n 0, 1) := by decide +kernel
theorem dX3_readRepeat_34 : decode cX3_readRepeat 34 = .ok (.bipush 40, 2) := by decide +kernel
theorem dX3_readRepeat_36 : decode cX3_readRepeat 36 = .ok (.invokevirtual 52, 3) := by decide +kernel
theorem dX3_readRepeat_39 : decode cX3_readRepeat 39 = .ok (.aload_n 0, 1) := by decide +kernel
theorem dX3_readRepeat_40 : decode cX3_readRepeat 40 = .ok (.getfield 25, 3) := by decide +kernel
theorem dX3_readRepeat_43 : decode cX3_readRepeat 43 = .ok (.istore_n 3, 1) := by decide +kernel
theorem dX3_readRepeat_44 : decode cX3_readRepeat 44 = .ok (.aload_n 0, 1) := by decide +kernel
theorem dX3_readRepeat_45 : decode cX3_readRepeat 45 = .ok (.getfield 34, 3) := by decide +kernel
theorem dX3_readRepeat_48 : decode cX3_readRepeat 48 = .ok (.iconst (-1), 1) := by decide +kernel
theorem dX3_readRepeat_49 : decode cX3_readRepeat 49 = .ok (.if_icmp .ne 10, 3) := by decide +kernel
theorem dX3_readRepeat_52 : decode cX3_readRepeat 52 = .ok (.aload_n 0, 1) := by decide +kernel
theorem dX3_readRepeat_53 : decode cX3_readRepeat 53 = .ok (.iload_n 1, 1) := by decide +kernel
theorem dX3_readRepeat_54 : decode cX3_readRepeat 54 = .ok (.iconst 1, 1) := by decide +kernel
theorem dX3_readRepeat_55 : decode cX3_readRepeat 55 = .ok (.iadd, 1) := by decide +kernel
theorem dX3_readRepeat_56 : decode cX3_readRepeat 56 = .ok (.invokevirtual 37, 3) := by decide +kernel
theorem dX3_readRepeat_59 : decode cX3_readRepeat 59 = .ok (.aload_n 0, 1) := by decide +kernel
theorem dX3_readRepeat_60 : decode cX3_readRepeat 60 = .ok (.bipush 41, 2) := by decide +kernel
theorem dX3_readRepeat_62 : decode cX3_readRepeat 62 = .ok (.invokevirtual 52, 3) := by decide +kernel
theorem dX3_readRepeat_65 : decode cX3_readRepeat 65 = .ok (.aload_n 0, 1) := by decide +kernel
theorem dX3_readRepeat_66 : decode cX3_readRepeat 66 = .ok (.iload_n 3, 1) := by decide +kernel
theorem dX3_readRepeat_67 : decode cX3_readRepeat 67 = .ok (.iload_n 2, 1) := by decide +kernel
theorem dX3_readRepeat_68 : decode cX3_readRepeat 68 = .ok (.invokevirtual 73, 3) := by decide +kernel
theorem dX3_readRepeat_71 : decode cX3_readRepeat 71 = .ok (.return_, 1) := by decide +kernel
set_option maxRecDepth 20000 in
theorem ggX3_repeat_X3_add : GoodIn wsX3_repeat wsX3_add := goodIn_r _ [8, 1, 2, 3, 9, 10, 11, 12, 13, 14, 15, 16] (by decide +kernel) (by decide +kernel)
set_option maxRecDepth 20000 in
theorem gX3_repeat_X3_add : GoodIn wsX3_repeat (wsV RX3 69 RX3 yX3_add wsX3_add) := goodIn_app (goodIn_of _ (by decide +kernel)) ggX3_repeat_X3_add
theorem dX3_repeat_0 : decode cX3_repeat 0 = .ok (.aload_n 0, 1) := by decide +kernel
theorem dX3_repeat_1 : decode cX3_repeat 1 = .ok (.getfield 25, 3) := by decide +kernel
theorem dX3_repeat_4 : decode cX3_repeat 4 = .ok (.istore_n 3, 1) := by decide +kernel
theorem dX3_repeat_5 : decode cX3_repeat 5 = .ok (.iconst 1, 1) := by decide +kernel
theorem dX3_repeat_6 : decode cX3_repeat 6 = .ok (.istore 4, 2) := by decide +kernel
theorem dX3_repeat_8 : decode cX3_repeat 8 = .ok (.iload 4, 2) := by decide +kernel
theorem dX3_repeat_10 : decode cX3_repeat 10 = .ok (.iload_n 2, 1) := by decide +kernel
theorem dX3_repeat_11 : decode cX3_repeat 11 = .ok (.if_icmp .ge 42, 3) := by decide +kernel
theorem dX3_repeat_14 : decode cX3_repeat 14 = .ok (.iload_n 1, 1) := by decide +kernel
theorem dX3_repeat_15 : decode cX3_repeat 15 = .ok (.istore 5, 2) := by decide +kernel
theorem dX3_repeat_17 : decode cX3_repeat 17 = .ok (.iload 5, 2) := by decide +kernel
theorem dX3_repeat_19 : decode cX3_repeat 19 = .ok (.iload_n 3, 1) := by decide +kernel
theorem dX3_repeat_20 : decode cX3_repeat 20 = .ok (.if_icmp .ge 27, 3) := by decide +kernel
theorem dX3_repeat_23 : decode cX3_repeat 23 = .ok (.aload_n 0, 1) := by decide +kernel
theorem dX3_repeat_24 : decode cX3_repeat 24 = .ok (.aload_n 0, 1) := by decide +kernel
theorem dX3_repeat_25 : decode cX3_repeat 25 = .ok (.getfield 15, 3) := by decide +kernel
theorem dX3_repeat_28 : decode cX3_repeat 28 = .ok (.iload 5, 2) := by decide +kernel
theorem dX3_repeat_30 : decode cX3_repeat 30 = .ok (.iaload, 1) := by decide +kernel
theorem dX3_repeat_31 : decode cX3_repeat 31 = .ok (.aload_n 0, 1) := by decide +kernel
theorem dX3_repeat_32 : decode cX3_repeat 32 = .ok (.getfield 18, 3) := by decide +kernel
theorem dX3_repeat_35 : decode cX3_repeat 35 = .ok (.iload 5, 2) := by decide +kernel
theorem dX3_repeat_37 : decode cX3_repeat 37 = .ok (.iaload, 1) := by decide +kernel
theorem dX3_repeat_38 : decode cX3_repeat 38 = .ok (.invokevirtual 69, 3) := by decide +kernel
theorem dX3_repeat_41 : decode cX3_repeat 41 = .ok (.iinc 5 1, 3) := by decide +kernel
theorem dX3_repeat_44 : decode cX3_repeat 44 = .ok (.goto (-27), 3) := by decide +kernel
theorem dX3_repeat_47 : decode cX3_repeat 47 = .ok (.iinc 4 1, 3) := by decide +kernel
theorem dX3_repeat_50 : decode cX3_repeat 50 = .ok (.goto (-42), 3) := by decide +kernel
theorem dX3_repeat_53 : decode cX3_repeat 53 = .ok (.return_, 1) := by decide +kernel
theorem dX3_add_0 : decode cX3_add 0 = .ok (.aload_n 0, 1) := by decide +kernel
theorem dX3_add_1 : decode cX3_add 1 = .ok (.getfield 25, 3) := by decide +kernel
theorem dX3_add_4 : decode cX3_add 4 = .ok (.bipush 100, 2) := by decide +kernel
theorem dX3_add_6 : decode cX3_add 6 = .ok (.if_icmp .ge 33, 3) := by decide +kernel
theorem dX3_add_9 : decode cX3_add 9 = .ok (.aload_n 0, 1) := by decide +kernel
theorem dX3_add_10 : decode cX3_add 10 = .ok (.getfield 15, 3) := by decide +kernel
theorem dX3_add_13 : decode cX3_add 13 = .ok (.aload_n 0, 1) := by decide +kernel
theorem dX3_add_14 : decode cX3_add 14 = .ok (.getfield 25, 3) := by decide +kernel
theorem dX3_add_17 : decode cX3_add 17 = .ok (.iload_n 1, 1) := by decide +kernel
theorem dX3_add_18 : decode cX3_add 18 = .ok (.iastore, 1) := by decide +kernel
theorem dX3_add_19 : decode cX3_add 19 = .ok (.aload_n 0, 1) := by decide +kernel
theorem dX3_add_20 : decode cX3_add 20 = .ok (.getfield 18, 3) := by decide +kernel
theorem dX3_add_23 : decode cX3_add 23 = .ok (.aload_n 0, 1) := by decide +kernel
theorem dX3_add_24 : decode cX3_add 24 = .ok (.getfield 25, 3) := by decide +kernel
theorem dX3_add_27 : decode cX3_add 27 = .ok (.iload_n 2, 1) := by decide +kernel
theorem dX3_add_28 : decode cX3_add 28 = .ok (.iastore, 1) := by decide +kernel
theorem dX3_add_29 : decode cX3_add 29 = .ok (.aload_n 0, 1) := by decide +kernel
theorem dX3_add_30 : decode cX3_add 30 = .ok (.dup, 1) := by decide +kernel
theorem dX3_add_31 : decode cX3_add 31 = .ok (.getfield 25, 3) := by decide +kernel
theorem dX3_add_34 : decode cX3_add 34 = .ok (.iconst 1, 1) := by decide +kernel
theorem dX3_add_35 : decode cX3_add 35 = .ok (.iadd, 1) := by decide +kernel
theorem dX3_add_36 : decode cX3_add 36 = .ok (.putfield 25, 3) := by decide +kernel
theorem dX3_add_39 : decode cX3_add 39 = .ok (.return_, 1) := by decide +kernel
set_option maxRecDepth 20000 in
theorem ggX3_readGlass_X3_peek : GoodIn wsX3_readGlass wsX3_peek := goodIn_r _ [8, 2, 9, 10, 14, 15, 16, 17, 18, 19, 20, 21] (by decide +kernel) (by decide +kernel)
set_option maxRecDepth 20000 in
theorem gX3_readGlass_X3_peek : GoodIn wsX3_readGlass (wsV RX3 41 RX3 yX3_peek wsX3_peek) := goodIn_app (goodIn_of _ (by decide +kernel)) ggX3_readGlass_X3_peek
set_option maxRecDepth 20000 in
theorem ggX3_readGlass_X3_isDigit : GoodIn wsX3_readGlass wsX3_isDigit := goodIn_r _ [13] (by decide +kernel) (by decide +kernel)
set_option maxRecDepth 20000 in
theorem gX3_readGlass_X3_isDigit : GoodIn wsX3_readGlass (va_wsS RX3 55 yX3_isDigit wsX3_isDigit) := goodIn_app (goodIn_of _ (by decide +kernel)) ggX3_readGlass_X3_isDigit
theorem dX3_readGlass_0 : decode cX3_readGlass 0 = .ok (.aload_n 0, 1) := by decide +kernel
theorem dX3_readGlass_1 : decode cX3_readGlass 1 = .ok (.invokevirtual 41, 3) := by decide +kernel
theorem dX3_readGlass_4 : decode cX3_readGlass 4 = .ok (.istore_n 1, 1) := by decide +kernel
theorem dX3_readGlass_5 : decode cX3_readGlass 5 = .ok (.iload_n 1, 1) := by decide +kernel
theorem dX3_readGlass_6 : decode cX3_readGlass 6 = .ok (.invokestatic 55, 3) := by decide +kernel
theorem dX3_readGlass_9 : decode cX3_readGlass 9 = .ok (.ifCond .eq 14, 3) := by decide +kernel
theorem dX3_readGlass_12 : decode cX3_readGlass 12 = .ok (.iload_n 1, 1) := by decide +kernel
theorem dX3_readGlass_13 : decode cX3_readGlass 13 = .ok (.bipush 48, 2) := by decide +kernel
theorem dX3_readGlass_15 : decode cX3_readGlass 15 = .ok (.isub, 1) := by decide +kernel
theorem dX3_readGlass_16 : decode cX3_readGlass 16 = .ok (.aload_n 0, 1) := by decide +kernel
theorem dX3_readGlass_17 : decode cX3_readGlass 17 = .ok (.getfield 28, 3) := by decide +kernel
theorem dX3_readGlass_20 : decode cX3_readGlass 20 = .ok (.if_icmp .lt 13, 3) := by decide +kernel
theorem dX3_readGlass_23 : decode cX3_readGlass 23 = .ok (.aload_n 0, 1) := by decide +kernel
theorem dX3_readGlass_24 : decode cX3_readGlass 24 = .ok (.aload_n 0, 1) := by decide +kernel
theorem dX3_readGlass_25 : decode cX3_readGlass 25 = .ok (.getfield 31, 3) := by decide +kernel
theorem dX3_readGlass_28 : decode cX3_readGlass 28 = .ok (.putfield 34, 3) := by decide +kernel
theorem dX3_readGlass_31 : decode cX3_readGlass 31 = .ok (.iconst 0, 1) := by decide +kernel
theorem dX3_readGlass_32 : decode cX3_readGlass 32 = .ok (.ireturn, 1) := by decide +kernel
theorem dX3_readGlass_33 : decode cX3_readGlass 33 = .ok (.aload_n 0, 1) := by decide +kernel
theorem dX3_readGlass_34 : decode cX3_readGlass 34 = .ok (.dup, 1) := by decide +kernel
theorem dX3_readGlass_35 : decode cX3_readGlass 35 = .ok (.getfield 31, 3) := by decide +kernel
theorem dX3_readGlass_38 : decode cX3_readGlass 38 = .ok (.iconst 1, 1) := by decide +kernel
theorem dX3_readGlass_39 : decode cX3_readGlass 39 = .ok (.iadd, 1) := by decide +kernel
theorem dX3_readGlass_40 : decode cX3_readGlass 40 = .ok (.putfield 31, 3) := by decide +kernel
theorem dX3_readGlass_43 : decode cX3_readGlass 43 = .ok (.iload_n 1, 1) := by decide +kernel
theorem dX3_readGlass_44 : decode cX3_readGlass 44 = .ok (.bipush 48, 2) := by decide +kernel
theorem dX3_readGlass_46 : decode cX3_readGlass 46 = .ok (.isub, 1) := by decide +kernel
theorem dX3_readGlass_47 : decode cX3_readGlass 47 = .ok (.ireturn, 1) := by decide +kernel
set_option maxRecDepth 20000 in
theorem ggX3_readNumber_X3_peek : GoodIn wsX3_readNumber wsX3_peek := goodIn_r _ [7, 1, 8, 9, 17, 18, 19, 20, 21, 22, 23, 24] (by decide +kernel) (by decide +kernel)
set_option maxRecDepth 20000 in
theorem gX3_readNumber_X3_peek : GoodIn wsX3_readNumber (wsV RX3 41 RX3 yX3_peek wsX3_peek) := goodIn_app (goodIn_of _ (by decide +kernel)) ggX3_readNumber_X3_peek
set_option maxRecDepth 20000 in
theorem ggX3_readNumber_X3_isDigit : GoodIn wsX3_readNumber wsX3_isDigit := goodIn_r _ [12] (by decide +kernel) (by decide +kernel)
set_option maxRecDepth 20000 in
theorem gX3_readNumber_X3_isDigit : GoodIn wsX3_readNumber (va_wsS RX3 55 yX3_isDigit wsX3_isDigit) := goodIn_app (goodIn_of _ (by decide +kernel)) ggX3_readNumber_X3_isDigit
set_option maxRecDepth 20000 in
theorem ggX3_readNumber_X3_byteAt : GoodIn wsX3_readNumber wsX3_byteAt := goodIn_r _ [16, 8, 9, 17, 18, 19, 20, 21, 22, 23, 24] (by decide +kernel) (by decide +kernel)
set_option maxRecDepth 20000 in
theorem gX3_readNumber_X3_byteAt : GoodIn wsX3_readNumber (wsV RX3 76 RX3 yX3_byteAt wsX3_byteAt) := goodIn_app (goodIn_of _ (by decide +kernel)) ggX3_readNumber_X3_byteAt
theorem dX3_readNumber_0 : decode cX3_readNumber 0 = .ok (.aload_n 0, 1) := by decide +kernel
theorem dX3_readNumber_1 : decode cX3_readNumber 1 = .ok (.invokevirtual 41, 3) := by decide +kernel
theorem dX3_readNumber_4 : decode cX3_readNumber 4 = .ok (.invokestatic 55, 3) := by decide +kernel
theorem dX3_readNumber_7 : decode cX3_readNumber 7 = .ok (.ifCond .ne 13, 3) := by decide +kernel
theorem dX3_readNumber_10 : decode cX3_readNumber 10 = .ok (.aload_n 0, 1) := by decide +kernel
theorem dX3_readNumber_11 : decode cX3_readNumber 11 = .ok (.aload_n 0, 1) := by decide +kernel
theorem dX3_readNumber_12 : decode cX3_readNumber 12 = .ok (.getfield 31, 3) := by decide +kernel
theorem dX3_readNumber_15 : decode cX3_readNumber 15 = .ok (.putfield 34, 3) := by decide +kernel
theorem dX3_readNumber_18 : decode cX3_readNumber 18 = .ok (.iconst 0, 1) := by decide +kernel
theorem dX3_readNumber_19 : decode cX3_readNumber 19 = .ok (.ireturn, 1) := by decide +kernel
theorem dX3_readNumber_20 : decode cX3_readNumber 20 = .ok (.aload_n 0, 1) := by decide +kernel
theorem dX3_readNumber_21 : decode cX3_readNumber 21 = .ok (.getfield 31, 3) := by decide +kernel
theorem dX3_readNumber_24 : decode cX3_readNumber 24 = .ok (.istore_n 2, 1) := by decide +kernel
theorem dX3_readNumber_25 : decode cX3_readNumber 25 = .ok (.aload_n 0, 1) := by decide +kernel
theorem dX3_readNumber_26 : decode cX3_readNumber 26 = .ok (.aload_n 0, 1) := by decide +kernel
theorem dX3_readNumber_27 : decode cX3_readNumber 27 = .ok (.getfield 31, 3) := by decide +kernel
theorem dX3_readNumber_30 : decode cX3_readNumber 30 = .ok (.invokevirtual 76, 3) := by decide +kernel
theorem dX3_readNumber_33 : decode cX3_readNumber 33 = .ok (.bipush 48, 2) := by decide +kernel
theorem dX3_readNumber_35 : decode cX3_readNumber 35 = .ok (.isub, 1) := by decide +kernel
theorem dX3_readNumber_36 : decode cX3_readNumber 36 = .ok (.istore_n 3, 1) := by decide +kernel
theorem dX3_readNumber_37 : decode cX3_readNumber 37 = .ok (.aload_n 0, 1) := by decide +kernel
theorem dX3_readNumber_38 : decode cX3_readNumber 38 = .ok (.dup, 1) := by decide +kernel
theorem dX3_readNumber_39 : decode cX3_readNumber 39 = .ok (.getfield 31, 3) := by decide +kernel
theorem dX3_readNumber_42 : decode cX3_readNumber 42 = .ok (.iconst 1, 1) := by decide +kernel
theorem dX3_readNumber_43 : decode cX3_readNumber 43 = .ok (.iadd, 1) := by decide +kernel
theorem dX3_readNumber_44 : decode cX3_readNumber 44 = .ok (.putfield 31, 3) := by decide +kernel
theorem dX3_readNumber_47 : decode cX3_readNumber 47 = .ok (.aload_n 0, 1) := by decide +kernel
theorem dX3_readNumber_48 : decode cX3_readNumber 48 = .ok (.aload_n 0, 1) := by decide +kernel
theorem dX3_readNumber_49 : decode cX3_readNumber 49 = .ok (.getfield 31, 3) := by decide +kernel
theorem dX3_readNumber_52 : decode cX3_readNumber 52 = .ok (.invokevirtual 76, 3) := by decide +kernel
theorem dX3_readNumber_55 : decode cX3_readNumber 55 = .ok (.invokestatic 55, 3) := by decide +kernel
theorem dX3_readNumber_58 : decode cX3_readNumber 58 = .ok (.ifCond .eq 30, 3) := by decide +kernel
theorem dX3_readNumber_61 : decode cX3_readNumber 61 = .ok (.bipush 10, 2) := by decide +kernel
theorem dX3_readNumber_63 : decode cX3_readNumber 63 = .ok (.iload_n 3, 1) := by decide +kernel
theorem dX3_readNumber_64 : decode cX3_readNumber 64 = .ok (.imul, 1) := by decide +kernel
theorem dX3_readNumber_65 : decode cX3_readNumber 65 = .ok (.aload_n 0, 1) := by decide +kernel
theorem dX3_readNumber_66 : decode cX3_readNumber 66 = .ok (.aload_n 0, 1) := by decide +kernel
theorem dX3_readNumber_67 : decode cX3_readNumber 67 = .ok (.getfield 31, 3) := by decide +kernel
theorem dX3_readNumber_70 : decode cX3_readNumber 70 = .ok (.invokevirtual 76, 3) := by decide +kernel
theorem dX3_readNumber_73 : decode cX3_readNumber 73 = .ok (.iadd, 1) := by decide +kernel
theorem dX3_readNumber_74 : decode cX3_readNumber 74 = .ok (.bipush 48, 2) := by decide +kernel
theorem dX3_readNumber_76 : decode cX3_readNumber 76 = .ok (.isub, 1) := by decide +kernel
theorem dX3_readNumber_77 : decode cX3_readNumber 77 = .ok (.istore_n 3, 1) := by decide +kernel
theorem dX3_readNumber_78 : decode cX3_readNumber 78 = .ok (.aload_n 0, 1) := by decide +kernel
theorem dX3_readNumber_79 : decode cX3_readNumber 79 = .ok (.dup, 1) := by decide +kernel
theorem dX3_readNumber_80 : decode cX3_readNumber 80 = .ok (.getfield 31, 3) := by decide +kernel
theorem dX3_readNumber_83 : decode cX3_readNumber 83 = .ok (.iconst 1, 1) := by decide +kernel
theorem dX3_readNumber_84 : decode cX3_readNumber 84 = .ok (.iadd, 1) := by decide +kernel
theorem dX3_readNumber_85 : decode cX3_readNumber 85 = .ok (.putfield 31, 3) := by decide +kernel
theorem dX3_readNumber_88 : decode cX3_readNumber 88 = .ok (.iload_n 3, 1) := by decide +kernel
theorem dX3_readNumber_89 : decode cX3_readNumber 89 = .ok (.iconst 1, 1) := by decide +kernel
theorem dX3_readNumber_90 : decode cX3_readNumber 90 = .ok (.if_icmp .lt 8, 3) := by decide +kernel
theorem dX3_readNumber_93 : decode cX3_readNumber 93 = .ok (.iload_n 3, 1) := by decide +kernel
theorem dX3_readNumber_94 : decode cX3_readNumber 94 = .ok (.iload_n 1, 1) := by decide +kernel
theorem dX3_readNumber_95 : decode cX3_readNumber 95 = .ok (.if_icmp .le 8, 3) := by decide +kernel
theorem dX3_readNumber_98 : decode cX3_readNumber 98 = .ok (.aload_n 0, 1) := by decide +kernel
theorem dX3_readNumber_99 : decode cX3_readNumber 99 = .ok (.iload_n 2, 1) := by decide +kernel
theorem dX3_readNumber_100 : decode cX3_readNumber 100 = .ok (.putfield 34, 3) := by decide +kernel
theorem dX3_readNumber_103 : decode cX3_readNumber 103 = .ok (.iload_n 3, 1) := by decide +kernel
theorem dX3_readNumber_104 : decode cX3_readNumber 104 = .ok (.ireturn, 1) := by decide +kernel
set_option maxRecDepth 20000 in
theorem ggX3_expect_X3_peek : GoodIn wsX3_expect wsX3_peek := goodIn_r _ [7, 2, 8, 9, 10, 11, 12, 13, 14, 15, 16, 17] (by decide +kernel) (by decide +kernel)
set_option maxRecDepth 20000 in
theorem gX3_expect_X3_peek : GoodIn wsX3_expect (wsV RX3 41 RX3 yX3_peek wsX3_peek) := goodIn_app (goodIn_of _ (by decide +kernel)) ggX3_expect_X3_peek
theorem dX3_expect_0 : decode cX3_expect 0 = .ok (.aload_n 0, 1) := by decide +kernel
theorem dX3_expect_1 : decode cX3_expect 1 = .ok (.getfield 34, 3) := by decide +kernel
theorem dX3_expect_4 : decode cX3_expect 4 = .ok (.iconst (-1), 1) := by decide +kernel
theorem dX3_expect_5 : decode cX3_expect 5 = .ok (.if_icmp .eq 4, 3) := by decide +kernel
theorem dX3_expect_8 : decode cX3_expect 8 = .ok (.return_, 1) := by decide +kernel
theorem dX3_expect_9 : decode cX3_expect 9 = .ok (.aload_n 0, 1) := by decide +kernel
theorem dX3_expect_10 : decode cX3_expect 10 = .ok (.invokevirtual 41, 3) := by decide +kernel
theorem dX3_expect_13 : decode cX3_expect 13 = .ok (.iload_n 1, 1) := by decide +kernel
theorem dX3_expect_14 : decode cX3_expect 14 = .ok (.if_icmp .ne 16, 3) := by decide +kernel
theorem dX3_expect_17 : decode cX3_expect 17 = .ok (.aload_n 0, 1) := by decide +kernel
theorem dX3_expect_18 : decode cX3_expect 18 = .ok (.dup, 1) := by decide +kernel
theorem dX3_expect_19 : decode cX3_expect 19 = .ok (.getfield 31, 3) := by decide +kernel
theorem dX3_expect_22 : decode cX3_expect 22 = .ok (.iconst 1, 1) := by decide +kernel
theorem dX3_expect_23 : decode cX3_expect 23 = .ok (.iadd, 1) := by decide +kernel
theorem dX3_expect_24 : decode cX3_expect 24 = .ok (.putfield 31, 3) := by decide +kernel
theorem dX3_expect_27 : decode cX3_expect 27 = .ok (.goto 11, 3) := by decide +kernel
theorem dX3_expect_30 : decode cX3_expect 30 = .ok (.aload_n 0, 1) := by decide +kernel
theorem dX3_expect_31 : decode cX3_expect 31 = .ok (.aload_n 0, 1) := by decide +kernel
theorem dX3_expect_32 : decode cX3_expect 32 = .ok (.getfield 31, 3) := by decide +kernel
theorem dX3_expect_35 : decode cX3_expect 35 = .ok (.putfield 34, 3) := by decide +kernel
theorem dX3_expect_38 : decode cX3_expect 38 = .ok (.return_, 1) := by decide +kernel
theorem dX3_peek_0 : decode cX3_peek 0 = .ok (.aload_n 0, 1) := by decide +kernel
theorem dX3_peek_1 : decode cX3_peek 1 = .ok (.getfield 31, 3) := by decide +kernel
theorem dX3_peek_4 : decode cX3_peek 4 = .ok (.aload_n 0, 1) := by decide +kernel
theorem dX3_peek_5 : decode cX3_peek 5 = .ok (.getfield 21, 3) := by decide +kernel
theorem dX3_peek_8 : decode cX3_peek 8 = .ok (.if_icmp .ge 30, 3) := by decide +kernel
theorem dX3_peek_11 : decode cX3_peek 11 = .ok (.aload_n 0, 1) := by decide +kernel
theorem dX3_peek_12 : decode cX3_peek 12 = .ok (.getfield 11, 3) := by decide +kernel
theorem dX3_peek_15 : decode cX3_peek 15 = .ok (.aload_n 0, 1) := by decide +kernel
theorem dX3_peek_16 : decode cX3_peek 16 = .ok (.getfield 31, 3) := by decide +kernel
theorem dX3_peek_19 : decode cX3_peek 19 = .ok (.iaload, 1) := by decide +kernel
theorem dX3_peek_20 : decode cX3_peek 20 = .ok (.bipush 32, 2) := by decide +kernel
theorem dX3_peek_22 : decode cX3_peek 22 = .ok (.if_icmp .ne 16, 3) := by decide +kernel
theorem dX3_peek_25 : decode cX3_peek 25 = .ok (.aload_n 0, 1) := by decide +kernel
theorem dX3_peek_26 : decode cX3_peek 26 = .ok (.dup, 1) := by decide +kernel
theorem dX3_peek_27 : decode cX3_peek 27 = .ok (.getfield 31, 3) := by decide +kernel
theorem dX3_peek_30 : decode cX3_peek 30 = .ok (.iconst 1, 1) := by decide +kernel
theorem dX3_peek_31 : decode cX3_peek 31 = .ok (.iadd, 1) := by decide +kernel
theorem dX3_peek_32 : decode cX3_peek 32 = .ok (.putfield 31, 3) := by decide +kernel
theorem dX3_peek_35 : decode cX3_peek 35 = .ok (.goto (-35), 3) := by decide +kernel
theorem dX3_peek_38 : decode cX3_peek 38 = .ok (.aload_n 0, 1) := by decide +kernel
theorem dX3_peek_39 : decode cX3_peek 39 = .ok (.getfield 31, 3) := by decide +kernel
theorem dX3_peek_42 : decode cX3_peek 42 = .ok (.aload_n 0, 1) := by decide +kernel
theorem dX3_peek_43 : decode cX3_peek 43 = .ok (.getfield 21, 3) := by decide +kernel
theorem dX3_peek_46 : decode cX3_peek 46 = .ok (.if_icmp .ge 15, 3) := by decide +kernel
theorem dX3_peek_49 : decode cX3_peek 49 = .ok (.aload_n 0, 1) := by decide +kernel
theorem dX3_peek_50 : decode cX3_peek 50 = .ok (.getfield 11, 3) := by decide +kernel
theorem dX3_peek_53 : decode cX3_peek 53 = .ok (.aload_n 0, 1) := by decide +kernel
theorem dX3_peek_54 : decode cX3_peek 54 = .ok (.getfield 31, 3) := by decide +kernel
theorem dX3_peek_57 : decode cX3_peek 57 = .ok (.iaload, 1) := by decide +kernel
theorem dX3_peek_58 : decode cX3_peek 58 = .ok (.goto 4, 3) := by decide +kernel
theorem dX3_peek_61 : decode cX3_peek 61 = .ok (.iconst (-1), 1) := by decide +kernel
theorem dX3_peek_62 : decode cX3_peek 62 = .ok (.ireturn, 1) := by decide +kernel
theorem dX3_isDigit_0 : decode cX3_isDigit 0 = .ok (.iload_n 0, 1) := by decide +kernel
theorem dX3_isDigit_1 : decode cX3_isDigit 1 = .ok (.bipush 48, 2) := by decide +kernel
theorem dX3_isDigit_3 : decode cX3_isDigit 3 = .ok (.if_icmp .lt 13, 3) := by decide +kernel
theorem dX3_isDigit_6 : decode cX3_isDigit 6 = .ok (.iload_n 0, 1) := by decide +kernel
theorem dX3_isDigit_7 : decode cX3_isDigit 7 = .ok (.bipush 57, 2) := by decide +kernel
theorem dX3_isDigit_9 : decode cX3_isDigit 9 = .ok (.if_icmp .gt 7, 3) := by decide +kernel
theorem dX3_isDigit_12 : decode cX3_isDigit 12 = .ok (.iconst 1, 1) := by decide +kernel
theorem dX3_isDigit_13 : decode cX3_isDigit 13 = .ok (.goto 4, 3) := by decide +kernel
theorem dX3_isDigit_16 : decode cX3_isDigit 16 = .ok (.iconst 0, 1) := by decide +kernel
theorem dX3_isDigit_17 : decode cX3_isDigit 17 = .ok (.ireturn, 1) := by decide +kernel
set_option maxRecDepth 20000 in
theorem ggX4_init_X0_init : GoodIn wsX4_init wsX0_init := goodIn_r _ [18, 19, 2, 3, 20, 21, 22, 23, 24, 6, 25, 26, 27, 28, 29, 30, 31, 32, 33, 34, 35, 36, 37, 38, 39, 40, 41, 42, 43, 44, 45, 56] (by decide +kernel) (by decide +kernel)
set_option maxRecDepth 20000 in
theorem gX4_init_X0_init : GoodIn wsX4_init (wsX0_init) := ggX4_init_X0_init
set_option maxRecDepth 20000 in
theorem ggX4_init_X1_init : GoodIn wsX4_init wsX1_init := goodIn_r _ [47, 48, 2, 3, 20, 49, 61, 62, 63] (by decide +kernel) (by decide +kernel)
set_option maxRecDepth 20000 in
theorem gX4_init_X1_init_n18 : GoodIn wsX4_init (wsX1_init) := ggX4_init_X1_init
set_option maxRecDepth 20000 in
theorem ggX4_init_X3_init : GoodIn wsX4_init wsX3_init := goodIn_r _ [51, 52, 2, 3, 20, 53, 54, 55, 64, 65, 66, 67, 68, 69, 70, 71] (by decide +kernel) (by decide +kernel)
set_option maxRecDepth 20000 in
theorem gX4_init_X3_init_n25 : GoodIn wsX4_init (wsX3_init) := ggX4_init_X3_init
theorem dX4_init_0 : decode cX4_init 0 = .ok (.aload_n 0, 1) := by decide +kernel
theorem dX4_init_1 : decode cX4_init 1 = .ok (.invokespecial 1, 3) := by decide +kernel
theorem dX4_init_4 : decode cX4_init 4 = .ok (.aload_n 0, 1) := by decide +kernel
theorem dX4_init_5 : decode cX4_init 5 = .ok (.new 7, 3) := by decide +kernel
theorem dX4_init_8 : decode cX4_init 8 = .ok (.dup, 1) := by decide +kernel
theorem dX4_init_9 : decode cX4_init 9 = .ok (.invokespecial 9, 3) := by decide +kernel
theorem dX4_init_12 : decode cX4_init 12 = .ok (.putfield 10, 3) := by decide +kernel
theorem dX4_init_15 : decode cX4_init 15 = .ok (.aload_n 0, 1) := by decide +kernel
theorem dX4_init_16 : decode cX4_init 16 = .ok (.new 16, 3) := by decide +kernel
theorem dX4_init_19 : decode cX4_init 19 = .ok (.dup, 1) := by decide +kernel
theorem dX4_init_20 : decode cX4_init 20 = .ok (.invokespecial 18, 3) := by decide +kernel
theorem dX4_init_23 : decode cX4_init 23 = .ok (.putfield 19, 3) := by decide +kernel
theorem dX4_init_26 : decode cX4_init 26 = .ok (.aload_n 0, 1) := by decide +kernel
theorem dX4_init_27 : decode cX4_init 27 = .ok (.new 23, 3) := by decide +kernel
theorem dX4_init_30 : decode cX4_init 30 = .ok (.dup, 1) := by decide +kernel
theorem dX4_init_31 : decode cX4_init 31 = .ok (.invokespecial 25, 3) := by decide +kernel
theorem dX4_init_34 : decode cX4_init 34 = .ok (.putfield 26, 3) := by decide +kernel
theorem dX4_init_37 : decode cX4_init 37 = .ok (.return_, 1) := by decide +kernel
set_option maxRecDepth 20000 in
theorem ggX4_type_X3_append : GoodIn wsX4_type wsX3_append := goodIn_r _ [6, 7, 8, 17, 18, 19, 20, 21, 22, 23, 24] (by decide +kernel) (by decide +kernel)
set_option maxRecDepth 20000 in
theorem gX4_type_X3_append : GoodIn wsX4_type (wsV RX4 30 RX3 yX3_append wsX3_append) := goodIn_app (goodIn_of _ (by decide +kernel)) ggX4_type_X3_append
set_option maxRecDepth 20000 in
theorem ggX4_type_X3_length : GoodIn wsX4_type wsX3_length := goodIn_r _ [12, 7, 17, 18, 19, 20, 21, 22, 23, 24] (by decide +kernel) (by decide +kernel)
set_option maxRecDepth 20000 in
theorem gX4_type_X3_length : GoodIn wsX4_type (wsV RX4 34 RX3 yX3_length wsX3_length) := goodIn_app (goodIn_of _ (by decide +kernel)) ggX4_type_X3_length
theorem dX4_type_0 : decode cX4_type 0 = .ok (.iload_n 1, 1) := by decide +kernel
theorem dX4_type_1 : decode cX4_type 1 = .ok (.ifCond .lt 9, 3) := by decide +kernel
theorem dX4_type_4 : decode cX4_type 4 = .ok (.iload_n 1, 1) := by decide +kernel
theorem dX4_type_5 : decode cX4_type 5 = .ok (.bipush 127, 2) := by decide +kernel
theorem dX4_type_7 : decode cX4_type 7 = .ok (.if_icmp .le 6, 3) := by decide +kernel
theorem dX4_type_10 : decode cX4_type 10 = .ok (.bipush (-2), 2) := by decide +kernel
theorem dX4_type_12 : decode cX4_type 12 = .ok (.ireturn, 1) := by decide +kernel
theorem dX4_type_13 : decode cX4_type 13 = .ok (.aload_n 0, 1) := by decide +kernel
theorem dX4_type_14 : decode cX4_type 14 = .ok (.getfield 26, 3) := by decide +kernel
theorem dX4_type_17 : decode cX4_type 17 = .ok (.iload_n 1, 1) := by decide +kernel
theorem dX4_type_18 : decode cX4_type 18 = .ok (.invokevirtual 30, 3) := by decide +kernel
theorem dX4_type_21 : decode cX4_type 21 = .ok (.ifCond .eq 13, 3) := by decide +kernel
theorem dX4_type_24 : decode cX4_type 24 = .ok (.aload_n 0, 1) := by decide +kernel
theorem dX4_type_25 : decode cX4_type 25 = .ok (.getfield 26, 3) := by decide +kernel
theorem dX4_type_28 : decode cX4_type 28 = .ok (.invokevirtual 34, 3) := by decide +kernel
theorem dX4_type_31 : decode cX4_type 31 = .ok (.goto 5, 3) := by decide +kernel
theorem dX4_type_34 : decode cX4_type 34 = .ok (.bipush (-4), 2) := by decide +kernel
theorem dX4_type_36 : decode cX4_type 36 = .ok (.ireturn, 1) := by decide +kernel
set_option maxRecDepth 20000 in
theorem ggX4_clearText_X3_clear : GoodIn wsX4_clearText wsX3_clear := goodIn_r _ [6, 7, 12, 13, 14, 15, 16, 17, 18, 19] (by decide +kernel) (by decide +kernel)
set_option maxRecDepth 20000 in
theorem gX4_clearText_X3_clear : GoodIn wsX4_clearText (wsV RX4 38 RX3 yX3_clear wsX3_clear) := goodIn_app (goodIn_of _ (by decide +kernel)) ggX4_clearText_X3_clear
theorem dX4_clearText_0 : decode cX4_clearText 0 = .ok (.aload_n 0, 1) := by decide +kernel
theorem dX4_clearText_1 : decode cX4_clearText 1 = .ok (.getfield 26, 3) := by decide +kernel
theorem dX4_clearText_4 : decode cX4_clearText 4 = .ok (.invokevirtual 38, 3) := by decide +kernel
theorem dX4_clearText_7 : decode cX4_clearText 7 = .ok (.ireturn, 1) := by decide +kernel
set_option maxRecDepth 20000 in
theorem ggX4_fault_X0_glasses : GoodIn wsX4_fault wsX0_glasses := goodIn_r _ [7, 8, 73] (by decide +kernel) (by decide +kernel)
set_option maxRecDepth 20000 in
theorem gX4_fault_X0_glasses : GoodIn wsX4_fault (wsV RX4 41 RX0 yX0_glasses wsX0_glasses) := goodIn_app (goodIn_of _ (by decide +kernel)) ggX4_fault_X0_glasses
set_option maxRecDepth 20000 in
theorem ggX4_fault_X3_read : GoodIn wsX4_fault wsX3_read := goodIn_r _ [13, 14, 15, 16, 17, 18, 19, 20, 12, 21, 22, 23, 24, 25, 26, 27, 28, 29, 30, 31, 32, 33, 34, 35, 36, 37, 38, 39, 40, 41, 42, 43, 44, 45, 46, 47, 48, 49, 50, 51, 52, 53, 54, 55, 56, 57, 58, 59, 60, 61, 62, 63, 64, 65, 66, 67, 68, 74, 75, 76, 77, 78, 79, 80, 81] (by decide +kernel) (by decide +kernel)
set_option maxRecDepth 20000 in
theorem gX4_fault_X3_read : GoodIn wsX4_fault (wsV RX4 44 RX3 yX3_read wsX3_read) := goodIn_app (goodIn_of _ (by decide +kernel)) ggX4_fault_X3_read
theorem dX4_fault_0 : decode cX4_fault 0 = .ok (.aload_n 0, 1) := by decide +kernel
theorem dX4_fault_1 : decode cX4_fault 1 = .ok (.getfield 26, 3) := by decide +kernel
theorem dX4_fault_4 : decode cX4_fault 4 = .ok (.aload_n 0, 1) := by decide +kernel
theorem dX4_fault_5 : decode cX4_fault 5 = .ok (.getfield 10, 3) := by decide +kernel
theorem dX4_fault_8 : decode cX4_fault 8 = .ok (.invokevirtual 41, 3) := by decide +kernel
theorem dX4_fault_11 : decode cX4_fault 11 = .ok (.invokevirtual 44, 3) := by decide +kernel
theorem dX4_fault_14 : decode cX4_fault 14 = .ok (.ireturn, 1) := by decide +kernel
set_option maxRecDepth 20000 in
theorem ggX4_setGlasses_X1_keep : GoodIn wsX4_setGlasses wsX1_keep := goodIn_r _ [7, 8, 9, 10, 11, 12, 13, 14, 15, 16, 17, 18, 19, 20, 21, 22, 23, 24, 57, 58, 59, 60] (by decide +kernel) (by decide +kernel)
set_option maxRecDepth 20000 in
theorem gX4_setGlasses_X1_keep : GoodIn wsX4_setGlasses (wsV RX4 48 RX1 yX1_keep wsX1_keep) := goodIn_app (goodIn_of _ (by decide +kernel)) ggX4_setGlasses_X1_keep
set_option maxRecDepth 20000 in
theorem ggX4_setGlasses_X0_glasses : GoodIn wsX4_setGlasses wsX0_glasses := goodIn_r _ [28, 20, 60] (by decide +kernel) (by decide +kernel)
set_option maxRecDepth 20000 in
theorem gX4_setGlasses_X0_glasses : GoodIn wsX4_setGlasses (wsV RX4 41 RX0 yX0_glasses wsX0_glasses) := goodIn_app (goodIn_of _ (by decide +kernel)) ggX4_setGlasses_X0_glasses
set_option maxRecDepth 20000 in
theorem ggX4_setGlasses_X0_renew : GoodIn wsX4_setGlasses wsX0_renew := goodIn_r _ [32, 20, 33, 34, 35, 18, 36, 37, 38, 39, 40, 41, 42, 43, 44, 45, 46, 47, 48, 49, 50, 51, 52, 60] (by decide +kernel) (by decide +kernel)
set_option maxRecDepth 20000 in
theorem gX4_setGlasses_X0_renew : GoodIn wsX4_setGlasses (wsV RX4 52 RX0 yX0_renew wsX0_renew) := goodIn_app (goodIn_of _ (by decide +kernel)) ggX4_setGlasses_X0_renew
theorem dX4_setGlasses_0 : decode cX4_setGlasses 0 = .ok (.iload_n 1, 1) := by decide +kernel
theorem dX4_setGlasses_1 : decode cX4_setGlasses 1 = .ok (.iconst 1, 1) := by decide +kernel
theorem dX4_setGlasses_2 : decode cX4_setGlasses 2 = .ok (.if_icmp .lt 8, 3) := by decide +kernel
theorem dX4_setGlasses_5 : decode cX4_setGlasses 5 = .ok (.iload_n 1, 1) := by decide +kernel
theorem dX4_setGlasses_6 : decode cX4_setGlasses 6 = .ok (.iconst 3, 1) := by decide +kernel
theorem dX4_setGlasses_7 : decode cX4_setGlasses 7 = .ok (.if_icmp .le 6, 3) := by decide +kernel
theorem dX4_setGlasses_10 : decode cX4_setGlasses 10 = .ok (.bipush (-2), 2) := by decide +kernel
theorem dX4_setGlasses_12 : decode cX4_setGlasses 12 = .ok (.ireturn, 1) := by decide +kernel
theorem dX4_setGlasses_13 : decode cX4_setGlasses 13 = .ok (.aload_n 0, 1) := by decide +kernel
theorem dX4_setGlasses_14 : decode cX4_setGlasses 14 = .ok (.getfield 19, 3) := by decide +kernel
theorem dX4_setGlasses_17 : decode cX4_setGlasses 17 = .ok (.aload_n 0, 1) := by decide +kernel
theorem dX4_setGlasses_18 : decode cX4_setGlasses 18 = .ok (.getfield 10, 3) := by decide +kernel
theorem dX4_setGlasses_21 : decode cX4_setGlasses 21 = .ok (.invokevirtual 48, 3) := by decide +kernel
theorem dX4_setGlasses_24 : decode cX4_setGlasses 24 = .ok (.aload_n 0, 1) := by decide +kernel
theorem dX4_setGlasses_25 : decode cX4_setGlasses 25 = .ok (.getfield 10, 3) := by decide +kernel
theorem dX4_setGlasses_28 : decode cX4_setGlasses 28 = .ok (.invokevirtual 41, 3) := by decide +kernel
theorem dX4_setGlasses_31 : decode cX4_setGlasses 31 = .ok (.istore_n 2, 1) := by decide +kernel
theorem dX4_setGlasses_32 : decode cX4_setGlasses 32 = .ok (.aload_n 0, 1) := by decide +kernel
theorem dX4_setGlasses_33 : decode cX4_setGlasses 33 = .ok (.getfield 10, 3) := by decide +kernel
theorem dX4_setGlasses_36 : decode cX4_setGlasses 36 = .ok (.iload_n 1, 1) := by decide +kernel
theorem dX4_setGlasses_37 : decode cX4_setGlasses 37 = .ok (.invokevirtual 52, 3) := by decide +kernel
theorem dX4_setGlasses_40 : decode cX4_setGlasses 40 = .ok (.iload_n 2, 1) := by decide +kernel
theorem dX4_setGlasses_41 : decode cX4_setGlasses 41 = .ok (.ireturn, 1) := by decide +kernel
set_option maxRecDepth 20000 in
theorem ggX4_setAmount_X0_has : GoodIn wsX4_setAmount wsX0_has := goodIn_r _ [7, 8, 9, 10, 6, 11, 12, 53] (by decide +kernel) (by decide +kernel)
set_option maxRecDepth 20000 in
theorem gX4_setAmount_X0_has : GoodIn wsX4_setAmount (wsV RX4 56 RX0 yX0_has wsX0_has) := goodIn_app (goodIn_of _ (by decide +kernel)) ggX4_setAmount_X0_has
set_option maxRecDepth 20000 in
theorem ggX4_setAmount_X1_keep : GoodIn wsX4_setAmount wsX1_keep := goodIn_r _ [17, 18, 19, 20, 21, 22, 23, 24, 25, 26, 27, 6, 28, 12, 29, 30, 31, 32, 54, 55, 56, 53] (by decide +kernel) (by decide +kernel)
set_option maxRecDepth 20000 in
theorem gX4_setAmount_X1_keep : GoodIn wsX4_setAmount (wsV RX4 48 RX1 yX1_keep wsX1_keep) := goodIn_app (goodIn_of _ (by decide +kernel)) ggX4_setAmount_X1_keep
set_option maxRecDepth 20000 in
theorem ggX4_setAmount_X0_property : GoodIn wsX4_setAmount wsX0_property := goodIn_r _ [36, 12, 53] (by decide +kernel) (by decide +kernel)
set_option maxRecDepth 20000 in
theorem gX4_setAmount_X0_property : GoodIn wsX4_setAmount (wsV RX4 59 RX0 yX0_property wsX0_property) := goodIn_app (goodIn_of _ (by decide +kernel)) ggX4_setAmount_X0_property
set_option maxRecDepth 20000 in
theorem ggX4_setAmount_X0_fill : GoodIn wsX4_setAmount wsX0_fill := goodIn_r _ [40, 41, 42, 43, 6, 44, 12, 45, 46, 47, 48, 53] (by decide +kernel) (by decide +kernel)
set_option maxRecDepth 20000 in
theorem gX4_setAmount_X0_fill : GoodIn wsX4_setAmount (wsV RX4 63 RX0 yX0_fill wsX0_fill) := goodIn_app (goodIn_of _ (by decide +kernel)) ggX4_setAmount_X0_fill
theorem dX4_setAmount_0 : decode cX4_setAmount 0 = .ok (.aload_n 0, 1) := by decide +kernel
theorem dX4_setAmount_1 : decode cX4_setAmount 1 = .ok (.getfield 10, 3) := by decide +kernel
theorem dX4_setAmount_4 : decode cX4_setAmount 4 = .ok (.iload_n 1, 1) := by decide +kernel
theorem dX4_setAmount_5 : decode cX4_setAmount 5 = .ok (.invokevirtual 56, 3) := by decide +kernel
theorem dX4_setAmount_8 : decode cX4_setAmount 8 = .ok (.ifCond .eq 14, 3) := by decide +kernel
theorem dX4_setAmount_11 : decode cX4_setAmount 11 = .ok (.iload_n 2, 1) := by decide +kernel
theorem dX4_setAmount_12 : decode cX4_setAmount 12 = .ok (.iconst 1, 1) := by decide +kernel
theorem dX4_setAmount_13 : decode cX4_setAmount 13 = .ok (.if_icmp .lt 9, 3) := by decide +kernel
theorem dX4_setAmount_16 : decode cX4_setAmount 16 = .ok (.iload_n 2, 1) := by decide +kernel
theorem dX4_setAmount_17 : decode cX4_setAmount 17 = .ok (.bipush 12, 2) := by decide +kernel
theorem dX4_setAmount_19 : decode cX4_setAmount 19 = .ok (.if_icmp .le 6, 3) := by decide +kernel
theorem dX4_setAmount_22 : decode cX4_setAmount 22 = .ok (.bipush (-2), 2) := by decide +kernel
theorem dX4_setAmount_24 : decode cX4_setAmount 24 = .ok (.ireturn, 1) := by decide +kernel
theorem dX4_setAmount_25 : decode cX4_setAmount 25 = .ok (.aload_n 0, 1) := by decide +kernel
theorem dX4_setAmount_26 : decode cX4_setAmount 26 = .ok (.getfield 19, 3) := by decide +kernel
theorem dX4_setAmount_29 : decode cX4_setAmount 29 = .ok (.aload_n 0, 1) := by decide +kernel
theorem dX4_setAmount_30 : decode cX4_setAmount 30 = .ok (.getfield 10, 3) := by decide +kernel
theorem dX4_setAmount_33 : decode cX4_setAmount 33 = .ok (.invokevirtual 48, 3) := by decide +kernel
theorem dX4_setAmount_36 : decode cX4_setAmount 36 = .ok (.aload_n 0, 1) := by decide +kernel
theorem dX4_setAmount_37 : decode cX4_setAmount 37 = .ok (.getfield 10, 3) := by decide +kernel
theorem dX4_setAmount_40 : decode cX4_setAmount 40 = .ok (.iload_n 1, 1) := by decide +kernel
theorem dX4_setAmount_41 : decode cX4_setAmount 41 = .ok (.iconst 0, 1) := by decide +kernel
theorem dX4_setAmount_42 : decode cX4_setAmount 42 = .ok (.invokevirtual 59, 3) := by decide +kernel
theorem dX4_setAmount_45 : decode cX4_setAmount 45 = .ok (.istore_n 3, 1) := by decide +kernel
theorem dX4_setAmount_46 : decode cX4_setAmount 46 = .ok (.aload_n 0, 1) := by decide +kernel
theorem dX4_setAmount_47 : decode cX4_setAmount 47 = .ok (.getfield 10, 3) := by decide +kernel
theorem dX4_setAmount_50 : decode cX4_setAmount 50 = .ok (.iload_n 1, 1) := by decide +kernel
theorem dX4_setAmount_51 : decode cX4_setAmount 51 = .ok (.iload_n 2, 1) := by decide +kernel
theorem dX4_setAmount_52 : decode cX4_setAmount 52 = .ok (.invokevirtual 63, 3) := by decide +kernel
theorem dX4_setAmount_55 : decode cX4_setAmount 55 = .ok (.iload_n 3, 1) := by decide +kernel
theorem dX4_setAmount_56 : decode cX4_setAmount 56 = .ok (.ireturn, 1) := by decide +kernel
set_option maxRecDepth 20000 in
theorem ggX4_setKind_X0_has : GoodIn wsX4_setKind wsX0_has := goodIn_r _ [7, 8, 9, 10, 6, 11, 12, 53] (by decide +kernel) (by decide +kernel)
set_option maxRecDepth 20000 in
theorem gX4_setKind_X0_has : GoodIn wsX4_setKind (wsV RX4 56 RX0 yX0_has wsX0_has) := goodIn_app (goodIn_of _ (by decide +kernel)) ggX4_setKind_X0_has
set_option maxRecDepth 20000 in
theorem ggX4_setKind_X1_keep : GoodIn wsX4_setKind wsX1_keep := goodIn_r _ [17, 18, 19, 20, 21, 22, 23, 24, 25, 26, 27, 6, 28, 12, 29, 30, 31, 32, 54, 55, 56, 53] (by decide +kernel) (by decide +kernel)
set_option maxRecDepth 20000 in
theorem gX4_setKind_X1_keep : GoodIn wsX4_setKind (wsV RX4 48 RX1 yX1_keep wsX1_keep) := goodIn_app (goodIn_of _ (by decide +kernel)) ggX4_setKind_X1_keep
set_option maxRecDepth 20000 in
theorem ggX4_setKind_X0_property : GoodIn wsX4_setKind wsX0_property := goodIn_r _ [36, 12, 53] (by decide +kernel) (by decide +kernel)
set_option maxRecDepth 20000 in
theorem gX4_setKind_X0_property : GoodIn wsX4_setKind (wsV RX4 59 RX0 yX0_property wsX0_property) := goodIn_app (goodIn_of _ (by decide +kernel)) ggX4_setKind_X0_property
set_option maxRecDepth 20000 in
theorem ggX4_setKind_X0_makeKind : GoodIn wsX4_setKind wsX0_makeKind := goodIn_r _ [40, 41, 42, 43, 6, 44, 12, 45, 46, 47, 48, 53] (by decide +kernel) (by decide +kernel)
set_option maxRecDepth 20000 in
theorem gX4_setKind_X0_makeKind : GoodIn wsX4_setKind (wsV RX4 67 RX0 yX0_makeKind wsX0_makeKind) := goodIn_app (goodIn_of _ (by decide +kernel)) ggX4_setKind_X0_makeKind
theorem dX4_setKind_0 : decode cX4_setKind 0 = .ok (.aload_n 0, 1) := by decide +kernel
theorem dX4_setKind_1 : decode cX4_setKind 1 = .ok (.getfield 10, 3) := by decide +kernel
theorem dX4_setKind_4 : decode cX4_setKind 4 = .ok (.iload_n 1, 1) := by decide +kernel
theorem dX4_setKind_5 : decode cX4_setKind 5 = .ok (.invokevirtual 56, 3) := by decide +kernel
theorem dX4_setKind_8 : decode cX4_setKind 8 = .ok (.ifCond .eq 23, 3) := by decide +kernel
theorem dX4_setKind_11 : decode cX4_setKind 11 = .ok (.iload_n 2, 1) := by decide +kernel
theorem dX4_setKind_12 : decode cX4_setKind 12 = .ok (.ifCond .lt 19, 3) := by decide +kernel
theorem dX4_setKind_15 : decode cX4_setKind 15 = .ok (.iload_n 2, 1) := by decide +kernel
theorem dX4_setKind_16 : decode cX4_setKind 16 = .ok (.iconst 2, 1) := by decide +kernel
theorem dX4_setKind_17 : decode cX4_setKind 17 = .ok (.if_icmp .gt 14, 3) := by decide +kernel
theorem dX4_setKind_20 : decode cX4_setKind 20 = .ok (.iload_n 3, 1) := by decide +kernel
theorem dX4_setKind_21 : decode cX4_setKind 21 = .ok (.iconst 1, 1) := by decide +kernel
theorem dX4_setKind_22 : decode cX4_setKind 22 = .ok (.if_icmp .lt 9, 3) := by decide +kernel
theorem dX4_setKind_25 : decode cX4_setKind 25 = .ok (.iload_n 3, 1) := by decide +kernel
theorem dX4_setKind_26 : decode cX4_setKind 26 = .ok (.bipush 9, 2) := by decide +kernel
theorem dX4_setKind_28 : decode cX4_setKind 28 = .ok (.if_icmp .le 6, 3) := by decide +kernel
theorem dX4_setKind_31 : decode cX4_setKind 31 = .ok (.bipush (-2), 2) := by decide +kernel
theorem dX4_setKind_33 : decode cX4_setKind 33 = .ok (.ireturn, 1) := by decide +kernel
theorem dX4_setKind_34 : decode cX4_setKind 34 = .ok (.aload_n 0, 1) := by decide +kernel
theorem dX4_setKind_35 : decode cX4_setKind 35 = .ok (.getfield 19, 3) := by decide +kernel
theorem dX4_setKind_38 : decode cX4_setKind 38 = .ok (.aload_n 0, 1) := by decide +kernel
theorem dX4_setKind_39 : decode cX4_setKind 39 = .ok (.getfield 10, 3) := by decide +kernel
theorem dX4_setKind_42 : decode cX4_setKind 42 = .ok (.invokevirtual 48, 3) := by decide +kernel
theorem dX4_setKind_45 : decode cX4_setKind 45 = .ok (.aload_n 0, 1) := by decide +kernel
theorem dX4_setKind_46 : decode cX4_setKind 46 = .ok (.getfield 10, 3) := by decide +kernel
theorem dX4_setKind_49 : decode cX4_setKind 49 = .ok (.iload_n 1, 1) := by decide +kernel
theorem dX4_setKind_50 : decode cX4_setKind 50 = .ok (.iconst 2, 1) := by decide +kernel
theorem dX4_setKind_51 : decode cX4_setKind 51 = .ok (.invokevirtual 59, 3) := by decide +kernel
theorem dX4_setKind_54 : decode cX4_setKind 54 = .ok (.istore 4, 2) := by decide +kernel
theorem dX4_setKind_56 : decode cX4_setKind 56 = .ok (.aload_n 0, 1) := by decide +kernel
theorem dX4_setKind_57 : decode cX4_setKind 57 = .ok (.getfield 10, 3) := by decide +kernel
theorem dX4_setKind_60 : decode cX4_setKind 60 = .ok (.iload_n 1, 1) := by decide +kernel
theorem dX4_setKind_61 : decode cX4_setKind 61 = .ok (.iload_n 2, 1) := by decide +kernel
theorem dX4_setKind_62 : decode cX4_setKind 62 = .ok (.iload_n 3, 1) := by decide +kernel
theorem dX4_setKind_63 : decode cX4_setKind 63 = .ok (.invokevirtual 67, 3) := by decide +kernel
theorem dX4_setKind_66 : decode cX4_setKind 66 = .ok (.iload 4, 2) := by decide +kernel
theorem dX4_setKind_68 : decode cX4_setKind 68 = .ok (.ireturn, 1) := by decide +kernel
set_option maxRecDepth 20000 in
theorem ggX4_fix_X0_has : GoodIn wsX4_fix wsX0_has := goodIn_r _ [7, 8, 9, 10, 6, 11, 12, 51] (by decide +kernel) (by decide +kernel)
set_option maxRecDepth 20000 in
theorem gX4_fix_X0_has : GoodIn wsX4_fix (wsV RX4 56 RX0 yX0_has wsX0_has) := goodIn_app (goodIn_of _ (by decide +kernel)) ggX4_fix_X0_has
set_option maxRecDepth 20000 in
theorem ggX4_fix_X0_property : GoodIn wsX4_fix wsX0_property := goodIn_r _ [16, 12, 51] (by decide +kernel) (by decide +kernel)
set_option maxRecDepth 20000 in
theorem gX4_fix_X0_property : GoodIn wsX4_fix (wsV RX4 59 RX0 yX0_property wsX0_property) := goodIn_app (goodIn_of _ (by decide +kernel)) ggX4_fix_X0_property
set_option maxRecDepth 20000 in
theorem ggX4_fix_X1_keep : GoodIn wsX4_fix wsX1_keep := goodIn_r _ [21, 22, 23, 24, 25, 26, 27, 28, 29, 30, 31, 6, 32, 12, 33, 34, 35, 36, 52, 53, 54, 51] (by decide +kernel) (by decide +kernel)
set_option maxRecDepth 20000 in
theorem gX4_fix_X1_keep : GoodIn wsX4_fix (wsV RX4 48 RX1 yX1_keep wsX1_keep) := goodIn_app (goodIn_of _ (by decide +kernel)) ggX4_fix_X1_keep
set_option maxRecDepth 20000 in
theorem ggX4_fix_X0_join : GoodIn wsX4_fix wsX0_join := goodIn_r _ [40, 41, 26, 27, 28, 8, 9, 10, 6, 11, 12, 42, 14, 15, 16, 43, 44, 45, 46, 51] (by decide +kernel) (by decide +kernel)
set_option maxRecDepth 20000 in
theorem gX4_fix_X0_join : GoodIn wsX4_fix (wsV RX4 71 RX0 yX0_join wsX0_join) := goodIn_app (goodIn_of _ (by decide +kernel)) ggX4_fix_X0_join
theorem dX4_fix_0 : decode cX4_fix 0 = .ok (.aload_n 0, 1) := by decide +kernel
theorem dX4_fix_1 : decode cX4_fix 1 = .ok (.getfield 10, 3) := by decide +kernel
theorem dX4_fix_4 : decode cX4_fix 4 = .ok (.iload_n 1, 1) := by decide +kernel
theorem dX4_fix_5 : decode cX4_fix 5 = .ok (.invokevirtual 56, 3) := by decide +kernel
theorem dX4_fix_8 : decode cX4_fix 8 = .ok (.ifCond .eq 14, 3) := by decide +kernel
theorem dX4_fix_11 : decode cX4_fix 11 = .ok (.aload_n 0, 1) := by decide +kernel
theorem dX4_fix_12 : decode cX4_fix 12 = .ok (.getfield 10, 3) := by decide +kernel
theorem dX4_fix_15 : decode cX4_fix 15 = .ok (.iload_n 2, 1) := by decide +kernel
theorem dX4_fix_16 : decode cX4_fix 16 = .ok (.invokevirtual 56, 3) := by decide +kernel
theorem dX4_fix_19 : decode cX4_fix 19 = .ok (.ifCond .ne 6, 3) := by decide +kernel
theorem dX4_fix_22 : decode cX4_fix 22 = .ok (.bipush (-2), 2) := by decide +kernel
theorem dX4_fix_24 : decode cX4_fix 24 = .ok (.ireturn, 1) := by decide +kernel
theorem dX4_fix_25 : decode cX4_fix 25 = .ok (.aload_n 0, 1) := by decide +kernel
theorem dX4_fix_26 : decode cX4_fix 26 = .ok (.getfield 10, 3) := by decide +kernel
theorem dX4_fix_29 : decode cX4_fix 29 = .ok (.iload_n 1, 1) := by decide +kernel
theorem dX4_fix_30 : decode cX4_fix 30 = .ok (.iconst 5, 1) := by decide +kernel
theorem dX4_fix_31 : decode cX4_fix 31 = .ok (.invokevirtual 59, 3) := by decide +kernel
theorem dX4_fix_34 : decode cX4_fix 34 = .ok (.istore_n 3, 1) := by decide +kernel
theorem dX4_fix_35 : decode cX4_fix 35 = .ok (.aload_n 0, 1) := by decide +kernel
theorem dX4_fix_36 : decode cX4_fix 36 = .ok (.getfield 10, 3) := by decide +kernel
theorem dX4_fix_39 : decode cX4_fix 39 = .ok (.iload_n 2, 1) := by decide +kernel
theorem dX4_fix_40 : decode cX4_fix 40 = .ok (.iconst 5, 1) := by decide +kernel
theorem dX4_fix_41 : decode cX4_fix 41 = .ok (.invokevirtual 59, 3) := by decide +kernel
theorem dX4_fix_44 : decode cX4_fix 44 = .ok (.istore 4, 2) := by decide +kernel
theorem dX4_fix_46 : decode cX4_fix 46 = .ok (.iload_n 3, 1) := by decide +kernel
theorem dX4_fix_47 : decode cX4_fix 47 = .ok (.iload 4, 2) := by decide +kernel
theorem dX4_fix_49 : decode cX4_fix 49 = .ok (.if_icmp .ne 6, 3) := by decide +kernel
theorem dX4_fix_52 : decode cX4_fix 52 = .ok (.bipush (-3), 2) := by decide +kernel
theorem dX4_fix_54 : decode cX4_fix 54 = .ok (.ireturn, 1) := by decide +kernel
theorem dX4_fix_55 : decode cX4_fix 55 = .ok (.aload_n 0, 1) := by decide +kernel
theorem dX4_fix_56 : decode cX4_fix 56 = .ok (.getfield 19, 3) := by decide +kernel
theorem dX4_fix_59 : decode cX4_fix 59 = .ok (.aload_n 0, 1) := by decide +kernel
theorem dX4_fix_60 : decode cX4_fix 60 = .ok (.getfield 10, 3) := by decide +kernel
theorem dX4_fix_63 : decode cX4_fix 63 = .ok (.invokevirtual 48, 3) := by decide +kernel
theorem dX4_fix_66 : decode cX4_fix 66 = .ok (.aload_n 0, 1) := by decide +kernel
theorem dX4_fix_67 : decode cX4_fix 67 = .ok (.getfield 10, 3) := by decide +kernel
theorem dX4_fix_70 : decode cX4_fix 70 = .ok (.iload_n 3, 1) := by decide +kernel
theorem dX4_fix_71 : decode cX4_fix 71 = .ok (.iload 4, 2) := by decide +kernel
theorem dX4_fix_73 : decode cX4_fix 73 = .ok (.invokevirtual 71, 3) := by decide +kernel
theorem dX4_fix_76 : decode cX4_fix 76 = .ok (.aload_n 0, 1) := by decide +kernel
theorem dX4_fix_77 : decode cX4_fix 77 = .ok (.getfield 10, 3) := by decide +kernel
theorem dX4_fix_80 : decode cX4_fix 80 = .ok (.iload_n 1, 1) := by decide +kernel
theorem dX4_fix_81 : decode cX4_fix 81 = .ok (.iconst 5, 1) := by decide +kernel
theorem dX4_fix_82 : decode cX4_fix 82 = .ok (.invokevirtual 59, 3) := by decide +kernel
theorem dX4_fix_85 : decode cX4_fix 85 = .ok (.ireturn, 1) := by decide +kernel
set_option maxRecDepth 20000 in
theorem ggX4_loosen_X0_has : GoodIn wsX4_loosen wsX0_has := goodIn_r _ [7, 8, 9, 10, 6, 11, 12, 58] (by decide +kernel) (by decide +kernel)
set_option maxRecDepth 20000 in
theorem gX4_loosen_X0_has : GoodIn wsX4_loosen (wsV RX4 56 RX0 yX0_has wsX0_has) := goodIn_app (goodIn_of _ (by decide +kernel)) ggX4_loosen_X0_has
set_option maxRecDepth 20000 in
theorem ggX4_loosen_X0_property : GoodIn wsX4_loosen wsX0_property := goodIn_r _ [16, 12, 58] (by decide +kernel) (by decide +kernel)
set_option maxRecDepth 20000 in
theorem gX4_loosen_X0_property : GoodIn wsX4_loosen (wsV RX4 59 RX0 yX0_property wsX0_property) := goodIn_app (goodIn_of _ (by decide +kernel)) ggX4_loosen_X0_property
set_option maxRecDepth 20000 in
theorem ggX4_loosen_X0_glassesOf : GoodIn wsX4_loosen wsX0_glassesOf := goodIn_r _ [20, 8, 9, 10, 6, 11, 12, 21, 14, 15, 16, 58] (by decide +kernel) (by decide +kernel)
set_option maxRecDepth 20000 in
theorem gX4_loosen_X0_glassesOf : GoodIn wsX4_loosen (wsV RX4 74 RX0 yX0_glassesOf wsX0_glassesOf) := goodIn_app (goodIn_of _ (by decide +kernel)) ggX4_loosen_X0_glassesOf
set_option maxRecDepth 20000 in
theorem ggX4_loosen_X1_keep : GoodIn wsX4_loosen wsX1_keep := goodIn_r _ [26, 27, 28, 29, 30, 31, 32, 33, 34, 35, 36, 6, 37, 12, 38, 39, 40, 41, 59, 60, 61, 58] (by decide +kernel) (by decide +kernel)
set_option maxRecDepth 20000 in
theorem gX4_loosen_X1_keep : GoodIn wsX4_loosen (wsV RX4 48 RX1 yX1_keep wsX1_keep) := goodIn_app (goodIn_of _ (by decide +kernel)) ggX4_loosen_X1_keep
set_option maxRecDepth 20000 in
theorem ggX4_loosen_X0_scatter : GoodIn wsX4_loosen wsX0_scatter := goodIn_r _ [45, 8, 9, 10, 6, 11, 12, 21, 14, 15, 16, 46, 47, 48, 49, 58] (by decide +kernel) (by decide +kernel)
set_option maxRecDepth 20000 in
theorem gX4_loosen_X0_scatter : GoodIn wsX4_loosen (wsV RX4 77 RX0 yX0_scatter wsX0_scatter) := goodIn_app (goodIn_of _ (by decide +kernel)) ggX4_loosen_X0_scatter
set_option maxRecDepth 20000 in
theorem ggX4_loosen_X0_stacks : GoodIn wsX4_loosen wsX0_stacks := goodIn_r _ [53, 8, 9, 10, 6, 11, 12, 21, 14, 15, 16, 58] (by decide +kernel) (by decide +kernel)
set_option maxRecDepth 20000 in
theorem gX4_loosen_X0_stacks : GoodIn wsX4_loosen (wsV RX4 80 RX0 yX0_stacks wsX0_stacks) := goodIn_app (goodIn_of _ (by decide +kernel)) ggX4_loosen_X0_stacks
theorem dX4_loosen_0 : decode cX4_loosen 0 = .ok (.aload_n 0, 1) := by decide +kernel
theorem dX4_loosen_1 : decode cX4_loosen 1 = .ok (.getfield 10, 3) := by decide +kernel
theorem dX4_loosen_4 : decode cX4_loosen 4 = .ok (.iload_n 1, 1) := by decide +kernel
theorem dX4_loosen_5 : decode cX4_loosen 5 = .ok (.invokevirtual 56, 3) := by decide +kernel
theorem dX4_loosen_8 : decode cX4_loosen 8 = .ok (.ifCond .ne 6, 3) := by decide +kernel
theorem dX4_loosen_11 : decode cX4_loosen 11 = .ok (.bipush (-2), 2) := by decide +kernel
theorem dX4_loosen_13 : decode cX4_loosen 13 = .ok (.ireturn, 1) := by decide +kernel
theorem dX4_loosen_14 : decode cX4_loosen 14 = .ok (.aload_n 0, 1) := by decide +kernel
theorem dX4_loosen_15 : decode cX4_loosen 15 = .ok (.getfield 10, 3) := by decide +kernel
theorem dX4_loosen_18 : decode cX4_loosen 18 = .ok (.iload_n 1, 1) := by decide +kernel
theorem dX4_loosen_19 : decode cX4_loosen 19 = .ok (.iconst 5, 1) := by decide +kernel
theorem dX4_loosen_20 : decode cX4_loosen 20 = .ok (.invokevirtual 59, 3) := by decide +kernel
theorem dX4_loosen_23 : decode cX4_loosen 23 = .ok (.istore_n 2, 1) := by decide +kernel
theorem dX4_loosen_24 : decode cX4_loosen 24 = .ok (.aload_n 0, 1) := by decide +kernel
theorem dX4_loosen_25 : decode cX4_loosen 25 = .ok (.getfield 10, 3) := by decide +kernel
theorem dX4_loosen_28 : decode cX4_loosen 28 = .ok (.iload_n 2, 1) := by decide +kernel
theorem dX4_loosen_29 : decode cX4_loosen 29 = .ok (.invokevirtual 74, 3) := by decide +kernel
theorem dX4_loosen_32 : decode cX4_loosen 32 = .ok (.iconst 1, 1) := by decide +kernel
theorem dX4_loosen_33 : decode cX4_loosen 33 = .ok (.if_icmp .ne 6, 3) := by decide +kernel
theorem dX4_loosen_36 : decode cX4_loosen 36 = .ok (.bipush (-3), 2) := by decide +kernel
theorem dX4_loosen_38 : decode cX4_loosen 38 = .ok (.ireturn, 1) := by decide +kernel
theorem dX4_loosen_39 : decode cX4_loosen 39 = .ok (.aload_n 0, 1) := by decide +kernel
theorem dX4_loosen_40 : decode cX4_loosen 40 = .ok (.getfield 19, 3) := by decide +kernel
theorem dX4_loosen_43 : decode cX4_loosen 43 = .ok (.aload_n 0, 1) := by decide +kernel
theorem dX4_loosen_44 : decode cX4_loosen 44 = .ok (.getfield 10, 3) := by decide +kernel
theorem dX4_loosen_47 : decode cX4_loosen 47 = .ok (.invokevirtual 48, 3) := by decide +kernel
theorem dX4_loosen_50 : decode cX4_loosen 50 = .ok (.aload_n 0, 1) := by decide +kernel
theorem dX4_loosen_51 : decode cX4_loosen 51 = .ok (.getfield 10, 3) := by decide +kernel
theorem dX4_loosen_54 : decode cX4_loosen 54 = .ok (.iload_n 2, 1) := by decide +kernel
theorem dX4_loosen_55 : decode cX4_loosen 55 = .ok (.invokevirtual 77, 3) := by decide +kernel
theorem dX4_loosen_58 : decode cX4_loosen 58 = .ok (.aload_n 0, 1) := by decide +kernel
theorem dX4_loosen_59 : decode cX4_loosen 59 = .ok (.getfield 10, 3) := by decide +kernel
theorem dX4_loosen_62 : decode cX4_loosen 62 = .ok (.invokevirtual 80, 3) := by decide +kernel
theorem dX4_loosen_65 : decode cX4_loosen 65 = .ok (.ireturn, 1) := by decide +kernel
set_option maxRecDepth 20000 in
theorem ggX4_turn_X0_has : GoodIn wsX4_turn wsX0_has := goodIn_r _ [7, 8, 9, 10, 6, 11, 12, 54] (by decide +kernel) (by decide +kernel)
set_option maxRecDepth 20000 in
theorem gX4_turn_X0_has : GoodIn wsX4_turn (wsV RX4 56 RX0 yX0_has wsX0_has) := goodIn_app (goodIn_of _ (by decide +kernel)) ggX4_turn_X0_has
set_option maxRecDepth 20000 in
theorem ggX4_turn_X1_keep : GoodIn wsX4_turn wsX1_keep := goodIn_r _ [17, 18, 19, 20, 21, 22, 23, 24, 25, 26, 27, 6, 28, 12, 29, 30, 31, 32, 55, 56, 57, 54] (by decide +kernel) (by decide +kernel)
set_option maxRecDepth 20000 in
theorem gX4_turn_X1_keep : GoodIn wsX4_turn (wsV RX4 48 RX1 yX1_keep wsX1_keep) := goodIn_app (goodIn_of _ (by decide +kernel)) ggX4_turn_X1_keep
set_option maxRecDepth 20000 in
theorem ggX4_turn_X0_turnStackOf : GoodIn wsX4_turn wsX0_turnStackOf := goodIn_r _ [36, 12, 37, 38, 39, 6, 40, 8, 9, 10, 11, 41, 42, 43, 44, 45, 46, 47, 48, 54] (by decide +kernel) (by decide +kernel)
set_option maxRecDepth 20000 in
theorem gX4_turn_X0_turnStackOf : GoodIn wsX4_turn (wsV RX4 83 RX0 yX0_turnStackOf wsX0_turnStackOf) := goodIn_app (goodIn_of _ (by decide +kernel)) ggX4_turn_X0_turnStackOf
set_option maxRecDepth 20000 in
theorem ggX4_turn_X0_property : GoodIn wsX4_turn wsX0_property := goodIn_r _ [40, 12, 54] (by decide +kernel) (by decide +kernel)
set_option maxRecDepth 20000 in
theorem gX4_turn_X0_property : GoodIn wsX4_turn (wsV RX4 59 RX0 yX0_property wsX0_property) := goodIn_app (goodIn_of _ (by decide +kernel)) ggX4_turn_X0_property
theorem dX4_turn_0 : decode cX4_turn 0 = .ok (.aload_n 0, 1) := by decide +kernel
theorem dX4_turn_1 : decode cX4_turn 1 = .ok (.getfield 10, 3) := by decide +kernel
theorem dX4_turn_4 : decode cX4_turn 4 = .ok (.iload_n 1, 1) := by decide +kernel
theorem dX4_turn_5 : decode cX4_turn 5 = .ok (.invokevirtual 56, 3) := by decide +kernel
theorem dX4_turn_8 : decode cX4_turn 8 = .ok (.ifCond .ne 6, 3) := by decide +kernel
theorem dX4_turn_11 : decode cX4_turn 11 = .ok (.bipush (-2), 2) := by decide +kernel
theorem dX4_turn_13 : decode cX4_turn 13 = .ok (.ireturn, 1) := by decide +kernel
theorem dX4_turn_14 : decode cX4_turn 14 = .ok (.aload_n 0, 1) := by decide +kernel
theorem dX4_turn_15 : decode cX4_turn 15 = .ok (.getfield 19, 3) := by decide +kernel
theorem dX4_turn_18 : decode cX4_turn 18 = .ok (.aload_n 0, 1) := by decide +kernel
theorem dX4_turn_19 : decode cX4_turn 19 = .ok (.getfield 10, 3) := by decide +kernel
theorem dX4_turn_22 : decode cX4_turn 22 = .ok (.invokevirtual 48, 3) := by decide +kernel
theorem dX4_turn_25 : decode cX4_turn 25 = .ok (.aload_n 0, 1) := by decide +kernel
theorem dX4_turn_26 : decode cX4_turn 26 = .ok (.getfield 10, 3) := by decide +kernel
theorem dX4_turn_29 : decode cX4_turn 29 = .ok (.iload_n 1, 1) := by decide +kernel
theorem dX4_turn_30 : decode cX4_turn 30 = .ok (.invokevirtual 83, 3) := by decide +kernel
theorem dX4_turn_33 : decode cX4_turn 33 = .ok (.aload_n 0, 1) := by decide +kernel
theorem dX4_turn_34 : decode cX4_turn 34 = .ok (.getfield 10, 3) := by decide +kernel
