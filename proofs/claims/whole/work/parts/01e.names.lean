theorem dX5_add_16 : decode cX5_add 16 = .ok (.iadd, 1) := by decide +kernel
theorem dX5_add_17 : decode cX5_add 17 = .ok (.putfield 13, 3) := by decide +kernel
theorem dX5_add_20 : decode cX5_add 20 = .ok (.aload_n 0, 1) := by decide +kernel
theorem dX5_add_21 : decode cX5_add 21 = .ok (.getfield 13, 3) := by decide +kernel
theorem dX5_add_24 : decode cX5_add 24 = .ok (.ireturn, 1) := by decide +kernel
theorem dX5_tideAt_0 : decode cX5_tideAt 0 = .ok (.iload_n 0, 1) := by decide +kernel
theorem dX5_tideAt_1 : decode cX5_tideAt 1 = .ok (.sipush 512, 3) := by decide +kernel
theorem dX5_tideAt_4 : decode cX5_tideAt 4 = .ok (.idiv, 1) := by decide +kernel
theorem dX5_tideAt_5 : decode cX5_tideAt 5 = .ok (.ireturn, 1) := by decide +kernel
set_option maxRecDepth 20000 in
theorem ggX5_lastMoment_X5_moment : GoodIn wsX5_lastMoment wsX5_moment := goodIn_r _ [6] (by decide +kernel) (by decide +kernel)
set_option maxRecDepth 20000 in
theorem gX5_lastMoment_X5_moment : GoodIn wsX5_lastMoment (va_wsS RX5 17 yX5_moment wsX5_moment) := goodIn_app (goodIn_of _ (by decide +kernel)) ggX5_lastMoment_X5_moment
theorem dX5_lastMoment_0 : decode cX5_lastMoment 0 = .ok (.aload_n 0, 1) := by decide +kernel
theorem dX5_lastMoment_1 : decode cX5_lastMoment 1 = .ok (.getfield 13, 3) := by decide +kernel
theorem dX5_lastMoment_4 : decode cX5_lastMoment 4 = .ok (.ifCond .ne 7, 3) := by decide +kernel
theorem dX5_lastMoment_7 : decode cX5_lastMoment 7 = .ok (.iconst (-1), 1) := by decide +kernel
theorem dX5_lastMoment_8 : decode cX5_lastMoment 8 = .ok (.goto 23, 3) := by decide +kernel
theorem dX5_lastMoment_11 : decode cX5_lastMoment 11 = .ok (.aload_n 0, 1) := by decide +kernel
theorem dX5_lastMoment_12 : decode cX5_lastMoment 12 = .ok (.getfield 13, 3) := by decide +kernel
theorem dX5_lastMoment_15 : decode cX5_lastMoment 15 = .ok (.iconst 1, 1) := by decide +kernel
theorem dX5_lastMoment_16 : decode cX5_lastMoment 16 = .ok (.isub, 1) := by decide +kernel
theorem dX5_lastMoment_17 : decode cX5_lastMoment 17 = .ok (.aload_n 0, 1) := by decide +kernel
theorem dX5_lastMoment_18 : decode cX5_lastMoment 18 = .ok (.getfield 9, 3) := by decide +kernel
theorem dX5_lastMoment_21 : decode cX5_lastMoment 21 = .ok (.aload_n 0, 1) := by decide +kernel
theorem dX5_lastMoment_22 : decode cX5_lastMoment 22 = .ok (.getfield 13, 3) := by decide +kernel
theorem dX5_lastMoment_25 : decode cX5_lastMoment 25 = .ok (.iconst 1, 1) := by decide +kernel
theorem dX5_lastMoment_26 : decode cX5_lastMoment 26 = .ok (.isub, 1) := by decide +kernel
theorem dX5_lastMoment_27 : decode cX5_lastMoment 27 = .ok (.iaload, 1) := by decide +kernel
theorem dX5_lastMoment_28 : decode cX5_lastMoment 28 = .ok (.invokestatic 17, 3) := by decide +kernel
theorem dX5_lastMoment_31 : decode cX5_lastMoment 31 = .ok (.ireturn, 1) := by decide +kernel
set_option maxRecDepth 20000 in
theorem ggX5_soonestEnd_X5_tideAt : GoodIn wsX5_soonestEnd wsX5_tideAt := goodIn_r _ [6] (by decide +kernel) (by decide +kernel)
set_option maxRecDepth 20000 in
theorem gX5_soonestEnd_X5_tideAt : GoodIn wsX5_soonestEnd (va_wsS RX5 21 yX5_tideAt wsX5_tideAt) := goodIn_app (goodIn_of _ (by decide +kernel)) ggX5_soonestEnd_X5_tideAt
set_option maxRecDepth 20000 in
theorem ggX5_soonestEnd_X5_moment : GoodIn wsX5_soonestEnd wsX5_moment := goodIn_r _ [9] (by decide +kernel) (by decide +kernel)
set_option maxRecDepth 20000 in
theorem gX5_soonestEnd_X5_moment : GoodIn wsX5_soonestEnd (va_wsS RX5 17 yX5_moment wsX5_moment) := goodIn_app (goodIn_of _ (by decide +kernel)) ggX5_soonestEnd_X5_moment
theorem dX5_soonestEnd_0 : decode cX5_soonestEnd 0 = .ok (.iload_n 1, 1) := by decide +kernel
theorem dX5_soonestEnd_1 : decode cX5_soonestEnd 1 = .ok (.invokestatic 21, 3) := by decide +kernel
theorem dX5_soonestEnd_4 : decode cX5_soonestEnd 4 = .ok (.istore_n 3, 1) := by decide +kernel
theorem dX5_soonestEnd_5 : decode cX5_soonestEnd 5 = .ok (.iload_n 3, 1) := by decide +kernel
theorem dX5_soonestEnd_6 : decode cX5_soonestEnd 6 = .ok (.aload_n 0, 1) := by decide +kernel
theorem dX5_soonestEnd_7 : decode cX5_soonestEnd 7 = .ok (.getfield 13, 3) := by decide +kernel
theorem dX5_soonestEnd_10 : decode cX5_soonestEnd 10 = .ok (.if_icmp .ge 23, 3) := by decide +kernel
theorem dX5_soonestEnd_13 : decode cX5_soonestEnd 13 = .ok (.iload_n 1, 1) := by decide +kernel
theorem dX5_soonestEnd_14 : decode cX5_soonestEnd 14 = .ok (.sipush 512, 3) := by decide +kernel
theorem dX5_soonestEnd_17 : decode cX5_soonestEnd 17 = .ok (.irem, 1) := by decide +kernel
theorem dX5_soonestEnd_18 : decode cX5_soonestEnd 18 = .ok (.iload_n 2, 1) := by decide +kernel
theorem dX5_soonestEnd_19 : decode cX5_soonestEnd 19 = .ok (.iadd, 1) := by decide +kernel
theorem dX5_soonestEnd_20 : decode cX5_soonestEnd 20 = .ok (.aload_n 0, 1) := by decide +kernel
theorem dX5_soonestEnd_21 : decode cX5_soonestEnd 21 = .ok (.getfield 9, 3) := by decide +kernel
theorem dX5_soonestEnd_24 : decode cX5_soonestEnd 24 = .ok (.iload_n 3, 1) := by decide +kernel
theorem dX5_soonestEnd_25 : decode cX5_soonestEnd 25 = .ok (.iaload, 1) := by decide +kernel
theorem dX5_soonestEnd_26 : decode cX5_soonestEnd 26 = .ok (.if_icmp .gt 7, 3) := by decide +kernel
theorem dX5_soonestEnd_29 : decode cX5_soonestEnd 29 = .ok (.iload_n 1, 1) := by decide +kernel
theorem dX5_soonestEnd_30 : decode cX5_soonestEnd 30 = .ok (.iload_n 2, 1) := by decide +kernel
theorem dX5_soonestEnd_31 : decode cX5_soonestEnd 31 = .ok (.iadd, 1) := by decide +kernel
theorem dX5_soonestEnd_32 : decode cX5_soonestEnd 32 = .ok (.ireturn, 1) := by decide +kernel
theorem dX5_soonestEnd_33 : decode cX5_soonestEnd 33 = .ok (.iload_n 3, 1) := by decide +kernel
theorem dX5_soonestEnd_34 : decode cX5_soonestEnd 34 = .ok (.iconst 1, 1) := by decide +kernel
theorem dX5_soonestEnd_35 : decode cX5_soonestEnd 35 = .ok (.iadd, 1) := by decide +kernel
theorem dX5_soonestEnd_36 : decode cX5_soonestEnd 36 = .ok (.istore 4, 2) := by decide +kernel
theorem dX5_soonestEnd_38 : decode cX5_soonestEnd 38 = .ok (.iload 4, 2) := by decide +kernel
theorem dX5_soonestEnd_40 : decode cX5_soonestEnd 40 = .ok (.aload_n 0, 1) := by decide +kernel
theorem dX5_soonestEnd_41 : decode cX5_soonestEnd 41 = .ok (.getfield 13, 3) := by decide +kernel
theorem dX5_soonestEnd_44 : decode cX5_soonestEnd 44 = .ok (.if_icmp .ge 27, 3) := by decide +kernel
theorem dX5_soonestEnd_47 : decode cX5_soonestEnd 47 = .ok (.iload_n 2, 1) := by decide +kernel
theorem dX5_soonestEnd_48 : decode cX5_soonestEnd 48 = .ok (.aload_n 0, 1) := by decide +kernel
theorem dX5_soonestEnd_49 : decode cX5_soonestEnd 49 = .ok (.getfield 9, 3) := by decide +kernel
theorem dX5_soonestEnd_52 : decode cX5_soonestEnd 52 = .ok (.iload 4, 2) := by decide +kernel
theorem dX5_soonestEnd_54 : decode cX5_soonestEnd 54 = .ok (.iaload, 1) := by decide +kernel
theorem dX5_soonestEnd_55 : decode cX5_soonestEnd 55 = .ok (.if_icmp .gt 10, 3) := by decide +kernel
theorem dX5_soonestEnd_58 : decode cX5_soonestEnd 58 = .ok (.iload 4, 2) := by decide +kernel
theorem dX5_soonestEnd_60 : decode cX5_soonestEnd 60 = .ok (.iload_n 2, 1) := by decide +kernel
theorem dX5_soonestEnd_61 : decode cX5_soonestEnd 61 = .ok (.invokestatic 17, 3) := by decide +kernel
theorem dX5_soonestEnd_64 : decode cX5_soonestEnd 64 = .ok (.ireturn, 1) := by decide +kernel
theorem dX5_soonestEnd_65 : decode cX5_soonestEnd 65 = .ok (.iinc 4 1, 3) := by decide +kernel
theorem dX5_soonestEnd_68 : decode cX5_soonestEnd 68 = .ok (.goto (-30), 3) := by decide +kernel
theorem dX5_soonestEnd_71 : decode cX5_soonestEnd 71 = .ok (.iconst (-1), 1) := by decide +kernel
theorem dX5_soonestEnd_72 : decode cX5_soonestEnd 72 = .ok (.ireturn, 1) := by decide +kernel
set_option maxRecDepth 20000 in
theorem ggX5_latestBegin_X5_tideAt : GoodIn wsX5_latestBegin wsX5_tideAt := goodIn_r _ [5] (by decide +kernel) (by decide +kernel)
set_option maxRecDepth 20000 in
theorem gX5_latestBegin_X5_tideAt : GoodIn wsX5_latestBegin (va_wsS RX5 21 yX5_tideAt wsX5_tideAt) := goodIn_app (goodIn_of _ (by decide +kernel)) ggX5_latestBegin_X5_tideAt
set_option maxRecDepth 20000 in
theorem ggX5_latestBegin_X5_moment : GoodIn wsX5_latestBegin wsX5_moment := goodIn_r _ [8] (by decide +kernel) (by decide +kernel)
set_option maxRecDepth 20000 in
theorem gX5_latestBegin_X5_moment : GoodIn wsX5_latestBegin (va_wsS RX5 17 yX5_moment wsX5_moment) := goodIn_app (goodIn_of _ (by decide +kernel)) ggX5_latestBegin_X5_moment
theorem dX5_latestBegin_0 : decode cX5_latestBegin 0 = .ok (.iload_n 1, 1) := by decide +kernel
theorem dX5_latestBegin_1 : decode cX5_latestBegin 1 = .ok (.sipush 512, 3) := by decide +kernel
theorem dX5_latestBegin_4 : decode cX5_latestBegin 4 = .ok (.irem, 1) := by decide +kernel
theorem dX5_latestBegin_5 : decode cX5_latestBegin 5 = .ok (.iload_n 2, 1) := by decide +kernel
theorem dX5_latestBegin_6 : decode cX5_latestBegin 6 = .ok (.if_icmp .lt 7, 3) := by decide +kernel
theorem dX5_latestBegin_9 : decode cX5_latestBegin 9 = .ok (.iload_n 1, 1) := by decide +kernel
theorem dX5_latestBegin_10 : decode cX5_latestBegin 10 = .ok (.iload_n 2, 1) := by decide +kernel
theorem dX5_latestBegin_11 : decode cX5_latestBegin 11 = .ok (.isub, 1) := by decide +kernel
theorem dX5_latestBegin_12 : decode cX5_latestBegin 12 = .ok (.ireturn, 1) := by decide +kernel
theorem dX5_latestBegin_13 : decode cX5_latestBegin 13 = .ok (.iload_n 1, 1) := by decide +kernel
theorem dX5_latestBegin_14 : decode cX5_latestBegin 14 = .ok (.invokestatic 21, 3) := by decide +kernel
theorem dX5_latestBegin_17 : decode cX5_latestBegin 17 = .ok (.iconst 1, 1) := by decide +kernel
theorem dX5_latestBegin_18 : decode cX5_latestBegin 18 = .ok (.isub, 1) := by decide +kernel
theorem dX5_latestBegin_19 : decode cX5_latestBegin 19 = .ok (.istore_n 3, 1) := by decide +kernel
theorem dX5_latestBegin_20 : decode cX5_latestBegin 20 = .ok (.iload_n 3, 1) := by decide +kernel
theorem dX5_latestBegin_21 : decode cX5_latestBegin 21 = .ok (.ifCond .lt 32, 3) := by decide +kernel
theorem dX5_latestBegin_24 : decode cX5_latestBegin 24 = .ok (.iload_n 2, 1) := by decide +kernel
theorem dX5_latestBegin_25 : decode cX5_latestBegin 25 = .ok (.aload_n 0, 1) := by decide +kernel
theorem dX5_latestBegin_26 : decode cX5_latestBegin 26 = .ok (.getfield 9, 3) := by decide +kernel
theorem dX5_latestBegin_29 : decode cX5_latestBegin 29 = .ok (.iload_n 3, 1) := by decide +kernel
theorem dX5_latestBegin_30 : decode cX5_latestBegin 30 = .ok (.iaload, 1) := by decide +kernel
theorem dX5_latestBegin_31 : decode cX5_latestBegin 31 = .ok (.if_icmp .gt 16, 3) := by decide +kernel
theorem dX5_latestBegin_34 : decode cX5_latestBegin 34 = .ok (.iload_n 3, 1) := by decide +kernel
theorem dX5_latestBegin_35 : decode cX5_latestBegin 35 = .ok (.aload_n 0, 1) := by decide +kernel
theorem dX5_latestBegin_36 : decode cX5_latestBegin 36 = .ok (.getfield 9, 3) := by decide +kernel
theorem dX5_latestBegin_39 : decode cX5_latestBegin 39 = .ok (.iload_n 3, 1) := by decide +kernel
theorem dX5_latestBegin_40 : decode cX5_latestBegin 40 = .ok (.iaload, 1) := by decide +kernel
theorem dX5_latestBegin_41 : decode cX5_latestBegin 41 = .ok (.iload_n 2, 1) := by decide +kernel
theorem dX5_latestBegin_42 : decode cX5_latestBegin 42 = .ok (.isub, 1) := by decide +kernel
theorem dX5_latestBegin_43 : decode cX5_latestBegin 43 = .ok (.invokestatic 17, 3) := by decide +kernel
theorem dX5_latestBegin_46 : decode cX5_latestBegin 46 = .ok (.ireturn, 1) := by decide +kernel
theorem dX5_latestBegin_47 : decode cX5_latestBegin 47 = .ok (.iinc 3 (-1), 3) := by decide +kernel
theorem dX5_latestBegin_50 : decode cX5_latestBegin 50 = .ok (.goto (-30), 3) := by decide +kernel
theorem dX5_latestBegin_53 : decode cX5_latestBegin 53 = .ok (.iconst (-1), 1) := by decide +kernel
theorem dX5_latestBegin_54 : decode cX5_latestBegin 54 = .ok (.ireturn, 1) := by decide +kernel
theorem dX5_moment_0 : decode cX5_moment 0 = .ok (.iload_n 0, 1) := by decide +kernel
theorem dX5_moment_1 : decode cX5_moment 1 = .ok (.sipush 512, 3) := by decide +kernel
theorem dX5_moment_4 : decode cX5_moment 4 = .ok (.imul, 1) := by decide +kernel
theorem dX5_moment_5 : decode cX5_moment 5 = .ok (.iload_n 1, 1) := by decide +kernel
theorem dX5_moment_6 : decode cX5_moment 6 = .ok (.iadd, 1) := by decide +kernel
theorem dX5_moment_7 : decode cX5_moment 7 = .ok (.ireturn, 1) := by decide +kernel
set_option maxRecDepth 20000 in
theorem ggX6_init_X5_init : GoodIn wsX6_init wsX5_init := goodIn_r _ [25, 26, 2, 3, 4, 27, 28, 51, 52] (by decide +kernel) (by decide +kernel)
set_option maxRecDepth 20000 in
theorem gX6_init_X5_init : GoodIn wsX6_init (wsX5_init) := ggX6_init_X5_init
set_option maxRecDepth 20000 in
theorem ggX6_init_X4_init : GoodIn wsX6_init wsX4_init := goodIn_r _ [31, 32, 2, 3, 4, 33, 34, 35, 36, 37, 38, 53, 54, 55, 56, 57, 58] (by decide +kernel) (by decide +kernel)
set_option maxRecDepth 20000 in
theorem gX6_init_X4_init : GoodIn wsX6_init (wsX4_init) := ggX6_init_X4_init
theorem dX6_init_0 : decode cX6_init 0 = .ok (.aload_n 0, 1) := by decide +kernel
theorem dX6_init_1 : decode cX6_init 1 = .ok (.invokespecial 1, 3) := by decide +kernel
theorem dX6_init_4 : decode cX6_init 4 = .ok (.aload_n 0, 1) := by decide +kernel
theorem dX6_init_5 : decode cX6_init 5 = .ok (.bipush 12, 2) := by decide +kernel
theorem dX6_init_7 : decode cX6_init 7 = .ok (.newarray .int, 2) := by decide +kernel
theorem dX6_init_9 : decode cX6_init 9 = .ok (.putfield 9, 3) := by decide +kernel
theorem dX6_init_12 : decode cX6_init 12 = .ok (.aload_n 0, 1) := by decide +kernel
theorem dX6_init_13 : decode cX6_init 13 = .ok (.bipush 12, 2) := by decide +kernel
theorem dX6_init_15 : decode cX6_init 15 = .ok (.newarray .int, 2) := by decide +kernel
theorem dX6_init_17 : decode cX6_init 17 = .ok (.putfield 13, 3) := by decide +kernel
theorem dX6_init_20 : decode cX6_init 20 = .ok (.aload_n 0, 1) := by decide +kernel
theorem dX6_init_21 : decode cX6_init 21 = .ok (.bipush 12, 2) := by decide +kernel
theorem dX6_init_23 : decode cX6_init 23 = .ok (.newarray .int, 2) := by decide +kernel
theorem dX6_init_25 : decode cX6_init 25 = .ok (.putfield 16, 3) := by decide +kernel
theorem dX6_init_28 : decode cX6_init 28 = .ok (.aload_n 0, 1) := by decide +kernel
theorem dX6_init_29 : decode cX6_init 29 = .ok (.bipush 12, 2) := by decide +kernel
theorem dX6_init_31 : decode cX6_init 31 = .ok (.newarray .int, 2) := by decide +kernel
theorem dX6_init_33 : decode cX6_init 33 = .ok (.putfield 19, 3) := by decide +kernel
theorem dX6_init_36 : decode cX6_init 36 = .ok (.aload_n 0, 1) := by decide +kernel
theorem dX6_init_37 : decode cX6_init 37 = .ok (.bipush 12, 2) := by decide +kernel
theorem dX6_init_39 : decode cX6_init 39 = .ok (.newarray .int, 2) := by decide +kernel
theorem dX6_init_41 : decode cX6_init 41 = .ok (.putfield 22, 3) := by decide +kernel
theorem dX6_init_44 : decode cX6_init 44 = .ok (.aload_n 0, 1) := by decide +kernel
theorem dX6_init_45 : decode cX6_init 45 = .ok (.bipush 12, 2) := by decide +kernel
theorem dX6_init_47 : decode cX6_init 47 = .ok (.newarray .int, 2) := by decide +kernel
theorem dX6_init_49 : decode cX6_init 49 = .ok (.putfield 25, 3) := by decide +kernel
theorem dX6_init_52 : decode cX6_init 52 = .ok (.aload_n 0, 1) := by decide +kernel
theorem dX6_init_53 : decode cX6_init 53 = .ok (.new 28, 3) := by decide +kernel
theorem dX6_init_56 : decode cX6_init 56 = .ok (.dup, 1) := by decide +kernel
theorem dX6_init_57 : decode cX6_init 57 = .ok (.invokespecial 30, 3) := by decide +kernel
theorem dX6_init_60 : decode cX6_init 60 = .ok (.putfield 31, 3) := by decide +kernel
theorem dX6_init_63 : decode cX6_init 63 = .ok (.aload_n 0, 1) := by decide +kernel
theorem dX6_init_64 : decode cX6_init 64 = .ok (.new 35, 3) := by decide +kernel
theorem dX6_init_67 : decode cX6_init 67 = .ok (.dup, 1) := by decide +kernel
theorem dX6_init_68 : decode cX6_init 68 = .ok (.invokespecial 37, 3) := by decide +kernel
theorem dX6_init_71 : decode cX6_init 71 = .ok (.putfield 38, 3) := by decide +kernel
theorem dX6_init_74 : decode cX6_init 74 = .ok (.aload_n 0, 1) := by decide +kernel
theorem dX6_init_75 : decode cX6_init 75 = .ok (.iconst 0, 1) := by decide +kernel
theorem dX6_init_76 : decode cX6_init 76 = .ok (.putfield 42, 3) := by decide +kernel
theorem dX6_init_79 : decode cX6_init 79 = .ok (.aload_n 0, 1) := by decide +kernel
theorem dX6_init_80 : decode cX6_init 80 = .ok (.iconst 0, 1) := by decide +kernel
theorem dX6_init_81 : decode cX6_init 81 = .ok (.putfield 46, 3) := by decide +kernel
theorem dX6_init_84 : decode cX6_init 84 = .ok (.aload_n 0, 1) := by decide +kernel
theorem dX6_init_85 : decode cX6_init 85 = .ok (.iconst 0, 1) := by decide +kernel
theorem dX6_init_86 : decode cX6_init 86 = .ok (.putfield 49, 3) := by decide +kernel
theorem dX6_init_89 : decode cX6_init 89 = .ok (.aload_n 0, 1) := by decide +kernel
theorem dX6_init_90 : decode cX6_init 90 = .ok (.iconst 0, 1) := by decide +kernel
theorem dX6_init_91 : decode cX6_init 91 = .ok (.putfield 52, 3) := by decide +kernel
theorem dX6_init_94 : decode cX6_init 94 = .ok (.return_, 1) := by decide +kernel
set_option maxRecDepth 20000 in
theorem ggX6_has_X7_within : GoodIn wsX6_has wsX7_within := goodIn_r _ [4] (by decide +kernel) (by decide +kernel)
set_option maxRecDepth 20000 in
theorem gX6_has_X7_within_n56 : GoodIn wsX6_has (wsX7_within) := ggX6_has_X7_within
theorem dX6_has_0 : decode cX6_has 0 = .ok (.iload_n 1, 1) := by decide +kernel
theorem dX6_has_1 : decode cX6_has 1 = .ok (.iconst 0, 1) := by decide +kernel
theorem dX6_has_2 : decode cX6_has 2 = .ok (.aload_n 0, 1) := by decide +kernel
theorem dX6_has_3 : decode cX6_has 3 = .ok (.getfield 42, 3) := by decide +kernel
theorem dX6_has_6 : decode cX6_has 6 = .ok (.iconst 1, 1) := by decide +kernel
theorem dX6_has_7 : decode cX6_has 7 = .ok (.isub, 1) := by decide +kernel
theorem dX6_has_8 : decode cX6_has 8 = .ok (.invokestatic 56, 3) := by decide +kernel
theorem dX6_has_11 : decode cX6_has 11 = .ok (.ireturn, 1) := by decide +kernel
theorem dX6_add_0 : decode cX6_add 0 = .ok (.aload_n 0, 1) := by decide +kernel
theorem dX6_add_1 : decode cX6_add 1 = .ok (.getfield 42, 3) := by decide +kernel
theorem dX6_add_4 : decode cX6_add 4 = .ok (.istore 5, 2) := by decide +kernel
theorem dX6_add_6 : decode cX6_add 6 = .ok (.aload_n 0, 1) := by decide +kernel
theorem dX6_add_7 : decode cX6_add 7 = .ok (.getfield 9, 3) := by decide +kernel
theorem dX6_add_10 : decode cX6_add 10 = .ok (.iload 5, 2) := by decide +kernel
theorem dX6_add_12 : decode cX6_add 12 = .ok (.iload_n 1, 1) := by decide +kernel
theorem dX6_add_13 : decode cX6_add 13 = .ok (.iastore, 1) := by decide +kernel
theorem dX6_add_14 : decode cX6_add 14 = .ok (.aload_n 0, 1) := by decide +kernel
theorem dX6_add_15 : decode cX6_add 15 = .ok (.getfield 13, 3) := by decide +kernel
theorem dX6_add_18 : decode cX6_add 18 = .ok (.iload 5, 2) := by decide +kernel
theorem dX6_add_20 : decode cX6_add 20 = .ok (.iload_n 2, 1) := by decide +kernel
theorem dX6_add_21 : decode cX6_add 21 = .ok (.iastore, 1) := by decide +kernel
theorem dX6_add_22 : decode cX6_add 22 = .ok (.aload_n 0, 1) := by decide +kernel
theorem dX6_add_23 : decode cX6_add 23 = .ok (.getfield 16, 3) := by decide +kernel
theorem dX6_add_26 : decode cX6_add 26 = .ok (.iload 5, 2) := by decide +kernel
theorem dX6_add_28 : decode cX6_add 28 = .ok (.iload_n 3, 1) := by decide +kernel
theorem dX6_add_29 : decode cX6_add 29 = .ok (.iastore, 1) := by decide +kernel
theorem dX6_add_30 : decode cX6_add 30 = .ok (.aload_n 0, 1) := by decide +kernel
theorem dX6_add_31 : decode cX6_add 31 = .ok (.getfield 19, 3) := by decide +kernel
theorem dX6_add_34 : decode cX6_add 34 = .ok (.iload 5, 2) := by decide +kernel
theorem dX6_add_36 : decode cX6_add 36 = .ok (.iload 4, 2) := by decide +kernel
theorem dX6_add_38 : decode cX6_add 38 = .ok (.iastore, 1) := by decide +kernel
theorem dX6_add_39 : decode cX6_add 39 = .ok (.aload_n 0, 1) := by decide +kernel
theorem dX6_add_40 : decode cX6_add 40 = .ok (.dup, 1) := by decide +kernel
theorem dX6_add_41 : decode cX6_add 41 = .ok (.getfield 42, 3) := by decide +kernel
theorem dX6_add_44 : decode cX6_add 44 = .ok (.iconst 1, 1) := by decide +kernel
theorem dX6_add_45 : decode cX6_add 45 = .ok (.iadd, 1) := by decide +kernel
theorem dX6_add_46 : decode cX6_add 46 = .ok (.putfield 42, 3) := by decide +kernel
theorem dX6_add_49 : decode cX6_add 49 = .ok (.aload_n 0, 1) := by decide +kernel
theorem dX6_add_50 : decode cX6_add 50 = .ok (.iconst 0, 1) := by decide +kernel
theorem dX6_add_51 : decode cX6_add 51 = .ok (.putfield 52, 3) := by decide +kernel
theorem dX6_add_54 : decode cX6_add 54 = .ok (.iload 5, 2) := by decide +kernel
theorem dX6_add_56 : decode cX6_add 56 = .ok (.ireturn, 1) := by decide +kernel
theorem dX6_layUnder_0 : decode cX6_layUnder 0 = .ok (.aload_n 0, 1) := by decide +kernel
theorem dX6_layUnder_1 : decode cX6_layUnder 1 = .ok (.getfield 25, 3) := by decide +kernel
theorem dX6_layUnder_4 : decode cX6_layUnder 4 = .ok (.iload_n 1, 1) := by decide +kernel
theorem dX6_layUnder_5 : decode cX6_layUnder 5 = .ok (.iload_n 3, 1) := by decide +kernel
theorem dX6_layUnder_6 : decode cX6_layUnder 6 = .ok (.ifCond .eq 16, 3) := by decide +kernel
theorem dX6_layUnder_9 : decode cX6_layUnder 9 = .ok (.aload_n 0, 1) := by decide +kernel
theorem dX6_layUnder_10 : decode cX6_layUnder 10 = .ok (.getfield 25, 3) := by decide +kernel
theorem dX6_layUnder_13 : decode cX6_layUnder 13 = .ok (.iload_n 1, 1) := by decide +kernel
theorem dX6_layUnder_14 : decode cX6_layUnder 14 = .ok (.iaload, 1) := by decide +kernel
theorem dX6_layUnder_15 : decode cX6_layUnder 15 = .ok (.iconst 1, 1) := by decide +kernel
theorem dX6_layUnder_16 : decode cX6_layUnder 16 = .ok (.iload_n 2, 1) := by decide +kernel
theorem dX6_layUnder_17 : decode cX6_layUnder 17 = .ok (.ishl, 1) := by decide +kernel
theorem dX6_layUnder_18 : decode cX6_layUnder 18 = .ok (.ior, 1) := by decide +kernel
theorem dX6_layUnder_19 : decode cX6_layUnder 19 = .ok (.goto 15, 3) := by decide +kernel
theorem dX6_layUnder_22 : decode cX6_layUnder 22 = .ok (.aload_n 0, 1) := by decide +kernel
theorem dX6_layUnder_23 : decode cX6_layUnder 23 = .ok (.getfield 25, 3) := by decide +kernel
theorem dX6_layUnder_26 : decode cX6_layUnder 26 = .ok (.iload_n 1, 1) := by decide +kernel
theorem dX6_layUnder_27 : decode cX6_layUnder 27 = .ok (.iaload, 1) := by decide +kernel
theorem dX6_layUnder_28 : decode cX6_layUnder 28 = .ok (.iconst 1, 1) := by decide +kernel
theorem dX6_layUnder_29 : decode cX6_layUnder 29 = .ok (.iload_n 2, 1) := by decide +kernel
theorem dX6_layUnder_30 : decode cX6_layUnder 30 = .ok (.ishl, 1) := by decide +kernel
theorem dX6_layUnder_31 : decode cX6_layUnder 31 = .ok (.iconst (-1), 1) := by decide +kernel
theorem dX6_layUnder_32 : decode cX6_layUnder 32 = .ok (.ixor, 1) := by decide +kernel
theorem dX6_layUnder_33 : decode cX6_layUnder 33 = .ok (.iand, 1) := by decide +kernel
theorem dX6_layUnder_34 : decode cX6_layUnder 34 = .ok (.iastore, 1) := by decide +kernel
theorem dX6_layUnder_35 : decode cX6_layUnder 35 = .ok (.aload_n 0, 1) := by decide +kernel
theorem dX6_layUnder_36 : decode cX6_layUnder 36 = .ok (.iconst 0, 1) := by decide +kernel
theorem dX6_layUnder_37 : decode cX6_layUnder 37 = .ok (.putfield 52, 3) := by decide +kernel
theorem dX6_layUnder_40 : decode cX6_layUnder 40 = .ok (.return_, 1) := by decide +kernel
theorem dX6_markTangled_0 : decode cX6_markTangled 0 = .ok (.aload_n 0, 1) := by decide +kernel
theorem dX6_markTangled_1 : decode cX6_markTangled 1 = .ok (.iload_n 2, 1) := by decide +kernel
theorem dX6_markTangled_2 : decode cX6_markTangled 2 = .ok (.ifCond .eq 14, 3) := by decide +kernel
theorem dX6_markTangled_5 : decode cX6_markTangled 5 = .ok (.aload_n 0, 1) := by decide +kernel
theorem dX6_markTangled_6 : decode cX6_markTangled 6 = .ok (.getfield 49, 3) := by decide +kernel
theorem dX6_markTangled_9 : decode cX6_markTangled 9 = .ok (.iconst 1, 1) := by decide +kernel
theorem dX6_markTangled_10 : decode cX6_markTangled 10 = .ok (.iload_n 1, 1) := by decide +kernel
theorem dX6_markTangled_11 : decode cX6_markTangled 11 = .ok (.ishl, 1) := by decide +kernel
theorem dX6_markTangled_12 : decode cX6_markTangled 12 = .ok (.ior, 1) := by decide +kernel
theorem dX6_markTangled_13 : decode cX6_markTangled 13 = .ok (.goto 13, 3) := by decide +kernel
theorem dX6_markTangled_16 : decode cX6_markTangled 16 = .ok (.aload_n 0, 1) := by decide +kernel
theorem dX6_markTangled_17 : decode cX6_markTangled 17 = .ok (.getfield 49, 3) := by decide +kernel
theorem dX6_markTangled_20 : decode cX6_markTangled 20 = .ok (.iconst 1, 1) := by decide +kernel
theorem dX6_markTangled_21 : decode cX6_markTangled 21 = .ok (.iload_n 1, 1) := by decide +kernel
theorem dX6_markTangled_22 : decode cX6_markTangled 22 = .ok (.ishl, 1) := by decide +kernel
theorem dX6_markTangled_23 : decode cX6_markTangled 23 = .ok (.iconst (-1), 1) := by decide +kernel
theorem dX6_markTangled_24 : decode cX6_markTangled 24 = .ok (.ixor, 1) := by decide +kernel
theorem dX6_markTangled_25 : decode cX6_markTangled 25 = .ok (.iand, 1) := by decide +kernel
theorem dX6_markTangled_26 : decode cX6_markTangled 26 = .ok (.putfield 49, 3) := by decide +kernel
theorem dX6_markTangled_29 : decode cX6_markTangled 29 = .ok (.aload_n 0, 1) := by decide +kernel
theorem dX6_markTangled_30 : decode cX6_markTangled 30 = .ok (.iconst 0, 1) := by decide +kernel
theorem dX6_markTangled_31 : decode cX6_markTangled 31 = .ok (.putfield 52, 3) := by decide +kernel
theorem dX6_markTangled_34 : decode cX6_markTangled 34 = .ok (.return_, 1) := by decide +kernel
set_option maxRecDepth 20000 in
theorem ggX6_liesBelow_X7_bit : GoodIn wsX6_liesBelow wsX7_bit := goodIn_r _ [5] (by decide +kernel) (by decide +kernel)
set_option maxRecDepth 20000 in
theorem gX6_liesBelow_X7_bit_n62 : GoodIn wsX6_liesBelow (wsX7_bit) := ggX6_liesBelow_X7_bit
theorem dX6_liesBelow_0 : decode cX6_liesBelow 0 = .ok (.iconst 1, 1) := by decide +kernel
theorem dX6_liesBelow_1 : decode cX6_liesBelow 1 = .ok (.iload_n 1, 1) := by decide +kernel
theorem dX6_liesBelow_2 : decode cX6_liesBelow 2 = .ok (.ishl, 1) := by decide +kernel
theorem dX6_liesBelow_3 : decode cX6_liesBelow 3 = .ok (.istore_n 3, 1) := by decide +kernel
theorem dX6_liesBelow_4 : decode cX6_liesBelow 4 = .ok (.iconst 0, 1) := by decide +kernel
theorem dX6_liesBelow_5 : decode cX6_liesBelow 5 = .ok (.istore 4, 2) := by decide +kernel
theorem dX6_liesBelow_7 : decode cX6_liesBelow 7 = .ok (.iload 4, 2) := by decide +kernel
theorem dX6_liesBelow_9 : decode cX6_liesBelow 9 = .ok (.aload_n 0, 1) := by decide +kernel
theorem dX6_liesBelow_10 : decode cX6_liesBelow 10 = .ok (.getfield 42, 3) := by decide +kernel
theorem dX6_liesBelow_13 : decode cX6_liesBelow 13 = .ok (.if_icmp .ge 47, 3) := by decide +kernel
theorem dX6_liesBelow_16 : decode cX6_liesBelow 16 = .ok (.iconst 0, 1) := by decide +kernel
theorem dX6_liesBelow_17 : decode cX6_liesBelow 17 = .ok (.istore 5, 2) := by decide +kernel
theorem dX6_liesBelow_19 : decode cX6_liesBelow 19 = .ok (.iload 5, 2) := by decide +kernel
theorem dX6_liesBelow_21 : decode cX6_liesBelow 21 = .ok (.aload_n 0, 1) := by decide +kernel
theorem dX6_liesBelow_22 : decode cX6_liesBelow 22 = .ok (.getfield 42, 3) := by decide +kernel
theorem dX6_liesBelow_25 : decode cX6_liesBelow 25 = .ok (.if_icmp .ge 29, 3) := by decide +kernel
theorem dX6_liesBelow_28 : decode cX6_liesBelow 28 = .ok (.iload_n 3, 1) := by decide +kernel
theorem dX6_liesBelow_29 : decode cX6_liesBelow 29 = .ok (.iload 5, 2) := by decide +kernel
theorem dX6_liesBelow_31 : decode cX6_liesBelow 31 = .ok (.invokestatic 62, 3) := by decide +kernel
theorem dX6_liesBelow_34 : decode cX6_liesBelow 34 = .ok (.iconst 1, 1) := by decide +kernel
theorem dX6_liesBelow_35 : decode cX6_liesBelow 35 = .ok (.if_icmp .ne 13, 3) := by decide +kernel
theorem dX6_liesBelow_38 : decode cX6_liesBelow 38 = .ok (.iload_n 3, 1) := by decide +kernel
theorem dX6_liesBelow_39 : decode cX6_liesBelow 39 = .ok (.aload_n 0, 1) := by decide +kernel
theorem dX6_liesBelow_40 : decode cX6_liesBelow 40 = .ok (.getfield 25, 3) := by decide +kernel
theorem dX6_liesBelow_43 : decode cX6_liesBelow 43 = .ok (.iload 5, 2) := by decide +kernel
theorem dX6_liesBelow_45 : decode cX6_liesBelow 45 = .ok (.iaload, 1) := by decide +kernel
theorem dX6_liesBelow_46 : decode cX6_liesBelow 46 = .ok (.ior, 1) := by decide +kernel
theorem dX6_liesBelow_47 : decode cX6_liesBelow 47 = .ok (.istore_n 3, 1) := by decide +kernel
theorem dX6_liesBelow_48 : decode cX6_liesBelow 48 = .ok (.iinc 5 1, 3) := by decide +kernel
theorem dX6_liesBelow_51 : decode cX6_liesBelow 51 = .ok (.goto (-32), 3) := by decide +kernel
theorem dX6_liesBelow_54 : decode cX6_liesBelow 54 = .ok (.iinc 4 1, 3) := by decide +kernel
theorem dX6_liesBelow_57 : decode cX6_liesBelow 57 = .ok (.goto (-50), 3) := by decide +kernel
theorem dX6_liesBelow_60 : decode cX6_liesBelow 60 = .ok (.iload_n 3, 1) := by decide +kernel
theorem dX6_liesBelow_61 : decode cX6_liesBelow 61 = .ok (.iload_n 2, 1) := by decide +kernel
theorem dX6_liesBelow_62 : decode cX6_liesBelow 62 = .ok (.invokestatic 62, 3) := by decide +kernel
theorem dX6_liesBelow_65 : decode cX6_liesBelow 65 = .ok (.iconst 1, 1) := by decide +kernel
theorem dX6_liesBelow_66 : decode cX6_liesBelow 66 = .ok (.if_icmp .ne 7, 3) := by decide +kernel
theorem dX6_liesBelow_69 : decode cX6_liesBelow 69 = .ok (.iconst 1, 1) := by decide +kernel
theorem dX6_liesBelow_70 : decode cX6_liesBelow 70 = .ok (.goto 4, 3) := by decide +kernel
theorem dX6_liesBelow_73 : decode cX6_liesBelow 73 = .ok (.iconst 0, 1) := by decide +kernel
theorem dX6_liesBelow_74 : decode cX6_liesBelow 74 = .ok (.ireturn, 1) := by decide +kernel
theorem dX6_isFree_0 : decode cX6_isFree 0 = .ok (.aload_n 0, 1) := by decide +kernel
theorem dX6_isFree_1 : decode cX6_isFree 1 = .ok (.getfield 25, 3) := by decide +kernel
theorem dX6_isFree_4 : decode cX6_isFree 4 = .ok (.iload_n 1, 1) := by decide +kernel
theorem dX6_isFree_5 : decode cX6_isFree 5 = .ok (.iaload, 1) := by decide +kernel
theorem dX6_isFree_6 : decode cX6_isFree 6 = .ok (.aload_n 0, 1) := by decide +kernel
theorem dX6_isFree_7 : decode cX6_isFree 7 = .ok (.getfield 46, 3) := by decide +kernel
theorem dX6_isFree_10 : decode cX6_isFree 10 = .ok (.iconst (-1), 1) := by decide +kernel
theorem dX6_isFree_11 : decode cX6_isFree 11 = .ok (.ixor, 1) := by decide +kernel
theorem dX6_isFree_12 : decode cX6_isFree 12 = .ok (.iand, 1) := by decide +kernel
theorem dX6_isFree_13 : decode cX6_isFree 13 = .ok (.ifCond .ne 7, 3) := by decide +kernel
theorem dX6_isFree_16 : decode cX6_isFree 16 = .ok (.iconst 1, 1) := by decide +kernel
theorem dX6_isFree_17 : decode cX6_isFree 17 = .ok (.goto 4, 3) := by decide +kernel
theorem dX6_isFree_20 : decode cX6_isFree 20 = .ok (.iconst 0, 1) := by decide +kernel
theorem dX6_isFree_21 : decode cX6_isFree 21 = .ok (.ireturn, 1) := by decide +kernel
set_option maxRecDepth 20000 in
theorem ggX6_canBeWorked_X6_isFree : GoodIn wsX6_canBeWorked wsX6_isFree := goodIn_r _ [7, 8, 1, 12, 13, 14, 15, 16, 17, 18, 19, 20, 21, 22, 23] (by decide +kernel) (by decide +kernel)
set_option maxRecDepth 20000 in
theorem gX6_canBeWorked_X6_isFree : GoodIn wsX6_canBeWorked (wsV RX6 66 RX6 yX6_isFree wsX6_isFree) := goodIn_app (goodIn_of _ (by decide +kernel)) ggX6_canBeWorked_X6_isFree
set_option maxRecDepth 20000 in
theorem ggX6_canBeWorked_X7_bit : GoodIn wsX6_canBeWorked wsX7_bit := goodIn_r _ [11] (by decide +kernel) (by decide +kernel)
set_option maxRecDepth 20000 in
theorem gX6_canBeWorked_X7_bit_n62 : GoodIn wsX6_canBeWorked (wsX7_bit) := ggX6_canBeWorked_X7_bit
theorem dX6_canBeWorked_0 : decode cX6_canBeWorked 0 = .ok (.aload_n 0, 1) := by decide +kernel
theorem dX6_canBeWorked_1 : decode cX6_canBeWorked 1 = .ok (.iload_n 1, 1) := by decide +kernel
theorem dX6_canBeWorked_2 : decode cX6_canBeWorked 2 = .ok (.invokevirtual 66, 3) := by decide +kernel
theorem dX6_canBeWorked_5 : decode cX6_canBeWorked 5 = .ok (.ifCond .eq 23, 3) := by decide +kernel
theorem dX6_canBeWorked_8 : decode cX6_canBeWorked 8 = .ok (.aload_n 0, 1) := by decide +kernel
theorem dX6_canBeWorked_9 : decode cX6_canBeWorked 9 = .ok (.getfield 46, 3) := by decide +kernel
theorem dX6_canBeWorked_12 : decode cX6_canBeWorked 12 = .ok (.aload_n 0, 1) := by decide +kernel
theorem dX6_canBeWorked_13 : decode cX6_canBeWorked 13 = .ok (.getfield 49, 3) := by decide +kernel
theorem dX6_canBeWorked_16 : decode cX6_canBeWorked 16 = .ok (.ior, 1) := by decide +kernel
theorem dX6_canBeWorked_17 : decode cX6_canBeWorked 17 = .ok (.iload_n 1, 1) := by decide +kernel
theorem dX6_canBeWorked_18 : decode cX6_canBeWorked 18 = .ok (.invokestatic 62, 3) := by decide +kernel
theorem dX6_canBeWorked_21 : decode cX6_canBeWorked 21 = .ok (.ifCond .ne 7, 3) := by decide +kernel
theorem dX6_canBeWorked_24 : decode cX6_canBeWorked 24 = .ok (.iconst 1, 1) := by decide +kernel
theorem dX6_canBeWorked_25 : decode cX6_canBeWorked 25 = .ok (.goto 4, 3) := by decide +kernel
theorem dX6_canBeWorked_28 : decode cX6_canBeWorked 28 = .ok (.iconst 0, 1) := by decide +kernel
theorem dX6_canBeWorked_29 : decode cX6_canBeWorked 29 = .ok (.ireturn, 1) := by decide +kernel
theorem dX6_workMinute_0 : decode cX6_workMinute 0 = .ok (.aload_n 0, 1) := by decide +kernel
theorem dX6_workMinute_1 : decode cX6_workMinute 1 = .ok (.getfield 22, 3) := by decide +kernel
theorem dX6_workMinute_4 : decode cX6_workMinute 4 = .ok (.iload_n 1, 1) := by decide +kernel
theorem dX6_workMinute_5 : decode cX6_workMinute 5 = .ok (.dup2, 1) := by decide +kernel
theorem dX6_workMinute_6 : decode cX6_workMinute 6 = .ok (.iaload, 1) := by decide +kernel
theorem dX6_workMinute_7 : decode cX6_workMinute 7 = .ok (.iconst 1, 1) := by decide +kernel
theorem dX6_workMinute_8 : decode cX6_workMinute 8 = .ok (.iadd, 1) := by decide +kernel
theorem dX6_workMinute_9 : decode cX6_workMinute 9 = .ok (.iastore, 1) := by decide +kernel
theorem dX6_workMinute_10 : decode cX6_workMinute 10 = .ok (.aload_n 0, 1) := by decide +kernel
theorem dX6_workMinute_11 : decode cX6_workMinute 11 = .ok (.getfield 22, 3) := by decide +kernel
theorem dX6_workMinute_14 : decode cX6_workMinute 14 = .ok (.iload_n 1, 1) := by decide +kernel
theorem dX6_workMinute_15 : decode cX6_workMinute 15 = .ok (.iaload, 1) := by decide +kernel
theorem dX6_workMinute_16 : decode cX6_workMinute 16 = .ok (.aload_n 0, 1) := by decide +kernel
theorem dX6_workMinute_17 : decode cX6_workMinute 17 = .ok (.getfield 16, 3) := by decide +kernel
theorem dX6_workMinute_20 : decode cX6_workMinute 20 = .ok (.iload_n 1, 1) := by decide +kernel
theorem dX6_workMinute_21 : decode cX6_workMinute 21 = .ok (.iaload, 1) := by decide +kernel
theorem dX6_workMinute_22 : decode cX6_workMinute 22 = .ok (.if_icmp .lt 15, 3) := by decide +kernel
theorem dX6_workMinute_25 : decode cX6_workMinute 25 = .ok (.aload_n 0, 1) := by decide +kernel
theorem dX6_workMinute_26 : decode cX6_workMinute 26 = .ok (.dup, 1) := by decide +kernel
theorem dX6_workMinute_27 : decode cX6_workMinute 27 = .ok (.getfield 46, 3) := by decide +kernel
theorem dX6_workMinute_30 : decode cX6_workMinute 30 = .ok (.iconst 1, 1) := by decide +kernel
theorem dX6_workMinute_31 : decode cX6_workMinute 31 = .ok (.iload_n 1, 1) := by decide +kernel
theorem dX6_workMinute_32 : decode cX6_workMinute 32 = .ok (.ishl, 1) := by decide +kernel
theorem dX6_workMinute_33 : decode cX6_workMinute 33 = .ok (.ior, 1) := by decide +kernel
theorem dX6_workMinute_34 : decode cX6_workMinute 34 = .ok (.putfield 46, 3) := by decide +kernel
theorem dX6_workMinute_37 : decode cX6_workMinute 37 = .ok (.aload_n 0, 1) := by decide +kernel
theorem dX6_workMinute_38 : decode cX6_workMinute 38 = .ok (.iconst 0, 1) := by decide +kernel
theorem dX6_workMinute_39 : decode cX6_workMinute 39 = .ok (.putfield 52, 3) := by decide +kernel
theorem dX6_workMinute_42 : decode cX6_workMinute 42 = .ok (.return_, 1) := by decide +kernel
set_option maxRecDepth 20000 in
theorem ggX6_raisedWorth_X7_bit : GoodIn wsX6_raisedWorth wsX7_bit := goodIn_r _ [6] (by decide +kernel) (by decide +kernel)
set_option maxRecDepth 20000 in
theorem gX6_raisedWorth_X7_bit_n62 : GoodIn wsX6_raisedWorth (wsX7_bit) := ggX6_raisedWorth_X7_bit
theorem dX6_raisedWorth_0 : decode cX6_raisedWorth 0 = .ok (.iconst 0, 1) := by decide +kernel
theorem dX6_raisedWorth_1 : decode cX6_raisedWorth 1 = .ok (.istore_n 1, 1) := by decide +kernel
theorem dX6_raisedWorth_2 : decode cX6_raisedWorth 2 = .ok (.iconst 0, 1) := by decide +kernel
theorem dX6_raisedWorth_3 : decode cX6_raisedWorth 3 = .ok (.istore_n 2, 1) := by decide +kernel
theorem dX6_raisedWorth_4 : decode cX6_raisedWorth 4 = .ok (.iload_n 2, 1) := by decide +kernel
theorem dX6_raisedWorth_5 : decode cX6_raisedWorth 5 = .ok (.aload_n 0, 1) := by decide +kernel
theorem dX6_raisedWorth_6 : decode cX6_raisedWorth 6 = .ok (.getfield 42, 3) := by decide +kernel
theorem dX6_raisedWorth_9 : decode cX6_raisedWorth 9 = .ok (.if_icmp .ge 27, 3) := by decide +kernel
theorem dX6_raisedWorth_12 : decode cX6_raisedWorth 12 = .ok (.iload_n 1, 1) := by decide +kernel
theorem dX6_raisedWorth_13 : decode cX6_raisedWorth 13 = .ok (.aload_n 0, 1) := by decide +kernel
theorem dX6_raisedWorth_14 : decode cX6_raisedWorth 14 = .ok (.getfield 46, 3) := by decide +kernel
theorem dX6_raisedWorth_17 : decode cX6_raisedWorth 17 = .ok (.iload_n 2, 1) := by decide +kernel
theorem dX6_raisedWorth_18 : decode cX6_raisedWorth 18 = .ok (.invokestatic 62, 3) := by decide +kernel
theorem dX6_raisedWorth_21 : decode cX6_raisedWorth 21 = .ok (.aload_n 0, 1) := by decide +kernel
theorem dX6_raisedWorth_22 : decode cX6_raisedWorth 22 = .ok (.getfield 13, 3) := by decide +kernel
theorem dX6_raisedWorth_25 : decode cX6_raisedWorth 25 = .ok (.iload_n 2, 1) := by decide +kernel
theorem dX6_raisedWorth_26 : decode cX6_raisedWorth 26 = .ok (.iaload, 1) := by decide +kernel
theorem dX6_raisedWorth_27 : decode cX6_raisedWorth 27 = .ok (.imul, 1) := by decide +kernel
theorem dX6_raisedWorth_28 : decode cX6_raisedWorth 28 = .ok (.iadd, 1) := by decide +kernel
theorem dX6_raisedWorth_29 : decode cX6_raisedWorth 29 = .ok (.istore_n 1, 1) := by decide +kernel
theorem dX6_raisedWorth_30 : decode cX6_raisedWorth 30 = .ok (.iinc 2 1, 3) := by decide +kernel
theorem dX6_raisedWorth_33 : decode cX6_raisedWorth 33 = .ok (.goto (-29), 3) := by decide +kernel
theorem dX6_raisedWorth_36 : decode cX6_raisedWorth 36 = .ok (.iload_n 1, 1) := by decide +kernel
theorem dX6_raisedWorth_37 : decode cX6_raisedWorth 37 = .ok (.ireturn, 1) := by decide +kernel
set_option maxRecDepth 20000 in
theorem ggX6_addTide_X5_add : GoodIn wsX6_addTide wsX5_add := goodIn_r _ [7, 8, 9, 22, 23] (by decide +kernel) (by decide +kernel)
set_option maxRecDepth 20000 in
theorem gX6_addTide_X5_add : GoodIn wsX6_addTide (wsV RX6 70 RX5 yX5_add wsX5_add) := goodIn_app (goodIn_of _ (by decide +kernel)) ggX6_addTide_X5_add
theorem dX6_addTide_0 : decode cX6_addTide 0 = .ok (.aload_n 0, 1) := by decide +kernel
theorem dX6_addTide_1 : decode cX6_addTide 1 = .ok (.iconst 0, 1) := by decide +kernel
theorem dX6_addTide_2 : decode cX6_addTide 2 = .ok (.putfield 52, 3) := by decide +kernel
theorem dX6_addTide_5 : decode cX6_addTide 5 = .ok (.aload_n 0, 1) := by decide +kernel
theorem dX6_addTide_6 : decode cX6_addTide 6 = .ok (.getfield 31, 3) := by decide +kernel
theorem dX6_addTide_9 : decode cX6_addTide 9 = .ok (.iload_n 1, 1) := by decide +kernel
theorem dX6_addTide_10 : decode cX6_addTide 10 = .ok (.invokevirtual 70, 3) := by decide +kernel
theorem dX6_addTide_13 : decode cX6_addTide 13 = .ok (.ireturn, 1) := by decide +kernel
theorem dX6_dropTides_0 : decode cX6_dropTides 0 = .ok (.aload_n 0, 1) := by decide +kernel
theorem dX6_dropTides_1 : decode cX6_dropTides 1 = .ok (.getfield 31, 3) := by decide +kernel
theorem dX6_dropTides_4 : decode cX6_dropTides 4 = .ok (.getfield 74, 3) := by decide +kernel
theorem dX6_dropTides_7 : decode cX6_dropTides 7 = .ok (.istore_n 1, 1) := by decide +kernel
theorem dX6_dropTides_8 : decode cX6_dropTides 8 = .ok (.aload_n 0, 1) := by decide +kernel
theorem dX6_dropTides_9 : decode cX6_dropTides 9 = .ok (.getfield 31, 3) := by decide +kernel
theorem dX6_dropTides_12 : decode cX6_dropTides 12 = .ok (.iconst 0, 1) := by decide +kernel
theorem dX6_dropTides_13 : decode cX6_dropTides 13 = .ok (.putfield 74, 3) := by decide +kernel
theorem dX6_dropTides_16 : decode cX6_dropTides 16 = .ok (.aload_n 0, 1) := by decide +kernel
theorem dX6_dropTides_17 : decode cX6_dropTides 17 = .ok (.iconst 0, 1) := by decide +kernel
theorem dX6_dropTides_18 : decode cX6_dropTides 18 = .ok (.putfield 52, 3) := by decide +kernel
theorem dX6_dropTides_21 : decode cX6_dropTides 21 = .ok (.iload_n 1, 1) := by decide +kernel
theorem dX6_dropTides_22 : decode cX6_dropTides 22 = .ok (.ireturn, 1) := by decide +kernel
set_option maxRecDepth 20000 in
theorem ggX6_bestPlan_X4_make : GoodIn wsX6_bestPlan wsX4_make := goodIn_r _ [7, 8, 9, 10, 6, 11, 12, 13, 14, 15, 16, 17, 18, 19, 20, 21, 22, 23, 24, 25, 26, 27, 28, 29, 30, 31, 32, 33, 34, 35, 36, 37, 38, 39, 40, 41, 42, 43, 44, 45, 46, 47, 48, 49, 50, 51, 52, 53, 54, 55, 56, 57, 58, 59, 60, 61, 62, 63, 64, 65, 66, 67, 68, 69, 70, 71, 72, 73, 74, 75, 76, 77, 78, 79, 80, 81, 82, 83, 84, 85, 86, 87, 88, 89, 90, 91, 92, 93, 94, 95, 96, 97, 98, 99, 100, 101, 102, 103, 104, 105, 106, 107, 108, 109, 110, 111, 112] (by decide +kernel) (by decide +kernel)
set_option maxRecDepth 20000 in
theorem gX6_bestPlan_X4_make : GoodIn wsX6_bestPlan (wsV RX6 75 RX4 yX4_make wsX4_make) := goodIn_app (goodIn_of _ (by decide +kernel)) ggX6_bestPlan_X4_make
theorem dX6_bestPlan_0 : decode cX6_bestPlan 0 = .ok (.aload_n 0, 1) := by decide +kernel
theorem dX6_bestPlan_1 : decode cX6_bestPlan 1 = .ok (.getfield 52, 3) := by decide +kernel
theorem dX6_bestPlan_4 : decode cX6_bestPlan 4 = .ok (.ifCond .ne 11, 3) := by decide +kernel
theorem dX6_bestPlan_7 : decode cX6_bestPlan 7 = .ok (.aload_n 0, 1) := by decide +kernel
theorem dX6_bestPlan_8 : decode cX6_bestPlan 8 = .ok (.getfield 38, 3) := by decide +kernel
theorem dX6_bestPlan_11 : decode cX6_bestPlan 11 = .ok (.aload_n 0, 1) := by decide +kernel
theorem dX6_bestPlan_12 : decode cX6_bestPlan 12 = .ok (.invokevirtual 75, 3) := by decide +kernel
theorem dX6_bestPlan_15 : decode cX6_bestPlan 15 = .ok (.aload_n 0, 1) := by decide +kernel
theorem dX6_bestPlan_16 : decode cX6_bestPlan 16 = .ok (.iconst 1, 1) := by decide +kernel
theorem dX6_bestPlan_17 : decode cX6_bestPlan 17 = .ok (.putfield 52, 3) := by decide +kernel
theorem dX6_bestPlan_20 : decode cX6_bestPlan 20 = .ok (.aload_n 0, 1) := by decide +kernel
theorem dX6_bestPlan_21 : decode cX6_bestPlan 21 = .ok (.getfield 38, 3) := by decide +kernel
theorem dX6_bestPlan_24 : decode cX6_bestPlan 24 = .ok (.areturn, 1) := by decide +kernel
theorem dX6_left_0 : decode cX6_left 0 = .ok (.aload_n 0, 1) := by decide +kernel
theorem dX6_left_1 : decode cX6_left 1 = .ok (.getfield 16, 3) := by decide +kernel
theorem dX6_left_4 : decode cX6_left 4 = .ok (.iload_n 1, 1) := by decide +kernel
theorem dX6_left_5 : decode cX6_left 5 = .ok (.iaload, 1) := by decide +kernel
theorem dX6_left_6 : decode cX6_left 6 = .ok (.aload_n 0, 1) := by decide +kernel
theorem dX6_left_7 : decode cX6_left 7 = .ok (.getfield 22, 3) := by decide +kernel
theorem dX6_left_10 : decode cX6_left 10 = .ok (.iload_n 1, 1) := by decide +kernel
theorem dX6_left_11 : decode cX6_left 11 = .ok (.iaload, 1) := by decide +kernel
theorem dX6_left_12 : decode cX6_left 12 = .ok (.isub, 1) := by decide +kernel
theorem dX6_left_13 : decode cX6_left 13 = .ok (.ireturn, 1) := by decide +kernel
set_option maxRecDepth 20000 in
theorem ggX6_isWhole_X7_bit : GoodIn wsX6_isWhole wsX7_bit := goodIn_r _ [6] (by decide +kernel) (by decide +kernel)
set_option maxRecDepth 20000 in
theorem gX6_isWhole_X7_bit_n62 : GoodIn wsX6_isWhole (wsX7_bit) := ggX6_isWhole_X7_bit
theorem dX6_isWhole_0 : decode cX6_isWhole 0 = .ok (.iconst 0, 1) := by decide +kernel
theorem dX6_isWhole_1 : decode cX6_isWhole 1 = .ok (.istore_n 2, 1) := by decide +kernel
theorem dX6_isWhole_2 : decode cX6_isWhole 2 = .ok (.iload_n 2, 1) := by decide +kernel
theorem dX6_isWhole_3 : decode cX6_isWhole 3 = .ok (.aload_n 0, 1) := by decide +kernel
theorem dX6_isWhole_4 : decode cX6_isWhole 4 = .ok (.getfield 42, 3) := by decide +kernel
theorem dX6_isWhole_7 : decode cX6_isWhole 7 = .ok (.if_icmp .ge 40, 3) := by decide +kernel
theorem dX6_isWhole_10 : decode cX6_isWhole 10 = .ok (.iload_n 1, 1) := by decide +kernel
theorem dX6_isWhole_11 : decode cX6_isWhole 11 = .ok (.iload_n 2, 1) := by decide +kernel
theorem dX6_isWhole_12 : decode cX6_isWhole 12 = .ok (.invokestatic 62, 3) := by decide +kernel
theorem dX6_isWhole_15 : decode cX6_isWhole 15 = .ok (.iconst 1, 1) := by decide +kernel
theorem dX6_isWhole_16 : decode cX6_isWhole 16 = .ok (.if_icmp .ne 25, 3) := by decide +kernel
theorem dX6_isWhole_19 : decode cX6_isWhole 19 = .ok (.aload_n 0, 1) := by decide +kernel
theorem dX6_isWhole_20 : decode cX6_isWhole 20 = .ok (.getfield 25, 3) := by decide +kernel
theorem dX6_isWhole_23 : decode cX6_isWhole 23 = .ok (.iload_n 2, 1) := by decide +kernel
theorem dX6_isWhole_24 : decode cX6_isWhole 24 = .ok (.iaload, 1) := by decide +kernel
theorem dX6_isWhole_25 : decode cX6_isWhole 25 = .ok (.aload_n 0, 1) := by decide +kernel
theorem dX6_isWhole_26 : decode cX6_isWhole 26 = .ok (.getfield 46, 3) := by decide +kernel
theorem dX6_isWhole_29 : decode cX6_isWhole 29 = .ok (.iconst (-1), 1) := by decide +kernel
theorem dX6_isWhole_30 : decode cX6_isWhole 30 = .ok (.ixor, 1) := by decide +kernel
theorem dX6_isWhole_31 : decode cX6_isWhole 31 = .ok (.iand, 1) := by decide +kernel
theorem dX6_isWhole_32 : decode cX6_isWhole 32 = .ok (.iload_n 1, 1) := by decide +kernel
theorem dX6_isWhole_33 : decode cX6_isWhole 33 = .ok (.iconst (-1), 1) := by decide +kernel
theorem dX6_isWhole_34 : decode cX6_isWhole 34 = .ok (.ixor, 1) := by decide +kernel
theorem dX6_isWhole_35 : decode cX6_isWhole 35 = .ok (.iand, 1) := by decide +kernel
theorem dX6_isWhole_36 : decode cX6_isWhole 36 = .ok (.ifCond .eq 5, 3) := by decide +kernel
theorem dX6_isWhole_39 : decode cX6_isWhole 39 = .ok (.iconst 0, 1) := by decide +kernel
theorem dX6_isWhole_40 : decode cX6_isWhole 40 = .ok (.ireturn, 1) := by decide +kernel
theorem dX6_isWhole_41 : decode cX6_isWhole 41 = .ok (.iinc 2 1, 3) := by decide +kernel
theorem dX6_isWhole_44 : decode cX6_isWhole 44 = .ok (.goto (-42), 3) := by decide +kernel
theorem dX6_isWhole_47 : decode cX6_isWhole 47 = .ok (.iconst 1, 1) := by decide +kernel
theorem dX6_isWhole_48 : decode cX6_isWhole 48 = .ok (.ireturn, 1) := by decide +kernel
set_option maxRecDepth 20000 in
theorem ggX7_init_X0_init : GoodIn wsX7_init wsX0_init := goodIn_r _ [27, 28, 2, 3, 29, 30, 31, 32, 33, 34, 6, 35, 36, 37, 38, 39, 40, 41, 42, 43, 44, 113, 114, 115, 116, 117, 118, 119, 120, 121, 122, 123, 124] (by decide +kernel) (by decide +kernel)
set_option maxRecDepth 20000 in
theorem gX7_init_X0_init : GoodIn wsX7_init (wsX0_init) := ggX7_init_X0_init
set_option maxRecDepth 20000 in
theorem ggX7_init_X2_init : GoodIn wsX7_init wsX2_init := goodIn_r _ [47, 48, 2, 3, 49, 50, 51, 52, 53, 54, 55, 56, 57, 131, 132, 133, 134, 135, 136, 137, 138] (by decide +kernel) (by decide +kernel)
set_option maxRecDepth 20000 in
theorem gX7_init_X2_init : GoodIn wsX7_init (wsX2_init) := ggX7_init_X2_init
set_option maxRecDepth 20000 in
theorem ggX7_init_X6_init : GoodIn wsX7_init wsX6_init := goodIn_r _ [60, 61, 2, 3, 49, 62, 63, 64, 65, 66, 67, 68, 69, 70, 71, 72, 73, 74, 75, 76, 77, 78, 79, 80, 81, 82, 83, 84, 85, 86, 87, 88, 89, 90, 91, 92, 93, 94, 95, 139, 140, 141, 142, 143, 144, 145, 146, 147, 148, 149, 150, 167, 168, 169, 170, 171, 172, 173, 174] (by decide +kernel) (by decide +kernel)
set_option maxRecDepth 20000 in
theorem gX7_init_X6_init : GoodIn wsX7_init (wsX6_init) := ggX7_init_X6_init
set_option maxRecDepth 20000 in
theorem ggX7_init_X3_init : GoodIn wsX7_init wsX3_init := goodIn_r _ [98, 99, 2, 3, 49, 100, 101, 102, 103, 104, 151, 152, 153, 154, 155] (by decide +kernel) (by decide +kernel)
set_option maxRecDepth 20000 in
theorem gX7_init_X3_init : GoodIn wsX7_init (wsX3_init) := ggX7_init_X3_init
set_option maxRecDepth 20000 in
theorem ggX7_init_X1_init : GoodIn wsX7_init wsX1_init := goodIn_r _ [107, 108, 2, 3, 49, 109, 110, 111, 112, 156, 157, 158, 159, 160, 161, 162, 163, 164, 165, 166] (by decide +kernel) (by decide +kernel)
set_option maxRecDepth 20000 in
theorem gX7_init_X1_init : GoodIn wsX7_init (wsX1_init) := ggX7_init_X1_init
theorem dX7_init_0 : decode cX7_init 0 = .ok (.aload_n 0, 1) := by decide +kernel
theorem dX7_init_1 : decode cX7_init 1 = .ok (.invokespecial 3, 3) := by decide +kernel
theorem dX7_init_4 : decode cX7_init 4 = .ok (.aload_n 0, 1) := by decide +kernel
theorem dX7_init_5 : decode cX7_init 5 = .ok (.new 9, 3) := by decide +kernel
theorem dX7_init_8 : decode cX7_init 8 = .ok (.dup, 1) := by decide +kernel
theorem dX7_init_9 : decode cX7_init 9 = .ok (.invokespecial 11, 3) := by decide +kernel
theorem dX7_init_12 : decode cX7_init 12 = .ok (.putfield 12, 3) := by decide +kernel
theorem dX7_init_15 : decode cX7_init 15 = .ok (.aload_n 0, 1) := by decide +kernel
theorem dX7_init_16 : decode cX7_init 16 = .ok (.new 16, 3) := by decide +kernel
theorem dX7_init_19 : decode cX7_init 19 = .ok (.dup, 1) := by decide +kernel
theorem dX7_init_20 : decode cX7_init 20 = .ok (.invokespecial 18, 3) := by decide +kernel
theorem dX7_init_23 : decode cX7_init 23 = .ok (.putfield 19, 3) := by decide +kernel
theorem dX7_init_26 : decode cX7_init 26 = .ok (.aload_n 0, 1) := by decide +kernel
theorem dX7_init_27 : decode cX7_init 27 = .ok (.new 23, 3) := by decide +kernel
theorem dX7_init_30 : decode cX7_init 30 = .ok (.dup, 1) := by decide +kernel
theorem dX7_init_31 : decode cX7_init 31 = .ok (.invokespecial 25, 3) := by decide +kernel
theorem dX7_init_34 : decode cX7_init 34 = .ok (.putfield 26, 3) := by decide +kernel
theorem dX7_init_37 : decode cX7_init 37 = .ok (.aload_n 0, 1) := by decide +kernel
theorem dX7_init_38 : decode cX7_init 38 = .ok (.new 30, 3) := by decide +kernel
theorem dX7_init_41 : decode cX7_init 41 = .ok (.dup, 1) := by decide +kernel
theorem dX7_init_42 : decode cX7_init 42 = .ok (.invokespecial 32, 3) := by decide +kernel
theorem dX7_init_45 : decode cX7_init 45 = .ok (.putfield 33, 3) := by decide +kernel
theorem dX7_init_48 : decode cX7_init 48 = .ok (.aload_n 0, 1) := by decide +kernel
theorem dX7_init_49 : decode cX7_init 49 = .ok (.new 37, 3) := by decide +kernel
theorem dX7_init_52 : decode cX7_init 52 = .ok (.dup, 1) := by decide +kernel
theorem dX7_init_53 : decode cX7_init 53 = .ok (.invokespecial 39, 3) := by decide +kernel
theorem dX7_init_56 : decode cX7_init 56 = .ok (.putfield 40, 3) := by decide +kernel
theorem dX7_init_59 : decode cX7_init 59 = .ok (.aload_n 0, 1) := by decide +kernel
theorem dX7_init_60 : decode cX7_init 60 = .ok (.iconst 0, 1) := by decide +kernel
theorem dX7_init_61 : decode cX7_init 61 = .ok (.putfield 44, 3) := by decide +kernel
theorem dX7_init_64 : decode cX7_init 64 = .ok (.return_, 1) := by decide +kernel
set_option maxRecDepth 20000 in
theorem ggX7_room_X7_within : GoodIn wsX7_room wsX7_within := goodIn_r _ [8] (by decide +kernel) (by decide +kernel)
set_option maxRecDepth 20000 in
theorem gX7_room_X7_within : GoodIn wsX7_room (va_wsS RX7 48 yX7_within wsX7_within) := goodIn_app (goodIn_of _ (by decide +kernel)) ggX7_room_X7_within
set_option maxRecDepth 20000 in
theorem ggX7_room_X2_countBelow : GoodIn wsX7_room wsX2_countBelow := goodIn_r _ [13, 14, 47, 48, 49, 50, 51, 52, 53, 54] (by decide +kernel) (by decide +kernel)
set_option maxRecDepth 20000 in
theorem gX7_room_X2_countBelow : GoodIn wsX7_room (wsV RX7 52 RX2 yX2_countBelow wsX2_countBelow) := goodIn_app (goodIn_of _ (by decide +kernel)) ggX7_room_X2_countBelow
set_option maxRecDepth 20000 in
theorem ggX7_room_X0_beginAnew : GoodIn wsX7_room wsX0_beginAnew := goodIn_r _ [19, 20, 21, 22, 23, 24, 25, 26, 27, 28, 35, 36, 37, 38, 39, 40, 41, 42, 43, 44, 45, 46] (by decide +kernel) (by decide +kernel)
set_option maxRecDepth 20000 in
theorem gX7_room_X0_beginAnew : GoodIn wsX7_room (wsV RX7 62 RX0 yX0_beginAnew wsX0_beginAnew) := goodIn_app (goodIn_of _ (by decide +kernel)) ggX7_room_X0_beginAnew
theorem dX7_room_0 : decode cX7_room 0 = .ok (.iload_n 1, 1) := by decide +kernel
theorem dX7_room_1 : decode cX7_room 1 = .ok (.bipush 100, 2) := by decide +kernel
theorem dX7_room_3 : decode cX7_room 3 = .ok (.sipush 5000, 3) := by decide +kernel
theorem dX7_room_6 : decode cX7_room 6 = .ok (.invokestatic 48, 3) := by decide +kernel
theorem dX7_room_9 : decode cX7_room 9 = .ok (.ifCond .ne 6, 3) := by decide +kernel
theorem dX7_room_12 : decode cX7_room 12 = .ok (.bipush (-2), 2) := by decide +kernel
theorem dX7_room_14 : decode cX7_room 14 = .ok (.ireturn, 1) := by decide +kernel
theorem dX7_room_15 : decode cX7_room 15 = .ok (.aload_n 0, 1) := by decide +kernel
theorem dX7_room_16 : decode cX7_room 16 = .ok (.getfield 19, 3) := by decide +kernel
theorem dX7_room_19 : decode cX7_room 19 = .ok (.invokevirtual 52, 3) := by decide +kernel
theorem dX7_room_22 : decode cX7_room 22 = .ok (.ifCond .gt 13, 3) := by decide +kernel
theorem dX7_room_25 : decode cX7_room 25 = .ok (.aload_n 0, 1) := by decide +kernel
theorem dX7_room_26 : decode cX7_room 26 = .ok (.getfield 12, 3) := by decide +kernel
theorem dX7_room_29 : decode cX7_room 29 = .ok (.getfield 56, 3) := by decide +kernel
theorem dX7_room_32 : decode cX7_room 32 = .ok (.ifCond .eq 6, 3) := by decide +kernel
theorem dX7_room_35 : decode cX7_room 35 = .ok (.bipush (-3), 2) := by decide +kernel
theorem dX7_room_37 : decode cX7_room 37 = .ok (.ireturn, 1) := by decide +kernel
theorem dX7_room_38 : decode cX7_room 38 = .ok (.aload_n 0, 1) := by decide +kernel
theorem dX7_room_39 : decode cX7_room 39 = .ok (.getfield 12, 3) := by decide +kernel
theorem dX7_room_42 : decode cX7_room 42 = .ok (.getfield 59, 3) := by decide +kernel
theorem dX7_room_45 : decode cX7_room 45 = .ok (.istore_n 2, 1) := by decide +kernel
theorem dX7_room_46 : decode cX7_room 46 = .ok (.aload_n 0, 1) := by decide +kernel
theorem dX7_room_47 : decode cX7_room 47 = .ok (.getfield 12, 3) := by decide +kernel
theorem dX7_room_50 : decode cX7_room 50 = .ok (.iload_n 1, 1) := by decide +kernel
theorem dX7_room_51 : decode cX7_room 51 = .ok (.invokevirtual 62, 3) := by decide +kernel
theorem dX7_room_54 : decode cX7_room 54 = .ok (.iload_n 2, 1) := by decide +kernel
theorem dX7_room_55 : decode cX7_room 55 = .ok (.ireturn, 1) := by decide +kernel
set_option maxRecDepth 20000 in
theorem ggX7_depth_X7_within : GoodIn wsX7_depth wsX7_within := goodIn_r _ [7] (by decide +kernel) (by decide +kernel)
set_option maxRecDepth 20000 in
theorem gX7_depth_X7_within : GoodIn wsX7_depth (va_wsS RX7 48 yX7_within wsX7_within) := goodIn_app (goodIn_of _ (by decide +kernel)) ggX7_depth_X7_within
set_option maxRecDepth 20000 in
theorem ggX7_depth_X2_anyOut : GoodIn wsX7_depth wsX2_anyOut := goodIn_r _ [12, 13, 61, 62, 63, 64, 65, 66, 67, 68] (by decide +kernel) (by decide +kernel)
set_option maxRecDepth 20000 in
theorem gX7_depth_X2_anyOut : GoodIn wsX7_depth (wsV RX7 66 RX2 yX2_anyOut wsX2_anyOut) := goodIn_app (goodIn_of _ (by decide +kernel)) ggX7_depth_X2_anyOut
set_option maxRecDepth 20000 in
theorem ggX7_depth_X0_spillOver : GoodIn wsX7_depth wsX0_spillOver := goodIn_r _ [18, 19, 20, 21, 22, 23, 24, 25, 17, 26, 27, 28, 29, 30, 31, 32, 33, 34, 35, 36, 37, 38, 39, 40, 41, 42, 49, 50, 51, 52, 53, 54, 55, 56, 57, 58, 59, 60] (by decide +kernel) (by decide +kernel)
set_option maxRecDepth 20000 in
theorem gX7_depth_X0_spillOver : GoodIn wsX7_depth (wsV RX7 70 RX0 yX0_spillOver wsX0_spillOver) := goodIn_app (goodIn_of _ (by decide +kernel)) ggX7_depth_X0_spillOver
theorem dX7_depth_0 : decode cX7_depth 0 = .ok (.iload_n 1, 1) := by decide +kernel
theorem dX7_depth_1 : decode cX7_depth 1 = .ok (.iconst 0, 1) := by decide +kernel
theorem dX7_depth_2 : decode cX7_depth 2 = .ok (.bipush 90, 2) := by decide +kernel
theorem dX7_depth_4 : decode cX7_depth 4 = .ok (.invokestatic 48, 3) := by decide +kernel
theorem dX7_depth_7 : decode cX7_depth 7 = .ok (.ifCond .ne 6, 3) := by decide +kernel
theorem dX7_depth_10 : decode cX7_depth 10 = .ok (.bipush (-2), 2) := by decide +kernel
theorem dX7_depth_12 : decode cX7_depth 12 = .ok (.ireturn, 1) := by decide +kernel
theorem dX7_depth_13 : decode cX7_depth 13 = .ok (.aload_n 0, 1) := by decide +kernel
theorem dX7_depth_14 : decode cX7_depth 14 = .ok (.getfield 19, 3) := by decide +kernel
theorem dX7_depth_17 : decode cX7_depth 17 = .ok (.invokevirtual 66, 3) := by decide +kernel
theorem dX7_depth_20 : decode cX7_depth 20 = .ok (.ifCond .eq 6, 3) := by decide +kernel
theorem dX7_depth_23 : decode cX7_depth 23 = .ok (.bipush (-3), 2) := by decide +kernel
theorem dX7_depth_25 : decode cX7_depth 25 = .ok (.ireturn, 1) := by decide +kernel
theorem dX7_depth_26 : decode cX7_depth 26 = .ok (.aload_n 0, 1) := by decide +kernel
theorem dX7_depth_27 : decode cX7_depth 27 = .ok (.getfield 12, 3) := by decide +kernel
theorem dX7_depth_30 : decode cX7_depth 30 = .ok (.iload_n 1, 1) := by decide +kernel
theorem dX7_depth_31 : decode cX7_depth 31 = .ok (.putfield 56, 3) := by decide +kernel
theorem dX7_depth_34 : decode cX7_depth 34 = .ok (.aload_n 0, 1) := by decide +kernel
theorem dX7_depth_35 : decode cX7_depth 35 = .ok (.getfield 12, 3) := by decide +kernel
theorem dX7_depth_38 : decode cX7_depth 38 = .ok (.invokevirtual 70, 3) := by decide +kernel
theorem dX7_depth_41 : decode cX7_depth 41 = .ok (.ireturn, 1) := by decide +kernel
set_option maxRecDepth 20000 in
theorem ggX7_tip_X0_shares : GoodIn wsX7_tip wsX0_shares := goodIn_r _ [6, 7, 8, 23, 24, 25, 26, 27, 28, 29, 30, 31, 32, 33, 34] (by decide +kernel) (by decide +kernel)
set_option maxRecDepth 20000 in
theorem gX7_tip_X0_shares : GoodIn wsX7_tip (wsV RX7 73 RX0 yX0_shares wsX0_shares) := goodIn_app (goodIn_of _ (by decide +kernel)) ggX7_tip_X0_shares
set_option maxRecDepth 20000 in
theorem ggX7_tip_X0_spill : GoodIn wsX7_tip wsX0_spill := goodIn_r _ [12, 7, 8, 13, 14, 15, 5, 16, 23, 24, 25, 26, 27, 28, 29, 30, 31, 32, 33, 34] (by decide +kernel) (by decide +kernel)
set_option maxRecDepth 20000 in
theorem gX7_tip_X0_spill : GoodIn wsX7_tip (wsV RX7 76 RX0 yX0_spill wsX0_spill) := goodIn_app (goodIn_of _ (by decide +kernel)) ggX7_tip_X0_spill
theorem dX7_tip_0 : decode cX7_tip 0 = .ok (.aload_n 0, 1) := by decide +kernel
theorem dX7_tip_1 : decode cX7_tip 1 = .ok (.getfield 12, 3) := by decide +kernel
theorem dX7_tip_4 : decode cX7_tip 4 = .ok (.aload_n 0, 1) := by decide +kernel
theorem dX7_tip_5 : decode cX7_tip 5 = .ok (.getfield 12, 3) := by decide +kernel
theorem dX7_tip_8 : decode cX7_tip 8 = .ok (.invokevirtual 73, 3) := by decide +kernel
theorem dX7_tip_11 : decode cX7_tip 11 = .ok (.iconst 2, 1) := by decide +kernel
theorem dX7_tip_12 : decode cX7_tip 12 = .ok (.idiv, 1) := by decide +kernel
theorem dX7_tip_13 : decode cX7_tip 13 = .ok (.invokevirtual 76, 3) := by decide +kernel
theorem dX7_tip_16 : decode cX7_tip 16 = .ok (.ireturn, 1) := by decide +kernel
set_option maxRecDepth 20000 in
theorem ggX7_barrel_X7_within : GoodIn wsX7_barrel wsX7_within := goodIn_r _ [6] (by decide +kernel) (by decide +kernel)
set_option maxRecDepth 20000 in
theorem gX7_barrel_X7_within : GoodIn wsX7_barrel (va_wsS RX7 48 yX7_within wsX7_within) := goodIn_app (goodIn_of _ (by decide +kernel)) ggX7_barrel_X7_within
set_option maxRecDepth 20000 in
theorem ggX7_barrel_X0_letIn : GoodIn wsX7_barrel wsX0_letIn := goodIn_r _ [11, 12, 13, 14, 15, 16, 17, 10, 18, 19, 20, 21, 22, 23, 24, 25, 26, 27, 28, 29, 30, 31, 32, 33, 34, 35, 36, 37, 38, 39, 40, 41, 48, 49, 50, 51, 52, 53, 54, 55, 56, 57, 58, 59] (by decide +kernel) (by decide +kernel)
set_option maxRecDepth 20000 in
theorem gX7_barrel_X0_letIn : GoodIn wsX7_barrel (wsV RX7 83 RX0 yX0_letIn wsX0_letIn) := goodIn_app (goodIn_of _ (by decide +kernel)) ggX7_barrel_X0_letIn
theorem dX7_barrel_0 : decode cX7_barrel 0 = .ok (.iload_n 1, 1) := by decide +kernel
theorem dX7_barrel_1 : decode cX7_barrel 1 = .ok (.iconst 1, 1) := by decide +kernel
theorem dX7_barrel_2 : decode cX7_barrel 2 = .ok (.sipush 500, 3) := by decide +kernel
theorem dX7_barrel_5 : decode cX7_barrel 5 = .ok (.invokestatic 48, 3) := by decide +kernel
theorem dX7_barrel_8 : decode cX7_barrel 8 = .ok (.ifCond .ne 6, 3) := by decide +kernel
theorem dX7_barrel_11 : decode cX7_barrel 11 = .ok (.bipush (-2), 2) := by decide +kernel
theorem dX7_barrel_13 : decode cX7_barrel 13 = .ok (.ireturn, 1) := by decide +kernel
theorem dX7_barrel_14 : decode cX7_barrel 14 = .ok (.aload_n 0, 1) := by decide +kernel
theorem dX7_barrel_15 : decode cX7_barrel 15 = .ok (.getfield 12, 3) := by decide +kernel
theorem dX7_barrel_18 : decode cX7_barrel 18 = .ok (.getfield 80, 3) := by decide +kernel
theorem dX7_barrel_21 : decode cX7_barrel 21 = .ok (.bipush 40, 2) := by decide +kernel
theorem dX7_barrel_23 : decode cX7_barrel 23 = .ok (.if_icmp .lt 6, 3) := by decide +kernel
theorem dX7_barrel_26 : decode cX7_barrel 26 = .ok (.bipush (-4), 2) := by decide +kernel
theorem dX7_barrel_28 : decode cX7_barrel 28 = .ok (.ireturn, 1) := by decide +kernel
theorem dX7_barrel_29 : decode cX7_barrel 29 = .ok (.aload_n 0, 1) := by decide +kernel
theorem dX7_barrel_30 : decode cX7_barrel 30 = .ok (.getfield 12, 3) := by decide +kernel
theorem dX7_barrel_33 : decode cX7_barrel 33 = .ok (.iload_n 1, 1) := by decide +kernel
theorem dX7_barrel_34 : decode cX7_barrel 34 = .ok (.invokevirtual 83, 3) := by decide +kernel
theorem dX7_barrel_37 : decode cX7_barrel 37 = .ok (.ireturn, 1) := by decide +kernel
set_option maxRecDepth 20000 in
theorem ggX7_breath_X7_within : GoodIn wsX7_breath wsX7_within := goodIn_r _ [6] (by decide +kernel) (by decide +kernel)
set_option maxRecDepth 20000 in
theorem gX7_breath_X7_within : GoodIn wsX7_breath (va_wsS RX7 48 yX7_within wsX7_within) := goodIn_app (goodIn_of _ (by decide +kernel)) ggX7_breath_X7_within
theorem dX7_breath_0 : decode cX7_breath 0 = .ok (.iload_n 1, 1) := by decide +kernel
theorem dX7_breath_1 : decode cX7_breath 1 = .ok (.iconst 1, 1) := by decide +kernel
theorem dX7_breath_2 : decode cX7_breath 2 = .ok (.bipush 30, 2) := by decide +kernel
theorem dX7_breath_4 : decode cX7_breath 4 = .ok (.invokestatic 48, 3) := by decide +kernel
theorem dX7_breath_7 : decode cX7_breath 7 = .ok (.ifCond .ne 6, 3) := by decide +kernel
theorem dX7_breath_10 : decode cX7_breath 10 = .ok (.bipush (-2), 2) := by decide +kernel
theorem dX7_breath_12 : decode cX7_breath 12 = .ok (.ireturn, 1) := by decide +kernel
theorem dX7_breath_13 : decode cX7_breath 13 = .ok (.aload_n 0, 1) := by decide +kernel
theorem dX7_breath_14 : decode cX7_breath 14 = .ok (.getfield 12, 3) := by decide +kernel
theorem dX7_breath_17 : decode cX7_breath 17 = .ok (.getfield 86, 3) := by decide +kernel
theorem dX7_breath_20 : decode cX7_breath 20 = .ok (.istore_n 2, 1) := by decide +kernel
theorem dX7_breath_21 : decode cX7_breath 21 = .ok (.aload_n 0, 1) := by decide +kernel
theorem dX7_breath_22 : decode cX7_breath 22 = .ok (.getfield 12, 3) := by decide +kernel
theorem dX7_breath_25 : decode cX7_breath 25 = .ok (.iload_n 1, 1) := by decide +kernel
theorem dX7_breath_26 : decode cX7_breath 26 = .ok (.putfield 86, 3) := by decide +kernel
theorem dX7_breath_29 : decode cX7_breath 29 = .ok (.iload_n 2, 1) := by decide +kernel
theorem dX7_breath_30 : decode cX7_breath 30 = .ok (.ireturn, 1) := by decide +kernel
set_option maxRecDepth 20000 in
theorem ggX7_limit_X7_within : GoodIn wsX7_limit wsX7_within := goodIn_r _ [6] (by decide +kernel) (by decide +kernel)
set_option maxRecDepth 20000 in
theorem gX7_limit_X7_within : GoodIn wsX7_limit (va_wsS RX7 48 yX7_within wsX7_within) := goodIn_app (goodIn_of _ (by decide +kernel)) ggX7_limit_X7_within
theorem dX7_limit_0 : decode cX7_limit 0 = .ok (.iload_n 1, 1) := by decide +kernel
theorem dX7_limit_1 : decode cX7_limit 1 = .ok (.iconst 1, 1) := by decide +kernel
theorem dX7_limit_2 : decode cX7_limit 2 = .ok (.bipush 100, 2) := by decide +kernel
theorem dX7_limit_4 : decode cX7_limit 4 = .ok (.invokestatic 48, 3) := by decide +kernel
theorem dX7_limit_7 : decode cX7_limit 7 = .ok (.ifCond .ne 6, 3) := by decide +kernel
theorem dX7_limit_10 : decode cX7_limit 10 = .ok (.bipush (-2), 2) := by decide +kernel
theorem dX7_limit_12 : decode cX7_limit 12 = .ok (.ireturn, 1) := by decide +kernel
theorem dX7_limit_13 : decode cX7_limit 13 = .ok (.aload_n 0, 1) := by decide +kernel
theorem dX7_limit_14 : decode cX7_limit 14 = .ok (.getfield 12, 3) := by decide +kernel
theorem dX7_limit_17 : decode cX7_limit 17 = .ok (.getfield 89, 3) := by decide +kernel
theorem dX7_limit_20 : decode cX7_limit 20 = .ok (.istore_n 2, 1) := by decide +kernel
theorem dX7_limit_21 : decode cX7_limit 21 = .ok (.aload_n 0, 1) := by decide +kernel
theorem dX7_limit_22 : decode cX7_limit 22 = .ok (.getfield 12, 3) := by decide +kernel
theorem dX7_limit_25 : decode cX7_limit 25 = .ok (.iload_n 1, 1) := by decide +kernel
theorem dX7_limit_26 : decode cX7_limit 26 = .ok (.putfield 89, 3) := by decide +kernel
theorem dX7_limit_29 : decode cX7_limit 29 = .ok (.iload_n 2, 1) := by decide +kernel
theorem dX7_limit_30 : decode cX7_limit 30 = .ok (.ireturn, 1) := by decide +kernel
set_option maxRecDepth 20000 in
theorem ggX7_minutes_X7_within : GoodIn wsX7_minutes wsX7_within := goodIn_r _ [7] (by decide +kernel) (by decide +kernel)
set_option maxRecDepth 20000 in
theorem gX7_minutes_X7_within : GoodIn wsX7_minutes (va_wsS RX7 48 yX7_within wsX7_within) := goodIn_app (goodIn_of _ (by decide +kernel)) ggX7_minutes_X7_within
set_option maxRecDepth 20000 in
theorem ggX7_minutes_X7_passMinute : GoodIn wsX7_minutes wsX7_passMinute := goodIn_r _ [11, 12, 13, 14, 1, 3, 15, 16, 17, 18, 19, 20, 21, 22, 23, 24, 25, 26, 27, 28, 29, 30, 31, 32, 33, 34, 35, 36, 37, 38, 39, 40, 41, 42, 43, 44, 45, 46, 47, 6, 48, 49, 50, 51, 52, 53, 54, 55, 56, 57, 58, 5, 7, 59, 60, 61, 62, 63, 64, 65, 66, 67, 68, 69, 70, 71, 72, 73, 74, 75, 76, 77, 78, 79, 80, 81, 82, 83, 84, 97, 98, 99, 100, 101, 102, 103, 104, 85, 86, 87, 88, 89, 90, 91, 92, 93, 94, 95, 96, 105, 106, 107, 108, 109, 110, 111, 112, 113, 114, 115, 116] (by decide +kernel) (by decide +kernel)
set_option maxRecDepth 20000 in
theorem gX7_minutes_X7_passMinute : GoodIn wsX7_minutes (wsV RX7 98 RX7 yX7_passMinute wsX7_passMinute) := goodIn_app (goodIn_of _ (by decide +kernel)) ggX7_minutes_X7_passMinute
theorem dX7_minutes_0 : decode cX7_minutes 0 = .ok (.iload_n 1, 1) := by decide +kernel
theorem dX7_minutes_1 : decode cX7_minutes 1 = .ok (.iconst 1, 1) := by decide +kernel
theorem dX7_minutes_2 : decode cX7_minutes 2 = .ok (.sipush 200, 3) := by decide +kernel
theorem dX7_minutes_5 : decode cX7_minutes 5 = .ok (.invokestatic 48, 3) := by decide +kernel
theorem dX7_minutes_8 : decode cX7_minutes 8 = .ok (.ifCond .ne 6, 3) := by decide +kernel
theorem dX7_minutes_11 : decode cX7_minutes 11 = .ok (.bipush (-2), 2) := by decide +kernel
theorem dX7_minutes_13 : decode cX7_minutes 13 = .ok (.ireturn, 1) := by decide +kernel
theorem dX7_minutes_14 : decode cX7_minutes 14 = .ok (.aload_n 0, 1) := by decide +kernel
theorem dX7_minutes_15 : decode cX7_minutes 15 = .ok (.getfield 12, 3) := by decide +kernel
theorem dX7_minutes_18 : decode cX7_minutes 18 = .ok (.getfield 92, 3) := by decide +kernel
theorem dX7_minutes_21 : decode cX7_minutes 21 = .ok (.aload_n 0, 1) := by decide +kernel
theorem dX7_minutes_22 : decode cX7_minutes 22 = .ok (.getfield 12, 3) := by decide +kernel
theorem dX7_minutes_25 : decode cX7_minutes 25 = .ok (.getfield 95, 3) := by decide +kernel
theorem dX7_minutes_28 : decode cX7_minutes 28 = .ok (.iadd, 1) := by decide +kernel
theorem dX7_minutes_29 : decode cX7_minutes 29 = .ok (.istore_n 2, 1) := by decide +kernel
theorem dX7_minutes_30 : decode cX7_minutes 30 = .ok (.iconst 0, 1) := by decide +kernel
theorem dX7_minutes_31 : decode cX7_minutes 31 = .ok (.istore_n 3, 1) := by decide +kernel
theorem dX7_minutes_32 : decode cX7_minutes 32 = .ok (.iload_n 3, 1) := by decide +kernel
theorem dX7_minutes_33 : decode cX7_minutes 33 = .ok (.iload_n 1, 1) := by decide +kernel
theorem dX7_minutes_34 : decode cX7_minutes 34 = .ok (.if_icmp .ge 13, 3) := by decide +kernel
theorem dX7_minutes_37 : decode cX7_minutes 37 = .ok (.aload_n 0, 1) := by decide +kernel
theorem dX7_minutes_38 : decode cX7_minutes 38 = .ok (.invokevirtual 98, 3) := by decide +kernel
theorem dX7_minutes_41 : decode cX7_minutes 41 = .ok (.iinc 3 1, 3) := by decide +kernel
theorem dX7_minutes_44 : decode cX7_minutes 44 = .ok (.goto (-12), 3) := by decide +kernel
theorem dX7_minutes_47 : decode cX7_minutes 47 = .ok (.aload_n 0, 1) := by decide +kernel
theorem dX7_minutes_48 : decode cX7_minutes 48 = .ok (.getfield 12, 3) := by decide +kernel
theorem dX7_minutes_51 : decode cX7_minutes 51 = .ok (.getfield 92, 3) := by decide +kernel
theorem dX7_minutes_54 : decode cX7_minutes 54 = .ok (.aload_n 0, 1) := by decide +kernel
theorem dX7_minutes_55 : decode cX7_minutes 55 = .ok (.getfield 12, 3) := by decide +kernel
theorem dX7_minutes_58 : decode cX7_minutes 58 = .ok (.getfield 95, 3) := by decide +kernel
theorem dX7_minutes_61 : decode cX7_minutes 61 = .ok (.iadd, 1) := by decide +kernel
theorem dX7_minutes_62 : decode cX7_minutes 62 = .ok (.iload_n 2, 1) := by decide +kernel
theorem dX7_minutes_63 : decode cX7_minutes 63 = .ok (.isub, 1) := by decide +kernel
theorem dX7_minutes_64 : decode cX7_minutes 64 = .ok (.ireturn, 1) := by decide +kernel
set_option maxRecDepth 20000 in
theorem ggX7_air_X0_dry : GoodIn wsX7_air wsX0_dry := goodIn_r _ [16, 17, 18, 19, 20, 15, 21, 22, 23, 53, 54, 55, 56, 57, 58, 59, 60, 61, 62, 63, 64] (by decide +kernel) (by decide +kernel)
set_option maxRecDepth 20000 in
theorem gX7_air_X0_dry : GoodIn wsX7_air (wsV RX7 116 RX0 yX0_dry wsX0_dry) := goodIn_app (goodIn_of _ (by decide +kernel)) ggX7_air_X0_dry
set_option maxRecDepth 20000 in
theorem ggX7_air_X0_foulness : GoodIn wsX7_air wsX0_foulness := goodIn_r _ [26, 27, 28, 15, 29] (by decide +kernel) (by decide +kernel)
set_option maxRecDepth 20000 in
theorem gX7_air_X0_foulness : GoodIn wsX7_air (va_wsS RX7 119 yX0_foulness wsX0_foulness) := goodIn_app (goodIn_of _ (by decide +kernel)) ggX7_air_X0_foulness
set_option maxRecDepth 20000 in
theorem ggX7_air_X2_countBelow : GoodIn wsX7_air wsX2_countBelow := goodIn_r _ [34, 35, 65, 66, 67, 68, 69, 70, 71, 72] (by decide +kernel) (by decide +kernel)
set_option maxRecDepth 20000 in
theorem gX7_air_X2_countBelow : GoodIn wsX7_air (wsV RX7 52 RX2 yX2_countBelow wsX2_countBelow) := goodIn_app (goodIn_of _ (by decide +kernel)) ggX7_air_X2_countBelow
set_option maxRecDepth 20000 in
theorem ggX7_air_X0_lasts : GoodIn wsX7_air wsX0_lasts := goodIn_r _ [39, 40, 41, 22, 53, 54, 55, 56, 57, 58, 59, 60, 61, 62, 63, 64] (by decide +kernel) (by decide +kernel)
set_option maxRecDepth 20000 in
theorem gX7_air_X0_lasts : GoodIn wsX7_air (wsV RX7 123 RX0 yX0_lasts wsX0_lasts) := goodIn_app (goodIn_of _ (by decide +kernel)) ggX7_air_X0_lasts
set_option maxRecDepth 20000 in
theorem ggX7_air_X0_most : GoodIn wsX7_air wsX0_most := goodIn_r _ [45, 46, 17, 53, 54, 55, 56, 57, 58, 59, 60, 61, 62, 63, 64] (by decide +kernel) (by decide +kernel)
set_option maxRecDepth 20000 in
theorem gX7_air_X0_most : GoodIn wsX7_air (wsV RX7 126 RX0 yX0_most wsX0_most) := goodIn_app (goodIn_of _ (by decide +kernel)) ggX7_air_X0_most
theorem dX7_air_0 : decode cX7_air 0 = .ok (.iload_n 1, 1) := by decide +kernel
theorem dX7_air_1 : decode cX7_air 1 = .ok (.tableswitch 196 0 12 #[67, 75, 83, 91, 99, 107, 115, 131, 149, 164, 172, 180, 188], 67) := by decide +kernel
theorem dX7_air_68 : decode cX7_air 68 = .ok (.aload_n 0, 1) := by decide +kernel
theorem dX7_air_69 : decode cX7_air 69 = .ok (.getfield 12, 3) := by decide +kernel
theorem dX7_air_72 : decode cX7_air 72 = .ok (.getfield 101, 3) := by decide +kernel
theorem dX7_air_75 : decode cX7_air 75 = .ok (.ireturn, 1) := by decide +kernel
theorem dX7_air_76 : decode cX7_air 76 = .ok (.aload_n 0, 1) := by decide +kernel
theorem dX7_air_77 : decode cX7_air 77 = .ok (.getfield 12, 3) := by decide +kernel
theorem dX7_air_80 : decode cX7_air 80 = .ok (.getfield 104, 3) := by decide +kernel
theorem dX7_air_83 : decode cX7_air 83 = .ok (.ireturn, 1) := by decide +kernel
theorem dX7_air_84 : decode cX7_air 84 = .ok (.aload_n 0, 1) := by decide +kernel
theorem dX7_air_85 : decode cX7_air 85 = .ok (.getfield 12, 3) := by decide +kernel
theorem dX7_air_88 : decode cX7_air 88 = .ok (.getfield 107, 3) := by decide +kernel
theorem dX7_air_91 : decode cX7_air 91 = .ok (.ireturn, 1) := by decide +kernel
theorem dX7_air_92 : decode cX7_air 92 = .ok (.aload_n 0, 1) := by decide +kernel
theorem dX7_air_93 : decode cX7_air 93 = .ok (.getfield 12, 3) := by decide +kernel
theorem dX7_air_96 : decode cX7_air 96 = .ok (.getfield 110, 3) := by decide +kernel
theorem dX7_air_99 : decode cX7_air 99 = .ok (.ireturn, 1) := by decide +kernel
theorem dX7_air_100 : decode cX7_air 100 = .ok (.aload_n 0, 1) := by decide +kernel
theorem dX7_air_101 : decode cX7_air 101 = .ok (.getfield 12, 3) := by decide +kernel
theorem dX7_air_104 : decode cX7_air 104 = .ok (.getfield 113, 3) := by decide +kernel
theorem dX7_air_107 : decode cX7_air 107 = .ok (.ireturn, 1) := by decide +kernel
theorem dX7_air_108 : decode cX7_air 108 = .ok (.aload_n 0, 1) := by decide +kernel
theorem dX7_air_109 : decode cX7_air 109 = .ok (.getfield 12, 3) := by decide +kernel
theorem dX7_air_112 : decode cX7_air 112 = .ok (.invokevirtual 116, 3) := by decide +kernel
theorem dX7_air_115 : decode cX7_air 115 = .ok (.ireturn, 1) := by decide +kernel
theorem dX7_air_116 : decode cX7_air 116 = .ok (.aload_n 0, 1) := by decide +kernel
theorem dX7_air_117 : decode cX7_air 117 = .ok (.getfield 12, 3) := by decide +kernel
theorem dX7_air_120 : decode cX7_air 120 = .ok (.getfield 59, 3) := by decide +kernel
theorem dX7_air_123 : decode cX7_air 123 = .ok (.aload_n 0, 1) := by decide +kernel
theorem dX7_air_124 : decode cX7_air 124 = .ok (.getfield 12, 3) := by decide +kernel
theorem dX7_air_127 : decode cX7_air 127 = .ok (.invokevirtual 116, 3) := by decide +kernel
theorem dX7_air_130 : decode cX7_air 130 = .ok (.isub, 1) := by decide +kernel
theorem dX7_air_131 : decode cX7_air 131 = .ok (.ireturn, 1) := by decide +kernel
theorem dX7_air_132 : decode cX7_air 132 = .ok (.aload_n 0, 1) := by decide +kernel
theorem dX7_air_133 : decode cX7_air 133 = .ok (.getfield 12, 3) := by decide +kernel
theorem dX7_air_136 : decode cX7_air 136 = .ok (.getfield 101, 3) := by decide +kernel
theorem dX7_air_139 : decode cX7_air 139 = .ok (.aload_n 0, 1) := by decide +kernel
theorem dX7_air_140 : decode cX7_air 140 = .ok (.getfield 12, 3) := by decide +kernel
theorem dX7_air_143 : decode cX7_air 143 = .ok (.getfield 104, 3) := by decide +kernel
theorem dX7_air_146 : decode cX7_air 146 = .ok (.invokestatic 119, 3) := by decide +kernel
theorem dX7_air_149 : decode cX7_air 149 = .ok (.ireturn, 1) := by decide +kernel
theorem dX7_air_150 : decode cX7_air 150 = .ok (.aload_n 0, 1) := by decide +kernel
theorem dX7_air_151 : decode cX7_air 151 = .ok (.getfield 12, 3) := by decide +kernel
theorem dX7_air_154 : decode cX7_air 154 = .ok (.aload_n 0, 1) := by decide +kernel
theorem dX7_air_155 : decode cX7_air 155 = .ok (.getfield 19, 3) := by decide +kernel
theorem dX7_air_158 : decode cX7_air 158 = .ok (.invokevirtual 52, 3) := by decide +kernel
theorem dX7_air_161 : decode cX7_air 161 = .ok (.invokevirtual 123, 3) := by decide +kernel
theorem dX7_air_164 : decode cX7_air 164 = .ok (.ireturn, 1) := by decide +kernel
theorem dX7_air_165 : decode cX7_air 165 = .ok (.aload_n 0, 1) := by decide +kernel
theorem dX7_air_166 : decode cX7_air 166 = .ok (.getfield 12, 3) := by decide +kernel
theorem dX7_air_169 : decode cX7_air 169 = .ok (.invokevirtual 126, 3) := by decide +kernel
theorem dX7_air_172 : decode cX7_air 172 = .ok (.ireturn, 1) := by decide +kernel
theorem dX7_air_173 : decode cX7_air 173 = .ok (.aload_n 0, 1) := by decide +kernel
theorem dX7_air_174 : decode cX7_air 174 = .ok (.getfield 12, 3) := by decide +kernel
theorem dX7_air_177 : decode cX7_air 177 = .ok (.getfield 80, 3) := by decide +kernel
theorem dX7_air_180 : decode cX7_air 180 = .ok (.ireturn, 1) := by decide +kernel
theorem dX7_air_181 : decode cX7_air 181 = .ok (.aload_n 0, 1) := by decide +kernel
theorem dX7_air_182 : decode cX7_air 182 = .ok (.getfield 12, 3) := by decide +kernel
theorem dX7_air_185 : decode cX7_air 185 = .ok (.getfield 92, 3) := by decide +kernel
theorem dX7_air_188 : decode cX7_air 188 = .ok (.ireturn, 1) := by decide +kernel
theorem dX7_air_189 : decode cX7_air 189 = .ok (.aload_n 0, 1) := by decide +kernel
theorem dX7_air_190 : decode cX7_air 190 = .ok (.getfield 12, 3) := by decide +kernel
theorem dX7_air_193 : decode cX7_air 193 = .ok (.getfield 95, 3) := by decide +kernel
theorem dX7_air_196 : decode cX7_air 196 = .ok (.ireturn, 1) := by decide +kernel
theorem dX7_air_197 : decode cX7_air 197 = .ok (.bipush (-2), 2) := by decide +kernel
theorem dX7_air_199 : decode cX7_air 199 = .ok (.ireturn, 1) := by decide +kernel
set_option maxRecDepth 20000 in
theorem ggX7_fewest_X7_within : GoodIn wsX7_fewest wsX7_within := goodIn_r _ [5] (by decide +kernel) (by decide +kernel)
set_option maxRecDepth 20000 in
theorem gX7_fewest_X7_within : GoodIn wsX7_fewest (va_wsS RX7 48 yX7_within wsX7_within) := goodIn_app (goodIn_of _ (by decide +kernel)) ggX7_fewest_X7_within
set_option maxRecDepth 20000 in
theorem ggX7_fewest_X0_fewestBarrels : GoodIn wsX7_fewest wsX0_fewestBarrels := goodIn_r _ [10, 11, 12, 13, 14, 15, 16, 17, 18, 19, 9, 20, 21, 22, 23, 24, 25, 26, 27, 28, 29, 36, 37, 38, 39, 40, 41, 42, 43, 44, 45, 46, 47] (by decide +kernel) (by decide +kernel)
set_option maxRecDepth 20000 in
theorem gX7_fewest_X0_fewestBarrels : GoodIn wsX7_fewest (wsV RX7 129 RX0 yX0_fewestBarrels wsX0_fewestBarrels) := goodIn_app (goodIn_of _ (by decide +kernel)) ggX7_fewest_X0_fewestBarrels
theorem dX7_fewest_0 : decode cX7_fewest 0 = .ok (.iload_n 1, 1) := by decide +kernel
theorem dX7_fewest_1 : decode cX7_fewest 1 = .ok (.iconst 1, 1) := by decide +kernel
theorem dX7_fewest_2 : decode cX7_fewest 2 = .ok (.sipush 500, 3) := by decide +kernel
theorem dX7_fewest_5 : decode cX7_fewest 5 = .ok (.invokestatic 48, 3) := by decide +kernel
theorem dX7_fewest_8 : decode cX7_fewest 8 = .ok (.ifCond .ne 6, 3) := by decide +kernel
