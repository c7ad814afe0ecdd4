theorem dX8_labour_15 : decode cX8_labour 15 = .ok (.iconst 5, 1) := by decide +kernel
theorem dX8_labour_16 : decode cX8_labour 16 = .ok (.iload_n 2, 1) := by decide +kernel
theorem dX8_labour_17 : decode cX8_labour 17 = .ok (.imul, 1) := by decide +kernel
theorem dX8_labour_18 : decode cX8_labour 18 = .ok (.iaload, 1) := by decide +kernel
theorem dX8_labour_19 : decode cX8_labour 19 = .ok (.aload_n 0, 1) := by decide +kernel
theorem dX8_labour_20 : decode cX8_labour 20 = .ok (.getfield 35, 3) := by decide +kernel
theorem dX8_labour_23 : decode cX8_labour 23 = .ok (.iload_n 1, 1) := by decide +kernel
theorem dX8_labour_24 : decode cX8_labour 24 = .ok (.iaload, 1) := by decide +kernel
theorem dX8_labour_25 : decode cX8_labour 25 = .ok (.if_icmp .ne 31, 3) := by decide +kernel
theorem dX8_labour_28 : decode cX8_labour 28 = .ok (.aload_n 0, 1) := by decide +kernel
theorem dX8_labour_29 : decode cX8_labour 29 = .ok (.iload_n 2, 1) := by decide +kernel
theorem dX8_labour_30 : decode cX8_labour 30 = .ok (.invokevirtual 141, 3) := by decide +kernel
theorem dX8_labour_33 : decode cX8_labour 33 = .ok (.ifCond .eq 23, 3) := by decide +kernel
theorem dX8_labour_36 : decode cX8_labour 36 = .ok (.aload_n 0, 1) := by decide +kernel
theorem dX8_labour_37 : decode cX8_labour 37 = .ok (.getfield 138, 3) := by decide +kernel
theorem dX8_labour_40 : decode cX8_labour 40 = .ok (.aload_n 0, 1) := by decide +kernel
theorem dX8_labour_41 : decode cX8_labour 41 = .ok (.getfield 145, 3) := by decide +kernel
theorem dX8_labour_44 : decode cX8_labour 44 = .ok (.ior, 1) := by decide +kernel
theorem dX8_labour_45 : decode cX8_labour 45 = .ok (.iload_n 2, 1) := by decide +kernel
theorem dX8_labour_46 : decode cX8_labour 46 = .ok (.ishr, 1) := by decide +kernel
theorem dX8_labour_47 : decode cX8_labour 47 = .ok (.iconst 1, 1) := by decide +kernel
theorem dX8_labour_48 : decode cX8_labour 48 = .ok (.iand, 1) := by decide +kernel
theorem dX8_labour_49 : decode cX8_labour 49 = .ok (.ifCond .ne 7, 3) := by decide +kernel
theorem dX8_labour_52 : decode cX8_labour 52 = .ok (.iconst 1, 1) := by decide +kernel
theorem dX8_labour_53 : decode cX8_labour 53 = .ok (.goto 4, 3) := by decide +kernel
theorem dX8_labour_56 : decode cX8_labour 56 = .ok (.iconst 0, 1) := by decide +kernel
theorem dX8_labour_57 : decode cX8_labour 57 = .ok (.istore_n 3, 1) := by decide +kernel
theorem dX8_labour_58 : decode cX8_labour 58 = .ok (.iload_n 3, 1) := by decide +kernel
theorem dX8_labour_59 : decode cX8_labour 59 = .ok (.ifCond .eq 56, 3) := by decide +kernel
theorem dX8_labour_62 : decode cX8_labour 62 = .ok (.aload_n 0, 1) := by decide +kernel
theorem dX8_labour_63 : decode cX8_labour 63 = .ok (.getfield 50, 3) := by decide +kernel
theorem dX8_labour_66 : decode cX8_labour 66 = .ok (.iconst 5, 1) := by decide +kernel
theorem dX8_labour_67 : decode cX8_labour 67 = .ok (.iload_n 2, 1) := by decide +kernel
theorem dX8_labour_68 : decode cX8_labour 68 = .ok (.imul, 1) := by decide +kernel
theorem dX8_labour_69 : decode cX8_labour 69 = .ok (.iconst 4, 1) := by decide +kernel
theorem dX8_labour_70 : decode cX8_labour 70 = .ok (.iadd, 1) := by decide +kernel
theorem dX8_labour_71 : decode cX8_labour 71 = .ok (.dup2, 1) := by decide +kernel
theorem dX8_labour_72 : decode cX8_labour 72 = .ok (.iaload, 1) := by decide +kernel
theorem dX8_labour_73 : decode cX8_labour 73 = .ok (.iconst 1, 1) := by decide +kernel
theorem dX8_labour_74 : decode cX8_labour 74 = .ok (.iadd, 1) := by decide +kernel
theorem dX8_labour_75 : decode cX8_labour 75 = .ok (.iastore, 1) := by decide +kernel
theorem dX8_labour_76 : decode cX8_labour 76 = .ok (.aload_n 0, 1) := by decide +kernel
theorem dX8_labour_77 : decode cX8_labour 77 = .ok (.dup, 1) := by decide +kernel
theorem dX8_labour_78 : decode cX8_labour 78 = .ok (.getfield 138, 3) := by decide +kernel
theorem dX8_labour_81 : decode cX8_labour 81 = .ok (.aload_n 0, 1) := by decide +kernel
theorem dX8_labour_82 : decode cX8_labour 82 = .ok (.getfield 50, 3) := by decide +kernel
theorem dX8_labour_85 : decode cX8_labour 85 = .ok (.iconst 5, 1) := by decide +kernel
theorem dX8_labour_86 : decode cX8_labour 86 = .ok (.iload_n 2, 1) := by decide +kernel
theorem dX8_labour_87 : decode cX8_labour 87 = .ok (.imul, 1) := by decide +kernel
theorem dX8_labour_88 : decode cX8_labour 88 = .ok (.iconst 4, 1) := by decide +kernel
theorem dX8_labour_89 : decode cX8_labour 89 = .ok (.iadd, 1) := by decide +kernel
theorem dX8_labour_90 : decode cX8_labour 90 = .ok (.iaload, 1) := by decide +kernel
theorem dX8_labour_91 : decode cX8_labour 91 = .ok (.aload_n 0, 1) := by decide +kernel
theorem dX8_labour_92 : decode cX8_labour 92 = .ok (.getfield 50, 3) := by decide +kernel
theorem dX8_labour_95 : decode cX8_labour 95 = .ok (.iconst 5, 1) := by decide +kernel
theorem dX8_labour_96 : decode cX8_labour 96 = .ok (.iload_n 2, 1) := by decide +kernel
theorem dX8_labour_97 : decode cX8_labour 97 = .ok (.imul, 1) := by decide +kernel
theorem dX8_labour_98 : decode cX8_labour 98 = .ok (.iconst 2, 1) := by decide +kernel
theorem dX8_labour_99 : decode cX8_labour 99 = .ok (.iadd, 1) := by decide +kernel
theorem dX8_labour_100 : decode cX8_labour 100 = .ok (.iaload, 1) := by decide +kernel
theorem dX8_labour_101 : decode cX8_labour 101 = .ok (.if_icmp .ne 9, 3) := by decide +kernel
theorem dX8_labour_104 : decode cX8_labour 104 = .ok (.iconst 1, 1) := by decide +kernel
theorem dX8_labour_105 : decode cX8_labour 105 = .ok (.iload_n 2, 1) := by decide +kernel
theorem dX8_labour_106 : decode cX8_labour 106 = .ok (.ishl, 1) := by decide +kernel
theorem dX8_labour_107 : decode cX8_labour 107 = .ok (.goto 4, 3) := by decide +kernel
theorem dX8_labour_110 : decode cX8_labour 110 = .ok (.iconst 0, 1) := by decide +kernel
theorem dX8_labour_111 : decode cX8_labour 111 = .ok (.ior, 1) := by decide +kernel
theorem dX8_labour_112 : decode cX8_labour 112 = .ok (.putfield 138, 3) := by decide +kernel
theorem dX8_labour_115 : decode cX8_labour 115 = .ok (.return_, 1) := by decide +kernel
set_option maxRecDepth 20000 in
theorem ggX8_minutes_X8_in : GoodIn wsX8_minutes wsX8_in := goodIn_r _ [6] (by decide +kernel) (by decide +kernel)
set_option maxRecDepth 20000 in
theorem gX8_minutes_X8_in : GoodIn wsX8_minutes (va_wsS RX8 102 yX8_in wsX8_in) := goodIn_app (goodIn_of _ (by decide +kernel)) ggX8_minutes_X8_in
set_option maxRecDepth 20000 in
theorem ggX8_minutes_X8_live : GoodIn wsX8_minutes wsX8_live := goodIn_r _ [10, 11, 12, 13, 14, 15, 1, 16, 17, 18, 19, 20, 21, 22, 5, 23, 24, 25, 26, 27, 28, 29, 30, 31, 32, 33, 34, 35, 36, 37, 38, 39, 40, 41, 42, 43, 44, 45, 46, 47, 48, 49, 50, 51, 52, 53, 54, 55, 56, 57, 58, 59, 60, 61, 62, 63, 64, 65, 66, 67, 68, 69, 70, 71, 72, 73, 74, 75, 76, 77, 78, 79, 80, 81, 82, 83] (by decide +kernel) (by decide +kernel)
set_option maxRecDepth 20000 in
theorem gX8_minutes_X8_live : GoodIn wsX8_minutes (wsV RX8 148 RX8 yX8_live wsX8_live) := goodIn_app (goodIn_of _ (by decide +kernel)) ggX8_minutes_X8_live
theorem dX8_minutes_0 : decode cX8_minutes 0 = .ok (.iload_n 1, 1) := by decide +kernel
theorem dX8_minutes_1 : decode cX8_minutes 1 = .ok (.iconst 1, 1) := by decide +kernel
theorem dX8_minutes_2 : decode cX8_minutes 2 = .ok (.sipush 200, 3) := by decide +kernel
theorem dX8_minutes_5 : decode cX8_minutes 5 = .ok (.invokestatic 102, 3) := by decide +kernel
theorem dX8_minutes_8 : decode cX8_minutes 8 = .ok (.ifCond .ne 6, 3) := by decide +kernel
theorem dX8_minutes_11 : decode cX8_minutes 11 = .ok (.bipush (-2), 2) := by decide +kernel
theorem dX8_minutes_13 : decode cX8_minutes 13 = .ok (.ireturn, 1) := by decide +kernel
theorem dX8_minutes_14 : decode cX8_minutes 14 = .ok (.iconst 0, 1) := by decide +kernel
theorem dX8_minutes_15 : decode cX8_minutes 15 = .ok (.istore_n 2, 1) := by decide +kernel
theorem dX8_minutes_16 : decode cX8_minutes 16 = .ok (.iconst 0, 1) := by decide +kernel
theorem dX8_minutes_17 : decode cX8_minutes 17 = .ok (.istore_n 3, 1) := by decide +kernel
theorem dX8_minutes_18 : decode cX8_minutes 18 = .ok (.iload_n 3, 1) := by decide +kernel
theorem dX8_minutes_19 : decode cX8_minutes 19 = .ok (.iload_n 1, 1) := by decide +kernel
theorem dX8_minutes_20 : decode cX8_minutes 20 = .ok (.if_icmp .ge 48, 3) := by decide +kernel
theorem dX8_minutes_23 : decode cX8_minutes 23 = .ok (.iconst 0, 1) := by decide +kernel
theorem dX8_minutes_24 : decode cX8_minutes 24 = .ok (.istore 4, 2) := by decide +kernel
theorem dX8_minutes_26 : decode cX8_minutes 26 = .ok (.iload 4, 2) := by decide +kernel
theorem dX8_minutes_28 : decode cX8_minutes 28 = .ok (.bipush 6, 2) := by decide +kernel
theorem dX8_minutes_30 : decode cX8_minutes 30 = .ok (.if_icmp .ge 32, 3) := by decide +kernel
theorem dX8_minutes_33 : decode cX8_minutes 33 = .ok (.iload_n 2, 1) := by decide +kernel
theorem dX8_minutes_34 : decode cX8_minutes 34 = .ok (.aload_n 0, 1) := by decide +kernel
theorem dX8_minutes_35 : decode cX8_minutes 35 = .ok (.getfield 31, 3) := by decide +kernel
theorem dX8_minutes_38 : decode cX8_minutes 38 = .ok (.iload 4, 2) := by decide +kernel
theorem dX8_minutes_40 : decode cX8_minutes 40 = .ok (.iaload, 1) := by decide +kernel
theorem dX8_minutes_41 : decode cX8_minutes 41 = .ok (.ifCond .ne 7, 3) := by decide +kernel
theorem dX8_minutes_44 : decode cX8_minutes 44 = .ok (.iconst 0, 1) := by decide +kernel
theorem dX8_minutes_45 : decode cX8_minutes 45 = .ok (.goto 9, 3) := by decide +kernel
theorem dX8_minutes_48 : decode cX8_minutes 48 = .ok (.aload_n 0, 1) := by decide +kernel
theorem dX8_minutes_49 : decode cX8_minutes 49 = .ok (.iload 4, 2) := by decide +kernel
theorem dX8_minutes_51 : decode cX8_minutes 51 = .ok (.invokevirtual 148, 3) := by decide +kernel
theorem dX8_minutes_54 : decode cX8_minutes 54 = .ok (.iadd, 1) := by decide +kernel
theorem dX8_minutes_55 : decode cX8_minutes 55 = .ok (.istore_n 2, 1) := by decide +kernel
theorem dX8_minutes_56 : decode cX8_minutes 56 = .ok (.iinc 4 1, 3) := by decide +kernel
theorem dX8_minutes_59 : decode cX8_minutes 59 = .ok (.goto (-33), 3) := by decide +kernel
theorem dX8_minutes_62 : decode cX8_minutes 62 = .ok (.iinc 3 1, 3) := by decide +kernel
theorem dX8_minutes_65 : decode cX8_minutes 65 = .ok (.goto (-47), 3) := by decide +kernel
theorem dX8_minutes_68 : decode cX8_minutes 68 = .ok (.aload_n 0, 1) := by decide +kernel
theorem dX8_minutes_69 : decode cX8_minutes 69 = .ok (.dup, 1) := by decide +kernel
theorem dX8_minutes_70 : decode cX8_minutes 70 = .ok (.getfield 151, 3) := by decide +kernel
theorem dX8_minutes_73 : decode cX8_minutes 73 = .ok (.iload_n 1, 1) := by decide +kernel
theorem dX8_minutes_74 : decode cX8_minutes 74 = .ok (.iadd, 1) := by decide +kernel
theorem dX8_minutes_75 : decode cX8_minutes 75 = .ok (.putfield 151, 3) := by decide +kernel
theorem dX8_minutes_78 : decode cX8_minutes 78 = .ok (.iload_n 2, 1) := by decide +kernel
theorem dX8_minutes_79 : decode cX8_minutes 79 = .ok (.ireturn, 1) := by decide +kernel
set_option maxRecDepth 20000 in
theorem ggX8_foulness_X8_all : GoodIn wsX8_foulness wsX8_all := goodIn_r _ [6, 7, 1, 8, 9, 10, 11, 12, 13, 14, 15, 16, 17, 18, 19, 20, 21, 22, 23, 24, 25, 26, 27, 28, 29, 30, 31, 32, 33, 34, 35, 36, 37, 38, 39, 40, 41, 42, 43, 44, 45, 46, 47, 48, 49, 50, 51, 52, 53] (by decide +kernel) (by decide +kernel)
set_option maxRecDepth 20000 in
theorem gX8_foulness_X8_all : GoodIn wsX8_foulness (wsV RX8 95 RX8 yX8_all wsX8_all) := goodIn_app (goodIn_of _ (by decide +kernel)) ggX8_foulness_X8_all
theorem dX8_foulness_0 : decode cX8_foulness 0 = .ok (.aload_n 0, 1) := by decide +kernel
theorem dX8_foulness_1 : decode cX8_foulness 1 = .ok (.invokevirtual 95, 3) := by decide +kernel
theorem dX8_foulness_4 : decode cX8_foulness 4 = .ok (.ifCond .ne 7, 3) := by decide +kernel
theorem dX8_foulness_7 : decode cX8_foulness 7 = .ok (.iconst 0, 1) := by decide +kernel
theorem dX8_foulness_8 : decode cX8_foulness 8 = .ok (.goto 15, 3) := by decide +kernel
theorem dX8_foulness_11 : decode cX8_foulness 11 = .ok (.aload_n 0, 1) := by decide +kernel
theorem dX8_foulness_12 : decode cX8_foulness 12 = .ok (.getfield 92, 3) := by decide +kernel
theorem dX8_foulness_15 : decode cX8_foulness 15 = .ok (.bipush 100, 2) := by decide +kernel
theorem dX8_foulness_17 : decode cX8_foulness 17 = .ok (.imul, 1) := by decide +kernel
theorem dX8_foulness_18 : decode cX8_foulness 18 = .ok (.aload_n 0, 1) := by decide +kernel
theorem dX8_foulness_19 : decode cX8_foulness 19 = .ok (.invokevirtual 95, 3) := by decide +kernel
theorem dX8_foulness_22 : decode cX8_foulness 22 = .ok (.idiv, 1) := by decide +kernel
theorem dX8_foulness_23 : decode cX8_foulness 23 = .ok (.ireturn, 1) := by decide +kernel
set_option maxRecDepth 20000 in
theorem ggX8_last_X8_breathing : GoodIn wsX8_last wsX8_breathing := goodIn_r _ [8, 9, 10, 11, 12, 13, 14, 15, 16, 17, 18, 19, 20, 21, 22, 23, 24, 25, 26, 27, 28, 29, 30, 31, 32, 33, 34, 35, 36, 37, 38, 39, 40, 41, 42, 43, 44, 45, 46, 47, 48, 49, 50, 51, 52, 53, 54, 55] (by decide +kernel) (by decide +kernel)
set_option maxRecDepth 20000 in
theorem gX8_last_X8_breathing : GoodIn wsX8_last (wsV RX8 106 RX8 yX8_breathing wsX8_breathing) := goodIn_app (goodIn_of _ (by decide +kernel)) ggX8_last_X8_breathing
theorem dX8_last_0 : decode cX8_last 0 = .ok (.aload_n 0, 1) := by decide +kernel
theorem dX8_last_1 : decode cX8_last 1 = .ok (.invokevirtual 106, 3) := by decide +kernel
theorem dX8_last_4 : decode cX8_last 4 = .ok (.istore_n 1, 1) := by decide +kernel
theorem dX8_last_5 : decode cX8_last 5 = .ok (.iload_n 1, 1) := by decide +kernel
theorem dX8_last_6 : decode cX8_last 6 = .ok (.ifCond .ne 6, 3) := by decide +kernel
theorem dX8_last_9 : decode cX8_last 9 = .ok (.ldc 154, 2) := by decide +kernel
theorem dX8_last_11 : decode cX8_last 11 = .ok (.ireturn, 1) := by decide +kernel
theorem dX8_last_12 : decode cX8_last 12 = .ok (.aload_n 0, 1) := by decide +kernel
theorem dX8_last_13 : decode cX8_last 13 = .ok (.getfield 13, 3) := by decide +kernel
theorem dX8_last_16 : decode cX8_last 16 = .ok (.iload_n 1, 1) := by decide +kernel
theorem dX8_last_17 : decode cX8_last 17 = .ok (.aload_n 0, 1) := by decide +kernel
theorem dX8_last_18 : decode cX8_last 18 = .ok (.getfield 19, 3) := by decide +kernel
theorem dX8_last_21 : decode cX8_last 21 = .ok (.imul, 1) := by decide +kernel
theorem dX8_last_22 : decode cX8_last 22 = .ok (.idiv, 1) := by decide +kernel
theorem dX8_last_23 : decode cX8_last 23 = .ok (.ireturn, 1) := by decide +kernel
set_option maxRecDepth 20000 in
theorem ggX8_air_X8_all : GoodIn wsX8_air wsX8_all := goodIn_r _ [15, 2, 3, 35, 36, 37, 38, 39, 40, 41, 42, 43, 44, 45, 46, 47, 48, 49, 50, 51, 52, 53, 54, 55, 56, 57, 58, 59, 60, 61, 62, 63, 64, 65, 66, 67, 68, 69, 70, 71, 72, 73, 74, 75, 76, 77, 78, 79, 80] (by decide +kernel) (by decide +kernel)
set_option maxRecDepth 20000 in
theorem gX8_air_X8_all : GoodIn wsX8_air (wsV RX8 95 RX8 yX8_all wsX8_all) := goodIn_app (goodIn_of _ (by decide +kernel)) ggX8_air_X8_all
set_option maxRecDepth 20000 in
theorem ggX8_air_X8_foulness : GoodIn wsX8_air wsX8_foulness := goodIn_r _ [19, 3, 11, 12, 13, 14, 15, 2, 35, 36, 37, 38, 39, 40, 41, 42, 43, 44, 45, 46, 47, 48, 49, 50, 51, 52, 53, 54, 55, 56, 57, 58, 59, 60, 61, 62, 63, 64, 65, 66, 67, 68, 69, 70, 71, 72, 73, 74, 75, 76, 77, 78, 79, 80] (by decide +kernel) (by decide +kernel)
set_option maxRecDepth 20000 in
theorem gX8_air_X8_foulness : GoodIn wsX8_air (wsV RX8 155 RX8 yX8_foulness wsX8_foulness) := goodIn_app (goodIn_of _ (by decide +kernel)) ggX8_air_X8_foulness
set_option maxRecDepth 20000 in
theorem ggX8_air_X8_last : GoodIn wsX8_air wsX8_last := goodIn_r _ [23, 24, 2, 25, 26, 27, 28, 14, 29, 30, 35, 36, 37, 38, 39, 40, 41, 42, 43, 44, 45, 46, 47, 48, 49, 50, 51, 52, 53, 54, 55, 56, 57, 58, 59, 60, 61, 62, 63, 64, 65, 66, 67, 68, 69, 70, 71, 72, 73, 74, 75, 76, 77, 78, 79, 80] (by decide +kernel) (by decide +kernel)
set_option maxRecDepth 20000 in
theorem gX8_air_X8_last : GoodIn wsX8_air (wsV RX8 158 RX8 yX8_last wsX8_last) := goodIn_app (goodIn_of _ (by decide +kernel)) ggX8_air_X8_last
set_option maxRecDepth 20000 in
theorem ggX8_air_X8_most : GoodIn wsX8_air wsX8_most := goodIn_r _ [34, 7, 1, 35, 36, 37, 38, 39, 40, 41, 42, 43, 44, 45, 46, 47, 48, 49, 50, 51, 52, 53, 54, 55, 56, 57, 58, 59, 60, 61, 62, 63, 64, 65, 66, 67, 68, 69, 70, 71, 72, 73, 74, 75, 76, 77, 78, 79, 80] (by decide +kernel) (by decide +kernel)
set_option maxRecDepth 20000 in
theorem gX8_air_X8_most : GoodIn wsX8_air (wsV RX8 124 RX8 yX8_most wsX8_most) := goodIn_app (goodIn_of _ (by decide +kernel)) ggX8_air_X8_most
theorem dX8_air_0 : decode cX8_air 0 = .ok (.aload_n 0, 1) := by decide +kernel
theorem dX8_air_1 : decode cX8_air 1 = .ok (.invokevirtual 95, 3) := by decide +kernel
theorem dX8_air_4 : decode cX8_air 4 = .ok (.bipush 10, 2) := by decide +kernel
theorem dX8_air_6 : decode cX8_air 6 = .ok (.imul, 1) := by decide +kernel
theorem dX8_air_7 : decode cX8_air 7 = .ok (.bipush 10, 2) := by decide +kernel
theorem dX8_air_9 : decode cX8_air 9 = .ok (.aload_n 0, 1) := by decide +kernel
theorem dX8_air_10 : decode cX8_air 10 = .ok (.getfield 89, 3) := by decide +kernel
theorem dX8_air_13 : decode cX8_air 13 = .ok (.iadd, 1) := by decide +kernel
theorem dX8_air_14 : decode cX8_air 14 = .ok (.idiv, 1) := by decide +kernel
theorem dX8_air_15 : decode cX8_air 15 = .ok (.istore_n 2, 1) := by decide +kernel
theorem dX8_air_16 : decode cX8_air 16 = .ok (.iload_n 1, 1) := by decide +kernel
theorem dX8_air_17 : decode cX8_air 17 = .ok (.tableswitch 131 0 12 #[67, 72, 77, 82, 87, 92, 94, 101, 106, 111, 116, 121, 126], 67) := by decide +kernel
theorem dX8_air_84 : decode cX8_air 84 = .ok (.aload_n 0, 1) := by decide +kernel
theorem dX8_air_85 : decode cX8_air 85 = .ok (.getfield 13, 3) := by decide +kernel
theorem dX8_air_88 : decode cX8_air 88 = .ok (.ireturn, 1) := by decide +kernel
theorem dX8_air_89 : decode cX8_air 89 = .ok (.aload_n 0, 1) := by decide +kernel
theorem dX8_air_90 : decode cX8_air 90 = .ok (.getfield 92, 3) := by decide +kernel
theorem dX8_air_93 : decode cX8_air 93 = .ok (.ireturn, 1) := by decide +kernel
theorem dX8_air_94 : decode cX8_air 94 = .ok (.aload_n 0, 1) := by decide +kernel
theorem dX8_air_95 : decode cX8_air 95 = .ok (.getfield 16, 3) := by decide +kernel
theorem dX8_air_98 : decode cX8_air 98 = .ok (.ireturn, 1) := by decide +kernel
theorem dX8_air_99 : decode cX8_air 99 = .ok (.aload_n 0, 1) := by decide +kernel
theorem dX8_air_100 : decode cX8_air 100 = .ok (.getfield 109, 3) := by decide +kernel
theorem dX8_air_103 : decode cX8_air 103 = .ok (.ireturn, 1) := by decide +kernel
theorem dX8_air_104 : decode cX8_air 104 = .ok (.aload_n 0, 1) := by decide +kernel
theorem dX8_air_105 : decode cX8_air 105 = .ok (.getfield 99, 3) := by decide +kernel
theorem dX8_air_108 : decode cX8_air 108 = .ok (.ireturn, 1) := by decide +kernel
theorem dX8_air_109 : decode cX8_air 109 = .ok (.iload_n 2, 1) := by decide +kernel
theorem dX8_air_110 : decode cX8_air 110 = .ok (.ireturn, 1) := by decide +kernel
theorem dX8_air_111 : decode cX8_air 111 = .ok (.aload_n 0, 1) := by decide +kernel
theorem dX8_air_112 : decode cX8_air 112 = .ok (.getfield 7, 3) := by decide +kernel
theorem dX8_air_115 : decode cX8_air 115 = .ok (.iload_n 2, 1) := by decide +kernel
theorem dX8_air_116 : decode cX8_air 116 = .ok (.isub, 1) := by decide +kernel
theorem dX8_air_117 : decode cX8_air 117 = .ok (.ireturn, 1) := by decide +kernel
theorem dX8_air_118 : decode cX8_air 118 = .ok (.aload_n 0, 1) := by decide +kernel
theorem dX8_air_119 : decode cX8_air 119 = .ok (.invokevirtual 155, 3) := by decide +kernel
theorem dX8_air_122 : decode cX8_air 122 = .ok (.ireturn, 1) := by decide +kernel
theorem dX8_air_123 : decode cX8_air 123 = .ok (.aload_n 0, 1) := by decide +kernel
theorem dX8_air_124 : decode cX8_air 124 = .ok (.invokevirtual 158, 3) := by decide +kernel
theorem dX8_air_127 : decode cX8_air 127 = .ok (.ireturn, 1) := by decide +kernel
theorem dX8_air_128 : decode cX8_air 128 = .ok (.aload_n 0, 1) := by decide +kernel
theorem dX8_air_129 : decode cX8_air 129 = .ok (.invokevirtual 124, 3) := by decide +kernel
theorem dX8_air_132 : decode cX8_air 132 = .ok (.ireturn, 1) := by decide +kernel
theorem dX8_air_133 : decode cX8_air 133 = .ok (.aload_n 0, 1) := by decide +kernel
theorem dX8_air_134 : decode cX8_air 134 = .ok (.getfield 112, 3) := by decide +kernel
theorem dX8_air_137 : decode cX8_air 137 = .ok (.ireturn, 1) := by decide +kernel
theorem dX8_air_138 : decode cX8_air 138 = .ok (.aload_n 0, 1) := by decide +kernel
theorem dX8_air_139 : decode cX8_air 139 = .ok (.getfield 115, 3) := by decide +kernel
theorem dX8_air_142 : decode cX8_air 142 = .ok (.ireturn, 1) := by decide +kernel
theorem dX8_air_143 : decode cX8_air 143 = .ok (.aload_n 0, 1) := by decide +kernel
theorem dX8_air_144 : decode cX8_air 144 = .ok (.getfield 118, 3) := by decide +kernel
theorem dX8_air_147 : decode cX8_air 147 = .ok (.ireturn, 1) := by decide +kernel
theorem dX8_air_148 : decode cX8_air 148 = .ok (.bipush (-2), 2) := by decide +kernel
theorem dX8_air_150 : decode cX8_air 150 = .ok (.ireturn, 1) := by decide +kernel
set_option maxRecDepth 20000 in
theorem ggX8_fewest_X8_in : GoodIn wsX8_fewest wsX8_in := goodIn_r _ [8] (by decide +kernel) (by decide +kernel)
set_option maxRecDepth 20000 in
theorem gX8_fewest_X8_in : GoodIn wsX8_fewest (va_wsS RX8 102 yX8_in wsX8_in) := goodIn_app (goodIn_of _ (by decide +kernel)) ggX8_fewest_X8_in
set_option maxRecDepth 20000 in
theorem ggX8_fewest_X8_foulness : GoodIn wsX8_fewest wsX8_foulness := goodIn_r _ [12, 2, 13, 14, 15, 7, 16, 1, 27, 28, 29, 30, 31, 32, 33, 34, 35, 36, 37, 38, 39, 40, 41, 42, 43, 44, 45, 46, 47, 48, 49, 50, 51, 52, 53, 54, 55, 56, 57, 58, 59, 60, 61, 62, 63, 64, 65, 66, 67, 68, 69, 70, 71, 72] (by decide +kernel) (by decide +kernel)
set_option maxRecDepth 20000 in
theorem gX8_fewest_X8_foulness : GoodIn wsX8_fewest (wsV RX8 155 RX8 yX8_foulness wsX8_foulness) := goodIn_app (goodIn_of _ (by decide +kernel)) ggX8_fewest_X8_foulness
set_option maxRecDepth 20000 in
theorem ggX8_fewest_X8_all : GoodIn wsX8_fewest wsX8_all := goodIn_r _ [16, 1, 2, 27, 28, 29, 30, 31, 32, 33, 34, 35, 36, 37, 38, 39, 40, 41, 42, 43, 44, 45, 46, 47, 48, 49, 50, 51, 52, 53, 54, 55, 56, 57, 58, 59, 60, 61, 62, 63, 64, 65, 66, 67, 68, 69, 70, 71, 72] (by decide +kernel) (by decide +kernel)
set_option maxRecDepth 20000 in
theorem gX8_fewest_X8_all : GoodIn wsX8_fewest (wsV RX8 95 RX8 yX8_all wsX8_all) := goodIn_app (goodIn_of _ (by decide +kernel)) ggX8_fewest_X8_all
set_option maxRecDepth 20000 in
theorem ggX8_fewest_X8_most : GoodIn wsX8_fewest wsX8_most := goodIn_r _ [20, 21, 22, 27, 28, 29, 30, 31, 32, 33, 34, 35, 36, 37, 38, 39, 40, 41, 42, 43, 44, 45, 46, 47, 48, 49, 50, 51, 52, 53, 54, 55, 56, 57, 58, 59, 60, 61, 62, 63, 64, 65, 66, 67, 68, 69, 70, 71, 72] (by decide +kernel) (by decide +kernel)
set_option maxRecDepth 20000 in
theorem gX8_fewest_X8_most : GoodIn wsX8_fewest (wsV RX8 124 RX8 yX8_most wsX8_most) := goodIn_app (goodIn_of _ (by decide +kernel)) ggX8_fewest_X8_most
set_option maxRecDepth 20000 in
theorem ggX8_fewest_X8_spill : GoodIn wsX8_fewest wsX8_spill := goodIn_r _ [26, 2, 1, 3, 13, 14, 15, 7, 16, 27, 28, 29, 30, 31, 32, 33, 34, 35, 36, 37, 38, 39, 40, 41, 42, 43, 44, 45, 46, 47, 48, 49, 50, 51, 52, 53, 54, 55, 56, 57, 58, 59, 60, 61, 62, 63, 64, 65, 66, 67, 68, 69, 70, 71, 72] (by decide +kernel) (by decide +kernel)
set_option maxRecDepth 20000 in
theorem gX8_fewest_X8_spill : GoodIn wsX8_fewest (wsV RX8 127 RX8 yX8_spill wsX8_spill) := goodIn_app (goodIn_of _ (by decide +kernel)) ggX8_fewest_X8_spill
theorem dX8_fewest_0 : decode cX8_fewest 0 = .ok (.iload_n 1, 1) := by decide +kernel
theorem dX8_fewest_1 : decode cX8_fewest 1 = .ok (.iconst 1, 1) := by decide +kernel
theorem dX8_fewest_2 : decode cX8_fewest 2 = .ok (.sipush 500, 3) := by decide +kernel
theorem dX8_fewest_5 : decode cX8_fewest 5 = .ok (.invokestatic 102, 3) := by decide +kernel
theorem dX8_fewest_8 : decode cX8_fewest 8 = .ok (.ifCond .ne 6, 3) := by decide +kernel
theorem dX8_fewest_11 : decode cX8_fewest 11 = .ok (.bipush (-2), 2) := by decide +kernel
theorem dX8_fewest_13 : decode cX8_fewest 13 = .ok (.ireturn, 1) := by decide +kernel
theorem dX8_fewest_14 : decode cX8_fewest 14 = .ok (.aload_n 0, 1) := by decide +kernel
theorem dX8_fewest_15 : decode cX8_fewest 15 = .ok (.getfield 13, 3) := by decide +kernel
theorem dX8_fewest_18 : decode cX8_fewest 18 = .ok (.istore_n 2, 1) := by decide +kernel
theorem dX8_fewest_19 : decode cX8_fewest 19 = .ok (.aload_n 0, 1) := by decide +kernel
theorem dX8_fewest_20 : decode cX8_fewest 20 = .ok (.getfield 92, 3) := by decide +kernel
theorem dX8_fewest_23 : decode cX8_fewest 23 = .ok (.istore_n 3, 1) := by decide +kernel
theorem dX8_fewest_24 : decode cX8_fewest 24 = .ok (.aload_n 0, 1) := by decide +kernel
theorem dX8_fewest_25 : decode cX8_fewest 25 = .ok (.getfield 99, 3) := by decide +kernel
theorem dX8_fewest_28 : decode cX8_fewest 28 = .ok (.istore 4, 2) := by decide +kernel
theorem dX8_fewest_30 : decode cX8_fewest 30 = .ok (.aload_n 0, 1) := by decide +kernel
theorem dX8_fewest_31 : decode cX8_fewest 31 = .ok (.invokevirtual 155, 3) := by decide +kernel
theorem dX8_fewest_34 : decode cX8_fewest 34 = .ok (.aload_n 0, 1) := by decide +kernel
theorem dX8_fewest_35 : decode cX8_fewest 35 = .ok (.getfield 22, 3) := by decide +kernel
theorem dX8_fewest_38 : decode cX8_fewest 38 = .ok (.if_icmp .gt 7, 3) := by decide +kernel
theorem dX8_fewest_41 : decode cX8_fewest 41 = .ok (.iconst 0, 1) := by decide +kernel
theorem dX8_fewest_42 : decode cX8_fewest 42 = .ok (.goto 5, 3) := by decide +kernel
theorem dX8_fewest_45 : decode cX8_fewest 45 = .ok (.bipush (-6), 2) := by decide +kernel
theorem dX8_fewest_47 : decode cX8_fewest 47 = .ok (.istore 5, 2) := by decide +kernel
theorem dX8_fewest_49 : decode cX8_fewest 49 = .ok (.iconst 1, 1) := by decide +kernel
theorem dX8_fewest_50 : decode cX8_fewest 50 = .ok (.istore 6, 2) := by decide +kernel
theorem dX8_fewest_52 : decode cX8_fewest 52 = .ok (.iload 6, 2) := by decide +kernel
theorem dX8_fewest_54 : decode cX8_fewest 54 = .ok (.bipush 40, 2) := by decide +kernel
theorem dX8_fewest_56 : decode cX8_fewest 56 = .ok (.if_icmp .gt 58, 3) := by decide +kernel
theorem dX8_fewest_59 : decode cX8_fewest 59 = .ok (.iload 5, 2) := by decide +kernel
theorem dX8_fewest_61 : decode cX8_fewest 61 = .ok (.ifCond .ge 53, 3) := by decide +kernel
theorem dX8_fewest_64 : decode cX8_fewest 64 = .ok (.aload_n 0, 1) := by decide +kernel
theorem dX8_fewest_65 : decode cX8_fewest 65 = .ok (.dup, 1) := by decide +kernel
theorem dX8_fewest_66 : decode cX8_fewest 66 = .ok (.getfield 13, 3) := by decide +kernel
theorem dX8_fewest_69 : decode cX8_fewest 69 = .ok (.iload_n 1, 1) := by decide +kernel
theorem dX8_fewest_70 : decode cX8_fewest 70 = .ok (.iadd, 1) := by decide +kernel
theorem dX8_fewest_71 : decode cX8_fewest 71 = .ok (.putfield 13, 3) := by decide +kernel
theorem dX8_fewest_74 : decode cX8_fewest 74 = .ok (.aload_n 0, 1) := by decide +kernel
theorem dX8_fewest_75 : decode cX8_fewest 75 = .ok (.aload_n 0, 1) := by decide +kernel
theorem dX8_fewest_76 : decode cX8_fewest 76 = .ok (.invokevirtual 95, 3) := by decide +kernel
theorem dX8_fewest_79 : decode cX8_fewest 79 = .ok (.aload_n 0, 1) := by decide +kernel
theorem dX8_fewest_80 : decode cX8_fewest 80 = .ok (.invokevirtual 124, 3) := by decide +kernel
theorem dX8_fewest_83 : decode cX8_fewest 83 = .ok (.isub, 1) := by decide +kernel
theorem dX8_fewest_84 : decode cX8_fewest 84 = .ok (.invokevirtual 127, 3) := by decide +kernel
theorem dX8_fewest_87 : decode cX8_fewest 87 = .ok (.pop, 1) := by decide +kernel
theorem dX8_fewest_88 : decode cX8_fewest 88 = .ok (.aload_n 0, 1) := by decide +kernel
theorem dX8_fewest_89 : decode cX8_fewest 89 = .ok (.invokevirtual 155, 3) := by decide +kernel
theorem dX8_fewest_92 : decode cX8_fewest 92 = .ok (.aload_n 0, 1) := by decide +kernel
theorem dX8_fewest_93 : decode cX8_fewest 93 = .ok (.getfield 22, 3) := by decide +kernel
theorem dX8_fewest_96 : decode cX8_fewest 96 = .ok (.if_icmp .gt 8, 3) := by decide +kernel
theorem dX8_fewest_99 : decode cX8_fewest 99 = .ok (.iload 6, 2) := by decide +kernel
theorem dX8_fewest_101 : decode cX8_fewest 101 = .ok (.goto 5, 3) := by decide +kernel
theorem dX8_fewest_104 : decode cX8_fewest 104 = .ok (.bipush (-6), 2) := by decide +kernel
theorem dX8_fewest_106 : decode cX8_fewest 106 = .ok (.istore 5, 2) := by decide +kernel
theorem dX8_fewest_108 : decode cX8_fewest 108 = .ok (.iinc 6 1, 3) := by decide +kernel
theorem dX8_fewest_111 : decode cX8_fewest 111 = .ok (.goto (-59), 3) := by decide +kernel
theorem dX8_fewest_114 : decode cX8_fewest 114 = .ok (.aload_n 0, 1) := by decide +kernel
theorem dX8_fewest_115 : decode cX8_fewest 115 = .ok (.iload_n 2, 1) := by decide +kernel
theorem dX8_fewest_116 : decode cX8_fewest 116 = .ok (.putfield 13, 3) := by decide +kernel
theorem dX8_fewest_119 : decode cX8_fewest 119 = .ok (.aload_n 0, 1) := by decide +kernel
theorem dX8_fewest_120 : decode cX8_fewest 120 = .ok (.iload_n 3, 1) := by decide +kernel
theorem dX8_fewest_121 : decode cX8_fewest 121 = .ok (.putfield 92, 3) := by decide +kernel
theorem dX8_fewest_124 : decode cX8_fewest 124 = .ok (.aload_n 0, 1) := by decide +kernel
theorem dX8_fewest_125 : decode cX8_fewest 125 = .ok (.iload 4, 2) := by decide +kernel
theorem dX8_fewest_127 : decode cX8_fewest 127 = .ok (.putfield 99, 3) := by decide +kernel
theorem dX8_fewest_130 : decode cX8_fewest 130 = .ok (.iload 5, 2) := by decide +kernel
theorem dX8_fewest_132 : decode cX8_fewest 132 = .ok (.ireturn, 1) := by decide +kernel
set_option maxRecDepth 20000 in
theorem ggX8_isMan_X8_in : GoodIn wsX8_isMan wsX8_in := goodIn_r _ [4] (by decide +kernel) (by decide +kernel)
set_option maxRecDepth 20000 in
theorem gX8_isMan_X8_in : GoodIn wsX8_isMan (va_wsS RX8 102 yX8_in wsX8_in) := goodIn_app (goodIn_of _ (by decide +kernel)) ggX8_isMan_X8_in
theorem dX8_isMan_0 : decode cX8_isMan 0 = .ok (.iload_n 0, 1) := by decide +kernel
theorem dX8_isMan_1 : decode cX8_isMan 1 = .ok (.iconst 0, 1) := by decide +kernel
theorem dX8_isMan_2 : decode cX8_isMan 2 = .ok (.iconst 5, 1) := by decide +kernel
theorem dX8_isMan_3 : decode cX8_isMan 3 = .ok (.invokestatic 102, 3) := by decide +kernel
theorem dX8_isMan_6 : decode cX8_isMan 6 = .ok (.ireturn, 1) := by decide +kernel
set_option maxRecDepth 20000 in
theorem ggX8_isHose_X8_in : GoodIn wsX8_isHose wsX8_in := goodIn_r _ [4] (by decide +kernel) (by decide +kernel)
set_option maxRecDepth 20000 in
theorem gX8_isHose_X8_in : GoodIn wsX8_isHose (va_wsS RX8 102 yX8_in wsX8_in) := goodIn_app (goodIn_of _ (by decide +kernel)) ggX8_isHose_X8_in
theorem dX8_isHose_0 : decode cX8_isHose 0 = .ok (.iload_n 0, 1) := by decide +kernel
theorem dX8_isHose_1 : decode cX8_isHose 1 = .ok (.iconst 0, 1) := by decide +kernel
theorem dX8_isHose_2 : decode cX8_isHose 2 = .ok (.iconst 2, 1) := by decide +kernel
theorem dX8_isHose_3 : decode cX8_isHose 3 = .ok (.invokestatic 102, 3) := by decide +kernel
theorem dX8_isHose_6 : decode cX8_isHose 6 = .ok (.ireturn, 1) := by decide +kernel
set_option maxRecDepth 20000 in
theorem ggX8_isSquare_X8_in : GoodIn wsX8_isSquare wsX8_in := goodIn_r _ [4] (by decide +kernel) (by decide +kernel)
set_option maxRecDepth 20000 in
theorem gX8_isSquare_X8_in : GoodIn wsX8_isSquare (va_wsS RX8 102 yX8_in wsX8_in) := goodIn_app (goodIn_of _ (by decide +kernel)) ggX8_isSquare_X8_in
theorem dX8_isSquare_0 : decode cX8_isSquare 0 = .ok (.iload_n 0, 1) := by decide +kernel
theorem dX8_isSquare_1 : decode cX8_isSquare 1 = .ok (.iconst 0, 1) := by decide +kernel
theorem dX8_isSquare_2 : decode cX8_isSquare 2 = .ok (.bipush 48, 2) := by decide +kernel
theorem dX8_isSquare_4 : decode cX8_isSquare 4 = .ok (.invokestatic 102, 3) := by decide +kernel
theorem dX8_isSquare_7 : decode cX8_isSquare 7 = .ok (.ireturn, 1) := by decide +kernel
set_option maxRecDepth 20000 in
theorem ggX8_go_X8_isMan : GoodIn wsX8_go wsX8_isMan := goodIn_r _ [6, 7, 8, 5, 9] (by decide +kernel) (by decide +kernel)
set_option maxRecDepth 20000 in
theorem gX8_go_X8_isMan : GoodIn wsX8_go (va_wsS RX8 161 yX8_isMan wsX8_isMan) := goodIn_app (goodIn_of _ (by decide +kernel)) ggX8_go_X8_isMan
theorem dX8_go_0 : decode cX8_go 0 = .ok (.iload_n 1, 1) := by decide +kernel
theorem dX8_go_1 : decode cX8_go 1 = .ok (.invokestatic 161, 3) := by decide +kernel
theorem dX8_go_4 : decode cX8_go 4 = .ok (.ifCond .ne 5, 3) := by decide +kernel
theorem dX8_go_7 : decode cX8_go 7 = .ok (.iconst (-1), 1) := by decide +kernel
theorem dX8_go_8 : decode cX8_go 8 = .ok (.ireturn, 1) := by decide +kernel
theorem dX8_go_9 : decode cX8_go 9 = .ok (.iload_n 2, 1) := by decide +kernel
theorem dX8_go_10 : decode cX8_go 10 = .ok (.ifCond .eq 20, 3) := by decide +kernel
theorem dX8_go_13 : decode cX8_go 13 = .ok (.aload_n 0, 1) := by decide +kernel
theorem dX8_go_14 : decode cX8_go 14 = .ok (.getfield 31, 3) := by decide +kernel
theorem dX8_go_17 : decode cX8_go 17 = .ok (.iload_n 1, 1) := by decide +kernel
theorem dX8_go_18 : decode cX8_go 18 = .ok (.iaload, 1) := by decide +kernel
theorem dX8_go_19 : decode cX8_go 19 = .ok (.ifCond .ne 7, 3) := by decide +kernel
theorem dX8_go_22 : decode cX8_go 22 = .ok (.iconst 1, 1) := by decide +kernel
theorem dX8_go_23 : decode cX8_go 23 = .ok (.goto 8, 3) := by decide +kernel
theorem dX8_go_26 : decode cX8_go 26 = .ok (.iconst 0, 1) := by decide +kernel
theorem dX8_go_27 : decode cX8_go 27 = .ok (.goto 4, 3) := by decide +kernel
theorem dX8_go_30 : decode cX8_go 30 = .ok (.iconst 1, 1) := by decide +kernel
theorem dX8_go_31 : decode cX8_go 31 = .ok (.istore_n 3, 1) := by decide +kernel
theorem dX8_go_32 : decode cX8_go 32 = .ok (.iload_n 3, 1) := by decide +kernel
theorem dX8_go_33 : decode cX8_go 33 = .ok (.ifCond .eq 13, 3) := by decide +kernel
theorem dX8_go_36 : decode cX8_go 36 = .ok (.aload_n 0, 1) := by decide +kernel
theorem dX8_go_37 : decode cX8_go 37 = .ok (.getfield 89, 3) := by decide +kernel
theorem dX8_go_40 : decode cX8_go 40 = .ok (.ifCond .le 6, 3) := by decide +kernel
theorem dX8_go_43 : decode cX8_go 43 = .ok (.bipush (-3), 2) := by decide +kernel
theorem dX8_go_45 : decode cX8_go 45 = .ok (.ireturn, 1) := by decide +kernel
theorem dX8_go_46 : decode cX8_go 46 = .ok (.iload_n 2, 1) := by decide +kernel
theorem dX8_go_47 : decode cX8_go 47 = .ok (.ifCond .eq 16, 3) := by decide +kernel
theorem dX8_go_50 : decode cX8_go 50 = .ok (.aload_n 0, 1) := by decide +kernel
theorem dX8_go_51 : decode cX8_go 51 = .ok (.getfield 31, 3) := by decide +kernel
theorem dX8_go_54 : decode cX8_go 54 = .ok (.iload_n 1, 1) := by decide +kernel
theorem dX8_go_55 : decode cX8_go 55 = .ok (.iaload, 1) := by decide +kernel
theorem dX8_go_56 : decode cX8_go 56 = .ok (.iconst 1, 1) := by decide +kernel
theorem dX8_go_57 : decode cX8_go 57 = .ok (.if_icmp .ne 19, 3) := by decide +kernel
theorem dX8_go_60 : decode cX8_go 60 = .ok (.goto 13, 3) := by decide +kernel
theorem dX8_go_63 : decode cX8_go 63 = .ok (.aload_n 0, 1) := by decide +kernel
theorem dX8_go_64 : decode cX8_go 64 = .ok (.getfield 31, 3) := by decide +kernel
theorem dX8_go_67 : decode cX8_go 67 = .ok (.iload_n 1, 1) := by decide +kernel
theorem dX8_go_68 : decode cX8_go 68 = .ok (.iaload, 1) := by decide +kernel
theorem dX8_go_69 : decode cX8_go 69 = .ok (.iconst 1, 1) := by decide +kernel
theorem dX8_go_70 : decode cX8_go 70 = .ok (.if_icmp .eq 6, 3) := by decide +kernel
theorem dX8_go_73 : decode cX8_go 73 = .ok (.bipush (-5), 2) := by decide +kernel
theorem dX8_go_75 : decode cX8_go 75 = .ok (.ireturn, 1) := by decide +kernel
theorem dX8_go_76 : decode cX8_go 76 = .ok (.aload_n 0, 1) := by decide +kernel
theorem dX8_go_77 : decode cX8_go 77 = .ok (.getfield 31, 3) := by decide +kernel
theorem dX8_go_80 : decode cX8_go 80 = .ok (.iload_n 1, 1) := by decide +kernel
theorem dX8_go_81 : decode cX8_go 81 = .ok (.iaload, 1) := by decide +kernel
theorem dX8_go_82 : decode cX8_go 82 = .ok (.istore 4, 2) := by decide +kernel
theorem dX8_go_84 : decode cX8_go 84 = .ok (.aload_n 0, 1) := by decide +kernel
theorem dX8_go_85 : decode cX8_go 85 = .ok (.getfield 31, 3) := by decide +kernel
theorem dX8_go_88 : decode cX8_go 88 = .ok (.iload_n 1, 1) := by decide +kernel
theorem dX8_go_89 : decode cX8_go 89 = .ok (.iload_n 2, 1) := by decide +kernel
theorem dX8_go_90 : decode cX8_go 90 = .ok (.ifCond .eq 7, 3) := by decide +kernel
theorem dX8_go_93 : decode cX8_go 93 = .ok (.iconst 1, 1) := by decide +kernel
theorem dX8_go_94 : decode cX8_go 94 = .ok (.goto 4, 3) := by decide +kernel
theorem dX8_go_97 : decode cX8_go 97 = .ok (.iconst 0, 1) := by decide +kernel
theorem dX8_go_98 : decode cX8_go 98 = .ok (.iastore, 1) := by decide +kernel
theorem dX8_go_99 : decode cX8_go 99 = .ok (.iload 4, 2) := by decide +kernel
theorem dX8_go_101 : decode cX8_go 101 = .ok (.ireturn, 1) := by decide +kernel
theorem dX8_size_0 : decode cX8_size 0 = .ok (.iload_n 0, 1) := by decide +kernel
theorem dX8_size_1 : decode cX8_size 1 = .ok (.ifCond .ge 8, 3) := by decide +kernel
theorem dX8_size_4 : decode cX8_size 4 = .ok (.iload_n 0, 1) := by decide +kernel
theorem dX8_size_5 : decode cX8_size 5 = .ok (.ineg, 1) := by decide +kernel
theorem dX8_size_6 : decode cX8_size 6 = .ok (.goto 4, 3) := by decide +kernel
theorem dX8_size_9 : decode cX8_size 9 = .ok (.iload_n 0, 1) := by decide +kernel
theorem dX8_size_10 : decode cX8_size 10 = .ok (.ireturn, 1) := by decide +kernel
set_option maxRecDepth 20000 in
theorem ggX8_out_X8_isMan : GoodIn wsX8_out wsX8_isMan := goodIn_r _ [10, 11, 12, 9, 13] (by decide +kernel) (by decide +kernel)
set_option maxRecDepth 20000 in
theorem gX8_out_X8_isMan : GoodIn wsX8_out (va_wsS RX8 161 yX8_isMan wsX8_isMan) := goodIn_app (goodIn_of _ (by decide +kernel)) ggX8_out_X8_isMan
set_option maxRecDepth 20000 in
theorem ggX8_out_X8_isHose : GoodIn wsX8_out wsX8_isHose := goodIn_r _ [16, 11, 12, 9, 13] (by decide +kernel) (by decide +kernel)
set_option maxRecDepth 20000 in
theorem gX8_out_X8_isHose : GoodIn wsX8_out (va_wsS RX8 164 yX8_isHose wsX8_isHose) := goodIn_app (goodIn_of _ (by decide +kernel)) ggX8_out_X8_isHose
set_option maxRecDepth 20000 in
theorem ggX8_out_X8_isSquare : GoodIn wsX8_out wsX8_isSquare := goodIn_r _ [19, 11, 12, 9, 13] (by decide +kernel) (by decide +kernel)
set_option maxRecDepth 20000 in
theorem gX8_out_X8_isSquare : GoodIn wsX8_out (va_wsS RX8 167 yX8_isSquare wsX8_isSquare) := goodIn_app (goodIn_of _ (by decide +kernel)) ggX8_out_X8_isSquare
set_option maxRecDepth 20000 in
theorem ggX8_out_X8_onHose : GoodIn wsX8_out wsX8_onHose := goodIn_r _ [23, 1, 2, 27, 28, 29, 30, 31, 32, 33, 34, 35, 36, 37, 38, 39, 40, 41, 42, 43, 44, 45, 46, 47, 48, 49, 50, 51, 52, 53, 54, 55, 56, 57, 58, 59, 60, 61, 62, 63, 64, 65, 66, 67, 68, 69, 70, 71, 72] (by decide +kernel) (by decide +kernel)
set_option maxRecDepth 20000 in
theorem gX8_out_X8_onHose : GoodIn wsX8_out (wsV RX8 131 RX8 yX8_onHose wsX8_onHose) := goodIn_app (goodIn_of _ (by decide +kernel)) ggX8_out_X8_onHose
set_option maxRecDepth 20000 in
theorem ggX8_out_X8_size : GoodIn wsX8_out wsX8_size := goodIn_r _ [26] (by decide +kernel) (by decide +kernel)
set_option maxRecDepth 20000 in
theorem gX8_out_X8_size : GoodIn wsX8_out (va_wsS RX8 170 yX8_size wsX8_size) := goodIn_app (goodIn_of _ (by decide +kernel)) ggX8_out_X8_size
theorem dX8_out_0 : decode cX8_out 0 = .ok (.iload_n 1, 1) := by decide +kernel
theorem dX8_out_1 : decode cX8_out 1 = .ok (.invokestatic 161, 3) := by decide +kernel
theorem dX8_out_4 : decode cX8_out 4 = .ok (.ifCond .eq 17, 3) := by decide +kernel
theorem dX8_out_7 : decode cX8_out 7 = .ok (.iload_n 2, 1) := by decide +kernel
theorem dX8_out_8 : decode cX8_out 8 = .ok (.invokestatic 164, 3) := by decide +kernel
theorem dX8_out_11 : decode cX8_out 11 = .ok (.ifCond .eq 10, 3) := by decide +kernel
theorem dX8_out_14 : decode cX8_out 14 = .ok (.iload_n 3, 1) := by decide +kernel
theorem dX8_out_15 : decode cX8_out 15 = .ok (.invokestatic 167, 3) := by decide +kernel
theorem dX8_out_18 : decode cX8_out 18 = .ok (.ifCond .ne 5, 3) := by decide +kernel
theorem dX8_out_21 : decode cX8_out 21 = .ok (.iconst (-1), 1) := by decide +kernel
theorem dX8_out_22 : decode cX8_out 22 = .ok (.ireturn, 1) := by decide +kernel
theorem dX8_out_23 : decode cX8_out 23 = .ok (.aload_n 0, 1) := by decide +kernel
theorem dX8_out_24 : decode cX8_out 24 = .ok (.getfield 31, 3) := by decide +kernel
theorem dX8_out_27 : decode cX8_out 27 = .ok (.iload_n 1, 1) := by decide +kernel
theorem dX8_out_28 : decode cX8_out 28 = .ok (.iaload, 1) := by decide +kernel
theorem dX8_out_29 : decode cX8_out 29 = .ok (.ifCond .eq 23, 3) := by decide +kernel
theorem dX8_out_32 : decode cX8_out 32 = .ok (.aload_n 0, 1) := by decide +kernel
theorem dX8_out_33 : decode cX8_out 33 = .ok (.getfield 31, 3) := by decide +kernel
theorem dX8_out_36 : decode cX8_out 36 = .ok (.iload_n 1, 1) := by decide +kernel
theorem dX8_out_37 : decode cX8_out 37 = .ok (.iaload, 1) := by decide +kernel
theorem dX8_out_38 : decode cX8_out 38 = .ok (.iconst 2, 1) := by decide +kernel
theorem dX8_out_39 : decode cX8_out 39 = .ok (.if_icmp .ne 16, 3) := by decide +kernel
theorem dX8_out_42 : decode cX8_out 42 = .ok (.aload_n 0, 1) := by decide +kernel
theorem dX8_out_43 : decode cX8_out 43 = .ok (.getfield 38, 3) := by decide +kernel
theorem dX8_out_46 : decode cX8_out 46 = .ok (.iload_n 1, 1) := by decide +kernel
theorem dX8_out_47 : decode cX8_out 47 = .ok (.iaload, 1) := by decide +kernel
theorem dX8_out_48 : decode cX8_out 48 = .ok (.iload_n 2, 1) := by decide +kernel
theorem dX8_out_49 : decode cX8_out 49 = .ok (.if_icmp .eq 6, 3) := by decide +kernel
theorem dX8_out_52 : decode cX8_out 52 = .ok (.bipush (-3), 2) := by decide +kernel
theorem dX8_out_54 : decode cX8_out 54 = .ok (.ireturn, 1) := by decide +kernel
theorem dX8_out_55 : decode cX8_out 55 = .ok (.aload_n 0, 1) := by decide +kernel
theorem dX8_out_56 : decode cX8_out 56 = .ok (.getfield 31, 3) := by decide +kernel
theorem dX8_out_59 : decode cX8_out 59 = .ok (.iload_n 1, 1) := by decide +kernel
theorem dX8_out_60 : decode cX8_out 60 = .ok (.iaload, 1) := by decide +kernel
theorem dX8_out_61 : decode cX8_out 61 = .ok (.iconst 1, 1) := by decide +kernel
theorem dX8_out_62 : decode cX8_out 62 = .ok (.if_icmp .ne 15, 3) := by decide +kernel
theorem dX8_out_65 : decode cX8_out 65 = .ok (.aload_n 0, 1) := by decide +kernel
theorem dX8_out_66 : decode cX8_out 66 = .ok (.iload_n 2, 1) := by decide +kernel
theorem dX8_out_67 : decode cX8_out 67 = .ok (.invokevirtual 131, 3) := by decide +kernel
theorem dX8_out_70 : decode cX8_out 70 = .ok (.iconst 2, 1) := by decide +kernel
theorem dX8_out_71 : decode cX8_out 71 = .ok (.if_icmp .ne 6, 3) := by decide +kernel
theorem dX8_out_74 : decode cX8_out 74 = .ok (.bipush (-4), 2) := by decide +kernel
theorem dX8_out_76 : decode cX8_out 76 = .ok (.ireturn, 1) := by decide +kernel
theorem dX8_out_77 : decode cX8_out 77 = .ok (.iload_n 3, 1) := by decide +kernel
theorem dX8_out_78 : decode cX8_out 78 = .ok (.bipush 7, 2) := by decide +kernel
theorem dX8_out_80 : decode cX8_out 80 = .ok (.irem, 1) := by decide +kernel
theorem dX8_out_81 : decode cX8_out 81 = .ok (.aload_n 0, 1) := by decide +kernel
theorem dX8_out_82 : decode cX8_out 82 = .ok (.getfield 28, 3) := by decide +kernel
theorem dX8_out_85 : decode cX8_out 85 = .ok (.bipush 7, 2) := by decide +kernel
theorem dX8_out_87 : decode cX8_out 87 = .ok (.irem, 1) := by decide +kernel
theorem dX8_out_88 : decode cX8_out 88 = .ok (.isub, 1) := by decide +kernel
theorem dX8_out_89 : decode cX8_out 89 = .ok (.invokestatic 170, 3) := by decide +kernel
theorem dX8_out_92 : decode cX8_out 92 = .ok (.iload_n 3, 1) := by decide +kernel
theorem dX8_out_93 : decode cX8_out 93 = .ok (.bipush 7, 2) := by decide +kernel
theorem dX8_out_95 : decode cX8_out 95 = .ok (.idiv, 1) := by decide +kernel
theorem dX8_out_96 : decode cX8_out 96 = .ok (.aload_n 0, 1) := by decide +kernel
theorem dX8_out_97 : decode cX8_out 97 = .ok (.getfield 28, 3) := by decide +kernel
theorem dX8_out_100 : decode cX8_out 100 = .ok (.bipush 7, 2) := by decide +kernel
theorem dX8_out_102 : decode cX8_out 102 = .ok (.idiv, 1) := by decide +kernel
theorem dX8_out_103 : decode cX8_out 103 = .ok (.isub, 1) := by decide +kernel
theorem dX8_out_104 : decode cX8_out 104 = .ok (.invokestatic 170, 3) := by decide +kernel
theorem dX8_out_107 : decode cX8_out 107 = .ok (.iadd, 1) := by decide +kernel
theorem dX8_out_108 : decode cX8_out 108 = .ok (.aload_n 0, 1) := by decide +kernel
theorem dX8_out_109 : decode cX8_out 109 = .ok (.getfield 47, 3) := by decide +kernel
theorem dX8_out_112 : decode cX8_out 112 = .ok (.iload_n 2, 1) := by decide +kernel
theorem dX8_out_113 : decode cX8_out 113 = .ok (.iaload, 1) := by decide +kernel
theorem dX8_out_114 : decode cX8_out 114 = .ok (.if_icmp .le 6, 3) := by decide +kernel
theorem dX8_out_117 : decode cX8_out 117 = .ok (.bipush (-5), 2) := by decide +kernel
theorem dX8_out_119 : decode cX8_out 119 = .ok (.ireturn, 1) := by decide +kernel
theorem dX8_out_120 : decode cX8_out 120 = .ok (.aload_n 0, 1) := by decide +kernel
theorem dX8_out_121 : decode cX8_out 121 = .ok (.getfield 41, 3) := by decide +kernel
theorem dX8_out_124 : decode cX8_out 124 = .ok (.iload_n 1, 1) := by decide +kernel
theorem dX8_out_125 : decode cX8_out 125 = .ok (.aload_n 0, 1) := by decide +kernel
theorem dX8_out_126 : decode cX8_out 126 = .ok (.getfield 31, 3) := by decide +kernel
theorem dX8_out_129 : decode cX8_out 129 = .ok (.iload_n 1, 1) := by decide +kernel
theorem dX8_out_130 : decode cX8_out 130 = .ok (.iaload, 1) := by decide +kernel
theorem dX8_out_131 : decode cX8_out 131 = .ok (.iconst 1, 1) := by decide +kernel
theorem dX8_out_132 : decode cX8_out 132 = .ok (.if_icmp .ne 7, 3) := by decide +kernel
theorem dX8_out_135 : decode cX8_out 135 = .ok (.iconst 0, 1) := by decide +kernel
theorem dX8_out_136 : decode cX8_out 136 = .ok (.goto 9, 3) := by decide +kernel
theorem dX8_out_139 : decode cX8_out 139 = .ok (.aload_n 0, 1) := by decide +kernel
theorem dX8_out_140 : decode cX8_out 140 = .ok (.getfield 41, 3) := by decide +kernel
theorem dX8_out_143 : decode cX8_out 143 = .ok (.iload_n 1, 1) := by decide +kernel
theorem dX8_out_144 : decode cX8_out 144 = .ok (.iaload, 1) := by decide +kernel
theorem dX8_out_145 : decode cX8_out 145 = .ok (.iastore, 1) := by decide +kernel
theorem dX8_out_146 : decode cX8_out 146 = .ok (.aload_n 0, 1) := by decide +kernel
theorem dX8_out_147 : decode cX8_out 147 = .ok (.getfield 31, 3) := by decide +kernel
theorem dX8_out_150 : decode cX8_out 150 = .ok (.iload_n 1, 1) := by decide +kernel
theorem dX8_out_151 : decode cX8_out 151 = .ok (.iconst 2, 1) := by decide +kernel
theorem dX8_out_152 : decode cX8_out 152 = .ok (.iastore, 1) := by decide +kernel
theorem dX8_out_153 : decode cX8_out 153 = .ok (.aload_n 0, 1) := by decide +kernel
theorem dX8_out_154 : decode cX8_out 154 = .ok (.getfield 38, 3) := by decide +kernel
theorem dX8_out_157 : decode cX8_out 157 = .ok (.iload_n 1, 1) := by decide +kernel
theorem dX8_out_158 : decode cX8_out 158 = .ok (.iload_n 2, 1) := by decide +kernel
theorem dX8_out_159 : decode cX8_out 159 = .ok (.iastore, 1) := by decide +kernel
theorem dX8_out_160 : decode cX8_out 160 = .ok (.aload_n 0, 1) := by decide +kernel
theorem dX8_out_161 : decode cX8_out 161 = .ok (.getfield 35, 3) := by decide +kernel
theorem dX8_out_164 : decode cX8_out 164 = .ok (.iload_n 1, 1) := by decide +kernel
theorem dX8_out_165 : decode cX8_out 165 = .ok (.iload_n 3, 1) := by decide +kernel
theorem dX8_out_166 : decode cX8_out 166 = .ok (.iastore, 1) := by decide +kernel
theorem dX8_out_167 : decode cX8_out 167 = .ok (.iconst 1, 1) := by decide +kernel
theorem dX8_out_168 : decode cX8_out 168 = .ok (.ireturn, 1) := by decide +kernel
set_option maxRecDepth 20000 in
theorem ggX8_hose_X8_isHose : GoodIn wsX8_hose wsX8_isHose := goodIn_r _ [5, 6, 7, 4, 8] (by decide +kernel) (by decide +kernel)
set_option maxRecDepth 20000 in
theorem gX8_hose_X8_isHose : GoodIn wsX8_hose (va_wsS RX8 164 yX8_isHose wsX8_isHose) := goodIn_app (goodIn_of _ (by decide +kernel)) ggX8_hose_X8_isHose
set_option maxRecDepth 20000 in
theorem ggX8_hose_X8_in : GoodIn wsX8_hose wsX8_in := goodIn_r _ [8] (by decide +kernel) (by decide +kernel)
set_option maxRecDepth 20000 in
theorem gX8_hose_X8_in : GoodIn wsX8_hose (va_wsS RX8 102 yX8_in wsX8_in) := goodIn_app (goodIn_of _ (by decide +kernel)) ggX8_hose_X8_in
set_option maxRecDepth 20000 in
theorem ggX8_hose_X8_onHose : GoodIn wsX8_hose wsX8_onHose := goodIn_r _ [12, 13, 14, 15, 16, 17, 18, 19, 20, 21, 22, 23, 24, 25, 26, 27, 28, 29, 30, 31, 32, 33, 34, 35, 36, 37, 38, 39, 40, 41, 42, 43, 44, 45, 46, 47, 48, 49, 50, 51, 52, 53, 54, 55, 56, 57, 58, 59, 60] (by decide +kernel) (by decide +kernel)
set_option maxRecDepth 20000 in
theorem gX8_hose_X8_onHose : GoodIn wsX8_hose (wsV RX8 131 RX8 yX8_onHose wsX8_onHose) := goodIn_app (goodIn_of _ (by decide +kernel)) ggX8_hose_X8_onHose
theorem dX8_hose_0 : decode cX8_hose 0 = .ok (.iload_n 1, 1) := by decide +kernel
theorem dX8_hose_1 : decode cX8_hose 1 = .ok (.invokestatic 164, 3) := by decide +kernel
theorem dX8_hose_4 : decode cX8_hose 4 = .ok (.ifCond .ne 5, 3) := by decide +kernel
theorem dX8_hose_7 : decode cX8_hose 7 = .ok (.iconst (-1), 1) := by decide +kernel
theorem dX8_hose_8 : decode cX8_hose 8 = .ok (.ireturn, 1) := by decide +kernel
theorem dX8_hose_9 : decode cX8_hose 9 = .ok (.iload_n 2, 1) := by decide +kernel
theorem dX8_hose_10 : decode cX8_hose 10 = .ok (.iconst 1, 1) := by decide +kernel
theorem dX8_hose_11 : decode cX8_hose 11 = .ok (.bipush 12, 2) := by decide +kernel
theorem dX8_hose_13 : decode cX8_hose 13 = .ok (.invokestatic 102, 3) := by decide +kernel
theorem dX8_hose_16 : decode cX8_hose 16 = .ok (.ifCond .ne 6, 3) := by decide +kernel
theorem dX8_hose_19 : decode cX8_hose 19 = .ok (.bipush (-2), 2) := by decide +kernel
theorem dX8_hose_21 : decode cX8_hose 21 = .ok (.ireturn, 1) := by decide +kernel
theorem dX8_hose_22 : decode cX8_hose 22 = .ok (.aload_n 0, 1) := by decide +kernel
theorem dX8_hose_23 : decode cX8_hose 23 = .ok (.iload_n 1, 1) := by decide +kernel
theorem dX8_hose_24 : decode cX8_hose 24 = .ok (.invokevirtual 131, 3) := by decide +kernel
theorem dX8_hose_27 : decode cX8_hose 27 = .ok (.ifCond .le 6, 3) := by decide +kernel
theorem dX8_hose_30 : decode cX8_hose 30 = .ok (.bipush (-3), 2) := by decide +kernel
theorem dX8_hose_32 : decode cX8_hose 32 = .ok (.ireturn, 1) := by decide +kernel
theorem dX8_hose_33 : decode cX8_hose 33 = .ok (.aload_n 0, 1) := by decide +kernel
theorem dX8_hose_34 : decode cX8_hose 34 = .ok (.getfield 47, 3) := by decide +kernel
theorem dX8_hose_37 : decode cX8_hose 37 = .ok (.iload_n 1, 1) := by decide +kernel
theorem dX8_hose_38 : decode cX8_hose 38 = .ok (.iaload, 1) := by decide +kernel
theorem dX8_hose_39 : decode cX8_hose 39 = .ok (.istore_n 3, 1) := by decide +kernel
theorem dX8_hose_40 : decode cX8_hose 40 = .ok (.aload_n 0, 1) := by decide +kernel
theorem dX8_hose_41 : decode cX8_hose 41 = .ok (.getfield 47, 3) := by decide +kernel
theorem dX8_hose_44 : decode cX8_hose 44 = .ok (.iload_n 1, 1) := by decide +kernel
theorem dX8_hose_45 : decode cX8_hose 45 = .ok (.iload_n 2, 1) := by decide +kernel
theorem dX8_hose_46 : decode cX8_hose 46 = .ok (.iastore, 1) := by decide +kernel
theorem dX8_hose_47 : decode cX8_hose 47 = .ok (.iload_n 3, 1) := by decide +kernel
theorem dX8_hose_48 : decode cX8_hose 48 = .ok (.ireturn, 1) := by decide +kernel
set_option maxRecDepth 20000 in
theorem ggX8_stay_X8_in : GoodIn wsX8_stay wsX8_in := goodIn_r _ [5] (by decide +kernel) (by decide +kernel)
set_option maxRecDepth 20000 in
theorem gX8_stay_X8_in : GoodIn wsX8_stay (va_wsS RX8 102 yX8_in wsX8_in) := goodIn_app (goodIn_of _ (by decide +kernel)) ggX8_stay_X8_in
theorem dX8_stay_0 : decode cX8_stay 0 = .ok (.iload_n 1, 1) := by decide +kernel
theorem dX8_stay_1 : decode cX8_stay 1 = .ok (.iconst 1, 1) := by decide +kernel
theorem dX8_stay_2 : decode cX8_stay 2 = .ok (.bipush 60, 2) := by decide +kernel
theorem dX8_stay_4 : decode cX8_stay 4 = .ok (.invokestatic 102, 3) := by decide +kernel
theorem dX8_stay_7 : decode cX8_stay 7 = .ok (.ifCond .ne 6, 3) := by decide +kernel
theorem dX8_stay_10 : decode cX8_stay 10 = .ok (.bipush (-2), 2) := by decide +kernel
theorem dX8_stay_12 : decode cX8_stay 12 = .ok (.ireturn, 1) := by decide +kernel
theorem dX8_stay_13 : decode cX8_stay 13 = .ok (.aload_n 0, 1) := by decide +kernel
theorem dX8_stay_14 : decode cX8_stay 14 = .ok (.getfield 25, 3) := by decide +kernel
theorem dX8_stay_17 : decode cX8_stay 17 = .ok (.istore_n 2, 1) := by decide +kernel
theorem dX8_stay_18 : decode cX8_stay 18 = .ok (.aload_n 0, 1) := by decide +kernel
theorem dX8_stay_19 : decode cX8_stay 19 = .ok (.iload_n 1, 1) := by decide +kernel
theorem dX8_stay_20 : decode cX8_stay 20 = .ok (.putfield 25, 3) := by decide +kernel
theorem dX8_stay_23 : decode cX8_stay 23 = .ok (.iload_n 2, 1) := by decide +kernel
theorem dX8_stay_24 : decode cX8_stay 24 = .ok (.ireturn, 1) := by decide +kernel
set_option maxRecDepth 20000 in
theorem ggX8_hang_X8_isSquare : GoodIn wsX8_hang wsX8_isSquare := goodIn_r _ [5, 6, 7, 4, 8] (by decide +kernel) (by decide +kernel)
set_option maxRecDepth 20000 in
theorem gX8_hang_X8_isSquare : GoodIn wsX8_hang (va_wsS RX8 167 yX8_isSquare wsX8_isSquare) := goodIn_app (goodIn_of _ (by decide +kernel)) ggX8_hang_X8_isSquare
set_option maxRecDepth 20000 in
theorem ggX8_hang_X8_outside : GoodIn wsX8_hang wsX8_outside := goodIn_r _ [12, 13, 14, 15, 16, 17, 18, 19, 20, 21, 22, 23, 24, 25, 26, 27, 28, 29, 30, 31, 32, 33, 34, 35, 36, 37, 38, 39, 40, 41, 42, 43, 44, 45, 46, 47, 48, 49, 50, 51, 52, 53, 54, 55, 56, 57, 58, 59] (by decide +kernel) (by decide +kernel)
set_option maxRecDepth 20000 in
theorem gX8_hang_X8_outside : GoodIn wsX8_hang (wsV RX8 121 RX8 yX8_outside wsX8_outside) := goodIn_app (goodIn_of _ (by decide +kernel)) ggX8_hang_X8_outside
theorem dX8_hang_0 : decode cX8_hang 0 = .ok (.iload_n 1, 1) := by decide +kernel
theorem dX8_hang_1 : decode cX8_hang 1 = .ok (.invokestatic 167, 3) := by decide +kernel
theorem dX8_hang_4 : decode cX8_hang 4 = .ok (.ifCond .ne 5, 3) := by decide +kernel
theorem dX8_hang_7 : decode cX8_hang 7 = .ok (.iconst (-1), 1) := by decide +kernel
theorem dX8_hang_8 : decode cX8_hang 8 = .ok (.ireturn, 1) := by decide +kernel
theorem dX8_hang_9 : decode cX8_hang 9 = .ok (.aload_n 0, 1) := by decide +kernel
theorem dX8_hang_10 : decode cX8_hang 10 = .ok (.invokevirtual 121, 3) := by decide +kernel
theorem dX8_hang_13 : decode cX8_hang 13 = .ok (.ifCond .le 6, 3) := by decide +kernel
theorem dX8_hang_16 : decode cX8_hang 16 = .ok (.bipush (-3), 2) := by decide +kernel
theorem dX8_hang_18 : decode cX8_hang 18 = .ok (.ireturn, 1) := by decide +kernel
theorem dX8_hang_19 : decode cX8_hang 19 = .ok (.aload_n 0, 1) := by decide +kernel
theorem dX8_hang_20 : decode cX8_hang 20 = .ok (.getfield 28, 3) := by decide +kernel
theorem dX8_hang_23 : decode cX8_hang 23 = .ok (.istore_n 2, 1) := by decide +kernel
theorem dX8_hang_24 : decode cX8_hang 24 = .ok (.aload_n 0, 1) := by decide +kernel
theorem dX8_hang_25 : decode cX8_hang 25 = .ok (.iload_n 1, 1) := by decide +kernel
theorem dX8_hang_26 : decode cX8_hang 26 = .ok (.putfield 28, 3) := by decide +kernel
theorem dX8_hang_29 : decode cX8_hang 29 = .ok (.iload_n 2, 1) := by decide +kernel
theorem dX8_hang_30 : decode cX8_hang 30 = .ok (.ireturn, 1) := by decide +kernel
set_option maxRecDepth 20000 in
theorem ggX8_man_X8_isMan : GoodIn wsX8_man wsX8_isMan := goodIn_r _ [9, 10, 11, 8, 12] (by decide +kernel) (by decide +kernel)
set_option maxRecDepth 20000 in
theorem gX8_man_X8_isMan : GoodIn wsX8_man (va_wsS RX8 161 yX8_isMan wsX8_isMan) := goodIn_app (goodIn_of _ (by decide +kernel)) ggX8_man_X8_isMan
theorem dX8_man_0 : decode cX8_man 0 = .ok (.iload_n 1, 1) := by decide +kernel
theorem dX8_man_1 : decode cX8_man 1 = .ok (.invokestatic 161, 3) := by decide +kernel
theorem dX8_man_4 : decode cX8_man 4 = .ok (.ifCond .ne 5, 3) := by decide +kernel
theorem dX8_man_7 : decode cX8_man 7 = .ok (.iconst (-1), 1) := by decide +kernel
theorem dX8_man_8 : decode cX8_man 8 = .ok (.ireturn, 1) := by decide +kernel
theorem dX8_man_9 : decode cX8_man 9 = .ok (.aload_n 0, 1) := by decide +kernel
theorem dX8_man_10 : decode cX8_man 10 = .ok (.getfield 31, 3) := by decide +kernel
theorem dX8_man_13 : decode cX8_man 13 = .ok (.iload_n 1, 1) := by decide +kernel
theorem dX8_man_14 : decode cX8_man 14 = .ok (.iaload, 1) := by decide +kernel
theorem dX8_man_15 : decode cX8_man 15 = .ok (.iconst 2, 1) := by decide +kernel
theorem dX8_man_16 : decode cX8_man 16 = .ok (.if_icmp .ne 7, 3) := by decide +kernel
theorem dX8_man_19 : decode cX8_man 19 = .ok (.iconst 1, 1) := by decide +kernel
theorem dX8_man_20 : decode cX8_man 20 = .ok (.goto 4, 3) := by decide +kernel
theorem dX8_man_23 : decode cX8_man 23 = .ok (.iconst 0, 1) := by decide +kernel
theorem dX8_man_24 : decode cX8_man 24 = .ok (.istore_n 3, 1) := by decide +kernel
theorem dX8_man_25 : decode cX8_man 25 = .ok (.iload_n 2, 1) := by decide +kernel
theorem dX8_man_26 : decode cX8_man 26 = .ok (.tableswitch 95 0 4 #[34, 41, 57, 73, 88], 34) := by decide +kernel
theorem dX8_man_60 : decode cX8_man 60 = .ok (.aload_n 0, 1) := by decide +kernel
theorem dX8_man_61 : decode cX8_man 61 = .ok (.getfield 31, 3) := by decide +kernel
theorem dX8_man_64 : decode cX8_man 64 = .ok (.iload_n 1, 1) := by decide +kernel
theorem dX8_man_65 : decode cX8_man 65 = .ok (.iaload, 1) := by decide +kernel
theorem dX8_man_66 : decode cX8_man 66 = .ok (.ireturn, 1) := by decide +kernel
theorem dX8_man_67 : decode cX8_man 67 = .ok (.iload_n 3, 1) := by decide +kernel
theorem dX8_man_68 : decode cX8_man 68 = .ok (.ifCond .eq 12, 3) := by decide +kernel
theorem dX8_man_71 : decode cX8_man 71 = .ok (.aload_n 0, 1) := by decide +kernel
theorem dX8_man_72 : decode cX8_man 72 = .ok (.getfield 35, 3) := by decide +kernel
theorem dX8_man_75 : decode cX8_man 75 = .ok (.iload_n 1, 1) := by decide +kernel
theorem dX8_man_76 : decode cX8_man 76 = .ok (.iaload, 1) := by decide +kernel
theorem dX8_man_77 : decode cX8_man 77 = .ok (.goto 5, 3) := by decide +kernel
theorem dX8_man_80 : decode cX8_man 80 = .ok (.bipush (-6), 2) := by decide +kernel
theorem dX8_man_82 : decode cX8_man 82 = .ok (.ireturn, 1) := by decide +kernel
theorem dX8_man_83 : decode cX8_man 83 = .ok (.iload_n 3, 1) := by decide +kernel
theorem dX8_man_84 : decode cX8_man 84 = .ok (.ifCond .eq 12, 3) := by decide +kernel
theorem dX8_man_87 : decode cX8_man 87 = .ok (.aload_n 0, 1) := by decide +kernel
theorem dX8_man_88 : decode cX8_man 88 = .ok (.getfield 38, 3) := by decide +kernel
theorem dX8_man_91 : decode cX8_man 91 = .ok (.iload_n 1, 1) := by decide +kernel
theorem dX8_man_92 : decode cX8_man 92 = .ok (.iaload, 1) := by decide +kernel
theorem dX8_man_93 : decode cX8_man 93 = .ok (.goto 5, 3) := by decide +kernel
theorem dX8_man_96 : decode cX8_man 96 = .ok (.bipush (-6), 2) := by decide +kernel
theorem dX8_man_98 : decode cX8_man 98 = .ok (.ireturn, 1) := by decide +kernel
theorem dX8_man_99 : decode cX8_man 99 = .ok (.iload_n 3, 1) := by decide +kernel
theorem dX8_man_100 : decode cX8_man 100 = .ok (.ifCond .eq 12, 3) := by decide +kernel
theorem dX8_man_103 : decode cX8_man 103 = .ok (.aload_n 0, 1) := by decide +kernel
theorem dX8_man_104 : decode cX8_man 104 = .ok (.getfield 41, 3) := by decide +kernel
theorem dX8_man_107 : decode cX8_man 107 = .ok (.iload_n 1, 1) := by decide +kernel
theorem dX8_man_108 : decode cX8_man 108 = .ok (.iaload, 1) := by decide +kernel
theorem dX8_man_109 : decode cX8_man 109 = .ok (.goto 4, 3) := by decide +kernel
theorem dX8_man_112 : decode cX8_man 112 = .ok (.iconst 0, 1) := by decide +kernel
theorem dX8_man_113 : decode cX8_man 113 = .ok (.ireturn, 1) := by decide +kernel
theorem dX8_man_114 : decode cX8_man 114 = .ok (.aload_n 0, 1) := by decide +kernel
theorem dX8_man_115 : decode cX8_man 115 = .ok (.getfield 44, 3) := by decide +kernel
theorem dX8_man_118 : decode cX8_man 118 = .ok (.iload_n 1, 1) := by decide +kernel
theorem dX8_man_119 : decode cX8_man 119 = .ok (.iaload, 1) := by decide +kernel
theorem dX8_man_120 : decode cX8_man 120 = .ok (.ireturn, 1) := by decide +kernel
theorem dX8_man_121 : decode cX8_man 121 = .ok (.bipush (-2), 2) := by decide +kernel
theorem dX8_man_123 : decode cX8_man 123 = .ok (.ireturn, 1) := by decide +kernel
set_option maxRecDepth 20000 in
theorem ggX8_isThing_X8_in : GoodIn wsX8_isThing wsX8_in := goodIn_r _ [5] (by decide +kernel) (by decide +kernel)
set_option maxRecDepth 20000 in
theorem gX8_isThing_X8_in : GoodIn wsX8_isThing (va_wsS RX8 102 yX8_in wsX8_in) := goodIn_app (goodIn_of _ (by decide +kernel)) ggX8_isThing_X8_in
theorem dX8_isThing_0 : decode cX8_isThing 0 = .ok (.iload_n 1, 1) := by decide +kernel
theorem dX8_isThing_1 : decode cX8_isThing 1 = .ok (.iconst 0, 1) := by decide +kernel
theorem dX8_isThing_2 : decode cX8_isThing 2 = .ok (.aload_n 0, 1) := by decide +kernel
theorem dX8_isThing_3 : decode cX8_isThing 3 = .ok (.getfield 173, 3) := by decide +kernel
theorem dX8_isThing_6 : decode cX8_isThing 6 = .ok (.iconst 1, 1) := by decide +kernel
theorem dX8_isThing_7 : decode cX8_isThing 7 = .ok (.isub, 1) := by decide +kernel
theorem dX8_isThing_8 : decode cX8_isThing 8 = .ok (.invokestatic 102, 3) := by decide +kernel
theorem dX8_isThing_11 : decode cX8_isThing 11 = .ok (.ireturn, 1) := by decide +kernel
set_option maxRecDepth 20000 in
theorem ggX8_thing_X8_isSquare : GoodIn wsX8_thing wsX8_isSquare := goodIn_r _ [7, 8, 9, 6, 10] (by decide +kernel) (by decide +kernel)
set_option maxRecDepth 20000 in
theorem gX8_thing_X8_isSquare : GoodIn wsX8_thing (va_wsS RX8 167 yX8_isSquare wsX8_isSquare) := goodIn_app (goodIn_of _ (by decide +kernel)) ggX8_thing_X8_isSquare
set_option maxRecDepth 20000 in
theorem ggX8_thing_X8_in : GoodIn wsX8_thing wsX8_in := goodIn_r _ [10] (by decide +kernel) (by decide +kernel)
set_option maxRecDepth 20000 in
theorem gX8_thing_X8_in : GoodIn wsX8_thing (va_wsS RX8 102 yX8_in wsX8_in) := goodIn_app (goodIn_of _ (by decide +kernel)) ggX8_thing_X8_in
theorem dX8_thing_0 : decode cX8_thing 0 = .ok (.iload_n 1, 1) := by decide +kernel
theorem dX8_thing_1 : decode cX8_thing 1 = .ok (.invokestatic 167, 3) := by decide +kernel
theorem dX8_thing_4 : decode cX8_thing 4 = .ok (.ifCond .ne 5, 3) := by decide +kernel
theorem dX8_thing_7 : decode cX8_thing 7 = .ok (.iconst (-1), 1) := by decide +kernel
theorem dX8_thing_8 : decode cX8_thing 8 = .ok (.ireturn, 1) := by decide +kernel
theorem dX8_thing_9 : decode cX8_thing 9 = .ok (.iload_n 2, 1) := by decide +kernel
theorem dX8_thing_10 : decode cX8_thing 10 = .ok (.iconst 0, 1) := by decide +kernel
theorem dX8_thing_11 : decode cX8_thing 11 = .ok (.sipush 1000, 3) := by decide +kernel
theorem dX8_thing_14 : decode cX8_thing 14 = .ok (.invokestatic 102, 3) := by decide +kernel
theorem dX8_thing_17 : decode cX8_thing 17 = .ok (.ifCond .eq 25, 3) := by decide +kernel
theorem dX8_thing_20 : decode cX8_thing 20 = .ok (.iload_n 3, 1) := by decide +kernel
theorem dX8_thing_21 : decode cX8_thing 21 = .ok (.iconst 1, 1) := by decide +kernel
theorem dX8_thing_22 : decode cX8_thing 22 = .ok (.sipush 200, 3) := by decide +kernel
theorem dX8_thing_25 : decode cX8_thing 25 = .ok (.invokestatic 102, 3) := by decide +kernel
theorem dX8_thing_28 : decode cX8_thing 28 = .ok (.ifCond .eq 14, 3) := by decide +kernel
theorem dX8_thing_31 : decode cX8_thing 31 = .ok (.iload 4, 2) := by decide +kernel
theorem dX8_thing_33 : decode cX8_thing 33 = .ok (.iconst 0, 1) := by decide +kernel
theorem dX8_thing_34 : decode cX8_thing 34 = .ok (.bipush 100, 2) := by decide +kernel
theorem dX8_thing_36 : decode cX8_thing 36 = .ok (.invokestatic 102, 3) := by decide +kernel
theorem dX8_thing_39 : decode cX8_thing 39 = .ok (.ifCond .ne 6, 3) := by decide +kernel
theorem dX8_thing_42 : decode cX8_thing 42 = .ok (.bipush (-2), 2) := by decide +kernel
theorem dX8_thing_44 : decode cX8_thing 44 = .ok (.ireturn, 1) := by decide +kernel
theorem dX8_thing_45 : decode cX8_thing 45 = .ok (.aload_n 0, 1) := by decide +kernel
theorem dX8_thing_46 : decode cX8_thing 46 = .ok (.getfield 173, 3) := by decide +kernel
theorem dX8_thing_49 : decode cX8_thing 49 = .ok (.bipush 12, 2) := by decide +kernel
theorem dX8_thing_51 : decode cX8_thing 51 = .ok (.if_icmp .ne 6, 3) := by decide +kernel
theorem dX8_thing_54 : decode cX8_thing 54 = .ok (.bipush (-4), 2) := by decide +kernel
theorem dX8_thing_56 : decode cX8_thing 56 = .ok (.ireturn, 1) := by decide +kernel
theorem dX8_thing_57 : decode cX8_thing 57 = .ok (.iconst 5, 1) := by decide +kernel
theorem dX8_thing_58 : decode cX8_thing 58 = .ok (.aload_n 0, 1) := by decide +kernel
theorem dX8_thing_59 : decode cX8_thing 59 = .ok (.getfield 173, 3) := by decide +kernel
theorem dX8_thing_62 : decode cX8_thing 62 = .ok (.imul, 1) := by decide +kernel
theorem dX8_thing_63 : decode cX8_thing 63 = .ok (.istore 5, 2) := by decide +kernel
theorem dX8_thing_65 : decode cX8_thing 65 = .ok (.aload_n 0, 1) := by decide +kernel
theorem dX8_thing_66 : decode cX8_thing 66 = .ok (.getfield 50, 3) := by decide +kernel
theorem dX8_thing_69 : decode cX8_thing 69 = .ok (.iload 5, 2) := by decide +kernel
theorem dX8_thing_71 : decode cX8_thing 71 = .ok (.iload_n 1, 1) := by decide +kernel
theorem dX8_thing_72 : decode cX8_thing 72 = .ok (.iastore, 1) := by decide +kernel
theorem dX8_thing_73 : decode cX8_thing 73 = .ok (.aload_n 0, 1) := by decide +kernel
theorem dX8_thing_74 : decode cX8_thing 74 = .ok (.getfield 50, 3) := by decide +kernel
theorem dX8_thing_77 : decode cX8_thing 77 = .ok (.iload 5, 2) := by decide +kernel
theorem dX8_thing_79 : decode cX8_thing 79 = .ok (.iconst 1, 1) := by decide +kernel
theorem dX8_thing_80 : decode cX8_thing 80 = .ok (.iadd, 1) := by decide +kernel
theorem dX8_thing_81 : decode cX8_thing 81 = .ok (.iload_n 2, 1) := by decide +kernel
theorem dX8_thing_82 : decode cX8_thing 82 = .ok (.iastore, 1) := by decide +kernel
theorem dX8_thing_83 : decode cX8_thing 83 = .ok (.aload_n 0, 1) := by decide +kernel
theorem dX8_thing_84 : decode cX8_thing 84 = .ok (.getfield 50, 3) := by decide +kernel
theorem dX8_thing_87 : decode cX8_thing 87 = .ok (.iload 5, 2) := by decide +kernel
theorem dX8_thing_89 : decode cX8_thing 89 = .ok (.iconst 2, 1) := by decide +kernel
theorem dX8_thing_90 : decode cX8_thing 90 = .ok (.iadd, 1) := by decide +kernel
theorem dX8_thing_91 : decode cX8_thing 91 = .ok (.iload_n 3, 1) := by decide +kernel
theorem dX8_thing_92 : decode cX8_thing 92 = .ok (.iastore, 1) := by decide +kernel
theorem dX8_thing_93 : decode cX8_thing 93 = .ok (.aload_n 0, 1) := by decide +kernel
theorem dX8_thing_94 : decode cX8_thing 94 = .ok (.getfield 50, 3) := by decide +kernel
theorem dX8_thing_97 : decode cX8_thing 97 = .ok (.iload 5, 2) := by decide +kernel
theorem dX8_thing_99 : decode cX8_thing 99 = .ok (.iconst 3, 1) := by decide +kernel
theorem dX8_thing_100 : decode cX8_thing 100 = .ok (.iadd, 1) := by decide +kernel
theorem dX8_thing_101 : decode cX8_thing 101 = .ok (.iload 4, 2) := by decide +kernel
theorem dX8_thing_103 : decode cX8_thing 103 = .ok (.iastore, 1) := by decide +kernel
theorem dX8_thing_104 : decode cX8_thing 104 = .ok (.aload_n 0, 1) := by decide +kernel
theorem dX8_thing_105 : decode cX8_thing 105 = .ok (.getfield 50, 3) := by decide +kernel
theorem dX8_thing_108 : decode cX8_thing 108 = .ok (.iload 5, 2) := by decide +kernel
theorem dX8_thing_110 : decode cX8_thing 110 = .ok (.iconst 4, 1) := by decide +kernel
theorem dX8_thing_111 : decode cX8_thing 111 = .ok (.iadd, 1) := by decide +kernel
theorem dX8_thing_112 : decode cX8_thing 112 = .ok (.iconst 0, 1) := by decide +kernel
theorem dX8_thing_113 : decode cX8_thing 113 = .ok (.iastore, 1) := by decide +kernel
theorem dX8_thing_114 : decode cX8_thing 114 = .ok (.aload_n 0, 1) := by decide +kernel
theorem dX8_thing_115 : decode cX8_thing 115 = .ok (.getfield 53, 3) := by decide +kernel
theorem dX8_thing_118 : decode cX8_thing 118 = .ok (.aload_n 0, 1) := by decide +kernel
theorem dX8_thing_119 : decode cX8_thing 119 = .ok (.getfield 173, 3) := by decide +kernel
theorem dX8_thing_122 : decode cX8_thing 122 = .ok (.iconst 0, 1) := by decide +kernel
theorem dX8_thing_123 : decode cX8_thing 123 = .ok (.iastore, 1) := by decide +kernel
theorem dX8_thing_124 : decode cX8_thing 124 = .ok (.aload_n 0, 1) := by decide +kernel
theorem dX8_thing_125 : decode cX8_thing 125 = .ok (.dup, 1) := by decide +kernel
theorem dX8_thing_126 : decode cX8_thing 126 = .ok (.getfield 173, 3) := by decide +kernel
theorem dX8_thing_129 : decode cX8_thing 129 = .ok (.iconst 1, 1) := by decide +kernel
theorem dX8_thing_130 : decode cX8_thing 130 = .ok (.iadd, 1) := by decide +kernel
theorem dX8_thing_131 : decode cX8_thing 131 = .ok (.putfield 173, 3) := by decide +kernel
theorem dX8_thing_134 : decode cX8_thing 134 = .ok (.aload_n 0, 1) := by decide +kernel
theorem dX8_thing_135 : decode cX8_thing 135 = .ok (.getfield 173, 3) := by decide +kernel
theorem dX8_thing_138 : decode cX8_thing 138 = .ok (.iconst 1, 1) := by decide +kernel
theorem dX8_thing_139 : decode cX8_thing 139 = .ok (.isub, 1) := by decide +kernel
theorem dX8_thing_140 : decode cX8_thing 140 = .ok (.ireturn, 1) := by decide +kernel
theorem dX8_above_0 : decode cX8_above 0 = .ok (.aload_n 0, 1) := by decide +kernel
theorem dX8_above_1 : decode cX8_above 1 = .ok (.getfield 53, 3) := by decide +kernel
theorem dX8_above_4 : decode cX8_above 4 = .ok (.iload_n 1, 1) := by decide +kernel
theorem dX8_above_5 : decode cX8_above 5 = .ok (.iaload, 1) := by decide +kernel
theorem dX8_above_6 : decode cX8_above 6 = .ok (.istore_n 2, 1) := by decide +kernel
theorem dX8_above_7 : decode cX8_above 7 = .ok (.iconst 0, 1) := by decide +kernel
theorem dX8_above_8 : decode cX8_above 8 = .ok (.istore_n 3, 1) := by decide +kernel
theorem dX8_above_9 : decode cX8_above 9 = .ok (.iload_n 3, 1) := by decide +kernel
theorem dX8_above_10 : decode cX8_above 10 = .ok (.bipush 12, 2) := by decide +kernel
theorem dX8_above_12 : decode cX8_above 12 = .ok (.if_icmp .ge 51, 3) := by decide +kernel
theorem dX8_above_15 : decode cX8_above 15 = .ok (.iconst 0, 1) := by decide +kernel
theorem dX8_above_16 : decode cX8_above 16 = .ok (.istore 4, 2) := by decide +kernel
theorem dX8_above_18 : decode cX8_above 18 = .ok (.iload 4, 2) := by decide +kernel
theorem dX8_above_20 : decode cX8_above 20 = .ok (.aload_n 0, 1) := by decide +kernel
theorem dX8_above_21 : decode cX8_above 21 = .ok (.getfield 173, 3) := by decide +kernel
theorem dX8_above_24 : decode cX8_above 24 = .ok (.if_icmp .ge 33, 3) := by decide +kernel
theorem dX8_above_27 : decode cX8_above 27 = .ok (.iload_n 2, 1) := by decide +kernel
theorem dX8_above_28 : decode cX8_above 28 = .ok (.iload_n 2, 1) := by decide +kernel
theorem dX8_above_29 : decode cX8_above 29 = .ok (.iload 4, 2) := by decide +kernel
theorem dX8_above_31 : decode cX8_above 31 = .ok (.ishr, 1) := by decide +kernel
theorem dX8_above_32 : decode cX8_above 32 = .ok (.iconst 1, 1) := by decide +kernel
theorem dX8_above_33 : decode cX8_above 33 = .ok (.iand, 1) := by decide +kernel
theorem dX8_above_34 : decode cX8_above 34 = .ok (.iconst 1, 1) := by decide +kernel
theorem dX8_above_35 : decode cX8_above 35 = .ok (.if_icmp .ne 13, 3) := by decide +kernel
theorem dX8_above_38 : decode cX8_above 38 = .ok (.aload_n 0, 1) := by decide +kernel
theorem dX8_above_39 : decode cX8_above 39 = .ok (.getfield 53, 3) := by decide +kernel
theorem dX8_above_42 : decode cX8_above 42 = .ok (.iload 4, 2) := by decide +kernel
theorem dX8_above_44 : decode cX8_above 44 = .ok (.iaload, 1) := by decide +kernel
theorem dX8_above_45 : decode cX8_above 45 = .ok (.goto 4, 3) := by decide +kernel
theorem dX8_above_48 : decode cX8_above 48 = .ok (.iconst 0, 1) := by decide +kernel
theorem dX8_above_49 : decode cX8_above 49 = .ok (.ior, 1) := by decide +kernel
theorem dX8_above_50 : decode cX8_above 50 = .ok (.istore_n 2, 1) := by decide +kernel
theorem dX8_above_51 : decode cX8_above 51 = .ok (.iinc 4 1, 3) := by decide +kernel
theorem dX8_above_54 : decode cX8_above 54 = .ok (.goto (-36), 3) := by decide +kernel
theorem dX8_above_57 : decode cX8_above 57 = .ok (.iinc 3 1, 3) := by decide +kernel
theorem dX8_above_60 : decode cX8_above 60 = .ok (.goto (-51), 3) := by decide +kernel
theorem dX8_above_63 : decode cX8_above 63 = .ok (.iload_n 2, 1) := by decide +kernel
theorem dX8_above_64 : decode cX8_above 64 = .ok (.ireturn, 1) := by decide +kernel
set_option maxRecDepth 20000 in
theorem ggX8_under_X8_isThing : GoodIn wsX8_under wsX8_isThing := goodIn_r _ [6, 7, 8, 9, 5, 10, 15, 16, 17, 18, 19, 20, 21, 22, 23, 24, 25, 26, 27, 28, 29, 30, 31, 32, 33, 34, 35, 36, 37, 38, 39, 40, 41, 42, 43, 44, 45, 46, 47, 48, 49, 50, 51, 52, 53, 54, 55, 56, 57, 58, 59, 60] (by decide +kernel) (by decide +kernel)
set_option maxRecDepth 20000 in
theorem gX8_under_X8_isThing : GoodIn wsX8_under (wsV RX8 176 RX8 yX8_isThing wsX8_isThing) := goodIn_app (goodIn_of _ (by decide +kernel)) ggX8_under_X8_isThing
set_option maxRecDepth 20000 in
theorem ggX8_under_X8_above : GoodIn wsX8_under wsX8_above := goodIn_r _ [14, 1, 7, 15, 16, 17, 18, 19, 20, 21, 22, 23, 24, 25, 26, 27, 28, 29, 30, 31, 32, 33, 34, 35, 36, 37, 38, 39, 40, 41, 42, 43, 44, 45, 46, 47, 48, 49, 50, 51, 52, 53, 54, 55, 56, 57, 58, 59, 60] (by decide +kernel) (by decide +kernel)
set_option maxRecDepth 20000 in
theorem gX8_under_X8_above : GoodIn wsX8_under (wsV RX8 179 RX8 yX8_above wsX8_above) := goodIn_app (goodIn_of _ (by decide +kernel)) ggX8_under_X8_above
theorem dX8_under_0 : decode cX8_under 0 = .ok (.aload_n 0, 1) := by decide +kernel
theorem dX8_under_1 : decode cX8_under 1 = .ok (.iload_n 1, 1) := by decide +kernel
theorem dX8_under_2 : decode cX8_under 2 = .ok (.invokevirtual 176, 3) := by decide +kernel
theorem dX8_under_5 : decode cX8_under 5 = .ok (.ifCond .eq 16, 3) := by decide +kernel
theorem dX8_under_8 : decode cX8_under 8 = .ok (.aload_n 0, 1) := by decide +kernel
theorem dX8_under_9 : decode cX8_under 9 = .ok (.iload_n 2, 1) := by decide +kernel
theorem dX8_under_10 : decode cX8_under 10 = .ok (.invokevirtual 176, 3) := by decide +kernel
