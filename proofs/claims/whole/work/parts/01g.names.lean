theorem dX7_log_87 : decode cX7_log 87 = .ok (.ireturn, 1) := by decide +kernel
theorem dX7_log_88 : decode cX7_log 88 = .ok (.aload_n 0, 1) := by decide +kernel
theorem dX7_log_89 : decode cX7_log 89 = .ok (.getfield 40, 3) := by decide +kernel
theorem dX7_log_92 : decode cX7_log 92 = .ok (.aload_n 0, 1) := by decide +kernel
theorem dX7_log_93 : decode cX7_log 93 = .ok (.getfield 19, 3) := by decide +kernel
theorem dX7_log_96 : decode cX7_log 96 = .ok (.getfield 172, 3) := by decide +kernel
theorem dX7_log_99 : decode cX7_log 99 = .ok (.invokevirtual 315, 3) := by decide +kernel
theorem dX7_log_102 : decode cX7_log 102 = .ok (.ireturn, 1) := by decide +kernel
theorem dX7_log_103 : decode cX7_log 103 = .ok (.aload_n 0, 1) := by decide +kernel
theorem dX7_log_104 : decode cX7_log 104 = .ok (.getfield 40, 3) := by decide +kernel
theorem dX7_log_107 : decode cX7_log 107 = .ok (.getfield 318, 3) := by decide +kernel
theorem dX7_log_110 : decode cX7_log 110 = .ok (.ireturn, 1) := by decide +kernel
theorem dX7_log_111 : decode cX7_log 111 = .ok (.aload_n 0, 1) := by decide +kernel
theorem dX7_log_112 : decode cX7_log 112 = .ok (.getfield 40, 3) := by decide +kernel
theorem dX7_log_115 : decode cX7_log 115 = .ok (.getfield 321, 3) := by decide +kernel
theorem dX7_log_118 : decode cX7_log 118 = .ok (.ireturn, 1) := by decide +kernel
set_option maxRecDepth 20000 in
theorem ggX7_told_X3_countSigns : GoodIn wsX7_told wsX3_countSigns := goodIn_r _ [19, 20, 21, 22, 18, 23, 24, 87, 88, 89, 90, 91] (by decide +kernel) (by decide +kernel)
set_option maxRecDepth 20000 in
theorem gX7_told_X3_countSigns : GoodIn wsX7_told (wsV RX7 324 RX3 yX3_countSigns wsX3_countSigns) := goodIn_app (goodIn_of _ (by decide +kernel)) ggX7_told_X3_countSigns
set_option maxRecDepth 20000 in
theorem ggX7_told_X6_raisedWorth : GoodIn wsX7_told wsX6_raisedWorth := goodIn_r _ [29, 30, 31, 32, 33, 34, 35, 62, 63, 64, 65, 66, 67, 68, 69, 70, 71, 72, 73] (by decide +kernel) (by decide +kernel)
set_option maxRecDepth 20000 in
theorem gX7_told_X6_raisedWorth : GoodIn wsX7_told (wsV RX7 327 RX6 yX6_raisedWorth wsX6_raisedWorth) := goodIn_app (goodIn_of _ (by decide +kernel)) ggX7_told_X6_raisedWorth
theorem dX7_told_0 : decode cX7_told 0 = .ok (.iload_n 1, 1) := by decide +kernel
theorem dX7_told_1 : decode cX7_told 1 = .ok (.tableswitch 135 0 9 #[55, 60, 68, 76, 84, 92, 103, 111, 119, 127], 55) := by decide +kernel
theorem dX7_told_56 : decode cX7_told 56 = .ok (.aload_n 0, 1) := by decide +kernel
theorem dX7_told_57 : decode cX7_told 57 = .ok (.getfield 44, 3) := by decide +kernel
theorem dX7_told_60 : decode cX7_told 60 = .ok (.ireturn, 1) := by decide +kernel
theorem dX7_told_61 : decode cX7_told 61 = .ok (.aload_n 0, 1) := by decide +kernel
theorem dX7_told_62 : decode cX7_told 62 = .ok (.getfield 19, 3) := by decide +kernel
theorem dX7_told_65 : decode cX7_told 65 = .ok (.getfield 156, 3) := by decide +kernel
theorem dX7_told_68 : decode cX7_told 68 = .ok (.ireturn, 1) := by decide +kernel
theorem dX7_told_69 : decode cX7_told 69 = .ok (.aload_n 0, 1) := by decide +kernel
theorem dX7_told_70 : decode cX7_told 70 = .ok (.getfield 12, 3) := by decide +kernel
theorem dX7_told_73 : decode cX7_told 73 = .ok (.getfield 56, 3) := by decide +kernel
theorem dX7_told_76 : decode cX7_told 76 = .ok (.ireturn, 1) := by decide +kernel
theorem dX7_told_77 : decode cX7_told 77 = .ok (.aload_n 0, 1) := by decide +kernel
theorem dX7_told_78 : decode cX7_told 78 = .ok (.getfield 26, 3) := by decide +kernel
theorem dX7_told_81 : decode cX7_told 81 = .ok (.getfield 184, 3) := by decide +kernel
theorem dX7_told_84 : decode cX7_told 84 = .ok (.ireturn, 1) := by decide +kernel
theorem dX7_told_85 : decode cX7_told 85 = .ok (.aload_n 0, 1) := by decide +kernel
theorem dX7_told_86 : decode cX7_told 86 = .ok (.getfield 26, 3) := by decide +kernel
theorem dX7_told_89 : decode cX7_told 89 = .ok (.getfield 228, 3) := by decide +kernel
theorem dX7_told_92 : decode cX7_told 92 = .ok (.ireturn, 1) := by decide +kernel
theorem dX7_told_93 : decode cX7_told 93 = .ok (.aload_n 0, 1) := by decide +kernel
theorem dX7_told_94 : decode cX7_told 94 = .ok (.getfield 26, 3) := by decide +kernel
theorem dX7_told_97 : decode cX7_told 97 = .ok (.getfield 236, 3) := by decide +kernel
theorem dX7_told_100 : decode cX7_told 100 = .ok (.getfield 240, 3) := by decide +kernel
theorem dX7_told_103 : decode cX7_told 103 = .ok (.ireturn, 1) := by decide +kernel
theorem dX7_told_104 : decode cX7_told 104 = .ok (.aload_n 0, 1) := by decide +kernel
theorem dX7_told_105 : decode cX7_told 105 = .ok (.getfield 33, 3) := by decide +kernel
theorem dX7_told_108 : decode cX7_told 108 = .ok (.invokevirtual 324, 3) := by decide +kernel
theorem dX7_told_111 : decode cX7_told 111 = .ok (.ireturn, 1) := by decide +kernel
theorem dX7_told_112 : decode cX7_told 112 = .ok (.aload_n 0, 1) := by decide +kernel
theorem dX7_told_113 : decode cX7_told 113 = .ok (.getfield 40, 3) := by decide +kernel
theorem dX7_told_116 : decode cX7_told 116 = .ok (.getfield 296, 3) := by decide +kernel
theorem dX7_told_119 : decode cX7_told 119 = .ok (.ireturn, 1) := by decide +kernel
theorem dX7_told_120 : decode cX7_told 120 = .ok (.aload_n 0, 1) := by decide +kernel
theorem dX7_told_121 : decode cX7_told 121 = .ok (.getfield 33, 3) := by decide +kernel
theorem dX7_told_124 : decode cX7_told 124 = .ok (.getfield 281, 3) := by decide +kernel
theorem dX7_told_127 : decode cX7_told 127 = .ok (.ireturn, 1) := by decide +kernel
theorem dX7_told_128 : decode cX7_told 128 = .ok (.aload_n 0, 1) := by decide +kernel
theorem dX7_told_129 : decode cX7_told 129 = .ok (.getfield 26, 3) := by decide +kernel
theorem dX7_told_132 : decode cX7_told 132 = .ok (.invokevirtual 327, 3) := by decide +kernel
theorem dX7_told_135 : decode cX7_told 135 = .ok (.ireturn, 1) := by decide +kernel
theorem dX7_told_136 : decode cX7_told 136 = .ok (.bipush (-2), 2) := by decide +kernel
theorem dX7_told_138 : decode cX7_told 138 = .ok (.ireturn, 1) := by decide +kernel
set_option maxRecDepth 20000 in
theorem ggX7_passMinute_X0_breathe : GoodIn wsX7_passMinute wsX0_breathe := goodIn_r _ [10, 11, 12, 13, 14, 15, 16, 17, 18, 19, 87, 88, 89, 90, 91, 92, 93, 94, 95, 96, 97, 98] (by decide +kernel) (by decide +kernel)
set_option maxRecDepth 20000 in
theorem gX7_passMinute_X0_breathe : GoodIn wsX7_passMinute (wsV RX7 330 RX0 yX0_breathe wsX0_breathe) := goodIn_app (goodIn_of _ (by decide +kernel)) ggX7_passMinute_X0_breathe
set_option maxRecDepth 20000 in
theorem ggX7_passMinute_X2_countMinuteOut : GoodIn wsX7_passMinute wsX2_countMinuteOut := goodIn_r _ [24, 25, 26, 27, 28, 29, 30, 23, 31, 32, 33, 34, 35, 79, 80, 81, 82, 83, 84, 85, 86] (by decide +kernel) (by decide +kernel)
set_option maxRecDepth 20000 in
theorem gX7_passMinute_X2_countMinuteOut : GoodIn wsX7_passMinute (wsV RX7 333 RX2 yX2_countMinuteOut wsX2_countMinuteOut) := goodIn_app (goodIn_of _ (by decide +kernel)) ggX7_passMinute_X2_countMinuteOut
set_option maxRecDepth 20000 in
theorem ggX7_passMinute_X7_toil : GoodIn wsX7_passMinute wsX7_toil := goodIn_r _ [40, 2, 41, 42, 43, 44, 45, 46, 47, 48, 49, 50, 51, 39, 52, 53, 54, 55, 56, 57, 58, 59, 60, 61, 62, 63, 64, 65, 66, 67, 68, 69, 70, 71, 72, 73, 74, 75, 76, 77, 78, 79, 80, 81, 82, 83, 84, 85, 86, 99, 100, 101, 102, 103, 104, 105, 106, 107, 108, 109, 110] (by decide +kernel) (by decide +kernel)
set_option maxRecDepth 20000 in
theorem gX7_passMinute_X7_toil : GoodIn wsX7_passMinute (wsV RX7 336 RX7 yX7_toil wsX7_toil) := goodIn_app (goodIn_of _ (by decide +kernel)) ggX7_passMinute_X7_toil
theorem dX7_passMinute_0 : decode cX7_passMinute 0 = .ok (.aload_n 0, 1) := by decide +kernel
theorem dX7_passMinute_1 : decode cX7_passMinute 1 = .ok (.dup, 1) := by decide +kernel
theorem dX7_passMinute_2 : decode cX7_passMinute 2 = .ok (.getfield 44, 3) := by decide +kernel
theorem dX7_passMinute_5 : decode cX7_passMinute 5 = .ok (.iconst 1, 1) := by decide +kernel
theorem dX7_passMinute_6 : decode cX7_passMinute 6 = .ok (.iadd, 1) := by decide +kernel
theorem dX7_passMinute_7 : decode cX7_passMinute 7 = .ok (.putfield 44, 3) := by decide +kernel
theorem dX7_passMinute_10 : decode cX7_passMinute 10 = .ok (.iconst 0, 1) := by decide +kernel
theorem dX7_passMinute_11 : decode cX7_passMinute 11 = .ok (.istore_n 1, 1) := by decide +kernel
theorem dX7_passMinute_12 : decode cX7_passMinute 12 = .ok (.iload_n 1, 1) := by decide +kernel
theorem dX7_passMinute_13 : decode cX7_passMinute 13 = .ok (.bipush 6, 2) := by decide +kernel
theorem dX7_passMinute_15 : decode cX7_passMinute 15 = .ok (.if_icmp .ge 70, 3) := by decide +kernel
theorem dX7_passMinute_18 : decode cX7_passMinute 18 = .ok (.aload_n 0, 1) := by decide +kernel
theorem dX7_passMinute_19 : decode cX7_passMinute 19 = .ok (.getfield 19, 3) := by decide +kernel
theorem dX7_passMinute_22 : decode cX7_passMinute 22 = .ok (.getfield 136, 3) := by decide +kernel
theorem dX7_passMinute_25 : decode cX7_passMinute 25 = .ok (.iload_n 1, 1) := by decide +kernel
theorem dX7_passMinute_26 : decode cX7_passMinute 26 = .ok (.iaload, 1) := by decide +kernel
theorem dX7_passMinute_27 : decode cX7_passMinute 27 = .ok (.ifCond .eq 10, 3) := by decide +kernel
theorem dX7_passMinute_30 : decode cX7_passMinute 30 = .ok (.aload_n 0, 1) := by decide +kernel
theorem dX7_passMinute_31 : decode cX7_passMinute 31 = .ok (.getfield 12, 3) := by decide +kernel
theorem dX7_passMinute_34 : decode cX7_passMinute 34 = .ok (.invokevirtual 330, 3) := by decide +kernel
theorem dX7_passMinute_37 : decode cX7_passMinute 37 = .ok (.aload_n 0, 1) := by decide +kernel
theorem dX7_passMinute_38 : decode cX7_passMinute 38 = .ok (.getfield 19, 3) := by decide +kernel
theorem dX7_passMinute_41 : decode cX7_passMinute 41 = .ok (.getfield 136, 3) := by decide +kernel
theorem dX7_passMinute_44 : decode cX7_passMinute 44 = .ok (.iload_n 1, 1) := by decide +kernel
theorem dX7_passMinute_45 : decode cX7_passMinute 45 = .ok (.iaload, 1) := by decide +kernel
theorem dX7_passMinute_46 : decode cX7_passMinute 46 = .ok (.iconst 2, 1) := by decide +kernel
theorem dX7_passMinute_47 : decode cX7_passMinute 47 = .ok (.if_icmp .ne 32, 3) := by decide +kernel
theorem dX7_passMinute_50 : decode cX7_passMinute 50 = .ok (.aload_n 0, 1) := by decide +kernel
theorem dX7_passMinute_51 : decode cX7_passMinute 51 = .ok (.getfield 19, 3) := by decide +kernel
theorem dX7_passMinute_54 : decode cX7_passMinute 54 = .ok (.iload_n 1, 1) := by decide +kernel
theorem dX7_passMinute_55 : decode cX7_passMinute 55 = .ok (.invokevirtual 333, 3) := by decide +kernel
theorem dX7_passMinute_58 : decode cX7_passMinute 58 = .ok (.ifCond .eq 16, 3) := by decide +kernel
theorem dX7_passMinute_61 : decode cX7_passMinute 61 = .ok (.aload_n 0, 1) := by decide +kernel
theorem dX7_passMinute_62 : decode cX7_passMinute 62 = .ok (.getfield 12, 3) := by decide +kernel
theorem dX7_passMinute_65 : decode cX7_passMinute 65 = .ok (.dup, 1) := by decide +kernel
theorem dX7_passMinute_66 : decode cX7_passMinute 66 = .ok (.getfield 95, 3) := by decide +kernel
theorem dX7_passMinute_69 : decode cX7_passMinute 69 = .ok (.iconst 1, 1) := by decide +kernel
theorem dX7_passMinute_70 : decode cX7_passMinute 70 = .ok (.iadd, 1) := by decide +kernel
theorem dX7_passMinute_71 : decode cX7_passMinute 71 = .ok (.putfield 95, 3) := by decide +kernel
theorem dX7_passMinute_74 : decode cX7_passMinute 74 = .ok (.aload_n 0, 1) := by decide +kernel
theorem dX7_passMinute_75 : decode cX7_passMinute 75 = .ok (.iload_n 1, 1) := by decide +kernel
theorem dX7_passMinute_76 : decode cX7_passMinute 76 = .ok (.invokevirtual 336, 3) := by decide +kernel
theorem dX7_passMinute_79 : decode cX7_passMinute 79 = .ok (.iinc 1 1, 3) := by decide +kernel
theorem dX7_passMinute_82 : decode cX7_passMinute 82 = .ok (.goto (-70), 3) := by decide +kernel
theorem dX7_passMinute_85 : decode cX7_passMinute 85 = .ok (.return_, 1) := by decide +kernel
set_option maxRecDepth 20000 in
theorem ggX7_toil_X6_has : GoodIn wsX7_toil wsX6_has := goodIn_r _ [10, 11, 12, 13, 14, 49, 50, 51, 52, 53, 54, 55, 56, 57, 58, 59, 60] (by decide +kernel) (by decide +kernel)
set_option maxRecDepth 20000 in
theorem gX7_toil_X6_has : GoodIn wsX7_toil (wsV RX7 191 RX6 yX6_has wsX6_has) := goodIn_app (goodIn_of _ (by decide +kernel)) ggX7_toil_X6_has
set_option maxRecDepth 20000 in
theorem ggX7_toil_X6_canBeWorked : GoodIn wsX7_toil wsX6_canBeWorked := goodIn_r _ [18, 19, 20, 21, 22, 23, 9, 24, 25, 26, 13, 27, 49, 50, 51, 52, 53, 54, 55, 56, 57, 58, 59, 60] (by decide +kernel) (by decide +kernel)
set_option maxRecDepth 20000 in
theorem gX7_toil_X6_canBeWorked : GoodIn wsX7_toil (wsV RX7 338 RX6 yX6_canBeWorked wsX6_canBeWorked) := goodIn_app (goodIn_of _ (by decide +kernel)) ggX7_toil_X6_canBeWorked
set_option maxRecDepth 20000 in
theorem ggX7_toil_X6_workMinute : GoodIn wsX7_toil wsX6_workMinute := goodIn_r _ [31, 32, 33, 19, 34, 49, 50, 51, 52, 53, 54, 55, 56, 57, 58, 59, 60] (by decide +kernel) (by decide +kernel)
set_option maxRecDepth 20000 in
theorem gX7_toil_X6_workMinute : GoodIn wsX7_toil (wsV RX7 341 RX6 yX6_workMinute wsX6_workMinute) := goodIn_app (goodIn_of _ (by decide +kernel)) ggX7_toil_X6_workMinute
theorem dX7_toil_0 : decode cX7_toil 0 = .ok (.aload_n 0, 1) := by decide +kernel
theorem dX7_toil_1 : decode cX7_toil 1 = .ok (.getfield 19, 3) := by decide +kernel
theorem dX7_toil_4 : decode cX7_toil 4 = .ok (.getfield 181, 3) := by decide +kernel
theorem dX7_toil_7 : decode cX7_toil 7 = .ok (.iload_n 1, 1) := by decide +kernel
theorem dX7_toil_8 : decode cX7_toil 8 = .ok (.iaload, 1) := by decide +kernel
theorem dX7_toil_9 : decode cX7_toil 9 = .ok (.istore_n 2, 1) := by decide +kernel
theorem dX7_toil_10 : decode cX7_toil 10 = .ok (.aload_n 0, 1) := by decide +kernel
theorem dX7_toil_11 : decode cX7_toil 11 = .ok (.getfield 26, 3) := by decide +kernel
theorem dX7_toil_14 : decode cX7_toil 14 = .ok (.iload_n 2, 1) := by decide +kernel
theorem dX7_toil_15 : decode cX7_toil 15 = .ok (.invokevirtual 191, 3) := by decide +kernel
theorem dX7_toil_18 : decode cX7_toil 18 = .ok (.ifCond .ne 4, 3) := by decide +kernel
theorem dX7_toil_21 : decode cX7_toil 21 = .ok (.return_, 1) := by decide +kernel
theorem dX7_toil_22 : decode cX7_toil 22 = .ok (.aload_n 0, 1) := by decide +kernel
theorem dX7_toil_23 : decode cX7_toil 23 = .ok (.getfield 26, 3) := by decide +kernel
theorem dX7_toil_26 : decode cX7_toil 26 = .ok (.getfield 215, 3) := by decide +kernel
theorem dX7_toil_29 : decode cX7_toil 29 = .ok (.iload_n 2, 1) := by decide +kernel
theorem dX7_toil_30 : decode cX7_toil 30 = .ok (.iaload, 1) := by decide +kernel
theorem dX7_toil_31 : decode cX7_toil 31 = .ok (.aload_n 0, 1) := by decide +kernel
theorem dX7_toil_32 : decode cX7_toil 32 = .ok (.getfield 19, 3) := by decide +kernel
theorem dX7_toil_35 : decode cX7_toil 35 = .ok (.getfield 175, 3) := by decide +kernel
theorem dX7_toil_38 : decode cX7_toil 38 = .ok (.iload_n 1, 1) := by decide +kernel
theorem dX7_toil_39 : decode cX7_toil 39 = .ok (.iaload, 1) := by decide +kernel
theorem dX7_toil_40 : decode cX7_toil 40 = .ok (.if_icmp .ne 22, 3) := by decide +kernel
theorem dX7_toil_43 : decode cX7_toil 43 = .ok (.aload_n 0, 1) := by decide +kernel
theorem dX7_toil_44 : decode cX7_toil 44 = .ok (.getfield 26, 3) := by decide +kernel
theorem dX7_toil_47 : decode cX7_toil 47 = .ok (.iload_n 2, 1) := by decide +kernel
theorem dX7_toil_48 : decode cX7_toil 48 = .ok (.invokevirtual 338, 3) := by decide +kernel
theorem dX7_toil_51 : decode cX7_toil 51 = .ok (.ifCond .eq 11, 3) := by decide +kernel
theorem dX7_toil_54 : decode cX7_toil 54 = .ok (.aload_n 0, 1) := by decide +kernel
theorem dX7_toil_55 : decode cX7_toil 55 = .ok (.getfield 26, 3) := by decide +kernel
theorem dX7_toil_58 : decode cX7_toil 58 = .ok (.iload_n 2, 1) := by decide +kernel
theorem dX7_toil_59 : decode cX7_toil 59 = .ok (.invokevirtual 341, 3) := by decide +kernel
theorem dX7_toil_62 : decode cX7_toil 62 = .ok (.return_, 1) := by decide +kernel
theorem dX7_within_0 : decode cX7_within 0 = .ok (.iload_n 0, 1) := by decide +kernel
theorem dX7_within_1 : decode cX7_within 1 = .ok (.iload_n 1, 1) := by decide +kernel
theorem dX7_within_2 : decode cX7_within 2 = .ok (.if_icmp .lt 12, 3) := by decide +kernel
theorem dX7_within_5 : decode cX7_within 5 = .ok (.iload_n 0, 1) := by decide +kernel
theorem dX7_within_6 : decode cX7_within 6 = .ok (.iload_n 2, 1) := by decide +kernel
theorem dX7_within_7 : decode cX7_within 7 = .ok (.if_icmp .gt 7, 3) := by decide +kernel
theorem dX7_within_10 : decode cX7_within 10 = .ok (.iconst 1, 1) := by decide +kernel
theorem dX7_within_11 : decode cX7_within 11 = .ok (.goto 4, 3) := by decide +kernel
theorem dX7_within_14 : decode cX7_within 14 = .ok (.iconst 0, 1) := by decide +kernel
theorem dX7_within_15 : decode cX7_within 15 = .ok (.ireturn, 1) := by decide +kernel
set_option maxRecDepth 20000 in
theorem ggX7_isMan_X7_within : GoodIn wsX7_isMan wsX7_within := goodIn_r _ [4] (by decide +kernel) (by decide +kernel)
set_option maxRecDepth 20000 in
theorem gX7_isMan_X7_within : GoodIn wsX7_isMan (va_wsS RX7 48 yX7_within wsX7_within) := goodIn_app (goodIn_of _ (by decide +kernel)) ggX7_isMan_X7_within
theorem dX7_isMan_0 : decode cX7_isMan 0 = .ok (.iload_n 0, 1) := by decide +kernel
theorem dX7_isMan_1 : decode cX7_isMan 1 = .ok (.iconst 0, 1) := by decide +kernel
theorem dX7_isMan_2 : decode cX7_isMan 2 = .ok (.iconst 5, 1) := by decide +kernel
theorem dX7_isMan_3 : decode cX7_isMan 3 = .ok (.invokestatic 48, 3) := by decide +kernel
theorem dX7_isMan_6 : decode cX7_isMan 6 = .ok (.ireturn, 1) := by decide +kernel
set_option maxRecDepth 20000 in
theorem ggX7_isHose_X7_within : GoodIn wsX7_isHose wsX7_within := goodIn_r _ [4] (by decide +kernel) (by decide +kernel)
set_option maxRecDepth 20000 in
theorem gX7_isHose_X7_within : GoodIn wsX7_isHose (va_wsS RX7 48 yX7_within wsX7_within) := goodIn_app (goodIn_of _ (by decide +kernel)) ggX7_isHose_X7_within
theorem dX7_isHose_0 : decode cX7_isHose 0 = .ok (.iload_n 0, 1) := by decide +kernel
theorem dX7_isHose_1 : decode cX7_isHose 1 = .ok (.iconst 0, 1) := by decide +kernel
theorem dX7_isHose_2 : decode cX7_isHose 2 = .ok (.iconst 2, 1) := by decide +kernel
theorem dX7_isHose_3 : decode cX7_isHose 3 = .ok (.invokestatic 48, 3) := by decide +kernel
theorem dX7_isHose_6 : decode cX7_isHose 6 = .ok (.ireturn, 1) := by decide +kernel
set_option maxRecDepth 20000 in
theorem ggX7_isSquare_X7_within : GoodIn wsX7_isSquare wsX7_within := goodIn_r _ [4] (by decide +kernel) (by decide +kernel)
set_option maxRecDepth 20000 in
theorem gX7_isSquare_X7_within : GoodIn wsX7_isSquare (va_wsS RX7 48 yX7_within wsX7_within) := goodIn_app (goodIn_of _ (by decide +kernel)) ggX7_isSquare_X7_within
theorem dX7_isSquare_0 : decode cX7_isSquare 0 = .ok (.iload_n 0, 1) := by decide +kernel
theorem dX7_isSquare_1 : decode cX7_isSquare 1 = .ok (.iconst 0, 1) := by decide +kernel
theorem dX7_isSquare_2 : decode cX7_isSquare 2 = .ok (.bipush 48, 2) := by decide +kernel
theorem dX7_isSquare_4 : decode cX7_isSquare 4 = .ok (.invokestatic 48, 3) := by decide +kernel
theorem dX7_isSquare_7 : decode cX7_isSquare 7 = .ok (.ireturn, 1) := by decide +kernel
theorem dX7_bit_0 : decode cX7_bit 0 = .ok (.iload_n 0, 1) := by decide +kernel
theorem dX7_bit_1 : decode cX7_bit 1 = .ok (.iload_n 1, 1) := by decide +kernel
theorem dX7_bit_2 : decode cX7_bit 2 = .ok (.ishr, 1) := by decide +kernel
theorem dX7_bit_3 : decode cX7_bit 3 = .ok (.iconst 1, 1) := by decide +kernel
theorem dX7_bit_4 : decode cX7_bit 4 = .ok (.iand, 1) := by decide +kernel
theorem dX7_bit_5 : decode cX7_bit 5 = .ok (.ireturn, 1) := by decide +kernel
set_option maxRecDepth 20000 in
theorem ggX7_distance_X7_apart : GoodIn wsX7_distance wsX7_apart := goodIn_r _ [4, 5, 6, 7, 8] (by decide +kernel) (by decide +kernel)
set_option maxRecDepth 20000 in
theorem gX7_distance_X7_apart : GoodIn wsX7_distance (va_wsS RX7 344 yX7_apart wsX7_apart) := goodIn_app (goodIn_of _ (by decide +kernel)) ggX7_distance_X7_apart
theorem dX7_distance_0 : decode cX7_distance 0 = .ok (.iload_n 0, 1) := by decide +kernel
theorem dX7_distance_1 : decode cX7_distance 1 = .ok (.bipush 7, 2) := by decide +kernel
theorem dX7_distance_3 : decode cX7_distance 3 = .ok (.irem, 1) := by decide +kernel
theorem dX7_distance_4 : decode cX7_distance 4 = .ok (.iload_n 0, 1) := by decide +kernel
theorem dX7_distance_5 : decode cX7_distance 5 = .ok (.bipush 7, 2) := by decide +kernel
theorem dX7_distance_7 : decode cX7_distance 7 = .ok (.idiv, 1) := by decide +kernel
theorem dX7_distance_8 : decode cX7_distance 8 = .ok (.iload_n 1, 1) := by decide +kernel
theorem dX7_distance_9 : decode cX7_distance 9 = .ok (.bipush 7, 2) := by decide +kernel
theorem dX7_distance_11 : decode cX7_distance 11 = .ok (.irem, 1) := by decide +kernel
theorem dX7_distance_12 : decode cX7_distance 12 = .ok (.iload_n 1, 1) := by decide +kernel
theorem dX7_distance_13 : decode cX7_distance 13 = .ok (.bipush 7, 2) := by decide +kernel
theorem dX7_distance_15 : decode cX7_distance 15 = .ok (.idiv, 1) := by decide +kernel
theorem dX7_distance_16 : decode cX7_distance 16 = .ok (.invokestatic 344, 3) := by decide +kernel
theorem dX7_distance_19 : decode cX7_distance 19 = .ok (.ireturn, 1) := by decide +kernel
theorem dX7_apart_0 : decode cX7_apart 0 = .ok (.iload_n 0, 1) := by decide +kernel
theorem dX7_apart_1 : decode cX7_apart 1 = .ok (.iload_n 2, 1) := by decide +kernel
theorem dX7_apart_2 : decode cX7_apart 2 = .ok (.isub, 1) := by decide +kernel
theorem dX7_apart_3 : decode cX7_apart 3 = .ok (.invokestatic 347, 3) := by decide +kernel
theorem dX7_apart_6 : decode cX7_apart 6 = .ok (.iload_n 1, 1) := by decide +kernel
theorem dX7_apart_7 : decode cX7_apart 7 = .ok (.iload_n 3, 1) := by decide +kernel
theorem dX7_apart_8 : decode cX7_apart 8 = .ok (.isub, 1) := by decide +kernel
theorem dX7_apart_9 : decode cX7_apart 9 = .ok (.invokestatic 347, 3) := by decide +kernel
theorem dX7_apart_12 : decode cX7_apart 12 = .ok (.iadd, 1) := by decide +kernel
theorem dX7_apart_13 : decode cX7_apart 13 = .ok (.ireturn, 1) := by decide +kernel
theorem dX8_init_0 : decode cX8_init 0 = .ok (.aload_n 0, 1) := by decide +kernel
theorem dX8_init_1 : decode cX8_init 1 = .ok (.invokespecial 1, 3) := by decide +kernel
theorem dX8_init_4 : decode cX8_init 4 = .ok (.aload_n 0, 1) := by decide +kernel
theorem dX8_init_5 : decode cX8_init 5 = .ok (.sipush 1000, 3) := by decide +kernel
theorem dX8_init_8 : decode cX8_init 8 = .ok (.putfield 7, 3) := by decide +kernel
theorem dX8_init_11 : decode cX8_init 11 = .ok (.aload_n 0, 1) := by decide +kernel
theorem dX8_init_12 : decode cX8_init 12 = .ok (.sipush 1000, 3) := by decide +kernel
theorem dX8_init_15 : decode cX8_init 15 = .ok (.putfield 13, 3) := by decide +kernel
theorem dX8_init_18 : decode cX8_init 18 = .ok (.aload_n 0, 1) := by decide +kernel
theorem dX8_init_19 : decode cX8_init 19 = .ok (.sipush 1000, 3) := by decide +kernel
theorem dX8_init_22 : decode cX8_init 22 = .ok (.putfield 16, 3) := by decide +kernel
theorem dX8_init_25 : decode cX8_init 25 = .ok (.aload_n 0, 1) := by decide +kernel
theorem dX8_init_26 : decode cX8_init 26 = .ok (.iconst 3, 1) := by decide +kernel
theorem dX8_init_27 : decode cX8_init 27 = .ok (.putfield 19, 3) := by decide +kernel
theorem dX8_init_30 : decode cX8_init 30 = .ok (.aload_n 0, 1) := by decide +kernel
theorem dX8_init_31 : decode cX8_init 31 = .ok (.bipush 40, 2) := by decide +kernel
theorem dX8_init_33 : decode cX8_init 33 = .ok (.putfield 22, 3) := by decide +kernel
theorem dX8_init_36 : decode cX8_init 36 = .ok (.aload_n 0, 1) := by decide +kernel
theorem dX8_init_37 : decode cX8_init 37 = .ok (.bipush 10, 2) := by decide +kernel
theorem dX8_init_39 : decode cX8_init 39 = .ok (.putfield 25, 3) := by decide +kernel
theorem dX8_init_42 : decode cX8_init 42 = .ok (.aload_n 0, 1) := by decide +kernel
theorem dX8_init_43 : decode cX8_init 43 = .ok (.bipush 24, 2) := by decide +kernel
theorem dX8_init_45 : decode cX8_init 45 = .ok (.putfield 28, 3) := by decide +kernel
theorem dX8_init_48 : decode cX8_init 48 = .ok (.aload_n 0, 1) := by decide +kernel
theorem dX8_init_49 : decode cX8_init 49 = .ok (.bipush 6, 2) := by decide +kernel
theorem dX8_init_51 : decode cX8_init 51 = .ok (.newarray .int, 2) := by decide +kernel
theorem dX8_init_53 : decode cX8_init 53 = .ok (.putfield 31, 3) := by decide +kernel
theorem dX8_init_56 : decode cX8_init 56 = .ok (.aload_n 0, 1) := by decide +kernel
theorem dX8_init_57 : decode cX8_init 57 = .ok (.bipush 6, 2) := by decide +kernel
theorem dX8_init_59 : decode cX8_init 59 = .ok (.newarray .int, 2) := by decide +kernel
theorem dX8_init_61 : decode cX8_init 61 = .ok (.putfield 35, 3) := by decide +kernel
theorem dX8_init_64 : decode cX8_init 64 = .ok (.aload_n 0, 1) := by decide +kernel
theorem dX8_init_65 : decode cX8_init 65 = .ok (.bipush 6, 2) := by decide +kernel
theorem dX8_init_67 : decode cX8_init 67 = .ok (.newarray .int, 2) := by decide +kernel
theorem dX8_init_69 : decode cX8_init 69 = .ok (.putfield 38, 3) := by decide +kernel
theorem dX8_init_72 : decode cX8_init 72 = .ok (.aload_n 0, 1) := by decide +kernel
theorem dX8_init_73 : decode cX8_init 73 = .ok (.bipush 6, 2) := by decide +kernel
theorem dX8_init_75 : decode cX8_init 75 = .ok (.newarray .int, 2) := by decide +kernel
theorem dX8_init_77 : decode cX8_init 77 = .ok (.putfield 41, 3) := by decide +kernel
theorem dX8_init_80 : decode cX8_init 80 = .ok (.aload_n 0, 1) := by decide +kernel
theorem dX8_init_81 : decode cX8_init 81 = .ok (.bipush 6, 2) := by decide +kernel
theorem dX8_init_83 : decode cX8_init 83 = .ok (.newarray .int, 2) := by decide +kernel
theorem dX8_init_85 : decode cX8_init 85 = .ok (.putfield 44, 3) := by decide +kernel
theorem dX8_init_88 : decode cX8_init 88 = .ok (.aload_n 0, 1) := by decide +kernel
theorem dX8_init_89 : decode cX8_init 89 = .ok (.iconst 3, 1) := by decide +kernel
theorem dX8_init_90 : decode cX8_init 90 = .ok (.newarray .int, 2) := by decide +kernel
theorem dX8_init_92 : decode cX8_init 92 = .ok (.putfield 47, 3) := by decide +kernel
theorem dX8_init_95 : decode cX8_init 95 = .ok (.aload_n 0, 1) := by decide +kernel
theorem dX8_init_96 : decode cX8_init 96 = .ok (.bipush 60, 2) := by decide +kernel
theorem dX8_init_98 : decode cX8_init 98 = .ok (.newarray .int, 2) := by decide +kernel
theorem dX8_init_100 : decode cX8_init 100 = .ok (.putfield 50, 3) := by decide +kernel
theorem dX8_init_103 : decode cX8_init 103 = .ok (.aload_n 0, 1) := by decide +kernel
theorem dX8_init_104 : decode cX8_init 104 = .ok (.bipush 12, 2) := by decide +kernel
theorem dX8_init_106 : decode cX8_init 106 = .ok (.newarray .int, 2) := by decide +kernel
theorem dX8_init_108 : decode cX8_init 108 = .ok (.putfield 53, 3) := by decide +kernel
theorem dX8_init_111 : decode cX8_init 111 = .ok (.aload_n 0, 1) := by decide +kernel
theorem dX8_init_112 : decode cX8_init 112 = .ok (.iconst 5, 1) := by decide +kernel
theorem dX8_init_113 : decode cX8_init 113 = .ok (.newarray .int, 2) := by decide +kernel
theorem dX8_init_115 : decode cX8_init 115 = .ok (.putfield 56, 3) := by decide +kernel
theorem dX8_init_118 : decode cX8_init 118 = .ok (.aload_n 0, 1) := by decide +kernel
theorem dX8_init_119 : decode cX8_init 119 = .ok (.bipush 12, 2) := by decide +kernel
theorem dX8_init_121 : decode cX8_init 121 = .ok (.newarray .int, 2) := by decide +kernel
theorem dX8_init_123 : decode cX8_init 123 = .ok (.putfield 59, 3) := by decide +kernel
theorem dX8_init_126 : decode cX8_init 126 = .ok (.aload_n 0, 1) := by decide +kernel
theorem dX8_init_127 : decode cX8_init 127 = .ok (.bipush 12, 2) := by decide +kernel
theorem dX8_init_129 : decode cX8_init 129 = .ok (.newarray .int, 2) := by decide +kernel
theorem dX8_init_131 : decode cX8_init 131 = .ok (.putfield 62, 3) := by decide +kernel
theorem dX8_init_134 : decode cX8_init 134 = .ok (.aload_n 0, 1) := by decide +kernel
theorem dX8_init_135 : decode cX8_init 135 = .ok (.iconst 4, 1) := by decide +kernel
theorem dX8_init_136 : decode cX8_init 136 = .ok (.newarray .int, 2) := by decide +kernel
theorem dX8_init_138 : decode cX8_init 138 = .ok (.putfield 65, 3) := by decide +kernel
theorem dX8_init_141 : decode cX8_init 141 = .ok (.aload_n 0, 1) := by decide +kernel
theorem dX8_init_142 : decode cX8_init 142 = .ok (.iconst 4, 1) := by decide +kernel
theorem dX8_init_143 : decode cX8_init 143 = .ok (.newarray .int, 2) := by decide +kernel
theorem dX8_init_145 : decode cX8_init 145 = .ok (.putfield 68, 3) := by decide +kernel
theorem dX8_init_148 : decode cX8_init 148 = .ok (.aload_n 0, 1) := by decide +kernel
theorem dX8_init_149 : decode cX8_init 149 = .ok (.bipush 40, 2) := by decide +kernel
theorem dX8_init_151 : decode cX8_init 151 = .ok (.newarray .int, 2) := by decide +kernel
theorem dX8_init_153 : decode cX8_init 153 = .ok (.putfield 71, 3) := by decide +kernel
theorem dX8_init_156 : decode cX8_init 156 = .ok (.aload_n 0, 1) := by decide +kernel
theorem dX8_init_157 : decode cX8_init 157 = .ok (.bipush 40, 2) := by decide +kernel
theorem dX8_init_159 : decode cX8_init 159 = .ok (.newarray .int, 2) := by decide +kernel
theorem dX8_init_161 : decode cX8_init 161 = .ok (.putfield 74, 3) := by decide +kernel
theorem dX8_init_164 : decode cX8_init 164 = .ok (.aload_n 0, 1) := by decide +kernel
theorem dX8_init_165 : decode cX8_init 165 = .ok (.bipush 40, 2) := by decide +kernel
theorem dX8_init_167 : decode cX8_init 167 = .ok (.newarray .int, 2) := by decide +kernel
theorem dX8_init_169 : decode cX8_init 169 = .ok (.putfield 77, 3) := by decide +kernel
theorem dX8_init_172 : decode cX8_init 172 = .ok (.aload_n 0, 1) := by decide +kernel
theorem dX8_init_173 : decode cX8_init 173 = .ok (.sipush 4096, 3) := by decide +kernel
theorem dX8_init_176 : decode cX8_init 176 = .ok (.newarray .int, 2) := by decide +kernel
theorem dX8_init_178 : decode cX8_init 178 = .ok (.putfield 80, 3) := by decide +kernel
theorem dX8_init_181 : decode cX8_init 181 = .ok (.aload_n 0, 1) := by decide +kernel
theorem dX8_init_182 : decode cX8_init 182 = .ok (.bipush 12, 2) := by decide +kernel
theorem dX8_init_184 : decode cX8_init 184 = .ok (.newarray .int, 2) := by decide +kernel
theorem dX8_init_186 : decode cX8_init 186 = .ok (.putfield 83, 3) := by decide +kernel
theorem dX8_init_189 : decode cX8_init 189 = .ok (.aload_n 0, 1) := by decide +kernel
theorem dX8_init_190 : decode cX8_init 190 = .ok (.bipush 12, 2) := by decide +kernel
theorem dX8_init_192 : decode cX8_init 192 = .ok (.newarray .int, 2) := by decide +kernel
theorem dX8_init_194 : decode cX8_init 194 = .ok (.putfield 86, 3) := by decide +kernel
theorem dX8_init_197 : decode cX8_init 197 = .ok (.iconst 0, 1) := by decide +kernel
theorem dX8_init_198 : decode cX8_init 198 = .ok (.istore_n 1, 1) := by decide +kernel
theorem dX8_init_199 : decode cX8_init 199 = .ok (.iload_n 1, 1) := by decide +kernel
theorem dX8_init_200 : decode cX8_init 200 = .ok (.bipush 6, 2) := by decide +kernel
theorem dX8_init_202 : decode cX8_init 202 = .ok (.if_icmp .ge 17, 3) := by decide +kernel
theorem dX8_init_205 : decode cX8_init 205 = .ok (.aload_n 0, 1) := by decide +kernel
theorem dX8_init_206 : decode cX8_init 206 = .ok (.getfield 44, 3) := by decide +kernel
theorem dX8_init_209 : decode cX8_init 209 = .ok (.iload_n 1, 1) := by decide +kernel
theorem dX8_init_210 : decode cX8_init 210 = .ok (.bipush (-6), 2) := by decide +kernel
theorem dX8_init_212 : decode cX8_init 212 = .ok (.iastore, 1) := by decide +kernel
theorem dX8_init_213 : decode cX8_init 213 = .ok (.iinc 1 1, 3) := by decide +kernel
theorem dX8_init_216 : decode cX8_init 216 = .ok (.goto (-17), 3) := by decide +kernel
theorem dX8_init_219 : decode cX8_init 219 = .ok (.iconst 0, 1) := by decide +kernel
theorem dX8_init_220 : decode cX8_init 220 = .ok (.istore_n 1, 1) := by decide +kernel
theorem dX8_init_221 : decode cX8_init 221 = .ok (.iload_n 1, 1) := by decide +kernel
theorem dX8_init_222 : decode cX8_init 222 = .ok (.iconst 3, 1) := by decide +kernel
theorem dX8_init_223 : decode cX8_init 223 = .ok (.if_icmp .ge 16, 3) := by decide +kernel
theorem dX8_init_226 : decode cX8_init 226 = .ok (.aload_n 0, 1) := by decide +kernel
theorem dX8_init_227 : decode cX8_init 227 = .ok (.getfield 47, 3) := by decide +kernel
theorem dX8_init_230 : decode cX8_init 230 = .ok (.iload_n 1, 1) := by decide +kernel
theorem dX8_init_231 : decode cX8_init 231 = .ok (.iconst 4, 1) := by decide +kernel
theorem dX8_init_232 : decode cX8_init 232 = .ok (.iastore, 1) := by decide +kernel
theorem dX8_init_233 : decode cX8_init 233 = .ok (.iinc 1 1, 3) := by decide +kernel
theorem dX8_init_236 : decode cX8_init 236 = .ok (.goto (-15), 3) := by decide +kernel
theorem dX8_init_239 : decode cX8_init 239 = .ok (.return_, 1) := by decide +kernel
theorem dX8_in_0 : decode cX8_in 0 = .ok (.iload_n 0, 1) := by decide +kernel
theorem dX8_in_1 : decode cX8_in 1 = .ok (.iload_n 1, 1) := by decide +kernel
theorem dX8_in_2 : decode cX8_in 2 = .ok (.if_icmp .lt 12, 3) := by decide +kernel
theorem dX8_in_5 : decode cX8_in 5 = .ok (.iload_n 0, 1) := by decide +kernel
theorem dX8_in_6 : decode cX8_in 6 = .ok (.iload_n 2, 1) := by decide +kernel
theorem dX8_in_7 : decode cX8_in 7 = .ok (.if_icmp .gt 7, 3) := by decide +kernel
theorem dX8_in_10 : decode cX8_in 10 = .ok (.iconst 1, 1) := by decide +kernel
theorem dX8_in_11 : decode cX8_in 11 = .ok (.goto 4, 3) := by decide +kernel
theorem dX8_in_14 : decode cX8_in 14 = .ok (.iconst 0, 1) := by decide +kernel
theorem dX8_in_15 : decode cX8_in 15 = .ok (.ireturn, 1) := by decide +kernel
theorem dX8_most_0 : decode cX8_most 0 = .ok (.aload_n 0, 1) := by decide +kernel
theorem dX8_most_1 : decode cX8_most 1 = .ok (.getfield 7, 3) := by decide +kernel
theorem dX8_most_4 : decode cX8_most 4 = .ok (.bipush 10, 2) := by decide +kernel
theorem dX8_most_6 : decode cX8_most 6 = .ok (.aload_n 0, 1) := by decide +kernel
theorem dX8_most_7 : decode cX8_most 7 = .ok (.getfield 89, 3) := by decide +kernel
theorem dX8_most_10 : decode cX8_most 10 = .ok (.iadd, 1) := by decide +kernel
theorem dX8_most_11 : decode cX8_most 11 = .ok (.imul, 1) := by decide +kernel
theorem dX8_most_12 : decode cX8_most 12 = .ok (.bipush 10, 2) := by decide +kernel
theorem dX8_most_14 : decode cX8_most 14 = .ok (.idiv, 1) := by decide +kernel
theorem dX8_most_15 : decode cX8_most 15 = .ok (.ireturn, 1) := by decide +kernel
theorem dX8_all_0 : decode cX8_all 0 = .ok (.aload_n 0, 1) := by decide +kernel
theorem dX8_all_1 : decode cX8_all 1 = .ok (.getfield 13, 3) := by decide +kernel
theorem dX8_all_4 : decode cX8_all 4 = .ok (.aload_n 0, 1) := by decide +kernel
theorem dX8_all_5 : decode cX8_all 5 = .ok (.getfield 92, 3) := by decide +kernel
theorem dX8_all_8 : decode cX8_all 8 = .ok (.iadd, 1) := by decide +kernel
theorem dX8_all_9 : decode cX8_all 9 = .ok (.ireturn, 1) := by decide +kernel
set_option maxRecDepth 20000 in
theorem ggX8_spill_X8_all : GoodIn wsX8_spill wsX8_all := goodIn_r _ [8, 2, 1, 9, 10, 11, 12, 13, 14, 15, 16, 17, 18, 19, 20, 21, 22, 23, 24, 25, 26, 27, 28, 29, 30, 31, 32, 33, 34, 35, 36, 37, 38, 39, 40, 41, 42, 43, 44, 45, 46, 47, 48, 49, 50, 51, 52, 53, 54] (by decide +kernel) (by decide +kernel)
set_option maxRecDepth 20000 in
theorem gX8_spill_X8_all : GoodIn wsX8_spill (wsV RX8 95 RX8 yX8_all wsX8_all) := goodIn_app (goodIn_of _ (by decide +kernel)) ggX8_spill_X8_all
theorem dX8_spill_0 : decode cX8_spill 0 = .ok (.iload_n 1, 1) := by decide +kernel
theorem dX8_spill_1 : decode cX8_spill 1 = .ok (.ifCond .gt 5, 3) := by decide +kernel
theorem dX8_spill_4 : decode cX8_spill 4 = .ok (.iconst 0, 1) := by decide +kernel
theorem dX8_spill_5 : decode cX8_spill 5 = .ok (.ireturn, 1) := by decide +kernel
theorem dX8_spill_6 : decode cX8_spill 6 = .ok (.iload_n 1, 1) := by decide +kernel
theorem dX8_spill_7 : decode cX8_spill 7 = .ok (.aload_n 0, 1) := by decide +kernel
theorem dX8_spill_8 : decode cX8_spill 8 = .ok (.getfield 92, 3) := by decide +kernel
theorem dX8_spill_11 : decode cX8_spill 11 = .ok (.imul, 1) := by decide +kernel
theorem dX8_spill_12 : decode cX8_spill 12 = .ok (.aload_n 0, 1) := by decide +kernel
theorem dX8_spill_13 : decode cX8_spill 13 = .ok (.invokevirtual 95, 3) := by decide +kernel
theorem dX8_spill_16 : decode cX8_spill 16 = .ok (.idiv, 1) := by decide +kernel
theorem dX8_spill_17 : decode cX8_spill 17 = .ok (.istore_n 2, 1) := by decide +kernel
theorem dX8_spill_18 : decode cX8_spill 18 = .ok (.aload_n 0, 1) := by decide +kernel
theorem dX8_spill_19 : decode cX8_spill 19 = .ok (.dup, 1) := by decide +kernel
theorem dX8_spill_20 : decode cX8_spill 20 = .ok (.getfield 92, 3) := by decide +kernel
theorem dX8_spill_23 : decode cX8_spill 23 = .ok (.iload_n 2, 1) := by decide +kernel
theorem dX8_spill_24 : decode cX8_spill 24 = .ok (.isub, 1) := by decide +kernel
theorem dX8_spill_25 : decode cX8_spill 25 = .ok (.putfield 92, 3) := by decide +kernel
theorem dX8_spill_28 : decode cX8_spill 28 = .ok (.aload_n 0, 1) := by decide +kernel
theorem dX8_spill_29 : decode cX8_spill 29 = .ok (.dup, 1) := by decide +kernel
theorem dX8_spill_30 : decode cX8_spill 30 = .ok (.getfield 13, 3) := by decide +kernel
theorem dX8_spill_33 : decode cX8_spill 33 = .ok (.iload_n 1, 1) := by decide +kernel
theorem dX8_spill_34 : decode cX8_spill 34 = .ok (.iload_n 2, 1) := by decide +kernel
theorem dX8_spill_35 : decode cX8_spill 35 = .ok (.isub, 1) := by decide +kernel
theorem dX8_spill_36 : decode cX8_spill 36 = .ok (.isub, 1) := by decide +kernel
theorem dX8_spill_37 : decode cX8_spill 37 = .ok (.putfield 13, 3) := by decide +kernel
theorem dX8_spill_40 : decode cX8_spill 40 = .ok (.aload_n 0, 1) := by decide +kernel
theorem dX8_spill_41 : decode cX8_spill 41 = .ok (.dup, 1) := by decide +kernel
theorem dX8_spill_42 : decode cX8_spill 42 = .ok (.getfield 99, 3) := by decide +kernel
theorem dX8_spill_45 : decode cX8_spill 45 = .ok (.iload_n 1, 1) := by decide +kernel
theorem dX8_spill_46 : decode cX8_spill 46 = .ok (.iadd, 1) := by decide +kernel
theorem dX8_spill_47 : decode cX8_spill 47 = .ok (.putfield 99, 3) := by decide +kernel
theorem dX8_spill_50 : decode cX8_spill 50 = .ok (.iload_n 1, 1) := by decide +kernel
theorem dX8_spill_51 : decode cX8_spill 51 = .ok (.ireturn, 1) := by decide +kernel
theorem dX8_outside_0 : decode cX8_outside 0 = .ok (.iconst 0, 1) := by decide +kernel
theorem dX8_outside_1 : decode cX8_outside 1 = .ok (.istore_n 1, 1) := by decide +kernel
theorem dX8_outside_2 : decode cX8_outside 2 = .ok (.iconst 0, 1) := by decide +kernel
theorem dX8_outside_3 : decode cX8_outside 3 = .ok (.istore_n 2, 1) := by decide +kernel
theorem dX8_outside_4 : decode cX8_outside 4 = .ok (.iload_n 2, 1) := by decide +kernel
theorem dX8_outside_5 : decode cX8_outside 5 = .ok (.bipush 6, 2) := by decide +kernel
theorem dX8_outside_7 : decode cX8_outside 7 = .ok (.if_icmp .ge 27, 3) := by decide +kernel
theorem dX8_outside_10 : decode cX8_outside 10 = .ok (.iload_n 1, 1) := by decide +kernel
theorem dX8_outside_11 : decode cX8_outside 11 = .ok (.aload_n 0, 1) := by decide +kernel
theorem dX8_outside_12 : decode cX8_outside 12 = .ok (.getfield 31, 3) := by decide +kernel
theorem dX8_outside_15 : decode cX8_outside 15 = .ok (.iload_n 2, 1) := by decide +kernel
theorem dX8_outside_16 : decode cX8_outside 16 = .ok (.iaload, 1) := by decide +kernel
theorem dX8_outside_17 : decode cX8_outside 17 = .ok (.iconst 2, 1) := by decide +kernel
theorem dX8_outside_18 : decode cX8_outside 18 = .ok (.if_icmp .ne 7, 3) := by decide +kernel
theorem dX8_outside_21 : decode cX8_outside 21 = .ok (.iconst 1, 1) := by decide +kernel
theorem dX8_outside_22 : decode cX8_outside 22 = .ok (.goto 4, 3) := by decide +kernel
theorem dX8_outside_25 : decode cX8_outside 25 = .ok (.iconst 0, 1) := by decide +kernel
theorem dX8_outside_26 : decode cX8_outside 26 = .ok (.iadd, 1) := by decide +kernel
theorem dX8_outside_27 : decode cX8_outside 27 = .ok (.istore_n 1, 1) := by decide +kernel
theorem dX8_outside_28 : decode cX8_outside 28 = .ok (.iinc 2 1, 3) := by decide +kernel
theorem dX8_outside_31 : decode cX8_outside 31 = .ok (.goto (-27), 3) := by decide +kernel
theorem dX8_outside_34 : decode cX8_outside 34 = .ok (.iload_n 1, 1) := by decide +kernel
theorem dX8_outside_35 : decode cX8_outside 35 = .ok (.ireturn, 1) := by decide +kernel
theorem dX8_breathing_0 : decode cX8_breathing 0 = .ok (.iconst 0, 1) := by decide +kernel
theorem dX8_breathing_1 : decode cX8_breathing 1 = .ok (.istore_n 1, 1) := by decide +kernel
theorem dX8_breathing_2 : decode cX8_breathing 2 = .ok (.iconst 0, 1) := by decide +kernel
theorem dX8_breathing_3 : decode cX8_breathing 3 = .ok (.istore_n 2, 1) := by decide +kernel
theorem dX8_breathing_4 : decode cX8_breathing 4 = .ok (.iload_n 2, 1) := by decide +kernel
theorem dX8_breathing_5 : decode cX8_breathing 5 = .ok (.bipush 6, 2) := by decide +kernel
theorem dX8_breathing_7 : decode cX8_breathing 7 = .ok (.if_icmp .ge 26, 3) := by decide +kernel
theorem dX8_breathing_10 : decode cX8_breathing 10 = .ok (.iload_n 1, 1) := by decide +kernel
theorem dX8_breathing_11 : decode cX8_breathing 11 = .ok (.aload_n 0, 1) := by decide +kernel
theorem dX8_breathing_12 : decode cX8_breathing 12 = .ok (.getfield 31, 3) := by decide +kernel
theorem dX8_breathing_15 : decode cX8_breathing 15 = .ok (.iload_n 2, 1) := by decide +kernel
theorem dX8_breathing_16 : decode cX8_breathing 16 = .ok (.iaload, 1) := by decide +kernel
theorem dX8_breathing_17 : decode cX8_breathing 17 = .ok (.ifCond .ne 7, 3) := by decide +kernel
theorem dX8_breathing_20 : decode cX8_breathing 20 = .ok (.iconst 0, 1) := by decide +kernel
theorem dX8_breathing_21 : decode cX8_breathing 21 = .ok (.goto 4, 3) := by decide +kernel
theorem dX8_breathing_24 : decode cX8_breathing 24 = .ok (.iconst 1, 1) := by decide +kernel
theorem dX8_breathing_25 : decode cX8_breathing 25 = .ok (.iadd, 1) := by decide +kernel
theorem dX8_breathing_26 : decode cX8_breathing 26 = .ok (.istore_n 1, 1) := by decide +kernel
theorem dX8_breathing_27 : decode cX8_breathing 27 = .ok (.iinc 2 1, 3) := by decide +kernel
theorem dX8_breathing_30 : decode cX8_breathing 30 = .ok (.goto (-26), 3) := by decide +kernel
theorem dX8_breathing_33 : decode cX8_breathing 33 = .ok (.iload_n 1, 1) := by decide +kernel
theorem dX8_breathing_34 : decode cX8_breathing 34 = .ok (.ireturn, 1) := by decide +kernel
set_option maxRecDepth 20000 in
theorem ggX8_room_X8_in : GoodIn wsX8_room wsX8_in := goodIn_r _ [14] (by decide +kernel) (by decide +kernel)
set_option maxRecDepth 20000 in
theorem gX8_room_X8_in : GoodIn wsX8_room (va_wsS RX8 102 yX8_in wsX8_in) := goodIn_app (goodIn_of _ (by decide +kernel)) ggX8_room_X8_in
set_option maxRecDepth 20000 in
theorem ggX8_room_X8_breathing : GoodIn wsX8_room wsX8_breathing := goodIn_r _ [18, 19, 20, 21, 22, 23, 24, 25, 26, 27, 28, 29, 30, 31, 32, 33, 34, 35, 36, 37, 38, 39, 40, 41, 42, 43, 44, 45, 46, 47, 48, 49, 50, 51, 52, 53, 54, 55, 56, 57, 58, 59, 60, 61, 62, 63, 64, 65] (by decide +kernel) (by decide +kernel)
set_option maxRecDepth 20000 in
theorem gX8_room_X8_breathing : GoodIn wsX8_room (wsV RX8 106 RX8 yX8_breathing wsX8_breathing) := goodIn_app (goodIn_of _ (by decide +kernel)) ggX8_room_X8_breathing
theorem dX8_room_0 : decode cX8_room 0 = .ok (.iload_n 1, 1) := by decide +kernel
theorem dX8_room_1 : decode cX8_room 1 = .ok (.bipush 100, 2) := by decide +kernel
theorem dX8_room_3 : decode cX8_room 3 = .ok (.sipush 5000, 3) := by decide +kernel
theorem dX8_room_6 : decode cX8_room 6 = .ok (.invokestatic 102, 3) := by decide +kernel
theorem dX8_room_9 : decode cX8_room 9 = .ok (.ifCond .ne 6, 3) := by decide +kernel
theorem dX8_room_12 : decode cX8_room 12 = .ok (.bipush (-2), 2) := by decide +kernel
theorem dX8_room_14 : decode cX8_room 14 = .ok (.ireturn, 1) := by decide +kernel
theorem dX8_room_15 : decode cX8_room 15 = .ok (.aload_n 0, 1) := by decide +kernel
theorem dX8_room_16 : decode cX8_room 16 = .ok (.invokevirtual 106, 3) := by decide +kernel
theorem dX8_room_19 : decode cX8_room 19 = .ok (.ifCond .gt 10, 3) := by decide +kernel
theorem dX8_room_22 : decode cX8_room 22 = .ok (.aload_n 0, 1) := by decide +kernel
theorem dX8_room_23 : decode cX8_room 23 = .ok (.getfield 89, 3) := by decide +kernel
theorem dX8_room_26 : decode cX8_room 26 = .ok (.ifCond .le 6, 3) := by decide +kernel
theorem dX8_room_29 : decode cX8_room 29 = .ok (.bipush (-3), 2) := by decide +kernel
theorem dX8_room_31 : decode cX8_room 31 = .ok (.ireturn, 1) := by decide +kernel
theorem dX8_room_32 : decode cX8_room 32 = .ok (.aload_n 0, 1) := by decide +kernel
theorem dX8_room_33 : decode cX8_room 33 = .ok (.getfield 7, 3) := by decide +kernel
theorem dX8_room_36 : decode cX8_room 36 = .ok (.istore_n 2, 1) := by decide +kernel
theorem dX8_room_37 : decode cX8_room 37 = .ok (.aload_n 0, 1) := by decide +kernel
theorem dX8_room_38 : decode cX8_room 38 = .ok (.iload_n 1, 1) := by decide +kernel
theorem dX8_room_39 : decode cX8_room 39 = .ok (.putfield 7, 3) := by decide +kernel
theorem dX8_room_42 : decode cX8_room 42 = .ok (.aload_n 0, 1) := by decide +kernel
theorem dX8_room_43 : decode cX8_room 43 = .ok (.iload_n 1, 1) := by decide +kernel
theorem dX8_room_44 : decode cX8_room 44 = .ok (.putfield 13, 3) := by decide +kernel
theorem dX8_room_47 : decode cX8_room 47 = .ok (.aload_n 0, 1) := by decide +kernel
theorem dX8_room_48 : decode cX8_room 48 = .ok (.iconst 0, 1) := by decide +kernel
theorem dX8_room_49 : decode cX8_room 49 = .ok (.putfield 92, 3) := by decide +kernel
theorem dX8_room_52 : decode cX8_room 52 = .ok (.aload_n 0, 1) := by decide +kernel
theorem dX8_room_53 : decode cX8_room 53 = .ok (.iload_n 1, 1) := by decide +kernel
theorem dX8_room_54 : decode cX8_room 54 = .ok (.putfield 16, 3) := by decide +kernel
theorem dX8_room_57 : decode cX8_room 57 = .ok (.aload_n 0, 1) := by decide +kernel
theorem dX8_room_58 : decode cX8_room 58 = .ok (.iconst 0, 1) := by decide +kernel
theorem dX8_room_59 : decode cX8_room 59 = .ok (.putfield 109, 3) := by decide +kernel
theorem dX8_room_62 : decode cX8_room 62 = .ok (.aload_n 0, 1) := by decide +kernel
theorem dX8_room_63 : decode cX8_room 63 = .ok (.iconst 0, 1) := by decide +kernel
theorem dX8_room_64 : decode cX8_room 64 = .ok (.putfield 99, 3) := by decide +kernel
theorem dX8_room_67 : decode cX8_room 67 = .ok (.aload_n 0, 1) := by decide +kernel
theorem dX8_room_68 : decode cX8_room 68 = .ok (.iconst 0, 1) := by decide +kernel
theorem dX8_room_69 : decode cX8_room 69 = .ok (.putfield 112, 3) := by decide +kernel
theorem dX8_room_72 : decode cX8_room 72 = .ok (.aload_n 0, 1) := by decide +kernel
theorem dX8_room_73 : decode cX8_room 73 = .ok (.iconst 0, 1) := by decide +kernel
theorem dX8_room_74 : decode cX8_room 74 = .ok (.putfield 115, 3) := by decide +kernel
theorem dX8_room_77 : decode cX8_room 77 = .ok (.aload_n 0, 1) := by decide +kernel
theorem dX8_room_78 : decode cX8_room 78 = .ok (.iconst 0, 1) := by decide +kernel
theorem dX8_room_79 : decode cX8_room 79 = .ok (.putfield 118, 3) := by decide +kernel
theorem dX8_room_82 : decode cX8_room 82 = .ok (.iload_n 2, 1) := by decide +kernel
theorem dX8_room_83 : decode cX8_room 83 = .ok (.ireturn, 1) := by decide +kernel
set_option maxRecDepth 20000 in
theorem ggX8_depth_X8_in : GoodIn wsX8_depth wsX8_in := goodIn_r _ [5] (by decide +kernel) (by decide +kernel)
set_option maxRecDepth 20000 in
theorem gX8_depth_X8_in : GoodIn wsX8_depth (va_wsS RX8 102 yX8_in wsX8_in) := goodIn_app (goodIn_of _ (by decide +kernel)) ggX8_depth_X8_in
set_option maxRecDepth 20000 in
theorem ggX8_depth_X8_outside : GoodIn wsX8_depth wsX8_outside := goodIn_r _ [9, 10, 27, 28, 29, 30, 31, 32, 33, 34, 35, 36, 37, 38, 39, 40, 41, 42, 43, 44, 45, 46, 47, 48, 49, 50, 51, 52, 53, 54, 55, 56, 57, 58, 59, 60, 61, 62, 63, 64, 65, 66, 67, 68, 69, 70, 71, 72] (by decide +kernel) (by decide +kernel)
set_option maxRecDepth 20000 in
theorem gX8_depth_X8_outside : GoodIn wsX8_depth (wsV RX8 121 RX8 yX8_outside wsX8_outside) := goodIn_app (goodIn_of _ (by decide +kernel)) ggX8_depth_X8_outside
set_option maxRecDepth 20000 in
theorem ggX8_depth_X8_all : GoodIn wsX8_depth wsX8_all := goodIn_r _ [14, 15, 16, 27, 28, 29, 30, 31, 32, 33, 34, 35, 36, 37, 38, 39, 40, 41, 42, 43, 44, 45, 46, 47, 48, 49, 50, 51, 52, 53, 54, 55, 56, 57, 58, 59, 60, 61, 62, 63, 64, 65, 66, 67, 68, 69, 70, 71, 72] (by decide +kernel) (by decide +kernel)
set_option maxRecDepth 20000 in
theorem gX8_depth_X8_all : GoodIn wsX8_depth (wsV RX8 95 RX8 yX8_all wsX8_all) := goodIn_app (goodIn_of _ (by decide +kernel)) ggX8_depth_X8_all
set_option maxRecDepth 20000 in
theorem ggX8_depth_X8_most : GoodIn wsX8_depth wsX8_most := goodIn_r _ [20, 21, 1, 27, 28, 29, 30, 31, 32, 33, 34, 35, 36, 37, 38, 39, 40, 41, 42, 43, 44, 45, 46, 47, 48, 49, 50, 51, 52, 53, 54, 55, 56, 57, 58, 59, 60, 61, 62, 63, 64, 65, 66, 67, 68, 69, 70, 71, 72] (by decide +kernel) (by decide +kernel)
set_option maxRecDepth 20000 in
theorem gX8_depth_X8_most : GoodIn wsX8_depth (wsV RX8 124 RX8 yX8_most wsX8_most) := goodIn_app (goodIn_of _ (by decide +kernel)) ggX8_depth_X8_most
set_option maxRecDepth 20000 in
theorem ggX8_depth_X8_spill : GoodIn wsX8_depth wsX8_spill := goodIn_r _ [25, 16, 15, 26, 11, 12, 13, 4, 14, 27, 28, 29, 30, 31, 32, 33, 34, 35, 36, 37, 38, 39, 40, 41, 42, 43, 44, 45, 46, 47, 48, 49, 50, 51, 52, 53, 54, 55, 56, 57, 58, 59, 60, 61, 62, 63, 64, 65, 66, 67, 68, 69, 70, 71, 72] (by decide +kernel) (by decide +kernel)
set_option maxRecDepth 20000 in
theorem gX8_depth_X8_spill : GoodIn wsX8_depth (wsV RX8 127 RX8 yX8_spill wsX8_spill) := goodIn_app (goodIn_of _ (by decide +kernel)) ggX8_depth_X8_spill
theorem dX8_depth_0 : decode cX8_depth 0 = .ok (.iload_n 1, 1) := by decide +kernel
theorem dX8_depth_1 : decode cX8_depth 1 = .ok (.iconst 0, 1) := by decide +kernel
theorem dX8_depth_2 : decode cX8_depth 2 = .ok (.bipush 90, 2) := by decide +kernel
theorem dX8_depth_4 : decode cX8_depth 4 = .ok (.invokestatic 102, 3) := by decide +kernel
theorem dX8_depth_7 : decode cX8_depth 7 = .ok (.ifCond .ne 6, 3) := by decide +kernel
theorem dX8_depth_10 : decode cX8_depth 10 = .ok (.bipush (-2), 2) := by decide +kernel
theorem dX8_depth_12 : decode cX8_depth 12 = .ok (.ireturn, 1) := by decide +kernel
theorem dX8_depth_13 : decode cX8_depth 13 = .ok (.aload_n 0, 1) := by decide +kernel
theorem dX8_depth_14 : decode cX8_depth 14 = .ok (.invokevirtual 121, 3) := by decide +kernel
theorem dX8_depth_17 : decode cX8_depth 17 = .ok (.ifCond .le 6, 3) := by decide +kernel
theorem dX8_depth_20 : decode cX8_depth 20 = .ok (.bipush (-3), 2) := by decide +kernel
theorem dX8_depth_22 : decode cX8_depth 22 = .ok (.ireturn, 1) := by decide +kernel
theorem dX8_depth_23 : decode cX8_depth 23 = .ok (.aload_n 0, 1) := by decide +kernel
theorem dX8_depth_24 : decode cX8_depth 24 = .ok (.iload_n 1, 1) := by decide +kernel
theorem dX8_depth_25 : decode cX8_depth 25 = .ok (.putfield 89, 3) := by decide +kernel
theorem dX8_depth_28 : decode cX8_depth 28 = .ok (.aload_n 0, 1) := by decide +kernel
theorem dX8_depth_29 : decode cX8_depth 29 = .ok (.aload_n 0, 1) := by decide +kernel
theorem dX8_depth_30 : decode cX8_depth 30 = .ok (.invokevirtual 95, 3) := by decide +kernel
theorem dX8_depth_33 : decode cX8_depth 33 = .ok (.aload_n 0, 1) := by decide +kernel
theorem dX8_depth_34 : decode cX8_depth 34 = .ok (.invokevirtual 124, 3) := by decide +kernel
theorem dX8_depth_37 : decode cX8_depth 37 = .ok (.isub, 1) := by decide +kernel
theorem dX8_depth_38 : decode cX8_depth 38 = .ok (.invokevirtual 127, 3) := by decide +kernel
theorem dX8_depth_41 : decode cX8_depth 41 = .ok (.ireturn, 1) := by decide +kernel
set_option maxRecDepth 20000 in
theorem ggX8_tip_X8_all : GoodIn wsX8_tip wsX8_all := goodIn_r _ [5, 6, 7, 13, 14, 15, 16, 17, 18, 19, 20, 21, 22, 23, 24, 25, 26, 27, 28, 29, 30, 31, 32, 33, 34, 35, 36, 37, 38, 39, 40, 41, 42, 43, 44, 45, 46, 47, 48, 49, 50, 51, 52, 53, 54, 55, 56, 57, 58] (by decide +kernel) (by decide +kernel)
set_option maxRecDepth 20000 in
theorem gX8_tip_X8_all : GoodIn wsX8_tip (wsV RX8 95 RX8 yX8_all wsX8_all) := goodIn_app (goodIn_of _ (by decide +kernel)) ggX8_tip_X8_all
set_option maxRecDepth 20000 in
theorem ggX8_tip_X8_spill : GoodIn wsX8_tip wsX8_spill := goodIn_r _ [11, 7, 6, 12, 1, 2, 3, 4, 5, 13, 14, 15, 16, 17, 18, 19, 20, 21, 22, 23, 24, 25, 26, 27, 28, 29, 30, 31, 32, 33, 34, 35, 36, 37, 38, 39, 40, 41, 42, 43, 44, 45, 46, 47, 48, 49, 50, 51, 52, 53, 54, 55, 56, 57, 58] (by decide +kernel) (by decide +kernel)
set_option maxRecDepth 20000 in
theorem gX8_tip_X8_spill : GoodIn wsX8_tip (wsV RX8 127 RX8 yX8_spill wsX8_spill) := goodIn_app (goodIn_of _ (by decide +kernel)) ggX8_tip_X8_spill
theorem dX8_tip_0 : decode cX8_tip 0 = .ok (.aload_n 0, 1) := by decide +kernel
theorem dX8_tip_1 : decode cX8_tip 1 = .ok (.aload_n 0, 1) := by decide +kernel
theorem dX8_tip_2 : decode cX8_tip 2 = .ok (.invokevirtual 95, 3) := by decide +kernel
theorem dX8_tip_5 : decode cX8_tip 5 = .ok (.iconst 2, 1) := by decide +kernel
theorem dX8_tip_6 : decode cX8_tip 6 = .ok (.idiv, 1) := by decide +kernel
theorem dX8_tip_7 : decode cX8_tip 7 = .ok (.invokevirtual 127, 3) := by decide +kernel
theorem dX8_tip_10 : decode cX8_tip 10 = .ok (.ireturn, 1) := by decide +kernel
set_option maxRecDepth 20000 in
theorem ggX8_barrel_X8_in : GoodIn wsX8_barrel wsX8_in := goodIn_r _ [7] (by decide +kernel) (by decide +kernel)
set_option maxRecDepth 20000 in
theorem gX8_barrel_X8_in : GoodIn wsX8_barrel (va_wsS RX8 102 yX8_in wsX8_in) := goodIn_app (goodIn_of _ (by decide +kernel)) ggX8_barrel_X8_in
set_option maxRecDepth 20000 in
theorem ggX8_barrel_X8_all : GoodIn wsX8_barrel wsX8_all := goodIn_r _ [11, 3, 12, 24, 25, 26, 27, 28, 29, 30, 31, 32, 33, 34, 35, 36, 37, 38, 39, 40, 41, 42, 43, 44, 45, 46, 47, 48, 49, 50, 51, 52, 53, 54, 55, 56, 57, 58, 59, 60, 61, 62, 63, 64, 65, 66, 67, 68, 69] (by decide +kernel) (by decide +kernel)
set_option maxRecDepth 20000 in
theorem gX8_barrel_X8_all : GoodIn wsX8_barrel (wsV RX8 95 RX8 yX8_all wsX8_all) := goodIn_app (goodIn_of _ (by decide +kernel)) ggX8_barrel_X8_all
set_option maxRecDepth 20000 in
theorem ggX8_barrel_X8_most : GoodIn wsX8_barrel wsX8_most := goodIn_r _ [16, 17, 18, 24, 25, 26, 27, 28, 29, 30, 31, 32, 33, 34, 35, 36, 37, 38, 39, 40, 41, 42, 43, 44, 45, 46, 47, 48, 49, 50, 51, 52, 53, 54, 55, 56, 57, 58, 59, 60, 61, 62, 63, 64, 65, 66, 67, 68, 69] (by decide +kernel) (by decide +kernel)
set_option maxRecDepth 20000 in
theorem gX8_barrel_X8_most : GoodIn wsX8_barrel (wsV RX8 124 RX8 yX8_most wsX8_most) := goodIn_app (goodIn_of _ (by decide +kernel)) ggX8_barrel_X8_most
set_option maxRecDepth 20000 in
theorem ggX8_barrel_X8_spill : GoodIn wsX8_barrel wsX8_spill := goodIn_r _ [22, 12, 3, 23, 8, 9, 10, 6, 11, 24, 25, 26, 27, 28, 29, 30, 31, 32, 33, 34, 35, 36, 37, 38, 39, 40, 41, 42, 43, 44, 45, 46, 47, 48, 49, 50, 51, 52, 53, 54, 55, 56, 57, 58, 59, 60, 61, 62, 63, 64, 65, 66, 67, 68, 69] (by decide +kernel) (by decide +kernel)
set_option maxRecDepth 20000 in
theorem gX8_barrel_X8_spill : GoodIn wsX8_barrel (wsV RX8 127 RX8 yX8_spill wsX8_spill) := goodIn_app (goodIn_of _ (by decide +kernel)) ggX8_barrel_X8_spill
theorem dX8_barrel_0 : decode cX8_barrel 0 = .ok (.iload_n 1, 1) := by decide +kernel
theorem dX8_barrel_1 : decode cX8_barrel 1 = .ok (.iconst 1, 1) := by decide +kernel
theorem dX8_barrel_2 : decode cX8_barrel 2 = .ok (.sipush 500, 3) := by decide +kernel
theorem dX8_barrel_5 : decode cX8_barrel 5 = .ok (.invokestatic 102, 3) := by decide +kernel
theorem dX8_barrel_8 : decode cX8_barrel 8 = .ok (.ifCond .ne 6, 3) := by decide +kernel
theorem dX8_barrel_11 : decode cX8_barrel 11 = .ok (.bipush (-2), 2) := by decide +kernel
theorem dX8_barrel_13 : decode cX8_barrel 13 = .ok (.ireturn, 1) := by decide +kernel
theorem dX8_barrel_14 : decode cX8_barrel 14 = .ok (.aload_n 0, 1) := by decide +kernel
theorem dX8_barrel_15 : decode cX8_barrel 15 = .ok (.getfield 112, 3) := by decide +kernel
theorem dX8_barrel_18 : decode cX8_barrel 18 = .ok (.bipush 40, 2) := by decide +kernel
theorem dX8_barrel_20 : decode cX8_barrel 20 = .ok (.if_icmp .ne 6, 3) := by decide +kernel
theorem dX8_barrel_23 : decode cX8_barrel 23 = .ok (.bipush (-4), 2) := by decide +kernel
theorem dX8_barrel_25 : decode cX8_barrel 25 = .ok (.ireturn, 1) := by decide +kernel
theorem dX8_barrel_26 : decode cX8_barrel 26 = .ok (.aload_n 0, 1) := by decide +kernel
theorem dX8_barrel_27 : decode cX8_barrel 27 = .ok (.dup, 1) := by decide +kernel
theorem dX8_barrel_28 : decode cX8_barrel 28 = .ok (.getfield 112, 3) := by decide +kernel
theorem dX8_barrel_31 : decode cX8_barrel 31 = .ok (.iconst 1, 1) := by decide +kernel
theorem dX8_barrel_32 : decode cX8_barrel 32 = .ok (.iadd, 1) := by decide +kernel
theorem dX8_barrel_33 : decode cX8_barrel 33 = .ok (.putfield 112, 3) := by decide +kernel
theorem dX8_barrel_36 : decode cX8_barrel 36 = .ok (.aload_n 0, 1) := by decide +kernel
theorem dX8_barrel_37 : decode cX8_barrel 37 = .ok (.dup, 1) := by decide +kernel
theorem dX8_barrel_38 : decode cX8_barrel 38 = .ok (.getfield 16, 3) := by decide +kernel
theorem dX8_barrel_41 : decode cX8_barrel 41 = .ok (.iload_n 1, 1) := by decide +kernel
theorem dX8_barrel_42 : decode cX8_barrel 42 = .ok (.iadd, 1) := by decide +kernel
theorem dX8_barrel_43 : decode cX8_barrel 43 = .ok (.putfield 16, 3) := by decide +kernel
theorem dX8_barrel_46 : decode cX8_barrel 46 = .ok (.aload_n 0, 1) := by decide +kernel
theorem dX8_barrel_47 : decode cX8_barrel 47 = .ok (.dup, 1) := by decide +kernel
theorem dX8_barrel_48 : decode cX8_barrel 48 = .ok (.getfield 13, 3) := by decide +kernel
theorem dX8_barrel_51 : decode cX8_barrel 51 = .ok (.iload_n 1, 1) := by decide +kernel
theorem dX8_barrel_52 : decode cX8_barrel 52 = .ok (.iadd, 1) := by decide +kernel
theorem dX8_barrel_53 : decode cX8_barrel 53 = .ok (.putfield 13, 3) := by decide +kernel
theorem dX8_barrel_56 : decode cX8_barrel 56 = .ok (.aload_n 0, 1) := by decide +kernel
theorem dX8_barrel_57 : decode cX8_barrel 57 = .ok (.aload_n 0, 1) := by decide +kernel
theorem dX8_barrel_58 : decode cX8_barrel 58 = .ok (.invokevirtual 95, 3) := by decide +kernel
theorem dX8_barrel_61 : decode cX8_barrel 61 = .ok (.aload_n 0, 1) := by decide +kernel
theorem dX8_barrel_62 : decode cX8_barrel 62 = .ok (.invokevirtual 124, 3) := by decide +kernel
theorem dX8_barrel_65 : decode cX8_barrel 65 = .ok (.isub, 1) := by decide +kernel
theorem dX8_barrel_66 : decode cX8_barrel 66 = .ok (.invokevirtual 127, 3) := by decide +kernel
theorem dX8_barrel_69 : decode cX8_barrel 69 = .ok (.ireturn, 1) := by decide +kernel
set_option maxRecDepth 20000 in
theorem ggX8_breath_X8_in : GoodIn wsX8_breath wsX8_in := goodIn_r _ [5] (by decide +kernel) (by decide +kernel)
set_option maxRecDepth 20000 in
theorem gX8_breath_X8_in : GoodIn wsX8_breath (va_wsS RX8 102 yX8_in wsX8_in) := goodIn_app (goodIn_of _ (by decide +kernel)) ggX8_breath_X8_in
theorem dX8_breath_0 : decode cX8_breath 0 = .ok (.iload_n 1, 1) := by decide +kernel
theorem dX8_breath_1 : decode cX8_breath 1 = .ok (.iconst 1, 1) := by decide +kernel
theorem dX8_breath_2 : decode cX8_breath 2 = .ok (.bipush 30, 2) := by decide +kernel
theorem dX8_breath_4 : decode cX8_breath 4 = .ok (.invokestatic 102, 3) := by decide +kernel
theorem dX8_breath_7 : decode cX8_breath 7 = .ok (.ifCond .ne 6, 3) := by decide +kernel
theorem dX8_breath_10 : decode cX8_breath 10 = .ok (.bipush (-2), 2) := by decide +kernel
theorem dX8_breath_12 : decode cX8_breath 12 = .ok (.ireturn, 1) := by decide +kernel
theorem dX8_breath_13 : decode cX8_breath 13 = .ok (.aload_n 0, 1) := by decide +kernel
theorem dX8_breath_14 : decode cX8_breath 14 = .ok (.getfield 19, 3) := by decide +kernel
theorem dX8_breath_17 : decode cX8_breath 17 = .ok (.istore_n 2, 1) := by decide +kernel
theorem dX8_breath_18 : decode cX8_breath 18 = .ok (.aload_n 0, 1) := by decide +kernel
theorem dX8_breath_19 : decode cX8_breath 19 = .ok (.iload_n 1, 1) := by decide +kernel
theorem dX8_breath_20 : decode cX8_breath 20 = .ok (.putfield 19, 3) := by decide +kernel
theorem dX8_breath_23 : decode cX8_breath 23 = .ok (.iload_n 2, 1) := by decide +kernel
theorem dX8_breath_24 : decode cX8_breath 24 = .ok (.ireturn, 1) := by decide +kernel
set_option maxRecDepth 20000 in
theorem ggX8_limit_X8_in : GoodIn wsX8_limit wsX8_in := goodIn_r _ [5] (by decide +kernel) (by decide +kernel)
set_option maxRecDepth 20000 in
theorem gX8_limit_X8_in : GoodIn wsX8_limit (va_wsS RX8 102 yX8_in wsX8_in) := goodIn_app (goodIn_of _ (by decide +kernel)) ggX8_limit_X8_in
theorem dX8_limit_0 : decode cX8_limit 0 = .ok (.iload_n 1, 1) := by decide +kernel
theorem dX8_limit_1 : decode cX8_limit 1 = .ok (.iconst 1, 1) := by decide +kernel
theorem dX8_limit_2 : decode cX8_limit 2 = .ok (.bipush 100, 2) := by decide +kernel
theorem dX8_limit_4 : decode cX8_limit 4 = .ok (.invokestatic 102, 3) := by decide +kernel
theorem dX8_limit_7 : decode cX8_limit 7 = .ok (.ifCond .ne 6, 3) := by decide +kernel
theorem dX8_limit_10 : decode cX8_limit 10 = .ok (.bipush (-2), 2) := by decide +kernel
theorem dX8_limit_12 : decode cX8_limit 12 = .ok (.ireturn, 1) := by decide +kernel
theorem dX8_limit_13 : decode cX8_limit 13 = .ok (.aload_n 0, 1) := by decide +kernel
theorem dX8_limit_14 : decode cX8_limit 14 = .ok (.getfield 22, 3) := by decide +kernel
theorem dX8_limit_17 : decode cX8_limit 17 = .ok (.istore_n 2, 1) := by decide +kernel
theorem dX8_limit_18 : decode cX8_limit 18 = .ok (.aload_n 0, 1) := by decide +kernel
theorem dX8_limit_19 : decode cX8_limit 19 = .ok (.iload_n 1, 1) := by decide +kernel
theorem dX8_limit_20 : decode cX8_limit 20 = .ok (.putfield 22, 3) := by decide +kernel
theorem dX8_limit_23 : decode cX8_limit 23 = .ok (.iload_n 2, 1) := by decide +kernel
theorem dX8_limit_24 : decode cX8_limit 24 = .ok (.ireturn, 1) := by decide +kernel
theorem dX8_onHose_0 : decode cX8_onHose 0 = .ok (.iconst 0, 1) := by decide +kernel
theorem dX8_onHose_1 : decode cX8_onHose 1 = .ok (.istore_n 2, 1) := by decide +kernel
theorem dX8_onHose_2 : decode cX8_onHose 2 = .ok (.iconst 0, 1) := by decide +kernel
theorem dX8_onHose_3 : decode cX8_onHose 3 = .ok (.istore_n 3, 1) := by decide +kernel
theorem dX8_onHose_4 : decode cX8_onHose 4 = .ok (.iload_n 3, 1) := by decide +kernel
theorem dX8_onHose_5 : decode cX8_onHose 5 = .ok (.bipush 6, 2) := by decide +kernel
theorem dX8_onHose_7 : decode cX8_onHose 7 = .ok (.if_icmp .ge 37, 3) := by decide +kernel
theorem dX8_onHose_10 : decode cX8_onHose 10 = .ok (.iload_n 2, 1) := by decide +kernel
theorem dX8_onHose_11 : decode cX8_onHose 11 = .ok (.aload_n 0, 1) := by decide +kernel
theorem dX8_onHose_12 : decode cX8_onHose 12 = .ok (.getfield 31, 3) := by decide +kernel
theorem dX8_onHose_15 : decode cX8_onHose 15 = .ok (.iload_n 3, 1) := by decide +kernel
theorem dX8_onHose_16 : decode cX8_onHose 16 = .ok (.iaload, 1) := by decide +kernel
theorem dX8_onHose_17 : decode cX8_onHose 17 = .ok (.iconst 2, 1) := by decide +kernel
theorem dX8_onHose_18 : decode cX8_onHose 18 = .ok (.if_icmp .ne 17, 3) := by decide +kernel
theorem dX8_onHose_21 : decode cX8_onHose 21 = .ok (.aload_n 0, 1) := by decide +kernel
theorem dX8_onHose_22 : decode cX8_onHose 22 = .ok (.getfield 38, 3) := by decide +kernel
theorem dX8_onHose_25 : decode cX8_onHose 25 = .ok (.iload_n 3, 1) := by decide +kernel
theorem dX8_onHose_26 : decode cX8_onHose 26 = .ok (.iaload, 1) := by decide +kernel
theorem dX8_onHose_27 : decode cX8_onHose 27 = .ok (.iload_n 1, 1) := by decide +kernel
theorem dX8_onHose_28 : decode cX8_onHose 28 = .ok (.if_icmp .ne 7, 3) := by decide +kernel
theorem dX8_onHose_31 : decode cX8_onHose 31 = .ok (.iconst 1, 1) := by decide +kernel
theorem dX8_onHose_32 : decode cX8_onHose 32 = .ok (.goto 4, 3) := by decide +kernel
theorem dX8_onHose_35 : decode cX8_onHose 35 = .ok (.iconst 0, 1) := by decide +kernel
theorem dX8_onHose_36 : decode cX8_onHose 36 = .ok (.iadd, 1) := by decide +kernel
theorem dX8_onHose_37 : decode cX8_onHose 37 = .ok (.istore_n 2, 1) := by decide +kernel
theorem dX8_onHose_38 : decode cX8_onHose 38 = .ok (.iinc 3 1, 3) := by decide +kernel
theorem dX8_onHose_41 : decode cX8_onHose 41 = .ok (.goto (-37), 3) := by decide +kernel
theorem dX8_onHose_44 : decode cX8_onHose 44 = .ok (.iload_n 2, 1) := by decide +kernel
theorem dX8_onHose_45 : decode cX8_onHose 45 = .ok (.ireturn, 1) := by decide +kernel
set_option maxRecDepth 20000 in
theorem ggX8_live_X8_onHose : GoodIn wsX8_live wsX8_onHose := goodIn_r _ [15, 6, 8, 30, 31, 32, 33, 34, 35, 36, 37, 38, 39, 40, 41, 42, 43, 44, 45, 46, 47, 48, 49, 50, 51, 52, 53, 54, 55, 56, 57, 58, 59, 60, 61, 62, 63, 64, 65, 66, 67, 68, 69, 70, 71, 72, 73, 74, 75] (by decide +kernel) (by decide +kernel)
set_option maxRecDepth 20000 in
theorem gX8_live_X8_onHose : GoodIn wsX8_live (wsV RX8 131 RX8 yX8_onHose wsX8_onHose) := goodIn_app (goodIn_of _ (by decide +kernel)) ggX8_live_X8_onHose
set_option maxRecDepth 20000 in
theorem ggX8_live_X8_labour : GoodIn wsX8_live wsX8_labour := goodIn_r _ [19, 20, 21, 22, 23, 24, 25, 26, 27, 14, 28, 29, 30, 31, 32, 33, 34, 35, 36, 37, 38, 39, 40, 41, 42, 43, 44, 45, 46, 47, 48, 49, 50, 51, 52, 53, 54, 55, 56, 57, 58, 59, 60, 61, 62, 63, 64, 65, 66, 67, 68, 69, 70, 71, 72, 73, 74, 75] (by decide +kernel) (by decide +kernel)
set_option maxRecDepth 20000 in
theorem gX8_live_X8_labour : GoodIn wsX8_live (wsV RX8 134 RX8 yX8_labour wsX8_labour) := goodIn_app (goodIn_of _ (by decide +kernel)) ggX8_live_X8_labour
theorem dX8_live_0 : decode cX8_live 0 = .ok (.iconst 0, 1) := by decide +kernel
theorem dX8_live_1 : decode cX8_live 1 = .ok (.istore_n 2, 1) := by decide +kernel
theorem dX8_live_2 : decode cX8_live 2 = .ok (.aload_n 0, 1) := by decide +kernel
theorem dX8_live_3 : decode cX8_live 3 = .ok (.getfield 13, 3) := by decide +kernel
theorem dX8_live_6 : decode cX8_live 6 = .ok (.aload_n 0, 1) := by decide +kernel
theorem dX8_live_7 : decode cX8_live 7 = .ok (.getfield 19, 3) := by decide +kernel
theorem dX8_live_10 : decode cX8_live 10 = .ok (.if_icmp .ge 10, 3) := by decide +kernel
theorem dX8_live_13 : decode cX8_live 13 = .ok (.aload_n 0, 1) := by decide +kernel
theorem dX8_live_14 : decode cX8_live 14 = .ok (.getfield 13, 3) := by decide +kernel
theorem dX8_live_17 : decode cX8_live 17 = .ok (.goto 7, 3) := by decide +kernel
theorem dX8_live_20 : decode cX8_live 20 = .ok (.aload_n 0, 1) := by decide +kernel
theorem dX8_live_21 : decode cX8_live 21 = .ok (.getfield 19, 3) := by decide +kernel
theorem dX8_live_24 : decode cX8_live 24 = .ok (.istore_n 3, 1) := by decide +kernel
theorem dX8_live_25 : decode cX8_live 25 = .ok (.aload_n 0, 1) := by decide +kernel
theorem dX8_live_26 : decode cX8_live 26 = .ok (.dup, 1) := by decide +kernel
theorem dX8_live_27 : decode cX8_live 27 = .ok (.getfield 13, 3) := by decide +kernel
theorem dX8_live_30 : decode cX8_live 30 = .ok (.iload_n 3, 1) := by decide +kernel
theorem dX8_live_31 : decode cX8_live 31 = .ok (.isub, 1) := by decide +kernel
theorem dX8_live_32 : decode cX8_live 32 = .ok (.putfield 13, 3) := by decide +kernel
theorem dX8_live_35 : decode cX8_live 35 = .ok (.aload_n 0, 1) := by decide +kernel
theorem dX8_live_36 : decode cX8_live 36 = .ok (.dup, 1) := by decide +kernel
theorem dX8_live_37 : decode cX8_live 37 = .ok (.getfield 92, 3) := by decide +kernel
theorem dX8_live_40 : decode cX8_live 40 = .ok (.iload_n 3, 1) := by decide +kernel
theorem dX8_live_41 : decode cX8_live 41 = .ok (.iadd, 1) := by decide +kernel
theorem dX8_live_42 : decode cX8_live 42 = .ok (.putfield 92, 3) := by decide +kernel
theorem dX8_live_45 : decode cX8_live 45 = .ok (.aload_n 0, 1) := by decide +kernel
theorem dX8_live_46 : decode cX8_live 46 = .ok (.dup, 1) := by decide +kernel
theorem dX8_live_47 : decode cX8_live 47 = .ok (.getfield 109, 3) := by decide +kernel
theorem dX8_live_50 : decode cX8_live 50 = .ok (.iload_n 3, 1) := by decide +kernel
theorem dX8_live_51 : decode cX8_live 51 = .ok (.iadd, 1) := by decide +kernel
theorem dX8_live_52 : decode cX8_live 52 = .ok (.putfield 109, 3) := by decide +kernel
theorem dX8_live_55 : decode cX8_live 55 = .ok (.iload_n 3, 1) := by decide +kernel
theorem dX8_live_56 : decode cX8_live 56 = .ok (.aload_n 0, 1) := by decide +kernel
theorem dX8_live_57 : decode cX8_live 57 = .ok (.getfield 19, 3) := by decide +kernel
theorem dX8_live_60 : decode cX8_live 60 = .ok (.if_icmp .ge 16, 3) := by decide +kernel
theorem dX8_live_63 : decode cX8_live 63 = .ok (.aload_n 0, 1) := by decide +kernel
theorem dX8_live_64 : decode cX8_live 64 = .ok (.dup, 1) := by decide +kernel
theorem dX8_live_65 : decode cX8_live 65 = .ok (.getfield 115, 3) := by decide +kernel
theorem dX8_live_68 : decode cX8_live 68 = .ok (.iconst 1, 1) := by decide +kernel
theorem dX8_live_69 : decode cX8_live 69 = .ok (.iadd, 1) := by decide +kernel
theorem dX8_live_70 : decode cX8_live 70 = .ok (.putfield 115, 3) := by decide +kernel
theorem dX8_live_73 : decode cX8_live 73 = .ok (.iinc 2 1, 3) := by decide +kernel
theorem dX8_live_76 : decode cX8_live 76 = .ok (.aload_n 0, 1) := by decide +kernel
theorem dX8_live_77 : decode cX8_live 77 = .ok (.getfield 31, 3) := by decide +kernel
theorem dX8_live_80 : decode cX8_live 80 = .ok (.iload_n 1, 1) := by decide +kernel
theorem dX8_live_81 : decode cX8_live 81 = .ok (.iaload, 1) := by decide +kernel
theorem dX8_live_82 : decode cX8_live 82 = .ok (.iconst 2, 1) := by decide +kernel
theorem dX8_live_83 : decode cX8_live 83 = .ok (.if_icmp .ne 53, 3) := by decide +kernel
theorem dX8_live_86 : decode cX8_live 86 = .ok (.aload_n 0, 1) := by decide +kernel
theorem dX8_live_87 : decode cX8_live 87 = .ok (.getfield 41, 3) := by decide +kernel
theorem dX8_live_90 : decode cX8_live 90 = .ok (.iload_n 1, 1) := by decide +kernel
theorem dX8_live_91 : decode cX8_live 91 = .ok (.dup2, 1) := by decide +kernel
theorem dX8_live_92 : decode cX8_live 92 = .ok (.iaload, 1) := by decide +kernel
theorem dX8_live_93 : decode cX8_live 93 = .ok (.aload_n 0, 1) := by decide +kernel
theorem dX8_live_94 : decode cX8_live 94 = .ok (.aload_n 0, 1) := by decide +kernel
theorem dX8_live_95 : decode cX8_live 95 = .ok (.getfield 38, 3) := by decide +kernel
theorem dX8_live_98 : decode cX8_live 98 = .ok (.iload_n 1, 1) := by decide +kernel
theorem dX8_live_99 : decode cX8_live 99 = .ok (.iaload, 1) := by decide +kernel
theorem dX8_live_100 : decode cX8_live 100 = .ok (.invokevirtual 131, 3) := by decide +kernel
theorem dX8_live_103 : decode cX8_live 103 = .ok (.iadd, 1) := by decide +kernel
theorem dX8_live_104 : decode cX8_live 104 = .ok (.iastore, 1) := by decide +kernel
theorem dX8_live_105 : decode cX8_live 105 = .ok (.aload_n 0, 1) := by decide +kernel
theorem dX8_live_106 : decode cX8_live 106 = .ok (.getfield 41, 3) := by decide +kernel
theorem dX8_live_109 : decode cX8_live 109 = .ok (.iload_n 1, 1) := by decide +kernel
theorem dX8_live_110 : decode cX8_live 110 = .ok (.iaload, 1) := by decide +kernel
theorem dX8_live_111 : decode cX8_live 111 = .ok (.aload_n 0, 1) := by decide +kernel
theorem dX8_live_112 : decode cX8_live 112 = .ok (.getfield 25, 3) := by decide +kernel
theorem dX8_live_115 : decode cX8_live 115 = .ok (.if_icmp .le 16, 3) := by decide +kernel
theorem dX8_live_118 : decode cX8_live 118 = .ok (.aload_n 0, 1) := by decide +kernel
theorem dX8_live_119 : decode cX8_live 119 = .ok (.dup, 1) := by decide +kernel
theorem dX8_live_120 : decode cX8_live 120 = .ok (.getfield 118, 3) := by decide +kernel
theorem dX8_live_123 : decode cX8_live 123 = .ok (.iconst 1, 1) := by decide +kernel
theorem dX8_live_124 : decode cX8_live 124 = .ok (.iadd, 1) := by decide +kernel
theorem dX8_live_125 : decode cX8_live 125 = .ok (.putfield 118, 3) := by decide +kernel
theorem dX8_live_128 : decode cX8_live 128 = .ok (.iinc 2 1, 3) := by decide +kernel
theorem dX8_live_131 : decode cX8_live 131 = .ok (.aload_n 0, 1) := by decide +kernel
theorem dX8_live_132 : decode cX8_live 132 = .ok (.iload_n 1, 1) := by decide +kernel
theorem dX8_live_133 : decode cX8_live 133 = .ok (.invokevirtual 134, 3) := by decide +kernel
theorem dX8_live_136 : decode cX8_live 136 = .ok (.iload_n 2, 1) := by decide +kernel
theorem dX8_live_137 : decode cX8_live 137 = .ok (.ireturn, 1) := by decide +kernel
theorem dX8_isFree_0 : decode cX8_isFree 0 = .ok (.aload_n 0, 1) := by decide +kernel
theorem dX8_isFree_1 : decode cX8_isFree 1 = .ok (.getfield 53, 3) := by decide +kernel
theorem dX8_isFree_4 : decode cX8_isFree 4 = .ok (.iload_n 1, 1) := by decide +kernel
theorem dX8_isFree_5 : decode cX8_isFree 5 = .ok (.iaload, 1) := by decide +kernel
theorem dX8_isFree_6 : decode cX8_isFree 6 = .ok (.aload_n 0, 1) := by decide +kernel
theorem dX8_isFree_7 : decode cX8_isFree 7 = .ok (.getfield 138, 3) := by decide +kernel
theorem dX8_isFree_10 : decode cX8_isFree 10 = .ok (.iconst (-1), 1) := by decide +kernel
theorem dX8_isFree_11 : decode cX8_isFree 11 = .ok (.ixor, 1) := by decide +kernel
theorem dX8_isFree_12 : decode cX8_isFree 12 = .ok (.iand, 1) := by decide +kernel
theorem dX8_isFree_13 : decode cX8_isFree 13 = .ok (.ifCond .ne 7, 3) := by decide +kernel
theorem dX8_isFree_16 : decode cX8_isFree 16 = .ok (.iconst 1, 1) := by decide +kernel
theorem dX8_isFree_17 : decode cX8_isFree 17 = .ok (.goto 4, 3) := by decide +kernel
theorem dX8_isFree_20 : decode cX8_isFree 20 = .ok (.iconst 0, 1) := by decide +kernel
theorem dX8_isFree_21 : decode cX8_isFree 21 = .ok (.ireturn, 1) := by decide +kernel
set_option maxRecDepth 20000 in
theorem ggX8_labour_X8_isFree : GoodIn wsX8_labour wsX8_isFree := goodIn_r _ [10, 11, 4, 12, 13, 14, 15, 16, 17, 18, 19, 20, 21, 22, 23, 24, 25, 26, 27, 28, 29, 30, 31, 32, 33, 34, 35, 36, 37, 38, 39, 40, 41, 42, 43, 44, 45, 46, 47, 48, 49, 50, 51, 52, 53, 54, 55, 56, 57] (by decide +kernel) (by decide +kernel)
set_option maxRecDepth 20000 in
theorem gX8_labour_X8_isFree : GoodIn wsX8_labour (wsV RX8 141 RX8 yX8_isFree wsX8_isFree) := goodIn_app (goodIn_of _ (by decide +kernel)) ggX8_labour_X8_isFree
theorem dX8_labour_0 : decode cX8_labour 0 = .ok (.aload_n 0, 1) := by decide +kernel
theorem dX8_labour_1 : decode cX8_labour 1 = .ok (.getfield 44, 3) := by decide +kernel
theorem dX8_labour_4 : decode cX8_labour 4 = .ok (.iload_n 1, 1) := by decide +kernel
theorem dX8_labour_5 : decode cX8_labour 5 = .ok (.iaload, 1) := by decide +kernel
theorem dX8_labour_6 : decode cX8_labour 6 = .ok (.istore_n 2, 1) := by decide +kernel
theorem dX8_labour_7 : decode cX8_labour 7 = .ok (.iload_n 2, 1) := by decide +kernel
theorem dX8_labour_8 : decode cX8_labour 8 = .ok (.ifCond .lt 48, 3) := by decide +kernel
theorem dX8_labour_11 : decode cX8_labour 11 = .ok (.aload_n 0, 1) := by decide +kernel
theorem dX8_labour_12 : decode cX8_labour 12 = .ok (.getfield 50, 3) := by decide +kernel
