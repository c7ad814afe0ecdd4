theorem dX7_fewest_11 : decode cX7_fewest 11 = .ok (.bipush (-2), 2) := by decide +kernel
theorem dX7_fewest_13 : decode cX7_fewest 13 = .ok (.ireturn, 1) := by decide +kernel
theorem dX7_fewest_14 : decode cX7_fewest 14 = .ok (.aload_n 0, 1) := by decide +kernel
theorem dX7_fewest_15 : decode cX7_fewest 15 = .ok (.getfield 12, 3) := by decide +kernel
theorem dX7_fewest_18 : decode cX7_fewest 18 = .ok (.iload_n 1, 1) := by decide +kernel
theorem dX7_fewest_19 : decode cX7_fewest 19 = .ok (.invokevirtual 129, 3) := by decide +kernel
theorem dX7_fewest_22 : decode cX7_fewest 22 = .ok (.ireturn, 1) := by decide +kernel
set_option maxRecDepth 20000 in
theorem ggX7_go_X7_isMan : GoodIn wsX7_go wsX7_isMan := goodIn_r _ [8, 9, 10, 7, 11] (by decide +kernel) (by decide +kernel)
set_option maxRecDepth 20000 in
theorem gX7_go_X7_isMan : GoodIn wsX7_go (va_wsS RX7 132 yX7_isMan wsX7_isMan) := goodIn_app (goodIn_of _ (by decide +kernel)) ggX7_go_X7_isMan
set_option maxRecDepth 20000 in
theorem ggX7_go_X2_bring : GoodIn wsX7_go wsX2_bring := goodIn_r _ [16, 17, 18, 19, 20, 27, 28, 29, 30, 31, 32, 33, 34] (by decide +kernel) (by decide +kernel)
set_option maxRecDepth 20000 in
theorem gX7_go_X2_bring : GoodIn wsX7_go (wsV RX7 140 RX2 yX2_bring wsX2_bring) := goodIn_app (goodIn_of _ (by decide +kernel)) ggX7_go_X2_bring
theorem dX7_go_0 : decode cX7_go 0 = .ok (.iload_n 1, 1) := by decide +kernel
theorem dX7_go_1 : decode cX7_go 1 = .ok (.invokestatic 132, 3) := by decide +kernel
theorem dX7_go_4 : decode cX7_go 4 = .ok (.ifCond .ne 5, 3) := by decide +kernel
theorem dX7_go_7 : decode cX7_go 7 = .ok (.iconst (-1), 1) := by decide +kernel
theorem dX7_go_8 : decode cX7_go 8 = .ok (.ireturn, 1) := by decide +kernel
theorem dX7_go_9 : decode cX7_go 9 = .ok (.aload_n 0, 1) := by decide +kernel
theorem dX7_go_10 : decode cX7_go 10 = .ok (.getfield 19, 3) := by decide +kernel
theorem dX7_go_13 : decode cX7_go 13 = .ok (.getfield 136, 3) := by decide +kernel
theorem dX7_go_16 : decode cX7_go 16 = .ok (.iload_n 1, 1) := by decide +kernel
theorem dX7_go_17 : decode cX7_go 17 = .ok (.iaload, 1) := by decide +kernel
theorem dX7_go_18 : decode cX7_go 18 = .ok (.istore_n 3, 1) := by decide +kernel
theorem dX7_go_19 : decode cX7_go 19 = .ok (.aload_n 0, 1) := by decide +kernel
theorem dX7_go_20 : decode cX7_go 20 = .ok (.getfield 12, 3) := by decide +kernel
theorem dX7_go_23 : decode cX7_go 23 = .ok (.getfield 56, 3) := by decide +kernel
theorem dX7_go_26 : decode cX7_go 26 = .ok (.ifCond .eq 14, 3) := by decide +kernel
theorem dX7_go_29 : decode cX7_go 29 = .ok (.iload_n 3, 1) := by decide +kernel
theorem dX7_go_30 : decode cX7_go 30 = .ok (.ifCond .eq 7, 3) := by decide +kernel
theorem dX7_go_33 : decode cX7_go 33 = .ok (.iload_n 2, 1) := by decide +kernel
theorem dX7_go_34 : decode cX7_go 34 = .ok (.ifCond .ne 6, 3) := by decide +kernel
theorem dX7_go_37 : decode cX7_go 37 = .ok (.bipush (-3), 2) := by decide +kernel
theorem dX7_go_39 : decode cX7_go 39 = .ok (.ireturn, 1) := by decide +kernel
theorem dX7_go_40 : decode cX7_go 40 = .ok (.iload_n 3, 1) := by decide +kernel
theorem dX7_go_41 : decode cX7_go 41 = .ok (.iload_n 2, 1) := by decide +kernel
theorem dX7_go_42 : decode cX7_go 42 = .ok (.ifCond .eq 7, 3) := by decide +kernel
theorem dX7_go_45 : decode cX7_go 45 = .ok (.iconst 1, 1) := by decide +kernel
theorem dX7_go_46 : decode cX7_go 46 = .ok (.goto 4, 3) := by decide +kernel
theorem dX7_go_49 : decode cX7_go 49 = .ok (.iconst 0, 1) := by decide +kernel
theorem dX7_go_50 : decode cX7_go 50 = .ok (.if_icmp .ne 7, 3) := by decide +kernel
theorem dX7_go_53 : decode cX7_go 53 = .ok (.iconst 1, 1) := by decide +kernel
theorem dX7_go_54 : decode cX7_go 54 = .ok (.goto 4, 3) := by decide +kernel
theorem dX7_go_57 : decode cX7_go 57 = .ok (.iconst 0, 1) := by decide +kernel
theorem dX7_go_58 : decode cX7_go 58 = .ok (.istore 4, 2) := by decide +kernel
theorem dX7_go_60 : decode cX7_go 60 = .ok (.iload 4, 2) := by decide +kernel
theorem dX7_go_62 : decode cX7_go 62 = .ok (.ifCond .ne 12, 3) := by decide +kernel
theorem dX7_go_65 : decode cX7_go 65 = .ok (.iload_n 3, 1) := by decide +kernel
theorem dX7_go_66 : decode cX7_go 66 = .ok (.iconst 2, 1) := by decide +kernel
theorem dX7_go_67 : decode cX7_go 67 = .ok (.if_icmp .ne 10, 3) := by decide +kernel
theorem dX7_go_70 : decode cX7_go 70 = .ok (.iload_n 2, 1) := by decide +kernel
theorem dX7_go_71 : decode cX7_go 71 = .ok (.ifCond .ne 6, 3) := by decide +kernel
theorem dX7_go_74 : decode cX7_go 74 = .ok (.bipush (-5), 2) := by decide +kernel
theorem dX7_go_76 : decode cX7_go 76 = .ok (.ireturn, 1) := by decide +kernel
theorem dX7_go_77 : decode cX7_go 77 = .ok (.aload_n 0, 1) := by decide +kernel
theorem dX7_go_78 : decode cX7_go 78 = .ok (.getfield 19, 3) := by decide +kernel
theorem dX7_go_81 : decode cX7_go 81 = .ok (.iload_n 1, 1) := by decide +kernel
theorem dX7_go_82 : decode cX7_go 82 = .ok (.iload_n 2, 1) := by decide +kernel
theorem dX7_go_83 : decode cX7_go 83 = .ok (.ifCond .eq 7, 3) := by decide +kernel
theorem dX7_go_86 : decode cX7_go 86 = .ok (.iconst 1, 1) := by decide +kernel
theorem dX7_go_87 : decode cX7_go 87 = .ok (.goto 4, 3) := by decide +kernel
theorem dX7_go_90 : decode cX7_go 90 = .ok (.iconst 0, 1) := by decide +kernel
theorem dX7_go_91 : decode cX7_go 91 = .ok (.invokevirtual 140, 3) := by decide +kernel
theorem dX7_go_94 : decode cX7_go 94 = .ok (.iload_n 3, 1) := by decide +kernel
theorem dX7_go_95 : decode cX7_go 95 = .ok (.ireturn, 1) := by decide +kernel
set_option maxRecDepth 20000 in
theorem ggX7_out_X7_isMan : GoodIn wsX7_out wsX7_isMan := goodIn_r _ [9, 10, 11, 8, 12] (by decide +kernel) (by decide +kernel)
set_option maxRecDepth 20000 in
theorem gX7_out_X7_isMan : GoodIn wsX7_out (va_wsS RX7 132 yX7_isMan wsX7_isMan) := goodIn_app (goodIn_of _ (by decide +kernel)) ggX7_out_X7_isMan
set_option maxRecDepth 20000 in
theorem ggX7_out_X7_isHose : GoodIn wsX7_out wsX7_isHose := goodIn_r _ [15, 10, 11, 8, 12] (by decide +kernel) (by decide +kernel)
set_option maxRecDepth 20000 in
theorem gX7_out_X7_isHose : GoodIn wsX7_out (va_wsS RX7 144 yX7_isHose wsX7_isHose) := goodIn_app (goodIn_of _ (by decide +kernel)) ggX7_out_X7_isHose
set_option maxRecDepth 20000 in
theorem ggX7_out_X7_isSquare : GoodIn wsX7_out wsX7_isSquare := goodIn_r _ [18, 10, 11, 8, 12] (by decide +kernel) (by decide +kernel)
set_option maxRecDepth 20000 in
theorem gX7_out_X7_isSquare : GoodIn wsX7_out (va_wsS RX7 147 yX7_isSquare wsX7_isSquare) := goodIn_app (goodIn_of _ (by decide +kernel)) ggX7_out_X7_isSquare
set_option maxRecDepth 20000 in
theorem ggX7_out_X2_othersOn : GoodIn wsX7_out wsX2_othersOn := goodIn_r _ [23, 24, 47, 48, 49, 50, 51, 52, 53, 54] (by decide +kernel) (by decide +kernel)
set_option maxRecDepth 20000 in
theorem gX7_out_X2_othersOn : GoodIn wsX7_out (wsV RX7 153 RX2 yX2_othersOn wsX2_othersOn) := goodIn_app (goodIn_of _ (by decide +kernel)) ggX7_out_X2_othersOn
set_option maxRecDepth 20000 in
theorem ggX7_out_X7_distance : GoodIn wsX7_out wsX7_distance := goodIn_r _ [27, 28, 29, 8, 30, 31, 32, 33, 34] (by decide +kernel) (by decide +kernel)
set_option maxRecDepth 20000 in
theorem gX7_out_X7_distance : GoodIn wsX7_out (va_wsS RX7 159 yX7_distance wsX7_distance) := goodIn_app (goodIn_of _ (by decide +kernel)) ggX7_out_X7_distance
set_option maxRecDepth 20000 in
theorem ggX7_out_X2_send : GoodIn wsX7_out wsX2_send := goodIn_r _ [38, 39, 24, 40, 47, 48, 49, 50, 51, 52, 53, 54] (by decide +kernel) (by decide +kernel)
set_option maxRecDepth 20000 in
theorem gX7_out_X2_send : GoodIn wsX7_out (wsV RX7 165 RX2 yX2_send wsX2_send) := goodIn_app (goodIn_of _ (by decide +kernel)) ggX7_out_X2_send
theorem dX7_out_0 : decode cX7_out 0 = .ok (.iload_n 1, 1) := by decide +kernel
theorem dX7_out_1 : decode cX7_out 1 = .ok (.invokestatic 132, 3) := by decide +kernel
theorem dX7_out_4 : decode cX7_out 4 = .ok (.ifCond .eq 17, 3) := by decide +kernel
theorem dX7_out_7 : decode cX7_out 7 = .ok (.iload_n 2, 1) := by decide +kernel
theorem dX7_out_8 : decode cX7_out 8 = .ok (.invokestatic 144, 3) := by decide +kernel
theorem dX7_out_11 : decode cX7_out 11 = .ok (.ifCond .eq 10, 3) := by decide +kernel
theorem dX7_out_14 : decode cX7_out 14 = .ok (.iload_n 3, 1) := by decide +kernel
theorem dX7_out_15 : decode cX7_out 15 = .ok (.invokestatic 147, 3) := by decide +kernel
theorem dX7_out_18 : decode cX7_out 18 = .ok (.ifCond .ne 5, 3) := by decide +kernel
theorem dX7_out_21 : decode cX7_out 21 = .ok (.iconst (-1), 1) := by decide +kernel
theorem dX7_out_22 : decode cX7_out 22 = .ok (.ireturn, 1) := by decide +kernel
theorem dX7_out_23 : decode cX7_out 23 = .ok (.aload_n 0, 1) := by decide +kernel
theorem dX7_out_24 : decode cX7_out 24 = .ok (.getfield 19, 3) := by decide +kernel
theorem dX7_out_27 : decode cX7_out 27 = .ok (.getfield 136, 3) := by decide +kernel
theorem dX7_out_30 : decode cX7_out 30 = .ok (.iload_n 1, 1) := by decide +kernel
theorem dX7_out_31 : decode cX7_out 31 = .ok (.iaload, 1) := by decide +kernel
theorem dX7_out_32 : decode cX7_out 32 = .ok (.istore 4, 2) := by decide +kernel
theorem dX7_out_34 : decode cX7_out 34 = .ok (.iload 4, 2) := by decide +kernel
theorem dX7_out_36 : decode cX7_out 36 = .ok (.ifCond .eq 22, 3) := by decide +kernel
theorem dX7_out_39 : decode cX7_out 39 = .ok (.iload 4, 2) := by decide +kernel
theorem dX7_out_41 : decode cX7_out 41 = .ok (.iconst 2, 1) := by decide +kernel
theorem dX7_out_42 : decode cX7_out 42 = .ok (.if_icmp .ne 19, 3) := by decide +kernel
theorem dX7_out_45 : decode cX7_out 45 = .ok (.aload_n 0, 1) := by decide +kernel
theorem dX7_out_46 : decode cX7_out 46 = .ok (.getfield 19, 3) := by decide +kernel
theorem dX7_out_49 : decode cX7_out 49 = .ok (.getfield 150, 3) := by decide +kernel
theorem dX7_out_52 : decode cX7_out 52 = .ok (.iload_n 1, 1) := by decide +kernel
theorem dX7_out_53 : decode cX7_out 53 = .ok (.iaload, 1) := by decide +kernel
theorem dX7_out_54 : decode cX7_out 54 = .ok (.iload_n 2, 1) := by decide +kernel
theorem dX7_out_55 : decode cX7_out 55 = .ok (.if_icmp .eq 6, 3) := by decide +kernel
theorem dX7_out_58 : decode cX7_out 58 = .ok (.bipush (-3), 2) := by decide +kernel
theorem dX7_out_60 : decode cX7_out 60 = .ok (.ireturn, 1) := by decide +kernel
theorem dX7_out_61 : decode cX7_out 61 = .ok (.aload_n 0, 1) := by decide +kernel
theorem dX7_out_62 : decode cX7_out 62 = .ok (.getfield 19, 3) := by decide +kernel
theorem dX7_out_65 : decode cX7_out 65 = .ok (.iload_n 2, 1) := by decide +kernel
theorem dX7_out_66 : decode cX7_out 66 = .ok (.iload_n 1, 1) := by decide +kernel
theorem dX7_out_67 : decode cX7_out 67 = .ok (.invokevirtual 153, 3) := by decide +kernel
theorem dX7_out_70 : decode cX7_out 70 = .ok (.iconst 2, 1) := by decide +kernel
theorem dX7_out_71 : decode cX7_out 71 = .ok (.if_icmp .lt 6, 3) := by decide +kernel
theorem dX7_out_74 : decode cX7_out 74 = .ok (.bipush (-4), 2) := by decide +kernel
theorem dX7_out_76 : decode cX7_out 76 = .ok (.ireturn, 1) := by decide +kernel
theorem dX7_out_77 : decode cX7_out 77 = .ok (.aload_n 0, 1) := by decide +kernel
theorem dX7_out_78 : decode cX7_out 78 = .ok (.getfield 19, 3) := by decide +kernel
theorem dX7_out_81 : decode cX7_out 81 = .ok (.getfield 156, 3) := by decide +kernel
theorem dX7_out_84 : decode cX7_out 84 = .ok (.iload_n 3, 1) := by decide +kernel
theorem dX7_out_85 : decode cX7_out 85 = .ok (.invokestatic 159, 3) := by decide +kernel
theorem dX7_out_88 : decode cX7_out 88 = .ok (.aload_n 0, 1) := by decide +kernel
theorem dX7_out_89 : decode cX7_out 89 = .ok (.getfield 19, 3) := by decide +kernel
theorem dX7_out_92 : decode cX7_out 92 = .ok (.getfield 162, 3) := by decide +kernel
theorem dX7_out_95 : decode cX7_out 95 = .ok (.iload_n 2, 1) := by decide +kernel
theorem dX7_out_96 : decode cX7_out 96 = .ok (.iaload, 1) := by decide +kernel
theorem dX7_out_97 : decode cX7_out 97 = .ok (.if_icmp .le 6, 3) := by decide +kernel
theorem dX7_out_100 : decode cX7_out 100 = .ok (.bipush (-5), 2) := by decide +kernel
theorem dX7_out_102 : decode cX7_out 102 = .ok (.ireturn, 1) := by decide +kernel
theorem dX7_out_103 : decode cX7_out 103 = .ok (.aload_n 0, 1) := by decide +kernel
theorem dX7_out_104 : decode cX7_out 104 = .ok (.getfield 19, 3) := by decide +kernel
theorem dX7_out_107 : decode cX7_out 107 = .ok (.iload_n 1, 1) := by decide +kernel
theorem dX7_out_108 : decode cX7_out 108 = .ok (.iload_n 2, 1) := by decide +kernel
theorem dX7_out_109 : decode cX7_out 109 = .ok (.iload_n 3, 1) := by decide +kernel
theorem dX7_out_110 : decode cX7_out 110 = .ok (.invokevirtual 165, 3) := by decide +kernel
theorem dX7_out_113 : decode cX7_out 113 = .ok (.iconst 1, 1) := by decide +kernel
theorem dX7_out_114 : decode cX7_out 114 = .ok (.ireturn, 1) := by decide +kernel
set_option maxRecDepth 20000 in
theorem ggX7_hose_X7_isHose : GoodIn wsX7_hose wsX7_isHose := goodIn_r _ [6, 7, 8, 5, 9] (by decide +kernel) (by decide +kernel)
set_option maxRecDepth 20000 in
theorem gX7_hose_X7_isHose : GoodIn wsX7_hose (va_wsS RX7 144 yX7_isHose wsX7_isHose) := goodIn_app (goodIn_of _ (by decide +kernel)) ggX7_hose_X7_isHose
set_option maxRecDepth 20000 in
theorem ggX7_hose_X7_within : GoodIn wsX7_hose wsX7_within := goodIn_r _ [9] (by decide +kernel) (by decide +kernel)
set_option maxRecDepth 20000 in
theorem gX7_hose_X7_within : GoodIn wsX7_hose (va_wsS RX7 48 yX7_within wsX7_within) := goodIn_app (goodIn_of _ (by decide +kernel)) ggX7_hose_X7_within
set_option maxRecDepth 20000 in
theorem ggX7_hose_X2_countOn : GoodIn wsX7_hose wsX2_countOn := goodIn_r _ [14, 15, 16, 17, 13, 18, 19, 26, 27, 28, 29, 30, 31, 32, 33] (by decide +kernel) (by decide +kernel)
set_option maxRecDepth 20000 in
theorem gX7_hose_X2_countOn : GoodIn wsX7_hose (wsV RX7 169 RX2 yX2_countOn wsX2_countOn) := goodIn_app (goodIn_of _ (by decide +kernel)) ggX7_hose_X2_countOn
theorem dX7_hose_0 : decode cX7_hose 0 = .ok (.iload_n 1, 1) := by decide +kernel
theorem dX7_hose_1 : decode cX7_hose 1 = .ok (.invokestatic 144, 3) := by decide +kernel
theorem dX7_hose_4 : decode cX7_hose 4 = .ok (.ifCond .ne 5, 3) := by decide +kernel
theorem dX7_hose_7 : decode cX7_hose 7 = .ok (.iconst (-1), 1) := by decide +kernel
theorem dX7_hose_8 : decode cX7_hose 8 = .ok (.ireturn, 1) := by decide +kernel
theorem dX7_hose_9 : decode cX7_hose 9 = .ok (.iload_n 2, 1) := by decide +kernel
theorem dX7_hose_10 : decode cX7_hose 10 = .ok (.iconst 1, 1) := by decide +kernel
theorem dX7_hose_11 : decode cX7_hose 11 = .ok (.bipush 12, 2) := by decide +kernel
theorem dX7_hose_13 : decode cX7_hose 13 = .ok (.invokestatic 48, 3) := by decide +kernel
theorem dX7_hose_16 : decode cX7_hose 16 = .ok (.ifCond .ne 6, 3) := by decide +kernel
theorem dX7_hose_19 : decode cX7_hose 19 = .ok (.bipush (-2), 2) := by decide +kernel
theorem dX7_hose_21 : decode cX7_hose 21 = .ok (.ireturn, 1) := by decide +kernel
theorem dX7_hose_22 : decode cX7_hose 22 = .ok (.aload_n 0, 1) := by decide +kernel
theorem dX7_hose_23 : decode cX7_hose 23 = .ok (.getfield 19, 3) := by decide +kernel
theorem dX7_hose_26 : decode cX7_hose 26 = .ok (.iload_n 1, 1) := by decide +kernel
theorem dX7_hose_27 : decode cX7_hose 27 = .ok (.invokevirtual 169, 3) := by decide +kernel
theorem dX7_hose_30 : decode cX7_hose 30 = .ok (.ifCond .le 6, 3) := by decide +kernel
theorem dX7_hose_33 : decode cX7_hose 33 = .ok (.bipush (-3), 2) := by decide +kernel
theorem dX7_hose_35 : decode cX7_hose 35 = .ok (.ireturn, 1) := by decide +kernel
theorem dX7_hose_36 : decode cX7_hose 36 = .ok (.aload_n 0, 1) := by decide +kernel
theorem dX7_hose_37 : decode cX7_hose 37 = .ok (.getfield 19, 3) := by decide +kernel
theorem dX7_hose_40 : decode cX7_hose 40 = .ok (.getfield 162, 3) := by decide +kernel
theorem dX7_hose_43 : decode cX7_hose 43 = .ok (.iload_n 1, 1) := by decide +kernel
theorem dX7_hose_44 : decode cX7_hose 44 = .ok (.iaload, 1) := by decide +kernel
theorem dX7_hose_45 : decode cX7_hose 45 = .ok (.istore_n 3, 1) := by decide +kernel
theorem dX7_hose_46 : decode cX7_hose 46 = .ok (.aload_n 0, 1) := by decide +kernel
theorem dX7_hose_47 : decode cX7_hose 47 = .ok (.getfield 19, 3) := by decide +kernel
theorem dX7_hose_50 : decode cX7_hose 50 = .ok (.getfield 162, 3) := by decide +kernel
theorem dX7_hose_53 : decode cX7_hose 53 = .ok (.iload_n 1, 1) := by decide +kernel
theorem dX7_hose_54 : decode cX7_hose 54 = .ok (.iload_n 2, 1) := by decide +kernel
theorem dX7_hose_55 : decode cX7_hose 55 = .ok (.iastore, 1) := by decide +kernel
theorem dX7_hose_56 : decode cX7_hose 56 = .ok (.iload_n 3, 1) := by decide +kernel
theorem dX7_hose_57 : decode cX7_hose 57 = .ok (.ireturn, 1) := by decide +kernel
set_option maxRecDepth 20000 in
theorem ggX7_stay_X7_within : GoodIn wsX7_stay wsX7_within := goodIn_r _ [6] (by decide +kernel) (by decide +kernel)
set_option maxRecDepth 20000 in
theorem gX7_stay_X7_within : GoodIn wsX7_stay (va_wsS RX7 48 yX7_within wsX7_within) := goodIn_app (goodIn_of _ (by decide +kernel)) ggX7_stay_X7_within
theorem dX7_stay_0 : decode cX7_stay 0 = .ok (.iload_n 1, 1) := by decide +kernel
theorem dX7_stay_1 : decode cX7_stay 1 = .ok (.iconst 1, 1) := by decide +kernel
theorem dX7_stay_2 : decode cX7_stay 2 = .ok (.bipush 60, 2) := by decide +kernel
theorem dX7_stay_4 : decode cX7_stay 4 = .ok (.invokestatic 48, 3) := by decide +kernel
theorem dX7_stay_7 : decode cX7_stay 7 = .ok (.ifCond .ne 6, 3) := by decide +kernel
theorem dX7_stay_10 : decode cX7_stay 10 = .ok (.bipush (-2), 2) := by decide +kernel
theorem dX7_stay_12 : decode cX7_stay 12 = .ok (.ireturn, 1) := by decide +kernel
theorem dX7_stay_13 : decode cX7_stay 13 = .ok (.aload_n 0, 1) := by decide +kernel
theorem dX7_stay_14 : decode cX7_stay 14 = .ok (.getfield 19, 3) := by decide +kernel
theorem dX7_stay_17 : decode cX7_stay 17 = .ok (.getfield 172, 3) := by decide +kernel
theorem dX7_stay_20 : decode cX7_stay 20 = .ok (.istore_n 2, 1) := by decide +kernel
theorem dX7_stay_21 : decode cX7_stay 21 = .ok (.aload_n 0, 1) := by decide +kernel
theorem dX7_stay_22 : decode cX7_stay 22 = .ok (.getfield 19, 3) := by decide +kernel
theorem dX7_stay_25 : decode cX7_stay 25 = .ok (.iload_n 1, 1) := by decide +kernel
theorem dX7_stay_26 : decode cX7_stay 26 = .ok (.putfield 172, 3) := by decide +kernel
theorem dX7_stay_29 : decode cX7_stay 29 = .ok (.iload_n 2, 1) := by decide +kernel
theorem dX7_stay_30 : decode cX7_stay 30 = .ok (.ireturn, 1) := by decide +kernel
set_option maxRecDepth 20000 in
theorem ggX7_hang_X7_isSquare : GoodIn wsX7_hang wsX7_isSquare := goodIn_r _ [6, 7, 8, 5, 9] (by decide +kernel) (by decide +kernel)
set_option maxRecDepth 20000 in
theorem gX7_hang_X7_isSquare : GoodIn wsX7_hang (va_wsS RX7 147 yX7_isSquare wsX7_isSquare) := goodIn_app (goodIn_of _ (by decide +kernel)) ggX7_hang_X7_isSquare
set_option maxRecDepth 20000 in
theorem ggX7_hang_X2_anyOut : GoodIn wsX7_hang wsX2_anyOut := goodIn_r _ [14, 15, 22, 23, 24, 25, 26, 27, 28, 29] (by decide +kernel) (by decide +kernel)
set_option maxRecDepth 20000 in
theorem gX7_hang_X2_anyOut : GoodIn wsX7_hang (wsV RX7 66 RX2 yX2_anyOut wsX2_anyOut) := goodIn_app (goodIn_of _ (by decide +kernel)) ggX7_hang_X2_anyOut
theorem dX7_hang_0 : decode cX7_hang 0 = .ok (.iload_n 1, 1) := by decide +kernel
theorem dX7_hang_1 : decode cX7_hang 1 = .ok (.invokestatic 147, 3) := by decide +kernel
theorem dX7_hang_4 : decode cX7_hang 4 = .ok (.ifCond .ne 5, 3) := by decide +kernel
theorem dX7_hang_7 : decode cX7_hang 7 = .ok (.iconst (-1), 1) := by decide +kernel
theorem dX7_hang_8 : decode cX7_hang 8 = .ok (.ireturn, 1) := by decide +kernel
theorem dX7_hang_9 : decode cX7_hang 9 = .ok (.aload_n 0, 1) := by decide +kernel
theorem dX7_hang_10 : decode cX7_hang 10 = .ok (.getfield 19, 3) := by decide +kernel
theorem dX7_hang_13 : decode cX7_hang 13 = .ok (.invokevirtual 66, 3) := by decide +kernel
theorem dX7_hang_16 : decode cX7_hang 16 = .ok (.ifCond .eq 6, 3) := by decide +kernel
theorem dX7_hang_19 : decode cX7_hang 19 = .ok (.bipush (-3), 2) := by decide +kernel
theorem dX7_hang_21 : decode cX7_hang 21 = .ok (.ireturn, 1) := by decide +kernel
theorem dX7_hang_22 : decode cX7_hang 22 = .ok (.aload_n 0, 1) := by decide +kernel
theorem dX7_hang_23 : decode cX7_hang 23 = .ok (.getfield 19, 3) := by decide +kernel
theorem dX7_hang_26 : decode cX7_hang 26 = .ok (.getfield 156, 3) := by decide +kernel
theorem dX7_hang_29 : decode cX7_hang 29 = .ok (.istore_n 2, 1) := by decide +kernel
theorem dX7_hang_30 : decode cX7_hang 30 = .ok (.aload_n 0, 1) := by decide +kernel
theorem dX7_hang_31 : decode cX7_hang 31 = .ok (.getfield 19, 3) := by decide +kernel
theorem dX7_hang_34 : decode cX7_hang 34 = .ok (.iload_n 1, 1) := by decide +kernel
theorem dX7_hang_35 : decode cX7_hang 35 = .ok (.putfield 156, 3) := by decide +kernel
theorem dX7_hang_38 : decode cX7_hang 38 = .ok (.iload_n 2, 1) := by decide +kernel
theorem dX7_hang_39 : decode cX7_hang 39 = .ok (.ireturn, 1) := by decide +kernel
set_option maxRecDepth 20000 in
theorem ggX7_man_X7_isMan : GoodIn wsX7_man wsX7_isMan := goodIn_r _ [10, 11, 12, 9, 13] (by decide +kernel) (by decide +kernel)
set_option maxRecDepth 20000 in
theorem gX7_man_X7_isMan : GoodIn wsX7_man (va_wsS RX7 132 yX7_isMan wsX7_isMan) := goodIn_app (goodIn_of _ (by decide +kernel)) ggX7_man_X7_isMan
theorem dX7_man_0 : decode cX7_man 0 = .ok (.iload_n 1, 1) := by decide +kernel
theorem dX7_man_1 : decode cX7_man 1 = .ok (.invokestatic 132, 3) := by decide +kernel
theorem dX7_man_4 : decode cX7_man 4 = .ok (.ifCond .ne 5, 3) := by decide +kernel
theorem dX7_man_7 : decode cX7_man 7 = .ok (.iconst (-1), 1) := by decide +kernel
theorem dX7_man_8 : decode cX7_man 8 = .ok (.ireturn, 1) := by decide +kernel
theorem dX7_man_9 : decode cX7_man 9 = .ok (.iload_n 2, 1) := by decide +kernel
theorem dX7_man_10 : decode cX7_man 10 = .ok (.tableswitch 84 0 4 #[34, 44, 54, 64, 74], 34) := by decide +kernel
theorem dX7_man_44 : decode cX7_man 44 = .ok (.aload_n 0, 1) := by decide +kernel
theorem dX7_man_45 : decode cX7_man 45 = .ok (.getfield 19, 3) := by decide +kernel
theorem dX7_man_48 : decode cX7_man 48 = .ok (.getfield 136, 3) := by decide +kernel
theorem dX7_man_51 : decode cX7_man 51 = .ok (.iload_n 1, 1) := by decide +kernel
theorem dX7_man_52 : decode cX7_man 52 = .ok (.iaload, 1) := by decide +kernel
theorem dX7_man_53 : decode cX7_man 53 = .ok (.ireturn, 1) := by decide +kernel
theorem dX7_man_54 : decode cX7_man 54 = .ok (.aload_n 0, 1) := by decide +kernel
theorem dX7_man_55 : decode cX7_man 55 = .ok (.getfield 19, 3) := by decide +kernel
theorem dX7_man_58 : decode cX7_man 58 = .ok (.getfield 175, 3) := by decide +kernel
theorem dX7_man_61 : decode cX7_man 61 = .ok (.iload_n 1, 1) := by decide +kernel
theorem dX7_man_62 : decode cX7_man 62 = .ok (.iaload, 1) := by decide +kernel
theorem dX7_man_63 : decode cX7_man 63 = .ok (.ireturn, 1) := by decide +kernel
theorem dX7_man_64 : decode cX7_man 64 = .ok (.aload_n 0, 1) := by decide +kernel
theorem dX7_man_65 : decode cX7_man 65 = .ok (.getfield 19, 3) := by decide +kernel
theorem dX7_man_68 : decode cX7_man 68 = .ok (.getfield 150, 3) := by decide +kernel
theorem dX7_man_71 : decode cX7_man 71 = .ok (.iload_n 1, 1) := by decide +kernel
theorem dX7_man_72 : decode cX7_man 72 = .ok (.iaload, 1) := by decide +kernel
theorem dX7_man_73 : decode cX7_man 73 = .ok (.ireturn, 1) := by decide +kernel
theorem dX7_man_74 : decode cX7_man 74 = .ok (.aload_n 0, 1) := by decide +kernel
theorem dX7_man_75 : decode cX7_man 75 = .ok (.getfield 19, 3) := by decide +kernel
theorem dX7_man_78 : decode cX7_man 78 = .ok (.getfield 178, 3) := by decide +kernel
theorem dX7_man_81 : decode cX7_man 81 = .ok (.iload_n 1, 1) := by decide +kernel
theorem dX7_man_82 : decode cX7_man 82 = .ok (.iaload, 1) := by decide +kernel
theorem dX7_man_83 : decode cX7_man 83 = .ok (.ireturn, 1) := by decide +kernel
theorem dX7_man_84 : decode cX7_man 84 = .ok (.aload_n 0, 1) := by decide +kernel
theorem dX7_man_85 : decode cX7_man 85 = .ok (.getfield 19, 3) := by decide +kernel
theorem dX7_man_88 : decode cX7_man 88 = .ok (.getfield 181, 3) := by decide +kernel
theorem dX7_man_91 : decode cX7_man 91 = .ok (.iload_n 1, 1) := by decide +kernel
theorem dX7_man_92 : decode cX7_man 92 = .ok (.iaload, 1) := by decide +kernel
theorem dX7_man_93 : decode cX7_man 93 = .ok (.ireturn, 1) := by decide +kernel
theorem dX7_man_94 : decode cX7_man 94 = .ok (.bipush (-2), 2) := by decide +kernel
theorem dX7_man_96 : decode cX7_man 96 = .ok (.ireturn, 1) := by decide +kernel
set_option maxRecDepth 20000 in
theorem ggX7_thing_X7_isSquare : GoodIn wsX7_thing wsX7_isSquare := goodIn_r _ [6, 7, 8, 5, 9] (by decide +kernel) (by decide +kernel)
set_option maxRecDepth 20000 in
theorem gX7_thing_X7_isSquare : GoodIn wsX7_thing (va_wsS RX7 147 yX7_isSquare wsX7_isSquare) := goodIn_app (goodIn_of _ (by decide +kernel)) ggX7_thing_X7_isSquare
set_option maxRecDepth 20000 in
theorem ggX7_thing_X7_within : GoodIn wsX7_thing wsX7_within := goodIn_r _ [9] (by decide +kernel) (by decide +kernel)
set_option maxRecDepth 20000 in
theorem gX7_thing_X7_within : GoodIn wsX7_thing (va_wsS RX7 48 yX7_within wsX7_within) := goodIn_app (goodIn_of _ (by decide +kernel)) ggX7_thing_X7_within
set_option maxRecDepth 20000 in
theorem ggX7_thing_X6_add : GoodIn wsX7_thing wsX6_add := goodIn_r _ [14, 15, 16, 17, 18, 19, 20, 27, 28, 29, 30, 31, 32, 33, 34, 35, 36, 37, 38] (by decide +kernel) (by decide +kernel)
set_option maxRecDepth 20000 in
theorem gX7_thing_X6_add : GoodIn wsX7_thing (wsV RX7 187 RX6 yX6_add wsX6_add) := goodIn_app (goodIn_of _ (by decide +kernel)) ggX7_thing_X6_add
theorem dX7_thing_0 : decode cX7_thing 0 = .ok (.iload_n 1, 1) := by decide +kernel
theorem dX7_thing_1 : decode cX7_thing 1 = .ok (.invokestatic 147, 3) := by decide +kernel
theorem dX7_thing_4 : decode cX7_thing 4 = .ok (.ifCond .ne 5, 3) := by decide +kernel
theorem dX7_thing_7 : decode cX7_thing 7 = .ok (.iconst (-1), 1) := by decide +kernel
theorem dX7_thing_8 : decode cX7_thing 8 = .ok (.ireturn, 1) := by decide +kernel
theorem dX7_thing_9 : decode cX7_thing 9 = .ok (.iload_n 2, 1) := by decide +kernel
theorem dX7_thing_10 : decode cX7_thing 10 = .ok (.iconst 0, 1) := by decide +kernel
theorem dX7_thing_11 : decode cX7_thing 11 = .ok (.sipush 1000, 3) := by decide +kernel
theorem dX7_thing_14 : decode cX7_thing 14 = .ok (.invokestatic 48, 3) := by decide +kernel
theorem dX7_thing_17 : decode cX7_thing 17 = .ok (.ifCond .eq 25, 3) := by decide +kernel
theorem dX7_thing_20 : decode cX7_thing 20 = .ok (.iload_n 3, 1) := by decide +kernel
theorem dX7_thing_21 : decode cX7_thing 21 = .ok (.iconst 1, 1) := by decide +kernel
theorem dX7_thing_22 : decode cX7_thing 22 = .ok (.sipush 200, 3) := by decide +kernel
theorem dX7_thing_25 : decode cX7_thing 25 = .ok (.invokestatic 48, 3) := by decide +kernel
theorem dX7_thing_28 : decode cX7_thing 28 = .ok (.ifCond .eq 14, 3) := by decide +kernel
theorem dX7_thing_31 : decode cX7_thing 31 = .ok (.iload 4, 2) := by decide +kernel
theorem dX7_thing_33 : decode cX7_thing 33 = .ok (.iconst 0, 1) := by decide +kernel
theorem dX7_thing_34 : decode cX7_thing 34 = .ok (.bipush 100, 2) := by decide +kernel
theorem dX7_thing_36 : decode cX7_thing 36 = .ok (.invokestatic 48, 3) := by decide +kernel
theorem dX7_thing_39 : decode cX7_thing 39 = .ok (.ifCond .ne 6, 3) := by decide +kernel
theorem dX7_thing_42 : decode cX7_thing 42 = .ok (.bipush (-2), 2) := by decide +kernel
theorem dX7_thing_44 : decode cX7_thing 44 = .ok (.ireturn, 1) := by decide +kernel
theorem dX7_thing_45 : decode cX7_thing 45 = .ok (.aload_n 0, 1) := by decide +kernel
theorem dX7_thing_46 : decode cX7_thing 46 = .ok (.getfield 26, 3) := by decide +kernel
theorem dX7_thing_49 : decode cX7_thing 49 = .ok (.getfield 184, 3) := by decide +kernel
theorem dX7_thing_52 : decode cX7_thing 52 = .ok (.bipush 12, 2) := by decide +kernel
theorem dX7_thing_54 : decode cX7_thing 54 = .ok (.if_icmp .lt 6, 3) := by decide +kernel
theorem dX7_thing_57 : decode cX7_thing 57 = .ok (.bipush (-4), 2) := by decide +kernel
theorem dX7_thing_59 : decode cX7_thing 59 = .ok (.ireturn, 1) := by decide +kernel
theorem dX7_thing_60 : decode cX7_thing 60 = .ok (.aload_n 0, 1) := by decide +kernel
theorem dX7_thing_61 : decode cX7_thing 61 = .ok (.getfield 26, 3) := by decide +kernel
theorem dX7_thing_64 : decode cX7_thing 64 = .ok (.iload_n 1, 1) := by decide +kernel
theorem dX7_thing_65 : decode cX7_thing 65 = .ok (.iload_n 2, 1) := by decide +kernel
theorem dX7_thing_66 : decode cX7_thing 66 = .ok (.iload_n 3, 1) := by decide +kernel
theorem dX7_thing_67 : decode cX7_thing 67 = .ok (.iload 4, 2) := by decide +kernel
theorem dX7_thing_69 : decode cX7_thing 69 = .ok (.invokevirtual 187, 3) := by decide +kernel
theorem dX7_thing_72 : decode cX7_thing 72 = .ok (.ireturn, 1) := by decide +kernel
set_option maxRecDepth 20000 in
theorem ggX7_under_X6_has : GoodIn wsX7_under wsX6_has := goodIn_r _ [7, 8, 9, 10, 11, 31, 32, 33, 34, 35, 36, 37, 38, 39, 40, 41, 42] (by decide +kernel) (by decide +kernel)
set_option maxRecDepth 20000 in
theorem gX7_under_X6_has : GoodIn wsX7_under (wsV RX7 191 RX6 yX6_has wsX6_has) := goodIn_app (goodIn_of _ (by decide +kernel)) ggX7_under_X6_has
set_option maxRecDepth 20000 in
theorem ggX7_under_X6_liesBelow : GoodIn wsX7_under wsX6_liesBelow := goodIn_r _ [15, 8, 16, 17, 10, 18, 31, 32, 33, 34, 35, 36, 37, 38, 39, 40, 41, 42] (by decide +kernel) (by decide +kernel)
set_option maxRecDepth 20000 in
theorem gX7_under_X6_liesBelow : GoodIn wsX7_under (wsV RX7 194 RX6 yX6_liesBelow wsX6_liesBelow) := goodIn_app (goodIn_of _ (by decide +kernel)) ggX7_under_X6_liesBelow
set_option maxRecDepth 20000 in
theorem ggX7_under_X7_bit : GoodIn wsX7_under wsX7_bit := goodIn_r _ [18] (by decide +kernel) (by decide +kernel)
set_option maxRecDepth 20000 in
theorem gX7_under_X7_bit : GoodIn wsX7_under (va_wsS RX7 201 yX7_bit wsX7_bit) := goodIn_app (goodIn_of _ (by decide +kernel)) ggX7_under_X7_bit
set_option maxRecDepth 20000 in
theorem ggX7_under_X6_layUnder : GoodIn wsX7_under wsX6_layUnder := goodIn_r _ [23, 16, 24, 31, 32, 33, 34, 35, 36, 37, 38, 39, 40, 41, 42] (by decide +kernel) (by decide +kernel)
set_option maxRecDepth 20000 in
theorem gX7_under_X6_layUnder : GoodIn wsX7_under (wsV RX7 204 RX6 yX6_layUnder wsX6_layUnder) := goodIn_app (goodIn_of _ (by decide +kernel)) ggX7_under_X6_layUnder
theorem dX7_under_0 : decode cX7_under 0 = .ok (.aload_n 0, 1) := by decide +kernel
theorem dX7_under_1 : decode cX7_under 1 = .ok (.getfield 26, 3) := by decide +kernel
theorem dX7_under_4 : decode cX7_under 4 = .ok (.iload_n 1, 1) := by decide +kernel
theorem dX7_under_5 : decode cX7_under 5 = .ok (.invokevirtual 191, 3) := by decide +kernel
theorem dX7_under_8 : decode cX7_under 8 = .ok (.ifCond .eq 19, 3) := by decide +kernel
theorem dX7_under_11 : decode cX7_under 11 = .ok (.aload_n 0, 1) := by decide +kernel
theorem dX7_under_12 : decode cX7_under 12 = .ok (.getfield 26, 3) := by decide +kernel
theorem dX7_under_15 : decode cX7_under 15 = .ok (.iload_n 2, 1) := by decide +kernel
theorem dX7_under_16 : decode cX7_under 16 = .ok (.invokevirtual 191, 3) := by decide +kernel
theorem dX7_under_19 : decode cX7_under 19 = .ok (.ifCond .eq 8, 3) := by decide +kernel
theorem dX7_under_22 : decode cX7_under 22 = .ok (.iload_n 1, 1) := by decide +kernel
theorem dX7_under_23 : decode cX7_under 23 = .ok (.iload_n 2, 1) := by decide +kernel
theorem dX7_under_24 : decode cX7_under 24 = .ok (.if_icmp .ne 5, 3) := by decide +kernel
theorem dX7_under_27 : decode cX7_under 27 = .ok (.iconst (-1), 1) := by decide +kernel
theorem dX7_under_28 : decode cX7_under 28 = .ok (.ireturn, 1) := by decide +kernel
theorem dX7_under_29 : decode cX7_under 29 = .ok (.iload_n 3, 1) := by decide +kernel
theorem dX7_under_30 : decode cX7_under 30 = .ok (.ifCond .eq 18, 3) := by decide +kernel
theorem dX7_under_33 : decode cX7_under 33 = .ok (.aload_n 0, 1) := by decide +kernel
theorem dX7_under_34 : decode cX7_under 34 = .ok (.getfield 26, 3) := by decide +kernel
theorem dX7_under_37 : decode cX7_under 37 = .ok (.iload_n 2, 1) := by decide +kernel
theorem dX7_under_38 : decode cX7_under 38 = .ok (.iload_n 1, 1) := by decide +kernel
theorem dX7_under_39 : decode cX7_under 39 = .ok (.invokevirtual 194, 3) := by decide +kernel
theorem dX7_under_42 : decode cX7_under 42 = .ok (.ifCond .eq 6, 3) := by decide +kernel
theorem dX7_under_45 : decode cX7_under 45 = .ok (.bipush (-5), 2) := by decide +kernel
theorem dX7_under_47 : decode cX7_under 47 = .ok (.ireturn, 1) := by decide +kernel
theorem dX7_under_48 : decode cX7_under 48 = .ok (.aload_n 0, 1) := by decide +kernel
theorem dX7_under_49 : decode cX7_under 49 = .ok (.getfield 26, 3) := by decide +kernel
theorem dX7_under_52 : decode cX7_under 52 = .ok (.getfield 198, 3) := by decide +kernel
theorem dX7_under_55 : decode cX7_under 55 = .ok (.iload_n 1, 1) := by decide +kernel
theorem dX7_under_56 : decode cX7_under 56 = .ok (.iaload, 1) := by decide +kernel
theorem dX7_under_57 : decode cX7_under 57 = .ok (.iload_n 2, 1) := by decide +kernel
theorem dX7_under_58 : decode cX7_under 58 = .ok (.invokestatic 201, 3) := by decide +kernel
theorem dX7_under_61 : decode cX7_under 61 = .ok (.istore 4, 2) := by decide +kernel
theorem dX7_under_63 : decode cX7_under 63 = .ok (.aload_n 0, 1) := by decide +kernel
theorem dX7_under_64 : decode cX7_under 64 = .ok (.getfield 26, 3) := by decide +kernel
theorem dX7_under_67 : decode cX7_under 67 = .ok (.iload_n 1, 1) := by decide +kernel
theorem dX7_under_68 : decode cX7_under 68 = .ok (.iload_n 2, 1) := by decide +kernel
theorem dX7_under_69 : decode cX7_under 69 = .ok (.iload_n 3, 1) := by decide +kernel
theorem dX7_under_70 : decode cX7_under 70 = .ok (.invokevirtual 204, 3) := by decide +kernel
theorem dX7_under_73 : decode cX7_under 73 = .ok (.iload 4, 2) := by decide +kernel
theorem dX7_under_75 : decode cX7_under 75 = .ok (.ireturn, 1) := by decide +kernel
set_option maxRecDepth 20000 in
theorem ggX7_tangle_X6_has : GoodIn wsX7_tangle wsX6_has := goodIn_r _ [7, 8, 9, 10, 11, 27, 28, 29, 30, 31, 32, 33, 34, 35, 36, 37, 38] (by decide +kernel) (by decide +kernel)
set_option maxRecDepth 20000 in
theorem gX7_tangle_X6_has : GoodIn wsX7_tangle (wsV RX7 191 RX6 yX6_has wsX6_has) := goodIn_app (goodIn_of _ (by decide +kernel)) ggX7_tangle_X6_has
set_option maxRecDepth 20000 in
theorem ggX7_tangle_X7_bit : GoodIn wsX7_tangle wsX7_bit := goodIn_r _ [14] (by decide +kernel) (by decide +kernel)
set_option maxRecDepth 20000 in
theorem gX7_tangle_X7_bit : GoodIn wsX7_tangle (va_wsS RX7 201 yX7_bit wsX7_bit) := goodIn_app (goodIn_of _ (by decide +kernel)) ggX7_tangle_X7_bit
set_option maxRecDepth 20000 in
theorem ggX7_tangle_X6_markTangled : GoodIn wsX7_tangle wsX6_markTangled := goodIn_r _ [18, 19, 20, 27, 28, 29, 30, 31, 32, 33, 34, 35, 36, 37, 38] (by decide +kernel) (by decide +kernel)
set_option maxRecDepth 20000 in
theorem gX7_tangle_X6_markTangled : GoodIn wsX7_tangle (wsV RX7 211 RX6 yX6_markTangled wsX6_markTangled) := goodIn_app (goodIn_of _ (by decide +kernel)) ggX7_tangle_X6_markTangled
theorem dX7_tangle_0 : decode cX7_tangle 0 = .ok (.aload_n 0, 1) := by decide +kernel
theorem dX7_tangle_1 : decode cX7_tangle 1 = .ok (.getfield 26, 3) := by decide +kernel
theorem dX7_tangle_4 : decode cX7_tangle 4 = .ok (.iload_n 1, 1) := by decide +kernel
theorem dX7_tangle_5 : decode cX7_tangle 5 = .ok (.invokevirtual 191, 3) := by decide +kernel
theorem dX7_tangle_8 : decode cX7_tangle 8 = .ok (.ifCond .ne 5, 3) := by decide +kernel
theorem dX7_tangle_11 : decode cX7_tangle 11 = .ok (.iconst (-1), 1) := by decide +kernel
theorem dX7_tangle_12 : decode cX7_tangle 12 = .ok (.ireturn, 1) := by decide +kernel
theorem dX7_tangle_13 : decode cX7_tangle 13 = .ok (.aload_n 0, 1) := by decide +kernel
theorem dX7_tangle_14 : decode cX7_tangle 14 = .ok (.getfield 26, 3) := by decide +kernel
theorem dX7_tangle_17 : decode cX7_tangle 17 = .ok (.getfield 208, 3) := by decide +kernel
theorem dX7_tangle_20 : decode cX7_tangle 20 = .ok (.iload_n 1, 1) := by decide +kernel
theorem dX7_tangle_21 : decode cX7_tangle 21 = .ok (.invokestatic 201, 3) := by decide +kernel
theorem dX7_tangle_24 : decode cX7_tangle 24 = .ok (.istore_n 3, 1) := by decide +kernel
theorem dX7_tangle_25 : decode cX7_tangle 25 = .ok (.aload_n 0, 1) := by decide +kernel
theorem dX7_tangle_26 : decode cX7_tangle 26 = .ok (.getfield 26, 3) := by decide +kernel
theorem dX7_tangle_29 : decode cX7_tangle 29 = .ok (.iload_n 1, 1) := by decide +kernel
theorem dX7_tangle_30 : decode cX7_tangle 30 = .ok (.iload_n 2, 1) := by decide +kernel
theorem dX7_tangle_31 : decode cX7_tangle 31 = .ok (.invokevirtual 211, 3) := by decide +kernel
theorem dX7_tangle_34 : decode cX7_tangle 34 = .ok (.iload_n 3, 1) := by decide +kernel
theorem dX7_tangle_35 : decode cX7_tangle 35 = .ok (.ireturn, 1) := by decide +kernel
set_option maxRecDepth 20000 in
theorem ggX7_work_X7_isMan : GoodIn wsX7_work wsX7_isMan := goodIn_r _ [7, 8, 9, 6, 10] (by decide +kernel) (by decide +kernel)
set_option maxRecDepth 20000 in
theorem gX7_work_X7_isMan : GoodIn wsX7_work (va_wsS RX7 132 yX7_isMan wsX7_isMan) := goodIn_app (goodIn_of _ (by decide +kernel)) ggX7_work_X7_isMan
set_option maxRecDepth 20000 in
theorem ggX7_work_X6_has : GoodIn wsX7_work wsX6_has := goodIn_r _ [15, 16, 9, 6, 10, 31, 32, 33, 34, 35, 36, 37, 38, 39, 40, 41, 42] (by decide +kernel) (by decide +kernel)
set_option maxRecDepth 20000 in
theorem gX7_work_X6_has : GoodIn wsX7_work (wsV RX7 191 RX6 yX6_has wsX6_has) := goodIn_app (goodIn_of _ (by decide +kernel)) ggX7_work_X6_has
theorem dX7_work_0 : decode cX7_work 0 = .ok (.iload_n 1, 1) := by decide +kernel
theorem dX7_work_1 : decode cX7_work 1 = .ok (.invokestatic 132, 3) := by decide +kernel
theorem dX7_work_4 : decode cX7_work 4 = .ok (.ifCond .ne 5, 3) := by decide +kernel
theorem dX7_work_7 : decode cX7_work 7 = .ok (.iconst (-1), 1) := by decide +kernel
theorem dX7_work_8 : decode cX7_work 8 = .ok (.ireturn, 1) := by decide +kernel
theorem dX7_work_9 : decode cX7_work 9 = .ok (.iload_n 2, 1) := by decide +kernel
theorem dX7_work_10 : decode cX7_work 10 = .ok (.iconst (-1), 1) := by decide +kernel
theorem dX7_work_11 : decode cX7_work 11 = .ok (.if_icmp .eq 16, 3) := by decide +kernel
theorem dX7_work_14 : decode cX7_work 14 = .ok (.aload_n 0, 1) := by decide +kernel
theorem dX7_work_15 : decode cX7_work 15 = .ok (.getfield 26, 3) := by decide +kernel
theorem dX7_work_18 : decode cX7_work 18 = .ok (.iload_n 2, 1) := by decide +kernel
theorem dX7_work_19 : decode cX7_work 19 = .ok (.invokevirtual 191, 3) := by decide +kernel
theorem dX7_work_22 : decode cX7_work 22 = .ok (.ifCond .ne 5, 3) := by decide +kernel
theorem dX7_work_25 : decode cX7_work 25 = .ok (.iconst (-1), 1) := by decide +kernel
theorem dX7_work_26 : decode cX7_work 26 = .ok (.ireturn, 1) := by decide +kernel
theorem dX7_work_27 : decode cX7_work 27 = .ok (.aload_n 0, 1) := by decide +kernel
theorem dX7_work_28 : decode cX7_work 28 = .ok (.getfield 19, 3) := by decide +kernel
theorem dX7_work_31 : decode cX7_work 31 = .ok (.getfield 181, 3) := by decide +kernel
theorem dX7_work_34 : decode cX7_work 34 = .ok (.iload_n 1, 1) := by decide +kernel
theorem dX7_work_35 : decode cX7_work 35 = .ok (.iaload, 1) := by decide +kernel
theorem dX7_work_36 : decode cX7_work 36 = .ok (.istore_n 3, 1) := by decide +kernel
theorem dX7_work_37 : decode cX7_work 37 = .ok (.aload_n 0, 1) := by decide +kernel
theorem dX7_work_38 : decode cX7_work 38 = .ok (.getfield 19, 3) := by decide +kernel
theorem dX7_work_41 : decode cX7_work 41 = .ok (.getfield 181, 3) := by decide +kernel
theorem dX7_work_44 : decode cX7_work 44 = .ok (.iload_n 1, 1) := by decide +kernel
theorem dX7_work_45 : decode cX7_work 45 = .ok (.iload_n 2, 1) := by decide +kernel
theorem dX7_work_46 : decode cX7_work 46 = .ok (.iconst (-1), 1) := by decide +kernel
theorem dX7_work_47 : decode cX7_work 47 = .ok (.if_icmp .ne 8, 3) := by decide +kernel
theorem dX7_work_50 : decode cX7_work 50 = .ok (.bipush (-6), 2) := by decide +kernel
theorem dX7_work_52 : decode cX7_work 52 = .ok (.goto 4, 3) := by decide +kernel
theorem dX7_work_55 : decode cX7_work 55 = .ok (.iload_n 2, 1) := by decide +kernel
theorem dX7_work_56 : decode cX7_work 56 = .ok (.iastore, 1) := by decide +kernel
theorem dX7_work_57 : decode cX7_work 57 = .ok (.iload_n 3, 1) := by decide +kernel
theorem dX7_work_58 : decode cX7_work 58 = .ok (.ireturn, 1) := by decide +kernel
set_option maxRecDepth 20000 in
theorem ggX7_ofThing_X6_has : GoodIn wsX7_ofThing wsX6_has := goodIn_r _ [14, 15, 16, 17, 18, 34, 35, 36, 37, 38, 39, 40, 41, 42, 43, 44, 45] (by decide +kernel) (by decide +kernel)
set_option maxRecDepth 20000 in
theorem gX7_ofThing_X6_has : GoodIn wsX7_ofThing (wsV RX7 191 RX6 yX6_has wsX6_has) := goodIn_app (goodIn_of _ (by decide +kernel)) ggX7_ofThing_X6_has
set_option maxRecDepth 20000 in
theorem ggX7_ofThing_X7_bit : GoodIn wsX7_ofThing wsX7_bit := goodIn_r _ [21] (by decide +kernel) (by decide +kernel)
set_option maxRecDepth 20000 in
theorem gX7_ofThing_X7_bit : GoodIn wsX7_ofThing (va_wsS RX7 201 yX7_bit wsX7_bit) := goodIn_app (goodIn_of _ (by decide +kernel)) ggX7_ofThing_X7_bit
set_option maxRecDepth 20000 in
theorem ggX7_ofThing_X6_isFree : GoodIn wsX7_ofThing wsX6_isFree := goodIn_r _ [25, 26, 27, 34, 35, 36, 37, 38, 39, 40, 41, 42, 43, 44, 45] (by decide +kernel) (by decide +kernel)
set_option maxRecDepth 20000 in
theorem gX7_ofThing_X6_isFree : GoodIn wsX7_ofThing (wsV RX7 231 RX6 yX6_isFree wsX6_isFree) := goodIn_app (goodIn_of _ (by decide +kernel)) ggX7_ofThing_X6_isFree
theorem dX7_ofThing_0 : decode cX7_ofThing 0 = .ok (.aload_n 0, 1) := by decide +kernel
theorem dX7_ofThing_1 : decode cX7_ofThing 1 = .ok (.getfield 26, 3) := by decide +kernel
theorem dX7_ofThing_4 : decode cX7_ofThing 4 = .ok (.iload_n 1, 1) := by decide +kernel
theorem dX7_ofThing_5 : decode cX7_ofThing 5 = .ok (.invokevirtual 191, 3) := by decide +kernel
theorem dX7_ofThing_8 : decode cX7_ofThing 8 = .ok (.ifCond .ne 5, 3) := by decide +kernel
theorem dX7_ofThing_11 : decode cX7_ofThing 11 = .ok (.iconst (-1), 1) := by decide +kernel
theorem dX7_ofThing_12 : decode cX7_ofThing 12 = .ok (.ireturn, 1) := by decide +kernel
theorem dX7_ofThing_13 : decode cX7_ofThing 13 = .ok (.iload_n 2, 1) := by decide +kernel
theorem dX7_ofThing_14 : decode cX7_ofThing 14 = .ok (.tableswitch 151 0 8 #[50, 60, 70, 80, 90, 100, 112, 129, 141], 50) := by decide +kernel
theorem dX7_ofThing_64 : decode cX7_ofThing 64 = .ok (.aload_n 0, 1) := by decide +kernel
theorem dX7_ofThing_65 : decode cX7_ofThing 65 = .ok (.getfield 26, 3) := by decide +kernel
theorem dX7_ofThing_68 : decode cX7_ofThing 68 = .ok (.getfield 215, 3) := by decide +kernel
theorem dX7_ofThing_71 : decode cX7_ofThing 71 = .ok (.iload_n 1, 1) := by decide +kernel
theorem dX7_ofThing_72 : decode cX7_ofThing 72 = .ok (.iaload, 1) := by decide +kernel
theorem dX7_ofThing_73 : decode cX7_ofThing 73 = .ok (.ireturn, 1) := by decide +kernel
theorem dX7_ofThing_74 : decode cX7_ofThing 74 = .ok (.aload_n 0, 1) := by decide +kernel
theorem dX7_ofThing_75 : decode cX7_ofThing 75 = .ok (.getfield 26, 3) := by decide +kernel
theorem dX7_ofThing_78 : decode cX7_ofThing 78 = .ok (.getfield 216, 3) := by decide +kernel
theorem dX7_ofThing_81 : decode cX7_ofThing 81 = .ok (.iload_n 1, 1) := by decide +kernel
theorem dX7_ofThing_82 : decode cX7_ofThing 82 = .ok (.iaload, 1) := by decide +kernel
theorem dX7_ofThing_83 : decode cX7_ofThing 83 = .ok (.ireturn, 1) := by decide +kernel
theorem dX7_ofThing_84 : decode cX7_ofThing 84 = .ok (.aload_n 0, 1) := by decide +kernel
theorem dX7_ofThing_85 : decode cX7_ofThing 85 = .ok (.getfield 26, 3) := by decide +kernel
theorem dX7_ofThing_88 : decode cX7_ofThing 88 = .ok (.getfield 219, 3) := by decide +kernel
theorem dX7_ofThing_91 : decode cX7_ofThing 91 = .ok (.iload_n 1, 1) := by decide +kernel
theorem dX7_ofThing_92 : decode cX7_ofThing 92 = .ok (.iaload, 1) := by decide +kernel
theorem dX7_ofThing_93 : decode cX7_ofThing 93 = .ok (.ireturn, 1) := by decide +kernel
theorem dX7_ofThing_94 : decode cX7_ofThing 94 = .ok (.aload_n 0, 1) := by decide +kernel
theorem dX7_ofThing_95 : decode cX7_ofThing 95 = .ok (.getfield 26, 3) := by decide +kernel
theorem dX7_ofThing_98 : decode cX7_ofThing 98 = .ok (.getfield 222, 3) := by decide +kernel
theorem dX7_ofThing_101 : decode cX7_ofThing 101 = .ok (.iload_n 1, 1) := by decide +kernel
theorem dX7_ofThing_102 : decode cX7_ofThing 102 = .ok (.iaload, 1) := by decide +kernel
theorem dX7_ofThing_103 : decode cX7_ofThing 103 = .ok (.ireturn, 1) := by decide +kernel
theorem dX7_ofThing_104 : decode cX7_ofThing 104 = .ok (.aload_n 0, 1) := by decide +kernel
theorem dX7_ofThing_105 : decode cX7_ofThing 105 = .ok (.getfield 26, 3) := by decide +kernel
theorem dX7_ofThing_108 : decode cX7_ofThing 108 = .ok (.getfield 225, 3) := by decide +kernel
theorem dX7_ofThing_111 : decode cX7_ofThing 111 = .ok (.iload_n 1, 1) := by decide +kernel
theorem dX7_ofThing_112 : decode cX7_ofThing 112 = .ok (.iaload, 1) := by decide +kernel
theorem dX7_ofThing_113 : decode cX7_ofThing 113 = .ok (.ireturn, 1) := by decide +kernel
theorem dX7_ofThing_114 : decode cX7_ofThing 114 = .ok (.aload_n 0, 1) := by decide +kernel
theorem dX7_ofThing_115 : decode cX7_ofThing 115 = .ok (.getfield 26, 3) := by decide +kernel
theorem dX7_ofThing_118 : decode cX7_ofThing 118 = .ok (.getfield 228, 3) := by decide +kernel
theorem dX7_ofThing_121 : decode cX7_ofThing 121 = .ok (.iload_n 1, 1) := by decide +kernel
theorem dX7_ofThing_122 : decode cX7_ofThing 122 = .ok (.invokestatic 201, 3) := by decide +kernel
theorem dX7_ofThing_125 : decode cX7_ofThing 125 = .ok (.ireturn, 1) := by decide +kernel
theorem dX7_ofThing_126 : decode cX7_ofThing 126 = .ok (.aload_n 0, 1) := by decide +kernel
theorem dX7_ofThing_127 : decode cX7_ofThing 127 = .ok (.getfield 26, 3) := by decide +kernel
theorem dX7_ofThing_130 : decode cX7_ofThing 130 = .ok (.iload_n 1, 1) := by decide +kernel
theorem dX7_ofThing_131 : decode cX7_ofThing 131 = .ok (.invokevirtual 231, 3) := by decide +kernel
theorem dX7_ofThing_134 : decode cX7_ofThing 134 = .ok (.ifCond .eq 7, 3) := by decide +kernel
theorem dX7_ofThing_137 : decode cX7_ofThing 137 = .ok (.iconst 1, 1) := by decide +kernel
theorem dX7_ofThing_138 : decode cX7_ofThing 138 = .ok (.goto 4, 3) := by decide +kernel
theorem dX7_ofThing_141 : decode cX7_ofThing 141 = .ok (.iconst 0, 1) := by decide +kernel
theorem dX7_ofThing_142 : decode cX7_ofThing 142 = .ok (.ireturn, 1) := by decide +kernel
theorem dX7_ofThing_143 : decode cX7_ofThing 143 = .ok (.aload_n 0, 1) := by decide +kernel
theorem dX7_ofThing_144 : decode cX7_ofThing 144 = .ok (.getfield 26, 3) := by decide +kernel
theorem dX7_ofThing_147 : decode cX7_ofThing 147 = .ok (.getfield 208, 3) := by decide +kernel
theorem dX7_ofThing_150 : decode cX7_ofThing 150 = .ok (.iload_n 1, 1) := by decide +kernel
theorem dX7_ofThing_151 : decode cX7_ofThing 151 = .ok (.invokestatic 201, 3) := by decide +kernel
theorem dX7_ofThing_154 : decode cX7_ofThing 154 = .ok (.ireturn, 1) := by decide +kernel
theorem dX7_ofThing_155 : decode cX7_ofThing 155 = .ok (.aload_n 0, 1) := by decide +kernel
theorem dX7_ofThing_156 : decode cX7_ofThing 156 = .ok (.getfield 26, 3) := by decide +kernel
theorem dX7_ofThing_159 : decode cX7_ofThing 159 = .ok (.getfield 198, 3) := by decide +kernel
theorem dX7_ofThing_162 : decode cX7_ofThing 162 = .ok (.iload_n 1, 1) := by decide +kernel
theorem dX7_ofThing_163 : decode cX7_ofThing 163 = .ok (.iaload, 1) := by decide +kernel
theorem dX7_ofThing_164 : decode cX7_ofThing 164 = .ok (.ireturn, 1) := by decide +kernel
theorem dX7_ofThing_165 : decode cX7_ofThing 165 = .ok (.bipush (-2), 2) := by decide +kernel
theorem dX7_ofThing_167 : decode cX7_ofThing 167 = .ok (.ireturn, 1) := by decide +kernel
set_option maxRecDepth 20000 in
theorem ggX7_tide_X7_within : GoodIn wsX7_tide wsX7_within := goodIn_r _ [7] (by decide +kernel) (by decide +kernel)
set_option maxRecDepth 20000 in
theorem gX7_tide_X7_within : GoodIn wsX7_tide (va_wsS RX7 48 yX7_within wsX7_within) := goodIn_app (goodIn_of _ (by decide +kernel)) ggX7_tide_X7_within
set_option maxRecDepth 20000 in
theorem ggX7_tide_X6_addTide : GoodIn wsX7_tide wsX6_addTide := goodIn_r _ [12, 13, 14, 15, 16, 17, 18, 19, 20, 21, 28, 29, 30, 31, 32, 33, 34, 35, 36, 37, 38, 39, 40, 41] (by decide +kernel) (by decide +kernel)
set_option maxRecDepth 20000 in
theorem gX7_tide_X6_addTide : GoodIn wsX7_tide (wsV RX7 241 RX6 yX6_addTide wsX6_addTide) := goodIn_app (goodIn_of _ (by decide +kernel)) ggX7_tide_X6_addTide
theorem dX7_tide_0 : decode cX7_tide 0 = .ok (.iload_n 1, 1) := by decide +kernel
theorem dX7_tide_1 : decode cX7_tide 1 = .ok (.iconst 1, 1) := by decide +kernel
theorem dX7_tide_2 : decode cX7_tide 2 = .ok (.sipush 300, 3) := by decide +kernel
theorem dX7_tide_5 : decode cX7_tide 5 = .ok (.invokestatic 48, 3) := by decide +kernel
theorem dX7_tide_8 : decode cX7_tide 8 = .ok (.ifCond .ne 6, 3) := by decide +kernel
theorem dX7_tide_11 : decode cX7_tide 11 = .ok (.bipush (-2), 2) := by decide +kernel
theorem dX7_tide_13 : decode cX7_tide 13 = .ok (.ireturn, 1) := by decide +kernel
theorem dX7_tide_14 : decode cX7_tide 14 = .ok (.aload_n 0, 1) := by decide +kernel
theorem dX7_tide_15 : decode cX7_tide 15 = .ok (.getfield 26, 3) := by decide +kernel
theorem dX7_tide_18 : decode cX7_tide 18 = .ok (.getfield 236, 3) := by decide +kernel
theorem dX7_tide_21 : decode cX7_tide 21 = .ok (.getfield 240, 3) := by decide +kernel
theorem dX7_tide_24 : decode cX7_tide 24 = .ok (.iconst 5, 1) := by decide +kernel
theorem dX7_tide_25 : decode cX7_tide 25 = .ok (.if_icmp .lt 6, 3) := by decide +kernel
theorem dX7_tide_28 : decode cX7_tide 28 = .ok (.bipush (-4), 2) := by decide +kernel
theorem dX7_tide_30 : decode cX7_tide 30 = .ok (.ireturn, 1) := by decide +kernel
theorem dX7_tide_31 : decode cX7_tide 31 = .ok (.aload_n 0, 1) := by decide +kernel
theorem dX7_tide_32 : decode cX7_tide 32 = .ok (.getfield 26, 3) := by decide +kernel
theorem dX7_tide_35 : decode cX7_tide 35 = .ok (.iload_n 1, 1) := by decide +kernel
theorem dX7_tide_36 : decode cX7_tide 36 = .ok (.invokevirtual 241, 3) := by decide +kernel
theorem dX7_tide_39 : decode cX7_tide 39 = .ok (.ireturn, 1) := by decide +kernel
set_option maxRecDepth 20000 in
theorem ggX7_calm_X6_dropTides : GoodIn wsX7_calm wsX6_dropTides := goodIn_r _ [6, 7, 8, 9, 16, 17, 18, 19, 20, 21, 22, 23, 24, 25, 26, 27, 28, 29] (by decide +kernel) (by decide +kernel)
set_option maxRecDepth 20000 in
theorem gX7_calm_X6_dropTides : GoodIn wsX7_calm (wsV RX7 244 RX6 yX6_dropTides wsX6_dropTides) := goodIn_app (goodIn_of _ (by decide +kernel)) ggX7_calm_X6_dropTides
theorem dX7_calm_0 : decode cX7_calm 0 = .ok (.aload_n 0, 1) := by decide +kernel
theorem dX7_calm_1 : decode cX7_calm 1 = .ok (.getfield 26, 3) := by decide +kernel
theorem dX7_calm_4 : decode cX7_calm 4 = .ok (.invokevirtual 244, 3) := by decide +kernel
theorem dX7_calm_7 : decode cX7_calm 7 = .ok (.ireturn, 1) := by decide +kernel
set_option maxRecDepth 20000 in
theorem ggX7_best_X6_bestPlan : GoodIn wsX7_best wsX6_bestPlan := goodIn_r _ [10, 11, 12, 13, 14, 15, 16, 17, 18, 19, 20, 21, 22, 23, 24, 25, 26, 27, 28, 29, 30, 31, 32, 33, 34, 35, 36, 37, 38, 39, 40, 41, 42, 43, 44, 45, 46, 47, 48, 49, 50, 51, 52, 53, 54, 9, 55, 56, 57, 58, 59, 60, 61, 62, 63, 64, 65, 66, 67, 68, 69, 70, 71, 72, 73, 74, 75, 76, 77, 78, 79, 80, 81, 82, 83, 84, 85, 86, 87, 88, 89, 90, 91, 92, 93, 94, 95, 96, 97, 98, 99, 100, 101, 114, 115, 116, 117, 118, 119, 120, 121, 122, 123, 124, 125, 108, 109, 110, 111, 112, 113, 126, 127] (by decide +kernel) (by decide +kernel)
set_option maxRecDepth 20000 in
theorem gX7_best_X6_bestPlan : GoodIn wsX7_best (wsV RX7 247 RX6 yX6_bestPlan wsX6_bestPlan) := goodIn_app (goodIn_of _ (by decide +kernel)) ggX7_best_X6_bestPlan
theorem dX7_best_0 : decode cX7_best 0 = .ok (.iload_n 1, 1) := by decide +kernel
theorem dX7_best_1 : decode cX7_best 1 = .ok (.bipush (-3), 2) := by decide +kernel
theorem dX7_best_3 : decode cX7_best 3 = .ok (.if_icmp .ge 6, 3) := by decide +kernel
theorem dX7_best_6 : decode cX7_best 6 = .ok (.bipush (-2), 2) := by decide +kernel
theorem dX7_best_8 : decode cX7_best 8 = .ok (.ireturn, 1) := by decide +kernel
theorem dX7_best_9 : decode cX7_best 9 = .ok (.aload_n 0, 1) := by decide +kernel
theorem dX7_best_10 : decode cX7_best 10 = .ok (.getfield 26, 3) := by decide +kernel
theorem dX7_best_13 : decode cX7_best 13 = .ok (.invokevirtual 247, 3) := by decide +kernel
theorem dX7_best_16 : decode cX7_best 16 = .ok (.astore_n 2, 1) := by decide +kernel
theorem dX7_best_17 : decode cX7_best 17 = .ok (.iload_n 1, 1) := by decide +kernel
theorem dX7_best_18 : decode cX7_best 18 = .ok (.iconst (-1), 1) := by decide +kernel
theorem dX7_best_19 : decode cX7_best 19 = .ok (.if_icmp .ne 8, 3) := by decide +kernel
theorem dX7_best_22 : decode cX7_best 22 = .ok (.aload_n 2, 1) := by decide +kernel
theorem dX7_best_23 : decode cX7_best 23 = .ok (.getfield 251, 3) := by decide +kernel
theorem dX7_best_26 : decode cX7_best 26 = .ok (.ireturn, 1) := by decide +kernel
theorem dX7_best_27 : decode cX7_best 27 = .ok (.iload_n 1, 1) := by decide +kernel
theorem dX7_best_28 : decode cX7_best 28 = .ok (.bipush (-2), 2) := by decide +kernel
theorem dX7_best_30 : decode cX7_best 30 = .ok (.if_icmp .ne 8, 3) := by decide +kernel
theorem dX7_best_33 : decode cX7_best 33 = .ok (.aload_n 2, 1) := by decide +kernel
theorem dX7_best_34 : decode cX7_best 34 = .ok (.getfield 256, 3) := by decide +kernel
theorem dX7_best_37 : decode cX7_best 37 = .ok (.ireturn, 1) := by decide +kernel
theorem dX7_best_38 : decode cX7_best 38 = .ok (.iload_n 1, 1) := by decide +kernel
theorem dX7_best_39 : decode cX7_best 39 = .ok (.bipush (-3), 2) := by decide +kernel
theorem dX7_best_41 : decode cX7_best 41 = .ok (.if_icmp .ne 8, 3) := by decide +kernel
theorem dX7_best_44 : decode cX7_best 44 = .ok (.aload_n 2, 1) := by decide +kernel
theorem dX7_best_45 : decode cX7_best 45 = .ok (.getfield 259, 3) := by decide +kernel
theorem dX7_best_48 : decode cX7_best 48 = .ok (.ireturn, 1) := by decide +kernel
theorem dX7_best_49 : decode cX7_best 49 = .ok (.iload_n 1, 1) := by decide +kernel
theorem dX7_best_50 : decode cX7_best 50 = .ok (.aload_n 2, 1) := by decide +kernel
theorem dX7_best_51 : decode cX7_best 51 = .ok (.getfield 259, 3) := by decide +kernel
theorem dX7_best_54 : decode cX7_best 54 = .ok (.if_icmp .ge 12, 3) := by decide +kernel
theorem dX7_best_57 : decode cX7_best 57 = .ok (.aload_n 2, 1) := by decide +kernel
theorem dX7_best_58 : decode cX7_best 58 = .ok (.getfield 260, 3) := by decide +kernel
theorem dX7_best_61 : decode cX7_best 61 = .ok (.iload_n 1, 1) := by decide +kernel
theorem dX7_best_62 : decode cX7_best 62 = .ok (.iaload, 1) := by decide +kernel
theorem dX7_best_63 : decode cX7_best 63 = .ok (.goto 5, 3) := by decide +kernel
theorem dX7_best_66 : decode cX7_best 66 = .ok (.bipush (-6), 2) := by decide +kernel
theorem dX7_best_68 : decode cX7_best 68 = .ok (.ireturn, 1) := by decide +kernel
set_option maxRecDepth 20000 in
theorem ggX7_tideOf_X6_bestPlan : GoodIn wsX7_tideOf wsX6_bestPlan := goodIn_r _ [8, 9, 10, 11, 12, 13, 14, 15, 16, 17, 18, 19, 20, 21, 22, 23, 24, 25, 26, 27, 28, 29, 30, 31, 32, 33, 34, 35, 36, 37, 38, 39, 40, 41, 42, 43, 44, 45, 46, 47, 48, 49, 50, 51, 52, 7, 53, 54, 55, 56, 57, 58, 59, 60, 61, 62, 63, 64, 65, 66, 67, 68, 69, 70, 71, 72, 73, 74, 75, 76, 77, 78, 79, 80, 81, 82, 83, 84, 85, 86, 87, 88, 89, 90, 91, 92, 93, 94, 95, 96, 97, 98, 99, 112, 113, 114, 115, 116, 117, 118, 119, 120, 121, 122, 123, 106, 107, 108, 109, 110, 111, 124, 125] (by decide +kernel) (by decide +kernel)
set_option maxRecDepth 20000 in
theorem gX7_tideOf_X6_bestPlan : GoodIn wsX7_tideOf (wsV RX7 247 RX6 yX6_bestPlan wsX6_bestPlan) := goodIn_app (goodIn_of _ (by decide +kernel)) ggX7_tideOf_X6_bestPlan
theorem dX7_tideOf_0 : decode cX7_tideOf 0 = .ok (.iload_n 1, 1) := by decide +kernel
theorem dX7_tideOf_1 : decode cX7_tideOf 1 = .ok (.ifCond .ge 6, 3) := by decide +kernel
theorem dX7_tideOf_4 : decode cX7_tideOf 4 = .ok (.bipush (-6), 2) := by decide +kernel
theorem dX7_tideOf_6 : decode cX7_tideOf 6 = .ok (.ireturn, 1) := by decide +kernel
theorem dX7_tideOf_7 : decode cX7_tideOf 7 = .ok (.aload_n 0, 1) := by decide +kernel
theorem dX7_tideOf_8 : decode cX7_tideOf 8 = .ok (.getfield 26, 3) := by decide +kernel
theorem dX7_tideOf_11 : decode cX7_tideOf 11 = .ok (.invokevirtual 247, 3) := by decide +kernel
theorem dX7_tideOf_14 : decode cX7_tideOf 14 = .ok (.astore_n 2, 1) := by decide +kernel
theorem dX7_tideOf_15 : decode cX7_tideOf 15 = .ok (.iload_n 1, 1) := by decide +kernel
theorem dX7_tideOf_16 : decode cX7_tideOf 16 = .ok (.aload_n 2, 1) := by decide +kernel
theorem dX7_tideOf_17 : decode cX7_tideOf 17 = .ok (.getfield 259, 3) := by decide +kernel
theorem dX7_tideOf_20 : decode cX7_tideOf 20 = .ok (.if_icmp .ge 12, 3) := by decide +kernel
theorem dX7_tideOf_23 : decode cX7_tideOf 23 = .ok (.aload_n 2, 1) := by decide +kernel
theorem dX7_tideOf_24 : decode cX7_tideOf 24 = .ok (.getfield 263, 3) := by decide +kernel
theorem dX7_tideOf_27 : decode cX7_tideOf 27 = .ok (.iload_n 1, 1) := by decide +kernel
theorem dX7_tideOf_28 : decode cX7_tideOf 28 = .ok (.iaload, 1) := by decide +kernel
theorem dX7_tideOf_29 : decode cX7_tideOf 29 = .ok (.goto 5, 3) := by decide +kernel
theorem dX7_tideOf_32 : decode cX7_tideOf 32 = .ok (.bipush (-6), 2) := by decide +kernel
theorem dX7_tideOf_34 : decode cX7_tideOf 34 = .ok (.ireturn, 1) := by decide +kernel
set_option maxRecDepth 20000 in
theorem ggX7_sign_X7_within : GoodIn wsX7_sign wsX7_within := goodIn_r _ [5] (by decide +kernel) (by decide +kernel)
set_option maxRecDepth 20000 in
theorem gX7_sign_X7_within : GoodIn wsX7_sign (va_wsS RX7 48 yX7_within wsX7_within) := goodIn_app (goodIn_of _ (by decide +kernel)) ggX7_sign_X7_within
set_option maxRecDepth 20000 in
theorem ggX7_sign_X3_put : GoodIn wsX7_sign wsX3_put := goodIn_r _ [10, 11, 12, 40, 41, 42, 43, 44] (by decide +kernel) (by decide +kernel)
set_option maxRecDepth 20000 in
theorem gX7_sign_X3_put : GoodIn wsX7_sign (wsV RX7 266 RX3 yX3_put wsX3_put) := goodIn_app (goodIn_of _ (by decide +kernel)) ggX7_sign_X3_put
set_option maxRecDepth 20000 in
theorem ggX7_sign_X3_isTugs : GoodIn wsX7_sign wsX3_isTugs := goodIn_r _ [15, 3, 4, 5] (by decide +kernel) (by decide +kernel)
set_option maxRecDepth 20000 in
theorem gX7_sign_X3_isTugs : GoodIn wsX7_sign (va_wsS RX7 269 yX3_isTugs wsX3_isTugs) := goodIn_app (goodIn_of _ (by decide +kernel)) ggX7_sign_X3_isTugs
set_option maxRecDepth 20000 in
theorem ggX7_sign_X3_signOf : GoodIn wsX7_sign wsX3_signOf := goodIn_r _ [19, 20, 21, 22, 9, 23, 11, 24, 25, 26, 27, 12, 28, 4, 29, 30, 31, 32, 33, 40, 41, 42, 43, 44] (by decide +kernel) (by decide +kernel)
set_option maxRecDepth 20000 in
theorem gX7_sign_X3_signOf : GoodIn wsX7_sign (wsV RX7 272 RX3 yX3_signOf wsX3_signOf) := goodIn_app (goodIn_of _ (by decide +kernel)) ggX7_sign_X3_signOf
theorem dX7_sign_0 : decode cX7_sign 0 = .ok (.iload_n 1, 1) := by decide +kernel
theorem dX7_sign_1 : decode cX7_sign 1 = .ok (.iconst 0, 1) := by decide +kernel
theorem dX7_sign_2 : decode cX7_sign 2 = .ok (.bipush 11, 2) := by decide +kernel
theorem dX7_sign_4 : decode cX7_sign 4 = .ok (.invokestatic 48, 3) := by decide +kernel
theorem dX7_sign_7 : decode cX7_sign 7 = .ok (.ifCond .ne 5, 3) := by decide +kernel
theorem dX7_sign_10 : decode cX7_sign 10 = .ok (.iconst (-1), 1) := by decide +kernel
theorem dX7_sign_11 : decode cX7_sign 11 = .ok (.ireturn, 1) := by decide +kernel
theorem dX7_sign_12 : decode cX7_sign 12 = .ok (.iload_n 2, 1) := by decide +kernel
theorem dX7_sign_13 : decode cX7_sign 13 = .ok (.ifCond .ne 19, 3) := by decide +kernel
theorem dX7_sign_16 : decode cX7_sign 16 = .ok (.iload_n 3, 1) := by decide +kernel
theorem dX7_sign_17 : decode cX7_sign 17 = .ok (.ifCond .ne 15, 3) := by decide +kernel
theorem dX7_sign_20 : decode cX7_sign 20 = .ok (.aload_n 0, 1) := by decide +kernel
theorem dX7_sign_21 : decode cX7_sign 21 = .ok (.getfield 33, 3) := by decide +kernel
theorem dX7_sign_24 : decode cX7_sign 24 = .ok (.iload_n 1, 1) := by decide +kernel
theorem dX7_sign_25 : decode cX7_sign 25 = .ok (.iconst 0, 1) := by decide +kernel
theorem dX7_sign_26 : decode cX7_sign 26 = .ok (.iconst 0, 1) := by decide +kernel
theorem dX7_sign_27 : decode cX7_sign 27 = .ok (.invokevirtual 266, 3) := by decide +kernel
theorem dX7_sign_30 : decode cX7_sign 30 = .ok (.iconst 1, 1) := by decide +kernel
theorem dX7_sign_31 : decode cX7_sign 31 = .ok (.ireturn, 1) := by decide +kernel
theorem dX7_sign_32 : decode cX7_sign 32 = .ok (.iload_n 2, 1) := by decide +kernel
theorem dX7_sign_33 : decode cX7_sign 33 = .ok (.iload_n 3, 1) := by decide +kernel
theorem dX7_sign_34 : decode cX7_sign 34 = .ok (.invokestatic 269, 3) := by decide +kernel
theorem dX7_sign_37 : decode cX7_sign 37 = .ok (.ifCond .ne 6, 3) := by decide +kernel
theorem dX7_sign_40 : decode cX7_sign 40 = .ok (.bipush (-2), 2) := by decide +kernel
theorem dX7_sign_42 : decode cX7_sign 42 = .ok (.ireturn, 1) := by decide +kernel
theorem dX7_sign_43 : decode cX7_sign 43 = .ok (.aload_n 0, 1) := by decide +kernel
theorem dX7_sign_44 : decode cX7_sign 44 = .ok (.getfield 33, 3) := by decide +kernel
theorem dX7_sign_47 : decode cX7_sign 47 = .ok (.iload_n 2, 1) := by decide +kernel
theorem dX7_sign_48 : decode cX7_sign 48 = .ok (.iload_n 3, 1) := by decide +kernel
theorem dX7_sign_49 : decode cX7_sign 49 = .ok (.invokevirtual 272, 3) := by decide +kernel
theorem dX7_sign_52 : decode cX7_sign 52 = .ok (.istore 4, 2) := by decide +kernel
theorem dX7_sign_54 : decode cX7_sign 54 = .ok (.iload 4, 2) := by decide +kernel
theorem dX7_sign_56 : decode cX7_sign 56 = .ok (.bipush (-6), 2) := by decide +kernel
theorem dX7_sign_58 : decode cX7_sign 58 = .ok (.if_icmp .eq 12, 3) := by decide +kernel
theorem dX7_sign_61 : decode cX7_sign 61 = .ok (.iload 4, 2) := by decide +kernel
theorem dX7_sign_63 : decode cX7_sign 63 = .ok (.iload_n 1, 1) := by decide +kernel
theorem dX7_sign_64 : decode cX7_sign 64 = .ok (.if_icmp .eq 6, 3) := by decide +kernel
theorem dX7_sign_67 : decode cX7_sign 67 = .ok (.bipush (-5), 2) := by decide +kernel
theorem dX7_sign_69 : decode cX7_sign 69 = .ok (.ireturn, 1) := by decide +kernel
theorem dX7_sign_70 : decode cX7_sign 70 = .ok (.aload_n 0, 1) := by decide +kernel
theorem dX7_sign_71 : decode cX7_sign 71 = .ok (.getfield 33, 3) := by decide +kernel
theorem dX7_sign_74 : decode cX7_sign 74 = .ok (.iload_n 1, 1) := by decide +kernel
theorem dX7_sign_75 : decode cX7_sign 75 = .ok (.iload_n 2, 1) := by decide +kernel
theorem dX7_sign_76 : decode cX7_sign 76 = .ok (.iload_n 3, 1) := by decide +kernel
theorem dX7_sign_77 : decode cX7_sign 77 = .ok (.invokevirtual 266, 3) := by decide +kernel
theorem dX7_sign_80 : decode cX7_sign 80 = .ok (.iconst 1, 1) := by decide +kernel
theorem dX7_sign_81 : decode cX7_sign 81 = .ok (.ireturn, 1) := by decide +kernel
set_option maxRecDepth 20000 in
theorem ggX7_heard_X3_isHearing : GoodIn wsX7_heard wsX3_isHearing := goodIn_r _ [5, 6, 7, 8] (by decide +kernel) (by decide +kernel)
set_option maxRecDepth 20000 in
theorem gX7_heard_X3_isHearing : GoodIn wsX7_heard (va_wsS RX7 275 yX3_isHearing wsX3_isHearing) := goodIn_app (goodIn_of _ (by decide +kernel)) ggX7_heard_X3_isHearing
set_option maxRecDepth 20000 in
theorem ggX7_heard_X3_signOf : GoodIn wsX7_heard wsX3_signOf := goodIn_r _ [12, 13, 14, 15, 4, 16, 17, 18, 19, 20, 21, 22, 23, 7, 24, 25, 26, 27, 28, 39, 40, 41, 42, 43] (by decide +kernel) (by decide +kernel)
set_option maxRecDepth 20000 in
theorem gX7_heard_X3_signOf : GoodIn wsX7_heard (wsV RX7 272 RX3 yX3_signOf wsX3_signOf) := goodIn_app (goodIn_of _ (by decide +kernel)) ggX7_heard_X3_signOf
set_option maxRecDepth 20000 in
theorem ggX7_heard_X3_onlyOneApart : GoodIn wsX7_heard wsX3_onlyOneApart := goodIn_r _ [32, 13, 14, 15, 4, 16, 17, 18, 19, 20, 21, 22, 23, 7, 24, 25, 26, 27, 28, 39, 40, 41, 42, 43] (by decide +kernel) (by decide +kernel)
set_option maxRecDepth 20000 in
theorem gX7_heard_X3_onlyOneApart : GoodIn wsX7_heard (wsV RX7 278 RX3 yX3_onlyOneApart wsX3_onlyOneApart) := goodIn_app (goodIn_of _ (by decide +kernel)) ggX7_heard_X3_onlyOneApart
theorem dX7_heard_0 : decode cX7_heard 0 = .ok (.iload_n 1, 1) := by decide +kernel
theorem dX7_heard_1 : decode cX7_heard 1 = .ok (.iload_n 2, 1) := by decide +kernel
theorem dX7_heard_2 : decode cX7_heard 2 = .ok (.invokestatic 275, 3) := by decide +kernel
theorem dX7_heard_5 : decode cX7_heard 5 = .ok (.ifCond .ne 6, 3) := by decide +kernel
theorem dX7_heard_8 : decode cX7_heard 8 = .ok (.bipush (-2), 2) := by decide +kernel
theorem dX7_heard_10 : decode cX7_heard 10 = .ok (.ireturn, 1) := by decide +kernel
theorem dX7_heard_11 : decode cX7_heard 11 = .ok (.aload_n 0, 1) := by decide +kernel
theorem dX7_heard_12 : decode cX7_heard 12 = .ok (.getfield 33, 3) := by decide +kernel
theorem dX7_heard_15 : decode cX7_heard 15 = .ok (.iload_n 1, 1) := by decide +kernel
theorem dX7_heard_16 : decode cX7_heard 16 = .ok (.iload_n 2, 1) := by decide +kernel
theorem dX7_heard_17 : decode cX7_heard 17 = .ok (.invokevirtual 272, 3) := by decide +kernel
theorem dX7_heard_20 : decode cX7_heard 20 = .ok (.istore_n 3, 1) := by decide +kernel
theorem dX7_heard_21 : decode cX7_heard 21 = .ok (.iload_n 3, 1) := by decide +kernel
theorem dX7_heard_22 : decode cX7_heard 22 = .ok (.bipush (-6), 2) := by decide +kernel
theorem dX7_heard_24 : decode cX7_heard 24 = .ok (.if_icmp .eq 7, 3) := by decide +kernel
theorem dX7_heard_27 : decode cX7_heard 27 = .ok (.iload_n 3, 1) := by decide +kernel
theorem dX7_heard_28 : decode cX7_heard 28 = .ok (.goto 12, 3) := by decide +kernel
theorem dX7_heard_31 : decode cX7_heard 31 = .ok (.aload_n 0, 1) := by decide +kernel
theorem dX7_heard_32 : decode cX7_heard 32 = .ok (.getfield 33, 3) := by decide +kernel
theorem dX7_heard_35 : decode cX7_heard 35 = .ok (.iload_n 1, 1) := by decide +kernel
theorem dX7_heard_36 : decode cX7_heard 36 = .ok (.iload_n 2, 1) := by decide +kernel
theorem dX7_heard_37 : decode cX7_heard 37 = .ok (.invokevirtual 278, 3) := by decide +kernel
theorem dX7_heard_40 : decode cX7_heard 40 = .ok (.ireturn, 1) := by decide +kernel
set_option maxRecDepth 20000 in
theorem ggX7_hear_X3_isHearing : GoodIn wsX7_hear wsX3_isHearing := goodIn_r _ [6, 7, 8, 9] (by decide +kernel) (by decide +kernel)
set_option maxRecDepth 20000 in
theorem gX7_hear_X3_isHearing : GoodIn wsX7_hear (va_wsS RX7 275 yX3_isHearing wsX3_isHearing) := goodIn_app (goodIn_of _ (by decide +kernel)) ggX7_hear_X3_isHearing
set_option maxRecDepth 20000 in
theorem ggX7_hear_X3_addHearing : GoodIn wsX7_hear wsX3_addHearing := goodIn_r _ [13, 14, 15, 16, 23, 24, 25, 26, 27] (by decide +kernel) (by decide +kernel)
set_option maxRecDepth 20000 in
theorem gX7_hear_X3_addHearing : GoodIn wsX7_hear (wsV RX7 284 RX3 yX3_addHearing wsX3_addHearing) := goodIn_app (goodIn_of _ (by decide +kernel)) ggX7_hear_X3_addHearing
theorem dX7_hear_0 : decode cX7_hear 0 = .ok (.iload_n 1, 1) := by decide +kernel
theorem dX7_hear_1 : decode cX7_hear 1 = .ok (.iload_n 2, 1) := by decide +kernel
theorem dX7_hear_2 : decode cX7_hear 2 = .ok (.invokestatic 275, 3) := by decide +kernel
theorem dX7_hear_5 : decode cX7_hear 5 = .ok (.ifCond .ne 6, 3) := by decide +kernel
theorem dX7_hear_8 : decode cX7_hear 8 = .ok (.bipush (-2), 2) := by decide +kernel
theorem dX7_hear_10 : decode cX7_hear 10 = .ok (.ireturn, 1) := by decide +kernel
theorem dX7_hear_11 : decode cX7_hear 11 = .ok (.aload_n 0, 1) := by decide +kernel
theorem dX7_hear_12 : decode cX7_hear 12 = .ok (.getfield 33, 3) := by decide +kernel
theorem dX7_hear_15 : decode cX7_hear 15 = .ok (.getfield 281, 3) := by decide +kernel
theorem dX7_hear_18 : decode cX7_hear 18 = .ok (.iconst 4, 1) := by decide +kernel
theorem dX7_hear_19 : decode cX7_hear 19 = .ok (.if_icmp .lt 6, 3) := by decide +kernel
theorem dX7_hear_22 : decode cX7_hear 22 = .ok (.bipush (-4), 2) := by decide +kernel
theorem dX7_hear_24 : decode cX7_hear 24 = .ok (.ireturn, 1) := by decide +kernel
theorem dX7_hear_25 : decode cX7_hear 25 = .ok (.aload_n 0, 1) := by decide +kernel
theorem dX7_hear_26 : decode cX7_hear 26 = .ok (.getfield 33, 3) := by decide +kernel
theorem dX7_hear_29 : decode cX7_hear 29 = .ok (.iload_n 1, 1) := by decide +kernel
theorem dX7_hear_30 : decode cX7_hear 30 = .ok (.iload_n 2, 1) := by decide +kernel
theorem dX7_hear_31 : decode cX7_hear 31 = .ok (.invokevirtual 284, 3) := by decide +kernel
theorem dX7_hear_34 : decode cX7_hear 34 = .ok (.ireturn, 1) := by decide +kernel
set_option maxRecDepth 20000 in
theorem ggX7_tell_X3_nearestToRow : GoodIn wsX7_tell wsX3_nearestToRow := goodIn_r _ [7, 8, 9, 10, 6, 11, 12, 13, 14, 15, 16, 17, 18, 19, 20, 21, 22, 23, 24, 25, 26, 27, 28, 29, 30, 31, 38, 39, 40, 41, 42] (by decide +kernel) (by decide +kernel)
set_option maxRecDepth 20000 in
theorem gX7_tell_X3_nearestToRow : GoodIn wsX7_tell (wsV RX7 287 RX3 yX3_nearestToRow wsX3_nearestToRow) := goodIn_app (goodIn_of _ (by decide +kernel)) ggX7_tell_X3_nearestToRow
theorem dX7_tell_0 : decode cX7_tell 0 = .ok (.aload_n 0, 1) := by decide +kernel
theorem dX7_tell_1 : decode cX7_tell 1 = .ok (.getfield 33, 3) := by decide +kernel
theorem dX7_tell_4 : decode cX7_tell 4 = .ok (.getfield 281, 3) := by decide +kernel
theorem dX7_tell_7 : decode cX7_tell 7 = .ok (.ifCond .ne 8, 3) := by decide +kernel
theorem dX7_tell_10 : decode cX7_tell 10 = .ok (.bipush (-6), 2) := by decide +kernel
theorem dX7_tell_12 : decode cX7_tell 12 = .ok (.goto 10, 3) := by decide +kernel
theorem dX7_tell_15 : decode cX7_tell 15 = .ok (.aload_n 0, 1) := by decide +kernel
theorem dX7_tell_16 : decode cX7_tell 16 = .ok (.getfield 33, 3) := by decide +kernel
theorem dX7_tell_19 : decode cX7_tell 19 = .ok (.invokevirtual 287, 3) := by decide +kernel
theorem dX7_tell_22 : decode cX7_tell 22 = .ok (.istore_n 1, 1) := by decide +kernel
theorem dX7_tell_23 : decode cX7_tell 23 = .ok (.aload_n 0, 1) := by decide +kernel
theorem dX7_tell_24 : decode cX7_tell 24 = .ok (.getfield 33, 3) := by decide +kernel
theorem dX7_tell_27 : decode cX7_tell 27 = .ok (.iconst 0, 1) := by decide +kernel
theorem dX7_tell_28 : decode cX7_tell 28 = .ok (.putfield 281, 3) := by decide +kernel
theorem dX7_tell_31 : decode cX7_tell 31 = .ok (.iload_n 1, 1) := by decide +kernel
theorem dX7_tell_32 : decode cX7_tell 32 = .ok (.ireturn, 1) := by decide +kernel
set_option maxRecDepth 20000 in
theorem ggX7_tight_X3_leastApart : GoodIn wsX7_tight wsX3_leastApart := goodIn_r _ [6, 7, 8, 9, 10, 11, 12, 13, 5, 14, 15, 16, 17, 18, 19, 20, 21, 22, 23, 24, 25, 26, 27, 28, 29, 30, 37, 38, 39, 40, 41] (by decide +kernel) (by decide +kernel)
set_option maxRecDepth 20000 in
theorem gX7_tight_X3_leastApart : GoodIn wsX7_tight (wsV RX7 290 RX3 yX3_leastApart wsX3_leastApart) := goodIn_app (goodIn_of _ (by decide +kernel)) ggX7_tight_X3_leastApart
theorem dX7_tight_0 : decode cX7_tight 0 = .ok (.aload_n 0, 1) := by decide +kernel
theorem dX7_tight_1 : decode cX7_tight 1 = .ok (.getfield 33, 3) := by decide +kernel
theorem dX7_tight_4 : decode cX7_tight 4 = .ok (.invokevirtual 290, 3) := by decide +kernel
theorem dX7_tight_7 : decode cX7_tight 7 = .ok (.ireturn, 1) := by decide +kernel
set_option maxRecDepth 20000 in
theorem ggX7_free_X7_within : GoodIn wsX7_free wsX7_within := goodIn_r _ [5] (by decide +kernel) (by decide +kernel)
set_option maxRecDepth 20000 in
theorem gX7_free_X7_within : GoodIn wsX7_free (va_wsS RX7 48 yX7_within wsX7_within) := goodIn_app (goodIn_of _ (by decide +kernel)) ggX7_free_X7_within
set_option maxRecDepth 20000 in
theorem ggX7_free_X3_firstFree : GoodIn wsX7_free wsX3_firstFree := goodIn_r _ [10, 11, 12, 13, 9, 14, 15, 16, 17, 18, 19, 20, 21, 22, 23, 24, 25, 4, 26, 27, 28, 29, 30, 37, 38, 39, 40, 41] (by decide +kernel) (by decide +kernel)
set_option maxRecDepth 20000 in
theorem gX7_free_X3_firstFree : GoodIn wsX7_free (wsV RX7 293 RX3 yX3_firstFree wsX3_firstFree) := goodIn_app (goodIn_of _ (by decide +kernel)) ggX7_free_X3_firstFree
theorem dX7_free_0 : decode cX7_free 0 = .ok (.iload_n 1, 1) := by decide +kernel
theorem dX7_free_1 : decode cX7_free 1 = .ok (.iconst 1, 1) := by decide +kernel
theorem dX7_free_2 : decode cX7_free 2 = .ok (.bipush 10, 2) := by decide +kernel
theorem dX7_free_4 : decode cX7_free 4 = .ok (.invokestatic 48, 3) := by decide +kernel
theorem dX7_free_7 : decode cX7_free 7 = .ok (.ifCond .ne 6, 3) := by decide +kernel
theorem dX7_free_10 : decode cX7_free 10 = .ok (.bipush (-2), 2) := by decide +kernel
theorem dX7_free_12 : decode cX7_free 12 = .ok (.ireturn, 1) := by decide +kernel
theorem dX7_free_13 : decode cX7_free 13 = .ok (.aload_n 0, 1) := by decide +kernel
theorem dX7_free_14 : decode cX7_free 14 = .ok (.getfield 33, 3) := by decide +kernel
theorem dX7_free_17 : decode cX7_free 17 = .ok (.iload_n 1, 1) := by decide +kernel
theorem dX7_free_18 : decode cX7_free 18 = .ok (.invokevirtual 293, 3) := by decide +kernel
theorem dX7_free_21 : decode cX7_free 21 = .ok (.ireturn, 1) := by decide +kernel
set_option maxRecDepth 20000 in
theorem ggX7_entry_X7_isMan : GoodIn wsX7_entry wsX7_isMan := goodIn_r _ [6, 7, 8, 5, 9] (by decide +kernel) (by decide +kernel)
set_option maxRecDepth 20000 in
theorem gX7_entry_X7_isMan : GoodIn wsX7_entry (va_wsS RX7 132 yX7_isMan wsX7_isMan) := goodIn_app (goodIn_of _ (by decide +kernel)) ggX7_entry_X7_isMan
set_option maxRecDepth 20000 in
theorem ggX7_entry_X7_within : GoodIn wsX7_entry wsX7_within := goodIn_r _ [9] (by decide +kernel) (by decide +kernel)
set_option maxRecDepth 20000 in
theorem gX7_entry_X7_within : GoodIn wsX7_entry (va_wsS RX7 48 yX7_within wsX7_within) := goodIn_app (goodIn_of _ (by decide +kernel)) ggX7_entry_X7_within
set_option maxRecDepth 20000 in
theorem ggX7_entry_X1_mayFollow : GoodIn wsX7_entry wsX1_mayFollow := goodIn_r _ [14, 15, 16, 17, 29, 30, 31, 32, 33, 34, 35, 36, 37, 38, 39] (by decide +kernel) (by decide +kernel)
set_option maxRecDepth 20000 in
theorem gX7_entry_X1_mayFollow : GoodIn wsX7_entry (wsV RX7 297 RX1 yX1_mayFollow wsX1_mayFollow) := goodIn_app (goodIn_of _ (by decide +kernel)) ggX7_entry_X1_mayFollow
set_option maxRecDepth 20000 in
theorem ggX7_entry_X1_add : GoodIn wsX7_entry wsX1_add := goodIn_r _ [21, 15, 16, 17, 22, 29, 30, 31, 32, 33, 34, 35, 36, 37, 38, 39] (by decide +kernel) (by decide +kernel)
set_option maxRecDepth 20000 in
theorem gX7_entry_X1_add : GoodIn wsX7_entry (wsV RX7 300 RX1 yX1_add wsX1_add) := goodIn_app (goodIn_of _ (by decide +kernel)) ggX7_entry_X1_add
theorem dX7_entry_0 : decode cX7_entry 0 = .ok (.iload_n 2, 1) := by decide +kernel
theorem dX7_entry_1 : decode cX7_entry 1 = .ok (.invokestatic 132, 3) := by decide +kernel
theorem dX7_entry_4 : decode cX7_entry 4 = .ok (.ifCond .ne 5, 3) := by decide +kernel
theorem dX7_entry_7 : decode cX7_entry 7 = .ok (.iconst (-1), 1) := by decide +kernel
theorem dX7_entry_8 : decode cX7_entry 8 = .ok (.ireturn, 1) := by decide +kernel
theorem dX7_entry_9 : decode cX7_entry 9 = .ok (.iload_n 1, 1) := by decide +kernel
theorem dX7_entry_10 : decode cX7_entry 10 = .ok (.iconst 0, 1) := by decide +kernel
theorem dX7_entry_11 : decode cX7_entry 11 = .ok (.sipush 1000, 3) := by decide +kernel
theorem dX7_entry_14 : decode cX7_entry 14 = .ok (.invokestatic 48, 3) := by decide +kernel
theorem dX7_entry_17 : decode cX7_entry 17 = .ok (.ifCond .eq 12, 3) := by decide +kernel
theorem dX7_entry_20 : decode cX7_entry 20 = .ok (.iload_n 3, 1) := by decide +kernel
theorem dX7_entry_21 : decode cX7_entry 21 = .ok (.iconst 0, 1) := by decide +kernel
theorem dX7_entry_22 : decode cX7_entry 22 = .ok (.iconst 2, 1) := by decide +kernel
theorem dX7_entry_23 : decode cX7_entry 23 = .ok (.invokestatic 48, 3) := by decide +kernel
theorem dX7_entry_26 : decode cX7_entry 26 = .ok (.ifCond .ne 6, 3) := by decide +kernel
theorem dX7_entry_29 : decode cX7_entry 29 = .ok (.bipush (-2), 2) := by decide +kernel
theorem dX7_entry_31 : decode cX7_entry 31 = .ok (.ireturn, 1) := by decide +kernel
theorem dX7_entry_32 : decode cX7_entry 32 = .ok (.aload_n 0, 1) := by decide +kernel
theorem dX7_entry_33 : decode cX7_entry 33 = .ok (.getfield 40, 3) := by decide +kernel
theorem dX7_entry_36 : decode cX7_entry 36 = .ok (.getfield 296, 3) := by decide +kernel
theorem dX7_entry_39 : decode cX7_entry 39 = .ok (.bipush 40, 2) := by decide +kernel
theorem dX7_entry_41 : decode cX7_entry 41 = .ok (.if_icmp .lt 6, 3) := by decide +kernel
theorem dX7_entry_44 : decode cX7_entry 44 = .ok (.bipush (-4), 2) := by decide +kernel
theorem dX7_entry_46 : decode cX7_entry 46 = .ok (.ireturn, 1) := by decide +kernel
theorem dX7_entry_47 : decode cX7_entry 47 = .ok (.aload_n 0, 1) := by decide +kernel
theorem dX7_entry_48 : decode cX7_entry 48 = .ok (.getfield 40, 3) := by decide +kernel
theorem dX7_entry_51 : decode cX7_entry 51 = .ok (.iload_n 1, 1) := by decide +kernel
theorem dX7_entry_52 : decode cX7_entry 52 = .ok (.iload_n 2, 1) := by decide +kernel
theorem dX7_entry_53 : decode cX7_entry 53 = .ok (.invokevirtual 297, 3) := by decide +kernel
theorem dX7_entry_56 : decode cX7_entry 56 = .ok (.ifCond .ne 6, 3) := by decide +kernel
theorem dX7_entry_59 : decode cX7_entry 59 = .ok (.bipush (-5), 2) := by decide +kernel
theorem dX7_entry_61 : decode cX7_entry 61 = .ok (.ireturn, 1) := by decide +kernel
theorem dX7_entry_62 : decode cX7_entry 62 = .ok (.aload_n 0, 1) := by decide +kernel
theorem dX7_entry_63 : decode cX7_entry 63 = .ok (.getfield 40, 3) := by decide +kernel
theorem dX7_entry_66 : decode cX7_entry 66 = .ok (.iload_n 1, 1) := by decide +kernel
theorem dX7_entry_67 : decode cX7_entry 67 = .ok (.iload_n 2, 1) := by decide +kernel
theorem dX7_entry_68 : decode cX7_entry 68 = .ok (.iload_n 3, 1) := by decide +kernel
theorem dX7_entry_69 : decode cX7_entry 69 = .ok (.invokevirtual 300, 3) := by decide +kernel
theorem dX7_entry_72 : decode cX7_entry 72 = .ok (.ireturn, 1) := by decide +kernel
set_option maxRecDepth 20000 in
theorem ggX7_log_X7_isMan : GoodIn wsX7_log wsX7_isMan := goodIn_r _ [12, 13, 14, 11, 15] (by decide +kernel) (by decide +kernel)
set_option maxRecDepth 20000 in
theorem gX7_log_X7_isMan : GoodIn wsX7_log (va_wsS RX7 132 yX7_isMan wsX7_isMan) := goodIn_app (goodIn_of _ (by decide +kernel)) ggX7_log_X7_isMan
set_option maxRecDepth 20000 in
theorem ggX7_log_X7_within : GoodIn wsX7_log wsX7_within := goodIn_r _ [15] (by decide +kernel) (by decide +kernel)
set_option maxRecDepth 20000 in
theorem gX7_log_X7_within : GoodIn wsX7_log (va_wsS RX7 48 yX7_within wsX7_within) := goodIn_app (goodIn_of _ (by decide +kernel)) ggX7_log_X7_within
set_option maxRecDepth 20000 in
theorem ggX7_log_X1_read : GoodIn wsX7_log wsX1_read := goodIn_r _ [20, 21, 22, 23, 24, 25, 26, 27, 19, 28, 29, 30, 31, 32, 33, 34, 35, 36, 37, 38, 39, 40, 41, 42, 43, 44, 45, 46, 47, 48, 49, 50, 51, 52, 53, 54, 55, 56, 57, 58, 59, 70, 71, 72, 73, 74, 75, 76, 77, 78, 79, 80] (by decide +kernel) (by decide +kernel)
set_option maxRecDepth 20000 in
theorem gX7_log_X1_read : GoodIn wsX7_log (wsV RX7 303 RX1 yX1_read wsX1_read) := goodIn_app (goodIn_of _ (by decide +kernel)) ggX7_log_X1_read
set_option maxRecDepth 20000 in
theorem ggX7_log_X1_verdict : GoodIn wsX7_log wsX1_verdict := goodIn_r _ [63, 32, 33, 70, 71, 72, 73, 74, 75, 76, 77, 78, 79, 80] (by decide +kernel) (by decide +kernel)
set_option maxRecDepth 20000 in
theorem gX7_log_X1_verdict : GoodIn wsX7_log (wsV RX7 315 RX1 yX1_verdict wsX1_verdict) := goodIn_app (goodIn_of _ (by decide +kernel)) ggX7_log_X1_verdict
theorem dX7_log_0 : decode cX7_log 0 = .ok (.iload_n 1, 1) := by decide +kernel
theorem dX7_log_1 : decode cX7_log 1 = .ok (.invokestatic 132, 3) := by decide +kernel
theorem dX7_log_4 : decode cX7_log 4 = .ok (.ifCond .ne 5, 3) := by decide +kernel
theorem dX7_log_7 : decode cX7_log 7 = .ok (.iconst (-1), 1) := by decide +kernel
theorem dX7_log_8 : decode cX7_log 8 = .ok (.ireturn, 1) := by decide +kernel
theorem dX7_log_9 : decode cX7_log 9 = .ok (.iload_n 2, 1) := by decide +kernel
theorem dX7_log_10 : decode cX7_log 10 = .ok (.iconst 0, 1) := by decide +kernel
theorem dX7_log_11 : decode cX7_log 11 = .ok (.iconst 5, 1) := by decide +kernel
theorem dX7_log_12 : decode cX7_log 12 = .ok (.invokestatic 48, 3) := by decide +kernel
theorem dX7_log_15 : decode cX7_log 15 = .ok (.ifCond .ne 6, 3) := by decide +kernel
theorem dX7_log_18 : decode cX7_log 18 = .ok (.bipush (-2), 2) := by decide +kernel
theorem dX7_log_20 : decode cX7_log 20 = .ok (.ireturn, 1) := by decide +kernel
theorem dX7_log_21 : decode cX7_log 21 = .ok (.aload_n 0, 1) := by decide +kernel
theorem dX7_log_22 : decode cX7_log 22 = .ok (.getfield 40, 3) := by decide +kernel
theorem dX7_log_25 : decode cX7_log 25 = .ok (.iload_n 1, 1) := by decide +kernel
theorem dX7_log_26 : decode cX7_log 26 = .ok (.invokevirtual 303, 3) := by decide +kernel
theorem dX7_log_29 : decode cX7_log 29 = .ok (.iload_n 2, 1) := by decide +kernel
theorem dX7_log_30 : decode cX7_log 30 = .ok (.tableswitch 81 0 4 #[34, 42, 50, 58, 73], 34) := by decide +kernel
theorem dX7_log_64 : decode cX7_log 64 = .ok (.aload_n 0, 1) := by decide +kernel
theorem dX7_log_65 : decode cX7_log 65 = .ok (.getfield 40, 3) := by decide +kernel
theorem dX7_log_68 : decode cX7_log 68 = .ok (.getfield 306, 3) := by decide +kernel
theorem dX7_log_71 : decode cX7_log 71 = .ok (.ireturn, 1) := by decide +kernel
theorem dX7_log_72 : decode cX7_log 72 = .ok (.aload_n 0, 1) := by decide +kernel
theorem dX7_log_73 : decode cX7_log 73 = .ok (.getfield 40, 3) := by decide +kernel
theorem dX7_log_76 : decode cX7_log 76 = .ok (.getfield 309, 3) := by decide +kernel
theorem dX7_log_79 : decode cX7_log 79 = .ok (.ireturn, 1) := by decide +kernel
theorem dX7_log_80 : decode cX7_log 80 = .ok (.aload_n 0, 1) := by decide +kernel
theorem dX7_log_81 : decode cX7_log 81 = .ok (.getfield 40, 3) := by decide +kernel
theorem dX7_log_84 : decode cX7_log 84 = .ok (.getfield 312, 3) := by decide +kernel
