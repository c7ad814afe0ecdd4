theorem dX3_init_0 : decode cX3_init 0 = .ok (.aload_n 0, 1) := by decide +kernel
theorem dX3_init_1 : decode cX3_init 1 = .ok (.invokespecial 3, 3) := by decide +kernel
theorem dX3_init_4 : decode cX3_init 4 = .ok (.aload_n 0, 1) := by decide +kernel
theorem dX3_init_5 : decode cX3_init 5 = .ok (.bipush 12, 2) := by decide +kernel
theorem dX3_init_7 : decode cX3_init 7 = .ok (.newarray .int, 2) := by decide +kernel
theorem dX3_init_9 : decode cX3_init 9 = .ok (.putfield 11, 3) := by decide +kernel
theorem dX3_init_12 : decode cX3_init 12 = .ok (.aload_n 0, 1) := by decide +kernel
theorem dX3_init_13 : decode cX3_init 13 = .ok (.bipush 12, 2) := by decide +kernel
theorem dX3_init_15 : decode cX3_init 15 = .ok (.newarray .int, 2) := by decide +kernel
theorem dX3_init_17 : decode cX3_init 17 = .ok (.putfield 15, 3) := by decide +kernel
theorem dX3_init_20 : decode cX3_init 20 = .ok (.aload_n 0, 1) := by decide +kernel
theorem dX3_init_21 : decode cX3_init 21 = .ok (.iconst 4, 1) := by decide +kernel
theorem dX3_init_22 : decode cX3_init 22 = .ok (.newarray .int, 2) := by decide +kernel
theorem dX3_init_24 : decode cX3_init 24 = .ok (.putfield 18, 3) := by decide +kernel
theorem dX3_init_27 : decode cX3_init 27 = .ok (.aload_n 0, 1) := by decide +kernel
theorem dX3_init_28 : decode cX3_init 28 = .ok (.iconst 4, 1) := by decide +kernel
theorem dX3_init_29 : decode cX3_init 29 = .ok (.newarray .int, 2) := by decide +kernel
theorem dX3_init_31 : decode cX3_init 31 = .ok (.putfield 21, 3) := by decide +kernel
theorem dX3_init_34 : decode cX3_init 34 = .ok (.aload_n 0, 1) := by decide +kernel
theorem dX3_init_35 : decode cX3_init 35 = .ok (.iconst 0, 1) := by decide +kernel
theorem dX3_init_36 : decode cX3_init 36 = .ok (.putfield 24, 3) := by decide +kernel
theorem dX3_init_39 : decode cX3_init 39 = .ok (.return_, 1) := by decide +kernel
set_option maxRecDepth 20000 in
theorem ggX3_isTugs_X7_within : GoodIn wsX3_isTugs wsX7_within := goodIn_r _ [3] (by decide +kernel) (by decide +kernel)
set_option maxRecDepth 20000 in
theorem gX3_isTugs_X7_within_n28 : GoodIn wsX3_isTugs (wsX7_within) := ggX3_isTugs_X7_within
theorem dX3_isTugs_0 : decode cX3_isTugs 0 = .ok (.iload_n 0, 1) := by decide +kernel
theorem dX3_isTugs_1 : decode cX3_isTugs 1 = .ok (.iconst 1, 1) := by decide +kernel
theorem dX3_isTugs_2 : decode cX3_isTugs 2 = .ok (.bipush 6, 2) := by decide +kernel
theorem dX3_isTugs_4 : decode cX3_isTugs 4 = .ok (.invokestatic 28, 3) := by decide +kernel
theorem dX3_isTugs_7 : decode cX3_isTugs 7 = .ok (.ifCond .eq 17, 3) := by decide +kernel
theorem dX3_isTugs_10 : decode cX3_isTugs 10 = .ok (.iload_n 1, 1) := by decide +kernel
theorem dX3_isTugs_11 : decode cX3_isTugs 11 = .ok (.iconst 1, 1) := by decide +kernel
theorem dX3_isTugs_12 : decode cX3_isTugs 12 = .ok (.bipush 6, 2) := by decide +kernel
theorem dX3_isTugs_14 : decode cX3_isTugs 14 = .ok (.invokestatic 28, 3) := by decide +kernel
theorem dX3_isTugs_17 : decode cX3_isTugs 17 = .ok (.ifCond .eq 7, 3) := by decide +kernel
theorem dX3_isTugs_20 : decode cX3_isTugs 20 = .ok (.iconst 1, 1) := by decide +kernel
theorem dX3_isTugs_21 : decode cX3_isTugs 21 = .ok (.goto 4, 3) := by decide +kernel
theorem dX3_isTugs_24 : decode cX3_isTugs 24 = .ok (.iconst 0, 1) := by decide +kernel
theorem dX3_isTugs_25 : decode cX3_isTugs 25 = .ok (.ireturn, 1) := by decide +kernel
set_option maxRecDepth 20000 in
theorem ggX3_isHearing_X7_within : GoodIn wsX3_isHearing wsX7_within := goodIn_r _ [3] (by decide +kernel) (by decide +kernel)
set_option maxRecDepth 20000 in
theorem gX3_isHearing_X7_within_n28 : GoodIn wsX3_isHearing (wsX7_within) := ggX3_isHearing_X7_within
theorem dX3_isHearing_0 : decode cX3_isHearing 0 = .ok (.iload_n 0, 1) := by decide +kernel
theorem dX3_isHearing_1 : decode cX3_isHearing 1 = .ok (.iconst 0, 1) := by decide +kernel
theorem dX3_isHearing_2 : decode cX3_isHearing 2 = .ok (.bipush 7, 2) := by decide +kernel
theorem dX3_isHearing_4 : decode cX3_isHearing 4 = .ok (.invokestatic 28, 3) := by decide +kernel
theorem dX3_isHearing_7 : decode cX3_isHearing 7 = .ok (.ifCond .eq 17, 3) := by decide +kernel
theorem dX3_isHearing_10 : decode cX3_isHearing 10 = .ok (.iload_n 1, 1) := by decide +kernel
theorem dX3_isHearing_11 : decode cX3_isHearing 11 = .ok (.iconst 0, 1) := by decide +kernel
theorem dX3_isHearing_12 : decode cX3_isHearing 12 = .ok (.bipush 7, 2) := by decide +kernel
theorem dX3_isHearing_14 : decode cX3_isHearing 14 = .ok (.invokestatic 28, 3) := by decide +kernel
theorem dX3_isHearing_17 : decode cX3_isHearing 17 = .ok (.ifCond .eq 7, 3) := by decide +kernel
theorem dX3_isHearing_20 : decode cX3_isHearing 20 = .ok (.iconst 1, 1) := by decide +kernel
theorem dX3_isHearing_21 : decode cX3_isHearing 21 = .ok (.goto 4, 3) := by decide +kernel
theorem dX3_isHearing_24 : decode cX3_isHearing 24 = .ok (.iconst 0, 1) := by decide +kernel
theorem dX3_isHearing_25 : decode cX3_isHearing 25 = .ok (.ireturn, 1) := by decide +kernel
theorem dX3_put_0 : decode cX3_put 0 = .ok (.aload_n 0, 1) := by decide +kernel
theorem dX3_put_1 : decode cX3_put 1 = .ok (.getfield 11, 3) := by decide +kernel
theorem dX3_put_4 : decode cX3_put 4 = .ok (.iload_n 1, 1) := by decide +kernel
theorem dX3_put_5 : decode cX3_put 5 = .ok (.iload_n 2, 1) := by decide +kernel
theorem dX3_put_6 : decode cX3_put 6 = .ok (.iastore, 1) := by decide +kernel
theorem dX3_put_7 : decode cX3_put 7 = .ok (.aload_n 0, 1) := by decide +kernel
theorem dX3_put_8 : decode cX3_put 8 = .ok (.getfield 15, 3) := by decide +kernel
theorem dX3_put_11 : decode cX3_put 11 = .ok (.iload_n 1, 1) := by decide +kernel
theorem dX3_put_12 : decode cX3_put 12 = .ok (.iload_n 3, 1) := by decide +kernel
theorem dX3_put_13 : decode cX3_put 13 = .ok (.iastore, 1) := by decide +kernel
theorem dX3_put_14 : decode cX3_put 14 = .ok (.return_, 1) := by decide +kernel
theorem dX3_isSet_0 : decode cX3_isSet 0 = .ok (.aload_n 0, 1) := by decide +kernel
theorem dX3_isSet_1 : decode cX3_isSet 1 = .ok (.getfield 11, 3) := by decide +kernel
theorem dX3_isSet_4 : decode cX3_isSet 4 = .ok (.iload_n 1, 1) := by decide +kernel
theorem dX3_isSet_5 : decode cX3_isSet 5 = .ok (.iaload, 1) := by decide +kernel
theorem dX3_isSet_6 : decode cX3_isSet 6 = .ok (.ifCond .eq 7, 3) := by decide +kernel
theorem dX3_isSet_9 : decode cX3_isSet 9 = .ok (.iconst 1, 1) := by decide +kernel
theorem dX3_isSet_10 : decode cX3_isSet 10 = .ok (.goto 4, 3) := by decide +kernel
theorem dX3_isSet_13 : decode cX3_isSet 13 = .ok (.iconst 0, 1) := by decide +kernel
theorem dX3_isSet_14 : decode cX3_isSet 14 = .ok (.ireturn, 1) := by decide +kernel
set_option maxRecDepth 20000 in
theorem ggX3_countSigns_X3_isSet : GoodIn wsX3_countSigns wsX3_isSet := goodIn_r _ [5, 6, 7, 8, 9, 10, 11] (by decide +kernel) (by decide +kernel)
set_option maxRecDepth 20000 in
theorem gX3_countSigns_X3_isSet : GoodIn wsX3_countSigns (wsV RX3 32 RX3 yX3_isSet wsX3_isSet) := goodIn_app (goodIn_of _ (by decide +kernel)) ggX3_countSigns_X3_isSet
theorem dX3_countSigns_0 : decode cX3_countSigns 0 = .ok (.iconst 0, 1) := by decide +kernel
theorem dX3_countSigns_1 : decode cX3_countSigns 1 = .ok (.istore_n 1, 1) := by decide +kernel
theorem dX3_countSigns_2 : decode cX3_countSigns 2 = .ok (.iconst 0, 1) := by decide +kernel
theorem dX3_countSigns_3 : decode cX3_countSigns 3 = .ok (.istore_n 2, 1) := by decide +kernel
theorem dX3_countSigns_4 : decode cX3_countSigns 4 = .ok (.iload_n 2, 1) := by decide +kernel
theorem dX3_countSigns_5 : decode cX3_countSigns 5 = .ok (.bipush 12, 2) := by decide +kernel
theorem dX3_countSigns_7 : decode cX3_countSigns 7 = .ok (.if_icmp .ge 20, 3) := by decide +kernel
theorem dX3_countSigns_10 : decode cX3_countSigns 10 = .ok (.aload_n 0, 1) := by decide +kernel
theorem dX3_countSigns_11 : decode cX3_countSigns 11 = .ok (.iload_n 2, 1) := by decide +kernel
theorem dX3_countSigns_12 : decode cX3_countSigns 12 = .ok (.invokevirtual 32, 3) := by decide +kernel
theorem dX3_countSigns_15 : decode cX3_countSigns 15 = .ok (.ifCond .eq 6, 3) := by decide +kernel
theorem dX3_countSigns_18 : decode cX3_countSigns 18 = .ok (.iinc 1 1, 3) := by decide +kernel
theorem dX3_countSigns_21 : decode cX3_countSigns 21 = .ok (.iinc 2 1, 3) := by decide +kernel
theorem dX3_countSigns_24 : decode cX3_countSigns 24 = .ok (.goto (-20), 3) := by decide +kernel
theorem dX3_countSigns_27 : decode cX3_countSigns 27 = .ok (.iload_n 1, 1) := by decide +kernel
theorem dX3_countSigns_28 : decode cX3_countSigns 28 = .ok (.ireturn, 1) := by decide +kernel
set_option maxRecDepth 20000 in
theorem ggX3_fromSign_X7_apart : GoodIn wsX3_fromSign wsX7_apart := goodIn_r _ [5, 6, 7, 8, 9] (by decide +kernel) (by decide +kernel)
set_option maxRecDepth 20000 in
theorem gX3_fromSign_X7_apart_n36 : GoodIn wsX3_fromSign (wsX7_apart) := ggX3_fromSign_X7_apart
theorem dX3_fromSign_0 : decode cX3_fromSign 0 = .ok (.aload_n 0, 1) := by decide +kernel
theorem dX3_fromSign_1 : decode cX3_fromSign 1 = .ok (.getfield 11, 3) := by decide +kernel
theorem dX3_fromSign_4 : decode cX3_fromSign 4 = .ok (.iload_n 1, 1) := by decide +kernel
theorem dX3_fromSign_5 : decode cX3_fromSign 5 = .ok (.iaload, 1) := by decide +kernel
theorem dX3_fromSign_6 : decode cX3_fromSign 6 = .ok (.aload_n 0, 1) := by decide +kernel
theorem dX3_fromSign_7 : decode cX3_fromSign 7 = .ok (.getfield 15, 3) := by decide +kernel
theorem dX3_fromSign_10 : decode cX3_fromSign 10 = .ok (.iload_n 1, 1) := by decide +kernel
theorem dX3_fromSign_11 : decode cX3_fromSign 11 = .ok (.iaload, 1) := by decide +kernel
theorem dX3_fromSign_12 : decode cX3_fromSign 12 = .ok (.iload_n 2, 1) := by decide +kernel
theorem dX3_fromSign_13 : decode cX3_fromSign 13 = .ok (.iload_n 3, 1) := by decide +kernel
theorem dX3_fromSign_14 : decode cX3_fromSign 14 = .ok (.invokestatic 36, 3) := by decide +kernel
theorem dX3_fromSign_17 : decode cX3_fromSign 17 = .ok (.ireturn, 1) := by decide +kernel
set_option maxRecDepth 20000 in
theorem ggX3_signOf_X3_isSet : GoodIn wsX3_signOf wsX3_isSet := goodIn_r _ [5, 6, 19, 20, 21, 22, 23] (by decide +kernel) (by decide +kernel)
set_option maxRecDepth 20000 in
theorem gX3_signOf_X3_isSet : GoodIn wsX3_signOf (wsV RX3 32 RX3 yX3_isSet wsX3_isSet) := goodIn_app (goodIn_of _ (by decide +kernel)) ggX3_signOf_X3_isSet
set_option maxRecDepth 20000 in
theorem ggX3_signOf_X3_fromSign : GoodIn wsX3_signOf wsX3_fromSign := goodIn_r _ [10, 6, 11, 12, 13, 14, 15, 16, 17, 18, 19, 20, 21, 22, 23] (by decide +kernel) (by decide +kernel)
set_option maxRecDepth 20000 in
theorem gX3_signOf_X3_fromSign : GoodIn wsX3_signOf (wsV RX3 40 RX3 yX3_fromSign wsX3_fromSign) := goodIn_app (goodIn_of _ (by decide +kernel)) ggX3_signOf_X3_fromSign
theorem dX3_signOf_0 : decode cX3_signOf 0 = .ok (.iconst 0, 1) := by decide +kernel
theorem dX3_signOf_1 : decode cX3_signOf 1 = .ok (.istore_n 3, 1) := by decide +kernel
theorem dX3_signOf_2 : decode cX3_signOf 2 = .ok (.iload_n 3, 1) := by decide +kernel
theorem dX3_signOf_3 : decode cX3_signOf 3 = .ok (.bipush 12, 2) := by decide +kernel
theorem dX3_signOf_5 : decode cX3_signOf 5 = .ok (.if_icmp .ge 29, 3) := by decide +kernel
theorem dX3_signOf_8 : decode cX3_signOf 8 = .ok (.aload_n 0, 1) := by decide +kernel
theorem dX3_signOf_9 : decode cX3_signOf 9 = .ok (.iload_n 3, 1) := by decide +kernel
theorem dX3_signOf_10 : decode cX3_signOf 10 = .ok (.invokevirtual 32, 3) := by decide +kernel
theorem dX3_signOf_13 : decode cX3_signOf 13 = .ok (.ifCond .eq 15, 3) := by decide +kernel
theorem dX3_signOf_16 : decode cX3_signOf 16 = .ok (.aload_n 0, 1) := by decide +kernel
theorem dX3_signOf_17 : decode cX3_signOf 17 = .ok (.iload_n 3, 1) := by decide +kernel
theorem dX3_signOf_18 : decode cX3_signOf 18 = .ok (.iload_n 1, 1) := by decide +kernel
theorem dX3_signOf_19 : decode cX3_signOf 19 = .ok (.iload_n 2, 1) := by decide +kernel
theorem dX3_signOf_20 : decode cX3_signOf 20 = .ok (.invokevirtual 40, 3) := by decide +kernel
theorem dX3_signOf_23 : decode cX3_signOf 23 = .ok (.ifCond .ne 5, 3) := by decide +kernel
theorem dX3_signOf_26 : decode cX3_signOf 26 = .ok (.iload_n 3, 1) := by decide +kernel
theorem dX3_signOf_27 : decode cX3_signOf 27 = .ok (.ireturn, 1) := by decide +kernel
theorem dX3_signOf_28 : decode cX3_signOf 28 = .ok (.iinc 3 1, 3) := by decide +kernel
theorem dX3_signOf_31 : decode cX3_signOf 31 = .ok (.goto (-29), 3) := by decide +kernel
theorem dX3_signOf_34 : decode cX3_signOf 34 = .ok (.bipush (-6), 2) := by decide +kernel
theorem dX3_signOf_36 : decode cX3_signOf 36 = .ok (.ireturn, 1) := by decide +kernel
set_option maxRecDepth 20000 in
theorem ggX3_onlyOneApart_X3_isSet : GoodIn wsX3_onlyOneApart wsX3_isSet := goodIn_r _ [5, 6, 19, 20, 21, 22, 23] (by decide +kernel) (by decide +kernel)
set_option maxRecDepth 20000 in
theorem gX3_onlyOneApart_X3_isSet : GoodIn wsX3_onlyOneApart (wsV RX3 32 RX3 yX3_isSet wsX3_isSet) := goodIn_app (goodIn_of _ (by decide +kernel)) ggX3_onlyOneApart_X3_isSet
set_option maxRecDepth 20000 in
theorem ggX3_onlyOneApart_X3_fromSign : GoodIn wsX3_onlyOneApart wsX3_fromSign := goodIn_r _ [10, 6, 11, 12, 13, 14, 15, 16, 17, 18, 19, 20, 21, 22, 23] (by decide +kernel) (by decide +kernel)
set_option maxRecDepth 20000 in
theorem gX3_onlyOneApart_X3_fromSign : GoodIn wsX3_onlyOneApart (wsV RX3 40 RX3 yX3_fromSign wsX3_fromSign) := goodIn_app (goodIn_of _ (by decide +kernel)) ggX3_onlyOneApart_X3_fromSign
theorem dX3_onlyOneApart_0 : decode cX3_onlyOneApart 0 = .ok (.bipush (-6), 2) := by decide +kernel
theorem dX3_onlyOneApart_2 : decode cX3_onlyOneApart 2 = .ok (.istore_n 3, 1) := by decide +kernel
theorem dX3_onlyOneApart_3 : decode cX3_onlyOneApart 3 = .ok (.iconst 0, 1) := by decide +kernel
theorem dX3_onlyOneApart_4 : decode cX3_onlyOneApart 4 = .ok (.istore 4, 2) := by decide +kernel
theorem dX3_onlyOneApart_6 : decode cX3_onlyOneApart 6 = .ok (.iload 4, 2) := by decide +kernel
theorem dX3_onlyOneApart_8 : decode cX3_onlyOneApart 8 = .ok (.bipush 12, 2) := by decide +kernel
theorem dX3_onlyOneApart_10 : decode cX3_onlyOneApart 10 = .ok (.if_icmp .ge 45, 3) := by decide +kernel
theorem dX3_onlyOneApart_13 : decode cX3_onlyOneApart 13 = .ok (.aload_n 0, 1) := by decide +kernel
theorem dX3_onlyOneApart_14 : decode cX3_onlyOneApart 14 = .ok (.iload 4, 2) := by decide +kernel
theorem dX3_onlyOneApart_16 : decode cX3_onlyOneApart 16 = .ok (.invokevirtual 32, 3) := by decide +kernel
theorem dX3_onlyOneApart_19 : decode cX3_onlyOneApart 19 = .ok (.ifCond .eq 30, 3) := by decide +kernel
theorem dX3_onlyOneApart_22 : decode cX3_onlyOneApart 22 = .ok (.aload_n 0, 1) := by decide +kernel
theorem dX3_onlyOneApart_23 : decode cX3_onlyOneApart 23 = .ok (.iload 4, 2) := by decide +kernel
theorem dX3_onlyOneApart_25 : decode cX3_onlyOneApart 25 = .ok (.iload_n 1, 1) := by decide +kernel
theorem dX3_onlyOneApart_26 : decode cX3_onlyOneApart 26 = .ok (.iload_n 2, 1) := by decide +kernel
theorem dX3_onlyOneApart_27 : decode cX3_onlyOneApart 27 = .ok (.invokevirtual 40, 3) := by decide +kernel
theorem dX3_onlyOneApart_30 : decode cX3_onlyOneApart 30 = .ok (.iconst 1, 1) := by decide +kernel
theorem dX3_onlyOneApart_31 : decode cX3_onlyOneApart 31 = .ok (.if_icmp .eq 6, 3) := by decide +kernel
theorem dX3_onlyOneApart_34 : decode cX3_onlyOneApart 34 = .ok (.goto 15, 3) := by decide +kernel
theorem dX3_onlyOneApart_37 : decode cX3_onlyOneApart 37 = .ok (.iload_n 3, 1) := by decide +kernel
theorem dX3_onlyOneApart_38 : decode cX3_onlyOneApart 38 = .ok (.bipush (-6), 2) := by decide +kernel
theorem dX3_onlyOneApart_40 : decode cX3_onlyOneApart 40 = .ok (.if_icmp .eq 6, 3) := by decide +kernel
theorem dX3_onlyOneApart_43 : decode cX3_onlyOneApart 43 = .ok (.bipush (-6), 2) := by decide +kernel
theorem dX3_onlyOneApart_45 : decode cX3_onlyOneApart 45 = .ok (.ireturn, 1) := by decide +kernel
theorem dX3_onlyOneApart_46 : decode cX3_onlyOneApart 46 = .ok (.iload 4, 2) := by decide +kernel
theorem dX3_onlyOneApart_48 : decode cX3_onlyOneApart 48 = .ok (.istore_n 3, 1) := by decide +kernel
theorem dX3_onlyOneApart_49 : decode cX3_onlyOneApart 49 = .ok (.iinc 4 1, 3) := by decide +kernel
theorem dX3_onlyOneApart_52 : decode cX3_onlyOneApart 52 = .ok (.goto (-46), 3) := by decide +kernel
theorem dX3_onlyOneApart_55 : decode cX3_onlyOneApart 55 = .ok (.iload_n 3, 1) := by decide +kernel
theorem dX3_onlyOneApart_56 : decode cX3_onlyOneApart 56 = .ok (.ireturn, 1) := by decide +kernel
theorem dX3_addHearing_0 : decode cX3_addHearing 0 = .ok (.aload_n 0, 1) := by decide +kernel
theorem dX3_addHearing_1 : decode cX3_addHearing 1 = .ok (.getfield 18, 3) := by decide +kernel
theorem dX3_addHearing_4 : decode cX3_addHearing 4 = .ok (.aload_n 0, 1) := by decide +kernel
theorem dX3_addHearing_5 : decode cX3_addHearing 5 = .ok (.getfield 24, 3) := by decide +kernel
theorem dX3_addHearing_8 : decode cX3_addHearing 8 = .ok (.iload_n 1, 1) := by decide +kernel
theorem dX3_addHearing_9 : decode cX3_addHearing 9 = .ok (.iastore, 1) := by decide +kernel
theorem dX3_addHearing_10 : decode cX3_addHearing 10 = .ok (.aload_n 0, 1) := by decide +kernel
theorem dX3_addHearing_11 : decode cX3_addHearing 11 = .ok (.getfield 21, 3) := by decide +kernel
theorem dX3_addHearing_14 : decode cX3_addHearing 14 = .ok (.aload_n 0, 1) := by decide +kernel
theorem dX3_addHearing_15 : decode cX3_addHearing 15 = .ok (.getfield 24, 3) := by decide +kernel
theorem dX3_addHearing_18 : decode cX3_addHearing 18 = .ok (.iload_n 2, 1) := by decide +kernel
theorem dX3_addHearing_19 : decode cX3_addHearing 19 = .ok (.iastore, 1) := by decide +kernel
theorem dX3_addHearing_20 : decode cX3_addHearing 20 = .ok (.aload_n 0, 1) := by decide +kernel
theorem dX3_addHearing_21 : decode cX3_addHearing 21 = .ok (.dup, 1) := by decide +kernel
theorem dX3_addHearing_22 : decode cX3_addHearing 22 = .ok (.getfield 24, 3) := by decide +kernel
theorem dX3_addHearing_25 : decode cX3_addHearing 25 = .ok (.iconst 1, 1) := by decide +kernel
theorem dX3_addHearing_26 : decode cX3_addHearing 26 = .ok (.iadd, 1) := by decide +kernel
theorem dX3_addHearing_27 : decode cX3_addHearing 27 = .ok (.putfield 24, 3) := by decide +kernel
theorem dX3_addHearing_30 : decode cX3_addHearing 30 = .ok (.aload_n 0, 1) := by decide +kernel
theorem dX3_addHearing_31 : decode cX3_addHearing 31 = .ok (.getfield 24, 3) := by decide +kernel
theorem dX3_addHearing_34 : decode cX3_addHearing 34 = .ok (.ireturn, 1) := by decide +kernel
set_option maxRecDepth 20000 in
theorem ggX3_nearestToRow_X3_isSet : GoodIn wsX3_nearestToRow wsX3_isSet := goodIn_r _ [5, 6, 26, 27, 28, 29, 30] (by decide +kernel) (by decide +kernel)
set_option maxRecDepth 20000 in
theorem gX3_nearestToRow_X3_isSet : GoodIn wsX3_nearestToRow (wsV RX3 32 RX3 yX3_isSet wsX3_isSet) := goodIn_app (goodIn_of _ (by decide +kernel)) ggX3_nearestToRow_X3_isSet
set_option maxRecDepth 20000 in
theorem ggX3_nearestToRow_X3_fromRow : GoodIn wsX3_nearestToRow wsX3_fromRow := goodIn_r _ [10, 11, 12, 13, 14, 15, 16, 4, 17, 6, 18, 19, 20, 21, 22, 23, 24, 25, 26, 27, 28, 29, 30] (by decide +kernel) (by decide +kernel)
set_option maxRecDepth 20000 in
theorem gX3_nearestToRow_X3_fromRow : GoodIn wsX3_nearestToRow (wsV RX3 44 RX3 yX3_fromRow wsX3_fromRow) := goodIn_app (goodIn_of _ (by decide +kernel)) ggX3_nearestToRow_X3_fromRow
theorem dX3_nearestToRow_0 : decode cX3_nearestToRow 0 = .ok (.bipush (-6), 2) := by decide +kernel
theorem dX3_nearestToRow_2 : decode cX3_nearestToRow 2 = .ok (.istore_n 1, 1) := by decide +kernel
theorem dX3_nearestToRow_3 : decode cX3_nearestToRow 3 = .ok (.sipush 1000, 3) := by decide +kernel
theorem dX3_nearestToRow_6 : decode cX3_nearestToRow 6 = .ok (.istore_n 2, 1) := by decide +kernel
theorem dX3_nearestToRow_7 : decode cX3_nearestToRow 7 = .ok (.iconst 0, 1) := by decide +kernel
theorem dX3_nearestToRow_8 : decode cX3_nearestToRow 8 = .ok (.istore_n 3, 1) := by decide +kernel
theorem dX3_nearestToRow_9 : decode cX3_nearestToRow 9 = .ok (.iload_n 3, 1) := by decide +kernel
theorem dX3_nearestToRow_10 : decode cX3_nearestToRow 10 = .ok (.bipush 12, 2) := by decide +kernel
theorem dX3_nearestToRow_12 : decode cX3_nearestToRow 12 = .ok (.if_icmp .ge 47, 3) := by decide +kernel
theorem dX3_nearestToRow_15 : decode cX3_nearestToRow 15 = .ok (.aload_n 0, 1) := by decide +kernel
theorem dX3_nearestToRow_16 : decode cX3_nearestToRow 16 = .ok (.iload_n 3, 1) := by decide +kernel
theorem dX3_nearestToRow_17 : decode cX3_nearestToRow 17 = .ok (.invokevirtual 32, 3) := by decide +kernel
theorem dX3_nearestToRow_20 : decode cX3_nearestToRow 20 = .ok (.ifCond .ne 6, 3) := by decide +kernel
theorem dX3_nearestToRow_23 : decode cX3_nearestToRow 23 = .ok (.goto 30, 3) := by decide +kernel
theorem dX3_nearestToRow_26 : decode cX3_nearestToRow 26 = .ok (.aload_n 0, 1) := by decide +kernel
theorem dX3_nearestToRow_27 : decode cX3_nearestToRow 27 = .ok (.iload_n 3, 1) := by decide +kernel
theorem dX3_nearestToRow_28 : decode cX3_nearestToRow 28 = .ok (.invokevirtual 44, 3) := by decide +kernel
theorem dX3_nearestToRow_31 : decode cX3_nearestToRow 31 = .ok (.istore 4, 2) := by decide +kernel
theorem dX3_nearestToRow_33 : decode cX3_nearestToRow 33 = .ok (.iload 4, 2) := by decide +kernel
theorem dX3_nearestToRow_35 : decode cX3_nearestToRow 35 = .ok (.iload_n 2, 1) := by decide +kernel
theorem dX3_nearestToRow_36 : decode cX3_nearestToRow 36 = .ok (.if_icmp .ne 6, 3) := by decide +kernel
theorem dX3_nearestToRow_39 : decode cX3_nearestToRow 39 = .ok (.bipush (-6), 2) := by decide +kernel
theorem dX3_nearestToRow_41 : decode cX3_nearestToRow 41 = .ok (.istore_n 1, 1) := by decide +kernel
theorem dX3_nearestToRow_42 : decode cX3_nearestToRow 42 = .ok (.iload 4, 2) := by decide +kernel
theorem dX3_nearestToRow_44 : decode cX3_nearestToRow 44 = .ok (.iload_n 2, 1) := by decide +kernel
theorem dX3_nearestToRow_45 : decode cX3_nearestToRow 45 = .ok (.if_icmp .ge 8, 3) := by decide +kernel
theorem dX3_nearestToRow_48 : decode cX3_nearestToRow 48 = .ok (.iload_n 3, 1) := by decide +kernel
theorem dX3_nearestToRow_49 : decode cX3_nearestToRow 49 = .ok (.istore_n 1, 1) := by decide +kernel
theorem dX3_nearestToRow_50 : decode cX3_nearestToRow 50 = .ok (.iload 4, 2) := by decide +kernel
theorem dX3_nearestToRow_52 : decode cX3_nearestToRow 52 = .ok (.istore_n 2, 1) := by decide +kernel
theorem dX3_nearestToRow_53 : decode cX3_nearestToRow 53 = .ok (.iinc 3 1, 3) := by decide +kernel
theorem dX3_nearestToRow_56 : decode cX3_nearestToRow 56 = .ok (.goto (-47), 3) := by decide +kernel
theorem dX3_nearestToRow_59 : decode cX3_nearestToRow 59 = .ok (.iload_n 1, 1) := by decide +kernel
theorem dX3_nearestToRow_60 : decode cX3_nearestToRow 60 = .ok (.ireturn, 1) := by decide +kernel
set_option maxRecDepth 20000 in
theorem ggX3_fromRow_X3_fromSign : GoodIn wsX3_fromRow wsX3_fromSign := goodIn_r _ [8, 9, 10, 11, 12, 13, 14, 15, 16, 17, 18, 19, 20, 21, 22] (by decide +kernel) (by decide +kernel)
set_option maxRecDepth 20000 in
theorem gX3_fromRow_X3_fromSign : GoodIn wsX3_fromRow (wsV RX3 40 RX3 yX3_fromSign wsX3_fromSign) := goodIn_app (goodIn_of _ (by decide +kernel)) ggX3_fromRow_X3_fromSign
theorem dX3_fromRow_0 : decode cX3_fromRow 0 = .ok (.iconst 0, 1) := by decide +kernel
theorem dX3_fromRow_1 : decode cX3_fromRow 1 = .ok (.istore_n 2, 1) := by decide +kernel
theorem dX3_fromRow_2 : decode cX3_fromRow 2 = .ok (.iconst 0, 1) := by decide +kernel
theorem dX3_fromRow_3 : decode cX3_fromRow 3 = .ok (.istore_n 3, 1) := by decide +kernel
theorem dX3_fromRow_4 : decode cX3_fromRow 4 = .ok (.iload_n 3, 1) := by decide +kernel
theorem dX3_fromRow_5 : decode cX3_fromRow 5 = .ok (.aload_n 0, 1) := by decide +kernel
theorem dX3_fromRow_6 : decode cX3_fromRow 6 = .ok (.getfield 24, 3) := by decide +kernel
theorem dX3_fromRow_9 : decode cX3_fromRow 9 = .ok (.if_icmp .ge 29, 3) := by decide +kernel
theorem dX3_fromRow_12 : decode cX3_fromRow 12 = .ok (.iload_n 2, 1) := by decide +kernel
theorem dX3_fromRow_13 : decode cX3_fromRow 13 = .ok (.aload_n 0, 1) := by decide +kernel
theorem dX3_fromRow_14 : decode cX3_fromRow 14 = .ok (.iload_n 1, 1) := by decide +kernel
theorem dX3_fromRow_15 : decode cX3_fromRow 15 = .ok (.aload_n 0, 1) := by decide +kernel
theorem dX3_fromRow_16 : decode cX3_fromRow 16 = .ok (.getfield 18, 3) := by decide +kernel
theorem dX3_fromRow_19 : decode cX3_fromRow 19 = .ok (.iload_n 3, 1) := by decide +kernel
theorem dX3_fromRow_20 : decode cX3_fromRow 20 = .ok (.iaload, 1) := by decide +kernel
theorem dX3_fromRow_21 : decode cX3_fromRow 21 = .ok (.aload_n 0, 1) := by decide +kernel
theorem dX3_fromRow_22 : decode cX3_fromRow 22 = .ok (.getfield 21, 3) := by decide +kernel
theorem dX3_fromRow_25 : decode cX3_fromRow 25 = .ok (.iload_n 3, 1) := by decide +kernel
theorem dX3_fromRow_26 : decode cX3_fromRow 26 = .ok (.iaload, 1) := by decide +kernel
theorem dX3_fromRow_27 : decode cX3_fromRow 27 = .ok (.invokevirtual 40, 3) := by decide +kernel
theorem dX3_fromRow_30 : decode cX3_fromRow 30 = .ok (.iadd, 1) := by decide +kernel
theorem dX3_fromRow_31 : decode cX3_fromRow 31 = .ok (.istore_n 2, 1) := by decide +kernel
theorem dX3_fromRow_32 : decode cX3_fromRow 32 = .ok (.iinc 3 1, 3) := by decide +kernel
theorem dX3_fromRow_35 : decode cX3_fromRow 35 = .ok (.goto (-31), 3) := by decide +kernel
theorem dX3_fromRow_38 : decode cX3_fromRow 38 = .ok (.iload_n 2, 1) := by decide +kernel
theorem dX3_fromRow_39 : decode cX3_fromRow 39 = .ok (.ireturn, 1) := by decide +kernel
set_option maxRecDepth 20000 in
theorem ggX3_leastApart_X3_isSet : GoodIn wsX3_leastApart wsX3_isSet := goodIn_r _ [9, 10, 26, 27, 28, 29, 30] (by decide +kernel) (by decide +kernel)
set_option maxRecDepth 20000 in
theorem gX3_leastApart_X3_isSet : GoodIn wsX3_leastApart (wsV RX3 32 RX3 yX3_isSet wsX3_isSet) := goodIn_app (goodIn_of _ (by decide +kernel)) ggX3_leastApart_X3_isSet
set_option maxRecDepth 20000 in
theorem ggX3_leastApart_X3_fromSignsBehind : GoodIn wsX3_leastApart wsX3_fromSignsBehind := goodIn_r _ [14, 10, 15, 1, 2, 3, 4, 5, 6, 7, 8, 9, 16, 17, 18, 19, 20, 21, 22, 23, 24, 25, 26, 27, 28, 29, 30] (by decide +kernel) (by decide +kernel)
set_option maxRecDepth 20000 in
theorem gX3_leastApart_X3_fromSignsBehind : GoodIn wsX3_leastApart (wsV RX3 48 RX3 yX3_fromSignsBehind wsX3_fromSignsBehind) := goodIn_app (goodIn_of _ (by decide +kernel)) ggX3_leastApart_X3_fromSignsBehind
theorem dX3_leastApart_0 : decode cX3_leastApart 0 = .ok (.sipush 1000, 3) := by decide +kernel
theorem dX3_leastApart_3 : decode cX3_leastApart 3 = .ok (.istore_n 1, 1) := by decide +kernel
theorem dX3_leastApart_4 : decode cX3_leastApart 4 = .ok (.iconst 0, 1) := by decide +kernel
theorem dX3_leastApart_5 : decode cX3_leastApart 5 = .ok (.istore_n 2, 1) := by decide +kernel
theorem dX3_leastApart_6 : decode cX3_leastApart 6 = .ok (.iload_n 2, 1) := by decide +kernel
theorem dX3_leastApart_7 : decode cX3_leastApart 7 = .ok (.bipush 12, 2) := by decide +kernel
theorem dX3_leastApart_9 : decode cX3_leastApart 9 = .ok (.if_icmp .ge 27, 3) := by decide +kernel
theorem dX3_leastApart_12 : decode cX3_leastApart 12 = .ok (.aload_n 0, 1) := by decide +kernel
theorem dX3_leastApart_13 : decode cX3_leastApart 13 = .ok (.iload_n 2, 1) := by decide +kernel
theorem dX3_leastApart_14 : decode cX3_leastApart 14 = .ok (.invokevirtual 32, 3) := by decide +kernel
theorem dX3_leastApart_17 : decode cX3_leastApart 17 = .ok (.ifCond .eq 13, 3) := by decide +kernel
theorem dX3_leastApart_20 : decode cX3_leastApart 20 = .ok (.iload_n 1, 1) := by decide +kernel
theorem dX3_leastApart_21 : decode cX3_leastApart 21 = .ok (.aload_n 0, 1) := by decide +kernel
theorem dX3_leastApart_22 : decode cX3_leastApart 22 = .ok (.iload_n 2, 1) := by decide +kernel
theorem dX3_leastApart_23 : decode cX3_leastApart 23 = .ok (.invokevirtual 48, 3) := by decide +kernel
theorem dX3_leastApart_26 : decode cX3_leastApart 26 = .ok (.invokestatic 51, 3) := by decide +kernel
theorem dX3_leastApart_29 : decode cX3_leastApart 29 = .ok (.istore_n 1, 1) := by decide +kernel
theorem dX3_leastApart_30 : decode cX3_leastApart 30 = .ok (.iinc 2 1, 3) := by decide +kernel
theorem dX3_leastApart_33 : decode cX3_leastApart 33 = .ok (.goto (-27), 3) := by decide +kernel
theorem dX3_leastApart_36 : decode cX3_leastApart 36 = .ok (.iload_n 1, 1) := by decide +kernel
theorem dX3_leastApart_37 : decode cX3_leastApart 37 = .ok (.sipush 1000, 3) := by decide +kernel
theorem dX3_leastApart_40 : decode cX3_leastApart 40 = .ok (.if_icmp .ne 8, 3) := by decide +kernel
theorem dX3_leastApart_43 : decode cX3_leastApart 43 = .ok (.bipush (-6), 2) := by decide +kernel
theorem dX3_leastApart_45 : decode cX3_leastApart 45 = .ok (.goto 4, 3) := by decide +kernel
theorem dX3_leastApart_48 : decode cX3_leastApart 48 = .ok (.iload_n 1, 1) := by decide +kernel
theorem dX3_leastApart_49 : decode cX3_leastApart 49 = .ok (.ireturn, 1) := by decide +kernel
set_option maxRecDepth 20000 in
theorem ggX3_fromSignsBehind_X3_isSet : GoodIn wsX3_fromSignsBehind wsX3_isSet := goodIn_r _ [11, 1, 22, 23, 24, 25, 26] (by decide +kernel) (by decide +kernel)
set_option maxRecDepth 20000 in
theorem gX3_fromSignsBehind_X3_isSet : GoodIn wsX3_fromSignsBehind (wsV RX3 32 RX3 yX3_isSet wsX3_isSet) := goodIn_app (goodIn_of _ (by decide +kernel)) ggX3_fromSignsBehind_X3_isSet
set_option maxRecDepth 20000 in
theorem ggX3_fromSignsBehind_X3_fromSign : GoodIn wsX3_fromSignsBehind wsX3_fromSign := goodIn_r _ [15, 1, 2, 16, 17, 18, 19, 20, 5, 21, 22, 23, 24, 25, 26] (by decide +kernel) (by decide +kernel)
set_option maxRecDepth 20000 in
theorem gX3_fromSignsBehind_X3_fromSign : GoodIn wsX3_fromSignsBehind (wsV RX3 40 RX3 yX3_fromSign wsX3_fromSign) := goodIn_app (goodIn_of _ (by decide +kernel)) ggX3_fromSignsBehind_X3_fromSign
theorem dX3_fromSignsBehind_0 : decode cX3_fromSignsBehind 0 = .ok (.sipush 1000, 3) := by decide +kernel
theorem dX3_fromSignsBehind_3 : decode cX3_fromSignsBehind 3 = .ok (.istore_n 2, 1) := by decide +kernel
theorem dX3_fromSignsBehind_4 : decode cX3_fromSignsBehind 4 = .ok (.iload_n 1, 1) := by decide +kernel
theorem dX3_fromSignsBehind_5 : decode cX3_fromSignsBehind 5 = .ok (.iconst 1, 1) := by decide +kernel
theorem dX3_fromSignsBehind_6 : decode cX3_fromSignsBehind 6 = .ok (.iadd, 1) := by decide +kernel
theorem dX3_fromSignsBehind_7 : decode cX3_fromSignsBehind 7 = .ok (.istore_n 3, 1) := by decide +kernel
theorem dX3_fromSignsBehind_8 : decode cX3_fromSignsBehind 8 = .ok (.iload_n 3, 1) := by decide +kernel
theorem dX3_fromSignsBehind_9 : decode cX3_fromSignsBehind 9 = .ok (.bipush 12, 2) := by decide +kernel
theorem dX3_fromSignsBehind_11 : decode cX3_fromSignsBehind 11 = .ok (.if_icmp .ge 39, 3) := by decide +kernel
theorem dX3_fromSignsBehind_14 : decode cX3_fromSignsBehind 14 = .ok (.aload_n 0, 1) := by decide +kernel
theorem dX3_fromSignsBehind_15 : decode cX3_fromSignsBehind 15 = .ok (.iload_n 3, 1) := by decide +kernel
theorem dX3_fromSignsBehind_16 : decode cX3_fromSignsBehind 16 = .ok (.invokevirtual 32, 3) := by decide +kernel
theorem dX3_fromSignsBehind_19 : decode cX3_fromSignsBehind 19 = .ok (.ifCond .eq 25, 3) := by decide +kernel
theorem dX3_fromSignsBehind_22 : decode cX3_fromSignsBehind 22 = .ok (.iload_n 2, 1) := by decide +kernel
theorem dX3_fromSignsBehind_23 : decode cX3_fromSignsBehind 23 = .ok (.aload_n 0, 1) := by decide +kernel
theorem dX3_fromSignsBehind_24 : decode cX3_fromSignsBehind 24 = .ok (.iload_n 3, 1) := by decide +kernel
theorem dX3_fromSignsBehind_25 : decode cX3_fromSignsBehind 25 = .ok (.aload_n 0, 1) := by decide +kernel
theorem dX3_fromSignsBehind_26 : decode cX3_fromSignsBehind 26 = .ok (.getfield 11, 3) := by decide +kernel
theorem dX3_fromSignsBehind_29 : decode cX3_fromSignsBehind 29 = .ok (.iload_n 1, 1) := by decide +kernel
theorem dX3_fromSignsBehind_30 : decode cX3_fromSignsBehind 30 = .ok (.iaload, 1) := by decide +kernel
theorem dX3_fromSignsBehind_31 : decode cX3_fromSignsBehind 31 = .ok (.aload_n 0, 1) := by decide +kernel
theorem dX3_fromSignsBehind_32 : decode cX3_fromSignsBehind 32 = .ok (.getfield 15, 3) := by decide +kernel
theorem dX3_fromSignsBehind_35 : decode cX3_fromSignsBehind 35 = .ok (.iload_n 1, 1) := by decide +kernel
theorem dX3_fromSignsBehind_36 : decode cX3_fromSignsBehind 36 = .ok (.iaload, 1) := by decide +kernel
theorem dX3_fromSignsBehind_37 : decode cX3_fromSignsBehind 37 = .ok (.invokevirtual 40, 3) := by decide +kernel
theorem dX3_fromSignsBehind_40 : decode cX3_fromSignsBehind 40 = .ok (.invokestatic 51, 3) := by decide +kernel
theorem dX3_fromSignsBehind_43 : decode cX3_fromSignsBehind 43 = .ok (.istore_n 2, 1) := by decide +kernel
theorem dX3_fromSignsBehind_44 : decode cX3_fromSignsBehind 44 = .ok (.iinc 3 1, 3) := by decide +kernel
theorem dX3_fromSignsBehind_47 : decode cX3_fromSignsBehind 47 = .ok (.goto (-39), 3) := by decide +kernel
theorem dX3_fromSignsBehind_50 : decode cX3_fromSignsBehind 50 = .ok (.iload_n 2, 1) := by decide +kernel
theorem dX3_fromSignsBehind_51 : decode cX3_fromSignsBehind 51 = .ok (.ireturn, 1) := by decide +kernel
set_option maxRecDepth 20000 in
theorem ggX3_firstFree_X3_isFarFromAll : GoodIn wsX3_firstFree wsX3_isFarFromAll := goodIn_r _ [5, 6, 7, 8, 4, 9, 10, 11, 12, 13, 14, 15, 16, 17, 18, 19, 20, 21, 22, 23, 24, 25, 26, 27] (by decide +kernel) (by decide +kernel)
set_option maxRecDepth 20000 in
theorem gX3_firstFree_X3_isFarFromAll : GoodIn wsX3_firstFree (wsV RX3 57 RX3 yX3_isFarFromAll wsX3_isFarFromAll) := goodIn_app (goodIn_of _ (by decide +kernel)) ggX3_firstFree_X3_isFarFromAll
theorem dX3_firstFree_0 : decode cX3_firstFree 0 = .ok (.iconst 1, 1) := by decide +kernel
theorem dX3_firstFree_1 : decode cX3_firstFree 1 = .ok (.istore_n 2, 1) := by decide +kernel
theorem dX3_firstFree_2 : decode cX3_firstFree 2 = .ok (.iload_n 2, 1) := by decide +kernel
theorem dX3_firstFree_3 : decode cX3_firstFree 3 = .ok (.bipush 6, 2) := by decide +kernel
theorem dX3_firstFree_5 : decode cX3_firstFree 5 = .ok (.if_icmp .gt 40, 3) := by decide +kernel
theorem dX3_firstFree_8 : decode cX3_firstFree 8 = .ok (.iconst 1, 1) := by decide +kernel
theorem dX3_firstFree_9 : decode cX3_firstFree 9 = .ok (.istore_n 3, 1) := by decide +kernel
theorem dX3_firstFree_10 : decode cX3_firstFree 10 = .ok (.iload_n 3, 1) := by decide +kernel
theorem dX3_firstFree_11 : decode cX3_firstFree 11 = .ok (.bipush 6, 2) := by decide +kernel
theorem dX3_firstFree_13 : decode cX3_firstFree 13 = .ok (.if_icmp .gt 26, 3) := by decide +kernel
theorem dX3_firstFree_16 : decode cX3_firstFree 16 = .ok (.aload_n 0, 1) := by decide +kernel
theorem dX3_firstFree_17 : decode cX3_firstFree 17 = .ok (.iload_n 2, 1) := by decide +kernel
theorem dX3_firstFree_18 : decode cX3_firstFree 18 = .ok (.iload_n 3, 1) := by decide +kernel
theorem dX3_firstFree_19 : decode cX3_firstFree 19 = .ok (.iload_n 1, 1) := by decide +kernel
theorem dX3_firstFree_20 : decode cX3_firstFree 20 = .ok (.invokevirtual 57, 3) := by decide +kernel
theorem dX3_firstFree_23 : decode cX3_firstFree 23 = .ok (.ifCond .eq 10, 3) := by decide +kernel
theorem dX3_firstFree_26 : decode cX3_firstFree 26 = .ok (.bipush 10, 2) := by decide +kernel
theorem dX3_firstFree_28 : decode cX3_firstFree 28 = .ok (.iload_n 2, 1) := by decide +kernel
theorem dX3_firstFree_29 : decode cX3_firstFree 29 = .ok (.imul, 1) := by decide +kernel
theorem dX3_firstFree_30 : decode cX3_firstFree 30 = .ok (.iload_n 3, 1) := by decide +kernel
theorem dX3_firstFree_31 : decode cX3_firstFree 31 = .ok (.iadd, 1) := by decide +kernel
theorem dX3_firstFree_32 : decode cX3_firstFree 32 = .ok (.ireturn, 1) := by decide +kernel
theorem dX3_firstFree_33 : decode cX3_firstFree 33 = .ok (.iinc 3 1, 3) := by decide +kernel
theorem dX3_firstFree_36 : decode cX3_firstFree 36 = .ok (.goto (-26), 3) := by decide +kernel
theorem dX3_firstFree_39 : decode cX3_firstFree 39 = .ok (.iinc 2 1, 3) := by decide +kernel
theorem dX3_firstFree_42 : decode cX3_firstFree 42 = .ok (.goto (-40), 3) := by decide +kernel
theorem dX3_firstFree_45 : decode cX3_firstFree 45 = .ok (.bipush (-6), 2) := by decide +kernel
theorem dX3_firstFree_47 : decode cX3_firstFree 47 = .ok (.ireturn, 1) := by decide +kernel
set_option maxRecDepth 20000 in
theorem ggX3_isFarFromAll_X3_isSet : GoodIn wsX3_isFarFromAll wsX3_isSet := goodIn_r _ [5, 6, 19, 20, 21, 22, 23] (by decide +kernel) (by decide +kernel)
set_option maxRecDepth 20000 in
theorem gX3_isFarFromAll_X3_isSet : GoodIn wsX3_isFarFromAll (wsV RX3 32 RX3 yX3_isSet wsX3_isSet) := goodIn_app (goodIn_of _ (by decide +kernel)) ggX3_isFarFromAll_X3_isSet
set_option maxRecDepth 20000 in
theorem ggX3_isFarFromAll_X3_fromSign : GoodIn wsX3_isFarFromAll wsX3_fromSign := goodIn_r _ [10, 6, 11, 12, 13, 14, 15, 16, 17, 18, 19, 20, 21, 22, 23] (by decide +kernel) (by decide +kernel)
set_option maxRecDepth 20000 in
theorem gX3_isFarFromAll_X3_fromSign : GoodIn wsX3_isFarFromAll (wsV RX3 40 RX3 yX3_fromSign wsX3_fromSign) := goodIn_app (goodIn_of _ (by decide +kernel)) ggX3_isFarFromAll_X3_fromSign
theorem dX3_isFarFromAll_0 : decode cX3_isFarFromAll 0 = .ok (.iconst 0, 1) := by decide +kernel
theorem dX3_isFarFromAll_1 : decode cX3_isFarFromAll 1 = .ok (.istore 4, 2) := by decide +kernel
theorem dX3_isFarFromAll_3 : decode cX3_isFarFromAll 3 = .ok (.iload 4, 2) := by decide +kernel
theorem dX3_isFarFromAll_5 : decode cX3_isFarFromAll 5 = .ok (.bipush 12, 2) := by decide +kernel
theorem dX3_isFarFromAll_7 : decode cX3_isFarFromAll 7 = .ok (.if_icmp .ge 32, 3) := by decide +kernel
theorem dX3_isFarFromAll_10 : decode cX3_isFarFromAll 10 = .ok (.aload_n 0, 1) := by decide +kernel
theorem dX3_isFarFromAll_11 : decode cX3_isFarFromAll 11 = .ok (.iload 4, 2) := by decide +kernel
theorem dX3_isFarFromAll_13 : decode cX3_isFarFromAll 13 = .ok (.invokevirtual 32, 3) := by decide +kernel
theorem dX3_isFarFromAll_16 : decode cX3_isFarFromAll 16 = .ok (.ifCond .eq 17, 3) := by decide +kernel
theorem dX3_isFarFromAll_19 : decode cX3_isFarFromAll 19 = .ok (.aload_n 0, 1) := by decide +kernel
theorem dX3_isFarFromAll_20 : decode cX3_isFarFromAll 20 = .ok (.iload 4, 2) := by decide +kernel
theorem dX3_isFarFromAll_22 : decode cX3_isFarFromAll 22 = .ok (.iload_n 1, 1) := by decide +kernel
theorem dX3_isFarFromAll_23 : decode cX3_isFarFromAll 23 = .ok (.iload_n 2, 1) := by decide +kernel
theorem dX3_isFarFromAll_24 : decode cX3_isFarFromAll 24 = .ok (.invokevirtual 40, 3) := by decide +kernel
theorem dX3_isFarFromAll_27 : decode cX3_isFarFromAll 27 = .ok (.iload_n 3, 1) := by decide +kernel
theorem dX3_isFarFromAll_28 : decode cX3_isFarFromAll 28 = .ok (.if_icmp .ge 5, 3) := by decide +kernel
theorem dX3_isFarFromAll_31 : decode cX3_isFarFromAll 31 = .ok (.iconst 0, 1) := by decide +kernel
theorem dX3_isFarFromAll_32 : decode cX3_isFarFromAll 32 = .ok (.ireturn, 1) := by decide +kernel
theorem dX3_isFarFromAll_33 : decode cX3_isFarFromAll 33 = .ok (.iinc 4 1, 3) := by decide +kernel
theorem dX3_isFarFromAll_36 : decode cX3_isFarFromAll 36 = .ok (.goto (-33), 3) := by decide +kernel
theorem dX3_isFarFromAll_39 : decode cX3_isFarFromAll 39 = .ok (.iconst 1, 1) := by decide +kernel
theorem dX3_isFarFromAll_40 : decode cX3_isFarFromAll 40 = .ok (.ireturn, 1) := by decide +kernel
theorem dX4_init_0 : decode cX4_init 0 = .ok (.aload_n 0, 1) := by decide +kernel
theorem dX4_init_1 : decode cX4_init 1 = .ok (.invokespecial 3, 3) := by decide +kernel
theorem dX4_init_4 : decode cX4_init 4 = .ok (.aload_n 0, 1) := by decide +kernel
theorem dX4_init_5 : decode cX4_init 5 = .ok (.bipush 12, 2) := by decide +kernel
theorem dX4_init_7 : decode cX4_init 7 = .ok (.newarray .int, 2) := by decide +kernel
theorem dX4_init_9 : decode cX4_init 9 = .ok (.putfield 11, 3) := by decide +kernel
theorem dX4_init_12 : decode cX4_init 12 = .ok (.aload_n 0, 1) := by decide +kernel
theorem dX4_init_13 : decode cX4_init 13 = .ok (.bipush 12, 2) := by decide +kernel
theorem dX4_init_15 : decode cX4_init 15 = .ok (.newarray .int, 2) := by decide +kernel
theorem dX4_init_17 : decode cX4_init 17 = .ok (.putfield 17, 3) := by decide +kernel
theorem dX4_init_20 : decode cX4_init 20 = .ok (.aload_n 0, 1) := by decide +kernel
theorem dX4_init_21 : decode cX4_init 21 = .ok (.sipush 4096, 3) := by decide +kernel
theorem dX4_init_24 : decode cX4_init 24 = .ok (.newarray .int, 2) := by decide +kernel
theorem dX4_init_26 : decode cX4_init 26 = .ok (.putfield 20, 3) := by decide +kernel
theorem dX4_init_29 : decode cX4_init 29 = .ok (.aload_n 0, 1) := by decide +kernel
theorem dX4_init_30 : decode cX4_init 30 = .ok (.iconst 0, 1) := by decide +kernel
theorem dX4_init_31 : decode cX4_init 31 = .ok (.putfield 23, 3) := by decide +kernel
theorem dX4_init_34 : decode cX4_init 34 = .ok (.aload_n 0, 1) := by decide +kernel
theorem dX4_init_35 : decode cX4_init 35 = .ok (.iconst 0, 1) := by decide +kernel
theorem dX4_init_36 : decode cX4_init 36 = .ok (.putfield 27, 3) := by decide +kernel
theorem dX4_init_39 : decode cX4_init 39 = .ok (.aload_n 0, 1) := by decide +kernel
theorem dX4_init_40 : decode cX4_init 40 = .ok (.iconst 0, 1) := by decide +kernel
theorem dX4_init_41 : decode cX4_init 41 = .ok (.putfield 30, 3) := by decide +kernel
theorem dX4_init_44 : decode cX4_init 44 = .ok (.return_, 1) := by decide +kernel
set_option maxRecDepth 20000 in
theorem ggX4_make_X4_findLatest : GoodIn wsX4_make wsX4_findLatest := goodIn_r _ [5, 6, 7, 8, 9, 10, 11, 12, 13, 14, 15, 16, 17, 18, 19, 20, 21, 22, 23, 4, 24, 25, 26, 27, 28, 29, 30, 31, 32, 33, 34, 35, 36, 37, 38, 39, 40, 41, 42, 43, 44, 45, 46, 47, 48, 49, 87, 88, 89, 90, 91, 92, 93, 94, 95, 96, 97, 98, 99, 100, 101, 102, 103, 104, 105, 106] (by decide +kernel) (by decide +kernel)
set_option maxRecDepth 20000 in
theorem gX4_make_X4_findLatest : GoodIn wsX4_make (wsV RX4 33 RX4 yX4_findLatest wsX4_findLatest) := goodIn_app (goodIn_of _ (by decide +kernel)) ggX4_make_X4_findLatest
set_option maxRecDepth 20000 in
theorem ggX4_make_X4_chooseSet : GoodIn wsX4_make wsX4_chooseSet := goodIn_r _ [53, 54, 55, 10, 8, 56, 57, 58, 39, 59, 60, 61, 62, 33, 34, 35, 63, 64, 4, 65, 66, 67, 68, 69, 70, 36, 37, 38, 40, 41, 42, 99, 100, 101, 102, 103, 104, 87, 88, 89, 90, 91, 92, 93, 94, 95, 96, 97, 98] (by decide +kernel) (by decide +kernel)
set_option maxRecDepth 20000 in
theorem gX4_make_X4_chooseSet : GoodIn wsX4_make (wsV RX4 37 RX4 yX4_chooseSet wsX4_chooseSet) := goodIn_app (goodIn_of _ (by decide +kernel)) ggX4_make_X4_chooseSet
set_option maxRecDepth 20000 in
theorem ggX4_make_X4_setInOrder : GoodIn wsX4_make wsX4_setInOrder := goodIn_r _ [74, 75, 9, 76, 77, 78, 79, 80, 4, 81, 10, 8, 29, 30, 31, 32, 33, 34, 35, 36, 37, 38, 39, 40, 41, 42, 82, 83, 84, 14, 85, 16, 17, 47, 48, 49, 18, 19, 20, 86, 99, 100, 101, 102, 103, 104, 87, 88, 89, 90, 91, 92, 93, 94, 95, 96, 97, 98, 105, 106] (by decide +kernel) (by decide +kernel)
set_option maxRecDepth 20000 in
theorem gX4_make_X4_setInOrder : GoodIn wsX4_make (wsV RX4 41 RX4 yX4_setInOrder wsX4_setInOrder) := goodIn_app (goodIn_of _ (by decide +kernel)) ggX4_make_X4_setInOrder
theorem dX4_make_0 : decode cX4_make 0 = .ok (.aload_n 0, 1) := by decide +kernel
theorem dX4_make_1 : decode cX4_make 1 = .ok (.aload_n 1, 1) := by decide +kernel
theorem dX4_make_2 : decode cX4_make 2 = .ok (.invokevirtual 33, 3) := by decide +kernel
theorem dX4_make_5 : decode cX4_make 5 = .ok (.aload_n 0, 1) := by decide +kernel
theorem dX4_make_6 : decode cX4_make 6 = .ok (.aload_n 1, 1) := by decide +kernel
theorem dX4_make_7 : decode cX4_make 7 = .ok (.aload_n 0, 1) := by decide +kernel
theorem dX4_make_8 : decode cX4_make 8 = .ok (.aload_n 1, 1) := by decide +kernel
theorem dX4_make_9 : decode cX4_make 9 = .ok (.invokevirtual 37, 3) := by decide +kernel
theorem dX4_make_12 : decode cX4_make 12 = .ok (.invokevirtual 41, 3) := by decide +kernel
theorem dX4_make_15 : decode cX4_make 15 = .ok (.return_, 1) := by decide +kernel
set_option maxRecDepth 20000 in
theorem ggX4_findLatest_X5_lastMoment : GoodIn wsX4_findLatest wsX5_lastMoment := goodIn_r _ [10, 11, 12, 13, 14, 9, 15, 64, 65] (by decide +kernel) (by decide +kernel)
set_option maxRecDepth 20000 in
theorem gX4_findLatest_X5_lastMoment : GoodIn wsX4_findLatest (wsV RX4 55 RX5 yX5_lastMoment wsX5_lastMoment) := goodIn_app (goodIn_of _ (by decide +kernel)) ggX4_findLatest_X5_lastMoment
set_option maxRecDepth 20000 in
theorem ggX4_findLatest_X4_latestOf : GoodIn wsX4_findLatest wsX4_latestOf := goodIn_r _ [20, 5, 3, 4, 21, 22, 23, 24, 25, 26, 19, 27, 28, 29, 30, 31, 32, 33, 34, 35, 36, 37, 38, 39, 40, 41, 9, 42, 12, 43, 44, 45, 13, 14, 15, 46, 47, 48, 49, 50, 51, 52, 53, 54, 55, 56, 57, 58, 59, 60, 61, 62, 63, 64, 65] (by decide +kernel) (by decide +kernel)
set_option maxRecDepth 20000 in
theorem gX4_findLatest_X4_latestOf : GoodIn wsX4_findLatest (wsV RX4 62 RX4 yX4_latestOf wsX4_latestOf) := goodIn_app (goodIn_of _ (by decide +kernel)) ggX4_findLatest_X4_latestOf
theorem dX4_findLatest_0 : decode cX4_findLatest 0 = .ok (.aload_n 1, 1) := by decide +kernel
theorem dX4_findLatest_1 : decode cX4_findLatest 1 = .ok (.getfield 45, 3) := by decide +kernel
theorem dX4_findLatest_4 : decode cX4_findLatest 4 = .ok (.aload_n 1, 1) := by decide +kernel
theorem dX4_findLatest_5 : decode cX4_findLatest 5 = .ok (.getfield 48, 3) := by decide +kernel
theorem dX4_findLatest_8 : decode cX4_findLatest 8 = .ok (.ior, 1) := by decide +kernel
theorem dX4_findLatest_9 : decode cX4_findLatest 9 = .ok (.istore_n 2, 1) := by decide +kernel
theorem dX4_findLatest_10 : decode cX4_findLatest 10 = .ok (.aload_n 0, 1) := by decide +kernel
theorem dX4_findLatest_11 : decode cX4_findLatest 11 = .ok (.getfield 20, 3) := by decide +kernel
theorem dX4_findLatest_14 : decode cX4_findLatest 14 = .ok (.iconst 0, 1) := by decide +kernel
theorem dX4_findLatest_15 : decode cX4_findLatest 15 = .ok (.aload_n 1, 1) := by decide +kernel
theorem dX4_findLatest_16 : decode cX4_findLatest 16 = .ok (.getfield 51, 3) := by decide +kernel
theorem dX4_findLatest_19 : decode cX4_findLatest 19 = .ok (.invokevirtual 55, 3) := by decide +kernel
theorem dX4_findLatest_22 : decode cX4_findLatest 22 = .ok (.iastore, 1) := by decide +kernel
theorem dX4_findLatest_23 : decode cX4_findLatest 23 = .ok (.iconst 1, 1) := by decide +kernel
theorem dX4_findLatest_24 : decode cX4_findLatest 24 = .ok (.istore_n 3, 1) := by decide +kernel
theorem dX4_findLatest_25 : decode cX4_findLatest 25 = .ok (.iload_n 3, 1) := by decide +kernel
theorem dX4_findLatest_26 : decode cX4_findLatest 26 = .ok (.iconst 1, 1) := by decide +kernel
theorem dX4_findLatest_27 : decode cX4_findLatest 27 = .ok (.aload_n 1, 1) := by decide +kernel
theorem dX4_findLatest_28 : decode cX4_findLatest 28 = .ok (.getfield 61, 3) := by decide +kernel
theorem dX4_findLatest_31 : decode cX4_findLatest 31 = .ok (.ishl, 1) := by decide +kernel
theorem dX4_findLatest_32 : decode cX4_findLatest 32 = .ok (.if_icmp .ge 31, 3) := by decide +kernel
theorem dX4_findLatest_35 : decode cX4_findLatest 35 = .ok (.aload_n 0, 1) := by decide +kernel
theorem dX4_findLatest_36 : decode cX4_findLatest 36 = .ok (.getfield 20, 3) := by decide +kernel
theorem dX4_findLatest_39 : decode cX4_findLatest 39 = .ok (.iload_n 3, 1) := by decide +kernel
theorem dX4_findLatest_40 : decode cX4_findLatest 40 = .ok (.iload_n 3, 1) := by decide +kernel
theorem dX4_findLatest_41 : decode cX4_findLatest 41 = .ok (.iload_n 2, 1) := by decide +kernel
theorem dX4_findLatest_42 : decode cX4_findLatest 42 = .ok (.iand, 1) := by decide +kernel
theorem dX4_findLatest_43 : decode cX4_findLatest 43 = .ok (.ifCond .eq 7, 3) := by decide +kernel
theorem dX4_findLatest_46 : decode cX4_findLatest 46 = .ok (.iconst (-1), 1) := by decide +kernel
theorem dX4_findLatest_47 : decode cX4_findLatest 47 = .ok (.goto 9, 3) := by decide +kernel
theorem dX4_findLatest_50 : decode cX4_findLatest 50 = .ok (.aload_n 0, 1) := by decide +kernel
theorem dX4_findLatest_51 : decode cX4_findLatest 51 = .ok (.aload_n 1, 1) := by decide +kernel
theorem dX4_findLatest_52 : decode cX4_findLatest 52 = .ok (.iload_n 3, 1) := by decide +kernel
theorem dX4_findLatest_53 : decode cX4_findLatest 53 = .ok (.invokevirtual 62, 3) := by decide +kernel
theorem dX4_findLatest_56 : decode cX4_findLatest 56 = .ok (.iastore, 1) := by decide +kernel
theorem dX4_findLatest_57 : decode cX4_findLatest 57 = .ok (.iinc 3 1, 3) := by decide +kernel
theorem dX4_findLatest_60 : decode cX4_findLatest 60 = .ok (.goto (-35), 3) := by decide +kernel
theorem dX4_findLatest_63 : decode cX4_findLatest 63 = .ok (.return_, 1) := by decide +kernel
set_option maxRecDepth 20000 in
theorem ggX4_latestOf_X4_mayBeFirst : GoodIn wsX4_latestOf wsX4_mayBeFirst := goodIn_r _ [11, 12, 13, 14, 15, 35, 36, 37, 38, 39, 40, 41, 42, 43, 44, 45, 46] (by decide +kernel) (by decide +kernel)
set_option maxRecDepth 20000 in
theorem gX4_latestOf_X4_mayBeFirst : GoodIn wsX4_latestOf (va_wsS RX4 66 yX4_mayBeFirst wsX4_mayBeFirst) := goodIn_app (goodIn_of _ (by decide +kernel)) ggX4_latestOf_X4_mayBeFirst
set_option maxRecDepth 20000 in
theorem ggX4_latestOf_X6_left : GoodIn wsX4_latestOf wsX6_left := goodIn_r _ [20, 21, 22, 35, 36, 37, 38, 39, 40, 41, 42, 43, 44, 45, 46] (by decide +kernel) (by decide +kernel)
set_option maxRecDepth 20000 in
theorem gX4_latestOf_X6_left : GoodIn wsX4_latestOf (wsV RX4 70 RX6 yX6_left wsX6_left) := goodIn_app (goodIn_of _ (by decide +kernel)) ggX4_latestOf_X6_left
set_option maxRecDepth 20000 in
theorem ggX4_latestOf_X5_latestBegin : GoodIn wsX4_latestOf wsX5_latestBegin := goodIn_r _ [27, 28, 29, 30, 26, 31, 32, 33, 34, 53, 54] (by decide +kernel) (by decide +kernel)
set_option maxRecDepth 20000 in
theorem gX4_latestOf_X5_latestBegin : GoodIn wsX4_latestOf (wsV RX4 74 RX5 yX5_latestBegin wsX5_latestBegin) := goodIn_app (goodIn_of _ (by decide +kernel)) ggX4_latestOf_X5_latestBegin
theorem dX4_latestOf_0 : decode cX4_latestOf 0 = .ok (.iconst (-1), 1) := by decide +kernel
theorem dX4_latestOf_1 : decode cX4_latestOf 1 = .ok (.istore_n 3, 1) := by decide +kernel
theorem dX4_latestOf_2 : decode cX4_latestOf 2 = .ok (.iconst 0, 1) := by decide +kernel
theorem dX4_latestOf_3 : decode cX4_latestOf 3 = .ok (.istore 4, 2) := by decide +kernel
theorem dX4_latestOf_5 : decode cX4_latestOf 5 = .ok (.iload 4, 2) := by decide +kernel
theorem dX4_latestOf_7 : decode cX4_latestOf 7 = .ok (.aload_n 1, 1) := by decide +kernel
theorem dX4_latestOf_8 : decode cX4_latestOf 8 = .ok (.getfield 61, 3) := by decide +kernel
theorem dX4_latestOf_11 : decode cX4_latestOf 11 = .ok (.if_icmp .ge 66, 3) := by decide +kernel
theorem dX4_latestOf_14 : decode cX4_latestOf 14 = .ok (.aload_n 1, 1) := by decide +kernel
theorem dX4_latestOf_15 : decode cX4_latestOf 15 = .ok (.iload_n 2, 1) := by decide +kernel
theorem dX4_latestOf_16 : decode cX4_latestOf 16 = .ok (.iload 4, 2) := by decide +kernel
theorem dX4_latestOf_18 : decode cX4_latestOf 18 = .ok (.invokestatic 66, 3) := by decide +kernel
theorem dX4_latestOf_21 : decode cX4_latestOf 21 = .ok (.ifCond .ne 6, 3) := by decide +kernel
theorem dX4_latestOf_24 : decode cX4_latestOf 24 = .ok (.goto 47, 3) := by decide +kernel
theorem dX4_latestOf_27 : decode cX4_latestOf 27 = .ok (.aload_n 0, 1) := by decide +kernel
theorem dX4_latestOf_28 : decode cX4_latestOf 28 = .ok (.getfield 20, 3) := by decide +kernel
theorem dX4_latestOf_31 : decode cX4_latestOf 31 = .ok (.iload_n 2, 1) := by decide +kernel
theorem dX4_latestOf_32 : decode cX4_latestOf 32 = .ok (.iconst 1, 1) := by decide +kernel
theorem dX4_latestOf_33 : decode cX4_latestOf 33 = .ok (.iload 4, 2) := by decide +kernel
theorem dX4_latestOf_35 : decode cX4_latestOf 35 = .ok (.ishl, 1) := by decide +kernel
theorem dX4_latestOf_36 : decode cX4_latestOf 36 = .ok (.iconst (-1), 1) := by decide +kernel
theorem dX4_latestOf_37 : decode cX4_latestOf 37 = .ok (.ixor, 1) := by decide +kernel
theorem dX4_latestOf_38 : decode cX4_latestOf 38 = .ok (.iand, 1) := by decide +kernel
theorem dX4_latestOf_39 : decode cX4_latestOf 39 = .ok (.iaload, 1) := by decide +kernel
theorem dX4_latestOf_40 : decode cX4_latestOf 40 = .ok (.istore 5, 2) := by decide +kernel
theorem dX4_latestOf_42 : decode cX4_latestOf 42 = .ok (.iload 5, 2) := by decide +kernel
theorem dX4_latestOf_44 : decode cX4_latestOf 44 = .ok (.iconst (-1), 1) := by decide +kernel
theorem dX4_latestOf_45 : decode cX4_latestOf 45 = .ok (.if_icmp .ne 6, 3) := by decide +kernel
theorem dX4_latestOf_48 : decode cX4_latestOf 48 = .ok (.goto 23, 3) := by decide +kernel
theorem dX4_latestOf_51 : decode cX4_latestOf 51 = .ok (.iload_n 3, 1) := by decide +kernel
theorem dX4_latestOf_52 : decode cX4_latestOf 52 = .ok (.aload_n 1, 1) := by decide +kernel
theorem dX4_latestOf_53 : decode cX4_latestOf 53 = .ok (.getfield 51, 3) := by decide +kernel
theorem dX4_latestOf_56 : decode cX4_latestOf 56 = .ok (.iload 5, 2) := by decide +kernel
theorem dX4_latestOf_58 : decode cX4_latestOf 58 = .ok (.aload_n 1, 1) := by decide +kernel
theorem dX4_latestOf_59 : decode cX4_latestOf 59 = .ok (.iload 4, 2) := by decide +kernel
theorem dX4_latestOf_61 : decode cX4_latestOf 61 = .ok (.invokevirtual 70, 3) := by decide +kernel
theorem dX4_latestOf_64 : decode cX4_latestOf 64 = .ok (.invokevirtual 74, 3) := by decide +kernel
theorem dX4_latestOf_67 : decode cX4_latestOf 67 = .ok (.invokestatic 78, 3) := by decide +kernel
theorem dX4_latestOf_70 : decode cX4_latestOf 70 = .ok (.istore_n 3, 1) := by decide +kernel
theorem dX4_latestOf_71 : decode cX4_latestOf 71 = .ok (.iinc 4 1, 3) := by decide +kernel
theorem dX4_latestOf_74 : decode cX4_latestOf 74 = .ok (.goto (-69), 3) := by decide +kernel
theorem dX4_latestOf_77 : decode cX4_latestOf 77 = .ok (.iload_n 3, 1) := by decide +kernel
theorem dX4_latestOf_78 : decode cX4_latestOf 78 = .ok (.ireturn, 1) := by decide +kernel
set_option maxRecDepth 20000 in
theorem ggX4_mayBeFirst_X7_bit : GoodIn wsX4_mayBeFirst wsX7_bit := goodIn_r _ [4] (by decide +kernel) (by decide +kernel)
set_option maxRecDepth 20000 in
theorem gX4_mayBeFirst_X7_bit_n83 : GoodIn wsX4_mayBeFirst (wsX7_bit) := ggX4_mayBeFirst_X7_bit
theorem dX4_mayBeFirst_0 : decode cX4_mayBeFirst 0 = .ok (.iload_n 1, 1) := by decide +kernel
theorem dX4_mayBeFirst_1 : decode cX4_mayBeFirst 1 = .ok (.iload_n 2, 1) := by decide +kernel
theorem dX4_mayBeFirst_2 : decode cX4_mayBeFirst 2 = .ok (.invokestatic 83, 3) := by decide +kernel
theorem dX4_mayBeFirst_5 : decode cX4_mayBeFirst 5 = .ok (.iconst 1, 1) := by decide +kernel
theorem dX4_mayBeFirst_6 : decode cX4_mayBeFirst 6 = .ok (.if_icmp .ne 18, 3) := by decide +kernel
theorem dX4_mayBeFirst_9 : decode cX4_mayBeFirst 9 = .ok (.aload_n 0, 1) := by decide +kernel
theorem dX4_mayBeFirst_10 : decode cX4_mayBeFirst 10 = .ok (.getfield 86, 3) := by decide +kernel
theorem dX4_mayBeFirst_13 : decode cX4_mayBeFirst 13 = .ok (.iload_n 2, 1) := by decide +kernel
theorem dX4_mayBeFirst_14 : decode cX4_mayBeFirst 14 = .ok (.iaload, 1) := by decide +kernel
theorem dX4_mayBeFirst_15 : decode cX4_mayBeFirst 15 = .ok (.iload_n 1, 1) := by decide +kernel
theorem dX4_mayBeFirst_16 : decode cX4_mayBeFirst 16 = .ok (.iand, 1) := by decide +kernel
theorem dX4_mayBeFirst_17 : decode cX4_mayBeFirst 17 = .ok (.ifCond .ne 7, 3) := by decide +kernel
theorem dX4_mayBeFirst_20 : decode cX4_mayBeFirst 20 = .ok (.iconst 1, 1) := by decide +kernel
theorem dX4_mayBeFirst_21 : decode cX4_mayBeFirst 21 = .ok (.goto 4, 3) := by decide +kernel
theorem dX4_mayBeFirst_24 : decode cX4_mayBeFirst 24 = .ok (.iconst 0, 1) := by decide +kernel
theorem dX4_mayBeFirst_25 : decode cX4_mayBeFirst 25 = .ok (.ireturn, 1) := by decide +kernel
set_option maxRecDepth 20000 in
theorem ggX4_chooseSet_X6_isWhole : GoodIn wsX4_chooseSet wsX6_isWhole := goodIn_r _ [9, 10, 11, 12, 13, 14, 15, 37, 38, 39, 40, 41, 42, 43, 44, 45, 46, 47, 48] (by decide +kernel) (by decide +kernel)
set_option maxRecDepth 20000 in
theorem gX4_chooseSet_X6_isWhole : GoodIn wsX4_chooseSet (wsV RX4 89 RX6 yX6_isWhole wsX6_isWhole) := goodIn_app (goodIn_of _ (by decide +kernel)) ggX4_chooseSet_X6_isWhole
set_option maxRecDepth 20000 in
theorem ggX4_chooseSet_X4_hopeOf : GoodIn wsX4_chooseSet wsX4_hopeOf := goodIn_r _ [19, 3, 20, 21, 13, 14, 15, 37, 38, 39, 40, 41, 42, 43, 44, 45, 46, 47, 48] (by decide +kernel) (by decide +kernel)
set_option maxRecDepth 20000 in
theorem gX4_chooseSet_X4_hopeOf : GoodIn wsX4_chooseSet (va_wsS RX4 93 yX4_hopeOf wsX4_hopeOf) := goodIn_app (goodIn_of _ (by decide +kernel)) ggX4_chooseSet_X4_hopeOf
set_option maxRecDepth 20000 in
theorem ggX4_chooseSet_X4_toilOf : GoodIn wsX4_chooseSet wsX4_toilOf := goodIn_r _ [24, 3, 13, 14, 15, 25, 26, 27, 8, 28, 29, 30, 37, 38, 39, 40, 41, 42, 43, 44, 45, 46, 47, 48] (by decide +kernel) (by decide +kernel)
set_option maxRecDepth 20000 in
theorem gX4_chooseSet_X4_toilOf : GoodIn wsX4_chooseSet (va_wsS RX4 96 yX4_toilOf wsX4_toilOf) := goodIn_app (goodIn_of _ (by decide +kernel)) ggX4_chooseSet_X4_toilOf
theorem dX4_chooseSet_0 : decode cX4_chooseSet 0 = .ok (.iconst 0, 1) := by decide +kernel
theorem dX4_chooseSet_1 : decode cX4_chooseSet 1 = .ok (.istore_n 2, 1) := by decide +kernel
theorem dX4_chooseSet_2 : decode cX4_chooseSet 2 = .ok (.aload_n 0, 1) := by decide +kernel
theorem dX4_chooseSet_3 : decode cX4_chooseSet 3 = .ok (.iconst 0, 1) := by decide +kernel
theorem dX4_chooseSet_4 : decode cX4_chooseSet 4 = .ok (.putfield 27, 3) := by decide +kernel
theorem dX4_chooseSet_7 : decode cX4_chooseSet 7 = .ok (.aload_n 0, 1) := by decide +kernel
theorem dX4_chooseSet_8 : decode cX4_chooseSet 8 = .ok (.iconst 0, 1) := by decide +kernel
theorem dX4_chooseSet_9 : decode cX4_chooseSet 9 = .ok (.putfield 30, 3) := by decide +kernel
theorem dX4_chooseSet_12 : decode cX4_chooseSet 12 = .ok (.iconst 1, 1) := by decide +kernel
theorem dX4_chooseSet_13 : decode cX4_chooseSet 13 = .ok (.istore_n 3, 1) := by decide +kernel
theorem dX4_chooseSet_14 : decode cX4_chooseSet 14 = .ok (.iload_n 3, 1) := by decide +kernel
theorem dX4_chooseSet_15 : decode cX4_chooseSet 15 = .ok (.iconst 1, 1) := by decide +kernel
theorem dX4_chooseSet_16 : decode cX4_chooseSet 16 = .ok (.aload_n 1, 1) := by decide +kernel
theorem dX4_chooseSet_17 : decode cX4_chooseSet 17 = .ok (.getfield 61, 3) := by decide +kernel
theorem dX4_chooseSet_20 : decode cX4_chooseSet 20 = .ok (.ishl, 1) := by decide +kernel
theorem dX4_chooseSet_21 : decode cX4_chooseSet 21 = .ok (.if_icmp .ge 85, 3) := by decide +kernel
theorem dX4_chooseSet_24 : decode cX4_chooseSet 24 = .ok (.aload_n 0, 1) := by decide +kernel
theorem dX4_chooseSet_25 : decode cX4_chooseSet 25 = .ok (.getfield 20, 3) := by decide +kernel
theorem dX4_chooseSet_28 : decode cX4_chooseSet 28 = .ok (.iload_n 3, 1) := by decide +kernel
theorem dX4_chooseSet_29 : decode cX4_chooseSet 29 = .ok (.iaload, 1) := by decide +kernel
theorem dX4_chooseSet_30 : decode cX4_chooseSet 30 = .ok (.iconst (-1), 1) := by decide +kernel
theorem dX4_chooseSet_31 : decode cX4_chooseSet 31 = .ok (.if_icmp .eq 69, 3) := by decide +kernel
theorem dX4_chooseSet_34 : decode cX4_chooseSet 34 = .ok (.aload_n 1, 1) := by decide +kernel
theorem dX4_chooseSet_35 : decode cX4_chooseSet 35 = .ok (.iload_n 3, 1) := by decide +kernel
theorem dX4_chooseSet_36 : decode cX4_chooseSet 36 = .ok (.invokevirtual 89, 3) := by decide +kernel
theorem dX4_chooseSet_39 : decode cX4_chooseSet 39 = .ok (.ifCond .ne 6, 3) := by decide +kernel
theorem dX4_chooseSet_42 : decode cX4_chooseSet 42 = .ok (.goto 58, 3) := by decide +kernel
theorem dX4_chooseSet_45 : decode cX4_chooseSet 45 = .ok (.aload_n 1, 1) := by decide +kernel
theorem dX4_chooseSet_46 : decode cX4_chooseSet 46 = .ok (.iload_n 3, 1) := by decide +kernel
theorem dX4_chooseSet_47 : decode cX4_chooseSet 47 = .ok (.invokestatic 93, 3) := by decide +kernel
theorem dX4_chooseSet_50 : decode cX4_chooseSet 50 = .ok (.istore 4, 2) := by decide +kernel
theorem dX4_chooseSet_52 : decode cX4_chooseSet 52 = .ok (.aload_n 1, 1) := by decide +kernel
theorem dX4_chooseSet_53 : decode cX4_chooseSet 53 = .ok (.iload_n 3, 1) := by decide +kernel
theorem dX4_chooseSet_54 : decode cX4_chooseSet 54 = .ok (.invokestatic 96, 3) := by decide +kernel
theorem dX4_chooseSet_57 : decode cX4_chooseSet 57 = .ok (.istore 5, 2) := by decide +kernel
theorem dX4_chooseSet_59 : decode cX4_chooseSet 59 = .ok (.iload 4, 2) := by decide +kernel
theorem dX4_chooseSet_61 : decode cX4_chooseSet 61 = .ok (.aload_n 0, 1) := by decide +kernel
theorem dX4_chooseSet_62 : decode cX4_chooseSet 62 = .ok (.getfield 27, 3) := by decide +kernel
theorem dX4_chooseSet_65 : decode cX4_chooseSet 65 = .ok (.if_icmp .gt 21, 3) := by decide +kernel
theorem dX4_chooseSet_68 : decode cX4_chooseSet 68 = .ok (.iload 4, 2) := by decide +kernel
theorem dX4_chooseSet_70 : decode cX4_chooseSet 70 = .ok (.aload_n 0, 1) := by decide +kernel
theorem dX4_chooseSet_71 : decode cX4_chooseSet 71 = .ok (.getfield 27, 3) := by decide +kernel
theorem dX4_chooseSet_74 : decode cX4_chooseSet 74 = .ok (.if_icmp .ne 26, 3) := by decide +kernel
theorem dX4_chooseSet_77 : decode cX4_chooseSet 77 = .ok (.iload 5, 2) := by decide +kernel
theorem dX4_chooseSet_79 : decode cX4_chooseSet 79 = .ok (.aload_n 0, 1) := by decide +kernel
theorem dX4_chooseSet_80 : decode cX4_chooseSet 80 = .ok (.getfield 30, 3) := by decide +kernel
theorem dX4_chooseSet_83 : decode cX4_chooseSet 83 = .ok (.if_icmp .ge 17, 3) := by decide +kernel
theorem dX4_chooseSet_86 : decode cX4_chooseSet 86 = .ok (.iload_n 3, 1) := by decide +kernel
theorem dX4_chooseSet_87 : decode cX4_chooseSet 87 = .ok (.istore_n 2, 1) := by decide +kernel
theorem dX4_chooseSet_88 : decode cX4_chooseSet 88 = .ok (.aload_n 0, 1) := by decide +kernel
theorem dX4_chooseSet_89 : decode cX4_chooseSet 89 = .ok (.iload 4, 2) := by decide +kernel
theorem dX4_chooseSet_91 : decode cX4_chooseSet 91 = .ok (.putfield 27, 3) := by decide +kernel
theorem dX4_chooseSet_94 : decode cX4_chooseSet 94 = .ok (.aload_n 0, 1) := by decide +kernel
theorem dX4_chooseSet_95 : decode cX4_chooseSet 95 = .ok (.iload 5, 2) := by decide +kernel
theorem dX4_chooseSet_97 : decode cX4_chooseSet 97 = .ok (.putfield 30, 3) := by decide +kernel
theorem dX4_chooseSet_100 : decode cX4_chooseSet 100 = .ok (.iinc 3 1, 3) := by decide +kernel
theorem dX4_chooseSet_103 : decode cX4_chooseSet 103 = .ok (.goto (-89), 3) := by decide +kernel
theorem dX4_chooseSet_106 : decode cX4_chooseSet 106 = .ok (.iload_n 2, 1) := by decide +kernel
theorem dX4_chooseSet_107 : decode cX4_chooseSet 107 = .ok (.ireturn, 1) := by decide +kernel
set_option maxRecDepth 20000 in
theorem ggX4_hopeOf_X7_bit : GoodIn wsX4_hopeOf wsX7_bit := goodIn_r _ [6] (by decide +kernel) (by decide +kernel)
set_option maxRecDepth 20000 in
theorem gX4_hopeOf_X7_bit_n83 : GoodIn wsX4_hopeOf (wsX7_bit) := ggX4_hopeOf_X7_bit
theorem dX4_hopeOf_0 : decode cX4_hopeOf 0 = .ok (.iconst 0, 1) := by decide +kernel
theorem dX4_hopeOf_1 : decode cX4_hopeOf 1 = .ok (.istore_n 2, 1) := by decide +kernel
theorem dX4_hopeOf_2 : decode cX4_hopeOf 2 = .ok (.iconst 0, 1) := by decide +kernel
theorem dX4_hopeOf_3 : decode cX4_hopeOf 3 = .ok (.istore_n 3, 1) := by decide +kernel
theorem dX4_hopeOf_4 : decode cX4_hopeOf 4 = .ok (.iload_n 3, 1) := by decide +kernel
theorem dX4_hopeOf_5 : decode cX4_hopeOf 5 = .ok (.aload_n 0, 1) := by decide +kernel
theorem dX4_hopeOf_6 : decode cX4_hopeOf 6 = .ok (.getfield 61, 3) := by decide +kernel
theorem dX4_hopeOf_9 : decode cX4_hopeOf 9 = .ok (.if_icmp .ge 34, 3) := by decide +kernel
theorem dX4_hopeOf_12 : decode cX4_hopeOf 12 = .ok (.iload_n 1, 1) := by decide +kernel
theorem dX4_hopeOf_13 : decode cX4_hopeOf 13 = .ok (.iload_n 3, 1) := by decide +kernel
theorem dX4_hopeOf_14 : decode cX4_hopeOf 14 = .ok (.invokestatic 83, 3) := by decide +kernel
theorem dX4_hopeOf_17 : decode cX4_hopeOf 17 = .ok (.iconst 1, 1) := by decide +kernel
theorem dX4_hopeOf_18 : decode cX4_hopeOf 18 = .ok (.if_icmp .ne 19, 3) := by decide +kernel
theorem dX4_hopeOf_21 : decode cX4_hopeOf 21 = .ok (.iload_n 2, 1) := by decide +kernel
theorem dX4_hopeOf_22 : decode cX4_hopeOf 22 = .ok (.aload_n 0, 1) := by decide +kernel
theorem dX4_hopeOf_23 : decode cX4_hopeOf 23 = .ok (.getfield 99, 3) := by decide +kernel
theorem dX4_hopeOf_26 : decode cX4_hopeOf 26 = .ok (.iload_n 3, 1) := by decide +kernel
theorem dX4_hopeOf_27 : decode cX4_hopeOf 27 = .ok (.iaload, 1) := by decide +kernel
theorem dX4_hopeOf_28 : decode cX4_hopeOf 28 = .ok (.aload_n 0, 1) := by decide +kernel
theorem dX4_hopeOf_29 : decode cX4_hopeOf 29 = .ok (.getfield 102, 3) := by decide +kernel
theorem dX4_hopeOf_32 : decode cX4_hopeOf 32 = .ok (.iload_n 3, 1) := by decide +kernel
theorem dX4_hopeOf_33 : decode cX4_hopeOf 33 = .ok (.iaload, 1) := by decide +kernel
theorem dX4_hopeOf_34 : decode cX4_hopeOf 34 = .ok (.imul, 1) := by decide +kernel
theorem dX4_hopeOf_35 : decode cX4_hopeOf 35 = .ok (.iadd, 1) := by decide +kernel
theorem dX4_hopeOf_36 : decode cX4_hopeOf 36 = .ok (.istore_n 2, 1) := by decide +kernel
theorem dX4_hopeOf_37 : decode cX4_hopeOf 37 = .ok (.iinc 3 1, 3) := by decide +kernel
theorem dX4_hopeOf_40 : decode cX4_hopeOf 40 = .ok (.goto (-36), 3) := by decide +kernel
theorem dX4_hopeOf_43 : decode cX4_hopeOf 43 = .ok (.iload_n 2, 1) := by decide +kernel
theorem dX4_hopeOf_44 : decode cX4_hopeOf 44 = .ok (.ireturn, 1) := by decide +kernel
set_option maxRecDepth 20000 in
theorem ggX4_toilOf_X7_bit : GoodIn wsX4_toilOf wsX7_bit := goodIn_r _ [4] (by decide +kernel) (by decide +kernel)
set_option maxRecDepth 20000 in
theorem gX4_toilOf_X7_bit_n83 : GoodIn wsX4_toilOf (wsX7_bit) := ggX4_toilOf_X7_bit
set_option maxRecDepth 20000 in
theorem ggX4_toilOf_X6_left : GoodIn wsX4_toilOf wsX6_left := goodIn_r _ [9, 10, 11, 12, 13, 14, 15, 16, 17, 18, 19, 20, 21, 22, 23] (by decide +kernel) (by decide +kernel)
set_option maxRecDepth 20000 in
theorem gX4_toilOf_X6_left : GoodIn wsX4_toilOf (wsV RX4 70 RX6 yX6_left wsX6_left) := goodIn_app (goodIn_of _ (by decide +kernel)) ggX4_toilOf_X6_left
theorem dX4_toilOf_0 : decode cX4_toilOf 0 = .ok (.iconst 0, 1) := by decide +kernel
theorem dX4_toilOf_1 : decode cX4_toilOf 1 = .ok (.istore_n 2, 1) := by decide +kernel
theorem dX4_toilOf_2 : decode cX4_toilOf 2 = .ok (.iconst 0, 1) := by decide +kernel
theorem dX4_toilOf_3 : decode cX4_toilOf 3 = .ok (.istore_n 3, 1) := by decide +kernel
theorem dX4_toilOf_4 : decode cX4_toilOf 4 = .ok (.iload_n 3, 1) := by decide +kernel
theorem dX4_toilOf_5 : decode cX4_toilOf 5 = .ok (.aload_n 0, 1) := by decide +kernel
theorem dX4_toilOf_6 : decode cX4_toilOf 6 = .ok (.getfield 61, 3) := by decide +kernel
theorem dX4_toilOf_9 : decode cX4_toilOf 9 = .ok (.if_icmp .ge 26, 3) := by decide +kernel
theorem dX4_toilOf_12 : decode cX4_toilOf 12 = .ok (.iload_n 1, 1) := by decide +kernel
theorem dX4_toilOf_13 : decode cX4_toilOf 13 = .ok (.iload_n 3, 1) := by decide +kernel
theorem dX4_toilOf_14 : decode cX4_toilOf 14 = .ok (.invokestatic 83, 3) := by decide +kernel
theorem dX4_toilOf_17 : decode cX4_toilOf 17 = .ok (.iconst 1, 1) := by decide +kernel
theorem dX4_toilOf_18 : decode cX4_toilOf 18 = .ok (.if_icmp .ne 11, 3) := by decide +kernel
theorem dX4_toilOf_21 : decode cX4_toilOf 21 = .ok (.iload_n 2, 1) := by decide +kernel
theorem dX4_toilOf_22 : decode cX4_toilOf 22 = .ok (.aload_n 0, 1) := by decide +kernel
theorem dX4_toilOf_23 : decode cX4_toilOf 23 = .ok (.iload_n 3, 1) := by decide +kernel
theorem dX4_toilOf_24 : decode cX4_toilOf 24 = .ok (.invokevirtual 70, 3) := by decide +kernel
theorem dX4_toilOf_27 : decode cX4_toilOf 27 = .ok (.iadd, 1) := by decide +kernel
theorem dX4_toilOf_28 : decode cX4_toilOf 28 = .ok (.istore_n 2, 1) := by decide +kernel
theorem dX4_toilOf_29 : decode cX4_toilOf 29 = .ok (.iinc 3 1, 3) := by decide +kernel
theorem dX4_toilOf_32 : decode cX4_toilOf 32 = .ok (.goto (-28), 3) := by decide +kernel
theorem dX4_toilOf_35 : decode cX4_toilOf 35 = .ok (.iload_n 2, 1) := by decide +kernel
theorem dX4_toilOf_36 : decode cX4_toilOf 36 = .ok (.ireturn, 1) := by decide +kernel
set_option maxRecDepth 20000 in
theorem ggX4_setInOrder_X4_nextOf : GoodIn wsX4_setInOrder wsX4_nextOf := goodIn_r _ [9, 10, 2, 11, 12, 13, 8, 14, 15, 16, 17, 18, 19, 20, 21, 22, 23, 24, 25, 26, 27, 28, 29, 30, 31, 32, 33, 34, 35, 36, 37, 38, 46, 47, 48, 49, 50, 51, 52, 53, 54, 55, 56, 57, 40, 41, 42, 43, 44, 45, 58, 59] (by decide +kernel) (by decide +kernel)
set_option maxRecDepth 20000 in
theorem gX4_setInOrder_X4_nextOf : GoodIn wsX4_setInOrder (wsV RX4 105 RX4 yX4_nextOf wsX4_nextOf) := goodIn_app (goodIn_of _ (by decide +kernel)) ggX4_setInOrder_X4_nextOf
set_option maxRecDepth 20000 in
theorem ggX4_setInOrder_X6_left : GoodIn wsX4_setInOrder wsX6_left := goodIn_r _ [23, 24, 25, 46, 47, 48, 49, 50, 51, 52, 53, 54, 55, 56, 57] (by decide +kernel) (by decide +kernel)
set_option maxRecDepth 20000 in
theorem gX4_setInOrder_X6_left : GoodIn wsX4_setInOrder (wsV RX4 70 RX6 yX6_left wsX6_left) := goodIn_app (goodIn_of _ (by decide +kernel)) ggX4_setInOrder_X6_left
set_option maxRecDepth 20000 in
theorem ggX4_setInOrder_X5_soonestEnd : GoodIn wsX4_setInOrder wsX5_soonestEnd := goodIn_r _ [30, 31, 32, 33, 34, 29, 35, 36, 37, 38, 58, 59] (by decide +kernel) (by decide +kernel)
set_option maxRecDepth 20000 in
theorem gX4_setInOrder_X5_soonestEnd : GoodIn wsX4_setInOrder (wsV RX4 109 RX5 yX5_soonestEnd wsX5_soonestEnd) := goodIn_app (goodIn_of _ (by decide +kernel)) ggX4_setInOrder_X5_soonestEnd
set_option maxRecDepth 20000 in
theorem ggX4_setInOrder_X5_tideAt : GoodIn wsX4_setInOrder wsX5_tideAt := goodIn_r _ [35] (by decide +kernel) (by decide +kernel)
set_option maxRecDepth 20000 in
theorem gX4_setInOrder_X5_tideAt : GoodIn wsX4_setInOrder (va_wsS RX4 112 yX5_tideAt wsX5_tideAt) := goodIn_app (goodIn_of _ (by decide +kernel)) ggX4_setInOrder_X5_tideAt
theorem dX4_setInOrder_0 : decode cX4_setInOrder 0 = .ok (.iload_n 2, 1) := by decide +kernel
theorem dX4_setInOrder_1 : decode cX4_setInOrder 1 = .ok (.istore_n 3, 1) := by decide +kernel
theorem dX4_setInOrder_2 : decode cX4_setInOrder 2 = .ok (.iconst 0, 1) := by decide +kernel
theorem dX4_setInOrder_3 : decode cX4_setInOrder 3 = .ok (.istore 4, 2) := by decide +kernel
theorem dX4_setInOrder_5 : decode cX4_setInOrder 5 = .ok (.aload_n 0, 1) := by decide +kernel
theorem dX4_setInOrder_6 : decode cX4_setInOrder 6 = .ok (.iconst 0, 1) := by decide +kernel
theorem dX4_setInOrder_7 : decode cX4_setInOrder 7 = .ok (.putfield 23, 3) := by decide +kernel
theorem dX4_setInOrder_10 : decode cX4_setInOrder 10 = .ok (.iconst 0, 1) := by decide +kernel
theorem dX4_setInOrder_11 : decode cX4_setInOrder 11 = .ok (.istore 5, 2) := by decide +kernel
theorem dX4_setInOrder_13 : decode cX4_setInOrder 13 = .ok (.iload 5, 2) := by decide +kernel
theorem dX4_setInOrder_15 : decode cX4_setInOrder 15 = .ok (.bipush 12, 2) := by decide +kernel
theorem dX4_setInOrder_17 : decode cX4_setInOrder 17 = .ok (.if_icmp .ge 88, 3) := by decide +kernel
theorem dX4_setInOrder_20 : decode cX4_setInOrder 20 = .ok (.iload_n 3, 1) := by decide +kernel
theorem dX4_setInOrder_21 : decode cX4_setInOrder 21 = .ok (.ifCond .eq 84, 3) := by decide +kernel
theorem dX4_setInOrder_24 : decode cX4_setInOrder 24 = .ok (.aload_n 0, 1) := by decide +kernel
theorem dX4_setInOrder_25 : decode cX4_setInOrder 25 = .ok (.aload_n 1, 1) := by decide +kernel
theorem dX4_setInOrder_26 : decode cX4_setInOrder 26 = .ok (.iload_n 3, 1) := by decide +kernel
theorem dX4_setInOrder_27 : decode cX4_setInOrder 27 = .ok (.iload 4, 2) := by decide +kernel
theorem dX4_setInOrder_29 : decode cX4_setInOrder 29 = .ok (.invokevirtual 105, 3) := by decide +kernel
theorem dX4_setInOrder_32 : decode cX4_setInOrder 32 = .ok (.istore 6, 2) := by decide +kernel
theorem dX4_setInOrder_34 : decode cX4_setInOrder 34 = .ok (.iload 6, 2) := by decide +kernel
theorem dX4_setInOrder_36 : decode cX4_setInOrder 36 = .ok (.bipush (-6), 2) := by decide +kernel
theorem dX4_setInOrder_38 : decode cX4_setInOrder 38 = .ok (.if_icmp .ne 4, 3) := by decide +kernel
theorem dX4_setInOrder_41 : decode cX4_setInOrder 41 = .ok (.return_, 1) := by decide +kernel
theorem dX4_setInOrder_42 : decode cX4_setInOrder 42 = .ok (.aload_n 1, 1) := by decide +kernel
theorem dX4_setInOrder_43 : decode cX4_setInOrder 43 = .ok (.getfield 51, 3) := by decide +kernel
theorem dX4_setInOrder_46 : decode cX4_setInOrder 46 = .ok (.iload 4, 2) := by decide +kernel
theorem dX4_setInOrder_48 : decode cX4_setInOrder 48 = .ok (.aload_n 1, 1) := by decide +kernel
theorem dX4_setInOrder_49 : decode cX4_setInOrder 49 = .ok (.iload 6, 2) := by decide +kernel
theorem dX4_setInOrder_51 : decode cX4_setInOrder 51 = .ok (.invokevirtual 70, 3) := by decide +kernel
theorem dX4_setInOrder_54 : decode cX4_setInOrder 54 = .ok (.invokevirtual 109, 3) := by decide +kernel
theorem dX4_setInOrder_57 : decode cX4_setInOrder 57 = .ok (.istore 4, 2) := by decide +kernel
theorem dX4_setInOrder_59 : decode cX4_setInOrder 59 = .ok (.iload_n 3, 1) := by decide +kernel
theorem dX4_setInOrder_60 : decode cX4_setInOrder 60 = .ok (.iconst 1, 1) := by decide +kernel
theorem dX4_setInOrder_61 : decode cX4_setInOrder 61 = .ok (.iload 6, 2) := by decide +kernel
theorem dX4_setInOrder_63 : decode cX4_setInOrder 63 = .ok (.ishl, 1) := by decide +kernel
theorem dX4_setInOrder_64 : decode cX4_setInOrder 64 = .ok (.iconst (-1), 1) := by decide +kernel
theorem dX4_setInOrder_65 : decode cX4_setInOrder 65 = .ok (.ixor, 1) := by decide +kernel
theorem dX4_setInOrder_66 : decode cX4_setInOrder 66 = .ok (.iand, 1) := by decide +kernel
theorem dX4_setInOrder_67 : decode cX4_setInOrder 67 = .ok (.istore_n 3, 1) := by decide +kernel
theorem dX4_setInOrder_68 : decode cX4_setInOrder 68 = .ok (.aload_n 0, 1) := by decide +kernel
theorem dX4_setInOrder_69 : decode cX4_setInOrder 69 = .ok (.getfield 11, 3) := by decide +kernel
theorem dX4_setInOrder_72 : decode cX4_setInOrder 72 = .ok (.iload 5, 2) := by decide +kernel
theorem dX4_setInOrder_74 : decode cX4_setInOrder 74 = .ok (.iload 6, 2) := by decide +kernel
theorem dX4_setInOrder_76 : decode cX4_setInOrder 76 = .ok (.iastore, 1) := by decide +kernel
theorem dX4_setInOrder_77 : decode cX4_setInOrder 77 = .ok (.aload_n 0, 1) := by decide +kernel
theorem dX4_setInOrder_78 : decode cX4_setInOrder 78 = .ok (.getfield 17, 3) := by decide +kernel
theorem dX4_setInOrder_81 : decode cX4_setInOrder 81 = .ok (.iload 5, 2) := by decide +kernel
theorem dX4_setInOrder_83 : decode cX4_setInOrder 83 = .ok (.iload 4, 2) := by decide +kernel
theorem dX4_setInOrder_85 : decode cX4_setInOrder 85 = .ok (.invokestatic 112, 3) := by decide +kernel
theorem dX4_setInOrder_88 : decode cX4_setInOrder 88 = .ok (.iastore, 1) := by decide +kernel
theorem dX4_setInOrder_89 : decode cX4_setInOrder 89 = .ok (.aload_n 0, 1) := by decide +kernel
theorem dX4_setInOrder_90 : decode cX4_setInOrder 90 = .ok (.dup, 1) := by decide +kernel
theorem dX4_setInOrder_91 : decode cX4_setInOrder 91 = .ok (.getfield 23, 3) := by decide +kernel
theorem dX4_setInOrder_94 : decode cX4_setInOrder 94 = .ok (.iconst 1, 1) := by decide +kernel
theorem dX4_setInOrder_95 : decode cX4_setInOrder 95 = .ok (.iadd, 1) := by decide +kernel
theorem dX4_setInOrder_96 : decode cX4_setInOrder 96 = .ok (.putfield 23, 3) := by decide +kernel
theorem dX4_setInOrder_99 : decode cX4_setInOrder 99 = .ok (.iinc 5 1, 3) := by decide +kernel
theorem dX4_setInOrder_102 : decode cX4_setInOrder 102 = .ok (.goto (-89), 3) := by decide +kernel
theorem dX4_setInOrder_105 : decode cX4_setInOrder 105 = .ok (.return_, 1) := by decide +kernel
set_option maxRecDepth 20000 in
theorem ggX4_nextOf_X4_mayBeFirst : GoodIn wsX4_nextOf wsX4_mayBeFirst := goodIn_r _ [7, 8, 9, 10, 11, 32, 33, 34, 35, 36, 37, 38, 39, 40, 41, 42, 43] (by decide +kernel) (by decide +kernel)
set_option maxRecDepth 20000 in
theorem gX4_nextOf_X4_mayBeFirst : GoodIn wsX4_nextOf (va_wsS RX4 66 yX4_mayBeFirst wsX4_mayBeFirst) := goodIn_app (goodIn_of _ (by decide +kernel)) ggX4_nextOf_X4_mayBeFirst
set_option maxRecDepth 20000 in
theorem ggX4_nextOf_X6_left : GoodIn wsX4_nextOf wsX6_left := goodIn_r _ [16, 17, 18, 32, 33, 34, 35, 36, 37, 38, 39, 40, 41, 42, 43] (by decide +kernel) (by decide +kernel)
set_option maxRecDepth 20000 in
theorem gX4_nextOf_X6_left : GoodIn wsX4_nextOf (wsV RX4 70 RX6 yX6_left wsX6_left) := goodIn_app (goodIn_of _ (by decide +kernel)) ggX4_nextOf_X6_left
set_option maxRecDepth 20000 in
theorem ggX4_nextOf_X5_soonestEnd : GoodIn wsX4_nextOf wsX5_soonestEnd := goodIn_r _ [23, 24, 25, 26, 27, 22, 28, 29, 30, 31, 50, 51] (by decide +kernel) (by decide +kernel)
set_option maxRecDepth 20000 in
theorem gX4_nextOf_X5_soonestEnd : GoodIn wsX4_nextOf (wsV RX4 109 RX5 yX5_soonestEnd wsX5_soonestEnd) := goodIn_app (goodIn_of _ (by decide +kernel)) ggX4_nextOf_X5_soonestEnd
theorem dX4_nextOf_0 : decode cX4_nextOf 0 = .ok (.iconst 0, 1) := by decide +kernel
theorem dX4_nextOf_1 : decode cX4_nextOf 1 = .ok (.istore 4, 2) := by decide +kernel
theorem dX4_nextOf_3 : decode cX4_nextOf 3 = .ok (.iload 4, 2) := by decide +kernel
theorem dX4_nextOf_5 : decode cX4_nextOf 5 = .ok (.aload_n 1, 1) := by decide +kernel
theorem dX4_nextOf_6 : decode cX4_nextOf 6 = .ok (.getfield 61, 3) := by decide +kernel
theorem dX4_nextOf_9 : decode cX4_nextOf 9 = .ok (.if_icmp .ge 65, 3) := by decide +kernel
theorem dX4_nextOf_12 : decode cX4_nextOf 12 = .ok (.aload_n 1, 1) := by decide +kernel
theorem dX4_nextOf_13 : decode cX4_nextOf 13 = .ok (.iload_n 2, 1) := by decide +kernel
theorem dX4_nextOf_14 : decode cX4_nextOf 14 = .ok (.iload 4, 2) := by decide +kernel
theorem dX4_nextOf_16 : decode cX4_nextOf 16 = .ok (.invokestatic 66, 3) := by decide +kernel
theorem dX4_nextOf_19 : decode cX4_nextOf 19 = .ok (.ifCond .ne 6, 3) := by decide +kernel
theorem dX4_nextOf_22 : decode cX4_nextOf 22 = .ok (.goto 46, 3) := by decide +kernel
theorem dX4_nextOf_25 : decode cX4_nextOf 25 = .ok (.aload_n 1, 1) := by decide +kernel
theorem dX4_nextOf_26 : decode cX4_nextOf 26 = .ok (.getfield 51, 3) := by decide +kernel
theorem dX4_nextOf_29 : decode cX4_nextOf 29 = .ok (.iload_n 3, 1) := by decide +kernel
theorem dX4_nextOf_30 : decode cX4_nextOf 30 = .ok (.aload_n 1, 1) := by decide +kernel
theorem dX4_nextOf_31 : decode cX4_nextOf 31 = .ok (.iload 4, 2) := by decide +kernel
theorem dX4_nextOf_33 : decode cX4_nextOf 33 = .ok (.invokevirtual 70, 3) := by decide +kernel
theorem dX4_nextOf_36 : decode cX4_nextOf 36 = .ok (.invokevirtual 109, 3) := by decide +kernel
theorem dX4_nextOf_39 : decode cX4_nextOf 39 = .ok (.istore 5, 2) := by decide +kernel
theorem dX4_nextOf_41 : decode cX4_nextOf 41 = .ok (.iload 5, 2) := by decide +kernel
theorem dX4_nextOf_43 : decode cX4_nextOf 43 = .ok (.iconst (-1), 1) := by decide +kernel
theorem dX4_nextOf_44 : decode cX4_nextOf 44 = .ok (.if_icmp .eq 24, 3) := by decide +kernel
theorem dX4_nextOf_47 : decode cX4_nextOf 47 = .ok (.iload 5, 2) := by decide +kernel
theorem dX4_nextOf_49 : decode cX4_nextOf 49 = .ok (.aload_n 0, 1) := by decide +kernel
theorem dX4_nextOf_50 : decode cX4_nextOf 50 = .ok (.getfield 20, 3) := by decide +kernel
theorem dX4_nextOf_53 : decode cX4_nextOf 53 = .ok (.iload_n 2, 1) := by decide +kernel
theorem dX4_nextOf_54 : decode cX4_nextOf 54 = .ok (.iconst 1, 1) := by decide +kernel
theorem dX4_nextOf_55 : decode cX4_nextOf 55 = .ok (.iload 4, 2) := by decide +kernel
theorem dX4_nextOf_57 : decode cX4_nextOf 57 = .ok (.ishl, 1) := by decide +kernel
theorem dX4_nextOf_58 : decode cX4_nextOf 58 = .ok (.iconst (-1), 1) := by decide +kernel
theorem dX4_nextOf_59 : decode cX4_nextOf 59 = .ok (.ixor, 1) := by decide +kernel
theorem dX4_nextOf_60 : decode cX4_nextOf 60 = .ok (.iand, 1) := by decide +kernel
theorem dX4_nextOf_61 : decode cX4_nextOf 61 = .ok (.iaload, 1) := by decide +kernel
theorem dX4_nextOf_62 : decode cX4_nextOf 62 = .ok (.if_icmp .gt 6, 3) := by decide +kernel
theorem dX4_nextOf_65 : decode cX4_nextOf 65 = .ok (.iload 4, 2) := by decide +kernel
theorem dX4_nextOf_67 : decode cX4_nextOf 67 = .ok (.ireturn, 1) := by decide +kernel
theorem dX4_nextOf_68 : decode cX4_nextOf 68 = .ok (.iinc 4 1, 3) := by decide +kernel
theorem dX4_nextOf_71 : decode cX4_nextOf 71 = .ok (.goto (-68), 3) := by decide +kernel
theorem dX4_nextOf_74 : decode cX4_nextOf 74 = .ok (.bipush (-6), 2) := by decide +kernel
theorem dX4_nextOf_76 : decode cX4_nextOf 76 = .ok (.ireturn, 1) := by decide +kernel
theorem dX5_init_0 : decode cX5_init 0 = .ok (.aload_n 0, 1) := by decide +kernel
theorem dX5_init_1 : decode cX5_init 1 = .ok (.invokespecial 1, 3) := by decide +kernel
theorem dX5_init_4 : decode cX5_init 4 = .ok (.aload_n 0, 1) := by decide +kernel
theorem dX5_init_5 : decode cX5_init 5 = .ok (.iconst 5, 1) := by decide +kernel
theorem dX5_init_6 : decode cX5_init 6 = .ok (.newarray .int, 2) := by decide +kernel
theorem dX5_init_8 : decode cX5_init 8 = .ok (.putfield 9, 3) := by decide +kernel
theorem dX5_init_11 : decode cX5_init 11 = .ok (.aload_n 0, 1) := by decide +kernel
theorem dX5_init_12 : decode cX5_init 12 = .ok (.iconst 0, 1) := by decide +kernel
theorem dX5_init_13 : decode cX5_init 13 = .ok (.putfield 13, 3) := by decide +kernel
theorem dX5_init_16 : decode cX5_init 16 = .ok (.return_, 1) := by decide +kernel
theorem dX5_add_0 : decode cX5_add 0 = .ok (.aload_n 0, 1) := by decide +kernel
theorem dX5_add_1 : decode cX5_add 1 = .ok (.getfield 9, 3) := by decide +kernel
theorem dX5_add_4 : decode cX5_add 4 = .ok (.aload_n 0, 1) := by decide +kernel
theorem dX5_add_5 : decode cX5_add 5 = .ok (.getfield 13, 3) := by decide +kernel
theorem dX5_add_8 : decode cX5_add 8 = .ok (.iload_n 1, 1) := by decide +kernel
theorem dX5_add_9 : decode cX5_add 9 = .ok (.iastore, 1) := by decide +kernel
theorem dX5_add_10 : decode cX5_add 10 = .ok (.aload_n 0, 1) := by decide +kernel
theorem dX5_add_11 : decode cX5_add 11 = .ok (.dup, 1) := by decide +kernel
theorem dX5_add_12 : decode cX5_add 12 = .ok (.getfield 13, 3) := by decide +kernel
theorem dX5_add_15 : decode cX5_add 15 = .ok (.iconst 1, 1) := by decide +kernel
