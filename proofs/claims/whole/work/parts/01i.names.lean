theorem dX8_under_13 : decode cX8_under 13 = .ok (.ifCond .eq 8, 3) := by decide +kernel
theorem dX8_under_16 : decode cX8_under 16 = .ok (.iload_n 1, 1) := by decide +kernel
theorem dX8_under_17 : decode cX8_under 17 = .ok (.iload_n 2, 1) := by decide +kernel
theorem dX8_under_18 : decode cX8_under 18 = .ok (.if_icmp .ne 5, 3) := by decide +kernel
theorem dX8_under_21 : decode cX8_under 21 = .ok (.iconst (-1), 1) := by decide +kernel
theorem dX8_under_22 : decode cX8_under 22 = .ok (.ireturn, 1) := by decide +kernel
theorem dX8_under_23 : decode cX8_under 23 = .ok (.iload_n 3, 1) := by decide +kernel
theorem dX8_under_24 : decode cX8_under 24 = .ok (.ifCond .eq 19, 3) := by decide +kernel
theorem dX8_under_27 : decode cX8_under 27 = .ok (.aload_n 0, 1) := by decide +kernel
theorem dX8_under_28 : decode cX8_under 28 = .ok (.iload_n 2, 1) := by decide +kernel
theorem dX8_under_29 : decode cX8_under 29 = .ok (.invokevirtual 179, 3) := by decide +kernel
theorem dX8_under_32 : decode cX8_under 32 = .ok (.iload_n 1, 1) := by decide +kernel
theorem dX8_under_33 : decode cX8_under 33 = .ok (.ishr, 1) := by decide +kernel
theorem dX8_under_34 : decode cX8_under 34 = .ok (.iconst 1, 1) := by decide +kernel
theorem dX8_under_35 : decode cX8_under 35 = .ok (.iand, 1) := by decide +kernel
theorem dX8_under_36 : decode cX8_under 36 = .ok (.iconst 1, 1) := by decide +kernel
theorem dX8_under_37 : decode cX8_under 37 = .ok (.if_icmp .ne 6, 3) := by decide +kernel
theorem dX8_under_40 : decode cX8_under 40 = .ok (.bipush (-5), 2) := by decide +kernel
theorem dX8_under_42 : decode cX8_under 42 = .ok (.ireturn, 1) := by decide +kernel
theorem dX8_under_43 : decode cX8_under 43 = .ok (.aload_n 0, 1) := by decide +kernel
theorem dX8_under_44 : decode cX8_under 44 = .ok (.getfield 53, 3) := by decide +kernel
theorem dX8_under_47 : decode cX8_under 47 = .ok (.iload_n 1, 1) := by decide +kernel
theorem dX8_under_48 : decode cX8_under 48 = .ok (.iaload, 1) := by decide +kernel
theorem dX8_under_49 : decode cX8_under 49 = .ok (.iload_n 2, 1) := by decide +kernel
theorem dX8_under_50 : decode cX8_under 50 = .ok (.ishr, 1) := by decide +kernel
theorem dX8_under_51 : decode cX8_under 51 = .ok (.iconst 1, 1) := by decide +kernel
theorem dX8_under_52 : decode cX8_under 52 = .ok (.iand, 1) := by decide +kernel
theorem dX8_under_53 : decode cX8_under 53 = .ok (.istore 4, 2) := by decide +kernel
theorem dX8_under_55 : decode cX8_under 55 = .ok (.aload_n 0, 1) := by decide +kernel
theorem dX8_under_56 : decode cX8_under 56 = .ok (.getfield 53, 3) := by decide +kernel
theorem dX8_under_59 : decode cX8_under 59 = .ok (.iload_n 1, 1) := by decide +kernel
theorem dX8_under_60 : decode cX8_under 60 = .ok (.iload_n 3, 1) := by decide +kernel
theorem dX8_under_61 : decode cX8_under 61 = .ok (.ifCond .eq 16, 3) := by decide +kernel
theorem dX8_under_64 : decode cX8_under 64 = .ok (.aload_n 0, 1) := by decide +kernel
theorem dX8_under_65 : decode cX8_under 65 = .ok (.getfield 53, 3) := by decide +kernel
theorem dX8_under_68 : decode cX8_under 68 = .ok (.iload_n 1, 1) := by decide +kernel
theorem dX8_under_69 : decode cX8_under 69 = .ok (.iaload, 1) := by decide +kernel
theorem dX8_under_70 : decode cX8_under 70 = .ok (.iconst 1, 1) := by decide +kernel
theorem dX8_under_71 : decode cX8_under 71 = .ok (.iload_n 2, 1) := by decide +kernel
theorem dX8_under_72 : decode cX8_under 72 = .ok (.ishl, 1) := by decide +kernel
theorem dX8_under_73 : decode cX8_under 73 = .ok (.ior, 1) := by decide +kernel
theorem dX8_under_74 : decode cX8_under 74 = .ok (.goto 15, 3) := by decide +kernel
theorem dX8_under_77 : decode cX8_under 77 = .ok (.aload_n 0, 1) := by decide +kernel
theorem dX8_under_78 : decode cX8_under 78 = .ok (.getfield 53, 3) := by decide +kernel
theorem dX8_under_81 : decode cX8_under 81 = .ok (.iload_n 1, 1) := by decide +kernel
theorem dX8_under_82 : decode cX8_under 82 = .ok (.iaload, 1) := by decide +kernel
theorem dX8_under_83 : decode cX8_under 83 = .ok (.iconst 1, 1) := by decide +kernel
theorem dX8_under_84 : decode cX8_under 84 = .ok (.iload_n 2, 1) := by decide +kernel
theorem dX8_under_85 : decode cX8_under 85 = .ok (.ishl, 1) := by decide +kernel
theorem dX8_under_86 : decode cX8_under 86 = .ok (.iconst (-1), 1) := by decide +kernel
theorem dX8_under_87 : decode cX8_under 87 = .ok (.ixor, 1) := by decide +kernel
theorem dX8_under_88 : decode cX8_under 88 = .ok (.iand, 1) := by decide +kernel
theorem dX8_under_89 : decode cX8_under 89 = .ok (.iastore, 1) := by decide +kernel
theorem dX8_under_90 : decode cX8_under 90 = .ok (.iload 4, 2) := by decide +kernel
theorem dX8_under_92 : decode cX8_under 92 = .ok (.ireturn, 1) := by decide +kernel
set_option maxRecDepth 20000 in
theorem ggX8_tangle_X8_isThing : GoodIn wsX8_tangle wsX8_isThing := goodIn_r _ [6, 7, 8, 9, 5, 10, 11, 12, 13, 14, 15, 16, 17, 18, 19, 20, 21, 22, 23, 24, 25, 26, 27, 28, 29, 30, 31, 32, 33, 34, 35, 36, 37, 38, 39, 40, 41, 42, 43, 44, 45, 46, 47, 48, 49, 50, 51, 52, 53, 54, 55, 56] (by decide +kernel) (by decide +kernel)
set_option maxRecDepth 20000 in
theorem gX8_tangle_X8_isThing : GoodIn wsX8_tangle (wsV RX8 176 RX8 yX8_isThing wsX8_isThing) := goodIn_app (goodIn_of _ (by decide +kernel)) ggX8_tangle_X8_isThing
theorem dX8_tangle_0 : decode cX8_tangle 0 = .ok (.aload_n 0, 1) := by decide +kernel
theorem dX8_tangle_1 : decode cX8_tangle 1 = .ok (.iload_n 1, 1) := by decide +kernel
theorem dX8_tangle_2 : decode cX8_tangle 2 = .ok (.invokevirtual 176, 3) := by decide +kernel
theorem dX8_tangle_5 : decode cX8_tangle 5 = .ok (.ifCond .ne 5, 3) := by decide +kernel
theorem dX8_tangle_8 : decode cX8_tangle 8 = .ok (.iconst (-1), 1) := by decide +kernel
theorem dX8_tangle_9 : decode cX8_tangle 9 = .ok (.ireturn, 1) := by decide +kernel
theorem dX8_tangle_10 : decode cX8_tangle 10 = .ok (.aload_n 0, 1) := by decide +kernel
theorem dX8_tangle_11 : decode cX8_tangle 11 = .ok (.getfield 145, 3) := by decide +kernel
theorem dX8_tangle_14 : decode cX8_tangle 14 = .ok (.iload_n 1, 1) := by decide +kernel
theorem dX8_tangle_15 : decode cX8_tangle 15 = .ok (.ishr, 1) := by decide +kernel
theorem dX8_tangle_16 : decode cX8_tangle 16 = .ok (.iconst 1, 1) := by decide +kernel
theorem dX8_tangle_17 : decode cX8_tangle 17 = .ok (.iand, 1) := by decide +kernel
theorem dX8_tangle_18 : decode cX8_tangle 18 = .ok (.istore_n 3, 1) := by decide +kernel
theorem dX8_tangle_19 : decode cX8_tangle 19 = .ok (.aload_n 0, 1) := by decide +kernel
theorem dX8_tangle_20 : decode cX8_tangle 20 = .ok (.iload_n 2, 1) := by decide +kernel
theorem dX8_tangle_21 : decode cX8_tangle 21 = .ok (.ifCond .eq 14, 3) := by decide +kernel
theorem dX8_tangle_24 : decode cX8_tangle 24 = .ok (.aload_n 0, 1) := by decide +kernel
theorem dX8_tangle_25 : decode cX8_tangle 25 = .ok (.getfield 145, 3) := by decide +kernel
theorem dX8_tangle_28 : decode cX8_tangle 28 = .ok (.iconst 1, 1) := by decide +kernel
theorem dX8_tangle_29 : decode cX8_tangle 29 = .ok (.iload_n 1, 1) := by decide +kernel
theorem dX8_tangle_30 : decode cX8_tangle 30 = .ok (.ishl, 1) := by decide +kernel
theorem dX8_tangle_31 : decode cX8_tangle 31 = .ok (.ior, 1) := by decide +kernel
theorem dX8_tangle_32 : decode cX8_tangle 32 = .ok (.goto 13, 3) := by decide +kernel
theorem dX8_tangle_35 : decode cX8_tangle 35 = .ok (.aload_n 0, 1) := by decide +kernel
theorem dX8_tangle_36 : decode cX8_tangle 36 = .ok (.getfield 145, 3) := by decide +kernel
theorem dX8_tangle_39 : decode cX8_tangle 39 = .ok (.iconst 1, 1) := by decide +kernel
theorem dX8_tangle_40 : decode cX8_tangle 40 = .ok (.iload_n 1, 1) := by decide +kernel
theorem dX8_tangle_41 : decode cX8_tangle 41 = .ok (.ishl, 1) := by decide +kernel
theorem dX8_tangle_42 : decode cX8_tangle 42 = .ok (.iconst (-1), 1) := by decide +kernel
theorem dX8_tangle_43 : decode cX8_tangle 43 = .ok (.ixor, 1) := by decide +kernel
theorem dX8_tangle_44 : decode cX8_tangle 44 = .ok (.iand, 1) := by decide +kernel
theorem dX8_tangle_45 : decode cX8_tangle 45 = .ok (.putfield 145, 3) := by decide +kernel
theorem dX8_tangle_48 : decode cX8_tangle 48 = .ok (.iload_n 3, 1) := by decide +kernel
theorem dX8_tangle_49 : decode cX8_tangle 49 = .ok (.ireturn, 1) := by decide +kernel
set_option maxRecDepth 20000 in
theorem ggX8_work_X8_isMan : GoodIn wsX8_work wsX8_isMan := goodIn_r _ [5, 6, 7, 4, 8] (by decide +kernel) (by decide +kernel)
set_option maxRecDepth 20000 in
theorem gX8_work_X8_isMan : GoodIn wsX8_work (va_wsS RX8 161 yX8_isMan wsX8_isMan) := goodIn_app (goodIn_of _ (by decide +kernel)) ggX8_work_X8_isMan
set_option maxRecDepth 20000 in
theorem ggX8_work_X8_isThing : GoodIn wsX8_work wsX8_isThing := goodIn_r _ [12, 13, 6, 7, 4, 8, 14, 15, 16, 17, 18, 19, 20, 21, 22, 23, 24, 25, 26, 27, 28, 29, 30, 31, 32, 33, 34, 35, 36, 37, 38, 39, 40, 41, 42, 43, 44, 45, 46, 47, 48, 49, 50, 51, 52, 53, 54, 55, 56, 57, 58, 59] (by decide +kernel) (by decide +kernel)
set_option maxRecDepth 20000 in
theorem gX8_work_X8_isThing : GoodIn wsX8_work (wsV RX8 176 RX8 yX8_isThing wsX8_isThing) := goodIn_app (goodIn_of _ (by decide +kernel)) ggX8_work_X8_isThing
theorem dX8_work_0 : decode cX8_work 0 = .ok (.iload_n 1, 1) := by decide +kernel
theorem dX8_work_1 : decode cX8_work 1 = .ok (.invokestatic 161, 3) := by decide +kernel
theorem dX8_work_4 : decode cX8_work 4 = .ok (.ifCond .eq 16, 3) := by decide +kernel
theorem dX8_work_7 : decode cX8_work 7 = .ok (.iload_n 2, 1) := by decide +kernel
theorem dX8_work_8 : decode cX8_work 8 = .ok (.iconst (-1), 1) := by decide +kernel
theorem dX8_work_9 : decode cX8_work 9 = .ok (.if_icmp .eq 13, 3) := by decide +kernel
theorem dX8_work_12 : decode cX8_work 12 = .ok (.aload_n 0, 1) := by decide +kernel
theorem dX8_work_13 : decode cX8_work 13 = .ok (.iload_n 2, 1) := by decide +kernel
theorem dX8_work_14 : decode cX8_work 14 = .ok (.invokevirtual 176, 3) := by decide +kernel
theorem dX8_work_17 : decode cX8_work 17 = .ok (.ifCond .ne 5, 3) := by decide +kernel
theorem dX8_work_20 : decode cX8_work 20 = .ok (.iconst (-1), 1) := by decide +kernel
theorem dX8_work_21 : decode cX8_work 21 = .ok (.ireturn, 1) := by decide +kernel
theorem dX8_work_22 : decode cX8_work 22 = .ok (.aload_n 0, 1) := by decide +kernel
theorem dX8_work_23 : decode cX8_work 23 = .ok (.getfield 44, 3) := by decide +kernel
theorem dX8_work_26 : decode cX8_work 26 = .ok (.iload_n 1, 1) := by decide +kernel
theorem dX8_work_27 : decode cX8_work 27 = .ok (.iaload, 1) := by decide +kernel
theorem dX8_work_28 : decode cX8_work 28 = .ok (.istore_n 3, 1) := by decide +kernel
theorem dX8_work_29 : decode cX8_work 29 = .ok (.aload_n 0, 1) := by decide +kernel
theorem dX8_work_30 : decode cX8_work 30 = .ok (.getfield 44, 3) := by decide +kernel
theorem dX8_work_33 : decode cX8_work 33 = .ok (.iload_n 1, 1) := by decide +kernel
theorem dX8_work_34 : decode cX8_work 34 = .ok (.iload_n 2, 1) := by decide +kernel
theorem dX8_work_35 : decode cX8_work 35 = .ok (.iconst (-1), 1) := by decide +kernel
theorem dX8_work_36 : decode cX8_work 36 = .ok (.if_icmp .ne 8, 3) := by decide +kernel
theorem dX8_work_39 : decode cX8_work 39 = .ok (.bipush (-6), 2) := by decide +kernel
theorem dX8_work_41 : decode cX8_work 41 = .ok (.goto 4, 3) := by decide +kernel
theorem dX8_work_44 : decode cX8_work 44 = .ok (.iload_n 2, 1) := by decide +kernel
theorem dX8_work_45 : decode cX8_work 45 = .ok (.iastore, 1) := by decide +kernel
theorem dX8_work_46 : decode cX8_work 46 = .ok (.iload_n 3, 1) := by decide +kernel
theorem dX8_work_47 : decode cX8_work 47 = .ok (.ireturn, 1) := by decide +kernel
set_option maxRecDepth 20000 in
theorem ggX8_ofThing_X8_isThing : GoodIn wsX8_ofThing wsX8_isThing := goodIn_r _ [9, 10, 11, 12, 8, 13, 18, 19, 20, 21, 22, 23, 24, 25, 26, 27, 28, 29, 30, 31, 32, 33, 34, 35, 36, 37, 38, 39, 40, 41, 42, 43, 44, 45, 46, 47, 48, 49, 50, 51, 52, 53, 54, 55, 56, 57, 58, 59, 60, 61, 62, 63] (by decide +kernel) (by decide +kernel)
set_option maxRecDepth 20000 in
theorem gX8_ofThing_X8_isThing : GoodIn wsX8_ofThing (wsV RX8 176 RX8 yX8_isThing wsX8_isThing) := goodIn_app (goodIn_of _ (by decide +kernel)) ggX8_ofThing_X8_isThing
set_option maxRecDepth 20000 in
theorem ggX8_ofThing_X8_in : GoodIn wsX8_ofThing wsX8_in := goodIn_r _ [13] (by decide +kernel) (by decide +kernel)
set_option maxRecDepth 20000 in
theorem gX8_ofThing_X8_in : GoodIn wsX8_ofThing (va_wsS RX8 102 yX8_in wsX8_in) := goodIn_app (goodIn_of _ (by decide +kernel)) ggX8_ofThing_X8_in
set_option maxRecDepth 20000 in
theorem ggX8_ofThing_X8_isFree : GoodIn wsX8_ofThing wsX8_isFree := goodIn_r _ [17, 4, 2, 18, 19, 20, 21, 22, 23, 24, 25, 26, 27, 28, 29, 30, 31, 32, 33, 34, 35, 36, 37, 38, 39, 40, 41, 42, 43, 44, 45, 46, 47, 48, 49, 50, 51, 52, 53, 54, 55, 56, 57, 58, 59, 60, 61, 62, 63] (by decide +kernel) (by decide +kernel)
set_option maxRecDepth 20000 in
theorem gX8_ofThing_X8_isFree : GoodIn wsX8_ofThing (wsV RX8 141 RX8 yX8_isFree wsX8_isFree) := goodIn_app (goodIn_of _ (by decide +kernel)) ggX8_ofThing_X8_isFree
theorem dX8_ofThing_0 : decode cX8_ofThing 0 = .ok (.aload_n 0, 1) := by decide +kernel
theorem dX8_ofThing_1 : decode cX8_ofThing 1 = .ok (.iload_n 1, 1) := by decide +kernel
theorem dX8_ofThing_2 : decode cX8_ofThing 2 = .ok (.invokevirtual 176, 3) := by decide +kernel
theorem dX8_ofThing_5 : decode cX8_ofThing 5 = .ok (.ifCond .ne 5, 3) := by decide +kernel
theorem dX8_ofThing_8 : decode cX8_ofThing 8 = .ok (.iconst (-1), 1) := by decide +kernel
theorem dX8_ofThing_9 : decode cX8_ofThing 9 = .ok (.ireturn, 1) := by decide +kernel
theorem dX8_ofThing_10 : decode cX8_ofThing 10 = .ok (.iload_n 2, 1) := by decide +kernel
theorem dX8_ofThing_11 : decode cX8_ofThing 11 = .ok (.iconst 0, 1) := by decide +kernel
theorem dX8_ofThing_12 : decode cX8_ofThing 12 = .ok (.iconst 4, 1) := by decide +kernel
theorem dX8_ofThing_13 : decode cX8_ofThing 13 = .ok (.invokestatic 102, 3) := by decide +kernel
theorem dX8_ofThing_16 : decode cX8_ofThing 16 = .ok (.ifCond .eq 14, 3) := by decide +kernel
theorem dX8_ofThing_19 : decode cX8_ofThing 19 = .ok (.aload_n 0, 1) := by decide +kernel
theorem dX8_ofThing_20 : decode cX8_ofThing 20 = .ok (.getfield 50, 3) := by decide +kernel
theorem dX8_ofThing_23 : decode cX8_ofThing 23 = .ok (.iconst 5, 1) := by decide +kernel
theorem dX8_ofThing_24 : decode cX8_ofThing 24 = .ok (.iload_n 1, 1) := by decide +kernel
theorem dX8_ofThing_25 : decode cX8_ofThing 25 = .ok (.imul, 1) := by decide +kernel
theorem dX8_ofThing_26 : decode cX8_ofThing 26 = .ok (.iload_n 2, 1) := by decide +kernel
theorem dX8_ofThing_27 : decode cX8_ofThing 27 = .ok (.iadd, 1) := by decide +kernel
theorem dX8_ofThing_28 : decode cX8_ofThing 28 = .ok (.iaload, 1) := by decide +kernel
theorem dX8_ofThing_29 : decode cX8_ofThing 29 = .ok (.ireturn, 1) := by decide +kernel
theorem dX8_ofThing_30 : decode cX8_ofThing 30 = .ok (.iload_n 2, 1) := by decide +kernel
theorem dX8_ofThing_31 : decode cX8_ofThing 31 = .ok (.tableswitch 68 5 8 #[29, 38, 52, 61], 29) := by decide +kernel
theorem dX8_ofThing_60 : decode cX8_ofThing 60 = .ok (.aload_n 0, 1) := by decide +kernel
theorem dX8_ofThing_61 : decode cX8_ofThing 61 = .ok (.getfield 138, 3) := by decide +kernel
theorem dX8_ofThing_64 : decode cX8_ofThing 64 = .ok (.iload_n 1, 1) := by decide +kernel
theorem dX8_ofThing_65 : decode cX8_ofThing 65 = .ok (.ishr, 1) := by decide +kernel
theorem dX8_ofThing_66 : decode cX8_ofThing 66 = .ok (.iconst 1, 1) := by decide +kernel
theorem dX8_ofThing_67 : decode cX8_ofThing 67 = .ok (.iand, 1) := by decide +kernel
theorem dX8_ofThing_68 : decode cX8_ofThing 68 = .ok (.ireturn, 1) := by decide +kernel
theorem dX8_ofThing_69 : decode cX8_ofThing 69 = .ok (.aload_n 0, 1) := by decide +kernel
theorem dX8_ofThing_70 : decode cX8_ofThing 70 = .ok (.iload_n 1, 1) := by decide +kernel
theorem dX8_ofThing_71 : decode cX8_ofThing 71 = .ok (.invokevirtual 141, 3) := by decide +kernel
theorem dX8_ofThing_74 : decode cX8_ofThing 74 = .ok (.ifCond .eq 7, 3) := by decide +kernel
theorem dX8_ofThing_77 : decode cX8_ofThing 77 = .ok (.iconst 1, 1) := by decide +kernel
theorem dX8_ofThing_78 : decode cX8_ofThing 78 = .ok (.goto 4, 3) := by decide +kernel
theorem dX8_ofThing_81 : decode cX8_ofThing 81 = .ok (.iconst 0, 1) := by decide +kernel
theorem dX8_ofThing_82 : decode cX8_ofThing 82 = .ok (.ireturn, 1) := by decide +kernel
theorem dX8_ofThing_83 : decode cX8_ofThing 83 = .ok (.aload_n 0, 1) := by decide +kernel
theorem dX8_ofThing_84 : decode cX8_ofThing 84 = .ok (.getfield 145, 3) := by decide +kernel
theorem dX8_ofThing_87 : decode cX8_ofThing 87 = .ok (.iload_n 1, 1) := by decide +kernel
theorem dX8_ofThing_88 : decode cX8_ofThing 88 = .ok (.ishr, 1) := by decide +kernel
theorem dX8_ofThing_89 : decode cX8_ofThing 89 = .ok (.iconst 1, 1) := by decide +kernel
theorem dX8_ofThing_90 : decode cX8_ofThing 90 = .ok (.iand, 1) := by decide +kernel
theorem dX8_ofThing_91 : decode cX8_ofThing 91 = .ok (.ireturn, 1) := by decide +kernel
theorem dX8_ofThing_92 : decode cX8_ofThing 92 = .ok (.aload_n 0, 1) := by decide +kernel
theorem dX8_ofThing_93 : decode cX8_ofThing 93 = .ok (.getfield 53, 3) := by decide +kernel
theorem dX8_ofThing_96 : decode cX8_ofThing 96 = .ok (.iload_n 1, 1) := by decide +kernel
theorem dX8_ofThing_97 : decode cX8_ofThing 97 = .ok (.iaload, 1) := by decide +kernel
theorem dX8_ofThing_98 : decode cX8_ofThing 98 = .ok (.ireturn, 1) := by decide +kernel
theorem dX8_ofThing_99 : decode cX8_ofThing 99 = .ok (.bipush (-2), 2) := by decide +kernel
theorem dX8_ofThing_101 : decode cX8_ofThing 101 = .ok (.ireturn, 1) := by decide +kernel
set_option maxRecDepth 20000 in
theorem ggX8_tide_X8_in : GoodIn wsX8_tide wsX8_in := goodIn_r _ [6] (by decide +kernel) (by decide +kernel)
set_option maxRecDepth 20000 in
theorem gX8_tide_X8_in : GoodIn wsX8_tide (va_wsS RX8 102 yX8_in wsX8_in) := goodIn_app (goodIn_of _ (by decide +kernel)) ggX8_tide_X8_in
theorem dX8_tide_0 : decode cX8_tide 0 = .ok (.iload_n 1, 1) := by decide +kernel
theorem dX8_tide_1 : decode cX8_tide 1 = .ok (.iconst 1, 1) := by decide +kernel
theorem dX8_tide_2 : decode cX8_tide 2 = .ok (.sipush 300, 3) := by decide +kernel
theorem dX8_tide_5 : decode cX8_tide 5 = .ok (.invokestatic 102, 3) := by decide +kernel
theorem dX8_tide_8 : decode cX8_tide 8 = .ok (.ifCond .ne 6, 3) := by decide +kernel
theorem dX8_tide_11 : decode cX8_tide 11 = .ok (.bipush (-2), 2) := by decide +kernel
theorem dX8_tide_13 : decode cX8_tide 13 = .ok (.ireturn, 1) := by decide +kernel
theorem dX8_tide_14 : decode cX8_tide 14 = .ok (.aload_n 0, 1) := by decide +kernel
theorem dX8_tide_15 : decode cX8_tide 15 = .ok (.getfield 182, 3) := by decide +kernel
theorem dX8_tide_18 : decode cX8_tide 18 = .ok (.iconst 5, 1) := by decide +kernel
theorem dX8_tide_19 : decode cX8_tide 19 = .ok (.if_icmp .ne 6, 3) := by decide +kernel
theorem dX8_tide_22 : decode cX8_tide 22 = .ok (.bipush (-4), 2) := by decide +kernel
theorem dX8_tide_24 : decode cX8_tide 24 = .ok (.ireturn, 1) := by decide +kernel
theorem dX8_tide_25 : decode cX8_tide 25 = .ok (.aload_n 0, 1) := by decide +kernel
theorem dX8_tide_26 : decode cX8_tide 26 = .ok (.getfield 56, 3) := by decide +kernel
theorem dX8_tide_29 : decode cX8_tide 29 = .ok (.aload_n 0, 1) := by decide +kernel
theorem dX8_tide_30 : decode cX8_tide 30 = .ok (.getfield 182, 3) := by decide +kernel
theorem dX8_tide_33 : decode cX8_tide 33 = .ok (.iload_n 1, 1) := by decide +kernel
theorem dX8_tide_34 : decode cX8_tide 34 = .ok (.iastore, 1) := by decide +kernel
theorem dX8_tide_35 : decode cX8_tide 35 = .ok (.aload_n 0, 1) := by decide +kernel
theorem dX8_tide_36 : decode cX8_tide 36 = .ok (.dup, 1) := by decide +kernel
theorem dX8_tide_37 : decode cX8_tide 37 = .ok (.getfield 182, 3) := by decide +kernel
theorem dX8_tide_40 : decode cX8_tide 40 = .ok (.iconst 1, 1) := by decide +kernel
theorem dX8_tide_41 : decode cX8_tide 41 = .ok (.iadd, 1) := by decide +kernel
theorem dX8_tide_42 : decode cX8_tide 42 = .ok (.putfield 182, 3) := by decide +kernel
theorem dX8_tide_45 : decode cX8_tide 45 = .ok (.aload_n 0, 1) := by decide +kernel
theorem dX8_tide_46 : decode cX8_tide 46 = .ok (.getfield 182, 3) := by decide +kernel
theorem dX8_tide_49 : decode cX8_tide 49 = .ok (.ireturn, 1) := by decide +kernel
theorem dX8_calm_0 : decode cX8_calm 0 = .ok (.aload_n 0, 1) := by decide +kernel
theorem dX8_calm_1 : decode cX8_calm 1 = .ok (.getfield 182, 3) := by decide +kernel
theorem dX8_calm_4 : decode cX8_calm 4 = .ok (.istore_n 1, 1) := by decide +kernel
theorem dX8_calm_5 : decode cX8_calm 5 = .ok (.aload_n 0, 1) := by decide +kernel
theorem dX8_calm_6 : decode cX8_calm 6 = .ok (.iconst 0, 1) := by decide +kernel
theorem dX8_calm_7 : decode cX8_calm 7 = .ok (.putfield 182, 3) := by decide +kernel
theorem dX8_calm_10 : decode cX8_calm 10 = .ok (.iload_n 1, 1) := by decide +kernel
theorem dX8_calm_11 : decode cX8_calm 11 = .ok (.ireturn, 1) := by decide +kernel
theorem dX8_left_0 : decode cX8_left 0 = .ok (.aload_n 0, 1) := by decide +kernel
theorem dX8_left_1 : decode cX8_left 1 = .ok (.getfield 50, 3) := by decide +kernel
theorem dX8_left_4 : decode cX8_left 4 = .ok (.iconst 5, 1) := by decide +kernel
theorem dX8_left_5 : decode cX8_left 5 = .ok (.iload_n 1, 1) := by decide +kernel
theorem dX8_left_6 : decode cX8_left 6 = .ok (.imul, 1) := by decide +kernel
theorem dX8_left_7 : decode cX8_left 7 = .ok (.iconst 2, 1) := by decide +kernel
theorem dX8_left_8 : decode cX8_left 8 = .ok (.iadd, 1) := by decide +kernel
theorem dX8_left_9 : decode cX8_left 9 = .ok (.iaload, 1) := by decide +kernel
theorem dX8_left_10 : decode cX8_left 10 = .ok (.aload_n 0, 1) := by decide +kernel
theorem dX8_left_11 : decode cX8_left 11 = .ok (.getfield 50, 3) := by decide +kernel
theorem dX8_left_14 : decode cX8_left 14 = .ok (.iconst 5, 1) := by decide +kernel
theorem dX8_left_15 : decode cX8_left 15 = .ok (.iload_n 1, 1) := by decide +kernel
theorem dX8_left_16 : decode cX8_left 16 = .ok (.imul, 1) := by decide +kernel
theorem dX8_left_17 : decode cX8_left 17 = .ok (.iconst 4, 1) := by decide +kernel
theorem dX8_left_18 : decode cX8_left 18 = .ok (.iadd, 1) := by decide +kernel
theorem dX8_left_19 : decode cX8_left 19 = .ok (.iaload, 1) := by decide +kernel
theorem dX8_left_20 : decode cX8_left 20 = .ok (.isub, 1) := by decide +kernel
theorem dX8_left_21 : decode cX8_left 21 = .ok (.ireturn, 1) := by decide +kernel
set_option maxRecDepth 20000 in
theorem ggX8_endWith_X8_left : GoodIn wsX8_endWith wsX8_left := goodIn_r _ [8, 9, 10, 11, 12, 13, 14, 15, 16, 17, 18, 19, 20, 21, 22, 23, 24, 25, 26, 27, 28, 29, 30, 31, 32, 33, 34, 35, 36, 37, 38, 39, 40, 41, 42, 43, 44, 45, 46, 47, 48, 49, 50, 51, 52, 53, 54, 55] (by decide +kernel) (by decide +kernel)
set_option maxRecDepth 20000 in
theorem gX8_endWith_X8_left : GoodIn wsX8_endWith (wsV RX8 185 RX8 yX8_left wsX8_left) := goodIn_app (goodIn_of _ (by decide +kernel)) ggX8_endWith_X8_left
theorem dX8_endWith_0 : decode cX8_endWith 0 = .ok (.iload_n 1, 1) := by decide +kernel
theorem dX8_endWith_1 : decode cX8_endWith 1 = .ok (.sipush 1000, 3) := by decide +kernel
theorem dX8_endWith_4 : decode cX8_endWith 4 = .ok (.idiv, 1) := by decide +kernel
theorem dX8_endWith_5 : decode cX8_endWith 5 = .ok (.istore_n 3, 1) := by decide +kernel
theorem dX8_endWith_6 : decode cX8_endWith 6 = .ok (.iload_n 1, 1) := by decide +kernel
theorem dX8_endWith_7 : decode cX8_endWith 7 = .ok (.sipush 1000, 3) := by decide +kernel
theorem dX8_endWith_10 : decode cX8_endWith 10 = .ok (.irem, 1) := by decide +kernel
theorem dX8_endWith_11 : decode cX8_endWith 11 = .ok (.istore 4, 2) := by decide +kernel
theorem dX8_endWith_13 : decode cX8_endWith 13 = .ok (.iload_n 3, 1) := by decide +kernel
theorem dX8_endWith_14 : decode cX8_endWith 14 = .ok (.aload_n 0, 1) := by decide +kernel
theorem dX8_endWith_15 : decode cX8_endWith 15 = .ok (.getfield 182, 3) := by decide +kernel
theorem dX8_endWith_18 : decode cX8_endWith 18 = .ok (.if_icmp .ge 29, 3) := by decide +kernel
theorem dX8_endWith_21 : decode cX8_endWith 21 = .ok (.iload 4, 2) := by decide +kernel
theorem dX8_endWith_23 : decode cX8_endWith 23 = .ok (.aload_n 0, 1) := by decide +kernel
theorem dX8_endWith_24 : decode cX8_endWith 24 = .ok (.iload_n 2, 1) := by decide +kernel
theorem dX8_endWith_25 : decode cX8_endWith 25 = .ok (.invokevirtual 185, 3) := by decide +kernel
theorem dX8_endWith_28 : decode cX8_endWith 28 = .ok (.iadd, 1) := by decide +kernel
theorem dX8_endWith_29 : decode cX8_endWith 29 = .ok (.aload_n 0, 1) := by decide +kernel
theorem dX8_endWith_30 : decode cX8_endWith 30 = .ok (.getfield 56, 3) := by decide +kernel
theorem dX8_endWith_33 : decode cX8_endWith 33 = .ok (.iload_n 3, 1) := by decide +kernel
theorem dX8_endWith_34 : decode cX8_endWith 34 = .ok (.iaload, 1) := by decide +kernel
theorem dX8_endWith_35 : decode cX8_endWith 35 = .ok (.if_icmp .le 12, 3) := by decide +kernel
theorem dX8_endWith_38 : decode cX8_endWith 38 = .ok (.iinc 3 1, 3) := by decide +kernel
theorem dX8_endWith_41 : decode cX8_endWith 41 = .ok (.iconst 0, 1) := by decide +kernel
theorem dX8_endWith_42 : decode cX8_endWith 42 = .ok (.istore 4, 2) := by decide +kernel
theorem dX8_endWith_44 : decode cX8_endWith 44 = .ok (.goto (-31), 3) := by decide +kernel
theorem dX8_endWith_47 : decode cX8_endWith 47 = .ok (.iload_n 3, 1) := by decide +kernel
theorem dX8_endWith_48 : decode cX8_endWith 48 = .ok (.aload_n 0, 1) := by decide +kernel
theorem dX8_endWith_49 : decode cX8_endWith 49 = .ok (.getfield 182, 3) := by decide +kernel
theorem dX8_endWith_52 : decode cX8_endWith 52 = .ok (.if_icmp .lt 8, 3) := by decide +kernel
theorem dX8_endWith_55 : decode cX8_endWith 55 = .ok (.ldc 154, 2) := by decide +kernel
theorem dX8_endWith_57 : decode cX8_endWith 57 = .ok (.goto 17, 3) := by decide +kernel
theorem dX8_endWith_60 : decode cX8_endWith 60 = .ok (.sipush 1000, 3) := by decide +kernel
theorem dX8_endWith_63 : decode cX8_endWith 63 = .ok (.iload_n 3, 1) := by decide +kernel
theorem dX8_endWith_64 : decode cX8_endWith 64 = .ok (.imul, 1) := by decide +kernel
theorem dX8_endWith_65 : decode cX8_endWith 65 = .ok (.iload 4, 2) := by decide +kernel
theorem dX8_endWith_67 : decode cX8_endWith 67 = .ok (.iadd, 1) := by decide +kernel
theorem dX8_endWith_68 : decode cX8_endWith 68 = .ok (.aload_n 0, 1) := by decide +kernel
theorem dX8_endWith_69 : decode cX8_endWith 69 = .ok (.iload_n 2, 1) := by decide +kernel
theorem dX8_endWith_70 : decode cX8_endWith 70 = .ok (.invokevirtual 185, 3) := by decide +kernel
theorem dX8_endWith_73 : decode cX8_endWith 73 = .ok (.iadd, 1) := by decide +kernel
theorem dX8_endWith_74 : decode cX8_endWith 74 = .ok (.ireturn, 1) := by decide +kernel
set_option maxRecDepth 20000 in
theorem ggX8_layEnds_X8_endWith : GoodIn wsX8_layEnds wsX8_endWith := goodIn_r _ [11, 12, 13, 3, 14, 15, 16, 10, 17, 18, 19, 20, 21, 22, 23, 24, 25, 26, 27, 28, 29, 30, 31, 32, 33, 34, 35, 36, 37, 38, 39, 40, 41, 42, 43, 44, 45, 46, 47, 48, 49, 50, 51, 52, 53, 54, 55, 56, 57, 58, 59, 60, 61, 62, 63, 64] (by decide +kernel) (by decide +kernel)
set_option maxRecDepth 20000 in
theorem gX8_layEnds_X8_endWith : GoodIn wsX8_layEnds (wsV RX8 188 RX8 yX8_endWith wsX8_endWith) := goodIn_app (goodIn_of _ (by decide +kernel)) ggX8_layEnds_X8_endWith
theorem dX8_layEnds_0 : decode cX8_layEnds 0 = .ok (.iconst 0, 1) := by decide +kernel
theorem dX8_layEnds_1 : decode cX8_layEnds 1 = .ok (.istore_n 3, 1) := by decide +kernel
theorem dX8_layEnds_2 : decode cX8_layEnds 2 = .ok (.iload_n 3, 1) := by decide +kernel
theorem dX8_layEnds_3 : decode cX8_layEnds 3 = .ok (.iconst 1, 1) := by decide +kernel
theorem dX8_layEnds_4 : decode cX8_layEnds 4 = .ok (.aload_n 0, 1) := by decide +kernel
theorem dX8_layEnds_5 : decode cX8_layEnds 5 = .ok (.getfield 173, 3) := by decide +kernel
theorem dX8_layEnds_8 : decode cX8_layEnds 8 = .ok (.ishl, 1) := by decide +kernel
theorem dX8_layEnds_9 : decode cX8_layEnds 9 = .ok (.if_icmp .ge 26, 3) := by decide +kernel
theorem dX8_layEnds_12 : decode cX8_layEnds 12 = .ok (.aload_n 0, 1) := by decide +kernel
theorem dX8_layEnds_13 : decode cX8_layEnds 13 = .ok (.getfield 80, 3) := by decide +kernel
theorem dX8_layEnds_16 : decode cX8_layEnds 16 = .ok (.iload_n 3, 1) := by decide +kernel
theorem dX8_layEnds_17 : decode cX8_layEnds 17 = .ok (.iload_n 3, 1) := by decide +kernel
theorem dX8_layEnds_18 : decode cX8_layEnds 18 = .ok (.iload_n 1, 1) := by decide +kernel
theorem dX8_layEnds_19 : decode cX8_layEnds 19 = .ok (.if_icmp .ne 7, 3) := by decide +kernel
theorem dX8_layEnds_22 : decode cX8_layEnds 22 = .ok (.iload_n 2, 1) := by decide +kernel
theorem dX8_layEnds_23 : decode cX8_layEnds 23 = .ok (.goto 5, 3) := by decide +kernel
theorem dX8_layEnds_26 : decode cX8_layEnds 26 = .ok (.ldc 154, 2) := by decide +kernel
theorem dX8_layEnds_28 : decode cX8_layEnds 28 = .ok (.iastore, 1) := by decide +kernel
theorem dX8_layEnds_29 : decode cX8_layEnds 29 = .ok (.iinc 3 1, 3) := by decide +kernel
theorem dX8_layEnds_32 : decode cX8_layEnds 32 = .ok (.goto (-30), 3) := by decide +kernel
theorem dX8_layEnds_35 : decode cX8_layEnds 35 = .ok (.iconst 0, 1) := by decide +kernel
theorem dX8_layEnds_36 : decode cX8_layEnds 36 = .ok (.istore_n 3, 1) := by decide +kernel
theorem dX8_layEnds_37 : decode cX8_layEnds 37 = .ok (.iload_n 3, 1) := by decide +kernel
theorem dX8_layEnds_38 : decode cX8_layEnds 38 = .ok (.iconst 1, 1) := by decide +kernel
theorem dX8_layEnds_39 : decode cX8_layEnds 39 = .ok (.aload_n 0, 1) := by decide +kernel
theorem dX8_layEnds_40 : decode cX8_layEnds 40 = .ok (.getfield 173, 3) := by decide +kernel
theorem dX8_layEnds_43 : decode cX8_layEnds 43 = .ok (.ishl, 1) := by decide +kernel
theorem dX8_layEnds_44 : decode cX8_layEnds 44 = .ok (.if_icmp .ge 143, 3) := by decide +kernel
theorem dX8_layEnds_47 : decode cX8_layEnds 47 = .ok (.iconst 0, 1) := by decide +kernel
theorem dX8_layEnds_48 : decode cX8_layEnds 48 = .ok (.istore 4, 2) := by decide +kernel
theorem dX8_layEnds_50 : decode cX8_layEnds 50 = .ok (.iload 4, 2) := by decide +kernel
theorem dX8_layEnds_52 : decode cX8_layEnds 52 = .ok (.aload_n 0, 1) := by decide +kernel
theorem dX8_layEnds_53 : decode cX8_layEnds 53 = .ok (.getfield 173, 3) := by decide +kernel
theorem dX8_layEnds_56 : decode cX8_layEnds 56 = .ok (.if_icmp .ge 125, 3) := by decide +kernel
theorem dX8_layEnds_59 : decode cX8_layEnds 59 = .ok (.aload_n 0, 1) := by decide +kernel
theorem dX8_layEnds_60 : decode cX8_layEnds 60 = .ok (.getfield 80, 3) := by decide +kernel
theorem dX8_layEnds_63 : decode cX8_layEnds 63 = .ok (.iload_n 3, 1) := by decide +kernel
theorem dX8_layEnds_64 : decode cX8_layEnds 64 = .ok (.iaload, 1) := by decide +kernel
theorem dX8_layEnds_65 : decode cX8_layEnds 65 = .ok (.ldc 154, 2) := by decide +kernel
theorem dX8_layEnds_67 : decode cX8_layEnds 67 = .ok (.if_icmp .ge 114, 3) := by decide +kernel
theorem dX8_layEnds_70 : decode cX8_layEnds 70 = .ok (.iload_n 3, 1) := by decide +kernel
theorem dX8_layEnds_71 : decode cX8_layEnds 71 = .ok (.aload_n 0, 1) := by decide +kernel
theorem dX8_layEnds_72 : decode cX8_layEnds 72 = .ok (.getfield 138, 3) := by decide +kernel
theorem dX8_layEnds_75 : decode cX8_layEnds 75 = .ok (.ior, 1) := by decide +kernel
theorem dX8_layEnds_76 : decode cX8_layEnds 76 = .ok (.aload_n 0, 1) := by decide +kernel
theorem dX8_layEnds_77 : decode cX8_layEnds 77 = .ok (.getfield 145, 3) := by decide +kernel
theorem dX8_layEnds_80 : decode cX8_layEnds 80 = .ok (.ior, 1) := by decide +kernel
theorem dX8_layEnds_81 : decode cX8_layEnds 81 = .ok (.iload 4, 2) := by decide +kernel
theorem dX8_layEnds_83 : decode cX8_layEnds 83 = .ok (.ishr, 1) := by decide +kernel
theorem dX8_layEnds_84 : decode cX8_layEnds 84 = .ok (.iconst 1, 1) := by decide +kernel
theorem dX8_layEnds_85 : decode cX8_layEnds 85 = .ok (.iand, 1) := by decide +kernel
theorem dX8_layEnds_86 : decode cX8_layEnds 86 = .ok (.ifCond .ne 28, 3) := by decide +kernel
theorem dX8_layEnds_89 : decode cX8_layEnds 89 = .ok (.aload_n 0, 1) := by decide +kernel
theorem dX8_layEnds_90 : decode cX8_layEnds 90 = .ok (.getfield 53, 3) := by decide +kernel
theorem dX8_layEnds_93 : decode cX8_layEnds 93 = .ok (.iload 4, 2) := by decide +kernel
theorem dX8_layEnds_95 : decode cX8_layEnds 95 = .ok (.iaload, 1) := by decide +kernel
theorem dX8_layEnds_96 : decode cX8_layEnds 96 = .ok (.aload_n 0, 1) := by decide +kernel
theorem dX8_layEnds_97 : decode cX8_layEnds 97 = .ok (.getfield 138, 3) := by decide +kernel
theorem dX8_layEnds_100 : decode cX8_layEnds 100 = .ok (.iconst (-1), 1) := by decide +kernel
theorem dX8_layEnds_101 : decode cX8_layEnds 101 = .ok (.ixor, 1) := by decide +kernel
theorem dX8_layEnds_102 : decode cX8_layEnds 102 = .ok (.iand, 1) := by decide +kernel
theorem dX8_layEnds_103 : decode cX8_layEnds 103 = .ok (.iload_n 3, 1) := by decide +kernel
theorem dX8_layEnds_104 : decode cX8_layEnds 104 = .ok (.iconst (-1), 1) := by decide +kernel
theorem dX8_layEnds_105 : decode cX8_layEnds 105 = .ok (.ixor, 1) := by decide +kernel
theorem dX8_layEnds_106 : decode cX8_layEnds 106 = .ok (.iand, 1) := by decide +kernel
theorem dX8_layEnds_107 : decode cX8_layEnds 107 = .ok (.ifCond .ne 7, 3) := by decide +kernel
theorem dX8_layEnds_110 : decode cX8_layEnds 110 = .ok (.iconst 1, 1) := by decide +kernel
theorem dX8_layEnds_111 : decode cX8_layEnds 111 = .ok (.goto 4, 3) := by decide +kernel
theorem dX8_layEnds_114 : decode cX8_layEnds 114 = .ok (.iconst 0, 1) := by decide +kernel
theorem dX8_layEnds_115 : decode cX8_layEnds 115 = .ok (.istore 5, 2) := by decide +kernel
theorem dX8_layEnds_117 : decode cX8_layEnds 117 = .ok (.iload 5, 2) := by decide +kernel
theorem dX8_layEnds_119 : decode cX8_layEnds 119 = .ok (.ifCond .eq 56, 3) := by decide +kernel
theorem dX8_layEnds_122 : decode cX8_layEnds 122 = .ok (.aload_n 0, 1) := by decide +kernel
theorem dX8_layEnds_123 : decode cX8_layEnds 123 = .ok (.aload_n 0, 1) := by decide +kernel
theorem dX8_layEnds_124 : decode cX8_layEnds 124 = .ok (.getfield 80, 3) := by decide +kernel
theorem dX8_layEnds_127 : decode cX8_layEnds 127 = .ok (.iload_n 3, 1) := by decide +kernel
theorem dX8_layEnds_128 : decode cX8_layEnds 128 = .ok (.iaload, 1) := by decide +kernel
theorem dX8_layEnds_129 : decode cX8_layEnds 129 = .ok (.iload 4, 2) := by decide +kernel
theorem dX8_layEnds_131 : decode cX8_layEnds 131 = .ok (.invokevirtual 188, 3) := by decide +kernel
theorem dX8_layEnds_134 : decode cX8_layEnds 134 = .ok (.istore 6, 2) := by decide +kernel
theorem dX8_layEnds_136 : decode cX8_layEnds 136 = .ok (.iload_n 3, 1) := by decide +kernel
theorem dX8_layEnds_137 : decode cX8_layEnds 137 = .ok (.iconst 1, 1) := by decide +kernel
theorem dX8_layEnds_138 : decode cX8_layEnds 138 = .ok (.iload 4, 2) := by decide +kernel
theorem dX8_layEnds_140 : decode cX8_layEnds 140 = .ok (.ishl, 1) := by decide +kernel
theorem dX8_layEnds_141 : decode cX8_layEnds 141 = .ok (.ior, 1) := by decide +kernel
theorem dX8_layEnds_142 : decode cX8_layEnds 142 = .ok (.istore 7, 2) := by decide +kernel
theorem dX8_layEnds_144 : decode cX8_layEnds 144 = .ok (.aload_n 0, 1) := by decide +kernel
theorem dX8_layEnds_145 : decode cX8_layEnds 145 = .ok (.getfield 80, 3) := by decide +kernel
theorem dX8_layEnds_148 : decode cX8_layEnds 148 = .ok (.iload 7, 2) := by decide +kernel
theorem dX8_layEnds_150 : decode cX8_layEnds 150 = .ok (.iload 6, 2) := by decide +kernel
theorem dX8_layEnds_152 : decode cX8_layEnds 152 = .ok (.aload_n 0, 1) := by decide +kernel
theorem dX8_layEnds_153 : decode cX8_layEnds 153 = .ok (.getfield 80, 3) := by decide +kernel
theorem dX8_layEnds_156 : decode cX8_layEnds 156 = .ok (.iload 7, 2) := by decide +kernel
theorem dX8_layEnds_158 : decode cX8_layEnds 158 = .ok (.iaload, 1) := by decide +kernel
theorem dX8_layEnds_159 : decode cX8_layEnds 159 = .ok (.if_icmp .ge 8, 3) := by decide +kernel
theorem dX8_layEnds_162 : decode cX8_layEnds 162 = .ok (.iload 6, 2) := by decide +kernel
theorem dX8_layEnds_164 : decode cX8_layEnds 164 = .ok (.goto 10, 3) := by decide +kernel
theorem dX8_layEnds_167 : decode cX8_layEnds 167 = .ok (.aload_n 0, 1) := by decide +kernel
theorem dX8_layEnds_168 : decode cX8_layEnds 168 = .ok (.getfield 80, 3) := by decide +kernel
theorem dX8_layEnds_171 : decode cX8_layEnds 171 = .ok (.iload 7, 2) := by decide +kernel
theorem dX8_layEnds_173 : decode cX8_layEnds 173 = .ok (.iaload, 1) := by decide +kernel
theorem dX8_layEnds_174 : decode cX8_layEnds 174 = .ok (.iastore, 1) := by decide +kernel
theorem dX8_layEnds_175 : decode cX8_layEnds 175 = .ok (.iinc 4 1, 3) := by decide +kernel
theorem dX8_layEnds_178 : decode cX8_layEnds 178 = .ok (.goto (-128), 3) := by decide +kernel
theorem dX8_layEnds_181 : decode cX8_layEnds 181 = .ok (.iinc 3 1, 3) := by decide +kernel
theorem dX8_layEnds_184 : decode cX8_layEnds 184 = .ok (.goto (-147), 3) := by decide +kernel
theorem dX8_layEnds_187 : decode cX8_layEnds 187 = .ok (.return_, 1) := by decide +kernel
theorem dX8_hopeOf_0 : decode cX8_hopeOf 0 = .ok (.iconst 0, 1) := by decide +kernel
theorem dX8_hopeOf_1 : decode cX8_hopeOf 1 = .ok (.istore_n 2, 1) := by decide +kernel
theorem dX8_hopeOf_2 : decode cX8_hopeOf 2 = .ok (.iconst 0, 1) := by decide +kernel
theorem dX8_hopeOf_3 : decode cX8_hopeOf 3 = .ok (.istore_n 3, 1) := by decide +kernel
theorem dX8_hopeOf_4 : decode cX8_hopeOf 4 = .ok (.iload_n 3, 1) := by decide +kernel
theorem dX8_hopeOf_5 : decode cX8_hopeOf 5 = .ok (.aload_n 0, 1) := by decide +kernel
theorem dX8_hopeOf_6 : decode cX8_hopeOf 6 = .ok (.getfield 173, 3) := by decide +kernel
theorem dX8_hopeOf_9 : decode cX8_hopeOf 9 = .ok (.if_icmp .ge 39, 3) := by decide +kernel
theorem dX8_hopeOf_12 : decode cX8_hopeOf 12 = .ok (.iload_n 2, 1) := by decide +kernel
theorem dX8_hopeOf_13 : decode cX8_hopeOf 13 = .ok (.iload_n 1, 1) := by decide +kernel
theorem dX8_hopeOf_14 : decode cX8_hopeOf 14 = .ok (.iload_n 3, 1) := by decide +kernel
theorem dX8_hopeOf_15 : decode cX8_hopeOf 15 = .ok (.ishr, 1) := by decide +kernel
theorem dX8_hopeOf_16 : decode cX8_hopeOf 16 = .ok (.iconst 1, 1) := by decide +kernel
theorem dX8_hopeOf_17 : decode cX8_hopeOf 17 = .ok (.iand, 1) := by decide +kernel
theorem dX8_hopeOf_18 : decode cX8_hopeOf 18 = .ok (.aload_n 0, 1) := by decide +kernel
theorem dX8_hopeOf_19 : decode cX8_hopeOf 19 = .ok (.getfield 50, 3) := by decide +kernel
theorem dX8_hopeOf_22 : decode cX8_hopeOf 22 = .ok (.iconst 5, 1) := by decide +kernel
theorem dX8_hopeOf_23 : decode cX8_hopeOf 23 = .ok (.iload_n 3, 1) := by decide +kernel
theorem dX8_hopeOf_24 : decode cX8_hopeOf 24 = .ok (.imul, 1) := by decide +kernel
theorem dX8_hopeOf_25 : decode cX8_hopeOf 25 = .ok (.iconst 1, 1) := by decide +kernel
theorem dX8_hopeOf_26 : decode cX8_hopeOf 26 = .ok (.iadd, 1) := by decide +kernel
theorem dX8_hopeOf_27 : decode cX8_hopeOf 27 = .ok (.iaload, 1) := by decide +kernel
theorem dX8_hopeOf_28 : decode cX8_hopeOf 28 = .ok (.imul, 1) := by decide +kernel
theorem dX8_hopeOf_29 : decode cX8_hopeOf 29 = .ok (.aload_n 0, 1) := by decide +kernel
theorem dX8_hopeOf_30 : decode cX8_hopeOf 30 = .ok (.getfield 50, 3) := by decide +kernel
theorem dX8_hopeOf_33 : decode cX8_hopeOf 33 = .ok (.iconst 5, 1) := by decide +kernel
theorem dX8_hopeOf_34 : decode cX8_hopeOf 34 = .ok (.iload_n 3, 1) := by decide +kernel
theorem dX8_hopeOf_35 : decode cX8_hopeOf 35 = .ok (.imul, 1) := by decide +kernel
theorem dX8_hopeOf_36 : decode cX8_hopeOf 36 = .ok (.iconst 3, 1) := by decide +kernel
theorem dX8_hopeOf_37 : decode cX8_hopeOf 37 = .ok (.iadd, 1) := by decide +kernel
theorem dX8_hopeOf_38 : decode cX8_hopeOf 38 = .ok (.iaload, 1) := by decide +kernel
theorem dX8_hopeOf_39 : decode cX8_hopeOf 39 = .ok (.imul, 1) := by decide +kernel
theorem dX8_hopeOf_40 : decode cX8_hopeOf 40 = .ok (.iadd, 1) := by decide +kernel
theorem dX8_hopeOf_41 : decode cX8_hopeOf 41 = .ok (.istore_n 2, 1) := by decide +kernel
theorem dX8_hopeOf_42 : decode cX8_hopeOf 42 = .ok (.iinc 3 1, 3) := by decide +kernel
theorem dX8_hopeOf_45 : decode cX8_hopeOf 45 = .ok (.goto (-41), 3) := by decide +kernel
theorem dX8_hopeOf_48 : decode cX8_hopeOf 48 = .ok (.iload_n 2, 1) := by decide +kernel
theorem dX8_hopeOf_49 : decode cX8_hopeOf 49 = .ok (.ireturn, 1) := by decide +kernel
set_option maxRecDepth 20000 in
theorem ggX8_workOfSet_X8_left : GoodIn wsX8_workOfSet wsX8_left := goodIn_r _ [6, 7, 8, 9, 10, 11, 12, 13, 14, 15, 16, 17, 18, 19, 20, 21, 22, 23, 24, 25, 26, 27, 28, 29, 30, 31, 32, 33, 34, 35, 36, 37, 38, 39, 40, 41, 42, 43, 44, 45, 46, 47, 48, 49, 50, 51, 52, 53] (by decide +kernel) (by decide +kernel)
set_option maxRecDepth 20000 in
theorem gX8_workOfSet_X8_left : GoodIn wsX8_workOfSet (wsV RX8 185 RX8 yX8_left wsX8_left) := goodIn_app (goodIn_of _ (by decide +kernel)) ggX8_workOfSet_X8_left
theorem dX8_workOfSet_0 : decode cX8_workOfSet 0 = .ok (.iconst 0, 1) := by decide +kernel
theorem dX8_workOfSet_1 : decode cX8_workOfSet 1 = .ok (.istore_n 2, 1) := by decide +kernel
theorem dX8_workOfSet_2 : decode cX8_workOfSet 2 = .ok (.iconst 0, 1) := by decide +kernel
theorem dX8_workOfSet_3 : decode cX8_workOfSet 3 = .ok (.istore_n 3, 1) := by decide +kernel
theorem dX8_workOfSet_4 : decode cX8_workOfSet 4 = .ok (.iload_n 3, 1) := by decide +kernel
theorem dX8_workOfSet_5 : decode cX8_workOfSet 5 = .ok (.aload_n 0, 1) := by decide +kernel
theorem dX8_workOfSet_6 : decode cX8_workOfSet 6 = .ok (.getfield 173, 3) := by decide +kernel
theorem dX8_workOfSet_9 : decode cX8_workOfSet 9 = .ok (.if_icmp .ge 23, 3) := by decide +kernel
theorem dX8_workOfSet_12 : decode cX8_workOfSet 12 = .ok (.iload_n 2, 1) := by decide +kernel
theorem dX8_workOfSet_13 : decode cX8_workOfSet 13 = .ok (.iload_n 1, 1) := by decide +kernel
theorem dX8_workOfSet_14 : decode cX8_workOfSet 14 = .ok (.iload_n 3, 1) := by decide +kernel
theorem dX8_workOfSet_15 : decode cX8_workOfSet 15 = .ok (.ishr, 1) := by decide +kernel
theorem dX8_workOfSet_16 : decode cX8_workOfSet 16 = .ok (.iconst 1, 1) := by decide +kernel
theorem dX8_workOfSet_17 : decode cX8_workOfSet 17 = .ok (.iand, 1) := by decide +kernel
theorem dX8_workOfSet_18 : decode cX8_workOfSet 18 = .ok (.aload_n 0, 1) := by decide +kernel
theorem dX8_workOfSet_19 : decode cX8_workOfSet 19 = .ok (.iload_n 3, 1) := by decide +kernel
theorem dX8_workOfSet_20 : decode cX8_workOfSet 20 = .ok (.invokevirtual 185, 3) := by decide +kernel
theorem dX8_workOfSet_23 : decode cX8_workOfSet 23 = .ok (.imul, 1) := by decide +kernel
theorem dX8_workOfSet_24 : decode cX8_workOfSet 24 = .ok (.iadd, 1) := by decide +kernel
theorem dX8_workOfSet_25 : decode cX8_workOfSet 25 = .ok (.istore_n 2, 1) := by decide +kernel
theorem dX8_workOfSet_26 : decode cX8_workOfSet 26 = .ok (.iinc 3 1, 3) := by decide +kernel
theorem dX8_workOfSet_29 : decode cX8_workOfSet 29 = .ok (.goto (-25), 3) := by decide +kernel
theorem dX8_workOfSet_32 : decode cX8_workOfSet 32 = .ok (.iload_n 2, 1) := by decide +kernel
theorem dX8_workOfSet_33 : decode cX8_workOfSet 33 = .ok (.ireturn, 1) := by decide +kernel
set_option maxRecDepth 20000 in
theorem ggX8_layBest_X8_layEnds : GoodIn wsX8_layBest wsX8_layEnds := goodIn_r _ [14, 2, 3, 4, 7, 15, 6, 16, 17, 18, 13, 19, 20, 21, 22, 23, 24, 25, 26, 35, 36, 37, 38, 39, 40, 41, 42, 43, 44, 45, 46, 47, 48, 49, 50, 51, 52, 53, 54, 55, 56, 57, 58, 59, 60, 61, 62, 63, 64, 65, 66, 67, 68, 69, 70, 71, 72, 73, 74, 75, 76, 77, 78, 79, 80] (by decide +kernel) (by decide +kernel)
set_option maxRecDepth 20000 in
theorem gX8_layBest_X8_layEnds : GoodIn wsX8_layBest (wsV RX8 192 RX8 yX8_layEnds wsX8_layEnds) := goodIn_app (goodIn_of _ (by decide +kernel)) ggX8_layBest_X8_layEnds
set_option maxRecDepth 20000 in
theorem ggX8_layBest_X8_hopeOf : GoodIn wsX8_layBest wsX8_hopeOf := goodIn_r _ [30, 2, 26, 35, 36, 37, 38, 39, 40, 41, 42, 43, 44, 45, 46, 47, 48, 49, 50, 51, 52, 53, 54, 55, 56, 57, 58, 59, 60, 61, 62, 63, 64, 65, 66, 67, 68, 69, 70, 71, 72, 73, 74, 75, 76, 77, 78, 79, 80] (by decide +kernel) (by decide +kernel)
set_option maxRecDepth 20000 in
theorem gX8_layBest_X8_hopeOf : GoodIn wsX8_layBest (wsV RX8 199 RX8 yX8_hopeOf wsX8_hopeOf) := goodIn_app (goodIn_of _ (by decide +kernel)) ggX8_layBest_X8_hopeOf
set_option maxRecDepth 20000 in
theorem ggX8_layBest_X8_workOfSet : GoodIn wsX8_layBest wsX8_workOfSet := goodIn_r _ [34, 2, 22, 23, 24, 13, 25, 26, 35, 36, 37, 38, 39, 40, 41, 42, 43, 44, 45, 46, 47, 48, 49, 50, 51, 52, 53, 54, 55, 56, 57, 58, 59, 60, 61, 62, 63, 64, 65, 66, 67, 68, 69, 70, 71, 72, 73, 74, 75, 76, 77, 78, 79, 80] (by decide +kernel) (by decide +kernel)
set_option maxRecDepth 20000 in
theorem gX8_layBest_X8_workOfSet : GoodIn wsX8_layBest (wsV RX8 202 RX8 yX8_workOfSet wsX8_workOfSet) := goodIn_app (goodIn_of _ (by decide +kernel)) ggX8_layBest_X8_workOfSet
set_option maxRecDepth 20000 in
theorem ggX8_layBest_X8_endWith : GoodIn wsX8_layBest wsX8_endWith := goodIn_r _ [19, 20, 21, 4, 22, 23, 24, 13, 25, 26, 35, 36, 37, 38, 39, 40, 41, 42, 43, 44, 45, 46, 47, 48, 49, 50, 51, 52, 53, 54, 55, 56, 57, 58, 59, 60, 61, 62, 63, 64, 65, 66, 67, 68, 69, 70, 71, 72, 73, 74, 75, 76, 77, 78, 79, 80] (by decide +kernel) (by decide +kernel)
set_option maxRecDepth 20000 in
theorem gX8_layBest_X8_endWith : GoodIn wsX8_layBest (wsV RX8 188 RX8 yX8_endWith wsX8_endWith) := goodIn_app (goodIn_of _ (by decide +kernel)) ggX8_layBest_X8_endWith
theorem dX8_layBest_0 : decode cX8_layBest 0 = .ok (.aload_n 0, 1) := by decide +kernel
theorem dX8_layBest_1 : decode cX8_layBest 1 = .ok (.iconst 0, 1) := by decide +kernel
theorem dX8_layBest_2 : decode cX8_layBest 2 = .ok (.iconst 0, 1) := by decide +kernel
theorem dX8_layBest_3 : decode cX8_layBest 3 = .ok (.invokevirtual 192, 3) := by decide +kernel
theorem dX8_layBest_6 : decode cX8_layBest 6 = .ok (.aload_n 0, 1) := by decide +kernel
theorem dX8_layBest_7 : decode cX8_layBest 7 = .ok (.iconst 0, 1) := by decide +kernel
theorem dX8_layBest_8 : decode cX8_layBest 8 = .ok (.putfield 196, 3) := by decide +kernel
theorem dX8_layBest_11 : decode cX8_layBest 11 = .ok (.iconst 1, 1) := by decide +kernel
theorem dX8_layBest_12 : decode cX8_layBest 12 = .ok (.istore_n 1, 1) := by decide +kernel
theorem dX8_layBest_13 : decode cX8_layBest 13 = .ok (.iload_n 1, 1) := by decide +kernel
theorem dX8_layBest_14 : decode cX8_layBest 14 = .ok (.iconst 1, 1) := by decide +kernel
theorem dX8_layBest_15 : decode cX8_layBest 15 = .ok (.aload_n 0, 1) := by decide +kernel
theorem dX8_layBest_16 : decode cX8_layBest 16 = .ok (.getfield 173, 3) := by decide +kernel
theorem dX8_layBest_19 : decode cX8_layBest 19 = .ok (.ishl, 1) := by decide +kernel
theorem dX8_layBest_20 : decode cX8_layBest 20 = .ok (.if_icmp .ge 71, 3) := by decide +kernel
theorem dX8_layBest_23 : decode cX8_layBest 23 = .ok (.aload_n 0, 1) := by decide +kernel
theorem dX8_layBest_24 : decode cX8_layBest 24 = .ok (.getfield 80, 3) := by decide +kernel
theorem dX8_layBest_27 : decode cX8_layBest 27 = .ok (.iload_n 1, 1) := by decide +kernel
theorem dX8_layBest_28 : decode cX8_layBest 28 = .ok (.iaload, 1) := by decide +kernel
theorem dX8_layBest_29 : decode cX8_layBest 29 = .ok (.ldc 154, 2) := by decide +kernel
theorem dX8_layBest_31 : decode cX8_layBest 31 = .ok (.if_icmp .ge 54, 3) := by decide +kernel
theorem dX8_layBest_34 : decode cX8_layBest 34 = .ok (.aload_n 0, 1) := by decide +kernel
theorem dX8_layBest_35 : decode cX8_layBest 35 = .ok (.iload_n 1, 1) := by decide +kernel
theorem dX8_layBest_36 : decode cX8_layBest 36 = .ok (.invokevirtual 199, 3) := by decide +kernel
theorem dX8_layBest_39 : decode cX8_layBest 39 = .ok (.aload_n 0, 1) := by decide +kernel
theorem dX8_layBest_40 : decode cX8_layBest 40 = .ok (.aload_n 0, 1) := by decide +kernel
theorem dX8_layBest_41 : decode cX8_layBest 41 = .ok (.getfield 196, 3) := by decide +kernel
theorem dX8_layBest_44 : decode cX8_layBest 44 = .ok (.invokevirtual 199, 3) := by decide +kernel
theorem dX8_layBest_47 : decode cX8_layBest 47 = .ok (.isub, 1) := by decide +kernel
theorem dX8_layBest_48 : decode cX8_layBest 48 = .ok (.istore_n 2, 1) := by decide +kernel
theorem dX8_layBest_49 : decode cX8_layBest 49 = .ok (.aload_n 0, 1) := by decide +kernel
theorem dX8_layBest_50 : decode cX8_layBest 50 = .ok (.iload_n 2, 1) := by decide +kernel
theorem dX8_layBest_51 : decode cX8_layBest 51 = .ok (.ifCond .gt 23, 3) := by decide +kernel
theorem dX8_layBest_54 : decode cX8_layBest 54 = .ok (.iload_n 2, 1) := by decide +kernel
theorem dX8_layBest_55 : decode cX8_layBest 55 = .ok (.ifCond .ne 23, 3) := by decide +kernel
theorem dX8_layBest_58 : decode cX8_layBest 58 = .ok (.aload_n 0, 1) := by decide +kernel
theorem dX8_layBest_59 : decode cX8_layBest 59 = .ok (.iload_n 1, 1) := by decide +kernel
theorem dX8_layBest_60 : decode cX8_layBest 60 = .ok (.invokevirtual 202, 3) := by decide +kernel
theorem dX8_layBest_63 : decode cX8_layBest 63 = .ok (.aload_n 0, 1) := by decide +kernel
theorem dX8_layBest_64 : decode cX8_layBest 64 = .ok (.aload_n 0, 1) := by decide +kernel
theorem dX8_layBest_65 : decode cX8_layBest 65 = .ok (.getfield 196, 3) := by decide +kernel
theorem dX8_layBest_68 : decode cX8_layBest 68 = .ok (.invokevirtual 202, 3) := by decide +kernel
theorem dX8_layBest_71 : decode cX8_layBest 71 = .ok (.if_icmp .ge 7, 3) := by decide +kernel
theorem dX8_layBest_74 : decode cX8_layBest 74 = .ok (.iload_n 1, 1) := by decide +kernel
theorem dX8_layBest_75 : decode cX8_layBest 75 = .ok (.goto 7, 3) := by decide +kernel
theorem dX8_layBest_78 : decode cX8_layBest 78 = .ok (.aload_n 0, 1) := by decide +kernel
theorem dX8_layBest_79 : decode cX8_layBest 79 = .ok (.getfield 196, 3) := by decide +kernel
theorem dX8_layBest_82 : decode cX8_layBest 82 = .ok (.putfield 196, 3) := by decide +kernel
theorem dX8_layBest_85 : decode cX8_layBest 85 = .ok (.iinc 1 1, 3) := by decide +kernel
theorem dX8_layBest_88 : decode cX8_layBest 88 = .ok (.goto (-75), 3) := by decide +kernel
theorem dX8_layBest_91 : decode cX8_layBest 91 = .ok (.aload_n 0, 1) := by decide +kernel
theorem dX8_layBest_92 : decode cX8_layBest 92 = .ok (.iconst 0, 1) := by decide +kernel
theorem dX8_layBest_93 : decode cX8_layBest 93 = .ok (.putfield 205, 3) := by decide +kernel
theorem dX8_layBest_96 : decode cX8_layBest 96 = .ok (.iconst 0, 1) := by decide +kernel
theorem dX8_layBest_97 : decode cX8_layBest 97 = .ok (.istore_n 1, 1) := by decide +kernel
theorem dX8_layBest_98 : decode cX8_layBest 98 = .ok (.iconst 0, 1) := by decide +kernel
theorem dX8_layBest_99 : decode cX8_layBest 99 = .ok (.istore_n 2, 1) := by decide +kernel
theorem dX8_layBest_100 : decode cX8_layBest 100 = .ok (.iload_n 1, 1) := by decide +kernel
theorem dX8_layBest_101 : decode cX8_layBest 101 = .ok (.aload_n 0, 1) := by decide +kernel
theorem dX8_layBest_102 : decode cX8_layBest 102 = .ok (.getfield 196, 3) := by decide +kernel
theorem dX8_layBest_105 : decode cX8_layBest 105 = .ok (.if_icmp .eq 184, 3) := by decide +kernel
theorem dX8_layBest_108 : decode cX8_layBest 108 = .ok (.bipush (-6), 2) := by decide +kernel
theorem dX8_layBest_110 : decode cX8_layBest 110 = .ok (.istore_n 3, 1) := by decide +kernel
theorem dX8_layBest_111 : decode cX8_layBest 111 = .ok (.ldc 154, 2) := by decide +kernel
theorem dX8_layBest_113 : decode cX8_layBest 113 = .ok (.istore 4, 2) := by decide +kernel
theorem dX8_layBest_115 : decode cX8_layBest 115 = .ok (.iconst 0, 1) := by decide +kernel
theorem dX8_layBest_116 : decode cX8_layBest 116 = .ok (.istore 5, 2) := by decide +kernel
theorem dX8_layBest_118 : decode cX8_layBest 118 = .ok (.iload 5, 2) := by decide +kernel
theorem dX8_layBest_120 : decode cX8_layBest 120 = .ok (.aload_n 0, 1) := by decide +kernel
theorem dX8_layBest_121 : decode cX8_layBest 121 = .ok (.getfield 173, 3) := by decide +kernel
theorem dX8_layBest_124 : decode cX8_layBest 124 = .ok (.if_icmp .ge 118, 3) := by decide +kernel
theorem dX8_layBest_127 : decode cX8_layBest 127 = .ok (.iload_n 3, 1) := by decide +kernel
theorem dX8_layBest_128 : decode cX8_layBest 128 = .ok (.ifCond .ge 114, 3) := by decide +kernel
theorem dX8_layBest_131 : decode cX8_layBest 131 = .ok (.aload_n 0, 1) := by decide +kernel
theorem dX8_layBest_132 : decode cX8_layBest 132 = .ok (.getfield 196, 3) := by decide +kernel
theorem dX8_layBest_135 : decode cX8_layBest 135 = .ok (.iload 5, 2) := by decide +kernel
theorem dX8_layBest_137 : decode cX8_layBest 137 = .ok (.ishr, 1) := by decide +kernel
theorem dX8_layBest_138 : decode cX8_layBest 138 = .ok (.iconst 1, 1) := by decide +kernel
theorem dX8_layBest_139 : decode cX8_layBest 139 = .ok (.iand, 1) := by decide +kernel
theorem dX8_layBest_140 : decode cX8_layBest 140 = .ok (.iconst 1, 1) := by decide +kernel
theorem dX8_layBest_141 : decode cX8_layBest 141 = .ok (.if_icmp .ne 37, 3) := by decide +kernel
theorem dX8_layBest_144 : decode cX8_layBest 144 = .ok (.iload_n 1, 1) := by decide +kernel
theorem dX8_layBest_145 : decode cX8_layBest 145 = .ok (.iload 5, 2) := by decide +kernel
theorem dX8_layBest_147 : decode cX8_layBest 147 = .ok (.ishr, 1) := by decide +kernel
theorem dX8_layBest_148 : decode cX8_layBest 148 = .ok (.iconst 1, 1) := by decide +kernel
theorem dX8_layBest_149 : decode cX8_layBest 149 = .ok (.iand, 1) := by decide +kernel
theorem dX8_layBest_150 : decode cX8_layBest 150 = .ok (.ifCond .ne 28, 3) := by decide +kernel
theorem dX8_layBest_153 : decode cX8_layBest 153 = .ok (.aload_n 0, 1) := by decide +kernel
theorem dX8_layBest_154 : decode cX8_layBest 154 = .ok (.getfield 53, 3) := by decide +kernel
theorem dX8_layBest_157 : decode cX8_layBest 157 = .ok (.iload 5, 2) := by decide +kernel
theorem dX8_layBest_159 : decode cX8_layBest 159 = .ok (.iaload, 1) := by decide +kernel
theorem dX8_layBest_160 : decode cX8_layBest 160 = .ok (.aload_n 0, 1) := by decide +kernel
theorem dX8_layBest_161 : decode cX8_layBest 161 = .ok (.getfield 138, 3) := by decide +kernel
theorem dX8_layBest_164 : decode cX8_layBest 164 = .ok (.iconst (-1), 1) := by decide +kernel
theorem dX8_layBest_165 : decode cX8_layBest 165 = .ok (.ixor, 1) := by decide +kernel
theorem dX8_layBest_166 : decode cX8_layBest 166 = .ok (.iand, 1) := by decide +kernel
theorem dX8_layBest_167 : decode cX8_layBest 167 = .ok (.iload_n 1, 1) := by decide +kernel
theorem dX8_layBest_168 : decode cX8_layBest 168 = .ok (.iconst (-1), 1) := by decide +kernel
theorem dX8_layBest_169 : decode cX8_layBest 169 = .ok (.ixor, 1) := by decide +kernel
theorem dX8_layBest_170 : decode cX8_layBest 170 = .ok (.iand, 1) := by decide +kernel
theorem dX8_layBest_171 : decode cX8_layBest 171 = .ok (.ifCond .ne 7, 3) := by decide +kernel
theorem dX8_layBest_174 : decode cX8_layBest 174 = .ok (.iconst 1, 1) := by decide +kernel
theorem dX8_layBest_175 : decode cX8_layBest 175 = .ok (.goto 4, 3) := by decide +kernel
theorem dX8_layBest_178 : decode cX8_layBest 178 = .ok (.iconst 0, 1) := by decide +kernel
theorem dX8_layBest_179 : decode cX8_layBest 179 = .ok (.istore 6, 2) := by decide +kernel
theorem dX8_layBest_181 : decode cX8_layBest 181 = .ok (.iload 6, 2) := by decide +kernel
theorem dX8_layBest_183 : decode cX8_layBest 183 = .ok (.ifCond .eq 53, 3) := by decide +kernel
theorem dX8_layBest_186 : decode cX8_layBest 186 = .ok (.aload_n 0, 1) := by decide +kernel
theorem dX8_layBest_187 : decode cX8_layBest 187 = .ok (.iload_n 2, 1) := by decide +kernel
theorem dX8_layBest_188 : decode cX8_layBest 188 = .ok (.iload 5, 2) := by decide +kernel
theorem dX8_layBest_190 : decode cX8_layBest 190 = .ok (.invokevirtual 188, 3) := by decide +kernel
theorem dX8_layBest_193 : decode cX8_layBest 193 = .ok (.istore 4, 2) := by decide +kernel
theorem dX8_layBest_195 : decode cX8_layBest 195 = .ok (.aload_n 0, 1) := by decide +kernel
theorem dX8_layBest_196 : decode cX8_layBest 196 = .ok (.iload_n 1, 1) := by decide +kernel
theorem dX8_layBest_197 : decode cX8_layBest 197 = .ok (.iconst 1, 1) := by decide +kernel
theorem dX8_layBest_198 : decode cX8_layBest 198 = .ok (.iload 5, 2) := by decide +kernel
theorem dX8_layBest_200 : decode cX8_layBest 200 = .ok (.ishl, 1) := by decide +kernel
theorem dX8_layBest_201 : decode cX8_layBest 201 = .ok (.ior, 1) := by decide +kernel
theorem dX8_layBest_202 : decode cX8_layBest 202 = .ok (.iload 4, 2) := by decide +kernel
theorem dX8_layBest_204 : decode cX8_layBest 204 = .ok (.invokevirtual 192, 3) := by decide +kernel
theorem dX8_layBest_207 : decode cX8_layBest 207 = .ok (.iload 4, 2) := by decide +kernel
theorem dX8_layBest_209 : decode cX8_layBest 209 = .ok (.ldc 154, 2) := by decide +kernel
theorem dX8_layBest_211 : decode cX8_layBest 211 = .ok (.if_icmp .ge 22, 3) := by decide +kernel
theorem dX8_layBest_214 : decode cX8_layBest 214 = .ok (.aload_n 0, 1) := by decide +kernel
theorem dX8_layBest_215 : decode cX8_layBest 215 = .ok (.getfield 80, 3) := by decide +kernel
theorem dX8_layBest_218 : decode cX8_layBest 218 = .ok (.aload_n 0, 1) := by decide +kernel
theorem dX8_layBest_219 : decode cX8_layBest 219 = .ok (.getfield 196, 3) := by decide +kernel
theorem dX8_layBest_222 : decode cX8_layBest 222 = .ok (.iaload, 1) := by decide +kernel
theorem dX8_layBest_223 : decode cX8_layBest 223 = .ok (.ldc 154, 2) := by decide +kernel
theorem dX8_layBest_225 : decode cX8_layBest 225 = .ok (.if_icmp .ge 8, 3) := by decide +kernel
theorem dX8_layBest_228 : decode cX8_layBest 228 = .ok (.iload 5, 2) := by decide +kernel
theorem dX8_layBest_230 : decode cX8_layBest 230 = .ok (.goto 5, 3) := by decide +kernel
theorem dX8_layBest_233 : decode cX8_layBest 233 = .ok (.bipush (-6), 2) := by decide +kernel
theorem dX8_layBest_235 : decode cX8_layBest 235 = .ok (.istore_n 3, 1) := by decide +kernel
theorem dX8_layBest_236 : decode cX8_layBest 236 = .ok (.iinc 5 1, 3) := by decide +kernel
theorem dX8_layBest_239 : decode cX8_layBest 239 = .ok (.goto (-121), 3) := by decide +kernel
theorem dX8_layBest_242 : decode cX8_layBest 242 = .ok (.aload_n 0, 1) := by decide +kernel
theorem dX8_layBest_243 : decode cX8_layBest 243 = .ok (.getfield 83, 3) := by decide +kernel
theorem dX8_layBest_246 : decode cX8_layBest 246 = .ok (.aload_n 0, 1) := by decide +kernel
theorem dX8_layBest_247 : decode cX8_layBest 247 = .ok (.getfield 205, 3) := by decide +kernel
theorem dX8_layBest_250 : decode cX8_layBest 250 = .ok (.iload_n 3, 1) := by decide +kernel
theorem dX8_layBest_251 : decode cX8_layBest 251 = .ok (.iastore, 1) := by decide +kernel
theorem dX8_layBest_252 : decode cX8_layBest 252 = .ok (.aload_n 0, 1) := by decide +kernel
theorem dX8_layBest_253 : decode cX8_layBest 253 = .ok (.getfield 86, 3) := by decide +kernel
theorem dX8_layBest_256 : decode cX8_layBest 256 = .ok (.aload_n 0, 1) := by decide +kernel
theorem dX8_layBest_257 : decode cX8_layBest 257 = .ok (.getfield 205, 3) := by decide +kernel
theorem dX8_layBest_260 : decode cX8_layBest 260 = .ok (.iload 4, 2) := by decide +kernel
theorem dX8_layBest_262 : decode cX8_layBest 262 = .ok (.sipush 1000, 3) := by decide +kernel
theorem dX8_layBest_265 : decode cX8_layBest 265 = .ok (.idiv, 1) := by decide +kernel
theorem dX8_layBest_266 : decode cX8_layBest 266 = .ok (.iastore, 1) := by decide +kernel
theorem dX8_layBest_267 : decode cX8_layBest 267 = .ok (.aload_n 0, 1) := by decide +kernel
theorem dX8_layBest_268 : decode cX8_layBest 268 = .ok (.dup, 1) := by decide +kernel
theorem dX8_layBest_269 : decode cX8_layBest 269 = .ok (.getfield 205, 3) := by decide +kernel
theorem dX8_layBest_272 : decode cX8_layBest 272 = .ok (.iconst 1, 1) := by decide +kernel
theorem dX8_layBest_273 : decode cX8_layBest 273 = .ok (.iadd, 1) := by decide +kernel
theorem dX8_layBest_274 : decode cX8_layBest 274 = .ok (.putfield 205, 3) := by decide +kernel
theorem dX8_layBest_277 : decode cX8_layBest 277 = .ok (.iload_n 1, 1) := by decide +kernel
theorem dX8_layBest_278 : decode cX8_layBest 278 = .ok (.iconst 1, 1) := by decide +kernel
theorem dX8_layBest_279 : decode cX8_layBest 279 = .ok (.iload_n 3, 1) := by decide +kernel
theorem dX8_layBest_280 : decode cX8_layBest 280 = .ok (.ishl, 1) := by decide +kernel
theorem dX8_layBest_281 : decode cX8_layBest 281 = .ok (.ior, 1) := by decide +kernel
theorem dX8_layBest_282 : decode cX8_layBest 282 = .ok (.istore_n 1, 1) := by decide +kernel
theorem dX8_layBest_283 : decode cX8_layBest 283 = .ok (.iload 4, 2) := by decide +kernel
theorem dX8_layBest_285 : decode cX8_layBest 285 = .ok (.istore_n 2, 1) := by decide +kernel
theorem dX8_layBest_286 : decode cX8_layBest 286 = .ok (.goto (-186), 3) := by decide +kernel
theorem dX8_layBest_289 : decode cX8_layBest 289 = .ok (.return_, 1) := by decide +kernel
set_option maxRecDepth 20000 in
theorem ggX8_best_X8_layBest : GoodIn wsX8_best wsX8_layBest := goodIn_r _ [8, 1, 9, 10, 11, 2, 12, 13, 3, 14, 15, 16, 17, 7, 18, 19, 20, 21, 22, 23, 24, 25, 26, 27, 28, 29, 30, 31, 32, 33, 34, 35, 36, 37, 38, 39, 40, 41, 42, 43, 44, 45, 46, 47, 48, 49, 50, 51, 52, 53, 54, 55, 56, 57, 58, 59, 60, 61, 62, 63, 64, 65, 66, 67, 68, 69, 70, 71, 72, 73, 74, 75, 76, 77, 78, 79, 80, 81, 82, 83, 84] (by decide +kernel) (by decide +kernel)
set_option maxRecDepth 20000 in
theorem gX8_best_X8_layBest : GoodIn wsX8_best (wsV RX8 208 RX8 yX8_layBest wsX8_layBest) := goodIn_app (goodIn_of _ (by decide +kernel)) ggX8_best_X8_layBest
set_option maxRecDepth 20000 in
theorem ggX8_best_X8_hopeOf : GoodIn wsX8_best wsX8_hopeOf := goodIn_r _ [34, 9, 30, 39, 40, 41, 42, 43, 44, 45, 46, 47, 48, 49, 50, 51, 52, 53, 54, 55, 56, 57, 58, 59, 60, 61, 62, 63, 64, 65, 66, 67, 68, 69, 70, 71, 72, 73, 74, 75, 76, 77, 78, 79, 80, 81, 82, 83, 84] (by decide +kernel) (by decide +kernel)
set_option maxRecDepth 20000 in
theorem gX8_best_X8_hopeOf : GoodIn wsX8_best (wsV RX8 199 RX8 yX8_hopeOf wsX8_hopeOf) := goodIn_app (goodIn_of _ (by decide +kernel)) ggX8_best_X8_hopeOf
set_option maxRecDepth 20000 in
theorem ggX8_best_X8_workOfSet : GoodIn wsX8_best wsX8_workOfSet := goodIn_r _ [38, 9, 26, 27, 28, 7, 29, 30, 39, 40, 41, 42, 43, 44, 45, 46, 47, 48, 49, 50, 51, 52, 53, 54, 55, 56, 57, 58, 59, 60, 61, 62, 63, 64, 65, 66, 67, 68, 69, 70, 71, 72, 73, 74, 75, 76, 77, 78, 79, 80, 81, 82, 83, 84] (by decide +kernel) (by decide +kernel)
set_option maxRecDepth 20000 in
theorem gX8_best_X8_workOfSet : GoodIn wsX8_best (wsV RX8 202 RX8 yX8_workOfSet wsX8_workOfSet) := goodIn_app (goodIn_of _ (by decide +kernel)) ggX8_best_X8_workOfSet
theorem dX8_best_0 : decode cX8_best 0 = .ok (.iload_n 1, 1) := by decide +kernel
theorem dX8_best_1 : decode cX8_best 1 = .ok (.bipush (-3), 2) := by decide +kernel
theorem dX8_best_3 : decode cX8_best 3 = .ok (.if_icmp .ge 6, 3) := by decide +kernel
theorem dX8_best_6 : decode cX8_best 6 = .ok (.bipush (-2), 2) := by decide +kernel
theorem dX8_best_8 : decode cX8_best 8 = .ok (.ireturn, 1) := by decide +kernel
theorem dX8_best_9 : decode cX8_best 9 = .ok (.aload_n 0, 1) := by decide +kernel
theorem dX8_best_10 : decode cX8_best 10 = .ok (.invokevirtual 208, 3) := by decide +kernel
theorem dX8_best_13 : decode cX8_best 13 = .ok (.iload_n 1, 1) := by decide +kernel
theorem dX8_best_14 : decode cX8_best 14 = .ok (.iconst (-1), 1) := by decide +kernel
theorem dX8_best_15 : decode cX8_best 15 = .ok (.if_icmp .ne 14, 3) := by decide +kernel
theorem dX8_best_18 : decode cX8_best 18 = .ok (.aload_n 0, 1) := by decide +kernel
theorem dX8_best_19 : decode cX8_best 19 = .ok (.aload_n 0, 1) := by decide +kernel
theorem dX8_best_20 : decode cX8_best 20 = .ok (.getfield 196, 3) := by decide +kernel
theorem dX8_best_23 : decode cX8_best 23 = .ok (.invokevirtual 199, 3) := by decide +kernel
theorem dX8_best_26 : decode cX8_best 26 = .ok (.goto 52, 3) := by decide +kernel
theorem dX8_best_29 : decode cX8_best 29 = .ok (.iload_n 1, 1) := by decide +kernel
theorem dX8_best_30 : decode cX8_best 30 = .ok (.bipush (-2), 2) := by decide +kernel
theorem dX8_best_32 : decode cX8_best 32 = .ok (.if_icmp .ne 14, 3) := by decide +kernel
theorem dX8_best_35 : decode cX8_best 35 = .ok (.aload_n 0, 1) := by decide +kernel
theorem dX8_best_36 : decode cX8_best 36 = .ok (.aload_n 0, 1) := by decide +kernel
theorem dX8_best_37 : decode cX8_best 37 = .ok (.getfield 196, 3) := by decide +kernel
theorem dX8_best_40 : decode cX8_best 40 = .ok (.invokevirtual 202, 3) := by decide +kernel
theorem dX8_best_43 : decode cX8_best 43 = .ok (.goto 35, 3) := by decide +kernel
theorem dX8_best_46 : decode cX8_best 46 = .ok (.iload_n 1, 1) := by decide +kernel
theorem dX8_best_47 : decode cX8_best 47 = .ok (.bipush (-3), 2) := by decide +kernel
theorem dX8_best_49 : decode cX8_best 49 = .ok (.if_icmp .ne 10, 3) := by decide +kernel
theorem dX8_best_52 : decode cX8_best 52 = .ok (.aload_n 0, 1) := by decide +kernel
theorem dX8_best_53 : decode cX8_best 53 = .ok (.getfield 205, 3) := by decide +kernel
theorem dX8_best_56 : decode cX8_best 56 = .ok (.goto 22, 3) := by decide +kernel
theorem dX8_best_59 : decode cX8_best 59 = .ok (.iload_n 1, 1) := by decide +kernel
theorem dX8_best_60 : decode cX8_best 60 = .ok (.aload_n 0, 1) := by decide +kernel
theorem dX8_best_61 : decode cX8_best 61 = .ok (.getfield 205, 3) := by decide +kernel
theorem dX8_best_64 : decode cX8_best 64 = .ok (.if_icmp .ge 12, 3) := by decide +kernel
theorem dX8_best_67 : decode cX8_best 67 = .ok (.aload_n 0, 1) := by decide +kernel
theorem dX8_best_68 : decode cX8_best 68 = .ok (.getfield 83, 3) := by decide +kernel
theorem dX8_best_71 : decode cX8_best 71 = .ok (.iload_n 1, 1) := by decide +kernel
theorem dX8_best_72 : decode cX8_best 72 = .ok (.iaload, 1) := by decide +kernel
theorem dX8_best_73 : decode cX8_best 73 = .ok (.goto 5, 3) := by decide +kernel
theorem dX8_best_76 : decode cX8_best 76 = .ok (.bipush (-6), 2) := by decide +kernel
theorem dX8_best_78 : decode cX8_best 78 = .ok (.ireturn, 1) := by decide +kernel
set_option maxRecDepth 20000 in
theorem ggX8_tideOf_X8_layBest : GoodIn wsX8_tideOf wsX8_layBest := goodIn_r _ [7, 8, 9, 10, 11, 1, 12, 13, 14, 2, 15, 16, 17, 6, 18, 19, 20, 21, 22, 23, 24, 25, 26, 27, 28, 29, 30, 31, 32, 33, 34, 35, 36, 37, 38, 42, 43, 44, 45, 46, 47, 48, 49, 50, 51, 52, 53, 54, 55, 56, 57, 58, 59, 60, 61, 62, 63, 64, 65, 66, 67, 68, 69, 70, 71, 72, 73, 74, 75, 76, 77, 78, 79, 80, 81, 82, 83, 84, 85, 86, 87] (by decide +kernel) (by decide +kernel)
set_option maxRecDepth 20000 in
theorem gX8_tideOf_X8_layBest : GoodIn wsX8_tideOf (wsV RX8 208 RX8 yX8_layBest wsX8_layBest) := goodIn_app (goodIn_of _ (by decide +kernel)) ggX8_tideOf_X8_layBest
set_option maxRecDepth 20000 in
theorem ggX8_tideOf_X8_in : GoodIn wsX8_tideOf wsX8_in := goodIn_r _ [41] (by decide +kernel) (by decide +kernel)
set_option maxRecDepth 20000 in
theorem gX8_tideOf_X8_in : GoodIn wsX8_tideOf (va_wsS RX8 102 yX8_in wsX8_in) := goodIn_app (goodIn_of _ (by decide +kernel)) ggX8_tideOf_X8_in
theorem dX8_tideOf_0 : decode cX8_tideOf 0 = .ok (.aload_n 0, 1) := by decide +kernel
theorem dX8_tideOf_1 : decode cX8_tideOf 1 = .ok (.invokevirtual 208, 3) := by decide +kernel
theorem dX8_tideOf_4 : decode cX8_tideOf 4 = .ok (.iload_n 1, 1) := by decide +kernel
theorem dX8_tideOf_5 : decode cX8_tideOf 5 = .ok (.iconst 0, 1) := by decide +kernel
theorem dX8_tideOf_6 : decode cX8_tideOf 6 = .ok (.aload_n 0, 1) := by decide +kernel
theorem dX8_tideOf_7 : decode cX8_tideOf 7 = .ok (.getfield 205, 3) := by decide +kernel
theorem dX8_tideOf_10 : decode cX8_tideOf 10 = .ok (.iconst 1, 1) := by decide +kernel
theorem dX8_tideOf_11 : decode cX8_tideOf 11 = .ok (.isub, 1) := by decide +kernel
theorem dX8_tideOf_12 : decode cX8_tideOf 12 = .ok (.invokestatic 102, 3) := by decide +kernel
theorem dX8_tideOf_15 : decode cX8_tideOf 15 = .ok (.ifCond .eq 12, 3) := by decide +kernel
theorem dX8_tideOf_18 : decode cX8_tideOf 18 = .ok (.aload_n 0, 1) := by decide +kernel
theorem dX8_tideOf_19 : decode cX8_tideOf 19 = .ok (.getfield 86, 3) := by decide +kernel
theorem dX8_tideOf_22 : decode cX8_tideOf 22 = .ok (.iload_n 1, 1) := by decide +kernel
theorem dX8_tideOf_23 : decode cX8_tideOf 23 = .ok (.iaload, 1) := by decide +kernel
theorem dX8_tideOf_24 : decode cX8_tideOf 24 = .ok (.goto 5, 3) := by decide +kernel
theorem dX8_tideOf_27 : decode cX8_tideOf 27 = .ok (.bipush (-6), 2) := by decide +kernel
theorem dX8_tideOf_29 : decode cX8_tideOf 29 = .ok (.ireturn, 1) := by decide +kernel
set_option maxRecDepth 20000 in
theorem ggX8_apart_X8_size : GoodIn wsX8_apart wsX8_size := goodIn_r _ [6] (by decide +kernel) (by decide +kernel)
set_option maxRecDepth 20000 in
theorem gX8_apart_X8_size : GoodIn wsX8_apart (va_wsS RX8 170 yX8_size wsX8_size) := goodIn_app (goodIn_of _ (by decide +kernel)) ggX8_apart_X8_size
theorem dX8_apart_0 : decode cX8_apart 0 = .ok (.aload_n 0, 1) := by decide +kernel
theorem dX8_apart_1 : decode cX8_apart 1 = .ok (.getfield 59, 3) := by decide +kernel
theorem dX8_apart_4 : decode cX8_apart 4 = .ok (.iload_n 1, 1) := by decide +kernel
theorem dX8_apart_5 : decode cX8_apart 5 = .ok (.iaload, 1) := by decide +kernel
theorem dX8_apart_6 : decode cX8_apart 6 = .ok (.iload_n 2, 1) := by decide +kernel
theorem dX8_apart_7 : decode cX8_apart 7 = .ok (.isub, 1) := by decide +kernel
theorem dX8_apart_8 : decode cX8_apart 8 = .ok (.invokestatic 170, 3) := by decide +kernel
theorem dX8_apart_11 : decode cX8_apart 11 = .ok (.aload_n 0, 1) := by decide +kernel
theorem dX8_apart_12 : decode cX8_apart 12 = .ok (.getfield 62, 3) := by decide +kernel
theorem dX8_apart_15 : decode cX8_apart 15 = .ok (.iload_n 1, 1) := by decide +kernel
theorem dX8_apart_16 : decode cX8_apart 16 = .ok (.iaload, 1) := by decide +kernel
theorem dX8_apart_17 : decode cX8_apart 17 = .ok (.iload_n 3, 1) := by decide +kernel
theorem dX8_apart_18 : decode cX8_apart 18 = .ok (.isub, 1) := by decide +kernel
theorem dX8_apart_19 : decode cX8_apart 19 = .ok (.invokestatic 170, 3) := by decide +kernel
theorem dX8_apart_22 : decode cX8_apart 22 = .ok (.iadd, 1) := by decide +kernel
theorem dX8_apart_23 : decode cX8_apart 23 = .ok (.ireturn, 1) := by decide +kernel
set_option maxRecDepth 20000 in
theorem ggX8_sign_X8_in : GoodIn wsX8_sign wsX8_in := goodIn_r _ [6] (by decide +kernel) (by decide +kernel)
set_option maxRecDepth 20000 in
theorem gX8_sign_X8_in : GoodIn wsX8_sign (va_wsS RX8 102 yX8_in wsX8_in) := goodIn_app (goodIn_of _ (by decide +kernel)) ggX8_sign_X8_in
theorem dX8_sign_0 : decode cX8_sign 0 = .ok (.iload_n 1, 1) := by decide +kernel
theorem dX8_sign_1 : decode cX8_sign 1 = .ok (.iconst 0, 1) := by decide +kernel
theorem dX8_sign_2 : decode cX8_sign 2 = .ok (.bipush 11, 2) := by decide +kernel
theorem dX8_sign_4 : decode cX8_sign 4 = .ok (.invokestatic 102, 3) := by decide +kernel
theorem dX8_sign_7 : decode cX8_sign 7 = .ok (.ifCond .ne 5, 3) := by decide +kernel
theorem dX8_sign_10 : decode cX8_sign 10 = .ok (.iconst (-1), 1) := by decide +kernel
theorem dX8_sign_11 : decode cX8_sign 11 = .ok (.ireturn, 1) := by decide +kernel
theorem dX8_sign_12 : decode cX8_sign 12 = .ok (.iload_n 2, 1) := by decide +kernel
theorem dX8_sign_13 : decode cX8_sign 13 = .ok (.ifCond .ne 11, 3) := by decide +kernel
theorem dX8_sign_16 : decode cX8_sign 16 = .ok (.iload_n 3, 1) := by decide +kernel
theorem dX8_sign_17 : decode cX8_sign 17 = .ok (.ifCond .ne 7, 3) := by decide +kernel
theorem dX8_sign_20 : decode cX8_sign 20 = .ok (.iconst 1, 1) := by decide +kernel
theorem dX8_sign_21 : decode cX8_sign 21 = .ok (.goto 4, 3) := by decide +kernel
theorem dX8_sign_24 : decode cX8_sign 24 = .ok (.iconst 0, 1) := by decide +kernel
theorem dX8_sign_25 : decode cX8_sign 25 = .ok (.istore 4, 2) := by decide +kernel
theorem dX8_sign_27 : decode cX8_sign 27 = .ok (.iload 4, 2) := by decide +kernel
theorem dX8_sign_29 : decode cX8_sign 29 = .ok (.ifCond .ne 26, 3) := by decide +kernel
theorem dX8_sign_32 : decode cX8_sign 32 = .ok (.iload_n 2, 1) := by decide +kernel
theorem dX8_sign_33 : decode cX8_sign 33 = .ok (.iconst 1, 1) := by decide +kernel
theorem dX8_sign_34 : decode cX8_sign 34 = .ok (.bipush 6, 2) := by decide +kernel
theorem dX8_sign_36 : decode cX8_sign 36 = .ok (.invokestatic 102, 3) := by decide +kernel
theorem dX8_sign_39 : decode cX8_sign 39 = .ok (.ifCond .eq 13, 3) := by decide +kernel
theorem dX8_sign_42 : decode cX8_sign 42 = .ok (.iload_n 3, 1) := by decide +kernel
theorem dX8_sign_43 : decode cX8_sign 43 = .ok (.iconst 1, 1) := by decide +kernel
theorem dX8_sign_44 : decode cX8_sign 44 = .ok (.bipush 6, 2) := by decide +kernel
theorem dX8_sign_46 : decode cX8_sign 46 = .ok (.invokestatic 102, 3) := by decide +kernel
theorem dX8_sign_49 : decode cX8_sign 49 = .ok (.ifCond .ne 6, 3) := by decide +kernel
