theorem dX8_sign_52 : decode cX8_sign 52 = .ok (.bipush (-2), 2) := by decide +kernel
theorem dX8_sign_54 : decode cX8_sign 54 = .ok (.ireturn, 1) := by decide +kernel
theorem dX8_sign_55 : decode cX8_sign 55 = .ok (.iconst 0, 1) := by decide +kernel
theorem dX8_sign_56 : decode cX8_sign 56 = .ok (.istore 5, 2) := by decide +kernel
theorem dX8_sign_58 : decode cX8_sign 58 = .ok (.iload 5, 2) := by decide +kernel
theorem dX8_sign_60 : decode cX8_sign 60 = .ok (.bipush 12, 2) := by decide +kernel
theorem dX8_sign_62 : decode cX8_sign 62 = .ok (.if_icmp .ge 45, 3) := by decide +kernel
theorem dX8_sign_65 : decode cX8_sign 65 = .ok (.iload 4, 2) := by decide +kernel
theorem dX8_sign_67 : decode cX8_sign 67 = .ok (.ifCond .ne 40, 3) := by decide +kernel
theorem dX8_sign_70 : decode cX8_sign 70 = .ok (.iload 5, 2) := by decide +kernel
theorem dX8_sign_72 : decode cX8_sign 72 = .ok (.iload_n 1, 1) := by decide +kernel
theorem dX8_sign_73 : decode cX8_sign 73 = .ok (.if_icmp .eq 28, 3) := by decide +kernel
theorem dX8_sign_76 : decode cX8_sign 76 = .ok (.aload_n 0, 1) := by decide +kernel
theorem dX8_sign_77 : decode cX8_sign 77 = .ok (.getfield 59, 3) := by decide +kernel
theorem dX8_sign_80 : decode cX8_sign 80 = .ok (.iload 5, 2) := by decide +kernel
theorem dX8_sign_82 : decode cX8_sign 82 = .ok (.iaload, 1) := by decide +kernel
theorem dX8_sign_83 : decode cX8_sign 83 = .ok (.iload_n 2, 1) := by decide +kernel
theorem dX8_sign_84 : decode cX8_sign 84 = .ok (.if_icmp .ne 17, 3) := by decide +kernel
theorem dX8_sign_87 : decode cX8_sign 87 = .ok (.aload_n 0, 1) := by decide +kernel
theorem dX8_sign_88 : decode cX8_sign 88 = .ok (.getfield 62, 3) := by decide +kernel
theorem dX8_sign_91 : decode cX8_sign 91 = .ok (.iload 5, 2) := by decide +kernel
theorem dX8_sign_93 : decode cX8_sign 93 = .ok (.iaload, 1) := by decide +kernel
theorem dX8_sign_94 : decode cX8_sign 94 = .ok (.iload_n 3, 1) := by decide +kernel
theorem dX8_sign_95 : decode cX8_sign 95 = .ok (.if_icmp .ne 6, 3) := by decide +kernel
theorem dX8_sign_98 : decode cX8_sign 98 = .ok (.bipush (-5), 2) := by decide +kernel
theorem dX8_sign_100 : decode cX8_sign 100 = .ok (.ireturn, 1) := by decide +kernel
theorem dX8_sign_101 : decode cX8_sign 101 = .ok (.iinc 5 1, 3) := by decide +kernel
theorem dX8_sign_104 : decode cX8_sign 104 = .ok (.goto (-46), 3) := by decide +kernel
theorem dX8_sign_107 : decode cX8_sign 107 = .ok (.aload_n 0, 1) := by decide +kernel
theorem dX8_sign_108 : decode cX8_sign 108 = .ok (.getfield 59, 3) := by decide +kernel
theorem dX8_sign_111 : decode cX8_sign 111 = .ok (.iload_n 1, 1) := by decide +kernel
theorem dX8_sign_112 : decode cX8_sign 112 = .ok (.iload_n 2, 1) := by decide +kernel
theorem dX8_sign_113 : decode cX8_sign 113 = .ok (.iastore, 1) := by decide +kernel
theorem dX8_sign_114 : decode cX8_sign 114 = .ok (.aload_n 0, 1) := by decide +kernel
theorem dX8_sign_115 : decode cX8_sign 115 = .ok (.getfield 62, 3) := by decide +kernel
theorem dX8_sign_118 : decode cX8_sign 118 = .ok (.iload_n 1, 1) := by decide +kernel
theorem dX8_sign_119 : decode cX8_sign 119 = .ok (.iload_n 3, 1) := by decide +kernel
theorem dX8_sign_120 : decode cX8_sign 120 = .ok (.iastore, 1) := by decide +kernel
theorem dX8_sign_121 : decode cX8_sign 121 = .ok (.iconst 1, 1) := by decide +kernel
theorem dX8_sign_122 : decode cX8_sign 122 = .ok (.ireturn, 1) := by decide +kernel
set_option maxRecDepth 20000 in
theorem ggX8_isHeard_X8_in : GoodIn wsX8_isHeard wsX8_in := goodIn_r _ [4] (by decide +kernel) (by decide +kernel)
set_option maxRecDepth 20000 in
theorem gX8_isHeard_X8_in : GoodIn wsX8_isHeard (va_wsS RX8 102 yX8_in wsX8_in) := goodIn_app (goodIn_of _ (by decide +kernel)) ggX8_isHeard_X8_in
theorem dX8_isHeard_0 : decode cX8_isHeard 0 = .ok (.iload_n 0, 1) := by decide +kernel
theorem dX8_isHeard_1 : decode cX8_isHeard 1 = .ok (.iconst 0, 1) := by decide +kernel
theorem dX8_isHeard_2 : decode cX8_isHeard 2 = .ok (.bipush 7, 2) := by decide +kernel
theorem dX8_isHeard_4 : decode cX8_isHeard 4 = .ok (.invokestatic 102, 3) := by decide +kernel
theorem dX8_isHeard_7 : decode cX8_isHeard 7 = .ok (.ireturn, 1) := by decide +kernel
set_option maxRecDepth 20000 in
theorem ggX8_heard_X8_isHeard : GoodIn wsX8_heard wsX8_isHeard := goodIn_r _ [5, 6, 7, 4, 8] (by decide +kernel) (by decide +kernel)
set_option maxRecDepth 20000 in
theorem gX8_heard_X8_isHeard : GoodIn wsX8_heard (va_wsS RX8 211 yX8_isHeard wsX8_isHeard) := goodIn_app (goodIn_of _ (by decide +kernel)) ggX8_heard_X8_isHeard
set_option maxRecDepth 20000 in
theorem ggX8_heard_X8_apart : GoodIn wsX8_heard wsX8_apart := goodIn_r _ [12, 1, 13, 14, 15, 4, 16, 17, 18, 19, 20, 21, 22, 23, 24, 25, 26, 27, 28, 29, 30, 31, 32, 33, 34, 35, 36, 37, 38, 39, 40, 41, 42, 43, 44, 45, 46, 47, 48, 49, 50, 51, 52, 53, 54, 55, 56, 57, 58, 59, 60, 61, 62] (by decide +kernel) (by decide +kernel)
set_option maxRecDepth 20000 in
theorem gX8_heard_X8_apart : GoodIn wsX8_heard (wsV RX8 214 RX8 yX8_apart wsX8_apart) := goodIn_app (goodIn_of _ (by decide +kernel)) ggX8_heard_X8_apart
theorem dX8_heard_0 : decode cX8_heard 0 = .ok (.iload_n 1, 1) := by decide +kernel
theorem dX8_heard_1 : decode cX8_heard 1 = .ok (.invokestatic 211, 3) := by decide +kernel
theorem dX8_heard_4 : decode cX8_heard 4 = .ok (.ifCond .eq 10, 3) := by decide +kernel
theorem dX8_heard_7 : decode cX8_heard 7 = .ok (.iload_n 2, 1) := by decide +kernel
theorem dX8_heard_8 : decode cX8_heard 8 = .ok (.invokestatic 211, 3) := by decide +kernel
theorem dX8_heard_11 : decode cX8_heard 11 = .ok (.ifCond .ne 6, 3) := by decide +kernel
theorem dX8_heard_14 : decode cX8_heard 14 = .ok (.bipush (-2), 2) := by decide +kernel
theorem dX8_heard_16 : decode cX8_heard 16 = .ok (.ireturn, 1) := by decide +kernel
theorem dX8_heard_17 : decode cX8_heard 17 = .ok (.iconst 0, 1) := by decide +kernel
theorem dX8_heard_18 : decode cX8_heard 18 = .ok (.istore_n 3, 1) := by decide +kernel
theorem dX8_heard_19 : decode cX8_heard 19 = .ok (.bipush (-6), 2) := by decide +kernel
theorem dX8_heard_21 : decode cX8_heard 21 = .ok (.istore 4, 2) := by decide +kernel
theorem dX8_heard_23 : decode cX8_heard 23 = .ok (.iconst 0, 1) := by decide +kernel
theorem dX8_heard_24 : decode cX8_heard 24 = .ok (.istore 5, 2) := by decide +kernel
theorem dX8_heard_26 : decode cX8_heard 26 = .ok (.iload 5, 2) := by decide +kernel
theorem dX8_heard_28 : decode cX8_heard 28 = .ok (.bipush 12, 2) := by decide +kernel
theorem dX8_heard_30 : decode cX8_heard 30 = .ok (.if_icmp .ge 66, 3) := by decide +kernel
theorem dX8_heard_33 : decode cX8_heard 33 = .ok (.aload_n 0, 1) := by decide +kernel
theorem dX8_heard_34 : decode cX8_heard 34 = .ok (.getfield 59, 3) := by decide +kernel
theorem dX8_heard_37 : decode cX8_heard 37 = .ok (.iload 5, 2) := by decide +kernel
theorem dX8_heard_39 : decode cX8_heard 39 = .ok (.iaload, 1) := by decide +kernel
theorem dX8_heard_40 : decode cX8_heard 40 = .ok (.ifCond .le 50, 3) := by decide +kernel
theorem dX8_heard_43 : decode cX8_heard 43 = .ok (.aload_n 0, 1) := by decide +kernel
theorem dX8_heard_44 : decode cX8_heard 44 = .ok (.iload 5, 2) := by decide +kernel
theorem dX8_heard_46 : decode cX8_heard 46 = .ok (.iload_n 1, 1) := by decide +kernel
theorem dX8_heard_47 : decode cX8_heard 47 = .ok (.iload_n 2, 1) := by decide +kernel
theorem dX8_heard_48 : decode cX8_heard 48 = .ok (.invokevirtual 214, 3) := by decide +kernel
theorem dX8_heard_51 : decode cX8_heard 51 = .ok (.istore 6, 2) := by decide +kernel
theorem dX8_heard_53 : decode cX8_heard 53 = .ok (.iload 6, 2) := by decide +kernel
theorem dX8_heard_55 : decode cX8_heard 55 = .ok (.ifCond .ne 6, 3) := by decide +kernel
theorem dX8_heard_58 : decode cX8_heard 58 = .ok (.iload 5, 2) := by decide +kernel
theorem dX8_heard_60 : decode cX8_heard 60 = .ok (.ireturn, 1) := by decide +kernel
theorem dX8_heard_61 : decode cX8_heard 61 = .ok (.iload_n 3, 1) := by decide +kernel
theorem dX8_heard_62 : decode cX8_heard 62 = .ok (.iload 6, 2) := by decide +kernel
theorem dX8_heard_64 : decode cX8_heard 64 = .ok (.iconst 1, 1) := by decide +kernel
theorem dX8_heard_65 : decode cX8_heard 65 = .ok (.if_icmp .ne 7, 3) := by decide +kernel
theorem dX8_heard_68 : decode cX8_heard 68 = .ok (.iconst 1, 1) := by decide +kernel
theorem dX8_heard_69 : decode cX8_heard 69 = .ok (.goto 4, 3) := by decide +kernel
theorem dX8_heard_72 : decode cX8_heard 72 = .ok (.iconst 0, 1) := by decide +kernel
theorem dX8_heard_73 : decode cX8_heard 73 = .ok (.iadd, 1) := by decide +kernel
theorem dX8_heard_74 : decode cX8_heard 74 = .ok (.istore_n 3, 1) := by decide +kernel
theorem dX8_heard_75 : decode cX8_heard 75 = .ok (.iload 6, 2) := by decide +kernel
theorem dX8_heard_77 : decode cX8_heard 77 = .ok (.iconst 1, 1) := by decide +kernel
theorem dX8_heard_78 : decode cX8_heard 78 = .ok (.if_icmp .ne 8, 3) := by decide +kernel
theorem dX8_heard_81 : decode cX8_heard 81 = .ok (.iload 5, 2) := by decide +kernel
theorem dX8_heard_83 : decode cX8_heard 83 = .ok (.goto 5, 3) := by decide +kernel
theorem dX8_heard_86 : decode cX8_heard 86 = .ok (.iload 4, 2) := by decide +kernel
theorem dX8_heard_88 : decode cX8_heard 88 = .ok (.istore 4, 2) := by decide +kernel
theorem dX8_heard_90 : decode cX8_heard 90 = .ok (.iinc 5 1, 3) := by decide +kernel
theorem dX8_heard_93 : decode cX8_heard 93 = .ok (.goto (-67), 3) := by decide +kernel
theorem dX8_heard_96 : decode cX8_heard 96 = .ok (.iload_n 3, 1) := by decide +kernel
theorem dX8_heard_97 : decode cX8_heard 97 = .ok (.iconst 1, 1) := by decide +kernel
theorem dX8_heard_98 : decode cX8_heard 98 = .ok (.if_icmp .ne 8, 3) := by decide +kernel
theorem dX8_heard_101 : decode cX8_heard 101 = .ok (.iload 4, 2) := by decide +kernel
theorem dX8_heard_103 : decode cX8_heard 103 = .ok (.goto 5, 3) := by decide +kernel
theorem dX8_heard_106 : decode cX8_heard 106 = .ok (.bipush (-6), 2) := by decide +kernel
theorem dX8_heard_108 : decode cX8_heard 108 = .ok (.ireturn, 1) := by decide +kernel
set_option maxRecDepth 20000 in
theorem ggX8_hear_X8_isHeard : GoodIn wsX8_hear wsX8_isHeard := goodIn_r _ [7, 8, 9, 6, 10] (by decide +kernel) (by decide +kernel)
set_option maxRecDepth 20000 in
theorem gX8_hear_X8_isHeard : GoodIn wsX8_hear (va_wsS RX8 211 yX8_isHeard wsX8_isHeard) := goodIn_app (goodIn_of _ (by decide +kernel)) ggX8_hear_X8_isHeard
theorem dX8_hear_0 : decode cX8_hear 0 = .ok (.iload_n 1, 1) := by decide +kernel
theorem dX8_hear_1 : decode cX8_hear 1 = .ok (.invokestatic 211, 3) := by decide +kernel
theorem dX8_hear_4 : decode cX8_hear 4 = .ok (.ifCond .eq 10, 3) := by decide +kernel
theorem dX8_hear_7 : decode cX8_hear 7 = .ok (.iload_n 2, 1) := by decide +kernel
theorem dX8_hear_8 : decode cX8_hear 8 = .ok (.invokestatic 211, 3) := by decide +kernel
theorem dX8_hear_11 : decode cX8_hear 11 = .ok (.ifCond .ne 6, 3) := by decide +kernel
theorem dX8_hear_14 : decode cX8_hear 14 = .ok (.bipush (-2), 2) := by decide +kernel
theorem dX8_hear_16 : decode cX8_hear 16 = .ok (.ireturn, 1) := by decide +kernel
theorem dX8_hear_17 : decode cX8_hear 17 = .ok (.aload_n 0, 1) := by decide +kernel
theorem dX8_hear_18 : decode cX8_hear 18 = .ok (.getfield 218, 3) := by decide +kernel
theorem dX8_hear_21 : decode cX8_hear 21 = .ok (.iconst 4, 1) := by decide +kernel
theorem dX8_hear_22 : decode cX8_hear 22 = .ok (.if_icmp .ne 6, 3) := by decide +kernel
theorem dX8_hear_25 : decode cX8_hear 25 = .ok (.bipush (-4), 2) := by decide +kernel
theorem dX8_hear_27 : decode cX8_hear 27 = .ok (.ireturn, 1) := by decide +kernel
theorem dX8_hear_28 : decode cX8_hear 28 = .ok (.aload_n 0, 1) := by decide +kernel
theorem dX8_hear_29 : decode cX8_hear 29 = .ok (.getfield 65, 3) := by decide +kernel
theorem dX8_hear_32 : decode cX8_hear 32 = .ok (.aload_n 0, 1) := by decide +kernel
theorem dX8_hear_33 : decode cX8_hear 33 = .ok (.getfield 218, 3) := by decide +kernel
theorem dX8_hear_36 : decode cX8_hear 36 = .ok (.iload_n 1, 1) := by decide +kernel
theorem dX8_hear_37 : decode cX8_hear 37 = .ok (.iastore, 1) := by decide +kernel
theorem dX8_hear_38 : decode cX8_hear 38 = .ok (.aload_n 0, 1) := by decide +kernel
theorem dX8_hear_39 : decode cX8_hear 39 = .ok (.getfield 68, 3) := by decide +kernel
theorem dX8_hear_42 : decode cX8_hear 42 = .ok (.aload_n 0, 1) := by decide +kernel
theorem dX8_hear_43 : decode cX8_hear 43 = .ok (.getfield 218, 3) := by decide +kernel
theorem dX8_hear_46 : decode cX8_hear 46 = .ok (.iload_n 2, 1) := by decide +kernel
theorem dX8_hear_47 : decode cX8_hear 47 = .ok (.iastore, 1) := by decide +kernel
theorem dX8_hear_48 : decode cX8_hear 48 = .ok (.aload_n 0, 1) := by decide +kernel
theorem dX8_hear_49 : decode cX8_hear 49 = .ok (.dup, 1) := by decide +kernel
theorem dX8_hear_50 : decode cX8_hear 50 = .ok (.getfield 218, 3) := by decide +kernel
theorem dX8_hear_53 : decode cX8_hear 53 = .ok (.iconst 1, 1) := by decide +kernel
theorem dX8_hear_54 : decode cX8_hear 54 = .ok (.iadd, 1) := by decide +kernel
theorem dX8_hear_55 : decode cX8_hear 55 = .ok (.putfield 218, 3) := by decide +kernel
theorem dX8_hear_58 : decode cX8_hear 58 = .ok (.aload_n 0, 1) := by decide +kernel
theorem dX8_hear_59 : decode cX8_hear 59 = .ok (.getfield 218, 3) := by decide +kernel
theorem dX8_hear_62 : decode cX8_hear 62 = .ok (.ireturn, 1) := by decide +kernel
set_option maxRecDepth 20000 in
theorem ggX8_tell_X8_apart : GoodIn wsX8_tell wsX8_apart := goodIn_r _ [10, 3, 11, 12, 13, 9, 14, 15, 16, 17, 18, 19, 20, 21, 22, 23, 24, 25, 26, 27, 28, 29, 30, 31, 32, 33, 34, 35, 36, 37, 38, 39, 40, 41, 42, 43, 44, 45, 46, 47, 48, 49, 50, 51, 52, 53, 54, 55, 56, 57, 58, 59, 60] (by decide +kernel) (by decide +kernel)
set_option maxRecDepth 20000 in
theorem gX8_tell_X8_apart : GoodIn wsX8_tell (wsV RX8 214 RX8 yX8_apart wsX8_apart) := goodIn_app (goodIn_of _ (by decide +kernel)) ggX8_tell_X8_apart
theorem dX8_tell_0 : decode cX8_tell 0 = .ok (.bipush (-6), 2) := by decide +kernel
theorem dX8_tell_2 : decode cX8_tell 2 = .ok (.istore_n 1, 1) := by decide +kernel
theorem dX8_tell_3 : decode cX8_tell 3 = .ok (.ldc 154, 2) := by decide +kernel
theorem dX8_tell_5 : decode cX8_tell 5 = .ok (.istore_n 2, 1) := by decide +kernel
theorem dX8_tell_6 : decode cX8_tell 6 = .ok (.iconst 0, 1) := by decide +kernel
theorem dX8_tell_7 : decode cX8_tell 7 = .ok (.istore_n 3, 1) := by decide +kernel
theorem dX8_tell_8 : decode cX8_tell 8 = .ok (.iload_n 3, 1) := by decide +kernel
theorem dX8_tell_9 : decode cX8_tell 9 = .ok (.bipush 12, 2) := by decide +kernel
theorem dX8_tell_11 : decode cX8_tell 11 = .ok (.if_icmp .ge 106, 3) := by decide +kernel
theorem dX8_tell_14 : decode cX8_tell 14 = .ok (.aload_n 0, 1) := by decide +kernel
theorem dX8_tell_15 : decode cX8_tell 15 = .ok (.getfield 218, 3) := by decide +kernel
theorem dX8_tell_18 : decode cX8_tell 18 = .ok (.ifCond .le 99, 3) := by decide +kernel
theorem dX8_tell_21 : decode cX8_tell 21 = .ok (.aload_n 0, 1) := by decide +kernel
theorem dX8_tell_22 : decode cX8_tell 22 = .ok (.getfield 59, 3) := by decide +kernel
theorem dX8_tell_25 : decode cX8_tell 25 = .ok (.iload_n 3, 1) := by decide +kernel
theorem dX8_tell_26 : decode cX8_tell 26 = .ok (.iaload, 1) := by decide +kernel
theorem dX8_tell_27 : decode cX8_tell 27 = .ok (.ifCond .le 84, 3) := by decide +kernel
theorem dX8_tell_30 : decode cX8_tell 30 = .ok (.iconst 0, 1) := by decide +kernel
theorem dX8_tell_31 : decode cX8_tell 31 = .ok (.istore 4, 2) := by decide +kernel
theorem dX8_tell_33 : decode cX8_tell 33 = .ok (.iconst 0, 1) := by decide +kernel
theorem dX8_tell_34 : decode cX8_tell 34 = .ok (.istore 5, 2) := by decide +kernel
theorem dX8_tell_36 : decode cX8_tell 36 = .ok (.iload 5, 2) := by decide +kernel
theorem dX8_tell_38 : decode cX8_tell 38 = .ok (.aload_n 0, 1) := by decide +kernel
theorem dX8_tell_39 : decode cX8_tell 39 = .ok (.getfield 218, 3) := by decide +kernel
theorem dX8_tell_42 : decode cX8_tell 42 = .ok (.if_icmp .ge 33, 3) := by decide +kernel
theorem dX8_tell_45 : decode cX8_tell 45 = .ok (.iload 4, 2) := by decide +kernel
theorem dX8_tell_47 : decode cX8_tell 47 = .ok (.aload_n 0, 1) := by decide +kernel
theorem dX8_tell_48 : decode cX8_tell 48 = .ok (.iload_n 3, 1) := by decide +kernel
theorem dX8_tell_49 : decode cX8_tell 49 = .ok (.aload_n 0, 1) := by decide +kernel
theorem dX8_tell_50 : decode cX8_tell 50 = .ok (.getfield 65, 3) := by decide +kernel
theorem dX8_tell_53 : decode cX8_tell 53 = .ok (.iload 5, 2) := by decide +kernel
theorem dX8_tell_55 : decode cX8_tell 55 = .ok (.iaload, 1) := by decide +kernel
theorem dX8_tell_56 : decode cX8_tell 56 = .ok (.aload_n 0, 1) := by decide +kernel
theorem dX8_tell_57 : decode cX8_tell 57 = .ok (.getfield 68, 3) := by decide +kernel
theorem dX8_tell_60 : decode cX8_tell 60 = .ok (.iload 5, 2) := by decide +kernel
theorem dX8_tell_62 : decode cX8_tell 62 = .ok (.iaload, 1) := by decide +kernel
theorem dX8_tell_63 : decode cX8_tell 63 = .ok (.invokevirtual 214, 3) := by decide +kernel
theorem dX8_tell_66 : decode cX8_tell 66 = .ok (.iadd, 1) := by decide +kernel
theorem dX8_tell_67 : decode cX8_tell 67 = .ok (.istore 4, 2) := by decide +kernel
theorem dX8_tell_69 : decode cX8_tell 69 = .ok (.iinc 5 1, 3) := by decide +kernel
theorem dX8_tell_72 : decode cX8_tell 72 = .ok (.goto (-36), 3) := by decide +kernel
theorem dX8_tell_75 : decode cX8_tell 75 = .ok (.iload 4, 2) := by decide +kernel
theorem dX8_tell_77 : decode cX8_tell 77 = .ok (.iload_n 2, 1) := by decide +kernel
theorem dX8_tell_78 : decode cX8_tell 78 = .ok (.if_icmp .ge 7, 3) := by decide +kernel
theorem dX8_tell_81 : decode cX8_tell 81 = .ok (.iload_n 3, 1) := by decide +kernel
theorem dX8_tell_82 : decode cX8_tell 82 = .ok (.goto 15, 3) := by decide +kernel
theorem dX8_tell_85 : decode cX8_tell 85 = .ok (.iload 4, 2) := by decide +kernel
theorem dX8_tell_87 : decode cX8_tell 87 = .ok (.iload_n 2, 1) := by decide +kernel
theorem dX8_tell_88 : decode cX8_tell 88 = .ok (.if_icmp .ne 8, 3) := by decide +kernel
theorem dX8_tell_91 : decode cX8_tell 91 = .ok (.bipush (-6), 2) := by decide +kernel
theorem dX8_tell_93 : decode cX8_tell 93 = .ok (.goto 4, 3) := by decide +kernel
theorem dX8_tell_96 : decode cX8_tell 96 = .ok (.iload_n 1, 1) := by decide +kernel
theorem dX8_tell_97 : decode cX8_tell 97 = .ok (.istore_n 1, 1) := by decide +kernel
theorem dX8_tell_98 : decode cX8_tell 98 = .ok (.iload 4, 2) := by decide +kernel
theorem dX8_tell_100 : decode cX8_tell 100 = .ok (.iload_n 2, 1) := by decide +kernel
theorem dX8_tell_101 : decode cX8_tell 101 = .ok (.if_icmp .ge 8, 3) := by decide +kernel
theorem dX8_tell_104 : decode cX8_tell 104 = .ok (.iload 4, 2) := by decide +kernel
theorem dX8_tell_106 : decode cX8_tell 106 = .ok (.goto 4, 3) := by decide +kernel
theorem dX8_tell_109 : decode cX8_tell 109 = .ok (.iload_n 2, 1) := by decide +kernel
theorem dX8_tell_110 : decode cX8_tell 110 = .ok (.istore_n 2, 1) := by decide +kernel
theorem dX8_tell_111 : decode cX8_tell 111 = .ok (.iinc 3 1, 3) := by decide +kernel
theorem dX8_tell_114 : decode cX8_tell 114 = .ok (.goto (-106), 3) := by decide +kernel
theorem dX8_tell_117 : decode cX8_tell 117 = .ok (.aload_n 0, 1) := by decide +kernel
theorem dX8_tell_118 : decode cX8_tell 118 = .ok (.iconst 0, 1) := by decide +kernel
theorem dX8_tell_119 : decode cX8_tell 119 = .ok (.putfield 218, 3) := by decide +kernel
theorem dX8_tell_122 : decode cX8_tell 122 = .ok (.iload_n 1, 1) := by decide +kernel
theorem dX8_tell_123 : decode cX8_tell 123 = .ok (.ireturn, 1) := by decide +kernel
set_option maxRecDepth 20000 in
theorem ggX8_tight_X8_apart : GoodIn wsX8_tight wsX8_apart := goodIn_r _ [7, 1, 2, 8, 9, 6, 10, 11, 12, 13, 14, 15, 16, 17, 18, 19, 20, 21, 22, 23, 24, 25, 26, 27, 28, 29, 30, 31, 32, 33, 34, 35, 36, 37, 38, 39, 40, 41, 42, 43, 44, 45, 46, 47, 48, 49, 50, 51, 52, 53, 54, 55, 56] (by decide +kernel) (by decide +kernel)
set_option maxRecDepth 20000 in
theorem gX8_tight_X8_apart : GoodIn wsX8_tight (wsV RX8 214 RX8 yX8_apart wsX8_apart) := goodIn_app (goodIn_of _ (by decide +kernel)) ggX8_tight_X8_apart
theorem dX8_tight_0 : decode cX8_tight 0 = .ok (.bipush (-6), 2) := by decide +kernel
theorem dX8_tight_2 : decode cX8_tight 2 = .ok (.istore_n 1, 1) := by decide +kernel
theorem dX8_tight_3 : decode cX8_tight 3 = .ok (.iconst 0, 1) := by decide +kernel
theorem dX8_tight_4 : decode cX8_tight 4 = .ok (.istore_n 2, 1) := by decide +kernel
theorem dX8_tight_5 : decode cX8_tight 5 = .ok (.iload_n 2, 1) := by decide +kernel
theorem dX8_tight_6 : decode cX8_tight 6 = .ok (.bipush 12, 2) := by decide +kernel
theorem dX8_tight_8 : decode cX8_tight 8 = .ok (.if_icmp .ge 76, 3) := by decide +kernel
theorem dX8_tight_11 : decode cX8_tight 11 = .ok (.iconst 0, 1) := by decide +kernel
theorem dX8_tight_12 : decode cX8_tight 12 = .ok (.istore_n 3, 1) := by decide +kernel
theorem dX8_tight_13 : decode cX8_tight 13 = .ok (.iload_n 3, 1) := by decide +kernel
theorem dX8_tight_14 : decode cX8_tight 14 = .ok (.iload_n 2, 1) := by decide +kernel
theorem dX8_tight_15 : decode cX8_tight 15 = .ok (.if_icmp .ge 63, 3) := by decide +kernel
theorem dX8_tight_18 : decode cX8_tight 18 = .ok (.aload_n 0, 1) := by decide +kernel
theorem dX8_tight_19 : decode cX8_tight 19 = .ok (.getfield 59, 3) := by decide +kernel
theorem dX8_tight_22 : decode cX8_tight 22 = .ok (.iload_n 2, 1) := by decide +kernel
theorem dX8_tight_23 : decode cX8_tight 23 = .ok (.iaload, 1) := by decide +kernel
theorem dX8_tight_24 : decode cX8_tight 24 = .ok (.ifCond .le 48, 3) := by decide +kernel
theorem dX8_tight_27 : decode cX8_tight 27 = .ok (.aload_n 0, 1) := by decide +kernel
theorem dX8_tight_28 : decode cX8_tight 28 = .ok (.getfield 59, 3) := by decide +kernel
theorem dX8_tight_31 : decode cX8_tight 31 = .ok (.iload_n 3, 1) := by decide +kernel
theorem dX8_tight_32 : decode cX8_tight 32 = .ok (.iaload, 1) := by decide +kernel
theorem dX8_tight_33 : decode cX8_tight 33 = .ok (.ifCond .le 39, 3) := by decide +kernel
theorem dX8_tight_36 : decode cX8_tight 36 = .ok (.aload_n 0, 1) := by decide +kernel
theorem dX8_tight_37 : decode cX8_tight 37 = .ok (.iload_n 2, 1) := by decide +kernel
theorem dX8_tight_38 : decode cX8_tight 38 = .ok (.aload_n 0, 1) := by decide +kernel
theorem dX8_tight_39 : decode cX8_tight 39 = .ok (.getfield 59, 3) := by decide +kernel
theorem dX8_tight_42 : decode cX8_tight 42 = .ok (.iload_n 3, 1) := by decide +kernel
theorem dX8_tight_43 : decode cX8_tight 43 = .ok (.iaload, 1) := by decide +kernel
theorem dX8_tight_44 : decode cX8_tight 44 = .ok (.aload_n 0, 1) := by decide +kernel
theorem dX8_tight_45 : decode cX8_tight 45 = .ok (.getfield 62, 3) := by decide +kernel
theorem dX8_tight_48 : decode cX8_tight 48 = .ok (.iload_n 3, 1) := by decide +kernel
theorem dX8_tight_49 : decode cX8_tight 49 = .ok (.iaload, 1) := by decide +kernel
theorem dX8_tight_50 : decode cX8_tight 50 = .ok (.invokevirtual 214, 3) := by decide +kernel
theorem dX8_tight_53 : decode cX8_tight 53 = .ok (.istore 4, 2) := by decide +kernel
theorem dX8_tight_55 : decode cX8_tight 55 = .ok (.iload_n 1, 1) := by decide +kernel
theorem dX8_tight_56 : decode cX8_tight 56 = .ok (.ifCond .lt 9, 3) := by decide +kernel
theorem dX8_tight_59 : decode cX8_tight 59 = .ok (.iload 4, 2) := by decide +kernel
theorem dX8_tight_61 : decode cX8_tight 61 = .ok (.iload_n 1, 1) := by decide +kernel
theorem dX8_tight_62 : decode cX8_tight 62 = .ok (.if_icmp .ge 8, 3) := by decide +kernel
theorem dX8_tight_65 : decode cX8_tight 65 = .ok (.iload 4, 2) := by decide +kernel
theorem dX8_tight_67 : decode cX8_tight 67 = .ok (.goto 4, 3) := by decide +kernel
theorem dX8_tight_70 : decode cX8_tight 70 = .ok (.iload_n 1, 1) := by decide +kernel
theorem dX8_tight_71 : decode cX8_tight 71 = .ok (.istore_n 1, 1) := by decide +kernel
theorem dX8_tight_72 : decode cX8_tight 72 = .ok (.iinc 3 1, 3) := by decide +kernel
theorem dX8_tight_75 : decode cX8_tight 75 = .ok (.goto (-62), 3) := by decide +kernel
theorem dX8_tight_78 : decode cX8_tight 78 = .ok (.iinc 2 1, 3) := by decide +kernel
theorem dX8_tight_81 : decode cX8_tight 81 = .ok (.goto (-76), 3) := by decide +kernel
theorem dX8_tight_84 : decode cX8_tight 84 = .ok (.iload_n 1, 1) := by decide +kernel
theorem dX8_tight_85 : decode cX8_tight 85 = .ok (.ireturn, 1) := by decide +kernel
set_option maxRecDepth 20000 in
theorem ggX8_free_X8_in : GoodIn wsX8_free wsX8_in := goodIn_r _ [5] (by decide +kernel) (by decide +kernel)
set_option maxRecDepth 20000 in
theorem gX8_free_X8_in : GoodIn wsX8_free (va_wsS RX8 102 yX8_in wsX8_in) := goodIn_app (goodIn_of _ (by decide +kernel)) ggX8_free_X8_in
set_option maxRecDepth 20000 in
theorem ggX8_free_X8_apart : GoodIn wsX8_free wsX8_apart := goodIn_r _ [9, 1, 10, 11, 12, 4, 13, 14, 15, 16, 17, 18, 19, 20, 21, 22, 23, 24, 25, 26, 27, 28, 29, 30, 31, 32, 33, 34, 35, 36, 37, 38, 39, 40, 41, 42, 43, 44, 45, 46, 47, 48, 49, 50, 51, 52, 53, 54, 55, 56, 57, 58, 59] (by decide +kernel) (by decide +kernel)
set_option maxRecDepth 20000 in
theorem gX8_free_X8_apart : GoodIn wsX8_free (wsV RX8 214 RX8 yX8_apart wsX8_apart) := goodIn_app (goodIn_of _ (by decide +kernel)) ggX8_free_X8_apart
theorem dX8_free_0 : decode cX8_free 0 = .ok (.iload_n 1, 1) := by decide +kernel
theorem dX8_free_1 : decode cX8_free 1 = .ok (.iconst 1, 1) := by decide +kernel
theorem dX8_free_2 : decode cX8_free 2 = .ok (.bipush 10, 2) := by decide +kernel
theorem dX8_free_4 : decode cX8_free 4 = .ok (.invokestatic 102, 3) := by decide +kernel
theorem dX8_free_7 : decode cX8_free 7 = .ok (.ifCond .ne 6, 3) := by decide +kernel
theorem dX8_free_10 : decode cX8_free 10 = .ok (.bipush (-2), 2) := by decide +kernel
theorem dX8_free_12 : decode cX8_free 12 = .ok (.ireturn, 1) := by decide +kernel
theorem dX8_free_13 : decode cX8_free 13 = .ok (.iconst 1, 1) := by decide +kernel
theorem dX8_free_14 : decode cX8_free 14 = .ok (.istore_n 2, 1) := by decide +kernel
theorem dX8_free_15 : decode cX8_free 15 = .ok (.iload_n 2, 1) := by decide +kernel
theorem dX8_free_16 : decode cX8_free 16 = .ok (.bipush 7, 2) := by decide +kernel
theorem dX8_free_18 : decode cX8_free 18 = .ok (.if_icmp .ge 88, 3) := by decide +kernel
theorem dX8_free_21 : decode cX8_free 21 = .ok (.iconst 1, 1) := by decide +kernel
theorem dX8_free_22 : decode cX8_free 22 = .ok (.istore_n 3, 1) := by decide +kernel
theorem dX8_free_23 : decode cX8_free 23 = .ok (.iload_n 3, 1) := by decide +kernel
theorem dX8_free_24 : decode cX8_free 24 = .ok (.bipush 7, 2) := by decide +kernel
theorem dX8_free_26 : decode cX8_free 26 = .ok (.if_icmp .ge 74, 3) := by decide +kernel
theorem dX8_free_29 : decode cX8_free 29 = .ok (.iconst 1, 1) := by decide +kernel
theorem dX8_free_30 : decode cX8_free 30 = .ok (.istore 4, 2) := by decide +kernel
theorem dX8_free_32 : decode cX8_free 32 = .ok (.iconst 0, 1) := by decide +kernel
theorem dX8_free_33 : decode cX8_free 33 = .ok (.istore 5, 2) := by decide +kernel
theorem dX8_free_35 : decode cX8_free 35 = .ok (.iload 5, 2) := by decide +kernel
theorem dX8_free_37 : decode cX8_free 37 = .ok (.bipush 12, 2) := by decide +kernel
theorem dX8_free_39 : decode cX8_free 39 = .ok (.if_icmp .ge 43, 3) := by decide +kernel
theorem dX8_free_42 : decode cX8_free 42 = .ok (.iload 4, 2) := by decide +kernel
theorem dX8_free_44 : decode cX8_free 44 = .ok (.ifCond .eq 29, 3) := by decide +kernel
theorem dX8_free_47 : decode cX8_free 47 = .ok (.aload_n 0, 1) := by decide +kernel
theorem dX8_free_48 : decode cX8_free 48 = .ok (.getfield 59, 3) := by decide +kernel
theorem dX8_free_51 : decode cX8_free 51 = .ok (.iload 5, 2) := by decide +kernel
theorem dX8_free_53 : decode cX8_free 53 = .ok (.iaload, 1) := by decide +kernel
theorem dX8_free_54 : decode cX8_free 54 = .ok (.ifCond .eq 15, 3) := by decide +kernel
theorem dX8_free_57 : decode cX8_free 57 = .ok (.aload_n 0, 1) := by decide +kernel
theorem dX8_free_58 : decode cX8_free 58 = .ok (.iload 5, 2) := by decide +kernel
theorem dX8_free_60 : decode cX8_free 60 = .ok (.iload_n 2, 1) := by decide +kernel
theorem dX8_free_61 : decode cX8_free 61 = .ok (.iload_n 3, 1) := by decide +kernel
theorem dX8_free_62 : decode cX8_free 62 = .ok (.invokevirtual 214, 3) := by decide +kernel
theorem dX8_free_65 : decode cX8_free 65 = .ok (.iload_n 1, 1) := by decide +kernel
theorem dX8_free_66 : decode cX8_free 66 = .ok (.if_icmp .lt 7, 3) := by decide +kernel
theorem dX8_free_69 : decode cX8_free 69 = .ok (.iconst 1, 1) := by decide +kernel
theorem dX8_free_70 : decode cX8_free 70 = .ok (.goto 4, 3) := by decide +kernel
theorem dX8_free_73 : decode cX8_free 73 = .ok (.iconst 0, 1) := by decide +kernel
theorem dX8_free_74 : decode cX8_free 74 = .ok (.istore 4, 2) := by decide +kernel
theorem dX8_free_76 : decode cX8_free 76 = .ok (.iinc 5 1, 3) := by decide +kernel
theorem dX8_free_79 : decode cX8_free 79 = .ok (.goto (-44), 3) := by decide +kernel
theorem dX8_free_82 : decode cX8_free 82 = .ok (.iload 4, 2) := by decide +kernel
theorem dX8_free_84 : decode cX8_free 84 = .ok (.ifCond .eq 10, 3) := by decide +kernel
theorem dX8_free_87 : decode cX8_free 87 = .ok (.bipush 10, 2) := by decide +kernel
theorem dX8_free_89 : decode cX8_free 89 = .ok (.iload_n 2, 1) := by decide +kernel
theorem dX8_free_90 : decode cX8_free 90 = .ok (.imul, 1) := by decide +kernel
theorem dX8_free_91 : decode cX8_free 91 = .ok (.iload_n 3, 1) := by decide +kernel
theorem dX8_free_92 : decode cX8_free 92 = .ok (.iadd, 1) := by decide +kernel
theorem dX8_free_93 : decode cX8_free 93 = .ok (.ireturn, 1) := by decide +kernel
theorem dX8_free_94 : decode cX8_free 94 = .ok (.iinc 3 1, 3) := by decide +kernel
theorem dX8_free_97 : decode cX8_free 97 = .ok (.goto (-74), 3) := by decide +kernel
theorem dX8_free_100 : decode cX8_free 100 = .ok (.iinc 2 1, 3) := by decide +kernel
theorem dX8_free_103 : decode cX8_free 103 = .ok (.goto (-88), 3) := by decide +kernel
theorem dX8_free_106 : decode cX8_free 106 = .ok (.bipush (-6), 2) := by decide +kernel
theorem dX8_free_108 : decode cX8_free 108 = .ok (.ireturn, 1) := by decide +kernel
set_option maxRecDepth 20000 in
theorem ggX8_entry_X8_isMan : GoodIn wsX8_entry wsX8_isMan := goodIn_r _ [8, 9, 10, 7, 11] (by decide +kernel) (by decide +kernel)
set_option maxRecDepth 20000 in
theorem gX8_entry_X8_isMan : GoodIn wsX8_entry (va_wsS RX8 161 yX8_isMan wsX8_isMan) := goodIn_app (goodIn_of _ (by decide +kernel)) ggX8_entry_X8_isMan
set_option maxRecDepth 20000 in
theorem ggX8_entry_X8_in : GoodIn wsX8_entry wsX8_in := goodIn_r _ [11] (by decide +kernel) (by decide +kernel)
set_option maxRecDepth 20000 in
theorem gX8_entry_X8_in : GoodIn wsX8_entry (va_wsS RX8 102 yX8_in wsX8_in) := goodIn_app (goodIn_of _ (by decide +kernel)) ggX8_entry_X8_in
theorem dX8_entry_0 : decode cX8_entry 0 = .ok (.iload_n 2, 1) := by decide +kernel
theorem dX8_entry_1 : decode cX8_entry 1 = .ok (.invokestatic 161, 3) := by decide +kernel
theorem dX8_entry_4 : decode cX8_entry 4 = .ok (.ifCond .ne 5, 3) := by decide +kernel
theorem dX8_entry_7 : decode cX8_entry 7 = .ok (.iconst (-1), 1) := by decide +kernel
theorem dX8_entry_8 : decode cX8_entry 8 = .ok (.ireturn, 1) := by decide +kernel
theorem dX8_entry_9 : decode cX8_entry 9 = .ok (.iload_n 1, 1) := by decide +kernel
theorem dX8_entry_10 : decode cX8_entry 10 = .ok (.iconst 0, 1) := by decide +kernel
theorem dX8_entry_11 : decode cX8_entry 11 = .ok (.sipush 1000, 3) := by decide +kernel
theorem dX8_entry_14 : decode cX8_entry 14 = .ok (.invokestatic 102, 3) := by decide +kernel
theorem dX8_entry_17 : decode cX8_entry 17 = .ok (.ifCond .eq 12, 3) := by decide +kernel
theorem dX8_entry_20 : decode cX8_entry 20 = .ok (.iload_n 3, 1) := by decide +kernel
theorem dX8_entry_21 : decode cX8_entry 21 = .ok (.iconst 0, 1) := by decide +kernel
theorem dX8_entry_22 : decode cX8_entry 22 = .ok (.iconst 2, 1) := by decide +kernel
theorem dX8_entry_23 : decode cX8_entry 23 = .ok (.invokestatic 102, 3) := by decide +kernel
theorem dX8_entry_26 : decode cX8_entry 26 = .ok (.ifCond .ne 6, 3) := by decide +kernel
theorem dX8_entry_29 : decode cX8_entry 29 = .ok (.bipush (-2), 2) := by decide +kernel
theorem dX8_entry_31 : decode cX8_entry 31 = .ok (.ireturn, 1) := by decide +kernel
theorem dX8_entry_32 : decode cX8_entry 32 = .ok (.aload_n 0, 1) := by decide +kernel
theorem dX8_entry_33 : decode cX8_entry 33 = .ok (.getfield 221, 3) := by decide +kernel
theorem dX8_entry_36 : decode cX8_entry 36 = .ok (.bipush 40, 2) := by decide +kernel
theorem dX8_entry_38 : decode cX8_entry 38 = .ok (.if_icmp .ne 6, 3) := by decide +kernel
theorem dX8_entry_41 : decode cX8_entry 41 = .ok (.bipush (-4), 2) := by decide +kernel
theorem dX8_entry_43 : decode cX8_entry 43 = .ok (.ireturn, 1) := by decide +kernel
theorem dX8_entry_44 : decode cX8_entry 44 = .ok (.iconst 0, 1) := by decide +kernel
theorem dX8_entry_45 : decode cX8_entry 45 = .ok (.istore 4, 2) := by decide +kernel
theorem dX8_entry_47 : decode cX8_entry 47 = .ok (.iload 4, 2) := by decide +kernel
theorem dX8_entry_49 : decode cX8_entry 49 = .ok (.aload_n 0, 1) := by decide +kernel
theorem dX8_entry_50 : decode cX8_entry 50 = .ok (.getfield 221, 3) := by decide +kernel
theorem dX8_entry_53 : decode cX8_entry 53 = .ok (.if_icmp .ge 45, 3) := by decide +kernel
theorem dX8_entry_56 : decode cX8_entry 56 = .ok (.aload_n 0, 1) := by decide +kernel
theorem dX8_entry_57 : decode cX8_entry 57 = .ok (.getfield 71, 3) := by decide +kernel
theorem dX8_entry_60 : decode cX8_entry 60 = .ok (.iload 4, 2) := by decide +kernel
theorem dX8_entry_62 : decode cX8_entry 62 = .ok (.iaload, 1) := by decide +kernel
theorem dX8_entry_63 : decode cX8_entry 63 = .ok (.iload_n 1, 1) := by decide +kernel
theorem dX8_entry_64 : decode cX8_entry 64 = .ok (.if_icmp .gt 25, 3) := by decide +kernel
theorem dX8_entry_67 : decode cX8_entry 67 = .ok (.aload_n 0, 1) := by decide +kernel
theorem dX8_entry_68 : decode cX8_entry 68 = .ok (.getfield 71, 3) := by decide +kernel
theorem dX8_entry_71 : decode cX8_entry 71 = .ok (.iload 4, 2) := by decide +kernel
theorem dX8_entry_73 : decode cX8_entry 73 = .ok (.iaload, 1) := by decide +kernel
theorem dX8_entry_74 : decode cX8_entry 74 = .ok (.iload_n 1, 1) := by decide +kernel
theorem dX8_entry_75 : decode cX8_entry 75 = .ok (.if_icmp .ne 17, 3) := by decide +kernel
theorem dX8_entry_78 : decode cX8_entry 78 = .ok (.aload_n 0, 1) := by decide +kernel
theorem dX8_entry_79 : decode cX8_entry 79 = .ok (.getfield 74, 3) := by decide +kernel
theorem dX8_entry_82 : decode cX8_entry 82 = .ok (.iload 4, 2) := by decide +kernel
theorem dX8_entry_84 : decode cX8_entry 84 = .ok (.iaload, 1) := by decide +kernel
theorem dX8_entry_85 : decode cX8_entry 85 = .ok (.iload_n 2, 1) := by decide +kernel
theorem dX8_entry_86 : decode cX8_entry 86 = .ok (.if_icmp .ne 6, 3) := by decide +kernel
theorem dX8_entry_89 : decode cX8_entry 89 = .ok (.bipush (-5), 2) := by decide +kernel
theorem dX8_entry_91 : decode cX8_entry 91 = .ok (.ireturn, 1) := by decide +kernel
theorem dX8_entry_92 : decode cX8_entry 92 = .ok (.iinc 4 1, 3) := by decide +kernel
theorem dX8_entry_95 : decode cX8_entry 95 = .ok (.goto (-48), 3) := by decide +kernel
theorem dX8_entry_98 : decode cX8_entry 98 = .ok (.aload_n 0, 1) := by decide +kernel
theorem dX8_entry_99 : decode cX8_entry 99 = .ok (.getfield 71, 3) := by decide +kernel
theorem dX8_entry_102 : decode cX8_entry 102 = .ok (.aload_n 0, 1) := by decide +kernel
theorem dX8_entry_103 : decode cX8_entry 103 = .ok (.getfield 221, 3) := by decide +kernel
theorem dX8_entry_106 : decode cX8_entry 106 = .ok (.iload_n 1, 1) := by decide +kernel
theorem dX8_entry_107 : decode cX8_entry 107 = .ok (.iastore, 1) := by decide +kernel
theorem dX8_entry_108 : decode cX8_entry 108 = .ok (.aload_n 0, 1) := by decide +kernel
theorem dX8_entry_109 : decode cX8_entry 109 = .ok (.getfield 74, 3) := by decide +kernel
theorem dX8_entry_112 : decode cX8_entry 112 = .ok (.aload_n 0, 1) := by decide +kernel
theorem dX8_entry_113 : decode cX8_entry 113 = .ok (.getfield 221, 3) := by decide +kernel
theorem dX8_entry_116 : decode cX8_entry 116 = .ok (.iload_n 2, 1) := by decide +kernel
theorem dX8_entry_117 : decode cX8_entry 117 = .ok (.iastore, 1) := by decide +kernel
theorem dX8_entry_118 : decode cX8_entry 118 = .ok (.aload_n 0, 1) := by decide +kernel
theorem dX8_entry_119 : decode cX8_entry 119 = .ok (.getfield 77, 3) := by decide +kernel
theorem dX8_entry_122 : decode cX8_entry 122 = .ok (.aload_n 0, 1) := by decide +kernel
theorem dX8_entry_123 : decode cX8_entry 123 = .ok (.getfield 221, 3) := by decide +kernel
theorem dX8_entry_126 : decode cX8_entry 126 = .ok (.iload_n 3, 1) := by decide +kernel
theorem dX8_entry_127 : decode cX8_entry 127 = .ok (.iastore, 1) := by decide +kernel
theorem dX8_entry_128 : decode cX8_entry 128 = .ok (.aload_n 0, 1) := by decide +kernel
theorem dX8_entry_129 : decode cX8_entry 129 = .ok (.dup, 1) := by decide +kernel
theorem dX8_entry_130 : decode cX8_entry 130 = .ok (.getfield 221, 3) := by decide +kernel
theorem dX8_entry_133 : decode cX8_entry 133 = .ok (.iconst 1, 1) := by decide +kernel
theorem dX8_entry_134 : decode cX8_entry 134 = .ok (.iadd, 1) := by decide +kernel
theorem dX8_entry_135 : decode cX8_entry 135 = .ok (.putfield 221, 3) := by decide +kernel
theorem dX8_entry_138 : decode cX8_entry 138 = .ok (.aload_n 0, 1) := by decide +kernel
theorem dX8_entry_139 : decode cX8_entry 139 = .ok (.getfield 221, 3) := by decide +kernel
theorem dX8_entry_142 : decode cX8_entry 142 = .ok (.iconst 1, 1) := by decide +kernel
theorem dX8_entry_143 : decode cX8_entry 143 = .ok (.isub, 1) := by decide +kernel
theorem dX8_entry_144 : decode cX8_entry 144 = .ok (.ireturn, 1) := by decide +kernel
theorem dX8_readLog_0 : decode cX8_readLog 0 = .ok (.aload_n 0, 1) := by decide +kernel
theorem dX8_readLog_1 : decode cX8_readLog 1 = .ok (.iconst 0, 1) := by decide +kernel
theorem dX8_readLog_2 : decode cX8_readLog 2 = .ok (.putfield 224, 3) := by decide +kernel
theorem dX8_readLog_5 : decode cX8_readLog 5 = .ok (.aload_n 0, 1) := by decide +kernel
theorem dX8_readLog_6 : decode cX8_readLog 6 = .ok (.iconst 0, 1) := by decide +kernel
theorem dX8_readLog_7 : decode cX8_readLog 7 = .ok (.putfield 227, 3) := by decide +kernel
theorem dX8_readLog_10 : decode cX8_readLog 10 = .ok (.aload_n 0, 1) := by decide +kernel
theorem dX8_readLog_11 : decode cX8_readLog 11 = .ok (.iconst 0, 1) := by decide +kernel
theorem dX8_readLog_12 : decode cX8_readLog 12 = .ok (.putfield 230, 3) := by decide +kernel
theorem dX8_readLog_15 : decode cX8_readLog 15 = .ok (.aload_n 0, 1) := by decide +kernel
theorem dX8_readLog_16 : decode cX8_readLog 16 = .ok (.iconst 0, 1) := by decide +kernel
theorem dX8_readLog_17 : decode cX8_readLog 17 = .ok (.putfield 233, 3) := by decide +kernel
theorem dX8_readLog_20 : decode cX8_readLog 20 = .ok (.iconst 0, 1) := by decide +kernel
theorem dX8_readLog_21 : decode cX8_readLog 21 = .ok (.istore_n 2, 1) := by decide +kernel
theorem dX8_readLog_22 : decode cX8_readLog 22 = .ok (.iconst 0, 1) := by decide +kernel
theorem dX8_readLog_23 : decode cX8_readLog 23 = .ok (.istore_n 3, 1) := by decide +kernel
theorem dX8_readLog_24 : decode cX8_readLog 24 = .ok (.iconst 0, 1) := by decide +kernel
theorem dX8_readLog_25 : decode cX8_readLog 25 = .ok (.istore 4, 2) := by decide +kernel
theorem dX8_readLog_27 : decode cX8_readLog 27 = .ok (.iload 4, 2) := by decide +kernel
theorem dX8_readLog_29 : decode cX8_readLog 29 = .ok (.sipush 1000, 3) := by decide +kernel
theorem dX8_readLog_32 : decode cX8_readLog 32 = .ok (.if_icmp .gt 311, 3) := by decide +kernel
theorem dX8_readLog_35 : decode cX8_readLog 35 = .ok (.bipush (-6), 2) := by decide +kernel
theorem dX8_readLog_37 : decode cX8_readLog 37 = .ok (.istore 5, 2) := by decide +kernel
theorem dX8_readLog_39 : decode cX8_readLog 39 = .ok (.bipush (-6), 2) := by decide +kernel
theorem dX8_readLog_41 : decode cX8_readLog 41 = .ok (.istore 6, 2) := by decide +kernel
theorem dX8_readLog_43 : decode cX8_readLog 43 = .ok (.bipush (-6), 2) := by decide +kernel
theorem dX8_readLog_45 : decode cX8_readLog 45 = .ok (.istore 7, 2) := by decide +kernel
theorem dX8_readLog_47 : decode cX8_readLog 47 = .ok (.iconst 0, 1) := by decide +kernel
theorem dX8_readLog_48 : decode cX8_readLog 48 = .ok (.istore 8, 2) := by decide +kernel
theorem dX8_readLog_50 : decode cX8_readLog 50 = .ok (.iload 8, 2) := by decide +kernel
theorem dX8_readLog_52 : decode cX8_readLog 52 = .ok (.aload_n 0, 1) := by decide +kernel
theorem dX8_readLog_53 : decode cX8_readLog 53 = .ok (.getfield 221, 3) := by decide +kernel
theorem dX8_readLog_56 : decode cX8_readLog 56 = .ok (.if_icmp .ge 103, 3) := by decide +kernel
theorem dX8_readLog_59 : decode cX8_readLog 59 = .ok (.aload_n 0, 1) := by decide +kernel
theorem dX8_readLog_60 : decode cX8_readLog 60 = .ok (.getfield 74, 3) := by decide +kernel
theorem dX8_readLog_63 : decode cX8_readLog 63 = .ok (.iload 8, 2) := by decide +kernel
theorem dX8_readLog_65 : decode cX8_readLog 65 = .ok (.iaload, 1) := by decide +kernel
theorem dX8_readLog_66 : decode cX8_readLog 66 = .ok (.iload_n 1, 1) := by decide +kernel
theorem dX8_readLog_67 : decode cX8_readLog 67 = .ok (.if_icmp .ne 86, 3) := by decide +kernel
theorem dX8_readLog_70 : decode cX8_readLog 70 = .ok (.aload_n 0, 1) := by decide +kernel
theorem dX8_readLog_71 : decode cX8_readLog 71 = .ok (.getfield 71, 3) := by decide +kernel
theorem dX8_readLog_74 : decode cX8_readLog 74 = .ok (.iload 8, 2) := by decide +kernel
theorem dX8_readLog_76 : decode cX8_readLog 76 = .ok (.iaload, 1) := by decide +kernel
theorem dX8_readLog_77 : decode cX8_readLog 77 = .ok (.iload 4, 2) := by decide +kernel
theorem dX8_readLog_79 : decode cX8_readLog 79 = .ok (.if_icmp .ne 13, 3) := by decide +kernel
theorem dX8_readLog_82 : decode cX8_readLog 82 = .ok (.aload_n 0, 1) := by decide +kernel
theorem dX8_readLog_83 : decode cX8_readLog 83 = .ok (.getfield 77, 3) := by decide +kernel
theorem dX8_readLog_86 : decode cX8_readLog 86 = .ok (.iload 8, 2) := by decide +kernel
theorem dX8_readLog_88 : decode cX8_readLog 88 = .ok (.iaload, 1) := by decide +kernel
theorem dX8_readLog_89 : decode cX8_readLog 89 = .ok (.goto 5, 3) := by decide +kernel
theorem dX8_readLog_92 : decode cX8_readLog 92 = .ok (.iload 5, 2) := by decide +kernel
theorem dX8_readLog_94 : decode cX8_readLog 94 = .ok (.istore 5, 2) := by decide +kernel
theorem dX8_readLog_96 : decode cX8_readLog 96 = .ok (.aload_n 0, 1) := by decide +kernel
theorem dX8_readLog_97 : decode cX8_readLog 97 = .ok (.getfield 71, 3) := by decide +kernel
theorem dX8_readLog_100 : decode cX8_readLog 100 = .ok (.iload 8, 2) := by decide +kernel
theorem dX8_readLog_102 : decode cX8_readLog 102 = .ok (.iaload, 1) := by decide +kernel
theorem dX8_readLog_103 : decode cX8_readLog 103 = .ok (.iload 4, 2) := by decide +kernel
theorem dX8_readLog_105 : decode cX8_readLog 105 = .ok (.if_icmp .ge 13, 3) := by decide +kernel
theorem dX8_readLog_108 : decode cX8_readLog 108 = .ok (.aload_n 0, 1) := by decide +kernel
theorem dX8_readLog_109 : decode cX8_readLog 109 = .ok (.getfield 77, 3) := by decide +kernel
theorem dX8_readLog_112 : decode cX8_readLog 112 = .ok (.iload 8, 2) := by decide +kernel
theorem dX8_readLog_114 : decode cX8_readLog 114 = .ok (.iaload, 1) := by decide +kernel
theorem dX8_readLog_115 : decode cX8_readLog 115 = .ok (.goto 5, 3) := by decide +kernel
theorem dX8_readLog_118 : decode cX8_readLog 118 = .ok (.iload 6, 2) := by decide +kernel
theorem dX8_readLog_120 : decode cX8_readLog 120 = .ok (.istore 6, 2) := by decide +kernel
theorem dX8_readLog_122 : decode cX8_readLog 122 = .ok (.iload 7, 2) := by decide +kernel
theorem dX8_readLog_124 : decode cX8_readLog 124 = .ok (.ifCond .ge 25, 3) := by decide +kernel
theorem dX8_readLog_127 : decode cX8_readLog 127 = .ok (.aload_n 0, 1) := by decide +kernel
theorem dX8_readLog_128 : decode cX8_readLog 128 = .ok (.getfield 71, 3) := by decide +kernel
theorem dX8_readLog_131 : decode cX8_readLog 131 = .ok (.iload 8, 2) := by decide +kernel
theorem dX8_readLog_133 : decode cX8_readLog 133 = .ok (.iaload, 1) := by decide +kernel
theorem dX8_readLog_134 : decode cX8_readLog 134 = .ok (.iload 4, 2) := by decide +kernel
theorem dX8_readLog_136 : decode cX8_readLog 136 = .ok (.if_icmp .le 13, 3) := by decide +kernel
theorem dX8_readLog_139 : decode cX8_readLog 139 = .ok (.aload_n 0, 1) := by decide +kernel
theorem dX8_readLog_140 : decode cX8_readLog 140 = .ok (.getfield 77, 3) := by decide +kernel
theorem dX8_readLog_143 : decode cX8_readLog 143 = .ok (.iload 8, 2) := by decide +kernel
theorem dX8_readLog_145 : decode cX8_readLog 145 = .ok (.iaload, 1) := by decide +kernel
theorem dX8_readLog_146 : decode cX8_readLog 146 = .ok (.goto 5, 3) := by decide +kernel
theorem dX8_readLog_149 : decode cX8_readLog 149 = .ok (.iload 7, 2) := by decide +kernel
theorem dX8_readLog_151 : decode cX8_readLog 151 = .ok (.istore 7, 2) := by decide +kernel
theorem dX8_readLog_153 : decode cX8_readLog 153 = .ok (.iinc 8 1, 3) := by decide +kernel
theorem dX8_readLog_156 : decode cX8_readLog 156 = .ok (.goto (-106), 3) := by decide +kernel
theorem dX8_readLog_159 : decode cX8_readLog 159 = .ok (.iload 5, 2) := by decide +kernel
theorem dX8_readLog_161 : decode cX8_readLog 161 = .ok (.ifCond .ge 17, 3) := by decide +kernel
theorem dX8_readLog_164 : decode cX8_readLog 164 = .ok (.iload 6, 2) := by decide +kernel
theorem dX8_readLog_166 : decode cX8_readLog 166 = .ok (.ifCond .lt 12, 3) := by decide +kernel
theorem dX8_readLog_169 : decode cX8_readLog 169 = .ok (.iload 7, 2) := by decide +kernel
theorem dX8_readLog_171 : decode cX8_readLog 171 = .ok (.ifCond .lt 7, 3) := by decide +kernel
theorem dX8_readLog_174 : decode cX8_readLog 174 = .ok (.iconst 1, 1) := by decide +kernel
theorem dX8_readLog_175 : decode cX8_readLog 175 = .ok (.goto 4, 3) := by decide +kernel
theorem dX8_readLog_178 : decode cX8_readLog 178 = .ok (.iconst 0, 1) := by decide +kernel
theorem dX8_readLog_179 : decode cX8_readLog 179 = .ok (.istore 8, 2) := by decide +kernel
theorem dX8_readLog_181 : decode cX8_readLog 181 = .ok (.iload 5, 2) := by decide +kernel
theorem dX8_readLog_183 : decode cX8_readLog 183 = .ok (.iconst 2, 1) := by decide +kernel
theorem dX8_readLog_184 : decode cX8_readLog 184 = .ok (.if_icmp .eq 20, 3) := by decide +kernel
theorem dX8_readLog_187 : decode cX8_readLog 187 = .ok (.iload 8, 2) := by decide +kernel
theorem dX8_readLog_189 : decode cX8_readLog 189 = .ok (.ifCond .eq 19, 3) := by decide +kernel
theorem dX8_readLog_192 : decode cX8_readLog 192 = .ok (.iload 6, 2) := by decide +kernel
theorem dX8_readLog_194 : decode cX8_readLog 194 = .ok (.iconst 2, 1) := by decide +kernel
theorem dX8_readLog_195 : decode cX8_readLog 195 = .ok (.if_icmp .ne 13, 3) := by decide +kernel
theorem dX8_readLog_198 : decode cX8_readLog 198 = .ok (.iload 7, 2) := by decide +kernel
theorem dX8_readLog_200 : decode cX8_readLog 200 = .ok (.iconst 2, 1) := by decide +kernel
theorem dX8_readLog_201 : decode cX8_readLog 201 = .ok (.if_icmp .ne 7, 3) := by decide +kernel
theorem dX8_readLog_204 : decode cX8_readLog 204 = .ok (.iconst 1, 1) := by decide +kernel
theorem dX8_readLog_205 : decode cX8_readLog 205 = .ok (.goto 4, 3) := by decide +kernel
theorem dX8_readLog_208 : decode cX8_readLog 208 = .ok (.iconst 0, 1) := by decide +kernel
theorem dX8_readLog_209 : decode cX8_readLog 209 = .ok (.istore 9, 2) := by decide +kernel
theorem dX8_readLog_211 : decode cX8_readLog 211 = .ok (.iload 8, 2) := by decide +kernel
theorem dX8_readLog_213 : decode cX8_readLog 213 = .ok (.ifCond .eq 12, 3) := by decide +kernel
theorem dX8_readLog_216 : decode cX8_readLog 216 = .ok (.iload 9, 2) := by decide +kernel
theorem dX8_readLog_218 : decode cX8_readLog 218 = .ok (.ifCond .ne 7, 3) := by decide +kernel
theorem dX8_readLog_221 : decode cX8_readLog 221 = .ok (.iconst 1, 1) := by decide +kernel
theorem dX8_readLog_222 : decode cX8_readLog 222 = .ok (.goto 4, 3) := by decide +kernel
theorem dX8_readLog_225 : decode cX8_readLog 225 = .ok (.iconst 0, 1) := by decide +kernel
theorem dX8_readLog_226 : decode cX8_readLog 226 = .ok (.istore 10, 2) := by decide +kernel
theorem dX8_readLog_228 : decode cX8_readLog 228 = .ok (.aload_n 0, 1) := by decide +kernel
theorem dX8_readLog_229 : decode cX8_readLog 229 = .ok (.dup, 1) := by decide +kernel
theorem dX8_readLog_230 : decode cX8_readLog 230 = .ok (.getfield 224, 3) := by decide +kernel
theorem dX8_readLog_233 : decode cX8_readLog 233 = .ok (.iload 9, 2) := by decide +kernel
theorem dX8_readLog_235 : decode cX8_readLog 235 = .ok (.ifCond .eq 7, 3) := by decide +kernel
theorem dX8_readLog_238 : decode cX8_readLog 238 = .ok (.iconst 1, 1) := by decide +kernel
theorem dX8_readLog_239 : decode cX8_readLog 239 = .ok (.goto 4, 3) := by decide +kernel
theorem dX8_readLog_242 : decode cX8_readLog 242 = .ok (.iconst 0, 1) := by decide +kernel
theorem dX8_readLog_243 : decode cX8_readLog 243 = .ok (.iadd, 1) := by decide +kernel
theorem dX8_readLog_244 : decode cX8_readLog 244 = .ok (.putfield 224, 3) := by decide +kernel
theorem dX8_readLog_247 : decode cX8_readLog 247 = .ok (.aload_n 0, 1) := by decide +kernel
theorem dX8_readLog_248 : decode cX8_readLog 248 = .ok (.dup, 1) := by decide +kernel
theorem dX8_readLog_249 : decode cX8_readLog 249 = .ok (.getfield 227, 3) := by decide +kernel
theorem dX8_readLog_252 : decode cX8_readLog 252 = .ok (.iload 10, 2) := by decide +kernel
theorem dX8_readLog_254 : decode cX8_readLog 254 = .ok (.ifCond .eq 7, 3) := by decide +kernel
theorem dX8_readLog_257 : decode cX8_readLog 257 = .ok (.iconst 1, 1) := by decide +kernel
theorem dX8_readLog_258 : decode cX8_readLog 258 = .ok (.goto 4, 3) := by decide +kernel
theorem dX8_readLog_261 : decode cX8_readLog 261 = .ok (.iconst 0, 1) := by decide +kernel
theorem dX8_readLog_262 : decode cX8_readLog 262 = .ok (.iadd, 1) := by decide +kernel
theorem dX8_readLog_263 : decode cX8_readLog 263 = .ok (.putfield 227, 3) := by decide +kernel
theorem dX8_readLog_266 : decode cX8_readLog 266 = .ok (.iload 9, 2) := by decide +kernel
theorem dX8_readLog_268 : decode cX8_readLog 268 = .ok (.ifCond .eq 9, 3) := by decide +kernel
theorem dX8_readLog_271 : decode cX8_readLog 271 = .ok (.iload_n 2, 1) := by decide +kernel
theorem dX8_readLog_272 : decode cX8_readLog 272 = .ok (.iconst 1, 1) := by decide +kernel
theorem dX8_readLog_273 : decode cX8_readLog 273 = .ok (.iadd, 1) := by decide +kernel
theorem dX8_readLog_274 : decode cX8_readLog 274 = .ok (.goto 4, 3) := by decide +kernel
theorem dX8_readLog_277 : decode cX8_readLog 277 = .ok (.iconst 0, 1) := by decide +kernel
theorem dX8_readLog_278 : decode cX8_readLog 278 = .ok (.istore_n 2, 1) := by decide +kernel
theorem dX8_readLog_279 : decode cX8_readLog 279 = .ok (.iload 9, 2) := by decide +kernel
theorem dX8_readLog_281 : decode cX8_readLog 281 = .ok (.ifCond .ne 8, 3) := by decide +kernel
theorem dX8_readLog_284 : decode cX8_readLog 284 = .ok (.iload 10, 2) := by decide +kernel
theorem dX8_readLog_286 : decode cX8_readLog 286 = .ok (.ifCond .eq 9, 3) := by decide +kernel
theorem dX8_readLog_289 : decode cX8_readLog 289 = .ok (.iload_n 3, 1) := by decide +kernel
theorem dX8_readLog_290 : decode cX8_readLog 290 = .ok (.iconst 1, 1) := by decide +kernel
theorem dX8_readLog_291 : decode cX8_readLog 291 = .ok (.iadd, 1) := by decide +kernel
theorem dX8_readLog_292 : decode cX8_readLog 292 = .ok (.goto 4, 3) := by decide +kernel
theorem dX8_readLog_295 : decode cX8_readLog 295 = .ok (.iconst 0, 1) := by decide +kernel
theorem dX8_readLog_296 : decode cX8_readLog 296 = .ok (.istore_n 3, 1) := by decide +kernel
theorem dX8_readLog_297 : decode cX8_readLog 297 = .ok (.aload_n 0, 1) := by decide +kernel
theorem dX8_readLog_298 : decode cX8_readLog 298 = .ok (.iload_n 2, 1) := by decide +kernel
theorem dX8_readLog_299 : decode cX8_readLog 299 = .ok (.aload_n 0, 1) := by decide +kernel
theorem dX8_readLog_300 : decode cX8_readLog 300 = .ok (.getfield 230, 3) := by decide +kernel
theorem dX8_readLog_303 : decode cX8_readLog 303 = .ok (.if_icmp .le 7, 3) := by decide +kernel
theorem dX8_readLog_306 : decode cX8_readLog 306 = .ok (.iload_n 2, 1) := by decide +kernel
theorem dX8_readLog_307 : decode cX8_readLog 307 = .ok (.goto 7, 3) := by decide +kernel
theorem dX8_readLog_310 : decode cX8_readLog 310 = .ok (.aload_n 0, 1) := by decide +kernel
theorem dX8_readLog_311 : decode cX8_readLog 311 = .ok (.getfield 230, 3) := by decide +kernel
theorem dX8_readLog_314 : decode cX8_readLog 314 = .ok (.putfield 230, 3) := by decide +kernel
theorem dX8_readLog_317 : decode cX8_readLog 317 = .ok (.aload_n 0, 1) := by decide +kernel
theorem dX8_readLog_318 : decode cX8_readLog 318 = .ok (.iload_n 3, 1) := by decide +kernel
theorem dX8_readLog_319 : decode cX8_readLog 319 = .ok (.aload_n 0, 1) := by decide +kernel
theorem dX8_readLog_320 : decode cX8_readLog 320 = .ok (.getfield 233, 3) := by decide +kernel
theorem dX8_readLog_323 : decode cX8_readLog 323 = .ok (.if_icmp .le 7, 3) := by decide +kernel
theorem dX8_readLog_326 : decode cX8_readLog 326 = .ok (.iload_n 3, 1) := by decide +kernel
theorem dX8_readLog_327 : decode cX8_readLog 327 = .ok (.goto 7, 3) := by decide +kernel
theorem dX8_readLog_330 : decode cX8_readLog 330 = .ok (.aload_n 0, 1) := by decide +kernel
theorem dX8_readLog_331 : decode cX8_readLog 331 = .ok (.getfield 233, 3) := by decide +kernel
theorem dX8_readLog_334 : decode cX8_readLog 334 = .ok (.putfield 233, 3) := by decide +kernel
theorem dX8_readLog_337 : decode cX8_readLog 337 = .ok (.iinc 4 1, 3) := by decide +kernel
theorem dX8_readLog_340 : decode cX8_readLog 340 = .ok (.goto (-313), 3) := by decide +kernel
theorem dX8_readLog_343 : decode cX8_readLog 343 = .ok (.return_, 1) := by decide +kernel
set_option maxRecDepth 20000 in
theorem ggX8_log_X8_isMan : GoodIn wsX8_log wsX8_isMan := goodIn_r _ [11, 12, 13, 10, 14] (by decide +kernel) (by decide +kernel)
set_option maxRecDepth 20000 in
theorem gX8_log_X8_isMan : GoodIn wsX8_log (va_wsS RX8 161 yX8_isMan wsX8_isMan) := goodIn_app (goodIn_of _ (by decide +kernel)) ggX8_log_X8_isMan
set_option maxRecDepth 20000 in
theorem ggX8_log_X8_readLog : GoodIn wsX8_log wsX8_readLog := goodIn_r _ [18, 6, 7, 3, 4, 1, 2, 19, 20, 21, 22, 23, 24, 25, 26, 27, 28, 29, 30, 31, 32, 33, 34, 35, 36, 37, 38, 39, 40, 41, 42, 43, 44, 45, 46, 47, 48, 49, 50, 51, 52, 53, 54, 55, 56, 57, 58, 59, 60, 61, 62, 63, 64, 65, 66] (by decide +kernel) (by decide +kernel)
set_option maxRecDepth 20000 in
theorem gX8_log_X8_readLog : GoodIn wsX8_log (wsV RX8 236 RX8 yX8_readLog wsX8_readLog) := goodIn_app (goodIn_of _ (by decide +kernel)) ggX8_log_X8_readLog
theorem dX8_log_0 : decode cX8_log 0 = .ok (.iload_n 1, 1) := by decide +kernel
theorem dX8_log_1 : decode cX8_log 1 = .ok (.invokestatic 161, 3) := by decide +kernel
theorem dX8_log_4 : decode cX8_log 4 = .ok (.ifCond .ne 5, 3) := by decide +kernel
theorem dX8_log_7 : decode cX8_log 7 = .ok (.iconst (-1), 1) := by decide +kernel
theorem dX8_log_8 : decode cX8_log 8 = .ok (.ireturn, 1) := by decide +kernel
theorem dX8_log_9 : decode cX8_log 9 = .ok (.aload_n 0, 1) := by decide +kernel
theorem dX8_log_10 : decode cX8_log 10 = .ok (.iload_n 1, 1) := by decide +kernel
theorem dX8_log_11 : decode cX8_log 11 = .ok (.invokevirtual 236, 3) := by decide +kernel
theorem dX8_log_14 : decode cX8_log 14 = .ok (.iload_n 2, 1) := by decide +kernel
theorem dX8_log_15 : decode cX8_log 15 = .ok (.tableswitch 130 0 5 #[37, 78, 83, 88, 120, 125], 37) := by decide +kernel
theorem dX8_log_52 : decode cX8_log 52 = .ok (.iconst 0, 1) := by decide +kernel
theorem dX8_log_53 : decode cX8_log 53 = .ok (.istore_n 3, 1) := by decide +kernel
theorem dX8_log_54 : decode cX8_log 54 = .ok (.iconst 0, 1) := by decide +kernel
theorem dX8_log_55 : decode cX8_log 55 = .ok (.istore 4, 2) := by decide +kernel
theorem dX8_log_57 : decode cX8_log 57 = .ok (.iload 4, 2) := by decide +kernel
theorem dX8_log_59 : decode cX8_log 59 = .ok (.aload_n 0, 1) := by decide +kernel
theorem dX8_log_60 : decode cX8_log 60 = .ok (.getfield 221, 3) := by decide +kernel
theorem dX8_log_63 : decode cX8_log 63 = .ok (.if_icmp .ge 28, 3) := by decide +kernel
theorem dX8_log_66 : decode cX8_log 66 = .ok (.iload_n 3, 1) := by decide +kernel
theorem dX8_log_67 : decode cX8_log 67 = .ok (.aload_n 0, 1) := by decide +kernel
theorem dX8_log_68 : decode cX8_log 68 = .ok (.getfield 74, 3) := by decide +kernel
theorem dX8_log_71 : decode cX8_log 71 = .ok (.iload 4, 2) := by decide +kernel
theorem dX8_log_73 : decode cX8_log 73 = .ok (.iaload, 1) := by decide +kernel
theorem dX8_log_74 : decode cX8_log 74 = .ok (.iload_n 1, 1) := by decide +kernel
theorem dX8_log_75 : decode cX8_log 75 = .ok (.if_icmp .ne 7, 3) := by decide +kernel
theorem dX8_log_78 : decode cX8_log 78 = .ok (.iconst 1, 1) := by decide +kernel
theorem dX8_log_79 : decode cX8_log 79 = .ok (.goto 4, 3) := by decide +kernel
theorem dX8_log_82 : decode cX8_log 82 = .ok (.iconst 0, 1) := by decide +kernel
theorem dX8_log_83 : decode cX8_log 83 = .ok (.iadd, 1) := by decide +kernel
theorem dX8_log_84 : decode cX8_log 84 = .ok (.istore_n 3, 1) := by decide +kernel
theorem dX8_log_85 : decode cX8_log 85 = .ok (.iinc 4 1, 3) := by decide +kernel
theorem dX8_log_88 : decode cX8_log 88 = .ok (.goto (-31), 3) := by decide +kernel
theorem dX8_log_91 : decode cX8_log 91 = .ok (.iload_n 3, 1) := by decide +kernel
theorem dX8_log_92 : decode cX8_log 92 = .ok (.ireturn, 1) := by decide +kernel
theorem dX8_log_93 : decode cX8_log 93 = .ok (.aload_n 0, 1) := by decide +kernel
theorem dX8_log_94 : decode cX8_log 94 = .ok (.getfield 230, 3) := by decide +kernel
theorem dX8_log_97 : decode cX8_log 97 = .ok (.ireturn, 1) := by decide +kernel
theorem dX8_log_98 : decode cX8_log 98 = .ok (.aload_n 0, 1) := by decide +kernel
theorem dX8_log_99 : decode cX8_log 99 = .ok (.getfield 233, 3) := by decide +kernel
theorem dX8_log_102 : decode cX8_log 102 = .ok (.ireturn, 1) := by decide +kernel
theorem dX8_log_103 : decode cX8_log 103 = .ok (.aload_n 0, 1) := by decide +kernel
theorem dX8_log_104 : decode cX8_log 104 = .ok (.getfield 230, 3) := by decide +kernel
theorem dX8_log_107 : decode cX8_log 107 = .ok (.aload_n 0, 1) := by decide +kernel
theorem dX8_log_108 : decode cX8_log 108 = .ok (.getfield 25, 3) := by decide +kernel
theorem dX8_log_111 : decode cX8_log 111 = .ok (.if_icmp .le 7, 3) := by decide +kernel
theorem dX8_log_114 : decode cX8_log 114 = .ok (.iconst 2, 1) := by decide +kernel
theorem dX8_log_115 : decode cX8_log 115 = .ok (.goto 19, 3) := by decide +kernel
theorem dX8_log_118 : decode cX8_log 118 = .ok (.aload_n 0, 1) := by decide +kernel
theorem dX8_log_119 : decode cX8_log 119 = .ok (.getfield 233, 3) := by decide +kernel
theorem dX8_log_122 : decode cX8_log 122 = .ok (.aload_n 0, 1) := by decide +kernel
theorem dX8_log_123 : decode cX8_log 123 = .ok (.getfield 25, 3) := by decide +kernel
theorem dX8_log_126 : decode cX8_log 126 = .ok (.if_icmp .le 7, 3) := by decide +kernel
theorem dX8_log_129 : decode cX8_log 129 = .ok (.iconst 1, 1) := by decide +kernel
theorem dX8_log_130 : decode cX8_log 130 = .ok (.goto 4, 3) := by decide +kernel
theorem dX8_log_133 : decode cX8_log 133 = .ok (.iconst 0, 1) := by decide +kernel
theorem dX8_log_134 : decode cX8_log 134 = .ok (.ireturn, 1) := by decide +kernel
theorem dX8_log_135 : decode cX8_log 135 = .ok (.aload_n 0, 1) := by decide +kernel
theorem dX8_log_136 : decode cX8_log 136 = .ok (.getfield 224, 3) := by decide +kernel
theorem dX8_log_139 : decode cX8_log 139 = .ok (.ireturn, 1) := by decide +kernel
theorem dX8_log_140 : decode cX8_log 140 = .ok (.aload_n 0, 1) := by decide +kernel
theorem dX8_log_141 : decode cX8_log 141 = .ok (.getfield 227, 3) := by decide +kernel
theorem dX8_log_144 : decode cX8_log 144 = .ok (.ireturn, 1) := by decide +kernel
theorem dX8_log_145 : decode cX8_log 145 = .ok (.bipush (-2), 2) := by decide +kernel
theorem dX8_log_147 : decode cX8_log 147 = .ok (.ireturn, 1) := by decide +kernel
theorem dX8_told_0 : decode cX8_told 0 = .ok (.iconst 0, 1) := by decide +kernel
theorem dX8_told_1 : decode cX8_told 1 = .ok (.istore_n 2, 1) := by decide +kernel
theorem dX8_told_2 : decode cX8_told 2 = .ok (.iload_n 1, 1) := by decide +kernel
theorem dX8_told_3 : decode cX8_told 3 = .ok (.tableswitch 166 0 9 #[53, 58, 63, 68, 73, 78, 83, 116, 121, 126], 53) := by decide +kernel
theorem dX8_told_56 : decode cX8_told 56 = .ok (.aload_n 0, 1) := by decide +kernel
theorem dX8_told_57 : decode cX8_told 57 = .ok (.getfield 151, 3) := by decide +kernel
theorem dX8_told_60 : decode cX8_told 60 = .ok (.ireturn, 1) := by decide +kernel
theorem dX8_told_61 : decode cX8_told 61 = .ok (.aload_n 0, 1) := by decide +kernel
theorem dX8_told_62 : decode cX8_told 62 = .ok (.getfield 28, 3) := by decide +kernel
theorem dX8_told_65 : decode cX8_told 65 = .ok (.ireturn, 1) := by decide +kernel
theorem dX8_told_66 : decode cX8_told 66 = .ok (.aload_n 0, 1) := by decide +kernel
theorem dX8_told_67 : decode cX8_told 67 = .ok (.getfield 89, 3) := by decide +kernel
theorem dX8_told_70 : decode cX8_told 70 = .ok (.ireturn, 1) := by decide +kernel
theorem dX8_told_71 : decode cX8_told 71 = .ok (.aload_n 0, 1) := by decide +kernel
theorem dX8_told_72 : decode cX8_told 72 = .ok (.getfield 173, 3) := by decide +kernel
theorem dX8_told_75 : decode cX8_told 75 = .ok (.ireturn, 1) := by decide +kernel
theorem dX8_told_76 : decode cX8_told 76 = .ok (.aload_n 0, 1) := by decide +kernel
theorem dX8_told_77 : decode cX8_told 77 = .ok (.getfield 138, 3) := by decide +kernel
theorem dX8_told_80 : decode cX8_told 80 = .ok (.ireturn, 1) := by decide +kernel
theorem dX8_told_81 : decode cX8_told 81 = .ok (.aload_n 0, 1) := by decide +kernel
theorem dX8_told_82 : decode cX8_told 82 = .ok (.getfield 182, 3) := by decide +kernel
theorem dX8_told_85 : decode cX8_told 85 = .ok (.ireturn, 1) := by decide +kernel
theorem dX8_told_86 : decode cX8_told 86 = .ok (.iconst 0, 1) := by decide +kernel
theorem dX8_told_87 : decode cX8_told 87 = .ok (.istore_n 3, 1) := by decide +kernel
theorem dX8_told_88 : decode cX8_told 88 = .ok (.iload_n 3, 1) := by decide +kernel
theorem dX8_told_89 : decode cX8_told 89 = .ok (.bipush 12, 2) := by decide +kernel
theorem dX8_told_91 : decode cX8_told 91 = .ok (.if_icmp .ge 26, 3) := by decide +kernel
theorem dX8_told_94 : decode cX8_told 94 = .ok (.iload_n 2, 1) := by decide +kernel
theorem dX8_told_95 : decode cX8_told 95 = .ok (.aload_n 0, 1) := by decide +kernel
theorem dX8_told_96 : decode cX8_told 96 = .ok (.getfield 59, 3) := by decide +kernel
theorem dX8_told_99 : decode cX8_told 99 = .ok (.iload_n 3, 1) := by decide +kernel
theorem dX8_told_100 : decode cX8_told 100 = .ok (.iaload, 1) := by decide +kernel
theorem dX8_told_101 : decode cX8_told 101 = .ok (.ifCond .le 7, 3) := by decide +kernel
theorem dX8_told_104 : decode cX8_told 104 = .ok (.iconst 1, 1) := by decide +kernel
theorem dX8_told_105 : decode cX8_told 105 = .ok (.goto 4, 3) := by decide +kernel
theorem dX8_told_108 : decode cX8_told 108 = .ok (.iconst 0, 1) := by decide +kernel
theorem dX8_told_109 : decode cX8_told 109 = .ok (.iadd, 1) := by decide +kernel
theorem dX8_told_110 : decode cX8_told 110 = .ok (.istore_n 2, 1) := by decide +kernel
theorem dX8_told_111 : decode cX8_told 111 = .ok (.iinc 3 1, 3) := by decide +kernel
theorem dX8_told_114 : decode cX8_told 114 = .ok (.goto (-26), 3) := by decide +kernel
theorem dX8_told_117 : decode cX8_told 117 = .ok (.iload_n 2, 1) := by decide +kernel
theorem dX8_told_118 : decode cX8_told 118 = .ok (.ireturn, 1) := by decide +kernel
theorem dX8_told_119 : decode cX8_told 119 = .ok (.aload_n 0, 1) := by decide +kernel
theorem dX8_told_120 : decode cX8_told 120 = .ok (.getfield 221, 3) := by decide +kernel
theorem dX8_told_123 : decode cX8_told 123 = .ok (.ireturn, 1) := by decide +kernel
theorem dX8_told_124 : decode cX8_told 124 = .ok (.aload_n 0, 1) := by decide +kernel
theorem dX8_told_125 : decode cX8_told 125 = .ok (.getfield 218, 3) := by decide +kernel
theorem dX8_told_128 : decode cX8_told 128 = .ok (.ireturn, 1) := by decide +kernel
theorem dX8_told_129 : decode cX8_told 129 = .ok (.iconst 0, 1) := by decide +kernel
theorem dX8_told_130 : decode cX8_told 130 = .ok (.istore_n 3, 1) := by decide +kernel
theorem dX8_told_131 : decode cX8_told 131 = .ok (.iload_n 3, 1) := by decide +kernel
theorem dX8_told_132 : decode cX8_told 132 = .ok (.aload_n 0, 1) := by decide +kernel
theorem dX8_told_133 : decode cX8_told 133 = .ok (.getfield 173, 3) := by decide +kernel
theorem dX8_told_136 : decode cX8_told 136 = .ok (.if_icmp .ge 31, 3) := by decide +kernel
theorem dX8_told_139 : decode cX8_told 139 = .ok (.iload_n 2, 1) := by decide +kernel
theorem dX8_told_140 : decode cX8_told 140 = .ok (.aload_n 0, 1) := by decide +kernel
theorem dX8_told_141 : decode cX8_told 141 = .ok (.getfield 138, 3) := by decide +kernel
theorem dX8_told_144 : decode cX8_told 144 = .ok (.iload_n 3, 1) := by decide +kernel
theorem dX8_told_145 : decode cX8_told 145 = .ok (.ishr, 1) := by decide +kernel
theorem dX8_told_146 : decode cX8_told 146 = .ok (.iconst 1, 1) := by decide +kernel
theorem dX8_told_147 : decode cX8_told 147 = .ok (.iand, 1) := by decide +kernel
theorem dX8_told_148 : decode cX8_told 148 = .ok (.aload_n 0, 1) := by decide +kernel
theorem dX8_told_149 : decode cX8_told 149 = .ok (.getfield 50, 3) := by decide +kernel
theorem dX8_told_152 : decode cX8_told 152 = .ok (.iconst 5, 1) := by decide +kernel
theorem dX8_told_153 : decode cX8_told 153 = .ok (.iload_n 3, 1) := by decide +kernel
theorem dX8_told_154 : decode cX8_told 154 = .ok (.imul, 1) := by decide +kernel
theorem dX8_told_155 : decode cX8_told 155 = .ok (.iconst 1, 1) := by decide +kernel
theorem dX8_told_156 : decode cX8_told 156 = .ok (.iadd, 1) := by decide +kernel
theorem dX8_told_157 : decode cX8_told 157 = .ok (.iaload, 1) := by decide +kernel
