set_option maxRecDepth 100000 in
theorem wl_r1 : GoodIn lw_tbl wsL_law_r1 := goodIn_p _ [54, 57] (by decide +kernel) (by decide +kernel)
set_option maxRecDepth 100000 in
theorem wl_r2 : GoodIn lw_tbl wsL_law_r2 := goodIn_p _ [62, 67] (by decide +kernel) (by decide +kernel)
set_option maxRecDepth 100000 in
theorem wl_r3 : GoodIn lw_tbl wsL_law_r3 := goodIn_p _ [121, 161] (by decide +kernel) (by decide +kernel)
set_option maxRecDepth 100000 in
theorem wl_r4 : GoodIn lw_tbl wsL_law_r4 := goodIn_p _ [167] (by decide +kernel) (by decide +kernel)
set_option maxRecDepth 100000 in
theorem wl_r5 : GoodIn lw_tbl wsL_law_r5 := goodIn_p _ [182, 266, 289] (by decide +kernel) (by decide +kernel)
set_option maxRecDepth 100000 in
theorem wl_r6 : GoodIn lw_tbl wsL_law_r6 := goodIn_p _ [822] (by decide +kernel) (by decide +kernel)
set_option maxRecDepth 100000 in
theorem wl_r7 : GoodIn lw_tbl wsL_law_r7 := goodIn_p _ [353, 356, 360] (by decide +kernel) (by decide +kernel)
set_option maxRecDepth 100000 in
theorem wl_r8 : GoodIn lw_tbl wsL_law_r8 := goodIn_p _ [966, 969, 973, 365, 369] (by decide +kernel) (by decide +kernel)
set_option maxRecDepth 100000 in
theorem wl_r9 : GoodIn lw_tbl wsL_law_r9 := goodIn_p _ [373, 384, 377, 381, 388, 391] (by decide +kernel) (by decide +kernel)
set_option maxRecDepth 100000 in
theorem wl_r10 : GoodIn lw_tbl wsL_law_r10 := goodIn_p _ [977, 981, 985, 989, 993, 395] (by decide +kernel) (by decide +kernel)
set_option maxRecDepth 100000 in
theorem wl_r11 : GoodIn lw_tbl wsL_law_r11 := goodIn_p _ [997, 401, 405, 1001, 410] (by decide +kernel) (by decide +kernel)
set_option maxRecDepth 100000 in
theorem wl_r12 : GoodIn lw_tbl wsL_law_r12 := goodIn_p _ [1005, 414, 1009, 418, 422] (by decide +kernel) (by decide +kernel)
set_option maxRecDepth 100000 in
theorem wl_r13 : GoodIn lw_tbl wsL_law_r13 := goodIn_p _ [426, 429, 433, 437, 441, 445] (by decide +kernel) (by decide +kernel)
set_option maxRecDepth 100000 in
theorem wl_r14 : GoodIn lw_tbl wsL_law_r14 := goodIn_p _ [449, 454, 458, 461, 465, 1013] (by decide +kernel) (by decide +kernel)
set_option maxRecDepth 100000 in
theorem wl_r15 : GoodIn lw_tbl wsL_law_r15 := goodIn_p _ [1017, 1021, 1025, 1029, 469] (by decide +kernel) (by decide +kernel)
set_option maxRecDepth 100000 in
theorem wl_r16 : GoodIn lw_tbl wsL_law_r16 := goodIn_p _ [473, 476, 480, 1033, 1037] (by decide +kernel) (by decide +kernel)
set_option maxRecDepth 100000 in
theorem wl_r17 : GoodIn lw_tbl wsL_law_r17 := goodIn_p _ [1041, 486, 490, 1046, 495] (by decide +kernel) (by decide +kernel)
set_option maxRecDepth 100000 in
theorem wl_r18 : GoodIn lw_tbl wsL_law_r18 := goodIn_p _ [498, 502, 1050, 1053, 506, 509] (by decide +kernel) (by decide +kernel)
set_option maxRecDepth 100000 in
theorem wl_r19 : GoodIn lw_tbl wsL_law_r19 := goodIn_p _ [512, 516, 519, 522, 526, 1057, 1060] (by decide +kernel) (by decide +kernel)
set_option maxRecDepth 100000 in
theorem wl_r20 : GoodIn lw_tbl wsL_law_r20 := goodIn_p _ [1063, 1066, 530, 1070, 535, 1074] (by decide +kernel) (by decide +kernel)
set_option maxRecDepth 100000 in
theorem wl_r21 : GoodIn lw_tbl wsL_law_r21 := goodIn_p _ [539, 1078, 543, 1082, 547, 551] (by decide +kernel) (by decide +kernel)
set_option maxRecDepth 100000 in
theorem wl_r22 : GoodIn lw_tbl wsL_law_r22 := goodIn_p _ [1086, 555, 559, 564, 1090] (by decide +kernel) (by decide +kernel)
set_option maxRecDepth 100000 in
theorem wl_r23 : GoodIn lw_tbl wsL_law_r23 := goodIn_p _ [1094, 1098, 568, 572, 1102, 576] (by decide +kernel) (by decide +kernel)
set_option maxRecDepth 100000 in
theorem wl_r24 : GoodIn lw_tbl wsL_law_r24 := goodIn_p _ [1106, 580, 1110, 585] (by decide +kernel) (by decide +kernel)
set_option maxRecDepth 100000 in
theorem wl_r25 : GoodIn lw_tbl wsL_law_r25 := goodIn_p _ [589, 593, 1114, 597, 601] (by decide +kernel) (by decide +kernel)
set_option maxRecDepth 100000 in
theorem wl_r26 : GoodIn lw_tbl wsL_law_r26 := goodIn_p _ [1118, 605, 609, 613, 617] (by decide +kernel) (by decide +kernel)
set_option maxRecDepth 100000 in
theorem wl_r27 : GoodIn lw_tbl wsL_law_r27 := goodIn_p _ [621, 624, 628, 631, 636] (by decide +kernel) (by decide +kernel)
set_option maxRecDepth 100000 in
theorem wl_r28 : GoodIn lw_tbl wsL_law_r28 := goodIn_p _ [640, 643, 648, 652, 655, 658] (by decide +kernel) (by decide +kernel)
set_option maxRecDepth 100000 in
theorem wl_r29 : GoodIn lw_tbl wsL_law_r29 := goodIn_p _ [662, 666, 670, 1122, 1126, 1130] (by decide +kernel) (by decide +kernel)
set_option maxRecDepth 100000 in
theorem wl_r30 : GoodIn lw_tbl wsL_law_r30 := goodIn_p _ [1134, 1138, 1142, 1146, 675] (by decide +kernel) (by decide +kernel)
set_option maxRecDepth 100000 in
theorem wl_r31 : GoodIn lw_tbl wsL_law_r31 := goodIn_p _ [1150, 679, 683, 686, 691, 695, 699] (by decide +kernel) (by decide +kernel)
set_option maxRecDepth 100000 in
theorem wl_r32 : GoodIn lw_tbl wsL_law_r32 := goodIn_p _ [1154, 704, 707, 711, 1158, 1161] (by decide +kernel) (by decide +kernel)
set_option maxRecDepth 100000 in
theorem wl_r33 : GoodIn lw_tbl wsL_law_r33 := goodIn_p _ [1165, 715, 719, 1169, 723, 727] (by decide +kernel) (by decide +kernel)
set_option maxRecDepth 100000 in
theorem wl_r34 : GoodIn lw_tbl wsL_law_r34 := goodIn_p _ [731, 1173, 735, 739, 743] (by decide +kernel) (by decide +kernel)
set_option maxRecDepth 100000 in
theorem wl_r35 : GoodIn lw_tbl wsL_law_r35 := goodIn_p _ [1177, 748, 752, 756, 1181, 760] (by decide +kernel) (by decide +kernel)
set_option maxRecDepth 100000 in
theorem wl_r36 : GoodIn lw_tbl wsL_law_r36 := goodIn_p _ [764, 768, 1185, 772, 776] (by decide +kernel) (by decide +kernel)
set_option maxRecDepth 100000 in
theorem wl_r37 : GoodIn lw_tbl wsL_law_r37 := goodIn_p _ [780, 784, 788, 793] (by decide +kernel) (by decide +kernel)
set_option maxRecDepth 100000 in
theorem wl_r38 : GoodIn lw_tbl wsL_law_r38 := goodIn_p _ [797, 801, 805, 1189, 1193] (by decide +kernel) (by decide +kernel)
set_option maxRecDepth 100000 in
theorem wl_r39 : GoodIn lw_tbl wsL_law_r39 := goodIn_p _ [809, 813, 817, 1197] (by decide +kernel) (by decide +kernel)
set_option maxRecDepth 100000 in
theorem wl_x0 : GoodIn lw_tbl wsX00 := goodIn_p _ [] (by decide +kernel) (by decide +kernel)
set_option maxRecDepth 100000 in
theorem wl_x1 : GoodIn lw_tbl wsX10 := goodIn_p _ [] (by decide +kernel) (by decide +kernel)
set_option maxRecDepth 100000 in
theorem wl_x2 : GoodIn lw_tbl wsX20 := goodIn_p _ [] (by decide +kernel) (by decide +kernel)
set_option maxRecDepth 100000 in
theorem wl_x3 : GoodIn lw_tbl wsX30 := goodIn_p _ [] (by decide +kernel) (by decide +kernel)
set_option maxRecDepth 100000 in
theorem wl_x4 : GoodIn lw_tbl wsX40 := goodIn_p _ [] (by decide +kernel) (by decide +kernel)
set_option maxRecDepth 100000 in
theorem wl_x5 : GoodIn lw_tbl wsX50 := goodIn_p _ [] (by decide +kernel) (by decide +kernel)
set_option maxRecDepth 100000 in
theorem wl_x6 : GoodIn lw_tbl wsX60 := goodIn_p _ [] (by decide +kernel) (by decide +kernel)
set_option maxRecDepth 100000 in
theorem wl_x7 : GoodIn lw_tbl wsX70 := goodIn_p _ [] (by decide +kernel) (by decide +kernel)
set_option maxRecDepth 100000 in
theorem wl_x8 : GoodIn lw_tbl wsX80 := goodIn_p _ [] (by decide +kernel) (by decide +kernel)
theorem wsL_law_in : ∀ w ∈ wsL_law, w ∈ lw_tbl := fun w h => ((goodIn_app (goodIn_app (goodIn_app (goodIn_app (goodIn_app (goodIn_app (goodIn_app (goodIn_app (goodIn_app (goodIn_app (goodIn_app wl_r1 (goodIn_app wl_r2 (goodIn_app wl_r3 (goodIn_app wl_r4 (goodIn_app wl_r5 (goodIn_app wl_r6 (goodIn_app wl_r7 (goodIn_app wl_r8 (goodIn_app wl_r9 (goodIn_app wl_r10 (goodIn_app wl_r11 (goodIn_app wl_r12 (goodIn_app wl_r13 (goodIn_app wl_r14 (goodIn_app wl_r15 (goodIn_app wl_r16 (goodIn_app wl_r17 (goodIn_app wl_r18 (goodIn_app wl_r19 (goodIn_app wl_r20 (goodIn_app wl_r21 (goodIn_app wl_r22 (goodIn_app wl_r23 (goodIn_app wl_r24 (goodIn_app wl_r25 (goodIn_app wl_r26 (goodIn_app wl_r27 (goodIn_app wl_r28 (goodIn_app wl_r29 (goodIn_app wl_r30 (goodIn_app wl_r31 (goodIn_app wl_r32 (goodIn_app wl_r33 (goodIn_app wl_r34 (goodIn_app wl_r35 (goodIn_app wl_r36 (goodIn_app wl_r37 (goodIn_app wl_r38 (wl_r39))))))))))))))))))))))))))))))))))))))) wl_x7) wl_x8) wl_x0) wl_x2) wl_x6) wl_x3) wl_x1) wl_x5) wl_x4) (fun _ h => absurd h List.not_mem_nil) : GoodIn lw_tbl wsL_law) w h).1
