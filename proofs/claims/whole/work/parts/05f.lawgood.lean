set_option maxRecDepth 20000 in
theorem ggL_law_X7_tangle : GoodIn wsL_law wsX7_tangle := goodIn_r _ [538, 23, 539, 313, 314, 315, 22, 316, 84, 158, 2, 159, 518, 325, 326, 540, 541, 542, 543, 86, 87, 928, 929, 930, 931, 932, 933, 1000, 1001, 1002, 1003, 1004, 1005, 1006, 1007, 1008, 1009, 1010, 1011] (by decide +kernel) (by decide +kernel)
set_option maxRecDepth 20000 in
theorem gL_law_X7_tangle : GoodIn wsL_law (wsV RL 88 RX7 yX7_tangle wsX7_tangle) := goodIn_app (goodIn_of _ (by decide +kernel)) ggL_law_X7_tangle
set_option maxRecDepth 20000 in
theorem ggL_law_X8_tangle : GoodIn wsL_law wsX8_tangle := goodIn_r _ [547, 349, 527, 528, 529, 5, 530, 508, 176, 177, 178, 934, 935, 936, 937, 938, 939, 940, 941, 942, 943, 944, 945, 946, 947, 948, 949, 950, 951, 952, 953, 954, 955, 956, 957, 958, 959, 960, 961, 962, 963, 964, 965, 966, 967, 968, 969, 970, 971, 972, 973, 974, 975, 976, 977, 978, 979] (by decide +kernel) (by decide +kernel)
set_option maxRecDepth 20000 in
theorem gL_law_X8_tangle : GoodIn wsL_law (wsV RL 91 RX8 yX8_tangle wsX8_tangle) := goodIn_app (goodIn_of _ (by decide +kernel)) ggL_law_X8_tangle
set_option maxRecDepth 20000 in
theorem ggL_law_X7_work : GoodIn wsL_law wsX7_work := goodIn_r _ [551, 23, 19, 310, 406, 407, 2, 408, 157, 158, 159, 313, 314, 315, 22, 316, 84, 928, 929, 930, 931, 932, 933, 992, 993, 994, 995, 996, 997, 998, 999, 1000, 1001, 1002, 1003, 1004, 1005, 1006, 1007, 1008, 1009, 1010, 1011] (by decide +kernel) (by decide +kernel)
set_option maxRecDepth 20000 in
theorem gL_law_X7_work : GoodIn wsL_law (wsV RL 92 RX7 yX7_work wsX7_work) := goodIn_app (goodIn_of _ (by decide +kernel)) ggL_law_X7_work
set_option maxRecDepth 20000 in
theorem ggL_law_X8_work : GoodIn wsL_law wsX8_work := goodIn_r _ [555, 136, 417, 418, 5, 419, 176, 177, 178, 527, 528, 529, 530, 508, 934, 935, 936, 937, 938, 939, 940, 941, 942, 943, 944, 945, 946, 947, 948, 949, 950, 951, 952, 953, 954, 955, 956, 957, 958, 959, 960, 961, 962, 963, 964, 965, 966, 967, 968, 969, 970, 971, 972, 973, 974, 975, 976, 977, 978, 979] (by decide +kernel) (by decide +kernel)
set_option maxRecDepth 20000 in
theorem gL_law_X8_work : GoodIn wsL_law (wsV RL 95 RX8 yX8_work wsX8_work) := goodIn_app (goodIn_of _ (by decide +kernel)) ggL_law_X8_work
set_option maxRecDepth 20000 in
theorem ggL_law_X7_ofThing : GoodIn wsL_law wsX7_ofThing := goodIn_r _ [559, 23, 311, 560, 561, 562, 563, 564, 539, 513, 313, 314, 315, 22, 316, 84, 158, 2, 159, 518, 325, 326, 565, 322, 323, 324, 75, 85, 928, 929, 930, 931, 932, 933, 1000, 1001, 1002, 1003, 1004, 1005, 1006, 1007, 1008, 1009, 1010, 1011] (by decide +kernel) (by decide +kernel)
set_option maxRecDepth 20000 in
theorem gL_law_X7_ofThing : GoodIn wsL_law (wsV RL 96 RX7 yX7_ofThing wsX7_ofThing) := goodIn_app (goodIn_of _ (by decide +kernel)) ggL_law_X7_ofThing
set_option maxRecDepth 20000 in
theorem ggL_law_X8_ofThing : GoodIn wsL_law wsX8_ofThing := goodIn_r _ [569, 138, 348, 349, 139, 527, 528, 529, 5, 530, 508, 176, 177, 178, 350, 351, 352, 353, 934, 935, 936, 937, 938, 939, 940, 941, 942, 943, 944, 945, 946, 947, 948, 949, 950, 951, 952, 953, 954, 955, 956, 957, 958, 959, 960, 961, 962, 963, 964, 965, 966, 967, 968, 969, 970, 971, 972, 973, 974, 975, 976, 977, 978, 979] (by decide +kernel) (by decide +kernel)
set_option maxRecDepth 20000 in
theorem gL_law_X8_ofThing : GoodIn wsL_law (wsV RL 99 RX8 yX8_ofThing wsX8_ofThing) := goodIn_app (goodIn_of _ (by decide +kernel)) ggL_law_X8_ofThing
set_option maxRecDepth 20000 in
theorem ggL_law_X7_tide : GoodIn wsL_law wsX7_tide := goodIn_r _ [573, 23, 574, 575, 157, 158, 2, 159, 576, 577, 578, 22, 579, 87, 79, 580, 581, 582, 78, 583, 92, 93, 928, 929, 930, 931, 932, 933, 1000, 1001, 1002, 1003, 1004, 1005, 1006, 1007, 1008, 1009, 1010, 1011, 1028, 1029] (by decide +kernel) (by decide +kernel)
set_option maxRecDepth 20000 in
theorem gL_law_X7_tide : GoodIn wsL_law (wsV RL 100 RX7 yX7_tide wsX7_tide) := goodIn_app (goodIn_of _ (by decide +kernel)) ggL_law_X7_tide
set_option maxRecDepth 20000 in
theorem ggL_law_X8_tide : GoodIn wsL_law wsX8_tide := goodIn_r _ [587, 588, 140, 176, 177, 5, 178, 934, 935, 936, 937, 938, 939, 940, 941, 942, 943, 944, 945, 946, 947, 948, 949, 950, 951, 952, 953, 954, 955, 956, 957, 958, 959, 960, 961, 962, 963, 964, 965, 966, 967, 968, 969, 970, 971, 972, 973, 974, 975, 976, 977, 978, 979] (by decide +kernel) (by decide +kernel)
set_option maxRecDepth 20000 in
theorem gL_law_X8_tide : GoodIn wsL_law (wsV RL 103 RX8 yX8_tide wsX8_tide) := goodIn_app (goodIn_of _ (by decide +kernel)) ggL_law_X8_tide
set_option maxRecDepth 20000 in
theorem ggL_law_X7_calm : GoodIn wsL_law wsX7_calm := goodIn_r _ [592, 23, 593, 594, 595, 22, 596, 79, 597, 87, 928, 929, 930, 931, 932, 933, 1000, 1001, 1002, 1003, 1004, 1005, 1006, 1007, 1008, 1009, 1010, 1011, 1028, 1029] (by decide +kernel) (by decide +kernel)
set_option maxRecDepth 20000 in
theorem gL_law_X7_calm : GoodIn wsL_law (wsV RL 104 RX7 yX7_calm wsX7_calm) := goodIn_app (goodIn_of _ (by decide +kernel)) ggL_law_X7_calm
set_option maxRecDepth 20000 in
theorem ggL_law_X8_calm : GoodIn wsL_law wsX8_calm := goodIn_r _ [601, 588, 934, 935, 936, 937, 938, 939, 940, 941, 942, 943, 944, 945, 946, 947, 948, 949, 950, 951, 952, 953, 954, 955, 956, 957, 958, 959, 960, 961, 962, 963, 964, 965, 966, 967, 968, 969, 970, 971, 972, 973, 974, 975, 976, 977, 978, 979] (by decide +kernel) (by decide +kernel)
set_option maxRecDepth 20000 in
theorem gL_law_X8_calm : GoodIn wsL_law (wsV RL 107 RX8 yX8_calm wsX8_calm) := goodIn_app (goodIn_of _ (by decide +kernel)) ggL_law_X8_calm
set_option maxRecDepth 20000 in
theorem ggL_law_X7_best : GoodIn wsL_law wsX7_best := goodIn_r _ [605, 23, 606, 607, 608, 609, 610, 611, 612, 22, 613, 87, 83, 614, 615, 616, 82, 617, 618, 619, 620, 621, 622, 623, 100, 624, 625, 626, 627, 628, 78, 629, 93, 92, 630, 631, 632, 633, 634, 635, 636, 637, 196, 197, 198, 638, 639, 640, 641, 325, 2, 326, 642, 643, 644, 645, 72, 74, 646, 647, 648, 649, 650, 651, 652, 653, 654, 655, 656, 102, 103, 657, 658, 659, 660, 84, 75, 85, 661, 662, 663, 664, 665, 666, 667, 668, 669, 670, 671, 672, 101, 98, 99, 673, 674, 675, 676, 677, 678, 679, 680, 681, 928, 929, 930, 931, 932, 933, 1030, 1031, 1032, 1033, 1034, 1035, 1000, 1001, 1002, 1003, 1004, 1005, 1006, 1007, 1008, 1009, 1010, 1011, 1028, 1029] (by decide +kernel) (by decide +kernel)
set_option maxRecDepth 20000 in
theorem gL_law_X7_best : GoodIn wsL_law (wsV RL 108 RX7 yX7_best wsX7_best) := goodIn_app (goodIn_of _ (by decide +kernel)) ggL_law_X7_best
set_option maxRecDepth 20000 in
theorem ggL_law_X8_best : GoodIn wsL_law wsX8_best := goodIn_r _ [685, 686, 687, 149, 688, 689, 690, 5, 691, 508, 148, 388, 139, 348, 150, 692, 693, 694, 695, 349, 696, 697, 698, 699, 588, 140, 700, 701, 702, 703, 138, 704, 705, 706, 707, 708, 709, 710, 711, 934, 935, 936, 937, 938, 939, 940, 941, 942, 943, 944, 945, 946, 947, 948, 949, 950, 951, 952, 953, 954, 955, 956, 957, 958, 959, 960, 961, 962, 963, 964, 965, 966, 967, 968, 969, 970, 971, 972, 973, 974, 975, 976, 977, 978, 979] (by decide +kernel) (by decide +kernel)
set_option maxRecDepth 20000 in
theorem gL_law_X8_best : GoodIn wsL_law (wsV RL 111 RX8 yX8_best wsX8_best) := goodIn_app (goodIn_of _ (by decide +kernel)) ggL_law_X8_best
