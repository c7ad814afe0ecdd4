set_option maxRecDepth 20000 in
theorem ggL_law_X7_tideOf : GoodIn wsL_law wsX7_tideOf := goodIn_r _ [715, 23, 608, 716, 610, 611, 612, 22, 613, 87, 83, 614, 615, 616, 82, 617, 618, 619, 620, 621, 622, 623, 100, 624, 625, 626, 627, 628, 78, 629, 93, 92, 630, 631, 632, 633, 634, 635, 636, 637, 196, 197, 198, 638, 639, 640, 641, 325, 2, 326, 642, 643, 644, 645, 72, 74, 646, 647, 648, 649, 650, 651, 652, 653, 654, 655, 656, 102, 103, 657, 658, 659, 660, 84, 75, 85, 661, 662, 663, 664, 665, 666, 667, 668, 669, 670, 671, 672, 101, 98, 99, 673, 674, 675, 676, 677, 678, 679, 680, 681, 928, 929, 930, 931, 932, 933, 1030, 1031, 1032, 1033, 1034, 1035, 1000, 1001, 1002, 1003, 1004, 1005, 1006, 1007, 1008, 1009, 1010, 1011, 1028, 1029] (by decide +kernel) (by decide +kernel)
set_option maxRecDepth 20000 in
theorem gL_law_X7_tideOf : GoodIn wsL_law (wsV RL 112 RX7 yX7_tideOf wsX7_tideOf) := goodIn_app (goodIn_of _ (by decide +kernel)) ggL_law_X7_tideOf
set_option maxRecDepth 20000 in
theorem ggL_law_X8_tideOf : GoodIn wsL_law wsX8_tideOf := goodIn_r _ [720, 687, 150, 688, 689, 690, 5, 691, 686, 508, 148, 388, 139, 348, 149, 692, 693, 694, 695, 349, 696, 697, 698, 699, 588, 140, 700, 701, 702, 703, 138, 704, 705, 706, 707, 708, 709, 710, 711, 176, 177, 178, 934, 935, 936, 937, 938, 939, 940, 941, 942, 943, 944, 945, 946, 947, 948, 949, 950, 951, 952, 953, 954, 955, 956, 957, 958, 959, 960, 961, 962, 963, 964, 965, 966, 967, 968, 969, 970, 971, 972, 973, 974, 975, 976, 977, 978, 979] (by decide +kernel) (by decide +kernel)
set_option maxRecDepth 20000 in
theorem gL_law_X8_tideOf : GoodIn wsL_law (wsV RL 115 RX8 yX8_tideOf wsX8_tideOf) := goodIn_app (goodIn_of _ (by decide +kernel)) ggL_law_X8_tideOf
set_option maxRecDepth 20000 in
theorem ggL_law_X7_sign : GoodIn wsL_law wsX7_sign := goodIn_r _ [724, 27, 157, 158, 2, 159, 725, 726, 727, 26, 728, 108, 109, 729, 730, 731, 732, 733, 734, 735, 736, 737, 738, 739, 740, 741, 742, 743, 438, 439, 440, 441, 197, 442, 928, 929, 930, 931, 932, 933, 1012, 1013, 1014, 1015, 1016] (by decide +kernel) (by decide +kernel)
set_option maxRecDepth 20000 in
theorem gL_law_X7_sign : GoodIn wsL_law (wsV RL 116 RX7 yX7_sign wsX7_sign) := goodIn_app (goodIn_of _ (by decide +kernel)) ggL_law_X7_sign
set_option maxRecDepth 20000 in
theorem ggL_law_X8_sign : GoodIn wsL_law wsX8_sign := goodIn_r _ [747, 141, 142, 176, 177, 5, 178, 934, 935, 936, 937, 938, 939, 940, 941, 942, 943, 944, 945, 946, 947, 948, 949, 950, 951, 952, 953, 954, 955, 956, 957, 958, 959, 960, 961, 962, 963, 964, 965, 966, 967, 968, 969, 970, 971, 972, 973, 974, 975, 976, 977, 978, 979] (by decide +kernel) (by decide +kernel)
set_option maxRecDepth 20000 in
theorem gL_law_X8_sign : GoodIn wsL_law (wsV RL 119 RX8 yX8_sign wsX8_sign) := goodIn_app (goodIn_of _ (by decide +kernel)) ggL_law_X8_sign
set_option maxRecDepth 20000 in
theorem ggL_law_X7_heard : GoodIn wsL_law wsX7_heard := goodIn_r _ [751, 27, 752, 753, 26, 754, 158, 2, 159, 732, 733, 734, 735, 736, 737, 738, 739, 108, 740, 741, 742, 743, 109, 438, 439, 440, 441, 197, 442, 755, 756, 757, 758, 928, 929, 930, 931, 932, 933, 1012, 1013, 1014, 1015, 1016] (by decide +kernel) (by decide +kernel)
set_option maxRecDepth 20000 in
theorem gL_law_X7_heard : GoodIn wsL_law (wsV RL 120 RX7 yX7_heard wsX7_heard) := goodIn_app (goodIn_of _ (by decide +kernel)) ggL_law_X7_heard
set_option maxRecDepth 20000 in
theorem ggL_law_X8_heard : GoodIn wsL_law wsX8_heard := goodIn_r _ [762, 141, 763, 764, 5, 765, 176, 177, 178, 766, 767, 768, 769, 142, 457, 458, 459, 934, 935, 936, 937, 938, 939, 940, 941, 942, 943, 944, 945, 946, 947, 948, 949, 950, 951, 952, 953, 954, 955, 956, 957, 958, 959, 960, 961, 962, 963, 964, 965, 966, 967, 968, 969, 970, 971, 972, 973, 974, 975, 976, 977, 978, 979] (by decide +kernel) (by decide +kernel)
set_option maxRecDepth 20000 in
theorem gL_law_X8_heard : GoodIn wsL_law (wsV RL 123 RX8 yX8_heard wsX8_heard) := goodIn_app (goodIn_of _ (by decide +kernel)) ggL_law_X8_heard
set_option maxRecDepth 20000 in
theorem ggL_law_X7_hear : GoodIn wsL_law wsX7_hear := goodIn_r _ [773, 27, 774, 752, 753, 26, 754, 158, 2, 159, 775, 776, 777, 778, 110, 112, 111, 928, 929, 930, 931, 932, 933, 1012, 1013, 1014, 1015, 1016] (by decide +kernel) (by decide +kernel)
set_option maxRecDepth 20000 in
theorem gL_law_X7_hear : GoodIn wsL_law (wsV RL 124 RX7 yX7_hear wsX7_hear) := goodIn_app (goodIn_of _ (by decide +kernel)) ggL_law_X7_hear
set_option maxRecDepth 20000 in
theorem ggL_law_X8_hear : GoodIn wsL_law wsX8_hear := goodIn_r _ [782, 783, 143, 144, 763, 764, 5, 765, 176, 177, 178, 934, 935, 936, 937, 938, 939, 940, 941, 942, 943, 944, 945, 946, 947, 948, 949, 950, 951, 952, 953, 954, 955, 956, 957, 958, 959, 960, 961, 962, 963, 964, 965, 966, 967, 968, 969, 970, 971, 972, 973, 974, 975, 976, 977, 978, 979] (by decide +kernel) (by decide +kernel)
set_option maxRecDepth 20000 in
theorem gL_law_X8_hear : GoodIn wsL_law (wsV RL 127 RX8 yX8_hear wsX8_hear) := goodIn_app (goodIn_of _ (by decide +kernel)) ggL_law_X8_hear
set_option maxRecDepth 20000 in
theorem ggL_law_X7_tell : GoodIn wsL_law wsX7_tell := goodIn_r _ [787, 27, 774, 788, 789, 790, 26, 791, 736, 737, 738, 739, 108, 792, 793, 794, 795, 112, 110, 111, 740, 741, 742, 743, 109, 438, 2, 439, 440, 441, 197, 442, 928, 929, 930, 931, 932, 933, 1012, 1013, 1014, 1015, 1016] (by decide +kernel) (by decide +kernel)
set_option maxRecDepth 20000 in
theorem gL_law_X7_tell : GoodIn wsL_law (wsV RL 128 RX7 yX7_tell wsX7_tell) := goodIn_app (goodIn_of _ (by decide +kernel)) ggL_law_X7_tell
set_option maxRecDepth 20000 in
theorem ggL_law_X8_tell : GoodIn wsL_law wsX8_tell := goodIn_r _ [799, 388, 783, 141, 143, 144, 766, 767, 768, 5, 769, 142, 457, 458, 459, 934, 935, 936, 937, 938, 939, 940, 941, 942, 943, 944, 945, 946, 947, 948, 949, 950, 951, 952, 953, 954, 955, 956, 957, 958, 959, 960, 961, 962, 963, 964, 965, 966, 967, 968, 969, 970, 971, 972, 973, 974, 975, 976, 977, 978, 979] (by decide +kernel) (by decide +kernel)
set_option maxRecDepth 20000 in
theorem gL_law_X8_tell : GoodIn wsL_law (wsV RL 131 RX8 yX8_tell wsX8_tell) := goodIn_app (goodIn_of _ (by decide +kernel)) ggL_law_X8_tell
set_option maxRecDepth 20000 in
theorem ggL_law_X7_tight : GoodIn wsL_law wsX7_tight := goodIn_r _ [803, 27, 804, 805, 806, 26, 807, 808, 292, 197, 293, 736, 737, 738, 739, 108, 809, 810, 811, 812, 109, 740, 741, 742, 743, 438, 2, 439, 440, 441, 442, 928, 929, 930, 931, 932, 933, 1012, 1013, 1014, 1015, 1016] (by decide +kernel) (by decide +kernel)
set_option maxRecDepth 20000 in
theorem gL_law_X7_tight : GoodIn wsL_law (wsV RL 132 RX7 yX7_tight wsX7_tight) := goodIn_app (goodIn_of _ (by decide +kernel)) ggL_law_X7_tight
set_option maxRecDepth 20000 in
theorem ggL_law_X8_tight : GoodIn wsL_law wsX8_tight := goodIn_r _ [816, 141, 142, 766, 767, 768, 5, 769, 457, 458, 459, 934, 935, 936, 937, 938, 939, 940, 941, 942, 943, 944, 945, 946, 947, 948, 949, 950, 951, 952, 953, 954, 955, 956, 957, 958, 959, 960, 961, 962, 963, 964, 965, 966, 967, 968, 969, 970, 971, 972, 973, 974, 975, 976, 977, 978, 979] (by decide +kernel) (by decide +kernel)
set_option maxRecDepth 20000 in
theorem gL_law_X8_tight : GoodIn wsL_law (wsV RL 135 RX8 yX8_tight wsX8_tight) := goodIn_app (goodIn_of _ (by decide +kernel)) ggL_law_X8_tight
