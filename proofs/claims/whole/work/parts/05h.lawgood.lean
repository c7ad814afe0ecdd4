set_option maxRecDepth 20000 in
theorem ggL_law_X7_free : GoodIn wsL_law wsX7_free := goodIn_r _ [820, 27, 157, 158, 2, 159, 821, 822, 823, 26, 824, 825, 826, 827, 828, 736, 737, 738, 739, 108, 740, 741, 742, 743, 109, 438, 439, 440, 441, 197, 442, 928, 929, 930, 931, 932, 933, 1012, 1013, 1014, 1015, 1016] (by decide +kernel) (by decide +kernel)
set_option maxRecDepth 20000 in
theorem gL_law_X7_free : GoodIn wsL_law (wsV RL 136 RX7 yX7_free wsX7_free) := goodIn_app (goodIn_of _ (by decide +kernel)) ggL_law_X7_free
set_option maxRecDepth 20000 in
theorem ggL_law_X8_free : GoodIn wsL_law wsX8_free := goodIn_r _ [832, 141, 176, 177, 5, 178, 766, 767, 768, 769, 142, 457, 458, 459, 934, 935, 936, 937, 938, 939, 940, 941, 942, 943, 944, 945, 946, 947, 948, 949, 950, 951, 952, 953, 954, 955, 956, 957, 958, 959, 960, 961, 962, 963, 964, 965, 966, 967, 968, 969, 970, 971, 972, 973, 974, 975, 976, 977, 978, 979] (by decide +kernel) (by decide +kernel)
set_option maxRecDepth 20000 in
theorem gL_law_X8_free : GoodIn wsL_law (wsV RL 139 RX8 yX8_free wsX8_free) := goodIn_app (goodIn_of _ (by decide +kernel)) ggL_law_X8_free
set_option maxRecDepth 20000 in
theorem ggL_law_X7_entry : GoodIn wsL_law wsX7_entry := goodIn_r _ [836, 31, 837, 406, 407, 2, 408, 157, 158, 159, 838, 839, 840, 30, 841, 120, 117, 118, 842, 843, 844, 845, 119, 928, 929, 930, 931, 932, 933, 1017, 1018, 1019, 1020, 1021, 1022, 1023, 1024, 1025, 1026, 1027] (by decide +kernel) (by decide +kernel)
set_option maxRecDepth 20000 in
theorem gL_law_X7_entry : GoodIn wsL_law (wsV RL 140 RX7 yX7_entry wsX7_entry) := goodIn_app (goodIn_of _ (by decide +kernel)) ggL_law_X7_entry
set_option maxRecDepth 20000 in
theorem ggL_law_X8_entry : GoodIn wsL_law wsX8_entry := goodIn_r _ [849, 850, 145, 146, 147, 417, 418, 5, 419, 176, 177, 178, 934, 935, 936, 937, 938, 939, 940, 941, 942, 943, 944, 945, 946, 947, 948, 949, 950, 951, 952, 953, 954, 955, 956, 957, 958, 959, 960, 961, 962, 963, 964, 965, 966, 967, 968, 969, 970, 971, 972, 973, 974, 975, 976, 977, 978, 979] (by decide +kernel) (by decide +kernel)
set_option maxRecDepth 20000 in
theorem gL_law_X8_entry : GoodIn wsL_law (wsV RL 143 RX8 yX8_entry wsX8_entry) := goodIn_app (goodIn_of _ (by decide +kernel)) ggL_law_X8_entry
set_option maxRecDepth 20000 in
theorem ggL_law_X7_log : GoodIn wsL_law wsX7_log := goodIn_r _ [854, 31, 855, 856, 857, 19, 473, 858, 859, 406, 407, 2, 408, 157, 158, 159, 860, 861, 862, 30, 863, 120, 118, 117, 119, 864, 865, 866, 867, 868, 869, 870, 871, 872, 873, 874, 875, 876, 877, 878, 879, 880, 881, 882, 883, 196, 197, 198, 884, 885, 886, 887, 888, 889, 890, 891, 892, 893, 894, 895, 896, 897, 898, 899, 928, 929, 930, 931, 932, 933, 1017, 1018, 1019, 1020, 1021, 1022, 1023, 1024, 1025, 1026, 1027, 992, 993, 994, 995, 996, 997, 998, 999] (by decide +kernel) (by decide +kernel)
set_option maxRecDepth 20000 in
theorem gL_law_X7_log : GoodIn wsL_law (wsV RL 144 RX7 yX7_log wsX7_log) := goodIn_app (goodIn_of _ (by decide +kernel)) ggL_law_X7_log
set_option maxRecDepth 20000 in
theorem ggL_law_X8_log : GoodIn wsL_law wsX8_log := goodIn_r _ [903, 850, 146, 904, 905, 130, 906, 907, 417, 418, 5, 419, 176, 177, 178, 908, 909, 910, 911, 145, 147, 934, 935, 936, 937, 938, 939, 940, 941, 942, 943, 944, 945, 946, 947, 948, 949, 950, 951, 952, 953, 954, 955, 956, 957, 958, 959, 960, 961, 962, 963, 964, 965, 966, 967, 968, 969, 970, 971, 972, 973, 974, 975, 976, 977, 978, 979] (by decide +kernel) (by decide +kernel)
set_option maxRecDepth 20000 in
theorem gL_law_X8_log : GoodIn wsL_law (wsV RL 147 RX8 yX8_log wsX8_log) := goodIn_app (goodIn_of _ (by decide +kernel)) ggL_law_X8_log
set_option maxRecDepth 20000 in
theorem ggL_law_X7_told : GoodIn wsL_law wsX7_told := goodIn_r _ [915, 32, 19, 425, 15, 155, 23, 499, 564, 574, 575, 27, 31, 837, 774, 916, 917, 918, 26, 919, 736, 737, 738, 739, 108, 920, 921, 922, 22, 923, 84, 85, 71, 325, 2, 326, 928, 929, 930, 931, 932, 933, 992, 993, 994, 995, 996, 997, 998, 999, 980, 981, 982, 983, 984, 985, 986, 987, 988, 989, 990, 991, 1000, 1001, 1002, 1003, 1004, 1005, 1006, 1007, 1008, 1009, 1010, 1011, 1028, 1029, 1017, 1018, 1019, 1020, 1021, 1022, 1023, 1024, 1025, 1026, 1027, 1012, 1013, 1014, 1015, 1016] (by decide +kernel) (by decide +kernel)
set_option maxRecDepth 20000 in
theorem gL_law_X7_told : GoodIn wsL_law (wsV RL 148 RX7 yX7_told wsX7_told) := goodIn_app (goodIn_of _ (by decide +kernel)) ggL_law_X7_told
set_option maxRecDepth 20000 in
theorem ggL_law_X8_told : GoodIn wsL_law wsX8_told := goodIn_r _ [927, 335, 131, 169, 508, 348, 588, 141, 850, 783, 138, 934, 935, 936, 937, 938, 939, 940, 941, 942, 943, 944, 945, 946, 947, 948, 949, 950, 951, 952, 953, 954, 955, 956, 957, 958, 959, 960, 961, 962, 963, 964, 965, 966, 967, 968, 969, 970, 971, 972, 973, 974, 975, 976, 977, 978, 979] (by decide +kernel) (by decide +kernel)
set_option maxRecDepth 20000 in
theorem gL_law_X8_told : GoodIn wsL_law (wsV RL 151 RX8 yX8_told wsX8_told) := goodIn_app (goodIn_of _ (by decide +kernel)) ggL_law_X8_told
