set_option maxRecDepth 20000 in
theorem ggL_law_X7_init : GoodIn wsL_law wsX7_init := goodIn_r _ [8, 9, 10, 11, 12, 13, 14, 15, 16, 17, 18, 19, 20, 21, 22, 23, 24, 25, 26, 27, 28, 29, 30, 31, 32, 33, 34, 35, 36, 37, 38, 39, 40, 41, 42, 43, 44, 45, 46, 47, 48, 49, 50, 51, 52, 53, 54, 55, 56, 57, 58, 59, 60, 61, 62, 63, 64, 65, 66, 67, 68, 69, 70, 71, 72, 73, 74, 75, 76, 77, 78, 79, 80, 81, 82, 83, 84, 85, 86, 87, 88, 89, 90, 91, 92, 93, 94, 95, 96, 97, 98, 99, 100, 101, 102, 103, 104, 105, 106, 107, 108, 109, 110, 111, 112, 113, 114, 115, 116, 117, 118, 119, 120, 980, 981, 982, 983, 984, 985, 986, 987, 988, 989, 990, 991, 928, 929, 930, 931, 932, 933, 992, 993, 994, 995, 996, 997, 998, 999, 1000, 1001, 1002, 1003, 1004, 1005, 1006, 1007, 1008, 1009, 1010, 1011, 1012, 1013, 1014, 1015, 1016, 1017, 1018, 1019, 1020, 1021, 1022, 1023, 1024, 1025, 1026, 1027, 1028, 1029, 1030, 1031, 1032, 1033, 1034, 1035] (by decide +kernel) (by decide +kernel)
set_option maxRecDepth 20000 in
theorem gL_law_X7_init : GoodIn wsL_law (wsX7_init) := ggL_law_X7_init
set_option maxRecDepth 20000 in
theorem ggL_law_X8_init : GoodIn wsL_law wsX8_init := goodIn_r _ [123, 124, 10, 11, 125, 126, 127, 128, 129, 130, 131, 57, 132, 133, 134, 135, 136, 137, 138, 139, 140, 141, 142, 143, 144, 145, 146, 147, 148, 149, 150, 934, 935, 936, 937, 938, 939, 940, 941, 942, 943, 944, 945, 946, 947, 948, 949, 950, 951, 952, 953, 954, 955, 956, 957, 958, 959, 960, 961, 962, 963, 964, 965, 966, 967, 968, 969, 970, 971, 972, 973, 974, 975, 976, 977, 978, 979] (by decide +kernel) (by decide +kernel)
set_option maxRecDepth 20000 in
theorem gL_law_X8_init : GoodIn wsL_law (wsX8_init) := ggL_law_X8_init
set_option maxRecDepth 20000 in
theorem ggL_law_X7_room : GoodIn wsL_law wsX7_room := goodIn_r _ [154, 19, 15, 155, 156, 157, 158, 2, 159, 160, 161, 162, 18, 163, 58, 164, 41, 42, 14, 43, 44, 45, 46, 47, 48, 49, 50, 51, 52, 928, 929, 930, 931, 932, 933, 980, 981, 982, 983, 984, 985, 986, 987, 988, 989, 990, 991, 992, 993, 994, 995, 996, 997, 998, 999] (by decide +kernel) (by decide +kernel)
set_option maxRecDepth 20000 in
theorem gL_law_X7_room : GoodIn wsL_law (wsV RL 13 RX7 yX7_room wsX7_room) := goodIn_app (goodIn_of _ (by decide +kernel)) ggL_law_X7_room
set_option maxRecDepth 20000 in
theorem ggL_law_X8_room : GoodIn wsL_law wsX8_room := goodIn_r _ [168, 169, 125, 126, 170, 127, 171, 172, 173, 174, 175, 176, 177, 5, 178, 179, 180, 181, 182, 132, 934, 935, 936, 937, 938, 939, 940, 941, 942, 943, 944, 945, 946, 947, 948, 949, 950, 951, 952, 953, 954, 955, 956, 957, 958, 959, 960, 961, 962, 963, 964, 965, 966, 967, 968, 969, 970, 971, 972, 973, 974, 975, 976, 977, 978, 979] (by decide +kernel) (by decide +kernel)
set_option maxRecDepth 20000 in
theorem gL_law_X8_room : GoodIn wsL_law (wsV RL 17 RX8 yX8_room wsX8_room) := goodIn_app (goodIn_of _ (by decide +kernel)) ggL_law_X8_room
set_option maxRecDepth 20000 in
theorem ggL_law_X7_depth : GoodIn wsL_law wsX7_depth := goodIn_r _ [186, 19, 15, 155, 157, 158, 2, 159, 187, 188, 189, 18, 190, 58, 191, 192, 193, 14, 194, 195, 196, 197, 198, 199, 200, 201, 202, 45, 46, 203, 204, 205, 206, 44, 37, 207, 208, 209, 210, 49, 211, 212, 213, 928, 929, 930, 931, 932, 933, 980, 981, 982, 983, 984, 985, 986, 987, 988, 989, 990, 991, 992, 993, 994, 995, 996, 997, 998, 999] (by decide +kernel) (by decide +kernel)
set_option maxRecDepth 20000 in
theorem gL_law_X7_depth : GoodIn wsL_law (wsV RL 18 RX7 yX7_depth wsX7_depth) := goodIn_app (goodIn_of _ (by decide +kernel)) ggL_law_X7_depth
set_option maxRecDepth 20000 in
theorem ggL_law_X8_depth : GoodIn wsL_law wsX8_depth := goodIn_r _ [217, 169, 176, 177, 5, 178, 218, 219, 220, 221, 132, 222, 223, 224, 225, 126, 170, 226, 227, 228, 229, 125, 230, 231, 232, 233, 172, 934, 935, 936, 937, 938, 939, 940, 941, 942, 943, 944, 945, 946, 947, 948, 949, 950, 951, 952, 953, 954, 955, 956, 957, 958, 959, 960, 961, 962, 963, 964, 965, 966, 967, 968, 969, 970, 971, 972, 973, 974, 975, 976, 977, 978, 979] (by decide +kernel) (by decide +kernel)
set_option maxRecDepth 20000 in
theorem gL_law_X8_depth : GoodIn wsL_law (wsV RL 21 RX8 yX8_depth wsX8_depth) := goodIn_app (goodIn_of _ (by decide +kernel)) ggL_law_X8_depth
set_option maxRecDepth 20000 in
theorem ggL_law_X7_tip : GoodIn wsL_law wsX7_tip := goodIn_r _ [237, 15, 238, 200, 201, 14, 202, 45, 46, 239, 208, 209, 210, 49, 211, 212, 213, 928, 929, 930, 931, 932, 933, 980, 981, 982, 983, 984, 985, 986, 987, 988, 989, 990, 991] (by decide +kernel) (by decide +kernel)
set_option maxRecDepth 20000 in
theorem gL_law_X7_tip : GoodIn wsL_law (wsV RL 22 RX7 yX7_tip wsX7_tip) := goodIn_app (goodIn_of _ (by decide +kernel)) ggL_law_X7_tip
set_option maxRecDepth 20000 in
theorem ggL_law_X8_tip : GoodIn wsL_law wsX8_tip := goodIn_r _ [243, 222, 223, 224, 5, 225, 126, 170, 230, 231, 232, 233, 172, 934, 935, 936, 937, 938, 939, 940, 941, 942, 943, 944, 945, 946, 947, 948, 949, 950, 951, 952, 953, 954, 955, 956, 957, 958, 959, 960, 961, 962, 963, 964, 965, 966, 967, 968, 969, 970, 971, 972, 973, 974, 975, 976, 977, 978, 979] (by decide +kernel) (by decide +kernel)
set_option maxRecDepth 20000 in
theorem gL_law_X8_tip : GoodIn wsL_law (wsV RL 26 RX8 yX8_tip wsX8_tip) := goodIn_app (goodIn_of _ (by decide +kernel)) ggL_law_X8_tip
set_option maxRecDepth 20000 in
theorem ggL_law_X7_barrel : GoodIn wsL_law wsX7_barrel := goodIn_r _ [247, 15, 248, 157, 158, 2, 159, 249, 250, 251, 14, 252, 50, 47, 45, 253, 192, 193, 194, 195, 196, 197, 198, 199, 200, 201, 202, 46, 203, 204, 205, 206, 44, 37, 207, 208, 209, 210, 49, 211, 212, 213, 928, 929, 930, 931, 932, 933, 980, 981, 982, 983, 984, 985, 986, 987, 988, 989, 990, 991] (by decide +kernel) (by decide +kernel)
set_option maxRecDepth 20000 in
theorem gL_law_X7_barrel : GoodIn wsL_law (wsV RL 27 RX7 yX7_barrel wsX7_barrel) := goodIn_app (goodIn_of _ (by decide +kernel)) ggL_law_X7_barrel
set_option maxRecDepth 20000 in
theorem ggL_law_X8_barrel : GoodIn wsL_law wsX8_barrel := goodIn_r _ [257, 173, 127, 126, 176, 177, 5, 178, 222, 223, 224, 225, 170, 226, 227, 228, 229, 125, 169, 230, 231, 232, 233, 172, 934, 935, 936, 937, 938, 939, 940, 941, 942, 943, 944, 945, 946, 947, 948, 949, 950, 951, 952, 953, 954, 955, 956, 957, 958, 959, 960, 961, 962, 963, 964, 965, 966, 967, 968, 969, 970, 971, 972, 973, 974, 975, 976, 977, 978, 979] (by decide +kernel) (by decide +kernel)
set_option maxRecDepth 20000 in
theorem gL_law_X8_barrel : GoodIn wsL_law (wsV RL 30 RX8 yX8_barrel wsX8_barrel) := goodIn_app (goodIn_of _ (by decide +kernel)) ggL_law_X8_barrel
set_option maxRecDepth 20000 in
theorem ggL_law_X7_breath : GoodIn wsL_law wsX7_breath := goodIn_r _ [261, 15, 262, 157, 158, 2, 159, 928, 929, 930, 931, 932, 933, 980, 981, 982, 983, 984, 985, 986, 987, 988, 989, 990, 991] (by decide +kernel) (by decide +kernel)
set_option maxRecDepth 20000 in
theorem gL_law_X7_breath : GoodIn wsL_law (wsV RL 31 RX7 yX7_breath wsX7_breath) := goodIn_app (goodIn_of _ (by decide +kernel)) ggL_law_X7_breath
set_option maxRecDepth 20000 in
theorem ggL_law_X8_breath : GoodIn wsL_law wsX8_breath := goodIn_r _ [266, 128, 176, 177, 5, 178, 934, 935, 936, 937, 938, 939, 940, 941, 942, 943, 944, 945, 946, 947, 948, 949, 950, 951, 952, 953, 954, 955, 956, 957, 958, 959, 960, 961, 962, 963, 964, 965, 966, 967, 968, 969, 970, 971, 972, 973, 974, 975, 976, 977, 978, 979] (by decide +kernel) (by decide +kernel)
set_option maxRecDepth 20000 in
theorem gL_law_X8_breath : GoodIn wsL_law (wsV RL 34 RX8 yX8_breath wsX8_breath) := goodIn_app (goodIn_of _ (by decide +kernel)) ggL_law_X8_breath
