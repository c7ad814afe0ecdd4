set_option maxRecDepth 20000 in
theorem ggL_law_X7_hose : GoodIn wsL_law wsX7_hose := goodIn_r _ [463, 19, 426, 427, 428, 2, 429, 157, 158, 159, 464, 299, 300, 18, 301, 302, 303, 304, 305, 60, 928, 929, 930, 931, 932, 933, 992, 993, 994, 995, 996, 997, 998, 999] (by decide +kernel) (by decide +kernel)
set_option maxRecDepth 20000 in
theorem gL_law_X7_hose : GoodIn wsL_law (wsV RL 61 RX7 yX7_hose wsX7_hose) := goodIn_app (goodIn_of _ (by decide +kernel)) ggL_law_X7_hose
set_option maxRecDepth 20000 in
theorem ggL_law_X8_hose : GoodIn wsL_law wsX8_hose := goodIn_r _ [468, 137, 451, 452, 5, 453, 176, 177, 178, 340, 341, 342, 343, 132, 134, 934, 935, 936, 937, 938, 939, 940, 941, 942, 943, 944, 945, 946, 947, 948, 949, 950, 951, 952, 953, 954, 955, 956, 957, 958, 959, 960, 961, 962, 963, 964, 965, 966, 967, 968, 969, 970, 971, 972, 973, 974, 975, 976, 977, 978, 979] (by decide +kernel) (by decide +kernel)
set_option maxRecDepth 20000 in
theorem gL_law_X8_hose : GoodIn wsL_law (wsV RL 65 RX8 yX8_hose wsX8_hose) := goodIn_app (goodIn_of _ (by decide +kernel)) ggL_law_X8_hose
set_option maxRecDepth 20000 in
theorem ggL_law_X7_stay : GoodIn wsL_law wsX7_stay := goodIn_r _ [472, 19, 473, 157, 158, 2, 159, 928, 929, 930, 931, 932, 933, 992, 993, 994, 995, 996, 997, 998, 999] (by decide +kernel) (by decide +kernel)
set_option maxRecDepth 20000 in
theorem gL_law_X7_stay : GoodIn wsL_law (wsV RL 66 RX7 yX7_stay wsX7_stay) := goodIn_app (goodIn_of _ (by decide +kernel)) ggL_law_X7_stay
set_option maxRecDepth 20000 in
theorem ggL_law_X8_stay : GoodIn wsL_law wsX8_stay := goodIn_r _ [477, 130, 176, 177, 5, 178, 934, 935, 936, 937, 938, 939, 940, 941, 942, 943, 944, 945, 946, 947, 948, 949, 950, 951, 952, 953, 954, 955, 956, 957, 958, 959, 960, 961, 962, 963, 964, 965, 966, 967, 968, 969, 970, 971, 972, 973, 974, 975, 976, 977, 978, 979] (by decide +kernel) (by decide +kernel)
set_option maxRecDepth 20000 in
theorem gL_law_X8_stay : GoodIn wsL_law (wsV RL 69 RX8 yX8_stay wsX8_stay) := goodIn_app (goodIn_of _ (by decide +kernel)) ggL_law_X8_stay
set_option maxRecDepth 20000 in
theorem ggL_law_X7_hang : GoodIn wsL_law wsX7_hang := goodIn_r _ [481, 19, 425, 430, 431, 2, 432, 157, 158, 159, 187, 188, 189, 18, 190, 58, 928, 929, 930, 931, 932, 933, 992, 993, 994, 995, 996, 997, 998, 999] (by decide +kernel) (by decide +kernel)
set_option maxRecDepth 20000 in
theorem gL_law_X7_hang : GoodIn wsL_law (wsV RL 70 RX7 yX7_hang wsX7_hang) := goodIn_app (goodIn_of _ (by decide +kernel)) ggL_law_X7_hang
set_option maxRecDepth 20000 in
theorem ggL_law_X8_hang : GoodIn wsL_law wsX8_hang := goodIn_r _ [485, 131, 454, 455, 5, 456, 176, 177, 178, 218, 219, 220, 221, 132, 934, 935, 936, 937, 938, 939, 940, 941, 942, 943, 944, 945, 946, 947, 948, 949, 950, 951, 952, 953, 954, 955, 956, 957, 958, 959, 960, 961, 962, 963, 964, 965, 966, 967, 968, 969, 970, 971, 972, 973, 974, 975, 976, 977, 978, 979] (by decide +kernel) (by decide +kernel)
set_option maxRecDepth 20000 in
theorem gL_law_X8_hang : GoodIn wsL_law (wsV RL 73 RX8 yX8_hang wsX8_hang) := goodIn_app (goodIn_of _ (by decide +kernel)) ggL_law_X8_hang
set_option maxRecDepth 20000 in
theorem ggL_law_X7_man : GoodIn wsL_law wsX7_man := goodIn_r _ [489, 19, 286, 312, 424, 490, 310, 406, 407, 2, 408, 157, 158, 159, 928, 929, 930, 931, 932, 933, 992, 993, 994, 995, 996, 997, 998, 999] (by decide +kernel) (by decide +kernel)
set_option maxRecDepth 20000 in
theorem gL_law_X7_man : GoodIn wsL_law (wsV RL 74 RX7 yX7_man wsX7_man) := goodIn_app (goodIn_of _ (by decide +kernel)) ggL_law_X7_man
set_option maxRecDepth 20000 in
theorem ggL_law_X8_man : GoodIn wsL_law wsX8_man := goodIn_r _ [494, 132, 133, 134, 135, 136, 417, 418, 5, 419, 176, 177, 178, 934, 935, 936, 937, 938, 939, 940, 941, 942, 943, 944, 945, 946, 947, 948, 949, 950, 951, 952, 953, 954, 955, 956, 957, 958, 959, 960, 961, 962, 963, 964, 965, 966, 967, 968, 969, 970, 971, 972, 973, 974, 975, 976, 977, 978, 979] (by decide +kernel) (by decide +kernel)
set_option maxRecDepth 20000 in
theorem gL_law_X8_man : GoodIn wsL_law (wsV RL 77 RX8 yX8_man wsX8_man) := goodIn_app (goodIn_of _ (by decide +kernel)) ggL_law_X8_man
set_option maxRecDepth 20000 in
theorem ggL_law_X7_thing : GoodIn wsL_law wsX7_thing := goodIn_r _ [498, 23, 499, 430, 431, 2, 432, 157, 158, 159, 500, 501, 502, 22, 503, 84, 70, 71, 72, 73, 87, 928, 929, 930, 931, 932, 933, 1000, 1001, 1002, 1003, 1004, 1005, 1006, 1007, 1008, 1009, 1010, 1011] (by decide +kernel) (by decide +kernel)
set_option maxRecDepth 20000 in
theorem gL_law_X7_thing : GoodIn wsL_law (wsV RL 78 RX7 yX7_thing wsX7_thing) := goodIn_app (goodIn_of _ (by decide +kernel)) ggL_law_X7_thing
set_option maxRecDepth 20000 in
theorem ggL_law_X8_thing : GoodIn wsL_law wsX8_thing := goodIn_r _ [507, 508, 138, 139, 454, 455, 5, 456, 176, 177, 178, 934, 935, 936, 937, 938, 939, 940, 941, 942, 943, 944, 945, 946, 947, 948, 949, 950, 951, 952, 953, 954, 955, 956, 957, 958, 959, 960, 961, 962, 963, 964, 965, 966, 967, 968, 969, 970, 971, 972, 973, 974, 975, 976, 977, 978, 979] (by decide +kernel) (by decide +kernel)
set_option maxRecDepth 20000 in
theorem gL_law_X8_thing : GoodIn wsL_law (wsV RL 82 RX8 yX8_thing wsX8_thing) := goodIn_app (goodIn_of _ (by decide +kernel)) ggL_law_X8_thing
set_option maxRecDepth 20000 in
theorem ggL_law_X7_under : GoodIn wsL_law wsX7_under := goodIn_r _ [512, 23, 513, 313, 314, 315, 22, 316, 84, 158, 2, 159, 514, 515, 516, 517, 75, 325, 326, 518, 519, 520, 521, 522, 87, 928, 929, 930, 931, 932, 933, 1000, 1001, 1002, 1003, 1004, 1005, 1006, 1007, 1008, 1009, 1010, 1011] (by decide +kernel) (by decide +kernel)
set_option maxRecDepth 20000 in
theorem gL_law_X7_under : GoodIn wsL_law (wsV RL 83 RX7 yX7_under wsX7_under) := goodIn_app (goodIn_of _ (by decide +kernel)) ggL_law_X7_under
set_option maxRecDepth 20000 in
theorem ggL_law_X8_under : GoodIn wsL_law wsX8_under := goodIn_r _ [526, 139, 527, 528, 529, 5, 530, 508, 176, 177, 178, 531, 532, 533, 534, 934, 935, 936, 937, 938, 939, 940, 941, 942, 943, 944, 945, 946, 947, 948, 949, 950, 951, 952, 953, 954, 955, 956, 957, 958, 959, 960, 961, 962, 963, 964, 965, 966, 967, 968, 969, 970, 971, 972, 973, 974, 975, 976, 977, 978, 979] (by decide +kernel) (by decide +kernel)
set_option maxRecDepth 20000 in
theorem gL_law_X8_under : GoodIn wsL_law (wsV RL 87 RX8 yX8_under wsX8_under) := goodIn_app (goodIn_of _ (by decide +kernel)) ggL_law_X8_under
