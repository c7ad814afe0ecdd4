set_option maxRecDepth 20000 in
theorem ggL_law_X7_limit : GoodIn wsL_law wsX7_limit := goodIn_r _ [270, 15, 271, 157, 158, 2, 159, 928, 929, 930, 931, 932, 933, 980, 981, 982, 983, 984, 985, 986, 987, 988, 989, 990, 991] (by decide +kernel) (by decide +kernel)
set_option maxRecDepth 20000 in
theorem gL_law_X7_limit : GoodIn wsL_law (wsV RL 35 RX7 yX7_limit wsX7_limit) := goodIn_app (goodIn_of _ (by decide +kernel)) ggL_law_X7_limit
set_option maxRecDepth 20000 in
theorem ggL_law_X8_limit : GoodIn wsL_law wsX8_limit := goodIn_r _ [275, 129, 176, 177, 5, 178, 934, 935, 936, 937, 938, 939, 940, 941, 942, 943, 944, 945, 946, 947, 948, 949, 950, 951, 952, 953, 954, 955, 956, 957, 958, 959, 960, 961, 962, 963, 964, 965, 966, 967, 968, 969, 970, 971, 972, 973, 974, 975, 976, 977, 978, 979] (by decide +kernel) (by decide +kernel)
set_option maxRecDepth 20000 in
theorem gL_law_X8_limit : GoodIn wsL_law (wsV RL 38 RX8 yX8_limit wsX8_limit) := goodIn_app (goodIn_of _ (by decide +kernel)) ggL_law_X8_limit
set_option maxRecDepth 20000 in
theorem ggL_law_X7_minutes : GoodIn wsL_law wsX7_minutes := goodIn_r _ [279, 15, 280, 281, 157, 158, 2, 159, 282, 283, 284, 285, 32, 19, 286, 287, 288, 289, 14, 290, 38, 45, 291, 292, 197, 293, 46, 48, 51, 294, 295, 296, 18, 297, 61, 60, 64, 298, 299, 300, 301, 302, 303, 304, 305, 306, 307, 308, 309, 310, 23, 311, 312, 313, 314, 315, 22, 316, 84, 317, 318, 319, 320, 85, 86, 321, 322, 323, 324, 75, 325, 326, 327, 328, 329, 330, 74, 72, 87, 928, 929, 930, 931, 932, 933, 980, 981, 982, 983, 984, 985, 986, 987, 988, 989, 990, 991, 992, 993, 994, 995, 996, 997, 998, 999, 1000, 1001, 1002, 1003, 1004, 1005, 1006, 1007, 1008, 1009, 1010, 1011] (by decide +kernel) (by decide +kernel)
set_option maxRecDepth 20000 in
theorem gL_law_X7_minutes : GoodIn wsL_law (wsV RL 39 RX7 yX7_minutes wsX7_minutes) := goodIn_app (goodIn_of _ (by decide +kernel)) ggL_law_X7_minutes
set_option maxRecDepth 20000 in
theorem ggL_law_X8_minutes : GoodIn wsL_law wsX8_minutes := goodIn_r _ [334, 132, 335, 176, 177, 5, 178, 336, 337, 338, 339, 126, 128, 170, 171, 174, 135, 134, 130, 175, 340, 341, 342, 343, 344, 345, 346, 347, 136, 138, 133, 348, 349, 350, 351, 352, 353, 139, 934, 935, 936, 937, 938, 939, 940, 941, 942, 943, 944, 945, 946, 947, 948, 949, 950, 951, 952, 953, 954, 955, 956, 957, 958, 959, 960, 961, 962, 963, 964, 965, 966, 967, 968, 969, 970, 971, 972, 973, 974, 975, 976, 977, 978, 979] (by decide +kernel) (by decide +kernel)
set_option maxRecDepth 20000 in
theorem gL_law_X8_minutes : GoodIn wsL_law (wsV RL 42 RX8 yX8_minutes wsX8_minutes) := goodIn_app (goodIn_of _ (by decide +kernel)) ggL_law_X8_minutes
set_option maxRecDepth 20000 in
theorem ggL_law_X7_air : GoodIn wsL_law wsX7_air := goodIn_r _ [357, 15, 358, 359, 360, 361, 362, 156, 19, 248, 280, 281, 363, 364, 365, 14, 366, 37, 199, 200, 201, 202, 45, 46, 367, 368, 369, 211, 212, 213, 160, 161, 162, 18, 163, 58, 370, 371, 372, 373, 38, 374, 375, 204, 205, 206, 44, 928, 929, 930, 931, 932, 933, 980, 981, 982, 983, 984, 985, 986, 987, 988, 989, 990, 991, 992, 993, 994, 995, 996, 997, 998, 999] (by decide +kernel) (by decide +kernel)
set_option maxRecDepth 20000 in
theorem gL_law_X7_air : GoodIn wsL_law (wsV RL 43 RX7 yX7_air wsX7_air) := goodIn_app (goodIn_of _ (by decide +kernel)) ggL_law_X7_air
set_option maxRecDepth 20000 in
theorem ggL_law_X8_air : GoodIn wsL_law wsX8_air := goodIn_r _ [379, 169, 126, 170, 127, 171, 172, 125, 173, 174, 175, 222, 223, 224, 5, 225, 380, 381, 382, 383, 384, 385, 386, 387, 388, 128, 179, 180, 181, 182, 132, 226, 227, 228, 229, 934, 935, 936, 937, 938, 939, 940, 941, 942, 943, 944, 945, 946, 947, 948, 949, 950, 951, 952, 953, 954, 955, 956, 957, 958, 959, 960, 961, 962, 963, 964, 965, 966, 967, 968, 969, 970, 971, 972, 973, 974, 975, 976, 977, 978, 979] (by decide +kernel) (by decide +kernel)
set_option maxRecDepth 20000 in
theorem gL_law_X8_air : GoodIn wsL_law (wsV RL 46 RX8 yX8_air wsX8_air) := goodIn_app (goodIn_of _ (by decide +kernel)) ggL_law_X8_air
set_option maxRecDepth 20000 in
theorem ggL_law_X7_fewest : GoodIn wsL_law wsX7_fewest := goodIn_r _ [392, 15, 157, 158, 2, 159, 393, 394, 395, 14, 396, 45, 46, 39, 195, 196, 197, 198, 397, 368, 369, 211, 212, 213, 203, 204, 205, 206, 44, 37, 928, 929, 930, 931, 932, 933, 980, 981, 982, 983, 984, 985, 986, 987, 988, 989, 990, 991] (by decide +kernel) (by decide +kernel)
set_option maxRecDepth 20000 in
theorem gL_law_X7_fewest : GoodIn wsL_law (wsV RL 47 RX7 yX7_fewest wsX7_fewest) := goodIn_app (goodIn_of _ (by decide +kernel)) ggL_law_X7_fewest
set_option maxRecDepth 20000 in
theorem ggL_law_X8_fewest : GoodIn wsL_law wsX8_fewest := goodIn_r _ [401, 126, 170, 172, 129, 176, 177, 5, 178, 380, 381, 382, 383, 222, 223, 224, 225, 226, 227, 228, 229, 125, 169, 230, 231, 232, 233, 934, 935, 936, 937, 938, 939, 940, 941, 942, 943, 944, 945, 946, 947, 948, 949, 950, 951, 952, 953, 954, 955, 956, 957, 958, 959, 960, 961, 962, 963, 964, 965, 966, 967, 968, 969, 970, 971, 972, 973, 974, 975, 976, 977, 978, 979] (by decide +kernel) (by decide +kernel)
set_option maxRecDepth 20000 in
theorem gL_law_X8_fewest : GoodIn wsL_law (wsV RL 50 RX8 yX8_fewest wsX8_fewest) := goodIn_app (goodIn_of _ (by decide +kernel)) ggL_law_X8_fewest
set_option maxRecDepth 20000 in
theorem ggL_law_X7_go : GoodIn wsL_law wsX7_go := goodIn_r _ [405, 19, 286, 15, 155, 406, 407, 2, 408, 157, 158, 159, 409, 410, 411, 18, 412, 58, 59, 60, 61, 928, 929, 930, 931, 932, 933, 992, 993, 994, 995, 996, 997, 998, 999, 980, 981, 982, 983, 984, 985, 986, 987, 988, 989, 990, 991] (by decide +kernel) (by decide +kernel)
set_option maxRecDepth 20000 in
theorem gL_law_X7_go : GoodIn wsL_law (wsV RL 51 RX7 yX7_go wsX7_go) := goodIn_app (goodIn_of _ (by decide +kernel)) ggL_law_X7_go
set_option maxRecDepth 20000 in
theorem ggL_law_X8_go : GoodIn wsL_law wsX8_go := goodIn_r _ [416, 132, 169, 417, 418, 5, 419, 176, 177, 178, 934, 935, 936, 937, 938, 939, 940, 941, 942, 943, 944, 945, 946, 947, 948, 949, 950, 951, 952, 953, 954, 955, 956, 957, 958, 959, 960, 961, 962, 963, 964, 965, 966, 967, 968, 969, 970, 971, 972, 973, 974, 975, 976, 977, 978, 979] (by decide +kernel) (by decide +kernel)
set_option maxRecDepth 20000 in
theorem gL_law_X8_go : GoodIn wsL_law (wsV RL 55 RX8 yX8_go wsX8_go) := goodIn_app (goodIn_of _ (by decide +kernel)) ggL_law_X8_go
set_option maxRecDepth 20000 in
theorem ggL_law_X7_out : GoodIn wsL_law wsX7_out := goodIn_r _ [423, 19, 286, 424, 425, 426, 406, 407, 2, 408, 157, 158, 159, 427, 428, 429, 430, 431, 432, 433, 303, 304, 18, 305, 60, 434, 435, 436, 437, 438, 439, 440, 441, 197, 442, 443, 444, 445, 446, 58, 59, 928, 929, 930, 931, 932, 933, 992, 993, 994, 995, 996, 997, 998, 999] (by decide +kernel) (by decide +kernel)
set_option maxRecDepth 20000 in
theorem gL_law_X7_out : GoodIn wsL_law (wsV RL 56 RX7 yX7_out wsX7_out) := goodIn_app (goodIn_of _ (by decide +kernel)) ggL_law_X7_out
set_option maxRecDepth 20000 in
theorem ggL_law_X8_out : GoodIn wsL_law wsX8_out := goodIn_r _ [450, 132, 134, 131, 137, 135, 133, 417, 418, 5, 419, 176, 177, 178, 451, 452, 453, 454, 455, 456, 340, 341, 342, 343, 457, 458, 459, 934, 935, 936, 937, 938, 939, 940, 941, 942, 943, 944, 945, 946, 947, 948, 949, 950, 951, 952, 953, 954, 955, 956, 957, 958, 959, 960, 961, 962, 963, 964, 965, 966, 967, 968, 969, 970, 971, 972, 973, 974, 975, 976, 977, 978, 979] (by decide +kernel) (by decide +kernel)
set_option maxRecDepth 20000 in
theorem gL_law_X8_out : GoodIn wsL_law (wsV RL 60 RX8 yX8_out wsX8_out) := goodIn_app (goodIn_of _ (by decide +kernel)) ggL_law_X8_out
