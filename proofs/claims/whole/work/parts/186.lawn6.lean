set_option maxRecDepth 20000 in
theorem ggL_law_X6_forget : GoodIn wsL_law wsX6_forget := goodIn_r _ [888, 368, 978, 979, 980, 981, 982, 983, 984, 985, 986, 987, 988, 989, 990, 991, 992, 993, 994, 995, 996, 997, 998, 999] (by decide +kernel) (by decide +kernel)
set_option maxRecDepth 20000 in
theorem gL_law_X6_forget : GoodIn wsL_law (wsV RL 127 RX6 yX6_forget wsX6_forget) := goodIn_app (goodIn_of _ (by decide +kernel)) ggL_law_X6_forget
set_option maxRecDepth 20000 in
theorem ggL_law_X5_fits : GoodIn wsL_law wsX5_fits := goodIn_r _ [892, 21, 673, 674, 2, 675, 343, 155, 156, 24, 157, 118, 893, 894, 895, 896, 25, 362, 467, 468, 469, 470, 446, 386, 387, 388, 121, 400, 401, 402, 403, 108, 471, 472, 473, 474, 475, 405, 406, 407, 106, 109, 476, 477, 478, 479, 344, 345, 346, 347, 119, 120, 348, 349, 350, 351, 107, 488, 489, 490, 491, 492, 493, 494, 495, 496, 497, 498, 499, 500, 167, 168, 169, 501, 502, 503, 504, 505, 506, 507, 508, 509, 510, 511, 512, 513, 514, 515, 516, 517, 518, 519, 520, 897, 898, 899, 900, 767, 443, 444, 445, 719, 720, 721, 965, 966, 967, 968, 969, 970, 971, 972, 973, 974, 975, 976, 977, 1003, 1004, 1005, 1006, 1007, 1008, 1009, 1010] (by decide +kernel) (by decide +kernel)
set_option maxRecDepth 20000 in
theorem gL_law_X5_fits : GoodIn wsL_law (wsV RL 128 RX5 yX5_fits wsX5_fits) := goodIn_app (goodIn_of _ (by decide +kernel)) ggL_law_X5_fits
set_option maxRecDepth 20000 in
theorem ggL_law_X6_fits : GoodIn wsL_law wsX6_fits := goodIn_r _ [904, 294, 295, 5, 296, 434, 435, 436, 437, 413, 414, 415, 416, 194, 227, 228, 229, 230, 231, 232, 233, 234, 206, 235, 236, 237, 238, 239, 240, 241, 205, 242, 243, 244, 245, 246, 247, 248, 249, 195, 250, 251, 252, 253, 254, 255, 256, 257, 649, 650, 651, 652, 207, 208, 258, 259, 260, 261, 262, 263, 264, 265, 266, 267, 268, 269, 270, 271, 272, 273, 274, 275, 276, 277, 278, 279, 280, 281, 905, 906, 907, 908, 368, 196, 203, 451, 452, 453, 454, 978, 979, 980, 981, 982, 983, 984, 985, 986, 987, 988, 989, 990, 991, 992, 993, 994, 995, 996, 997, 998, 999] (by decide +kernel) (by decide +kernel)
set_option maxRecDepth 20000 in
theorem gL_law_X6_fits : GoodIn wsL_law (wsV RL 131 RX6 yX6_fits wsX6_fits) := goodIn_app (goodIn_of _ (by decide +kernel)) ggL_law_X6_fits
set_option maxRecDepth 20000 in
theorem ggL_law_X5_year : GoodIn wsL_law wsX5_year := goodIn_r _ [912, 25, 21, 673, 674, 2, 675, 344, 345, 346, 24, 347, 118, 119, 120, 121, 106, 348, 349, 350, 351, 107, 108, 109, 913, 914, 915, 916, 917, 918, 919, 343, 155, 156, 157, 867, 518, 519, 520, 446, 386, 387, 388, 492, 493, 494, 495, 496, 497, 498, 499, 400, 401, 402, 403, 500, 167, 168, 169, 467, 468, 469, 470, 471, 472, 473, 474, 475, 405, 406, 407, 476, 477, 478, 479, 488, 489, 490, 491, 501, 502, 503, 504, 505, 506, 507, 508, 509, 510, 511, 512, 513, 514, 515, 516, 517, 389, 390, 391, 636, 637, 638, 639, 965, 966, 967, 968, 969, 970, 971, 972, 973, 974, 975, 976, 977, 1003, 1004, 1005, 1006, 1007, 1008, 1009, 1010] (by decide +kernel) (by decide +kernel)
set_option maxRecDepth 20000 in
theorem gL_law_X5_year : GoodIn wsL_law (wsV RL 132 RX5 yX5_year wsX5_year) := goodIn_app (goodIn_of _ (by decide +kernel)) ggL_law_X5_year
set_option maxRecDepth 20000 in
theorem ggL_law_X6_year : GoodIn wsL_law wsX6_year := goodIn_r _ [923, 924, 326, 925, 926, 927, 194, 294, 295, 5, 296, 649, 650, 651, 652, 205, 206, 207, 208, 278, 279, 280, 281, 195, 231, 232, 233, 234, 235, 236, 237, 238, 239, 240, 241, 262, 263, 264, 265, 227, 228, 229, 230, 242, 243, 244, 245, 246, 247, 248, 249, 250, 251, 252, 253, 254, 255, 256, 257, 258, 259, 260, 261, 266, 267, 268, 269, 270, 271, 272, 273, 274, 275, 276, 277, 665, 666, 667, 668, 978, 979, 980, 981, 982, 983, 984, 985, 986, 987, 988, 989, 990, 991, 992, 993, 994, 995, 996, 997, 998, 999] (by decide +kernel) (by decide +kernel)
set_option maxRecDepth 20000 in
theorem gL_law_X6_year : GoodIn wsL_law (wsV RL 136 RX6 yX6_year wsX6_year) := goodIn_app (goodIn_of _ (by decide +kernel)) ggL_law_X6_year
set_option maxRecDepth 20000 in
theorem ggL_law_X5_keep : GoodIn wsL_law wsX5_keep := goodIn_r _ [931, 342, 29, 932, 933, 934, 2, 935, 30, 31, 936, 937, 938, 28, 939, 181, 940, 349, 350, 351, 182, 183, 356, 965, 966, 967, 968, 969, 970, 971, 972, 973, 974, 975, 976, 977, 1011, 1012, 1013, 1014] (by decide +kernel) (by decide +kernel)
set_option maxRecDepth 20000 in
theorem gL_law_X5_keep : GoodIn wsL_law (wsV RL 137 RX5 yX5_keep wsX5_keep) := goodIn_app (goodIn_of _ (by decide +kernel)) ggL_law_X5_keep
set_option maxRecDepth 20000 in
theorem ggL_law_X6_keep : GoodIn wsL_law wsX6_keep := goodIn_r _ [944, 367, 945, 946, 947, 5, 948, 199, 200, 201, 202, 978, 979, 980, 981, 982, 983, 984, 985, 986, 987, 988, 989, 990, 991, 992, 993, 994, 995, 996, 997, 998, 999] (by decide +kernel) (by decide +kernel)
set_option maxRecDepth 20000 in
theorem gL_law_X6_keep : GoodIn wsL_law (wsV RL 140 RX6 yX6_keep wsX6_keep) := goodIn_app (goodIn_of _ (by decide +kernel)) ggL_law_X6_keep
set_option maxRecDepth 20000 in
theorem ggL_law_X5_back : GoodIn wsL_law wsX5_back := goodIn_r _ [952, 342, 29, 21, 932, 933, 934, 2, 935, 30, 31, 936, 937, 938, 28, 939, 181, 940, 349, 350, 351, 182, 183, 356, 600, 601, 602, 603, 20, 344, 345, 346, 24, 347, 118, 119, 120, 121, 106, 348, 107, 108, 109, 480, 481, 482, 483, 604, 605, 606, 607, 608, 609, 610, 611, 612, 613, 614, 615, 467, 468, 469, 470, 446, 386, 387, 388, 400, 401, 402, 403, 471, 472, 473, 474, 475, 405, 406, 407, 476, 477, 478, 479, 488, 489, 490, 491, 492, 493, 494, 495, 496, 497, 498, 499, 500, 167, 168, 169, 501, 502, 503, 504, 505, 506, 507, 508, 509, 510, 511, 512, 513, 514, 515, 516, 517, 518, 519, 520, 965, 966, 967, 968, 969, 970, 971, 972, 973, 974, 975, 976, 977, 1011, 1012, 1013, 1014, 1003, 1004, 1005, 1006, 1007, 1008, 1009, 1010] (by decide +kernel) (by decide +kernel)
set_option maxRecDepth 20000 in
theorem gL_law_X5_back : GoodIn wsL_law (wsV RL 141 RX5 yX5_back wsX5_back) := goodIn_app (goodIn_of _ (by decide +kernel)) ggL_law_X5_back
set_option maxRecDepth 20000 in
theorem ggL_law_X6_back : GoodIn wsL_law wsX6_back := goodIn_r _ [956, 367, 945, 946, 947, 5, 948, 199, 200, 201, 202, 219, 220, 221, 222, 223, 224, 225, 226, 205, 197, 206, 194, 207, 208, 227, 228, 229, 230, 231, 232, 233, 234, 235, 236, 237, 238, 239, 240, 241, 242, 243, 244, 245, 246, 247, 248, 249, 195, 250, 251, 252, 253, 254, 255, 256, 257, 258, 259, 260, 261, 262, 263, 264, 265, 266, 267, 268, 269, 270, 271, 272, 273, 274, 275, 276, 277, 278, 279, 280, 281, 978, 979, 980, 981, 982, 983, 984, 985, 986, 987, 988, 989, 990, 991, 992, 993, 994, 995, 996, 997, 998, 999] (by decide +kernel) (by decide +kernel)
set_option maxRecDepth 20000 in
theorem gL_law_X6_back : GoodIn wsL_law (wsV RL 144 RX6 yX6_back wsX6_back) := goodIn_app (goodIn_of _ (by decide +kernel)) ggL_law_X6_back
set_option maxRecDepth 20000 in
theorem ggL_law_X5_count : GoodIn wsL_law wsX5_count := goodIn_r _ [960, 21, 29, 361, 342, 15, 343, 155, 156, 24, 157, 118, 561, 562, 563, 564, 121, 565, 566, 567, 568, 569, 570, 571, 583, 584, 585, 586, 119, 636, 637, 638, 639, 109, 480, 481, 482, 28, 483, 356, 286, 127, 128, 14, 129, 102, 965, 966, 967, 968, 969, 970, 971, 972, 973, 974, 975, 976, 977, 1003, 1004, 1005, 1006, 1007, 1008, 1009, 1010, 1011, 1012, 1013, 1014, 1000, 1001] (by decide +kernel) (by decide +kernel)
set_option maxRecDepth 20000 in
theorem gL_law_X5_count : GoodIn wsL_law (wsV RL 145 RX5 yX5_count wsX5_count) := goodIn_app (goodIn_of _ (by decide +kernel)) ggL_law_X5_count
set_option maxRecDepth 20000 in
theorem ggL_law_X6_count : GoodIn wsL_law wsX6_count := goodIn_r _ [964, 194, 206, 207, 199, 368, 367, 293, 576, 577, 5, 578, 665, 666, 667, 668, 250, 251, 252, 253, 238, 239, 240, 241, 205, 978, 979, 980, 981, 982, 983, 984, 985, 986, 987, 988, 989, 990, 991, 992, 993, 994, 995, 996, 997, 998, 999] (by decide +kernel) (by decide +kernel)
set_option maxRecDepth 20000 in
theorem gL_law_X6_count : GoodIn wsL_law (wsV RL 148 RX6 yX6_count wsX6_count) := goodIn_app (goodIn_of _ (by decide +kernel)) ggL_law_X6_count
