set_option maxRecDepth 20000 in
theorem ggL_law_X5_guests : GoodIn wsL_law wsX5_guests := goodIn_r _ [815, 21, 35, 425, 426, 427, 2, 428, 373, 374, 375, 376, 343, 155, 156, 24, 157, 118, 385, 386, 387, 388, 121, 763, 764, 765, 766, 680, 681, 682, 34, 683, 684, 497, 498, 499, 685, 187, 686, 123, 124, 125, 767, 443, 444, 445, 446, 400, 401, 402, 403, 108, 687, 688, 689, 690, 816, 817, 818, 819, 965, 966, 967, 968, 969, 970, 971, 972, 973, 974, 975, 976, 977, 1003, 1004, 1005, 1006, 1007, 1008, 1009, 1010, 1015, 1016, 1017] (by decide +kernel) (by decide +kernel)
set_option maxRecDepth 20000 in
theorem gL_law_X5_guests : GoodIn wsL_law (wsV RL 104 RX5 yX5_guests wsX5_guests) := goodIn_app (goodIn_of _ (by decide +kernel)) ggL_law_X5_guests
set_option maxRecDepth 20000 in
theorem ggL_law_X6_guests : GoodIn wsL_law wsX6_guests := goodIn_r _ [823, 194, 434, 435, 436, 5, 437, 413, 414, 415, 416, 294, 295, 296, 231, 232, 233, 234, 206, 235, 236, 237, 451, 452, 453, 454, 238, 239, 240, 241, 205, 978, 979, 980, 981, 982, 983, 984, 985, 986, 987, 988, 989, 990, 991, 992, 993, 994, 995, 996, 997, 998, 999] (by decide +kernel) (by decide +kernel)
set_option maxRecDepth 20000 in
theorem gL_law_X6_guests : GoodIn wsL_law (wsV RL 107 RX6 yX6_guests wsX6_guests) := goodIn_app (goodIn_of _ (by decide +kernel)) ggL_law_X6_guests
set_option maxRecDepth 20000 in
theorem ggL_law_X5_court : GoodIn wsL_law wsX5_court := goodIn_r _ [827, 673, 674, 2, 675, 715, 716, 717, 718, 21, 37, 343, 155, 156, 24, 157, 118, 429, 401, 402, 403, 108, 719, 720, 721, 828, 829, 830, 831, 722, 723, 724, 725, 25, 344, 345, 346, 347, 119, 120, 121, 106, 348, 349, 350, 351, 107, 109, 726, 727, 728, 729, 730, 167, 168, 169, 624, 625, 626, 627, 628, 629, 630, 631, 471, 472, 473, 474, 400, 475, 405, 406, 407, 505, 506, 507, 508, 500, 632, 633, 634, 635, 476, 477, 478, 479, 501, 502, 503, 504, 636, 637, 638, 639, 389, 390, 391, 832, 833, 834, 835, 836, 837, 965, 966, 967, 968, 969, 970, 971, 972, 973, 974, 975, 976, 977, 1003, 1004, 1005, 1006, 1007, 1008, 1009, 1010] (by decide +kernel) (by decide +kernel)
set_option maxRecDepth 20000 in
theorem gL_law_X5_court : GoodIn wsL_law (wsV RL 108 RX5 yX5_court wsX5_court) := goodIn_app (goodIn_of _ (by decide +kernel)) ggL_law_X5_court
set_option maxRecDepth 20000 in
theorem ggL_law_X6_court : GoodIn wsL_law wsX6_court := goodIn_r _ [841, 337, 205, 294, 295, 5, 296, 735, 736, 737, 738, 649, 650, 651, 652, 206, 207, 208, 653, 654, 655, 656, 657, 658, 659, 660, 242, 243, 244, 245, 238, 239, 240, 241, 246, 247, 248, 249, 195, 231, 232, 233, 234, 235, 236, 237, 250, 251, 252, 253, 266, 267, 268, 269, 661, 662, 663, 664, 254, 255, 256, 257, 258, 259, 260, 261, 262, 263, 264, 265, 270, 271, 272, 273, 274, 275, 276, 277, 278, 279, 280, 281, 665, 666, 667, 668, 842, 843, 844, 845, 978, 979, 980, 981, 982, 983, 984, 985, 986, 987, 988, 989, 990, 991, 992, 993, 994, 995, 996, 997, 998, 999] (by decide +kernel) (by decide +kernel)
set_option maxRecDepth 20000 in
theorem gL_law_X6_court : GoodIn wsL_law (wsV RL 111 RX6 yX6_court wsX6_court) := goodIn_app (goodIn_of _ (by decide +kernel)) ggL_law_X6_court
set_option maxRecDepth 20000 in
theorem ggL_law_X5_stranger : GoodIn wsL_law wsX5_stranger := goodIn_r _ [849, 21, 25, 673, 674, 2, 675, 343, 155, 156, 24, 157, 118, 344, 345, 346, 347, 119, 120, 121, 106, 348, 349, 350, 351, 107, 108, 109, 624, 625, 626, 627, 628, 629, 630, 631, 471, 472, 473, 474, 400, 401, 402, 403, 475, 405, 406, 407, 505, 506, 507, 508, 500, 167, 168, 169, 632, 633, 634, 635, 476, 477, 478, 479, 501, 502, 503, 504, 636, 637, 638, 639, 850, 851, 852, 853, 854, 159, 160, 161, 446, 386, 387, 388, 965, 966, 967, 968, 969, 970, 971, 972, 973, 974, 975, 976, 977, 1003, 1004, 1005, 1006, 1007, 1008, 1009, 1010] (by decide +kernel) (by decide +kernel)
set_option maxRecDepth 20000 in
theorem gL_law_X5_stranger : GoodIn wsL_law (wsV RL 112 RX5 yX5_stranger wsX5_stranger) := goodIn_app (goodIn_of _ (by decide +kernel)) ggL_law_X5_stranger
set_option maxRecDepth 20000 in
theorem ggL_law_X6_stranger : GoodIn wsL_law wsX6_stranger := goodIn_r _ [858, 194, 195, 206, 208, 294, 295, 5, 296, 649, 650, 651, 652, 205, 207, 653, 654, 655, 656, 657, 658, 659, 660, 242, 243, 244, 245, 238, 239, 240, 241, 246, 247, 248, 249, 231, 232, 233, 234, 235, 236, 237, 250, 251, 252, 253, 266, 267, 268, 269, 661, 662, 663, 664, 254, 255, 256, 257, 258, 259, 260, 261, 262, 263, 264, 265, 270, 271, 272, 273, 274, 275, 276, 277, 278, 279, 280, 281, 665, 666, 667, 668, 978, 979, 980, 981, 982, 983, 984, 985, 986, 987, 988, 989, 990, 991, 992, 993, 994, 995, 996, 997, 998, 999] (by decide +kernel) (by decide +kernel)
set_option maxRecDepth 20000 in
theorem gL_law_X6_stranger : GoodIn wsL_law (wsV RL 115 RX6 yX6_stranger wsX6_stranger) := goodIn_app (goodIn_of _ (by decide +kernel)) ggL_law_X6_stranger
set_option maxRecDepth 20000 in
theorem ggL_law_X5_easter : GoodIn wsL_law wsX5_easter := goodIn_r _ [862, 25, 21, 344, 345, 346, 24, 347, 118, 119, 120, 121, 106, 348, 349, 350, 351, 107, 108, 109, 583, 584, 585, 586, 863, 864, 865, 866, 624, 625, 626, 627, 628, 629, 630, 631, 471, 472, 473, 474, 400, 401, 402, 403, 475, 405, 406, 407, 505, 506, 507, 508, 500, 167, 168, 169, 632, 633, 634, 635, 476, 477, 478, 479, 501, 502, 503, 504, 636, 637, 638, 639, 867, 518, 519, 520, 446, 386, 387, 388, 492, 493, 494, 495, 496, 497, 498, 499, 965, 966, 967, 968, 969, 970, 971, 972, 973, 974, 975, 976, 977, 1003, 1004, 1005, 1006, 1007, 1008, 1009, 1010] (by decide +kernel) (by decide +kernel)
set_option maxRecDepth 20000 in
theorem gL_law_X5_easter : GoodIn wsL_law (wsV RL 116 RX5 yX5_easter wsX5_easter) := goodIn_app (goodIn_of _ (by decide +kernel)) ggL_law_X5_easter
set_option maxRecDepth 20000 in
theorem ggL_law_X6_easter : GoodIn wsL_law wsX6_easter := goodIn_r _ [871, 207, 198, 649, 650, 651, 5, 652, 205, 206, 208, 653, 654, 655, 656, 657, 658, 659, 660, 242, 243, 244, 245, 238, 239, 240, 241, 246, 247, 248, 249, 195, 231, 232, 233, 234, 235, 236, 237, 250, 251, 252, 253, 266, 267, 268, 269, 661, 662, 663, 664, 254, 255, 256, 257, 258, 259, 260, 261, 262, 263, 264, 265, 270, 271, 272, 273, 274, 275, 276, 277, 278, 279, 280, 281, 665, 666, 667, 668, 978, 979, 980, 981, 982, 983, 984, 985, 986, 987, 988, 989, 990, 991, 992, 993, 994, 995, 996, 997, 998, 999] (by decide +kernel) (by decide +kernel)
set_option maxRecDepth 20000 in
theorem gL_law_X6_easter : GoodIn wsL_law (wsV RL 119 RX6 yX6_easter wsX6_easter) := goodIn_app (goodIn_of _ (by decide +kernel)) ggL_law_X6_easter
set_option maxRecDepth 20000 in
theorem ggL_law_X5_silent : GoodIn wsL_law wsX5_silent := goodIn_r _ [875, 361, 362, 965, 966, 967, 968, 969, 970, 971, 972, 973, 974, 975, 976, 977] (by decide +kernel) (by decide +kernel)
set_option maxRecDepth 20000 in
theorem gL_law_X5_silent : GoodIn wsL_law (wsV RL 120 RX5 yX5_silent wsX5_silent) := goodIn_app (goodIn_of _ (by decide +kernel)) ggL_law_X5_silent
set_option maxRecDepth 20000 in
theorem ggL_law_X6_silent : GoodIn wsL_law wsX6_silent := goodIn_r _ [879, 880, 368, 203, 294, 295, 5, 296, 978, 979, 980, 981, 982, 983, 984, 985, 986, 987, 988, 989, 990, 991, 992, 993, 994, 995, 996, 997, 998, 999] (by decide +kernel) (by decide +kernel)
set_option maxRecDepth 20000 in
theorem gL_law_X6_silent : GoodIn wsL_law (wsV RL 123 RX6 yX6_silent wsX6_silent) := goodIn_app (goodIn_of _ (by decide +kernel)) ggL_law_X6_silent
set_option maxRecDepth 20000 in
theorem ggL_law_X5_forget : GoodIn wsL_law wsX5_forget := goodIn_r _ [884, 361, 357, 358, 359, 2, 360, 362, 965, 966, 967, 968, 969, 970, 971, 972, 973, 974, 975, 976, 977] (by decide +kernel) (by decide +kernel)
set_option maxRecDepth 20000 in
theorem gL_law_X5_forget : GoodIn wsL_law (wsV RL 124 RX5 yX5_forget wsX5_forget) := goodIn_app (goodIn_of _ (by decide +kernel)) ggL_law_X5_forget
