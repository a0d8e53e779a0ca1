set_option maxRecDepth 20000 in
theorem ggL_law_X6_forgiven : GoodIn wsL_law wsX6_forgiven := goodIn_r _ [734, 205, 294, 295, 5, 296, 649, 650, 651, 652, 206, 207, 208, 735, 736, 737, 738, 653, 654, 655, 656, 657, 658, 659, 660, 242, 243, 244, 245, 238, 239, 240, 241, 246, 247, 248, 249, 195, 231, 232, 233, 234, 235, 236, 237, 250, 251, 252, 253, 266, 267, 268, 269, 661, 662, 663, 664, 254, 255, 256, 257, 258, 259, 260, 261, 262, 263, 264, 265, 270, 271, 272, 273, 274, 275, 276, 277, 278, 279, 280, 281, 665, 666, 667, 668, 978, 979, 980, 981, 982, 983, 984, 985, 986, 987, 988, 989, 990, 991, 992, 993, 994, 995, 996, 997, 998, 999] (by decide +kernel) (by decide +kernel)
set_option maxRecDepth 20000 in
theorem gL_law_X6_forgiven : GoodIn wsL_law (wsV RL 83 RX6 yX6_forgiven wsX6_forgiven) := goodIn_app (goodIn_of _ (by decide +kernel)) ggL_law_X6_forgiven
set_option maxRecDepth 20000 in
theorem ggL_law_X5_mustNot : GoodIn wsL_law wsX5_mustNot := goodIn_r _ [742, 21, 373, 374, 375, 2, 376, 343, 155, 156, 24, 157, 118, 385, 386, 387, 388, 121, 722, 723, 724, 725, 25, 344, 345, 346, 347, 119, 120, 106, 348, 349, 350, 351, 107, 108, 109, 726, 727, 728, 729, 37, 730, 167, 168, 169, 624, 625, 626, 627, 628, 629, 630, 631, 471, 472, 473, 474, 400, 401, 402, 403, 475, 405, 406, 407, 505, 506, 507, 508, 500, 632, 633, 634, 635, 476, 477, 478, 479, 501, 502, 503, 504, 636, 637, 638, 639, 467, 468, 469, 470, 446, 743, 744, 745, 746, 488, 489, 490, 491, 492, 493, 494, 495, 496, 497, 498, 499, 509, 510, 511, 512, 513, 514, 515, 516, 517, 518, 519, 520, 965, 966, 967, 968, 969, 970, 971, 972, 973, 974, 975, 976, 977, 1003, 1004, 1005, 1006, 1007, 1008, 1009, 1010] (by decide +kernel) (by decide +kernel)
set_option maxRecDepth 20000 in
theorem gL_law_X5_mustNot : GoodIn wsL_law (wsV RL 84 RX5 yX5_mustNot wsX5_mustNot) := goodIn_app (goodIn_of _ (by decide +kernel)) ggL_law_X5_mustNot
set_option maxRecDepth 20000 in
theorem ggL_law_X6_mustNot : GoodIn wsL_law wsX6_mustNot := goodIn_r _ [750, 194, 413, 414, 415, 5, 416, 294, 295, 296, 231, 232, 233, 234, 206, 235, 236, 237, 735, 736, 737, 738, 649, 650, 651, 652, 205, 207, 208, 653, 654, 655, 656, 657, 658, 659, 660, 242, 243, 244, 245, 238, 239, 240, 241, 246, 247, 248, 249, 195, 250, 251, 252, 253, 266, 267, 268, 269, 661, 662, 663, 664, 254, 255, 256, 257, 258, 259, 260, 261, 262, 263, 264, 265, 270, 271, 272, 273, 274, 275, 276, 277, 278, 279, 280, 281, 665, 666, 667, 668, 227, 228, 229, 230, 978, 979, 980, 981, 982, 983, 984, 985, 986, 987, 988, 989, 990, 991, 992, 993, 994, 995, 996, 997, 998, 999] (by decide +kernel) (by decide +kernel)
set_option maxRecDepth 20000 in
theorem gL_law_X6_mustNot : GoodIn wsL_law (wsV RL 87 RX6 yX6_mustNot wsX6_mustNot) := goodIn_app (goodIn_of _ (by decide +kernel)) ggL_law_X6_mustNot
set_option maxRecDepth 20000 in
theorem ggL_law_X5_began : GoodIn wsL_law wsX5_began := goodIn_r _ [754, 29, 25, 722, 723, 724, 2, 725, 21, 344, 345, 346, 24, 347, 118, 119, 120, 121, 106, 348, 349, 350, 351, 107, 108, 109, 726, 727, 728, 729, 37, 730, 167, 168, 169, 624, 625, 626, 627, 628, 629, 630, 631, 471, 472, 473, 474, 400, 401, 402, 403, 475, 405, 406, 407, 505, 506, 507, 508, 500, 632, 633, 634, 635, 476, 477, 478, 479, 501, 502, 503, 504, 636, 637, 638, 639, 480, 481, 482, 28, 483, 356, 600, 601, 602, 603, 20, 604, 605, 606, 607, 181, 608, 609, 610, 611, 182, 612, 613, 614, 615, 183, 467, 468, 469, 470, 446, 386, 387, 388, 488, 489, 490, 491, 492, 493, 494, 495, 496, 497, 498, 499, 509, 510, 511, 512, 513, 514, 515, 516, 517, 518, 519, 520, 965, 966, 967, 968, 969, 970, 971, 972, 973, 974, 975, 976, 977, 1003, 1004, 1005, 1006, 1007, 1008, 1009, 1010, 1011, 1012, 1013, 1014] (by decide +kernel) (by decide +kernel)
set_option maxRecDepth 20000 in
theorem gL_law_X5_began : GoodIn wsL_law (wsV RL 88 RX5 yX5_began wsX5_began) := goodIn_app (goodIn_of _ (by decide +kernel)) ggL_law_X5_began
set_option maxRecDepth 20000 in
theorem ggL_law_X6_began : GoodIn wsL_law wsX6_began := goodIn_r _ [758, 199, 735, 736, 737, 5, 738, 649, 650, 651, 652, 205, 206, 207, 208, 653, 654, 655, 656, 657, 658, 659, 660, 242, 243, 244, 245, 238, 239, 240, 241, 246, 247, 248, 249, 195, 231, 232, 233, 234, 235, 236, 237, 250, 251, 252, 253, 266, 267, 268, 269, 661, 662, 663, 664, 254, 255, 256, 257, 258, 259, 260, 261, 262, 263, 264, 265, 270, 271, 272, 273, 274, 275, 276, 277, 278, 279, 280, 281, 665, 666, 667, 668, 223, 224, 225, 226, 197, 194, 200, 201, 202, 227, 228, 229, 230, 978, 979, 980, 981, 982, 983, 984, 985, 986, 987, 988, 989, 990, 991, 992, 993, 994, 995, 996, 997, 998, 999] (by decide +kernel) (by decide +kernel)
set_option maxRecDepth 20000 in
theorem gL_law_X6_began : GoodIn wsL_law (wsV RL 91 RX6 yX6_began wsX6_began) := goodIn_app (goodIn_of _ (by decide +kernel)) ggL_law_X6_began
set_option maxRecDepth 20000 in
theorem ggL_law_X5_word : GoodIn wsL_law wsX5_word := goodIn_r _ [762, 21, 35, 373, 374, 375, 2, 376, 343, 155, 156, 24, 157, 118, 385, 386, 387, 388, 121, 763, 764, 765, 766, 680, 681, 682, 34, 683, 684, 497, 498, 499, 685, 187, 686, 123, 124, 125, 767, 443, 444, 445, 446, 400, 401, 402, 403, 108, 687, 688, 689, 690, 695, 696, 697, 698, 699, 700, 701, 702, 965, 966, 967, 968, 969, 970, 971, 972, 973, 974, 975, 976, 977, 1003, 1004, 1005, 1006, 1007, 1008, 1009, 1010, 1015, 1016, 1017] (by decide +kernel) (by decide +kernel)
set_option maxRecDepth 20000 in
theorem gL_law_X5_word : GoodIn wsL_law (wsV RL 92 RX5 yX5_word wsX5_word) := goodIn_app (goodIn_of _ (by decide +kernel)) ggL_law_X5_word
set_option maxRecDepth 20000 in
theorem ggL_law_X6_word : GoodIn wsL_law wsX6_word := goodIn_r _ [771, 413, 414, 415, 5, 416, 194, 294, 295, 296, 231, 232, 233, 234, 206, 235, 236, 237, 451, 452, 453, 454, 238, 239, 240, 241, 205, 978, 979, 980, 981, 982, 983, 984, 985, 986, 987, 988, 989, 990, 991, 992, 993, 994, 995, 996, 997, 998, 999] (by decide +kernel) (by decide +kernel)
set_option maxRecDepth 20000 in
theorem gL_law_X6_word : GoodIn wsL_law (wsV RL 95 RX6 yX6_word wsX6_word) := goodIn_app (goodIn_of _ (by decide +kernel)) ggL_law_X6_word
set_option maxRecDepth 20000 in
theorem ggL_law_X5_vote : GoodIn wsL_law wsX5_vote := goodIn_r _ [775, 21, 35, 763, 764, 765, 24, 766, 118, 680, 681, 682, 34, 683, 684, 497, 498, 499, 685, 187, 686, 123, 124, 125, 767, 443, 444, 445, 446, 386, 387, 388, 121, 400, 401, 402, 403, 108, 687, 688, 689, 690, 561, 562, 563, 564, 776, 777, 778, 779, 780, 566, 567, 568, 569, 570, 571, 781, 782, 783, 784, 965, 966, 967, 968, 969, 970, 971, 972, 973, 974, 975, 976, 977, 1003, 1004, 1005, 1006, 1007, 1008, 1009, 1010, 1015, 1016, 1017] (by decide +kernel) (by decide +kernel)
set_option maxRecDepth 20000 in
theorem gL_law_X5_vote : GoodIn wsL_law (wsV RL 96 RX5 yX5_vote wsX5_vote) := goodIn_app (goodIn_of _ (by decide +kernel)) ggL_law_X5_vote
set_option maxRecDepth 20000 in
theorem ggL_law_X6_vote : GoodIn wsL_law wsX6_vote := goodIn_r _ [788, 194, 576, 577, 5, 578, 789, 790, 791, 792, 206, 235, 236, 237, 451, 452, 453, 454, 231, 232, 233, 234, 238, 239, 240, 241, 205, 978, 979, 980, 981, 982, 983, 984, 985, 986, 987, 988, 989, 990, 991, 992, 993, 994, 995, 996, 997, 998, 999] (by decide +kernel) (by decide +kernel)
set_option maxRecDepth 20000 in
theorem gL_law_X6_vote : GoodIn wsL_law (wsV RL 99 RX6 yX6_vote wsX6_vote) := goodIn_app (goodIn_of _ (by decide +kernel)) ggL_law_X6_vote
set_option maxRecDepth 20000 in
theorem ggL_law_X5_deals : GoodIn wsL_law wsX5_deals := goodIn_r _ [796, 21, 35, 763, 764, 765, 24, 766, 118, 680, 681, 682, 34, 683, 684, 497, 498, 499, 685, 187, 686, 123, 124, 125, 767, 443, 444, 445, 446, 386, 387, 388, 121, 400, 401, 402, 403, 108, 687, 688, 689, 690, 797, 798, 799, 800, 188, 801, 802, 803, 804, 805, 806, 807, 780, 566, 567, 568, 569, 570, 571, 965, 966, 967, 968, 969, 970, 971, 972, 973, 974, 975, 976, 977, 1003, 1004, 1005, 1006, 1007, 1008, 1009, 1010, 1015, 1016, 1017] (by decide +kernel) (by decide +kernel)
set_option maxRecDepth 20000 in
theorem gL_law_X5_deals : GoodIn wsL_law (wsV RL 100 RX5 yX5_deals wsX5_deals) := goodIn_app (goodIn_of _ (by decide +kernel)) ggL_law_X5_deals
set_option maxRecDepth 20000 in
theorem ggL_law_X6_deals : GoodIn wsL_law wsX6_deals := goodIn_r _ [811, 194, 210, 235, 236, 5, 237, 451, 452, 453, 454, 231, 232, 233, 234, 206, 238, 239, 240, 241, 205, 978, 979, 980, 981, 982, 983, 984, 985, 986, 987, 988, 989, 990, 991, 992, 993, 994, 995, 996, 997, 998, 999] (by decide +kernel) (by decide +kernel)
set_option maxRecDepth 20000 in
theorem gL_law_X6_deals : GoodIn wsL_law (wsV RL 103 RX6 yX6_deals wsX6_deals) := goodIn_app (goodIn_of _ (by decide +kernel)) ggL_law_X6_deals
