set_option maxRecDepth 20000 in
theorem ggL_law_X5_write : GoodIn wsL_law wsX5_write := goodIn_r _ [285, 15, 286, 127, 128, 14, 129, 102, 98, 99, 100, 101, 41, 965, 966, 967, 968, 969, 970, 971, 972, 973, 974, 975, 976, 977, 1000, 1001] (by decide +kernel) (by decide +kernel)
set_option maxRecDepth 20000 in
theorem gL_law_X5_write : GoodIn wsL_law (wsV RL 13 RX5 yX5_write wsX5_write) := goodIn_app (goodIn_of _ (by decide +kernel)) ggL_law_X5_write
set_option maxRecDepth 20000 in
theorem ggL_law_X6_write : GoodIn wsL_law wsX6_write := goodIn_r _ [290, 291, 292, 293, 193, 294, 295, 5, 296, 978, 979, 980, 981, 982, 983, 984, 985, 986, 987, 988, 989, 990, 991, 992, 993, 994, 995, 996, 997, 998, 999] (by decide +kernel) (by decide +kernel)
set_option maxRecDepth 20000 in
theorem gL_law_X6_write : GoodIn wsL_law (wsV RL 17 RX6 yX6_write wsX6_write) := goodIn_app (goodIn_of _ (by decide +kernel)) ggL_law_X6_write
set_option maxRecDepth 20000 in
theorem ggL_law_X5_wipe : GoodIn wsL_law wsX5_wipe := goodIn_r _ [300, 15, 286, 127, 128, 14, 129, 102, 301, 302, 303, 304, 965, 966, 967, 968, 969, 970, 971, 972, 973, 974, 975, 976, 977, 1000, 1001] (by decide +kernel) (by decide +kernel)
set_option maxRecDepth 20000 in
theorem gL_law_X5_wipe : GoodIn wsL_law (wsV RL 18 RX5 yX5_wipe wsX5_wipe) := goodIn_app (goodIn_of _ (by decide +kernel)) ggL_law_X5_wipe
set_option maxRecDepth 20000 in
theorem ggL_law_X6_wipe : GoodIn wsL_law wsX6_wipe := goodIn_r _ [308, 293, 978, 979, 980, 981, 982, 983, 984, 985, 986, 987, 988, 989, 990, 991, 992, 993, 994, 995, 996, 997, 998, 999] (by decide +kernel) (by decide +kernel)
set_option maxRecDepth 20000 in
theorem gL_law_X6_wipe : GoodIn wsL_law (wsV RL 22 RX6 yX6_wipe wsX6_wipe) := goodIn_app (goodIn_of _ (by decide +kernel)) ggL_law_X6_wipe
set_option maxRecDepth 20000 in
theorem ggL_law_X5_fault : GoodIn wsL_law wsX5_fault := goodIn_r _ [312, 19, 15, 25, 110, 111, 112, 18, 113, 114, 115, 116, 24, 117, 118, 119, 120, 121, 108, 109, 122, 123, 124, 125, 126, 127, 128, 14, 129, 102, 130, 131, 132, 133, 134, 135, 136, 137, 41, 138, 139, 140, 141, 142, 143, 144, 45, 145, 146, 147, 148, 149, 150, 151, 152, 153, 154, 155, 156, 157, 158, 159, 160, 161, 106, 107, 162, 163, 164, 165, 166, 167, 168, 169, 170, 171, 172, 173, 174, 175, 176, 177, 965, 966, 967, 968, 969, 970, 971, 972, 973, 974, 975, 976, 977, 1003, 1004, 1005, 1006, 1007, 1008, 1009, 1010, 1000, 1001, 1002] (by decide +kernel) (by decide +kernel)
set_option maxRecDepth 20000 in
theorem gL_law_X5_fault : GoodIn wsL_law (wsV RL 23 RX5 yX5_fault wsX5_fault) := goodIn_app (goodIn_of _ (by decide +kernel)) ggL_law_X5_fault
set_option maxRecDepth 20000 in
theorem ggL_law_X6_fault : GoodIn wsL_law wsX6_fault := goodIn_r _ [316, 317, 318, 319, 5, 320, 321, 293, 211, 212, 213, 214, 194, 198, 197, 322, 323, 324, 325, 204, 326, 327, 328, 329, 330, 193, 331, 332, 333, 334, 335, 336, 337, 294, 295, 296, 215, 216, 217, 218, 195, 196, 978, 979, 980, 981, 982, 983, 984, 985, 986, 987, 988, 989, 990, 991, 992, 993, 994, 995, 996, 997, 998, 999] (by decide +kernel) (by decide +kernel)
set_option maxRecDepth 20000 in
theorem gL_law_X6_fault : GoodIn wsL_law (wsV RL 26 RX6 yX6_fault wsX6_fault) := goodIn_app (goodIn_of _ (by decide +kernel)) ggL_law_X6_fault
set_option maxRecDepth 20000 in
theorem ggL_law_X5_lay : GoodIn wsL_law wsX5_lay := goodIn_r _ [341, 19, 15, 25, 20, 21, 29, 342, 110, 111, 112, 18, 113, 114, 115, 116, 24, 117, 118, 119, 120, 121, 108, 109, 122, 123, 124, 125, 126, 127, 128, 14, 129, 102, 130, 131, 132, 133, 134, 135, 136, 137, 41, 138, 139, 140, 141, 142, 143, 144, 45, 145, 146, 147, 148, 149, 150, 151, 152, 153, 154, 155, 156, 157, 158, 159, 160, 161, 106, 107, 162, 163, 164, 165, 166, 167, 168, 169, 170, 171, 172, 173, 174, 175, 176, 177, 343, 344, 345, 346, 347, 348, 349, 350, 351, 352, 353, 354, 28, 355, 356, 357, 358, 359, 2, 360, 361, 362, 965, 966, 967, 968, 969, 970, 971, 972, 973, 974, 975, 976, 977, 1003, 1004, 1005, 1006, 1007, 1008, 1009, 1010, 1000, 1001, 1002, 1011, 1012, 1013, 1014] (by decide +kernel) (by decide +kernel)
set_option maxRecDepth 20000 in
theorem gL_law_X5_lay : GoodIn wsL_law (wsV RL 27 RX5 yX5_lay wsX5_lay) := goodIn_app (goodIn_of _ (by decide +kernel)) ggL_law_X5_lay
set_option maxRecDepth 20000 in
theorem ggL_law_X6_lay : GoodIn wsL_law wsX6_lay := goodIn_r _ [366, 194, 198, 195, 196, 197, 199, 367, 368, 317, 318, 319, 5, 320, 321, 293, 211, 212, 213, 214, 322, 323, 324, 325, 204, 326, 327, 328, 329, 330, 193, 331, 332, 333, 334, 335, 336, 337, 294, 295, 296, 215, 216, 217, 218, 219, 220, 221, 222, 223, 224, 225, 226, 205, 206, 207, 208, 200, 201, 202, 227, 228, 229, 230, 231, 232, 233, 234, 235, 236, 237, 238, 239, 240, 241, 242, 243, 244, 245, 246, 247, 248, 249, 250, 251, 252, 253, 254, 255, 256, 257, 258, 259, 260, 261, 262, 263, 264, 265, 266, 267, 268, 269, 270, 271, 272, 273, 274, 275, 276, 277, 278, 279, 280, 281, 978, 979, 980, 981, 982, 983, 984, 985, 986, 987, 988, 989, 990, 991, 992, 993, 994, 995, 996, 997, 998, 999] (by decide +kernel) (by decide +kernel)
set_option maxRecDepth 20000 in
theorem gL_law_X6_lay : GoodIn wsL_law (wsV RL 30 RX6 yX6_lay wsX6_lay) := goodIn_app (goodIn_of _ (by decide +kernel)) ggL_law_X6_lay
set_option maxRecDepth 20000 in
theorem ggL_law_X5_person : GoodIn wsL_law wsX5_person := goodIn_r _ [372, 21, 373, 374, 375, 2, 376, 343, 155, 156, 24, 157, 118, 377, 378, 379, 380, 106, 381, 382, 383, 384, 107, 385, 386, 387, 388, 121, 389, 390, 391, 392, 393, 394, 395, 109, 396, 397, 398, 399, 400, 401, 402, 403, 108, 404, 405, 406, 407, 965, 966, 967, 968, 969, 970, 971, 972, 973, 974, 975, 976, 977, 1003, 1004, 1005, 1006, 1007, 1008, 1009, 1010] (by decide +kernel) (by decide +kernel)
set_option maxRecDepth 20000 in
theorem gL_law_X5_person : GoodIn wsL_law (wsV RL 31 RX5 yX5_person wsX5_person) := goodIn_app (goodIn_of _ (by decide +kernel)) ggL_law_X5_person
set_option maxRecDepth 20000 in
theorem ggL_law_X6_person : GoodIn wsL_law wsX6_person := goodIn_r _ [411, 412, 195, 196, 413, 414, 415, 5, 416, 194, 294, 295, 296, 231, 232, 233, 234, 206, 235, 236, 237, 250, 251, 252, 253, 238, 239, 240, 241, 205, 417, 418, 419, 420, 246, 247, 248, 249, 978, 979, 980, 981, 982, 983, 984, 985, 986, 987, 988, 989, 990, 991, 992, 993, 994, 995, 996, 997, 998, 999] (by decide +kernel) (by decide +kernel)
set_option maxRecDepth 20000 in
theorem gL_law_X6_person : GoodIn wsL_law (wsV RL 35 RX6 yX6_person wsX6_person) := goodIn_app (goodIn_of _ (by decide +kernel)) ggL_law_X6_person
set_option maxRecDepth 20000 in
theorem ggL_law_X5_owes : GoodIn wsL_law wsX5_owes := goodIn_r _ [424, 21, 425, 426, 427, 2, 428, 373, 374, 375, 376, 343, 155, 156, 24, 157, 118, 429, 401, 402, 403, 108, 965, 966, 967, 968, 969, 970, 971, 972, 973, 974, 975, 976, 977, 1003, 1004, 1005, 1006, 1007, 1008, 1009, 1010] (by decide +kernel) (by decide +kernel)
set_option maxRecDepth 20000 in
theorem gL_law_X5_owes : GoodIn wsL_law (wsV RL 36 RX5 yX5_owes wsX5_owes) := goodIn_app (goodIn_of _ (by decide +kernel)) ggL_law_X5_owes
