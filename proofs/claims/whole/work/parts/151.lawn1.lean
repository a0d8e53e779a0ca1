set_option maxRecDepth 20000 in
theorem ggL_law_X5_write : GoodIn wsL_law wsX5_write := goodIn_r _ [285, 15, 286, 127, 128, 14, 129, 102, 98, 99, 100, 101, 41, 965, 966, 967, 968, 969, 970, 971, 972, 973, 974, 975, 976, 977, 1000, 1001] (by decide +kernel) (by decide +kernel)
set_option maxRecDepth 20000 in
theorem gL_law_X5_write : GoodIn wsL_law (wsV RL 13 RX5 yX5_write wsX5_write) := goodIn_app (goodIn_of _ (by decide +kernel)) ggL_law_X5_write
set_option maxRecDepth 20000 in
theorem ggL_law_X6_write : GoodIn wsL_law wsX6_write := goodIn_r _ [290, 291, 292, 293, 193, 294, 295, 5, 296, 978, 979, 980, 981, 982, 983, 984, 985, 986, 987, 988, 989, 990, 991, 992, 993, 994, 995, 996, 997, 998, 999] (by decide +kernel) (by decide +kernel)
set_option maxRecDepth 20000 in
theorem gL_law_X6_write : GoodIn wsL_law (wsV RL 17 RX6 yX6_write wsX6_write) := goodIn_app (goodIn_of _ (by decide +kernel)) ggL_law_X6_write
set_option maxRecDepth 20000 in
theorem ggL_law_X5_wipe : GoodIn wsL_law wsX5_wipe := goodIn_r _ [300, 15, 286, 127, 128, 14, 129, 102, 301, 302, 303, 304, 965, 966, 967, 968, 969, 970, 971, 972, 973, 974, 975, 976, 977, 1000, 1001] (by decide +kernel) (by decide +kernel)
set_option maxRecDepth 20000 in
theorem gL_law_X5_wipe : GoodIn wsL_law (wsV RL 18 RX5 yX5_wipe wsX5_wipe) := goodIn_app (goodIn_of _ (by decide +kernel)) ggL_law_X5_wipe
set_option maxRecDepth 20000 in
theorem ggL_law_X6_wipe : GoodIn wsL_law wsX6_wipe := goodIn_r _ [308, 293, 978, 979, 980, 981, 982, 983, 984, 985, 986, 987, 988, 989, 990, 991, 992, 993, 994, 995, 996, 997, 998, 999] (by decide +kernel) (by decide +kernel)
set_option maxRecDepth 20000 in
theorem gL_law_X6_wipe : GoodIn wsL_law (wsV RL 22 RX6 yX6_wipe wsX6_wipe) := goodIn_app (goodIn_of _ (by decide +kernel)) ggL_law_X6_wipe
set_option maxRecDepth 20000 in
theorem ggL_law_X5_fault : GoodIn wsL_law wsX5_fault := goodIn_r _ [312, 19, 15, 25, 110, 111, 112, 18, 113, 114, 115, 116, 24, 117, 118, 119, 120, 121, 108, 109, 122, 123, 124, 125, 126, 127, 128, 14, 129, 102, 130, 131, 132, 133, 134, 135, 136, 137, 41, 138, 139, 140, 141, 142, 143, 144, 45, 145, 146, 147, 148, 149, 150, 151, 152, 153, 154, 155, 156, 157, 158, 159, 160, 161, 106, 107, 162, 163, 164, 165, 166, 167, 168, 169, 170, 171, 172, 173, 174, 175, 176, 177, 965, 966, 967, 968, 969, 970, 971, 972, 973, 974, 975, 976, 977, 1003, 1004, 1005, 1006, 1007, 1008, 1009, 1010, 1000, 1001, 1002] (by decide +kernel) (by decide +kernel)
set_option maxRecDepth 20000 in
theorem gL_law_X5_fault : GoodIn wsL_law (wsV RL 23 RX5 yX5_fault wsX5_fault) := goodIn_app (goodIn_of _ (by decide +kernel)) ggL_law_X5_fault
set_option maxRecDepth 20000 in
theorem ggL_law_X6_fault : GoodIn wsL_law wsX6_fault := goodIn_r _ [316, 317, 318, 319, 5, 320, 321, 293, 211, 212, 213, 214, 194, 198, 197, 322, 323, 324, 325, 204, 326, 327, 328, 329, 330, 193, 331, 332, 333, 334, 335, 336, 337, 294, 295, 296, 215, 216, 217, 218, 195, 196, 978, 979, 980, 981, 982, 983, 984, 985, 986, 987, 988, 989, 990, 991, 992, 993, 994, 995, 996, 997, 998, 999] (by decide +kernel) (by decide +kernel)
set_option maxRecDepth 20000 in
theorem gL_law_X6_fault : GoodIn wsL_law (wsV RL 26 RX6 yX6_fault wsX6_fault) := goodIn_app (goodIn_of _ (by decide +kernel)) ggL_law_X6_fault
set_option maxRecDepth 20000 in
theorem ggL_law_X5_lay : GoodIn wsL_law wsX5_lay := goodIn_r _ [341, 19, 15, 25, 20, 21, 29, 342, 110, 111, 112, 18, 113, 114, 115, 116, 24, 117, 118, 119, 120, 121, 108, 109, 122, 123, 124, 125, 126, 127, 128, 14, 129, 102, 130, 131, 132, 133, 134, 135, 136, 137, 41, 138, 139, 140, 141, 142, 143, 144, 45, 145, 146, 147, 148, 149, 150, 151, 152, 153, 154, 155, 156, 157, 158, 159, 160, 161, 106, 107, 162, 163, 164, 165, 166, 167, 168, 169, 170, 171, 172, 173, 174, 175, 176, 177, 343, 344, 345, 346, 347, 348, 349, 350, 351, 352, 353, 354, 28, 355, 356, 357, 358, 359, 2, 360, 361, 362, 965, 966, 967, 968, 969, 970, 971, 972, 973, 974, 975, 976, 977, 1003, 1004, 1005, 1006, 1007, 1008, 1009, 1010, 1000, 1001, 1002, 1011, 1012, 1013, 1014] (by decide +kernel) (by decide +kernel)
set_option maxRecDepth 20000 in
theorem gL_law_X5_lay : GoodIn wsL_law (wsV RL 27 RX5 yX5_lay wsX5_lay) := goodIn_app (goodIn_of _ (by decide +kernel)) ggL_law_X5_lay
set_option maxRecDepth 20000 in
theorem ggL_law_X6_lay : GoodIn wsL_law wsX6_lay := goodIn_r _ [366, 194, 198, 195, 196, 197, 199, 367, 368, 317, 318, 319, 5, 320, 321, 293, 211, 212, 213, 214, 322, 323, 324, 325, 204, 326, 327, 328, 329, 330, 193, 331, 332, 333, 334, 335, 336, 337, 294, 295, 296, 215, 216, 217, 218, 219, 220, 221, 222, 223, 224, 225, 226, 205, 206, 207, 208, 200, 201, 202, 227, 228, 229, 230, 231, 232, 233, 234, 235, 236, 237, 238, 239, 240, 241, 242, 243, 244, 245, 246, 247, 248, 249, 250, 251, 252, 253, 254, 255, 256, 257, 258, 259, 260, 261, 262, 263, 264, 265, 266, 267, 268, 269, 270, 271, 272, 273, 274, 275, 276, 277, 278, 279, 280, 281, 978, 979, 980, 981, 982, 983, 984, 985, 986, 987, 988, 989, 990, 991, 992, 993, 994, 995, 996, 997, 998, 999] (by decide +kernel) (by decide +kernel)
set_option maxRecDepth 20000 in
theorem gL_law_X6_lay : GoodIn wsL_law (wsV RL 30 RX6 yX6_lay wsX6_lay) := goodIn_app (goodIn_of _ (by decide +kernel)) ggL_law_X6_lay
set_option maxRecDepth 20000 in
theorem ggL_law_X5_person : GoodIn wsL_law wsX5_person := goodIn_r _ [372, 21, 373, 374, 375, 2, 376, 343, 155, 156, 24, 157, 118, 377, 378, 379, 380, 106, 381, 382, 383, 384, 107, 385, 386, 387, 388, 121, 389, 390, 391, 392, 393, 394, 395, 109, 396, 397, 398, 399, 400, 401, 402, 403, 108, 404, 405, 406, 407, 965, 966, 967, 968, 969, 970, 971, 972, 973, 974, 975, 976, 977, 1003, 1004, 1005, 1006, 1007, 1008, 1009, 1010] (by decide +kernel) (by decide +kernel)
set_option maxRecDepth 20000 in
theorem gL_law_X5_person : GoodIn wsL_law (wsV RL 31 RX5 yX5_person wsX5_person) := goodIn_app (goodIn_of _ (by decide +kernel)) ggL_law_X5_person
set_option maxRecDepth 20000 in
theorem ggL_law_X6_person : GoodIn wsL_law wsX6_person := goodIn_r _ [411, 412, 195, 196, 413, 414, 415, 5, 416, 194, 294, 295, 296, 231, 232, 233, 234, 206, 235, 236, 237, 250, 251, 252, 253, 238, 239, 240, 241, 205, 417, 418, 419, 420, 246, 247, 248, 249, 978, 979, 980, 981, 982, 983, 984, 985, 986, 987, 988, 989, 990, 991, 992, 993, 994, 995, 996, 997, 998, 999] (by decide +kernel) (by decide +kernel)
set_option maxRecDepth 20000 in
theorem gL_law_X6_person : GoodIn wsL_law (wsV RL 35 RX6 yX6_person wsX6_person) := goodIn_app (goodIn_of _ (by decide +kernel)) ggL_law_X6_person
set_option maxRecDepth 20000 in
theorem ggL_law_X5_owes : GoodIn wsL_law wsX5_owes := goodIn_r _ [424, 21, 425, 426, 427, 2, 428, 373, 374, 375, 376, 343, 155, 156, 24, 157, 118, 429, 401, 402, 403, 108, 965, 966, 967, 968, 969, 970, 971, 972, 973, 974, 975, 976, 977, 1003, 1004, 1005, 1006, 1007, 1008, 1009, 1010] (by decide +kernel) (by decide +kernel)
set_option maxRecDepth 20000 in
theorem gL_law_X5_owes : GoodIn wsL_law (wsV RL 36 RX5 yX5_owes wsX5_owes) := goodIn_app (goodIn_of _ (by decide +kernel)) ggL_law_X5_owes
set_option maxRecDepth 20000 in
theorem ggL_law_X6_owes : GoodIn wsL_law wsX6_owes := goodIn_r _ [433, 434, 435, 436, 5, 437, 413, 414, 415, 416, 194, 294, 295, 296, 238, 239, 240, 241, 205, 978, 979, 980, 981, 982, 983, 984, 985, 986, 987, 988, 989, 990, 991, 992, 993, 994, 995, 996, 997, 998, 999] (by decide +kernel) (by decide +kernel)
set_option maxRecDepth 20000 in
theorem gL_law_X6_owes : GoodIn wsL_law (wsV RL 39 RX6 yX6_owes wsX6_owes) := goodIn_app (goodIn_of _ (by decide +kernel)) ggL_law_X6_owes
set_option maxRecDepth 20000 in
theorem ggL_law_X5_speak : GoodIn wsL_law wsX5_speak := goodIn_r _ [441, 21, 425, 426, 427, 2, 428, 373, 374, 375, 376, 343, 155, 156, 24, 157, 118, 442, 443, 444, 445, 446, 386, 387, 388, 121, 400, 401, 402, 403, 108, 389, 390, 391, 965, 966, 967, 968, 969, 970, 971, 972, 973, 974, 975, 976, 977, 1003, 1004, 1005, 1006, 1007, 1008, 1009, 1010] (by decide +kernel) (by decide +kernel)
set_option maxRecDepth 20000 in
theorem gL_law_X5_speak : GoodIn wsL_law (wsV RL 40 RX5 yX5_speak wsX5_speak) := goodIn_app (goodIn_of _ (by decide +kernel)) ggL_law_X5_speak
set_option maxRecDepth 20000 in
theorem ggL_law_X6_speak : GoodIn wsL_law wsX6_speak := goodIn_r _ [450, 434, 435, 436, 5, 437, 413, 414, 415, 416, 194, 294, 295, 296, 451, 452, 453, 454, 231, 232, 233, 234, 206, 235, 236, 237, 238, 239, 240, 241, 205, 978, 979, 980, 981, 982, 983, 984, 985, 986, 987, 988, 989, 990, 991, 992, 993, 994, 995, 996, 997, 998, 999] (by decide +kernel) (by decide +kernel)
set_option maxRecDepth 20000 in
theorem gL_law_X6_speak : GoodIn wsL_law (wsV RL 43 RX6 yX6_speak wsX6_speak) := goodIn_app (goodIn_of _ (by decide +kernel)) ggL_law_X6_speak
set_option maxRecDepth 20000 in
theorem ggL_law_X5_wrong : GoodIn wsL_law wsX5_wrong := goodIn_r _ [458, 459, 460, 461, 2, 462, 21, 425, 426, 427, 428, 373, 374, 375, 376, 343, 155, 156, 24, 157, 118, 463, 464, 465, 466, 29, 467, 468, 469, 470, 446, 386, 387, 388, 121, 400, 401, 402, 403, 108, 471, 472, 473, 474, 475, 405, 406, 407, 106, 109, 476, 477, 478, 479, 480, 481, 482, 28, 483, 356, 484, 485, 486, 487, 181, 182, 183, 488, 489, 490, 491, 492, 493, 494, 495, 496, 497, 498, 499, 500, 167, 168, 169, 501, 502, 503, 504, 505, 506, 507, 508, 119, 509, 510, 511, 512, 513, 514, 515, 516, 517, 518, 519, 520, 429, 965, 966, 967, 968, 969, 970, 971, 972, 973, 974, 975, 976, 977, 1003, 1004, 1005, 1006, 1007, 1008, 1009, 1010, 1011, 1012, 1013, 1014] (by decide +kernel) (by decide +kernel)
set_option maxRecDepth 20000 in
theorem gL_law_X5_wrong : GoodIn wsL_law (wsV RL 44 RX5 yX5_wrong wsX5_wrong) := goodIn_app (goodIn_of _ (by decide +kernel)) ggL_law_X5_wrong
set_option maxRecDepth 20000 in
theorem ggL_law_X6_wrong : GoodIn wsL_law wsX6_wrong := goodIn_r _ [524, 525, 526, 527, 5, 528, 434, 435, 436, 437, 413, 414, 415, 416, 194, 294, 295, 296, 529, 530, 531, 532, 199, 200, 201, 202, 227, 228, 229, 230, 231, 232, 233, 234, 206, 235, 236, 237, 238, 239, 240, 241, 205, 242, 243, 244, 245, 246, 247, 248, 249, 195, 250, 251, 252, 253, 254, 255, 256, 257, 258, 259, 260, 261, 262, 263, 264, 265, 266, 267, 268, 269, 207, 270, 271, 272, 273, 274, 275, 276, 277, 278, 279, 280, 281, 208, 978, 979, 980, 981, 982, 983, 984, 985, 986, 987, 988, 989, 990, 991, 992, 993, 994, 995, 996, 997, 998, 999] (by decide +kernel) (by decide +kernel)
set_option maxRecDepth 20000 in
theorem gL_law_X6_wrong : GoodIn wsL_law (wsV RL 47 RX6 yX6_wrong wsX6_wrong) := goodIn_app (goodIn_of _ (by decide +kernel)) ggL_law_X6_wrong
set_option maxRecDepth 20000 in
theorem ggL_law_X5_bow : GoodIn wsL_law wsX5_bow := goodIn_r _ [536, 459, 460, 461, 2, 462, 21, 425, 426, 427, 428, 373, 374, 375, 376, 343, 155, 156, 24, 157, 118, 463, 464, 465, 466, 29, 467, 468, 469, 470, 446, 386, 387, 388, 121, 400, 401, 402, 403, 108, 471, 472, 473, 474, 475, 405, 406, 407, 106, 109, 476, 477, 478, 479, 480, 481, 482, 28, 483, 356, 484, 485, 486, 487, 181, 182, 183, 488, 489, 490, 491, 492, 493, 494, 495, 496, 497, 498, 499, 500, 167, 168, 169, 501, 502, 503, 504, 505, 506, 507, 508, 119, 509, 510, 511, 512, 513, 514, 515, 516, 517, 518, 519, 520, 429, 965, 966, 967, 968, 969, 970, 971, 972, 973, 974, 975, 976, 977, 1003, 1004, 1005, 1006, 1007, 1008, 1009, 1010, 1011, 1012, 1013, 1014] (by decide +kernel) (by decide +kernel)
set_option maxRecDepth 20000 in
theorem gL_law_X5_bow : GoodIn wsL_law (wsV RL 48 RX5 yX5_bow wsX5_bow) := goodIn_app (goodIn_of _ (by decide +kernel)) ggL_law_X5_bow
set_option maxRecDepth 20000 in
theorem ggL_law_X6_bow : GoodIn wsL_law wsX6_bow := goodIn_r _ [540, 525, 526, 527, 5, 528, 434, 435, 436, 437, 413, 414, 415, 416, 194, 294, 295, 296, 529, 530, 531, 532, 199, 200, 201, 202, 227, 228, 229, 230, 231, 232, 233, 234, 206, 235, 236, 237, 238, 239, 240, 241, 205, 242, 243, 244, 245, 246, 247, 248, 249, 195, 250, 251, 252, 253, 254, 255, 256, 257, 258, 259, 260, 261, 262, 263, 264, 265, 266, 267, 268, 269, 207, 270, 271, 272, 273, 274, 275, 276, 277, 278, 279, 280, 281, 208, 978, 979, 980, 981, 982, 983, 984, 985, 986, 987, 988, 989, 990, 991, 992, 993, 994, 995, 996, 997, 998, 999] (by decide +kernel) (by decide +kernel)
set_option maxRecDepth 20000 in
theorem gL_law_X6_bow : GoodIn wsL_law (wsV RL 51 RX6 yX6_bow wsX6_bow) := goodIn_app (goodIn_of _ (by decide +kernel)) ggL_law_X6_bow
set_option maxRecDepth 20000 in
theorem ggL_law_X5_refuse : GoodIn wsL_law wsX5_refuse := goodIn_r _ [544, 459, 460, 461, 2, 462, 21, 425, 426, 427, 428, 373, 374, 375, 376, 343, 155, 156, 24, 157, 118, 463, 464, 465, 466, 29, 467, 468, 469, 470, 446, 386, 387, 388, 121, 400, 401, 402, 403, 108, 471, 472, 473, 474, 475, 405, 406, 407, 106, 109, 476, 477, 478, 479, 480, 481, 482, 28, 483, 356, 484, 485, 486, 487, 181, 182, 183, 488, 489, 490, 491, 492, 493, 494, 495, 496, 497, 498, 499, 500, 167, 168, 169, 501, 502, 503, 504, 505, 506, 507, 508, 119, 509, 510, 511, 512, 513, 514, 515, 516, 517, 518, 519, 520, 429, 965, 966, 967, 968, 969, 970, 971, 972, 973, 974, 975, 976, 977, 1003, 1004, 1005, 1006, 1007, 1008, 1009, 1010, 1011, 1012, 1013, 1014] (by decide +kernel) (by decide +kernel)
set_option maxRecDepth 20000 in
theorem gL_law_X5_refuse : GoodIn wsL_law (wsV RL 52 RX5 yX5_refuse wsX5_refuse) := goodIn_app (goodIn_of _ (by decide +kernel)) ggL_law_X5_refuse
set_option maxRecDepth 20000 in
theorem ggL_law_X6_refuse : GoodIn wsL_law wsX6_refuse := goodIn_r _ [548, 525, 526, 527, 5, 528, 434, 435, 436, 437, 413, 414, 415, 416, 194, 294, 295, 296, 529, 530, 531, 532, 199, 200, 201, 202, 227, 228, 229, 230, 231, 232, 233, 234, 206, 235, 236, 237, 238, 239, 240, 241, 205, 242, 243, 244, 245, 246, 247, 248, 249, 195, 250, 251, 252, 253, 254, 255, 256, 257, 258, 259, 260, 261, 262, 263, 264, 265, 266, 267, 268, 269, 207, 270, 271, 272, 273, 274, 275, 276, 277, 278, 279, 280, 281, 208, 978, 979, 980, 981, 982, 983, 984, 985, 986, 987, 988, 989, 990, 991, 992, 993, 994, 995, 996, 997, 998, 999] (by decide +kernel) (by decide +kernel)
set_option maxRecDepth 20000 in
theorem gL_law_X6_refuse : GoodIn wsL_law (wsV RL 55 RX6 yX6_refuse wsX6_refuse) := goodIn_app (goodIn_of _ (by decide +kernel)) ggL_law_X6_refuse
set_option maxRecDepth 20000 in
theorem ggL_law_X5_atOnce : GoodIn wsL_law wsX5_atOnce := goodIn_r _ [552, 21, 459, 460, 461, 2, 462, 425, 426, 427, 428, 373, 374, 375, 376, 343, 155, 156, 24, 157, 118, 463, 464, 465, 466, 29, 467, 468, 469, 470, 446, 386, 387, 388, 121, 400, 401, 402, 403, 108, 471, 472, 473, 474, 475, 405, 406, 407, 106, 109, 476, 477, 478, 479, 480, 481, 482, 28, 483, 356, 484, 485, 486, 487, 181, 182, 183, 488, 489, 490, 491, 492, 493, 494, 495, 496, 497, 498, 499, 500, 167, 168, 169, 501, 502, 503, 504, 505, 506, 507, 508, 119, 509, 510, 511, 512, 513, 514, 515, 516, 517, 518, 519, 520, 429, 965, 966, 967, 968, 969, 970, 971, 972, 973, 974, 975, 976, 977, 1003, 1004, 1005, 1006, 1007, 1008, 1009, 1010, 1011, 1012, 1013, 1014] (by decide +kernel) (by decide +kernel)
set_option maxRecDepth 20000 in
theorem gL_law_X5_atOnce : GoodIn wsL_law (wsV RL 56 RX5 yX5_atOnce wsX5_atOnce) := goodIn_app (goodIn_of _ (by decide +kernel)) ggL_law_X5_atOnce
set_option maxRecDepth 20000 in
theorem ggL_law_X6_atOnce : GoodIn wsL_law wsX6_atOnce := goodIn_r _ [556, 525, 526, 527, 5, 528, 434, 435, 436, 437, 413, 414, 415, 416, 194, 294, 295, 296, 529, 530, 531, 532, 199, 200, 201, 202, 227, 228, 229, 230, 231, 232, 233, 234, 206, 235, 236, 237, 238, 239, 240, 241, 205, 242, 243, 244, 245, 246, 247, 248, 249, 195, 250, 251, 252, 253, 254, 255, 256, 257, 258, 259, 260, 261, 262, 263, 264, 265, 266, 267, 268, 269, 207, 270, 271, 272, 273, 274, 275, 276, 277, 278, 279, 280, 281, 208, 978, 979, 980, 981, 982, 983, 984, 985, 986, 987, 988, 989, 990, 991, 992, 993, 994, 995, 996, 997, 998, 999] (by decide +kernel) (by decide +kernel)
set_option maxRecDepth 20000 in
theorem gL_law_X6_atOnce : GoodIn wsL_law (wsV RL 59 RX6 yX6_atOnce wsX6_atOnce) := goodIn_app (goodIn_of _ (by decide +kernel)) ggL_law_X6_atOnce
set_option maxRecDepth 20000 in
theorem ggL_law_X5_die : GoodIn wsL_law wsX5_die := goodIn_r _ [560, 21, 373, 374, 375, 2, 376, 343, 155, 156, 24, 157, 118, 463, 464, 465, 466, 29, 467, 468, 469, 470, 446, 386, 387, 388, 121, 400, 401, 402, 403, 108, 471, 472, 473, 474, 475, 405, 406, 407, 106, 109, 476, 477, 478, 479, 480, 481, 482, 28, 483, 356, 484, 485, 486, 487, 181, 182, 183, 488, 489, 490, 491, 492, 493, 494, 495, 496, 497, 498, 499, 500, 167, 168, 169, 501, 502, 503, 504, 505, 506, 507, 508, 119, 509, 510, 511, 512, 513, 514, 515, 516, 517, 518, 519, 520, 561, 562, 563, 564, 565, 566, 567, 568, 569, 570, 571, 965, 966, 967, 968, 969, 970, 971, 972, 973, 974, 975, 976, 977, 1003, 1004, 1005, 1006, 1007, 1008, 1009, 1010, 1011, 1012, 1013, 1014] (by decide +kernel) (by decide +kernel)
set_option maxRecDepth 20000 in
theorem gL_law_X5_die : GoodIn wsL_law (wsV RL 60 RX5 yX5_die wsX5_die) := goodIn_app (goodIn_of _ (by decide +kernel)) ggL_law_X5_die
set_option maxRecDepth 20000 in
theorem ggL_law_X6_die : GoodIn wsL_law wsX6_die := goodIn_r _ [575, 206, 413, 414, 415, 5, 416, 194, 294, 295, 296, 529, 530, 531, 532, 199, 200, 201, 202, 227, 228, 229, 230, 231, 232, 233, 234, 235, 236, 237, 238, 239, 240, 241, 205, 242, 243, 244, 245, 246, 247, 248, 249, 195, 250, 251, 252, 253, 254, 255, 256, 257, 258, 259, 260, 261, 262, 263, 264, 265, 266, 267, 268, 269, 207, 270, 271, 272, 273, 274, 275, 276, 277, 278, 279, 280, 281, 208, 576, 577, 578, 978, 979, 980, 981, 982, 983, 984, 985, 986, 987, 988, 989, 990, 991, 992, 993, 994, 995, 996, 997, 998, 999] (by decide +kernel) (by decide +kernel)
set_option maxRecDepth 20000 in
theorem gL_law_X6_die : GoodIn wsL_law (wsV RL 63 RX6 yX6_die wsX6_die) := goodIn_app (goodIn_of _ (by decide +kernel)) ggL_law_X6_die
set_option maxRecDepth 20000 in
theorem ggL_law_X5_days : GoodIn wsL_law wsX5_days := goodIn_r _ [582, 21, 463, 464, 465, 2, 466, 29, 467, 468, 469, 24, 470, 446, 386, 387, 388, 121, 400, 401, 402, 403, 108, 471, 472, 473, 474, 475, 405, 406, 407, 106, 109, 476, 477, 478, 479, 480, 481, 482, 28, 483, 356, 484, 485, 486, 487, 181, 182, 183, 488, 489, 490, 491, 492, 493, 494, 495, 496, 497, 498, 499, 500, 167, 168, 169, 501, 502, 503, 504, 505, 506, 507, 508, 119, 509, 510, 511, 512, 118, 513, 514, 515, 516, 517, 518, 519, 520, 583, 584, 585, 586, 965, 966, 967, 968, 969, 970, 971, 972, 973, 974, 975, 976, 977, 1003, 1004, 1005, 1006, 1007, 1008, 1009, 1010, 1011, 1012, 1013, 1014] (by decide +kernel) (by decide +kernel)
set_option maxRecDepth 20000 in
theorem gL_law_X5_days : GoodIn wsL_law (wsV RL 64 RX5 yX5_days wsX5_days) := goodIn_app (goodIn_of _ (by decide +kernel)) ggL_law_X5_days
set_option maxRecDepth 20000 in
theorem ggL_law_X6_days : GoodIn wsL_law wsX6_days := goodIn_r _ [590, 591, 207, 294, 295, 5, 296, 529, 530, 531, 532, 199, 200, 201, 202, 227, 228, 229, 230, 231, 232, 233, 234, 206, 235, 236, 237, 238, 239, 240, 241, 205, 242, 243, 244, 245, 246, 247, 248, 249, 195, 250, 251, 252, 253, 254, 255, 256, 257, 258, 259, 260, 261, 262, 263, 264, 265, 266, 267, 268, 269, 270, 271, 272, 273, 274, 275, 276, 277, 278, 279, 280, 281, 208, 978, 979, 980, 981, 982, 983, 984, 985, 986, 987, 988, 989, 990, 991, 992, 993, 994, 995, 996, 997, 998, 999] (by decide +kernel) (by decide +kernel)
set_option maxRecDepth 20000 in
theorem gL_law_X6_days : GoodIn wsL_law (wsV RL 67 RX6 yX6_days wsX6_days) := goodIn_app (goodIn_of _ (by decide +kernel)) ggL_law_X6_days
set_option maxRecDepth 20000 in
theorem ggL_law_X5_undo : GoodIn wsL_law wsX5_undo := goodIn_r _ [595, 29, 21, 480, 481, 482, 28, 483, 356, 596, 597, 598, 599, 600, 601, 602, 2, 603, 20, 344, 345, 346, 24, 347, 118, 119, 120, 121, 106, 348, 349, 350, 351, 107, 108, 109, 604, 605, 606, 607, 181, 608, 609, 610, 611, 182, 612, 613, 614, 615, 183, 467, 468, 469, 470, 446, 386, 387, 388, 400, 401, 402, 403, 471, 472, 473, 474, 475, 405, 406, 407, 476, 477, 478, 479, 488, 489, 490, 491, 492, 493, 494, 495, 496, 497, 498, 499, 500, 167, 168, 169, 501, 502, 503, 504, 505, 506, 507, 508, 509, 510, 511, 512, 513, 514, 515, 516, 517, 518, 519, 520, 965, 966, 967, 968, 969, 970, 971, 972, 973, 974, 975, 976, 977, 1011, 1012, 1013, 1014, 1003, 1004, 1005, 1006, 1007, 1008, 1009, 1010] (by decide +kernel) (by decide +kernel)
set_option maxRecDepth 20000 in
theorem gL_law_X5_undo : GoodIn wsL_law (wsV RL 68 RX5 yX5_undo wsX5_undo) := goodIn_app (goodIn_of _ (by decide +kernel)) ggL_law_X5_undo
set_option maxRecDepth 20000 in
theorem ggL_law_X6_undo : GoodIn wsL_law wsX6_undo := goodIn_r _ [619, 199, 219, 220, 221, 5, 222, 223, 224, 225, 226, 205, 197, 206, 194, 207, 208, 200, 201, 202, 227, 228, 229, 230, 231, 232, 233, 234, 235, 236, 237, 238, 239, 240, 241, 242, 243, 244, 245, 246, 247, 248, 249, 195, 250, 251, 252, 253, 254, 255, 256, 257, 258, 259, 260, 261, 262, 263, 264, 265, 266, 267, 268, 269, 270, 271, 272, 273, 274, 275, 276, 277, 278, 279, 280, 281, 978, 979, 980, 981, 982, 983, 984, 985, 986, 987, 988, 989, 990, 991, 992, 993, 994, 995, 996, 997, 998, 999] (by decide +kernel) (by decide +kernel)
set_option maxRecDepth 20000 in
theorem gL_law_X6_undo : GoodIn wsL_law (wsV RL 71 RX6 yX6_undo wsX6_undo) := goodIn_app (goodIn_of _ (by decide +kernel)) ggL_law_X6_undo
set_option maxRecDepth 20000 in
theorem ggL_law_X5_peace : GoodIn wsL_law wsX5_peace := goodIn_r _ [623, 25, 21, 344, 345, 346, 24, 347, 118, 119, 120, 121, 106, 348, 349, 350, 351, 107, 108, 109, 624, 625, 626, 627, 628, 629, 630, 631, 471, 472, 473, 474, 400, 401, 402, 403, 475, 405, 406, 407, 505, 506, 507, 508, 500, 167, 168, 169, 632, 633, 634, 635, 476, 477, 478, 479, 501, 502, 503, 504, 636, 637, 638, 639, 640, 641, 642, 643, 644, 397, 398, 399, 965, 966, 967, 968, 969, 970, 971, 972, 973, 974, 975, 976, 977, 1003, 1004, 1005, 1006, 1007, 1008, 1009, 1010] (by decide +kernel) (by decide +kernel)
set_option maxRecDepth 20000 in
theorem gL_law_X5_peace : GoodIn wsL_law (wsV RL 72 RX5 yX5_peace wsX5_peace) := goodIn_app (goodIn_of _ (by decide +kernel)) ggL_law_X5_peace
set_option maxRecDepth 20000 in
theorem ggL_law_X6_peace : GoodIn wsL_law wsX6_peace := goodIn_r _ [648, 337, 294, 295, 5, 296, 649, 650, 651, 652, 205, 206, 207, 208, 653, 654, 655, 656, 657, 658, 659, 660, 242, 243, 244, 245, 238, 239, 240, 241, 246, 247, 248, 249, 195, 231, 232, 233, 234, 235, 236, 237, 250, 251, 252, 253, 266, 267, 268, 269, 661, 662, 663, 664, 254, 255, 256, 257, 258, 259, 260, 261, 262, 263, 264, 265, 270, 271, 272, 273, 274, 275, 276, 277, 278, 279, 280, 281, 417, 418, 419, 420, 665, 666, 667, 668, 978, 979, 980, 981, 982, 983, 984, 985, 986, 987, 988, 989, 990, 991, 992, 993, 994, 995, 996, 997, 998, 999] (by decide +kernel) (by decide +kernel)
set_option maxRecDepth 20000 in
theorem gL_law_X6_peace : GoodIn wsL_law (wsV RL 75 RX6 yX6_peace wsX6_peace) := goodIn_app (goodIn_of _ (by decide +kernel)) ggL_law_X6_peace
set_option maxRecDepth 20000 in
theorem ggL_law_X5_ring : GoodIn wsL_law wsX5_ring := goodIn_r _ [672, 21, 35, 373, 374, 375, 2, 376, 343, 155, 156, 24, 157, 118, 673, 674, 675, 676, 677, 678, 679, 680, 681, 682, 34, 683, 684, 497, 498, 499, 685, 187, 686, 123, 124, 125, 400, 401, 402, 403, 108, 687, 688, 689, 690, 691, 692, 693, 694, 695, 696, 697, 698, 699, 700, 701, 702, 965, 966, 967, 968, 969, 970, 971, 972, 973, 974, 975, 976, 977, 1003, 1004, 1005, 1006, 1007, 1008, 1009, 1010, 1015, 1016, 1017] (by decide +kernel) (by decide +kernel)
set_option maxRecDepth 20000 in
theorem gL_law_X5_ring : GoodIn wsL_law (wsV RL 76 RX5 yX5_ring wsX5_ring) := goodIn_app (goodIn_of _ (by decide +kernel)) ggL_law_X5_ring
set_option maxRecDepth 20000 in
theorem ggL_law_X6_ring : GoodIn wsL_law wsX6_ring := goodIn_r _ [706, 209, 413, 414, 415, 5, 416, 194, 294, 295, 296, 707, 708, 709, 710, 205, 238, 239, 240, 241, 978, 979, 980, 981, 982, 983, 984, 985, 986, 987, 988, 989, 990, 991, 992, 993, 994, 995, 996, 997, 998, 999] (by decide +kernel) (by decide +kernel)
set_option maxRecDepth 20000 in
theorem gL_law_X6_ring : GoodIn wsL_law (wsV RL 79 RX6 yX6_ring wsX6_ring) := goodIn_app (goodIn_of _ (by decide +kernel)) ggL_law_X6_ring
set_option maxRecDepth 20000 in
theorem ggL_law_X5_forgiven : GoodIn wsL_law wsX5_forgiven := goodIn_r _ [714, 37, 673, 674, 2, 675, 715, 716, 717, 718, 21, 343, 155, 156, 24, 157, 118, 429, 401, 402, 403, 108, 719, 720, 721, 722, 723, 724, 725, 25, 344, 345, 346, 347, 119, 120, 121, 106, 348, 349, 350, 351, 107, 109, 726, 727, 728, 729, 730, 167, 168, 169, 624, 625, 626, 627, 628, 629, 630, 631, 471, 472, 473, 474, 400, 475, 405, 406, 407, 505, 506, 507, 508, 500, 632, 633, 634, 635, 476, 477, 478, 479, 501, 502, 503, 504, 636, 637, 638, 639, 965, 966, 967, 968, 969, 970, 971, 972, 973, 974, 975, 976, 977, 1003, 1004, 1005, 1006, 1007, 1008, 1009, 1010] (by decide +kernel) (by decide +kernel)
set_option maxRecDepth 20000 in
theorem gL_law_X5_forgiven : GoodIn wsL_law (wsV RL 80 RX5 yX5_forgiven wsX5_forgiven) := goodIn_app (goodIn_of _ (by decide +kernel)) ggL_law_X5_forgiven
