/-! ===== every word of the law is one of the tables ===== -/
theorem in_ix {A T : List Cond} (ix : List Nat) (h : A = ix.filterMap (fun i => T[i]?)) : ∀ w ∈ A, w ∈ T := by
  intro w hw
  rw [h] at hw
  obtain ⟨i, _, hi⟩ := List.mem_filterMap.mp hw
  exact List.mem_of_getElem? hi
set_option maxRecDepth 20000 in
theorem wl_1 : ∀ w ∈ wsL_law_r1, w ∈ lw_tbl := in_ix [85, 86, 70, 779, 780, 81, 87, 88, 89, 90, 91, 92, 93, 94, 71, 303, 107, 108, 72, 304, 305, 306, 173, 174] (by decide +kernel)
set_option maxRecDepth 20000 in
theorem wl_2 : ∀ w ∈ wsL_law_r2, w ∈ lw_tbl := in_ix [77, 307, 268, 269, 79, 308, 309, 310, 287, 288, 80, 314, 106, 315, 96, 97, 98, 99, 110, 111, 112, 113, 117, 118] (by decide +kernel)
set_option maxRecDepth 20000 in
theorem wl_3 : ∀ w ∈ wsL_law_r3, w ∈ lw_tbl := in_ix [119, 121, 122, 123, 73, 124, 1158, 125, 126, 127, 128, 129, 1159, 131, 132, 133, 134, 135, 136, 137, 138, 139, 140, 74] (by decide +kernel)
set_option maxRecDepth 20000 in
theorem wl_4 : ∀ w ∈ wsL_law_r4, w ∈ lw_tbl := in_ix [141, 142, 143, 144, 145, 147, 148, 75, 149, 150, 151, 76, 152, 153, 154, 155, 156, 157, 158, 159, 160, 161, 162, 163] (by decide +kernel)
set_option maxRecDepth 20000 in
theorem wl_5 : ∀ w ∈ wsL_law_r5, w ∈ lw_tbl := in_ix [165, 167, 169, 170, 171, 172, 100, 176, 177, 178, 183, 184, 185, 186, 205, 206, 207, 208, 209, 210, 211, 212, 179, 180] (by decide +kernel)
set_option maxRecDepth 20000 in
theorem wl_6 : ∀ w ∈ wsL_law_r6, w ∈ lw_tbl := in_ix [181, 182, 213, 214, 78, 215, 216, 217, 218, 219, 220, 222, 0, 223, 224, 225, 226, 227, 228, 229, 230, 231, 233, 1] (by decide +kernel)
set_option maxRecDepth 20000 in
theorem wl_7 : ∀ w ∈ wsL_law_r7, w ∈ lw_tbl := in_ix [234, 235, 236, 237, 238, 239, 240, 242, 2, 243, 244, 245, 246, 247, 248, 249, 250, 251, 252, 254, 3, 255, 256, 257] (by decide +kernel)
set_option maxRecDepth 20000 in
theorem wl_8 : ∀ w ∈ wsL_law_r8, w ∈ lw_tbl := in_ix [258, 259, 260, 262, 4, 263, 264, 265, 266, 267, 271, 272, 273, 274, 275, 276, 290, 291, 292, 293, 294, 781, 782, 783] (by decide +kernel)
set_option maxRecDepth 20000 in
theorem wl_9 : ∀ w ∈ wsL_law_r9, w ∈ lw_tbl := in_ix [784, 857, 858, 859, 860, 861, 862, 863, 864, 865, 866, 869, 871, 872, 873, 874, 875, 876, 877, 785, 787, 31, 788, 789] (by decide +kernel)
set_option maxRecDepth 20000 in
theorem wl_10 : ∀ w ∈ wsL_law_r10, w ∈ lw_tbl := in_ix [791, 32, 792, 793, 795, 33, 796, 797, 799, 34, 800, 801, 803, 35, 804, 805, 807, 36, 808, 809, 810, 811, 812, 814] (by decide +kernel)
set_option maxRecDepth 20000 in
theorem wl_11 : ∀ w ∈ wsL_law_r11, w ∈ lw_tbl := in_ix [37, 815, 816, 818, 38, 819, 820, 822, 39, 823, 824, 826, 40, 827, 828, 830, 41, 831, 832, 834, 42, 835, 836, 838] (by decide +kernel)
set_option maxRecDepth 20000 in
theorem wl_12 : ∀ w ∈ wsL_law_r12, w ∈ lw_tbl := in_ix [43, 839, 840, 842, 44, 843, 844, 846, 45, 847, 848, 850, 46, 851, 852, 854, 47, 855, 343, 344, 345, 346, 347, 923] (by decide +kernel)
set_option maxRecDepth 20000 in
theorem wl_13 : ∀ w ∈ wsL_law_r13, w ∈ lw_tbl := in_ix [924, 925, 926, 927, 928, 856, 929, 930, 931, 348, 349, 350, 351, 352, 353, 354, 355, 932, 933, 934, 935, 356, 357, 358] (by decide +kernel)
set_option maxRecDepth 20000 in
theorem wl_14 : ∀ w ∈ wsL_law_r14, w ∈ lw_tbl := in_ix [359, 936, 937, 938, 939, 940, 942, 48, 943, 870, 944, 946, 49, 947, 959, 948, 950, 50, 951, 952, 954, 51, 955, 956] (by decide +kernel)
set_option maxRecDepth 20000 in
theorem wl_15 : ∀ w ∈ wsL_law_r15, w ∈ lw_tbl := in_ix [957, 958, 360, 361, 362, 363, 311, 364, 365, 366, 367, 368, 369, 371, 370, 82, 372, 373, 374, 375, 277, 376, 378, 5] (by decide +kernel)
set_option maxRecDepth 20000 in
theorem wl_16 : ∀ w ∈ wsL_law_r16, w ∈ lw_tbl := in_ix [379, 312, 313, 960, 961, 962, 963, 867, 868, 380, 381, 382, 383, 384, 386, 6, 387, 388, 389, 390, 391, 392, 393, 394] (by decide +kernel)
set_option maxRecDepth 20000 in
theorem wl_17 : ∀ w ∈ wsL_law_r17, w ∈ lw_tbl := in_ix [395, 396, 397, 398, 399, 400, 401, 402, 403, 404, 405, 406, 407, 408, 409, 410, 411, 412, 413, 414, 415, 416, 417, 418] (by decide +kernel)
set_option maxRecDepth 20000 in
theorem wl_18 : ∀ w ∈ wsL_law_r18, w ∈ lw_tbl := in_ix [964, 965, 966, 967, 972, 968, 970, 52, 971, 973, 975, 53, 976, 419, 420, 421, 422, 423, 425, 7, 426, 427, 977, 978] (by decide +kernel)
set_option maxRecDepth 20000 in
theorem wl_19 : ∀ w ∈ wsL_law_r19, w ∈ lw_tbl := in_ix [979, 980, 981, 983, 54, 984, 428, 429, 430, 431, 432, 433, 434, 435, 436, 985, 986, 987, 988, 989, 991, 55, 992, 437] (by decide +kernel)
set_option maxRecDepth 20000 in
theorem wl_20 : ∀ w ∈ wsL_law_r20, w ∈ lw_tbl := in_ix [438, 439, 440, 441, 443, 8, 444, 445, 447, 9, 448, 449, 450, 451, 452, 453, 455, 10, 456, 457, 458, 460, 11, 461] (by decide +kernel)
set_option maxRecDepth 20000 in
theorem wl_21 : ∀ w ∈ wsL_law_r21, w ∈ lw_tbl := in_ix [462, 463, 464, 465, 466, 467, 468, 469, 470, 471, 472, 473, 474, 476, 12, 477, 478, 479, 83, 480, 481, 482, 484, 13] (by decide +kernel)
set_option maxRecDepth 20000 in
theorem wl_22 : ∀ w ∈ wsL_law_r22, w ∈ lw_tbl := in_ix [485, 486, 488, 14, 489, 490, 492, 15, 493, 494, 496, 16, 497, 498, 499, 500, 501, 993, 994, 995, 996, 997, 999, 56] (by decide +kernel)
set_option maxRecDepth 20000 in
theorem wl_23 : ∀ w ∈ wsL_law_r23, w ∈ lw_tbl := in_ix [1000, 1001, 1003, 57, 1004, 502, 503, 504, 505, 1005, 1006, 1007, 1008, 506, 507, 508, 509, 1009, 1010, 1011, 1012, 510, 511, 512] (by decide +kernel)
set_option maxRecDepth 20000 in
theorem wl_24 : ∀ w ∈ wsL_law_r24, w ∈ lw_tbl := in_ix [513, 1013, 1014, 1015, 1016, 514, 515, 516, 517, 518, 519, 520, 521, 522, 523, 84, 524, 525, 526, 527, 1017, 1018, 1019, 1020] (by decide +kernel)
set_option maxRecDepth 20000 in
theorem wl_25 : ∀ w ∈ wsL_law_r25, w ∈ lw_tbl := in_ix [1021, 1022, 1023, 528, 529, 530, 531, 532, 533, 534, 535, 1024, 1025, 1026, 1027, 1028, 536, 537, 538, 539, 540, 541, 542, 543] (by decide +kernel)
set_option maxRecDepth 20000 in
theorem wl_26 : ∀ w ∈ wsL_law_r26, w ∈ lw_tbl := in_ix [544, 546, 17, 547, 548, 549, 550, 551, 552, 553, 554, 555, 556, 557, 558, 559, 1029, 1030, 1031, 1032, 560, 561, 562, 563] (by decide +kernel)
set_option maxRecDepth 20000 in
theorem wl_27 : ∀ w ∈ wsL_law_r27, w ∈ lw_tbl := in_ix [564, 565, 566, 567, 568, 570, 18, 571, 572, 574, 19, 575, 576, 577, 578, 579, 580, 581, 582, 583, 584, 1033, 1034, 1035] (by decide +kernel)
set_option maxRecDepth 20000 in
theorem wl_28 : ∀ w ∈ wsL_law_r28, w ∈ lw_tbl := in_ix [1036, 1037, 1039, 58, 1040, 1041, 1043, 59, 1044, 1045, 1047, 60, 1048, 1049, 1051, 61, 1052, 1053, 1055, 62, 1056, 585, 586, 587] (by decide +kernel)
set_option maxRecDepth 20000 in
theorem wl_29 : ∀ w ∈ wsL_law_r29, w ∈ lw_tbl := in_ix [588, 589, 590, 591, 592, 593, 594, 595, 596, 597, 598, 599, 600, 295, 601, 602, 603, 604, 605, 606, 607, 608, 609, 610] (by decide +kernel)
set_option maxRecDepth 20000 in
theorem wl_30 : ∀ w ∈ wsL_law_r30, w ∈ lw_tbl := in_ix [611, 612, 613, 614, 616, 20, 617, 1057, 1058, 1059, 1060, 1061, 1063, 63, 1064, 618, 619, 620, 621, 622, 624, 21, 625, 626] (by decide +kernel)
set_option maxRecDepth 20000 in
theorem wl_31 : ∀ w ∈ wsL_law_r31, w ∈ lw_tbl := in_ix [627, 628, 629, 631, 22, 632, 633, 635, 23, 636, 637, 1065, 1066, 1067, 1068, 1069, 1071, 64, 1072, 638, 639, 640, 641, 642] (by decide +kernel)
set_option maxRecDepth 20000 in
theorem wl_32 : ∀ w ∈ wsL_law_r32, w ∈ lw_tbl := in_ix [644, 24, 645, 1073, 1074, 1075, 1076, 646, 647, 648, 649, 1077, 1078, 1079, 1080, 650, 651, 652, 653, 654, 655, 656, 657, 658] (by decide +kernel)
set_option maxRecDepth 20000 in
theorem wl_33 : ∀ w ∈ wsL_law_r33, w ∈ lw_tbl := in_ix [1081, 1082, 1083, 1084, 659, 660, 661, 662, 663, 664, 665, 666, 667, 668, 670, 25, 671, 1085, 1086, 1087, 1088, 1089, 1091, 65] (by decide +kernel)
set_option maxRecDepth 20000 in
theorem wl_34 : ∀ w ∈ wsL_law_r34, w ∈ lw_tbl := in_ix [1092, 672, 673, 674, 675, 676, 677, 678, 679, 680, 682, 26, 683, 684, 685, 686, 1093, 1094, 1095, 1096, 687, 688, 689, 690] (by decide +kernel)
set_option maxRecDepth 20000 in
theorem wl_35 : ∀ w ∈ wsL_law_r35, w ∈ lw_tbl := in_ix [691, 692, 693, 694, 1097, 1098, 1099, 1100, 695, 696, 697, 698, 699, 701, 27, 702, 703, 704, 705, 706, 707, 708, 1101, 1102] (by decide +kernel)
set_option maxRecDepth 20000 in
theorem wl_36 : ∀ w ∈ wsL_law_r36, w ∈ lw_tbl := in_ix [1103, 1104, 1105, 1107, 66, 1108, 709, 710, 711, 712, 713, 714, 715, 716, 717, 1109, 1110, 1111, 1112, 718, 719, 720, 721, 722] (by decide +kernel)
set_option maxRecDepth 20000 in
theorem wl_37 : ∀ w ∈ wsL_law_r37, w ∈ lw_tbl := in_ix [723, 724, 725, 726, 1113, 1114, 1115, 1116, 727, 728, 729, 730, 1117, 1118, 1119, 1120, 1121, 731, 732, 733, 734, 1122, 1123, 1124] (by decide +kernel)
set_option maxRecDepth 20000 in
theorem wl_38 : ∀ w ∈ wsL_law_r38, w ∈ lw_tbl := in_ix [1125, 735, 736, 737, 738, 739, 741, 28, 742, 743, 744, 745, 746, 1126, 1127, 1128, 1129, 1130, 1132, 67, 1133, 747, 748, 749] (by decide +kernel)
set_option maxRecDepth 20000 in
theorem wl_39 : ∀ w ∈ wsL_law_r39, w ∈ lw_tbl := in_ix [750, 751, 753, 29, 754, 755, 756, 757, 1134, 1135, 1136, 1137, 1138, 1139, 1140, 1141, 758, 759, 760, 761, 762, 764, 30, 765] (by decide +kernel)
set_option maxRecDepth 20000 in
theorem wl_40 : ∀ w ∈ wsL_law_r40, w ∈ lw_tbl := in_ix [766, 767, 768, 769, 770, 1142, 1143, 1144, 1145, 1146, 1148, 68, 1149, 771, 772, 773, 774, 1150, 1151, 1152, 1153, 775, 776, 777] (by decide +kernel)
set_option maxRecDepth 20000 in
theorem wl_41 : ∀ w ∈ wsL_law_r41, w ∈ lw_tbl := in_ix [778, 1154, 1155, 1156, 1157] (by decide +kernel)
set_option maxRecDepth 20000 in
theorem wl_X5 : ∀ w ∈ wsX50, w ∈ lw_tbl := in_ix [316, 318, 320, 322, 324, 326, 328, 330, 332, 334, 336, 338, 340] (by decide +kernel)
set_option maxRecDepth 20000 in
theorem wl_X6 : ∀ w ∈ wsX60, w ∈ lw_tbl := in_ix [878, 880, 882, 884, 886, 888, 890, 892, 894, 896, 898, 900, 902, 904, 906, 908, 910, 912, 914, 916, 918, 920] (by decide +kernel)
set_option maxRecDepth 20000 in
theorem wl_X1 : ∀ w ∈ wsX10, w ∈ lw_tbl := in_ix [101, 103] (by decide +kernel)
set_option maxRecDepth 20000 in
theorem wl_X3 : ∀ w ∈ wsX30, w ∈ lw_tbl := in_ix [114] (by decide +kernel)
set_option maxRecDepth 20000 in
theorem wl_X4 : ∀ w ∈ wsX40, w ∈ lw_tbl := in_ix [187, 189, 191, 193, 195, 197, 199, 201] (by decide +kernel)
set_option maxRecDepth 20000 in
theorem wl_X0 : ∀ w ∈ wsX00, w ∈ lw_tbl := in_ix [278, 280, 282, 284] (by decide +kernel)
set_option maxRecDepth 20000 in
theorem wl_X2 : ∀ w ∈ wsX20, w ∈ lw_tbl := in_ix [296, 298, 300] (by decide +kernel)
theorem wsL_law_in : ∀ w ∈ wsL_law, w ∈ lw_tbl := List.forall_mem_append.mpr ⟨List.forall_mem_append.mpr ⟨List.forall_mem_append.mpr ⟨List.forall_mem_append.mpr ⟨List.forall_mem_append.mpr ⟨List.forall_mem_append.mpr ⟨List.forall_mem_append.mpr ⟨List.forall_mem_append.mpr ⟨List.forall_mem_append.mpr ⟨wl_1, List.forall_mem_append.mpr ⟨wl_2, List.forall_mem_append.mpr ⟨wl_3, List.forall_mem_append.mpr ⟨wl_4, List.forall_mem_append.mpr ⟨wl_5, List.forall_mem_append.mpr ⟨wl_6, List.forall_mem_append.mpr ⟨wl_7, List.forall_mem_append.mpr ⟨wl_8, List.forall_mem_append.mpr ⟨wl_9, List.forall_mem_append.mpr ⟨wl_10, List.forall_mem_append.mpr ⟨wl_11, List.forall_mem_append.mpr ⟨wl_12, List.forall_mem_append.mpr ⟨wl_13, List.forall_mem_append.mpr ⟨wl_14, List.forall_mem_append.mpr ⟨wl_15, List.forall_mem_append.mpr ⟨wl_16, List.forall_mem_append.mpr ⟨wl_17, List.forall_mem_append.mpr ⟨wl_18, List.forall_mem_append.mpr ⟨wl_19, List.forall_mem_append.mpr ⟨wl_20, List.forall_mem_append.mpr ⟨wl_21, List.forall_mem_append.mpr ⟨wl_22, List.forall_mem_append.mpr ⟨wl_23, List.forall_mem_append.mpr ⟨wl_24, List.forall_mem_append.mpr ⟨wl_25, List.forall_mem_append.mpr ⟨wl_26, List.forall_mem_append.mpr ⟨wl_27, List.forall_mem_append.mpr ⟨wl_28, List.forall_mem_append.mpr ⟨wl_29, List.forall_mem_append.mpr ⟨wl_30, List.forall_mem_append.mpr ⟨wl_31, List.forall_mem_append.mpr ⟨wl_32, List.forall_mem_append.mpr ⟨wl_33, List.forall_mem_append.mpr ⟨wl_34, List.forall_mem_append.mpr ⟨wl_35, List.forall_mem_append.mpr ⟨wl_36, List.forall_mem_append.mpr ⟨wl_37, List.forall_mem_append.mpr ⟨wl_38, List.forall_mem_append.mpr ⟨wl_39, List.forall_mem_append.mpr ⟨wl_40, wl_41⟩⟩⟩⟩⟩⟩⟩⟩⟩⟩⟩⟩⟩⟩⟩⟩⟩⟩⟩⟩⟩⟩⟩⟩⟩⟩⟩⟩⟩⟩⟩⟩⟩⟩⟩⟩⟩⟩⟩⟩, wl_X5⟩, wl_X6⟩, wl_X1⟩, wl_X3⟩, wl_X4⟩, wl_X0⟩, wl_X2⟩, fun _ h => absurd h List.not_mem_nil⟩
