theorem dX6_mayAll_73 : decode cX6_mayAll 73 = .ok (.irem, 1) := by decide +kernel
theorem dX6_mayAll_74 : decode cX6_mayAll 74 = .ok (.invokevirtual 183, 3) := by decide +kernel
theorem dX6_mayAll_77 : decode cX6_mayAll 77 = .ok (.ifCond .eq 7, 3) := by decide +kernel
theorem dX6_mayAll_80 : decode cX6_mayAll 80 = .ok (.iconst 1, 1) := by decide +kernel
theorem dX6_mayAll_81 : decode cX6_mayAll 81 = .ok (.goto 4, 3) := by decide +kernel
theorem dX6_mayAll_84 : decode cX6_mayAll 84 = .ok (.iconst 0, 1) := by decide +kernel
theorem dX6_mayAll_85 : decode cX6_mayAll 85 = .ok (.istore_n 2, 1) := by decide +kernel
theorem dX6_mayAll_86 : decode cX6_mayAll 86 = .ok (.iinc 3 1, 3) := by decide +kernel
theorem dX6_mayAll_89 : decode cX6_mayAll 89 = .ok (.goto (-68), 3) := by decide +kernel
theorem dX6_mayAll_92 : decode cX6_mayAll 92 = .ok (.iload_n 2, 1) := by decide +kernel
theorem dX6_mayAll_93 : decode cX6_mayAll 93 = .ok (.ireturn, 1) := by decide +kernel
set_option maxRecDepth 20000 in
theorem ggX6_vote_X6_bits : GoodIn wsX6_vote wsX6_bits := goodIn_r _ [5] (by decide +kernel) (by decide +kernel)
set_option maxRecDepth 20000 in
theorem gX6_vote_X6_bits : GoodIn wsX6_vote (va_wsS RX6 192 yX6_bits wsX6_bits) := goodIn_app (goodIn_of _ (by decide +kernel)) ggX6_vote_X6_bits
set_option maxRecDepth 20000 in
theorem ggX6_vote_X6_mayAll : GoodIn wsX6_vote wsX6_mayAll := goodIn_r _ [9, 10, 11, 12, 4, 13, 14, 15, 16, 17, 18, 19, 20, 21, 22, 23, 24, 25, 26, 27, 28, 29, 30, 31, 32, 33, 34, 35, 36, 37, 38, 39, 40, 41, 42, 43, 44, 45, 46, 47, 48] (by decide +kernel) (by decide +kernel)
set_option maxRecDepth 20000 in
theorem gX6_vote_X6_mayAll : GoodIn wsX6_vote (wsV RX6 218 RX6 yX6_mayAll wsX6_mayAll) := goodIn_app (goodIn_of _ (by decide +kernel)) ggX6_vote_X6_mayAll
theorem dX6_vote_0 : decode cX6_vote 0 = .ok (.iconst 0, 1) := by decide +kernel
theorem dX6_vote_1 : decode cX6_vote 1 = .ok (.istore_n 1, 1) := by decide +kernel
theorem dX6_vote_2 : decode cX6_vote 2 = .ok (.iconst 1, 1) := by decide +kernel
theorem dX6_vote_3 : decode cX6_vote 3 = .ok (.istore_n 2, 1) := by decide +kernel
theorem dX6_vote_4 : decode cX6_vote 4 = .ok (.iload_n 2, 1) := by decide +kernel
theorem dX6_vote_5 : decode cX6_vote 5 = .ok (.iconst 1, 1) := by decide +kernel
theorem dX6_vote_6 : decode cX6_vote 6 = .ok (.aload_n 0, 1) := by decide +kernel
theorem dX6_vote_7 : decode cX6_vote 7 = .ok (.getfield 13, 3) := by decide +kernel
theorem dX6_vote_10 : decode cX6_vote 10 = .ok (.iconst 0, 1) := by decide +kernel
theorem dX6_vote_11 : decode cX6_vote 11 = .ok (.iaload, 1) := by decide +kernel
theorem dX6_vote_12 : decode cX6_vote 12 = .ok (.ishl, 1) := by decide +kernel
theorem dX6_vote_13 : decode cX6_vote 13 = .ok (.if_icmp .ge 34, 3) := by decide +kernel
theorem dX6_vote_16 : decode cX6_vote 16 = .ok (.iload_n 2, 1) := by decide +kernel
theorem dX6_vote_17 : decode cX6_vote 17 = .ok (.invokestatic 192, 3) := by decide +kernel
theorem dX6_vote_20 : decode cX6_vote 20 = .ok (.iload_n 1, 1) := by decide +kernel
theorem dX6_vote_21 : decode cX6_vote 21 = .ok (.invokestatic 192, 3) := by decide +kernel
theorem dX6_vote_24 : decode cX6_vote 24 = .ok (.if_icmp .le 15, 3) := by decide +kernel
theorem dX6_vote_27 : decode cX6_vote 27 = .ok (.aload_n 0, 1) := by decide +kernel
theorem dX6_vote_28 : decode cX6_vote 28 = .ok (.iload_n 2, 1) := by decide +kernel
theorem dX6_vote_29 : decode cX6_vote 29 = .ok (.invokevirtual 218, 3) := by decide +kernel
theorem dX6_vote_32 : decode cX6_vote 32 = .ok (.ifCond .eq 7, 3) := by decide +kernel
theorem dX6_vote_35 : decode cX6_vote 35 = .ok (.iload_n 2, 1) := by decide +kernel
theorem dX6_vote_36 : decode cX6_vote 36 = .ok (.goto 4, 3) := by decide +kernel
theorem dX6_vote_39 : decode cX6_vote 39 = .ok (.iload_n 1, 1) := by decide +kernel
theorem dX6_vote_40 : decode cX6_vote 40 = .ok (.istore_n 1, 1) := by decide +kernel
theorem dX6_vote_41 : decode cX6_vote 41 = .ok (.iinc 2 1, 3) := by decide +kernel
theorem dX6_vote_44 : decode cX6_vote 44 = .ok (.goto (-40), 3) := by decide +kernel
theorem dX6_vote_47 : decode cX6_vote 47 = .ok (.iload_n 1, 1) := by decide +kernel
theorem dX6_vote_48 : decode cX6_vote 48 = .ok (.ireturn, 1) := by decide +kernel
set_option maxRecDepth 20000 in
theorem ggX6_deals_X6_has : GoodIn wsX6_deals wsX6_has := goodIn_r _ [6] (by decide +kernel) (by decide +kernel)
set_option maxRecDepth 20000 in
theorem gX6_deals_X6_has : GoodIn wsX6_deals (va_wsS RX6 131 yX6_has wsX6_has) := goodIn_app (goodIn_of _ (by decide +kernel)) ggX6_deals_X6_has
set_option maxRecDepth 20000 in
theorem ggX6_deals_X6_maySpeak : GoodIn wsX6_deals wsX6_maySpeak := goodIn_r _ [10, 11, 12, 13, 5, 14, 15, 3, 4, 6, 16, 17, 18, 19, 20, 21, 22, 23, 24, 25, 26, 27, 28, 29, 30, 31, 32, 33, 34, 35, 36, 37, 38, 39, 40, 41, 42] (by decide +kernel) (by decide +kernel)
set_option maxRecDepth 20000 in
theorem gX6_deals_X6_maySpeak : GoodIn wsX6_deals (wsV RX6 183 RX6 yX6_maySpeak wsX6_maySpeak) := goodIn_app (goodIn_of _ (by decide +kernel)) ggX6_deals_X6_maySpeak
theorem dX6_deals_0 : decode cX6_deals 0 = .ok (.iconst 0, 1) := by decide +kernel
theorem dX6_deals_1 : decode cX6_deals 1 = .ok (.istore_n 1, 1) := by decide +kernel
theorem dX6_deals_2 : decode cX6_deals 2 = .ok (.iload_n 1, 1) := by decide +kernel
theorem dX6_deals_3 : decode cX6_deals 3 = .ok (.iconst 1, 1) := by decide +kernel
theorem dX6_deals_4 : decode cX6_deals 4 = .ok (.aload_n 0, 1) := by decide +kernel
theorem dX6_deals_5 : decode cX6_deals 5 = .ok (.getfield 13, 3) := by decide +kernel
theorem dX6_deals_8 : decode cX6_deals 8 = .ok (.iconst 0, 1) := by decide +kernel
theorem dX6_deals_9 : decode cX6_deals 9 = .ok (.iaload, 1) := by decide +kernel
theorem dX6_deals_10 : decode cX6_deals 10 = .ok (.ishl, 1) := by decide +kernel
theorem dX6_deals_11 : decode cX6_deals 11 = .ok (.if_icmp .ge 137, 3) := by decide +kernel
theorem dX6_deals_14 : decode cX6_deals 14 = .ok (.iconst 0, 1) := by decide +kernel
theorem dX6_deals_15 : decode cX6_deals 15 = .ok (.istore_n 2, 1) := by decide +kernel
theorem dX6_deals_16 : decode cX6_deals 16 = .ok (.iload_n 2, 1) := by decide +kernel
theorem dX6_deals_17 : decode cX6_deals 17 = .ok (.bipush 7, 2) := by decide +kernel
theorem dX6_deals_19 : decode cX6_deals 19 = .ok (.if_icmp .ge 17, 3) := by decide +kernel
theorem dX6_deals_22 : decode cX6_deals 22 = .ok (.iload_n 1, 1) := by decide +kernel
theorem dX6_deals_23 : decode cX6_deals 23 = .ok (.iload_n 2, 1) := by decide +kernel
theorem dX6_deals_24 : decode cX6_deals 24 = .ok (.invokestatic 131, 3) := by decide +kernel
theorem dX6_deals_27 : decode cX6_deals 27 = .ok (.ifCond .ne 9, 3) := by decide +kernel
theorem dX6_deals_30 : decode cX6_deals 30 = .ok (.iinc 2 1, 3) := by decide +kernel
theorem dX6_deals_33 : decode cX6_deals 33 = .ok (.goto (-17), 3) := by decide +kernel
theorem dX6_deals_36 : decode cX6_deals 36 = .ok (.iload_n 1, 1) := by decide +kernel
theorem dX6_deals_37 : decode cX6_deals 37 = .ok (.ifCond .ne 7, 3) := by decide +kernel
theorem dX6_deals_40 : decode cX6_deals 40 = .ok (.iconst 0, 1) := by decide +kernel
theorem dX6_deals_41 : decode cX6_deals 41 = .ok (.goto 15, 3) := by decide +kernel
theorem dX6_deals_44 : decode cX6_deals 44 = .ok (.aload_n 0, 1) := by decide +kernel
theorem dX6_deals_45 : decode cX6_deals 45 = .ok (.getfield 61, 3) := by decide +kernel
theorem dX6_deals_48 : decode cX6_deals 48 = .ok (.iload_n 1, 1) := by decide +kernel
theorem dX6_deals_49 : decode cX6_deals 49 = .ok (.iconst 1, 1) := by decide +kernel
theorem dX6_deals_50 : decode cX6_deals 50 = .ok (.iload_n 2, 1) := by decide +kernel
theorem dX6_deals_51 : decode cX6_deals 51 = .ok (.ishl, 1) := by decide +kernel
theorem dX6_deals_52 : decode cX6_deals 52 = .ok (.iconst (-1), 1) := by decide +kernel
theorem dX6_deals_53 : decode cX6_deals 53 = .ok (.ixor, 1) := by decide +kernel
theorem dX6_deals_54 : decode cX6_deals 54 = .ok (.iand, 1) := by decide +kernel
theorem dX6_deals_55 : decode cX6_deals 55 = .ok (.iaload, 1) := by decide +kernel
theorem dX6_deals_56 : decode cX6_deals 56 = .ok (.istore_n 3, 1) := by decide +kernel
theorem dX6_deals_57 : decode cX6_deals 57 = .ok (.iload_n 2, 1) := by decide +kernel
theorem dX6_deals_58 : decode cX6_deals 58 = .ok (.iconst 1, 1) := by decide +kernel
theorem dX6_deals_59 : decode cX6_deals 59 = .ok (.iadd, 1) := by decide +kernel
theorem dX6_deals_60 : decode cX6_deals 60 = .ok (.istore 4, 2) := by decide +kernel
theorem dX6_deals_62 : decode cX6_deals 62 = .ok (.iload 4, 2) := by decide +kernel
theorem dX6_deals_64 : decode cX6_deals 64 = .ok (.aload_n 0, 1) := by decide +kernel
theorem dX6_deals_65 : decode cX6_deals 65 = .ok (.getfield 13, 3) := by decide +kernel
theorem dX6_deals_68 : decode cX6_deals 68 = .ok (.iconst 0, 1) := by decide +kernel
theorem dX6_deals_69 : decode cX6_deals 69 = .ok (.iaload, 1) := by decide +kernel
theorem dX6_deals_70 : decode cX6_deals 70 = .ok (.if_icmp .ge 65, 3) := by decide +kernel
theorem dX6_deals_73 : decode cX6_deals 73 = .ok (.iload_n 1, 1) := by decide +kernel
theorem dX6_deals_74 : decode cX6_deals 74 = .ok (.iload 4, 2) := by decide +kernel
theorem dX6_deals_76 : decode cX6_deals 76 = .ok (.invokestatic 131, 3) := by decide +kernel
theorem dX6_deals_79 : decode cX6_deals 79 = .ok (.ifCond .eq 50, 3) := by decide +kernel
theorem dX6_deals_82 : decode cX6_deals 82 = .ok (.aload_n 0, 1) := by decide +kernel
theorem dX6_deals_83 : decode cX6_deals 83 = .ok (.iconst 0, 1) := by decide +kernel
theorem dX6_deals_84 : decode cX6_deals 84 = .ok (.iload_n 2, 1) := by decide +kernel
theorem dX6_deals_85 : decode cX6_deals 85 = .ok (.iload 4, 2) := by decide +kernel
theorem dX6_deals_87 : decode cX6_deals 87 = .ok (.invokevirtual 183, 3) := by decide +kernel
theorem dX6_deals_90 : decode cX6_deals 90 = .ok (.ifCond .eq 39, 3) := by decide +kernel
theorem dX6_deals_93 : decode cX6_deals 93 = .ok (.iconst 1, 1) := by decide +kernel
theorem dX6_deals_94 : decode cX6_deals 94 = .ok (.aload_n 0, 1) := by decide +kernel
theorem dX6_deals_95 : decode cX6_deals 95 = .ok (.getfield 61, 3) := by decide +kernel
theorem dX6_deals_98 : decode cX6_deals 98 = .ok (.iload_n 1, 1) := by decide +kernel
theorem dX6_deals_99 : decode cX6_deals 99 = .ok (.iconst 1, 1) := by decide +kernel
theorem dX6_deals_100 : decode cX6_deals 100 = .ok (.iload_n 2, 1) := by decide +kernel
theorem dX6_deals_101 : decode cX6_deals 101 = .ok (.ishl, 1) := by decide +kernel
theorem dX6_deals_102 : decode cX6_deals 102 = .ok (.iconst (-1), 1) := by decide +kernel
theorem dX6_deals_103 : decode cX6_deals 103 = .ok (.ixor, 1) := by decide +kernel
theorem dX6_deals_104 : decode cX6_deals 104 = .ok (.iand, 1) := by decide +kernel
theorem dX6_deals_105 : decode cX6_deals 105 = .ok (.iconst 1, 1) := by decide +kernel
theorem dX6_deals_106 : decode cX6_deals 106 = .ok (.iload 4, 2) := by decide +kernel
theorem dX6_deals_108 : decode cX6_deals 108 = .ok (.ishl, 1) := by decide +kernel
theorem dX6_deals_109 : decode cX6_deals 109 = .ok (.iconst (-1), 1) := by decide +kernel
theorem dX6_deals_110 : decode cX6_deals 110 = .ok (.ixor, 1) := by decide +kernel
theorem dX6_deals_111 : decode cX6_deals 111 = .ok (.iand, 1) := by decide +kernel
theorem dX6_deals_112 : decode cX6_deals 112 = .ok (.iaload, 1) := by decide +kernel
theorem dX6_deals_113 : decode cX6_deals 113 = .ok (.iadd, 1) := by decide +kernel
theorem dX6_deals_114 : decode cX6_deals 114 = .ok (.istore 5, 2) := by decide +kernel
theorem dX6_deals_116 : decode cX6_deals 116 = .ok (.iload 5, 2) := by decide +kernel
theorem dX6_deals_118 : decode cX6_deals 118 = .ok (.iload_n 3, 1) := by decide +kernel
theorem dX6_deals_119 : decode cX6_deals 119 = .ok (.if_icmp .le 8, 3) := by decide +kernel
theorem dX6_deals_122 : decode cX6_deals 122 = .ok (.iload 5, 2) := by decide +kernel
theorem dX6_deals_124 : decode cX6_deals 124 = .ok (.goto 4, 3) := by decide +kernel
theorem dX6_deals_127 : decode cX6_deals 127 = .ok (.iload_n 3, 1) := by decide +kernel
theorem dX6_deals_128 : decode cX6_deals 128 = .ok (.istore_n 3, 1) := by decide +kernel
theorem dX6_deals_129 : decode cX6_deals 129 = .ok (.iinc 4 1, 3) := by decide +kernel
theorem dX6_deals_132 : decode cX6_deals 132 = .ok (.goto (-70), 3) := by decide +kernel
theorem dX6_deals_135 : decode cX6_deals 135 = .ok (.aload_n 0, 1) := by decide +kernel
theorem dX6_deals_136 : decode cX6_deals 136 = .ok (.getfield 61, 3) := by decide +kernel
theorem dX6_deals_139 : decode cX6_deals 139 = .ok (.iload_n 1, 1) := by decide +kernel
theorem dX6_deals_140 : decode cX6_deals 140 = .ok (.iload_n 3, 1) := by decide +kernel
theorem dX6_deals_141 : decode cX6_deals 141 = .ok (.iastore, 1) := by decide +kernel
theorem dX6_deals_142 : decode cX6_deals 142 = .ok (.iinc 1 1, 3) := by decide +kernel
theorem dX6_deals_145 : decode cX6_deals 145 = .ok (.goto (-143), 3) := by decide +kernel
theorem dX6_deals_148 : decode cX6_deals 148 = .ok (.aload_n 0, 1) := by decide +kernel
theorem dX6_deals_149 : decode cX6_deals 149 = .ok (.getfield 61, 3) := by decide +kernel
theorem dX6_deals_152 : decode cX6_deals 152 = .ok (.iconst 1, 1) := by decide +kernel
theorem dX6_deals_153 : decode cX6_deals 153 = .ok (.aload_n 0, 1) := by decide +kernel
theorem dX6_deals_154 : decode cX6_deals 154 = .ok (.getfield 13, 3) := by decide +kernel
theorem dX6_deals_157 : decode cX6_deals 157 = .ok (.iconst 0, 1) := by decide +kernel
theorem dX6_deals_158 : decode cX6_deals 158 = .ok (.iaload, 1) := by decide +kernel
theorem dX6_deals_159 : decode cX6_deals 159 = .ok (.ishl, 1) := by decide +kernel
theorem dX6_deals_160 : decode cX6_deals 160 = .ok (.iconst 1, 1) := by decide +kernel
theorem dX6_deals_161 : decode cX6_deals 161 = .ok (.isub, 1) := by decide +kernel
theorem dX6_deals_162 : decode cX6_deals 162 = .ok (.iaload, 1) := by decide +kernel
theorem dX6_deals_163 : decode cX6_deals 163 = .ok (.ireturn, 1) := by decide +kernel
set_option maxRecDepth 20000 in
theorem ggX6_guests_X6_areTwo : GoodIn wsX6_guests wsX6_areTwo := goodIn_r _ [6, 7, 8, 9, 5, 10, 1, 11, 12, 13, 31, 32, 33, 34, 35, 36, 37, 38, 39, 40, 41, 42, 43, 44, 45, 46, 47, 48, 49, 50, 51, 52] (by decide +kernel) (by decide +kernel)
set_option maxRecDepth 20000 in
theorem gX6_guests_X6_areTwo : GoodIn wsX6_guests (wsV RX6 180 RX6 yX6_areTwo wsX6_areTwo) := goodIn_app (goodIn_of _ (by decide +kernel)) ggX6_guests_X6_areTwo
set_option maxRecDepth 20000 in
theorem ggX6_guests_X6_isAlive : GoodIn wsX6_guests wsX6_isAlive := goodIn_r _ [17, 18, 19, 20, 5, 21, 31, 32, 33, 34, 35, 36, 37, 38, 39, 40, 41, 42, 43, 44, 45, 46, 47, 48, 49, 50, 51, 52] (by decide +kernel) (by decide +kernel)
set_option maxRecDepth 20000 in
theorem gX6_guests_X6_isAlive : GoodIn wsX6_guests (wsV RX6 135 RX6 yX6_isAlive wsX6_isAlive) := goodIn_app (goodIn_of _ (by decide +kernel)) ggX6_guests_X6_isAlive
set_option maxRecDepth 20000 in
theorem ggX6_guests_X6_maySpeak : GoodIn wsX6_guests wsX6_maySpeak := goodIn_r _ [25, 14, 15, 16, 5, 17, 18, 19, 20, 21, 26, 27, 28, 29, 30, 31, 32, 33, 34, 35, 36, 37, 38, 39, 40, 41, 42, 43, 44, 45, 46, 47, 48, 49, 50, 51, 52] (by decide +kernel) (by decide +kernel)
set_option maxRecDepth 20000 in
theorem gX6_guests_X6_maySpeak : GoodIn wsX6_guests (wsV RX6 183 RX6 yX6_maySpeak wsX6_maySpeak) := goodIn_app (goodIn_of _ (by decide +kernel)) ggX6_guests_X6_maySpeak
theorem dX6_guests_0 : decode cX6_guests 0 = .ok (.aload_n 0, 1) := by decide +kernel
theorem dX6_guests_1 : decode cX6_guests 1 = .ok (.iload_n 1, 1) := by decide +kernel
theorem dX6_guests_2 : decode cX6_guests 2 = .ok (.iload_n 2, 1) := by decide +kernel
theorem dX6_guests_3 : decode cX6_guests 3 = .ok (.invokevirtual 180, 3) := by decide +kernel
theorem dX6_guests_6 : decode cX6_guests 6 = .ok (.ifCond .ne 5, 3) := by decide +kernel
theorem dX6_guests_9 : decode cX6_guests 9 = .ok (.iconst (-1), 1) := by decide +kernel
theorem dX6_guests_10 : decode cX6_guests 10 = .ok (.ireturn, 1) := by decide +kernel
theorem dX6_guests_11 : decode cX6_guests 11 = .ok (.aload_n 0, 1) := by decide +kernel
theorem dX6_guests_12 : decode cX6_guests 12 = .ok (.iconst 0, 1) := by decide +kernel
theorem dX6_guests_13 : decode cX6_guests 13 = .ok (.iload_n 1, 1) := by decide +kernel
theorem dX6_guests_14 : decode cX6_guests 14 = .ok (.invokevirtual 135, 3) := by decide +kernel
theorem dX6_guests_17 : decode cX6_guests 17 = .ok (.ifCond .eq 12, 3) := by decide +kernel
theorem dX6_guests_20 : decode cX6_guests 20 = .ok (.aload_n 0, 1) := by decide +kernel
theorem dX6_guests_21 : decode cX6_guests 21 = .ok (.iconst 0, 1) := by decide +kernel
theorem dX6_guests_22 : decode cX6_guests 22 = .ok (.iload_n 2, 1) := by decide +kernel
theorem dX6_guests_23 : decode cX6_guests 23 = .ok (.invokevirtual 135, 3) := by decide +kernel
theorem dX6_guests_26 : decode cX6_guests 26 = .ok (.ifCond .ne 6, 3) := by decide +kernel
theorem dX6_guests_29 : decode cX6_guests 29 = .ok (.bipush (-2), 2) := by decide +kernel
theorem dX6_guests_31 : decode cX6_guests 31 = .ok (.ireturn, 1) := by decide +kernel
theorem dX6_guests_32 : decode cX6_guests 32 = .ok (.iconst 0, 1) := by decide +kernel
theorem dX6_guests_33 : decode cX6_guests 33 = .ok (.istore_n 3, 1) := by decide +kernel
theorem dX6_guests_34 : decode cX6_guests 34 = .ok (.iconst 0, 1) := by decide +kernel
theorem dX6_guests_35 : decode cX6_guests 35 = .ok (.istore 4, 2) := by decide +kernel
theorem dX6_guests_37 : decode cX6_guests 37 = .ok (.iload 4, 2) := by decide +kernel
theorem dX6_guests_39 : decode cX6_guests 39 = .ok (.aload_n 0, 1) := by decide +kernel
theorem dX6_guests_40 : decode cX6_guests 40 = .ok (.getfield 13, 3) := by decide +kernel
theorem dX6_guests_43 : decode cX6_guests 43 = .ok (.iconst 0, 1) := by decide +kernel
theorem dX6_guests_44 : decode cX6_guests 44 = .ok (.iaload, 1) := by decide +kernel
theorem dX6_guests_45 : decode cX6_guests 45 = .ok (.if_icmp .ge 42, 3) := by decide +kernel
theorem dX6_guests_48 : decode cX6_guests 48 = .ok (.iload_n 3, 1) := by decide +kernel
theorem dX6_guests_49 : decode cX6_guests 49 = .ok (.aload_n 0, 1) := by decide +kernel
theorem dX6_guests_50 : decode cX6_guests 50 = .ok (.iconst 0, 1) := by decide +kernel
theorem dX6_guests_51 : decode cX6_guests 51 = .ok (.iload_n 1, 1) := by decide +kernel
theorem dX6_guests_52 : decode cX6_guests 52 = .ok (.iload 4, 2) := by decide +kernel
theorem dX6_guests_54 : decode cX6_guests 54 = .ok (.invokevirtual 183, 3) := by decide +kernel
theorem dX6_guests_57 : decode cX6_guests 57 = .ok (.ifCond .eq 21, 3) := by decide +kernel
theorem dX6_guests_60 : decode cX6_guests 60 = .ok (.aload_n 0, 1) := by decide +kernel
theorem dX6_guests_61 : decode cX6_guests 61 = .ok (.iconst 0, 1) := by decide +kernel
theorem dX6_guests_62 : decode cX6_guests 62 = .ok (.iload_n 2, 1) := by decide +kernel
theorem dX6_guests_63 : decode cX6_guests 63 = .ok (.iload 4, 2) := by decide +kernel
theorem dX6_guests_65 : decode cX6_guests 65 = .ok (.invokevirtual 183, 3) := by decide +kernel
theorem dX6_guests_68 : decode cX6_guests 68 = .ok (.ifCond .eq 10, 3) := by decide +kernel
theorem dX6_guests_71 : decode cX6_guests 71 = .ok (.iconst 1, 1) := by decide +kernel
theorem dX6_guests_72 : decode cX6_guests 72 = .ok (.iload 4, 2) := by decide +kernel
theorem dX6_guests_74 : decode cX6_guests 74 = .ok (.ishl, 1) := by decide +kernel
theorem dX6_guests_75 : decode cX6_guests 75 = .ok (.goto 4, 3) := by decide +kernel
theorem dX6_guests_78 : decode cX6_guests 78 = .ok (.iconst 0, 1) := by decide +kernel
theorem dX6_guests_79 : decode cX6_guests 79 = .ok (.ior, 1) := by decide +kernel
theorem dX6_guests_80 : decode cX6_guests 80 = .ok (.istore_n 3, 1) := by decide +kernel
theorem dX6_guests_81 : decode cX6_guests 81 = .ok (.iinc 4 1, 3) := by decide +kernel
theorem dX6_guests_84 : decode cX6_guests 84 = .ok (.goto (-47), 3) := by decide +kernel
theorem dX6_guests_87 : decode cX6_guests 87 = .ok (.iload_n 3, 1) := by decide +kernel
theorem dX6_guests_88 : decode cX6_guests 88 = .ok (.ireturn, 1) := by decide +kernel
set_option maxRecDepth 20000 in
theorem ggX6_isFreeBut_X6_copy : GoodIn wsX6_isFreeBut wsX6_copy := goodIn_r _ [6, 1, 7, 8, 9, 82, 83, 84, 85, 86, 87, 88, 89, 90, 91, 92, 93, 94, 95, 96, 97, 98, 99, 100, 101, 102, 103] (by decide +kernel) (by decide +kernel)
set_option maxRecDepth 20000 in
theorem gX6_isFreeBut_X6_copy : GoodIn wsX6_isFreeBut (wsV RX6 203 RX6 yX6_copy wsX6_copy) := goodIn_app (goodIn_of _ (by decide +kernel)) ggX6_isFreeBut_X6_copy
set_option maxRecDepth 20000 in
theorem ggX6_isFreeBut_X6_owedBehind : GoodIn wsX6_isFreeBut wsX6_owedBehind := goodIn_r _ [13, 2, 3, 4, 5, 6, 1, 7, 8, 9, 14, 15, 16, 17, 18, 19, 20, 21, 22, 23, 24, 25, 26, 27, 28, 29, 30, 31, 32, 33, 34, 35, 36, 37, 38, 39, 40, 41, 42, 43, 44, 45, 46, 47, 48, 49, 50, 51, 52, 53, 54, 55, 56, 57, 58, 59, 60, 61, 62, 63, 64, 65, 66, 67, 68, 69, 70, 71, 72, 73, 74, 75, 76, 77, 78, 79, 80, 81, 82, 83, 84, 85, 86, 87, 88, 89, 90, 91, 92, 93, 94, 95, 96, 97, 98, 99, 100, 101, 102, 103] (by decide +kernel) (by decide +kernel)
set_option maxRecDepth 20000 in
theorem gX6_isFreeBut_X6_owedBehind : GoodIn wsX6_isFreeBut (wsV RX6 215 RX6 yX6_owedBehind wsX6_owedBehind) := goodIn_app (goodIn_of _ (by decide +kernel)) ggX6_isFreeBut_X6_owedBehind
theorem dX6_isFreeBut_0 : decode cX6_isFreeBut 0 = .ok (.aload_n 0, 1) := by decide +kernel
theorem dX6_isFreeBut_1 : decode cX6_isFreeBut 1 = .ok (.iconst 0, 1) := by decide +kernel
theorem dX6_isFreeBut_2 : decode cX6_isFreeBut 2 = .ok (.iconst 1, 1) := by decide +kernel
theorem dX6_isFreeBut_3 : decode cX6_isFreeBut 3 = .ok (.invokevirtual 203, 3) := by decide +kernel
theorem dX6_isFreeBut_6 : decode cX6_isFreeBut 6 = .ok (.aload_n 0, 1) := by decide +kernel
theorem dX6_isFreeBut_7 : decode cX6_isFreeBut 7 = .ok (.getfield 46, 3) := by decide +kernel
theorem dX6_isFreeBut_10 : decode cX6_isFreeBut 10 = .ok (.bipush 64, 2) := by decide +kernel
theorem dX6_isFreeBut_12 : decode cX6_isFreeBut 12 = .ok (.iload_n 1, 1) := by decide +kernel
theorem dX6_isFreeBut_13 : decode cX6_isFreeBut 13 = .ok (.iadd, 1) := by decide +kernel
theorem dX6_isFreeBut_14 : decode cX6_isFreeBut 14 = .ok (.iconst 0, 1) := by decide +kernel
theorem dX6_isFreeBut_15 : decode cX6_isFreeBut 15 = .ok (.iastore, 1) := by decide +kernel
theorem dX6_isFreeBut_16 : decode cX6_isFreeBut 16 = .ok (.aload_n 0, 1) := by decide +kernel
theorem dX6_isFreeBut_17 : decode cX6_isFreeBut 17 = .ok (.getfield 46, 3) := by decide +kernel
theorem dX6_isFreeBut_20 : decode cX6_isFreeBut 20 = .ok (.bipush 64, 2) := by decide +kernel
theorem dX6_isFreeBut_22 : decode cX6_isFreeBut 22 = .ok (.iload_n 2, 1) := by decide +kernel
theorem dX6_isFreeBut_23 : decode cX6_isFreeBut 23 = .ok (.iadd, 1) := by decide +kernel
theorem dX6_isFreeBut_24 : decode cX6_isFreeBut 24 = .ok (.iconst 0, 1) := by decide +kernel
theorem dX6_isFreeBut_25 : decode cX6_isFreeBut 25 = .ok (.iastore, 1) := by decide +kernel
theorem dX6_isFreeBut_26 : decode cX6_isFreeBut 26 = .ok (.aload_n 0, 1) := by decide +kernel
theorem dX6_isFreeBut_27 : decode cX6_isFreeBut 27 = .ok (.iconst 1, 1) := by decide +kernel
theorem dX6_isFreeBut_28 : decode cX6_isFreeBut 28 = .ok (.invokevirtual 215, 3) := by decide +kernel
theorem dX6_isFreeBut_31 : decode cX6_isFreeBut 31 = .ok (.ifCond .ne 7, 3) := by decide +kernel
theorem dX6_isFreeBut_34 : decode cX6_isFreeBut 34 = .ok (.iconst 1, 1) := by decide +kernel
theorem dX6_isFreeBut_35 : decode cX6_isFreeBut 35 = .ok (.goto 4, 3) := by decide +kernel
theorem dX6_isFreeBut_38 : decode cX6_isFreeBut 38 = .ok (.iconst 0, 1) := by decide +kernel
theorem dX6_isFreeBut_39 : decode cX6_isFreeBut 39 = .ok (.ireturn, 1) := by decide +kernel
set_option maxRecDepth 20000 in
theorem ggX6_court_X6_in : GoodIn wsX6_court wsX6_in := goodIn_r _ [6] (by decide +kernel) (by decide +kernel)
set_option maxRecDepth 20000 in
theorem gX6_court_X6_in : GoodIn wsX6_court (va_wsS RX6 79 yX6_in wsX6_in) := goodIn_app (goodIn_of _ (by decide +kernel)) ggX6_court_X6_in
set_option maxRecDepth 20000 in
theorem ggX6_court_X6_owedBehind : GoodIn wsX6_court wsX6_owedBehind := goodIn_r _ [10, 11, 12, 13, 5, 14, 2, 15, 16, 17, 18, 19, 20, 21, 22, 23, 24, 25, 26, 27, 28, 29, 30, 31, 32, 33, 34, 35, 36, 37, 38, 39, 40, 41, 42, 43, 44, 45, 46, 47, 48, 49, 50, 51, 52, 53, 54, 55, 56, 57, 58, 59, 60, 61, 62, 63, 64, 65, 66, 67, 68, 69, 70, 71, 72, 73, 74, 75, 76, 77, 78, 79, 80, 81, 82, 83, 84, 85, 90, 91, 92, 93, 94, 95, 96, 97, 98, 99, 100, 101, 102, 103, 104, 105, 106, 107, 108, 109, 110, 111] (by decide +kernel) (by decide +kernel)
set_option maxRecDepth 20000 in
theorem gX6_court_X6_owedBehind : GoodIn wsX6_court (wsV RX6 215 RX6 yX6_owedBehind wsX6_owedBehind) := goodIn_app (goodIn_of _ (by decide +kernel)) ggX6_court_X6_owedBehind
set_option maxRecDepth 20000 in
theorem ggX6_court_X6_isFreeBut : GoodIn wsX6_court wsX6_isFreeBut := goodIn_r _ [89, 2, 11, 12, 13, 5, 14, 15, 16, 17, 7, 8, 9, 10, 18, 19, 20, 21, 22, 23, 24, 25, 26, 27, 28, 29, 30, 31, 32, 33, 34, 35, 36, 37, 38, 39, 40, 41, 42, 43, 44, 45, 46, 47, 48, 49, 50, 51, 52, 53, 54, 55, 56, 57, 58, 59, 60, 61, 62, 63, 64, 65, 66, 67, 68, 69, 70, 71, 72, 73, 74, 75, 76, 77, 78, 79, 80, 81, 82, 83, 84, 85, 90, 91, 92, 93, 94, 95, 96, 97, 98, 99, 100, 101, 102, 103, 104, 105, 106, 107, 108, 109, 110, 111] (by decide +kernel) (by decide +kernel)
set_option maxRecDepth 20000 in
theorem gX6_court_X6_isFreeBut : GoodIn wsX6_court (wsV RX6 221 RX6 yX6_isFreeBut wsX6_isFreeBut) := goodIn_app (goodIn_of _ (by decide +kernel)) ggX6_court_X6_isFreeBut
theorem dX6_court_0 : decode cX6_court 0 = .ok (.iload_n 1, 1) := by decide +kernel
theorem dX6_court_1 : decode cX6_court 1 = .ok (.i2l, 1) := by decide +kernel
theorem dX6_court_2 : decode cX6_court 2 = .ok (.lconst 0, 1) := by decide +kernel
theorem dX6_court_3 : decode cX6_court 3 = .ok (.ldc2_w 98, 3) := by decide +kernel
theorem dX6_court_6 : decode cX6_court 6 = .ok (.invokestatic 79, 3) := by decide +kernel
theorem dX6_court_9 : decode cX6_court 9 = .ok (.ifCond .eq 13, 3) := by decide +kernel
theorem dX6_court_12 : decode cX6_court 12 = .ok (.iload_n 2, 1) := by decide +kernel
theorem dX6_court_13 : decode cX6_court 13 = .ok (.i2l, 1) := by decide +kernel
theorem dX6_court_14 : decode cX6_court 14 = .ok (.lconst 0, 1) := by decide +kernel
theorem dX6_court_15 : decode cX6_court 15 = .ok (.lconst 1, 1) := by decide +kernel
theorem dX6_court_16 : decode cX6_court 16 = .ok (.invokestatic 79, 3) := by decide +kernel
theorem dX6_court_19 : decode cX6_court 19 = .ok (.ifCond .ne 5, 3) := by decide +kernel
theorem dX6_court_22 : decode cX6_court 22 = .ok (.iconst (-1), 1) := by decide +kernel
theorem dX6_court_23 : decode cX6_court 23 = .ok (.ireturn, 1) := by decide +kernel
theorem dX6_court_24 : decode cX6_court 24 = .ok (.iconst 0, 1) := by decide +kernel
theorem dX6_court_25 : decode cX6_court 25 = .ok (.istore_n 3, 1) := by decide +kernel
theorem dX6_court_26 : decode cX6_court 26 = .ok (.iconst 0, 1) := by decide +kernel
theorem dX6_court_27 : decode cX6_court 27 = .ok (.istore 4, 2) := by decide +kernel
theorem dX6_court_29 : decode cX6_court 29 = .ok (.iload_n 1, 1) := by decide +kernel
theorem dX6_court_30 : decode cX6_court 30 = .ok (.ifCond .ne 20, 3) := by decide +kernel
theorem dX6_court_33 : decode cX6_court 33 = .ok (.iconst 1, 1) := by decide +kernel
theorem dX6_court_34 : decode cX6_court 34 = .ok (.istore_n 3, 1) := by decide +kernel
theorem dX6_court_35 : decode cX6_court 35 = .ok (.aload_n 0, 1) := by decide +kernel
theorem dX6_court_36 : decode cX6_court 36 = .ok (.iconst 0, 1) := by decide +kernel
theorem dX6_court_37 : decode cX6_court 37 = .ok (.invokevirtual 215, 3) := by decide +kernel
theorem dX6_court_40 : decode cX6_court 40 = .ok (.ifCond .ne 7, 3) := by decide +kernel
theorem dX6_court_43 : decode cX6_court 43 = .ok (.iconst 1, 1) := by decide +kernel
theorem dX6_court_44 : decode cX6_court 44 = .ok (.goto 4, 3) := by decide +kernel
theorem dX6_court_47 : decode cX6_court 47 = .ok (.iconst 0, 1) := by decide +kernel
theorem dX6_court_48 : decode cX6_court 48 = .ok (.istore 4, 2) := by decide +kernel
theorem dX6_court_50 : decode cX6_court 50 = .ok (.iconst 0, 1) := by decide +kernel
theorem dX6_court_51 : decode cX6_court 51 = .ok (.istore 5, 2) := by decide +kernel
theorem dX6_court_53 : decode cX6_court 53 = .ok (.iload 5, 2) := by decide +kernel
theorem dX6_court_55 : decode cX6_court 55 = .ok (.bipush 64, 2) := by decide +kernel
theorem dX6_court_57 : decode cX6_court 57 = .ok (.if_icmp .ge 98, 3) := by decide +kernel
theorem dX6_court_60 : decode cX6_court 60 = .ok (.iload_n 1, 1) := by decide +kernel
theorem dX6_court_61 : decode cX6_court 61 = .ok (.ifCond .le 94, 3) := by decide +kernel
theorem dX6_court_64 : decode cX6_court 64 = .ok (.iload_n 1, 1) := by decide +kernel
theorem dX6_court_65 : decode cX6_court 65 = .ok (.iconst 1, 1) := by decide +kernel
theorem dX6_court_66 : decode cX6_court 66 = .ok (.if_icmp .ne 8, 3) := by decide +kernel
theorem dX6_court_69 : decode cX6_court 69 = .ok (.iload 5, 2) := by decide +kernel
theorem dX6_court_71 : decode cX6_court 71 = .ok (.goto 7, 3) := by decide +kernel
theorem dX6_court_74 : decode cX6_court 74 = .ok (.iload 5, 2) := by decide +kernel
theorem dX6_court_76 : decode cX6_court 76 = .ok (.iconst 1, 1) := by decide +kernel
theorem dX6_court_77 : decode cX6_court 77 = .ok (.iadd, 1) := by decide +kernel
theorem dX6_court_78 : decode cX6_court 78 = .ok (.istore 6, 2) := by decide +kernel
theorem dX6_court_80 : decode cX6_court 80 = .ok (.iload 6, 2) := by decide +kernel
theorem dX6_court_82 : decode cX6_court 82 = .ok (.iload_n 1, 1) := by decide +kernel
theorem dX6_court_83 : decode cX6_court 83 = .ok (.iconst 1, 1) := by decide +kernel
theorem dX6_court_84 : decode cX6_court 84 = .ok (.if_icmp .ne 10, 3) := by decide +kernel
theorem dX6_court_87 : decode cX6_court 87 = .ok (.iload 5, 2) := by decide +kernel
theorem dX6_court_89 : decode cX6_court 89 = .ok (.iconst 1, 1) := by decide +kernel
theorem dX6_court_90 : decode cX6_court 90 = .ok (.iadd, 1) := by decide +kernel
theorem dX6_court_91 : decode cX6_court 91 = .ok (.goto 5, 3) := by decide +kernel
theorem dX6_court_94 : decode cX6_court 94 = .ok (.bipush 64, 2) := by decide +kernel
theorem dX6_court_96 : decode cX6_court 96 = .ok (.if_icmp .ge 53, 3) := by decide +kernel
theorem dX6_court_99 : decode cX6_court 99 = .ok (.aload_n 0, 1) := by decide +kernel
theorem dX6_court_100 : decode cX6_court 100 = .ok (.getfield 46, 3) := by decide +kernel
theorem dX6_court_103 : decode cX6_court 103 = .ok (.iload 5, 2) := by decide +kernel
theorem dX6_court_105 : decode cX6_court 105 = .ok (.iaload, 1) := by decide +kernel
theorem dX6_court_106 : decode cX6_court 106 = .ok (.ifCond .le 37, 3) := by decide +kernel
theorem dX6_court_109 : decode cX6_court 109 = .ok (.aload_n 0, 1) := by decide +kernel
theorem dX6_court_110 : decode cX6_court 110 = .ok (.getfield 46, 3) := by decide +kernel
theorem dX6_court_113 : decode cX6_court 113 = .ok (.iload 6, 2) := by decide +kernel
theorem dX6_court_115 : decode cX6_court 115 = .ok (.iaload, 1) := by decide +kernel
theorem dX6_court_116 : decode cX6_court 116 = .ok (.ifCond .le 27, 3) := by decide +kernel
theorem dX6_court_119 : decode cX6_court 119 = .ok (.iinc 3 1, 3) := by decide +kernel
theorem dX6_court_122 : decode cX6_court 122 = .ok (.iload 4, 2) := by decide +kernel
theorem dX6_court_124 : decode cX6_court 124 = .ok (.aload_n 0, 1) := by decide +kernel
theorem dX6_court_125 : decode cX6_court 125 = .ok (.iload 5, 2) := by decide +kernel
theorem dX6_court_127 : decode cX6_court 127 = .ok (.iload 6, 2) := by decide +kernel
theorem dX6_court_129 : decode cX6_court 129 = .ok (.invokevirtual 221, 3) := by decide +kernel
theorem dX6_court_132 : decode cX6_court 132 = .ok (.ifCond .eq 7, 3) := by decide +kernel
theorem dX6_court_135 : decode cX6_court 135 = .ok (.iconst 1, 1) := by decide +kernel
theorem dX6_court_136 : decode cX6_court 136 = .ok (.goto 4, 3) := by decide +kernel
theorem dX6_court_139 : decode cX6_court 139 = .ok (.iconst 0, 1) := by decide +kernel
theorem dX6_court_140 : decode cX6_court 140 = .ok (.iadd, 1) := by decide +kernel
theorem dX6_court_141 : decode cX6_court 141 = .ok (.istore 4, 2) := by decide +kernel
theorem dX6_court_143 : decode cX6_court 143 = .ok (.iinc 6 1, 3) := by decide +kernel
theorem dX6_court_146 : decode cX6_court 146 = .ok (.goto (-66), 3) := by decide +kernel
theorem dX6_court_149 : decode cX6_court 149 = .ok (.iinc 5 1, 3) := by decide +kernel
theorem dX6_court_152 : decode cX6_court 152 = .ok (.goto (-99), 3) := by decide +kernel
theorem dX6_court_155 : decode cX6_court 155 = .ok (.iload_n 3, 1) := by decide +kernel
theorem dX6_court_156 : decode cX6_court 156 = .ok (.ifCond .ne 6, 3) := by decide +kernel
theorem dX6_court_159 : decode cX6_court 159 = .ok (.bipush (-4), 2) := by decide +kernel
theorem dX6_court_161 : decode cX6_court 161 = .ok (.ireturn, 1) := by decide +kernel
theorem dX6_court_162 : decode cX6_court 162 = .ok (.iload 4, 2) := by decide +kernel
theorem dX6_court_164 : decode cX6_court 164 = .ok (.istore 5, 2) := by decide +kernel
theorem dX6_court_166 : decode cX6_court 166 = .ok (.iload_n 3, 1) := by decide +kernel
theorem dX6_court_167 : decode cX6_court 167 = .ok (.istore 6, 2) := by decide +kernel
theorem dX6_court_169 : decode cX6_court 169 = .ok (.iload 6, 2) := by decide +kernel
theorem dX6_court_171 : decode cX6_court 171 = .ok (.ifCond .eq 21, 3) := by decide +kernel
theorem dX6_court_174 : decode cX6_court 174 = .ok (.iload 5, 2) := by decide +kernel
theorem dX6_court_176 : decode cX6_court 176 = .ok (.iload 6, 2) := by decide +kernel
theorem dX6_court_178 : decode cX6_court 178 = .ok (.irem, 1) := by decide +kernel
theorem dX6_court_179 : decode cX6_court 179 = .ok (.istore 7, 2) := by decide +kernel
theorem dX6_court_181 : decode cX6_court 181 = .ok (.iload 6, 2) := by decide +kernel
theorem dX6_court_183 : decode cX6_court 183 = .ok (.istore 5, 2) := by decide +kernel
theorem dX6_court_185 : decode cX6_court 185 = .ok (.iload 7, 2) := by decide +kernel
theorem dX6_court_187 : decode cX6_court 187 = .ok (.istore 6, 2) := by decide +kernel
theorem dX6_court_189 : decode cX6_court 189 = .ok (.goto (-20), 3) := by decide +kernel
theorem dX6_court_192 : decode cX6_court 192 = .ok (.iload_n 2, 1) := by decide +kernel
theorem dX6_court_193 : decode cX6_court 193 = .ok (.ifCond .ne 11, 3) := by decide +kernel
theorem dX6_court_196 : decode cX6_court 196 = .ok (.iload 4, 2) := by decide +kernel
theorem dX6_court_198 : decode cX6_court 198 = .ok (.iload 5, 2) := by decide +kernel
theorem dX6_court_200 : decode cX6_court 200 = .ok (.idiv, 1) := by decide +kernel
theorem dX6_court_201 : decode cX6_court 201 = .ok (.goto 7, 3) := by decide +kernel
theorem dX6_court_204 : decode cX6_court 204 = .ok (.iload_n 3, 1) := by decide +kernel
theorem dX6_court_205 : decode cX6_court 205 = .ok (.iload 5, 2) := by decide +kernel
theorem dX6_court_207 : decode cX6_court 207 = .ok (.idiv, 1) := by decide +kernel
theorem dX6_court_208 : decode cX6_court 208 = .ok (.ireturn, 1) := by decide +kernel
set_option maxRecDepth 20000 in
theorem ggX6_stranger_X6_in : GoodIn wsX6_stranger wsX6_in := goodIn_r _ [8] (by decide +kernel) (by decide +kernel)
set_option maxRecDepth 20000 in
theorem gX6_stranger_X6_in : GoodIn wsX6_stranger (va_wsS RX6 79 yX6_in wsX6_in) := goodIn_app (goodIn_of _ (by decide +kernel)) ggX6_stranger_X6_in
set_option maxRecDepth 20000 in
theorem ggX6_stranger_X6_copy : GoodIn wsX6_stranger wsX6_copy := goodIn_r _ [12, 13, 3, 14, 4, 82, 83, 84, 85, 86, 87, 88, 89, 90, 91, 92, 93, 94, 95, 96, 97, 98, 99, 100, 101, 102, 103] (by decide +kernel) (by decide +kernel)
set_option maxRecDepth 20000 in
theorem gX6_stranger_X6_copy : GoodIn wsX6_stranger (wsV RX6 203 RX6 yX6_copy wsX6_copy) := goodIn_app (goodIn_of _ (by decide +kernel)) ggX6_stranger_X6_copy
set_option maxRecDepth 20000 in
theorem ggX6_stranger_X6_makePeace : GoodIn wsX6_stranger wsX6_makePeace := goodIn_r _ [18, 19, 20, 21, 7, 22, 23, 24, 25, 26, 27, 28, 29, 30, 13, 31, 32, 33, 34, 2, 35, 36, 37, 38, 3, 39, 40, 41, 42, 43, 44, 45, 46, 47, 48, 49, 14, 50, 51, 52, 53, 54, 55, 56, 57, 58, 59, 60, 61, 62, 63, 64, 65, 66, 67, 68, 69, 70, 71, 72, 73, 74, 75, 76, 77, 4, 82, 83, 84, 85, 86, 87, 88, 89, 90, 91, 92, 93, 94, 95, 96, 97, 98, 99, 100, 101, 102, 103] (by decide +kernel) (by decide +kernel)
set_option maxRecDepth 20000 in
theorem gX6_stranger_X6_makePeace : GoodIn wsX6_stranger (wsV RX6 206 RX6 yX6_makePeace wsX6_makePeace) := goodIn_app (goodIn_of _ (by decide +kernel)) ggX6_stranger_X6_makePeace
set_option maxRecDepth 20000 in
theorem ggX6_stranger_X6_allOf : GoodIn wsX6_stranger wsX6_allOf := goodIn_r _ [81, 42, 43, 44, 7, 45, 27, 28, 29, 30, 13, 82, 83, 84, 85, 86, 87, 88, 89, 90, 91, 92, 93, 94, 95, 96, 97, 98, 99, 100, 101, 102, 103] (by decide +kernel) (by decide +kernel)
set_option maxRecDepth 20000 in
theorem gX6_stranger_X6_allOf : GoodIn wsX6_stranger (wsV RX6 209 RX6 yX6_allOf wsX6_allOf) := goodIn_app (goodIn_of _ (by decide +kernel)) ggX6_stranger_X6_allOf
set_option maxRecDepth 20000 in
theorem ggX6_stranger_X6_isAlive : GoodIn wsX6_stranger wsX6_isAlive := goodIn_r _ [38, 3, 39, 40, 7, 41, 82, 83, 84, 85, 86, 87, 88, 89, 90, 91, 92, 93, 94, 95, 96, 97, 98, 99, 100, 101, 102, 103] (by decide +kernel) (by decide +kernel)
set_option maxRecDepth 20000 in
theorem gX6_stranger_X6_isAlive : GoodIn wsX6_stranger (wsV RX6 135 RX6 yX6_isAlive wsX6_isAlive) := goodIn_app (goodIn_of _ (by decide +kernel)) ggX6_stranger_X6_isAlive
set_option maxRecDepth 20000 in
theorem ggX6_stranger_X6_setDebt : GoodIn wsX6_stranger wsX6_setDebt := goodIn_r _ [65, 13, 82, 83, 84, 85, 86, 87, 88, 89, 90, 91, 92, 93, 94, 95, 96, 97, 98, 99, 100, 101, 102, 103] (by decide +kernel) (by decide +kernel)
set_option maxRecDepth 20000 in
theorem gX6_stranger_X6_setDebt : GoodIn wsX6_stranger (wsV RX6 141 RX6 yX6_setDebt wsX6_setDebt) := goodIn_app (goodIn_of _ (by decide +kernel)) ggX6_stranger_X6_setDebt
theorem dX6_stranger_0 : decode cX6_stranger 0 = .ok (.iload_n 1, 1) := by decide +kernel
theorem dX6_stranger_1 : decode cX6_stranger 1 = .ok (.i2l, 1) := by decide +kernel
theorem dX6_stranger_2 : decode cX6_stranger 2 = .ok (.lconst 0, 1) := by decide +kernel
theorem dX6_stranger_3 : decode cX6_stranger 3 = .ok (.lconst 1, 1) := by decide +kernel
theorem dX6_stranger_4 : decode cX6_stranger 4 = .ok (.invokestatic 79, 3) := by decide +kernel
theorem dX6_stranger_7 : decode cX6_stranger 7 = .ok (.ifCond .ne 5, 3) := by decide +kernel
theorem dX6_stranger_10 : decode cX6_stranger 10 = .ok (.iconst (-1), 1) := by decide +kernel
theorem dX6_stranger_11 : decode cX6_stranger 11 = .ok (.ireturn, 1) := by decide +kernel
theorem dX6_stranger_12 : decode cX6_stranger 12 = .ok (.aload_n 0, 1) := by decide +kernel
theorem dX6_stranger_13 : decode cX6_stranger 13 = .ok (.getfield 13, 3) := by decide +kernel
theorem dX6_stranger_16 : decode cX6_stranger 16 = .ok (.iconst 0, 1) := by decide +kernel
theorem dX6_stranger_17 : decode cX6_stranger 17 = .ok (.iaload, 1) := by decide +kernel
theorem dX6_stranger_18 : decode cX6_stranger 18 = .ok (.bipush 7, 2) := by decide +kernel
theorem dX6_stranger_20 : decode cX6_stranger 20 = .ok (.if_icmp .ne 6, 3) := by decide +kernel
theorem dX6_stranger_23 : decode cX6_stranger 23 = .ok (.bipush (-3), 2) := by decide +kernel
theorem dX6_stranger_25 : decode cX6_stranger 25 = .ok (.ireturn, 1) := by decide +kernel
theorem dX6_stranger_26 : decode cX6_stranger 26 = .ok (.aload_n 0, 1) := by decide +kernel
theorem dX6_stranger_27 : decode cX6_stranger 27 = .ok (.iconst 0, 1) := by decide +kernel
theorem dX6_stranger_28 : decode cX6_stranger 28 = .ok (.iconst 1, 1) := by decide +kernel
theorem dX6_stranger_29 : decode cX6_stranger 29 = .ok (.invokevirtual 203, 3) := by decide +kernel
theorem dX6_stranger_32 : decode cX6_stranger 32 = .ok (.aload_n 0, 1) := by decide +kernel
theorem dX6_stranger_33 : decode cX6_stranger 33 = .ok (.iconst 1, 1) := by decide +kernel
theorem dX6_stranger_34 : decode cX6_stranger 34 = .ok (.invokevirtual 206, 3) := by decide +kernel
theorem dX6_stranger_37 : decode cX6_stranger 37 = .ok (.istore_n 2, 1) := by decide +kernel
theorem dX6_stranger_38 : decode cX6_stranger 38 = .ok (.aload_n 0, 1) := by decide +kernel
theorem dX6_stranger_39 : decode cX6_stranger 39 = .ok (.iconst 1, 1) := by decide +kernel
theorem dX6_stranger_40 : decode cX6_stranger 40 = .ok (.invokevirtual 209, 3) := by decide +kernel
theorem dX6_stranger_43 : decode cX6_stranger 43 = .ok (.istore_n 3, 1) := by decide +kernel
theorem dX6_stranger_44 : decode cX6_stranger 44 = .ok (.aload_n 0, 1) := by decide +kernel
theorem dX6_stranger_45 : decode cX6_stranger 45 = .ok (.iconst 0, 1) := by decide +kernel
theorem dX6_stranger_46 : decode cX6_stranger 46 = .ok (.iconst 1, 1) := by decide +kernel
theorem dX6_stranger_47 : decode cX6_stranger 47 = .ok (.invokevirtual 203, 3) := by decide +kernel
theorem dX6_stranger_50 : decode cX6_stranger 50 = .ok (.aload_n 0, 1) := by decide +kernel
theorem dX6_stranger_51 : decode cX6_stranger 51 = .ok (.getfield 13, 3) := by decide +kernel
theorem dX6_stranger_54 : decode cX6_stranger 54 = .ok (.iconst 0, 1) := by decide +kernel
theorem dX6_stranger_55 : decode cX6_stranger 55 = .ok (.iaload, 1) := by decide +kernel
theorem dX6_stranger_56 : decode cX6_stranger 56 = .ok (.istore 4, 2) := by decide +kernel
theorem dX6_stranger_58 : decode cX6_stranger 58 = .ok (.aload_n 0, 1) := by decide +kernel
theorem dX6_stranger_59 : decode cX6_stranger 59 = .ok (.getfield 16, 3) := by decide +kernel
theorem dX6_stranger_62 : decode cX6_stranger 62 = .ok (.iload 4, 2) := by decide +kernel
theorem dX6_stranger_64 : decode cX6_stranger 64 = .ok (.iaload, 1) := by decide +kernel
theorem dX6_stranger_65 : decode cX6_stranger 65 = .ok (.istore 5, 2) := by decide +kernel
theorem dX6_stranger_67 : decode cX6_stranger 67 = .ok (.aload_n 0, 1) := by decide +kernel
theorem dX6_stranger_68 : decode cX6_stranger 68 = .ok (.getfield 16, 3) := by decide +kernel
theorem dX6_stranger_71 : decode cX6_stranger 71 = .ok (.iload 4, 2) := by decide +kernel
theorem dX6_stranger_73 : decode cX6_stranger 73 = .ok (.iconst 0, 1) := by decide +kernel
theorem dX6_stranger_74 : decode cX6_stranger 74 = .ok (.iastore, 1) := by decide +kernel
theorem dX6_stranger_75 : decode cX6_stranger 75 = .ok (.aload_n 0, 1) := by decide +kernel
theorem dX6_stranger_76 : decode cX6_stranger 76 = .ok (.getfield 49, 3) := by decide +kernel
theorem dX6_stranger_79 : decode cX6_stranger 79 = .ok (.iconst 1, 1) := by decide +kernel
theorem dX6_stranger_80 : decode cX6_stranger 80 = .ok (.dup2, 1) := by decide +kernel
theorem dX6_stranger_81 : decode cX6_stranger 81 = .ok (.iaload, 1) := by decide +kernel
theorem dX6_stranger_82 : decode cX6_stranger 82 = .ok (.iconst 1, 1) := by decide +kernel
theorem dX6_stranger_83 : decode cX6_stranger 83 = .ok (.iload 4, 2) := by decide +kernel
theorem dX6_stranger_85 : decode cX6_stranger 85 = .ok (.ishl, 1) := by decide +kernel
theorem dX6_stranger_86 : decode cX6_stranger 86 = .ok (.ior, 1) := by decide +kernel
theorem dX6_stranger_87 : decode cX6_stranger 87 = .ok (.iastore, 1) := by decide +kernel
theorem dX6_stranger_88 : decode cX6_stranger 88 = .ok (.aload_n 0, 1) := by decide +kernel
theorem dX6_stranger_89 : decode cX6_stranger 89 = .ok (.getfield 55, 3) := by decide +kernel
theorem dX6_stranger_92 : decode cX6_stranger 92 = .ok (.iconst 1, 1) := by decide +kernel
theorem dX6_stranger_93 : decode cX6_stranger 93 = .ok (.dup2, 1) := by decide +kernel
theorem dX6_stranger_94 : decode cX6_stranger 94 = .ok (.iaload, 1) := by decide +kernel
theorem dX6_stranger_95 : decode cX6_stranger 95 = .ok (.iconst 1, 1) := by decide +kernel
theorem dX6_stranger_96 : decode cX6_stranger 96 = .ok (.iadd, 1) := by decide +kernel
theorem dX6_stranger_97 : decode cX6_stranger 97 = .ok (.iastore, 1) := by decide +kernel
theorem dX6_stranger_98 : decode cX6_stranger 98 = .ok (.iconst 0, 1) := by decide +kernel
theorem dX6_stranger_99 : decode cX6_stranger 99 = .ok (.istore 6, 2) := by decide +kernel
theorem dX6_stranger_101 : decode cX6_stranger 101 = .ok (.iload 6, 2) := by decide +kernel
theorem dX6_stranger_103 : decode cX6_stranger 103 = .ok (.iload 4, 2) := by decide +kernel
theorem dX6_stranger_105 : decode cX6_stranger 105 = .ok (.if_icmp .ge 33, 3) := by decide +kernel
theorem dX6_stranger_108 : decode cX6_stranger 108 = .ok (.aload_n 0, 1) := by decide +kernel
theorem dX6_stranger_109 : decode cX6_stranger 109 = .ok (.iconst 1, 1) := by decide +kernel
theorem dX6_stranger_110 : decode cX6_stranger 110 = .ok (.iload 4, 2) := by decide +kernel
theorem dX6_stranger_112 : decode cX6_stranger 112 = .ok (.iload 6, 2) := by decide +kernel
theorem dX6_stranger_114 : decode cX6_stranger 114 = .ok (.aload_n 0, 1) := by decide +kernel
theorem dX6_stranger_115 : decode cX6_stranger 115 = .ok (.iconst 1, 1) := by decide +kernel
theorem dX6_stranger_116 : decode cX6_stranger 116 = .ok (.iload 6, 2) := by decide +kernel
theorem dX6_stranger_118 : decode cX6_stranger 118 = .ok (.invokevirtual 135, 3) := by decide +kernel
theorem dX6_stranger_121 : decode cX6_stranger 121 = .ok (.ifCond .eq 7, 3) := by decide +kernel
theorem dX6_stranger_124 : decode cX6_stranger 124 = .ok (.iconst 1, 1) := by decide +kernel
theorem dX6_stranger_125 : decode cX6_stranger 125 = .ok (.goto 4, 3) := by decide +kernel
theorem dX6_stranger_128 : decode cX6_stranger 128 = .ok (.iconst 0, 1) := by decide +kernel
theorem dX6_stranger_129 : decode cX6_stranger 129 = .ok (.invokevirtual 141, 3) := by decide +kernel
theorem dX6_stranger_132 : decode cX6_stranger 132 = .ok (.iinc 6 1, 3) := by decide +kernel
theorem dX6_stranger_135 : decode cX6_stranger 135 = .ok (.goto (-34), 3) := by decide +kernel
theorem dX6_stranger_138 : decode cX6_stranger 138 = .ok (.aload_n 0, 1) := by decide +kernel
theorem dX6_stranger_139 : decode cX6_stranger 139 = .ok (.iconst 1, 1) := by decide +kernel
theorem dX6_stranger_140 : decode cX6_stranger 140 = .ok (.invokevirtual 206, 3) := by decide +kernel
theorem dX6_stranger_143 : decode cX6_stranger 143 = .ok (.iload_n 2, 1) := by decide +kernel
theorem dX6_stranger_144 : decode cX6_stranger 144 = .ok (.isub, 1) := by decide +kernel
theorem dX6_stranger_145 : decode cX6_stranger 145 = .ok (.istore 6, 2) := by decide +kernel
theorem dX6_stranger_147 : decode cX6_stranger 147 = .ok (.aload_n 0, 1) := by decide +kernel
theorem dX6_stranger_148 : decode cX6_stranger 148 = .ok (.getfield 16, 3) := by decide +kernel
theorem dX6_stranger_151 : decode cX6_stranger 151 = .ok (.iload 4, 2) := by decide +kernel
theorem dX6_stranger_153 : decode cX6_stranger 153 = .ok (.iload 5, 2) := by decide +kernel
theorem dX6_stranger_155 : decode cX6_stranger 155 = .ok (.iastore, 1) := by decide +kernel
theorem dX6_stranger_156 : decode cX6_stranger 156 = .ok (.iload_n 1, 1) := by decide +kernel
theorem dX6_stranger_157 : decode cX6_stranger 157 = .ok (.ifCond .ne 11, 3) := by decide +kernel
theorem dX6_stranger_160 : decode cX6_stranger 160 = .ok (.iload 6, 2) := by decide +kernel
theorem dX6_stranger_162 : decode cX6_stranger 162 = .ok (.bipush 100, 2) := by decide +kernel
theorem dX6_stranger_164 : decode cX6_stranger 164 = .ok (.iadd, 1) := by decide +kernel
theorem dX6_stranger_165 : decode cX6_stranger 165 = .ok (.goto 13, 3) := by decide +kernel
theorem dX6_stranger_168 : decode cX6_stranger 168 = .ok (.aload_n 0, 1) := by decide +kernel
theorem dX6_stranger_169 : decode cX6_stranger 169 = .ok (.iconst 1, 1) := by decide +kernel
theorem dX6_stranger_170 : decode cX6_stranger 170 = .ok (.invokevirtual 209, 3) := by decide +kernel
theorem dX6_stranger_173 : decode cX6_stranger 173 = .ok (.iload_n 3, 1) := by decide +kernel
theorem dX6_stranger_174 : decode cX6_stranger 174 = .ok (.isub, 1) := by decide +kernel
theorem dX6_stranger_175 : decode cX6_stranger 175 = .ok (.bipush 100, 2) := by decide +kernel
theorem dX6_stranger_177 : decode cX6_stranger 177 = .ok (.iadd, 1) := by decide +kernel
theorem dX6_stranger_178 : decode cX6_stranger 178 = .ok (.ireturn, 1) := by decide +kernel
set_option maxRecDepth 20000 in
theorem ggX6_easter_X6_copy : GoodIn wsX6_easter wsX6_copy := goodIn_r _ [7, 8, 9, 1, 10, 79, 80, 81, 82, 83, 84, 85, 86, 87, 88, 89, 90, 91, 92, 93, 94, 95, 96, 97, 98, 99, 100] (by decide +kernel) (by decide +kernel)
set_option maxRecDepth 20000 in
theorem gX6_easter_X6_copy : GoodIn wsX6_easter (wsV RX6 203 RX6 yX6_copy wsX6_copy) := goodIn_app (goodIn_of _ (by decide +kernel)) ggX6_easter_X6_copy
set_option maxRecDepth 20000 in
theorem ggX6_easter_X6_makePeace : GoodIn wsX6_easter wsX6_makePeace := goodIn_r _ [14, 15, 16, 17, 6, 18, 19, 20, 21, 22, 23, 24, 25, 26, 8, 27, 28, 29, 30, 31, 32, 33, 34, 35, 9, 36, 37, 38, 39, 40, 41, 42, 43, 44, 45, 46, 1, 47, 48, 49, 50, 51, 52, 53, 54, 55, 56, 57, 58, 59, 60, 61, 62, 63, 64, 65, 66, 67, 68, 69, 70, 71, 72, 73, 74, 10, 79, 80, 81, 82, 83, 84, 85, 86, 87, 88, 89, 90, 91, 92, 93, 94, 95, 96, 97, 98, 99, 100] (by decide +kernel) (by decide +kernel)
set_option maxRecDepth 20000 in
theorem gX6_easter_X6_makePeace : GoodIn wsX6_easter (wsV RX6 206 RX6 yX6_makePeace wsX6_makePeace) := goodIn_app (goodIn_of _ (by decide +kernel)) ggX6_easter_X6_makePeace
set_option maxRecDepth 20000 in
theorem ggX6_easter_X6_allOf : GoodIn wsX6_easter wsX6_allOf := goodIn_r _ [78, 39, 40, 41, 6, 42, 23, 24, 25, 26, 8, 79, 80, 81, 82, 83, 84, 85, 86, 87, 88, 89, 90, 91, 92, 93, 94, 95, 96, 97, 98, 99, 100] (by decide +kernel) (by decide +kernel)
set_option maxRecDepth 20000 in
theorem gX6_easter_X6_allOf : GoodIn wsX6_easter (wsV RX6 209 RX6 yX6_allOf wsX6_allOf) := goodIn_app (goodIn_of _ (by decide +kernel)) ggX6_easter_X6_allOf
set_option maxRecDepth 20000 in
theorem ggX6_easter_X6_goDay : GoodIn wsX6_easter wsX6_goDay := goodIn_r _ [74, 1, 10, 31, 32, 33, 34, 6, 35, 9, 36, 37, 38, 23, 24, 25, 26, 8, 59, 60, 61, 62, 79, 80, 81, 82, 83, 84, 85, 86, 87, 88, 89, 90, 91, 92, 93, 94, 95, 96, 97, 98, 99, 100] (by decide +kernel) (by decide +kernel)
set_option maxRecDepth 20000 in
theorem gX6_easter_X6_goDay : GoodIn wsX6_easter (wsV RX6 162 RX6 yX6_goDay wsX6_goDay) := goodIn_app (goodIn_of _ (by decide +kernel)) ggX6_easter_X6_goDay
theorem dX6_easter_0 : decode cX6_easter 0 = .ok (.aload_n 0, 1) := by decide +kernel
theorem dX6_easter_1 : decode cX6_easter 1 = .ok (.iconst 0, 1) := by decide +kernel
theorem dX6_easter_2 : decode cX6_easter 2 = .ok (.iconst 1, 1) := by decide +kernel
theorem dX6_easter_3 : decode cX6_easter 3 = .ok (.invokevirtual 203, 3) := by decide +kernel
theorem dX6_easter_6 : decode cX6_easter 6 = .ok (.aload_n 0, 1) := by decide +kernel
theorem dX6_easter_7 : decode cX6_easter 7 = .ok (.getfield 52, 3) := by decide +kernel
theorem dX6_easter_10 : decode cX6_easter 10 = .ok (.iconst 1, 1) := by decide +kernel
theorem dX6_easter_11 : decode cX6_easter 11 = .ok (.iaload, 1) := by decide +kernel
theorem dX6_easter_12 : decode cX6_easter 12 = .ok (.aload_n 0, 1) := by decide +kernel
theorem dX6_easter_13 : decode cX6_easter 13 = .ok (.getfield 25, 3) := by decide +kernel
theorem dX6_easter_16 : decode cX6_easter 16 = .ok (.iconst 0, 1) := by decide +kernel
theorem dX6_easter_17 : decode cX6_easter 17 = .ok (.iaload, 1) := by decide +kernel
theorem dX6_easter_18 : decode cX6_easter 18 = .ok (.if_icmp .gt 32, 3) := by decide +kernel
theorem dX6_easter_21 : decode cX6_easter 21 = .ok (.aload_n 0, 1) := by decide +kernel
theorem dX6_easter_22 : decode cX6_easter 22 = .ok (.iconst 1, 1) := by decide +kernel
theorem dX6_easter_23 : decode cX6_easter 23 = .ok (.invokevirtual 206, 3) := by decide +kernel
theorem dX6_easter_26 : decode cX6_easter 26 = .ok (.pop, 1) := by decide +kernel
theorem dX6_easter_27 : decode cX6_easter 27 = .ok (.aload_n 0, 1) := by decide +kernel
theorem dX6_easter_28 : decode cX6_easter 28 = .ok (.iconst 1, 1) := by decide +kernel
theorem dX6_easter_29 : decode cX6_easter 29 = .ok (.invokevirtual 209, 3) := by decide +kernel
theorem dX6_easter_32 : decode cX6_easter 32 = .ok (.ifCond .ne 10, 3) := by decide +kernel
theorem dX6_easter_35 : decode cX6_easter 35 = .ok (.aload_n 0, 1) := by decide +kernel
theorem dX6_easter_36 : decode cX6_easter 36 = .ok (.getfield 52, 3) := by decide +kernel
theorem dX6_easter_39 : decode cX6_easter 39 = .ok (.iconst 1, 1) := by decide +kernel
theorem dX6_easter_40 : decode cX6_easter 40 = .ok (.iaload, 1) := by decide +kernel
theorem dX6_easter_41 : decode cX6_easter 41 = .ok (.ireturn, 1) := by decide +kernel
theorem dX6_easter_42 : decode cX6_easter 42 = .ok (.aload_n 0, 1) := by decide +kernel
theorem dX6_easter_43 : decode cX6_easter 43 = .ok (.iconst 1, 1) := by decide +kernel
theorem dX6_easter_44 : decode cX6_easter 44 = .ok (.invokevirtual 162, 3) := by decide +kernel
theorem dX6_easter_47 : decode cX6_easter 47 = .ok (.goto (-41), 3) := by decide +kernel
theorem dX6_easter_50 : decode cX6_easter 50 = .ok (.bipush (-4), 2) := by decide +kernel
theorem dX6_easter_52 : decode cX6_easter 52 = .ok (.ireturn, 1) := by decide +kernel
set_option maxRecDepth 20000 in
theorem ggX6_silent_X6_in : GoodIn wsX6_silent wsX6_in := goodIn_r _ [7] (by decide +kernel) (by decide +kernel)
set_option maxRecDepth 20000 in
theorem gX6_silent_X6_in : GoodIn wsX6_silent (va_wsS RX6 79 yX6_in wsX6_in) := goodIn_app (goodIn_of _ (by decide +kernel)) ggX6_silent_X6_in
theorem dX6_silent_0 : decode cX6_silent 0 = .ok (.iload_n 1, 1) := by decide +kernel
theorem dX6_silent_1 : decode cX6_silent 1 = .ok (.i2l, 1) := by decide +kernel
theorem dX6_silent_2 : decode cX6_silent 2 = .ok (.lconst 0, 1) := by decide +kernel
theorem dX6_silent_3 : decode cX6_silent 3 = .ok (.ldc2_w 224, 3) := by decide +kernel
theorem dX6_silent_6 : decode cX6_silent 6 = .ok (.invokestatic 79, 3) := by decide +kernel
theorem dX6_silent_9 : decode cX6_silent 9 = .ok (.ifCond .ne 5, 3) := by decide +kernel
theorem dX6_silent_12 : decode cX6_silent 12 = .ok (.iconst (-1), 1) := by decide +kernel
theorem dX6_silent_13 : decode cX6_silent 13 = .ok (.ireturn, 1) := by decide +kernel
theorem dX6_silent_14 : decode cX6_silent 14 = .ok (.aload_n 0, 1) := by decide +kernel
theorem dX6_silent_15 : decode cX6_silent 15 = .ok (.getfield 117, 3) := by decide +kernel
theorem dX6_silent_18 : decode cX6_silent 18 = .ok (.bipush 6, 2) := by decide +kernel
theorem dX6_silent_20 : decode cX6_silent 20 = .ok (.if_icmp .ne 6, 3) := by decide +kernel
theorem dX6_silent_23 : decode cX6_silent 23 = .ok (.bipush (-3), 2) := by decide +kernel
theorem dX6_silent_25 : decode cX6_silent 25 = .ok (.ireturn, 1) := by decide +kernel
theorem dX6_silent_26 : decode cX6_silent 26 = .ok (.aload_n 0, 1) := by decide +kernel
theorem dX6_silent_27 : decode cX6_silent 27 = .ok (.getfield 40, 3) := by decide +kernel
theorem dX6_silent_30 : decode cX6_silent 30 = .ok (.aload_n 0, 1) := by decide +kernel
theorem dX6_silent_31 : decode cX6_silent 31 = .ok (.getfield 117, 3) := by decide +kernel
theorem dX6_silent_34 : decode cX6_silent 34 = .ok (.iload_n 1, 1) := by decide +kernel
theorem dX6_silent_35 : decode cX6_silent 35 = .ok (.iastore, 1) := by decide +kernel
theorem dX6_silent_36 : decode cX6_silent 36 = .ok (.aload_n 0, 1) := by decide +kernel
theorem dX6_silent_37 : decode cX6_silent 37 = .ok (.dup, 1) := by decide +kernel
theorem dX6_silent_38 : decode cX6_silent 38 = .ok (.getfield 117, 3) := by decide +kernel
theorem dX6_silent_41 : decode cX6_silent 41 = .ok (.iconst 1, 1) := by decide +kernel
theorem dX6_silent_42 : decode cX6_silent 42 = .ok (.iadd, 1) := by decide +kernel
theorem dX6_silent_43 : decode cX6_silent 43 = .ok (.putfield 117, 3) := by decide +kernel
theorem dX6_silent_46 : decode cX6_silent 46 = .ok (.aload_n 0, 1) := by decide +kernel
theorem dX6_silent_47 : decode cX6_silent 47 = .ok (.getfield 117, 3) := by decide +kernel
theorem dX6_silent_50 : decode cX6_silent 50 = .ok (.ireturn, 1) := by decide +kernel
theorem dX6_forget_0 : decode cX6_forget 0 = .ok (.aload_n 0, 1) := by decide +kernel
theorem dX6_forget_1 : decode cX6_forget 1 = .ok (.getfield 117, 3) := by decide +kernel
theorem dX6_forget_4 : decode cX6_forget 4 = .ok (.istore_n 1, 1) := by decide +kernel
theorem dX6_forget_5 : decode cX6_forget 5 = .ok (.aload_n 0, 1) := by decide +kernel
theorem dX6_forget_6 : decode cX6_forget 6 = .ok (.iconst 0, 1) := by decide +kernel
theorem dX6_forget_7 : decode cX6_forget 7 = .ok (.putfield 117, 3) := by decide +kernel
theorem dX6_forget_10 : decode cX6_forget 10 = .ok (.iload_n 1, 1) := by decide +kernel
theorem dX6_forget_11 : decode cX6_forget 11 = .ok (.ireturn, 1) := by decide +kernel
set_option maxRecDepth 20000 in
theorem ggX6_areSilent_X6_maySpeak : GoodIn wsX6_areSilent wsX6_maySpeak := goodIn_r _ [8, 9, 10, 11, 7, 12, 13, 14, 15, 16, 17, 18, 19, 20, 21, 22, 23, 24, 25, 26, 27, 28, 29, 30, 31, 32, 33, 34, 35, 36, 37, 38, 39, 40, 41, 42, 43] (by decide +kernel) (by decide +kernel)
set_option maxRecDepth 20000 in
theorem gX6_areSilent_X6_maySpeak : GoodIn wsX6_areSilent (wsV RX6 183 RX6 yX6_maySpeak wsX6_maySpeak) := goodIn_app (goodIn_of _ (by decide +kernel)) ggX6_areSilent_X6_maySpeak
theorem dX6_areSilent_0 : decode cX6_areSilent 0 = .ok (.iconst 1, 1) := by decide +kernel
theorem dX6_areSilent_1 : decode cX6_areSilent 1 = .ok (.istore_n 2, 1) := by decide +kernel
theorem dX6_areSilent_2 : decode cX6_areSilent 2 = .ok (.iconst 0, 1) := by decide +kernel
theorem dX6_areSilent_3 : decode cX6_areSilent 3 = .ok (.istore_n 3, 1) := by decide +kernel
theorem dX6_areSilent_4 : decode cX6_areSilent 4 = .ok (.iload_n 3, 1) := by decide +kernel
theorem dX6_areSilent_5 : decode cX6_areSilent 5 = .ok (.aload_n 0, 1) := by decide +kernel
theorem dX6_areSilent_6 : decode cX6_areSilent 6 = .ok (.getfield 117, 3) := by decide +kernel
theorem dX6_areSilent_9 : decode cX6_areSilent 9 = .ok (.if_icmp .ge 103, 3) := by decide +kernel
theorem dX6_areSilent_12 : decode cX6_areSilent 12 = .ok (.iconst 0, 1) := by decide +kernel
theorem dX6_areSilent_13 : decode cX6_areSilent 13 = .ok (.istore 4, 2) := by decide +kernel
theorem dX6_areSilent_15 : decode cX6_areSilent 15 = .ok (.iload 4, 2) := by decide +kernel
theorem dX6_areSilent_17 : decode cX6_areSilent 17 = .ok (.bipush 64, 2) := by decide +kernel
theorem dX6_areSilent_19 : decode cX6_areSilent 19 = .ok (.if_icmp .ge 87, 3) := by decide +kernel
theorem dX6_areSilent_22 : decode cX6_areSilent 22 = .ok (.aload_n 0, 1) := by decide +kernel
theorem dX6_areSilent_23 : decode cX6_areSilent 23 = .ok (.getfield 19, 3) := by decide +kernel
theorem dX6_areSilent_26 : decode cX6_areSilent 26 = .ok (.iload 4, 2) := by decide +kernel
theorem dX6_areSilent_28 : decode cX6_areSilent 28 = .ok (.bipush 8, 2) := by decide +kernel
theorem dX6_areSilent_30 : decode cX6_areSilent 30 = .ok (.idiv, 1) := by decide +kernel
theorem dX6_areSilent_31 : decode cX6_areSilent 31 = .ok (.iaload, 1) := by decide +kernel
theorem dX6_areSilent_32 : decode cX6_areSilent 32 = .ok (.aload_n 0, 1) := by decide +kernel
theorem dX6_areSilent_33 : decode cX6_areSilent 33 = .ok (.getfield 40, 3) := by decide +kernel
theorem dX6_areSilent_36 : decode cX6_areSilent 36 = .ok (.iload_n 3, 1) := by decide +kernel
theorem dX6_areSilent_37 : decode cX6_areSilent 37 = .ok (.iaload, 1) := by decide +kernel
theorem dX6_areSilent_38 : decode cX6_areSilent 38 = .ok (.if_icmp .ne 26, 3) := by decide +kernel
theorem dX6_areSilent_41 : decode cX6_areSilent 41 = .ok (.aload_n 0, 1) := by decide +kernel
theorem dX6_areSilent_42 : decode cX6_areSilent 42 = .ok (.getfield 19, 3) := by decide +kernel
theorem dX6_areSilent_45 : decode cX6_areSilent 45 = .ok (.iload 4, 2) := by decide +kernel
theorem dX6_areSilent_47 : decode cX6_areSilent 47 = .ok (.bipush 8, 2) := by decide +kernel
theorem dX6_areSilent_49 : decode cX6_areSilent 49 = .ok (.irem, 1) := by decide +kernel
theorem dX6_areSilent_50 : decode cX6_areSilent 50 = .ok (.iaload, 1) := by decide +kernel
theorem dX6_areSilent_51 : decode cX6_areSilent 51 = .ok (.aload_n 0, 1) := by decide +kernel
theorem dX6_areSilent_52 : decode cX6_areSilent 52 = .ok (.getfield 40, 3) := by decide +kernel
theorem dX6_areSilent_55 : decode cX6_areSilent 55 = .ok (.iload_n 3, 1) := by decide +kernel
theorem dX6_areSilent_56 : decode cX6_areSilent 56 = .ok (.iaload, 1) := by decide +kernel
theorem dX6_areSilent_57 : decode cX6_areSilent 57 = .ok (.if_icmp .ne 7, 3) := by decide +kernel
theorem dX6_areSilent_60 : decode cX6_areSilent 60 = .ok (.iconst 1, 1) := by decide +kernel
theorem dX6_areSilent_61 : decode cX6_areSilent 61 = .ok (.goto 4, 3) := by decide +kernel
theorem dX6_areSilent_64 : decode cX6_areSilent 64 = .ok (.iconst 0, 1) := by decide +kernel
theorem dX6_areSilent_65 : decode cX6_areSilent 65 = .ok (.istore 5, 2) := by decide +kernel
theorem dX6_areSilent_67 : decode cX6_areSilent 67 = .ok (.iload_n 2, 1) := by decide +kernel
theorem dX6_areSilent_68 : decode cX6_areSilent 68 = .ok (.ifCond .eq 30, 3) := by decide +kernel
theorem dX6_areSilent_71 : decode cX6_areSilent 71 = .ok (.iload 5, 2) := by decide +kernel
theorem dX6_areSilent_73 : decode cX6_areSilent 73 = .ok (.ifCond .eq 21, 3) := by decide +kernel
theorem dX6_areSilent_76 : decode cX6_areSilent 76 = .ok (.aload_n 0, 1) := by decide +kernel
theorem dX6_areSilent_77 : decode cX6_areSilent 77 = .ok (.iload_n 1, 1) := by decide +kernel
theorem dX6_areSilent_78 : decode cX6_areSilent 78 = .ok (.iload 4, 2) := by decide +kernel
theorem dX6_areSilent_80 : decode cX6_areSilent 80 = .ok (.bipush 8, 2) := by decide +kernel
theorem dX6_areSilent_82 : decode cX6_areSilent 82 = .ok (.idiv, 1) := by decide +kernel
theorem dX6_areSilent_83 : decode cX6_areSilent 83 = .ok (.iload 4, 2) := by decide +kernel
theorem dX6_areSilent_85 : decode cX6_areSilent 85 = .ok (.bipush 8, 2) := by decide +kernel
theorem dX6_areSilent_87 : decode cX6_areSilent 87 = .ok (.irem, 1) := by decide +kernel
theorem dX6_areSilent_88 : decode cX6_areSilent 88 = .ok (.invokevirtual 183, 3) := by decide +kernel
theorem dX6_areSilent_91 : decode cX6_areSilent 91 = .ok (.ifCond .ne 7, 3) := by decide +kernel
theorem dX6_areSilent_94 : decode cX6_areSilent 94 = .ok (.iconst 1, 1) := by decide +kernel
theorem dX6_areSilent_95 : decode cX6_areSilent 95 = .ok (.goto 4, 3) := by decide +kernel
theorem dX6_areSilent_98 : decode cX6_areSilent 98 = .ok (.iconst 0, 1) := by decide +kernel
theorem dX6_areSilent_99 : decode cX6_areSilent 99 = .ok (.istore_n 2, 1) := by decide +kernel
theorem dX6_areSilent_100 : decode cX6_areSilent 100 = .ok (.iinc 4 1, 3) := by decide +kernel
theorem dX6_areSilent_103 : decode cX6_areSilent 103 = .ok (.goto (-88), 3) := by decide +kernel
theorem dX6_areSilent_106 : decode cX6_areSilent 106 = .ok (.iinc 3 1, 3) := by decide +kernel
theorem dX6_areSilent_109 : decode cX6_areSilent 109 = .ok (.goto (-105), 3) := by decide +kernel
theorem dX6_areSilent_112 : decode cX6_areSilent 112 = .ok (.iload_n 2, 1) := by decide +kernel
theorem dX6_areSilent_113 : decode cX6_areSilent 113 = .ok (.ireturn, 1) := by decide +kernel
set_option maxRecDepth 20000 in
theorem ggX6_fits_X6_in : GoodIn wsX6_fits wsX6_in := goodIn_r _ [4] (by decide +kernel) (by decide +kernel)
set_option maxRecDepth 20000 in
theorem gX6_fits_X6_in : GoodIn wsX6_fits (va_wsS RX6 79 yX6_in wsX6_in) := goodIn_app (goodIn_of _ (by decide +kernel)) ggX6_fits_X6_in
set_option maxRecDepth 20000 in
theorem ggX6_fits_X6_areTwo : GoodIn wsX6_fits wsX6_areTwo := goodIn_r _ [8, 9, 10, 11, 3, 12, 13, 1, 2, 4, 89, 90, 91, 92, 93, 94, 95, 96, 97, 98, 99, 100, 101, 102, 103, 104, 105, 106, 107, 108, 109, 110] (by decide +kernel) (by decide +kernel)
set_option maxRecDepth 20000 in
theorem gX6_fits_X6_areTwo : GoodIn wsX6_fits (wsV RX6 180 RX6 yX6_areTwo wsX6_areTwo) := goodIn_app (goodIn_of _ (by decide +kernel)) ggX6_fits_X6_areTwo
set_option maxRecDepth 20000 in
theorem ggX6_fits_X6_canDo : GoodIn wsX6_fits wsX6_canDo := goodIn_r _ [17, 18, 19, 20, 3, 21, 22, 23, 24, 25, 26, 27, 28, 29, 30, 31, 32, 33, 34, 35, 36, 37, 38, 39, 40, 41, 42, 43, 44, 45, 46, 47, 89, 90, 91, 92, 93, 94, 95, 96, 97, 98, 99, 100, 101, 102, 103, 104, 105, 106, 107, 108, 109, 110] (by decide +kernel) (by decide +kernel)
set_option maxRecDepth 20000 in
theorem gX6_fits_X6_canDo : GoodIn wsX6_fits (wsV RX6 165 RX6 yX6_canDo wsX6_canDo) := goodIn_app (goodIn_of _ (by decide +kernel)) ggX6_fits_X6_canDo
set_option maxRecDepth 20000 in
theorem ggX6_fits_X6_copy : GoodIn wsX6_fits wsX6_copy := goodIn_r _ [51, 30, 22, 52, 53, 89, 90, 91, 92, 93, 94, 95, 96, 97, 98, 99, 100, 101, 102, 103, 104, 105, 106, 107, 108, 109, 110] (by decide +kernel) (by decide +kernel)
set_option maxRecDepth 20000 in
theorem gX6_fits_X6_copy : GoodIn wsX6_fits (wsV RX6 203 RX6 yX6_copy wsX6_copy) := goodIn_app (goodIn_of _ (by decide +kernel)) ggX6_fits_X6_copy
set_option maxRecDepth 20000 in
theorem ggX6_fits_X6_doAct : GoodIn wsX6_fits wsX6_doAct := goodIn_r _ [57, 26, 27, 28, 3, 29, 30, 58, 59, 60, 61, 62, 63, 64, 65, 39, 52, 66, 67, 68, 69, 70, 71, 72, 73, 22, 74, 75, 76, 77, 53, 18, 19, 20, 21, 23, 24, 25, 89, 90, 91, 92, 93, 94, 95, 96, 97, 98, 99, 100, 101, 102, 103, 104, 105, 106, 107, 108, 109, 110] (by decide +kernel) (by decide +kernel)
set_option maxRecDepth 20000 in
theorem gX6_fits_X6_doAct : GoodIn wsX6_fits (wsV RX6 169 RX6 yX6_doAct wsX6_doAct) := goodIn_app (goodIn_of _ (by decide +kernel)) ggX6_fits_X6_doAct
set_option maxRecDepth 20000 in
theorem ggX6_fits_X6_areSilent : GoodIn wsX6_fits wsX6_areSilent := goodIn_r _ [81, 82, 83, 84, 85, 86, 87, 3, 88, 18, 19, 20, 21, 22, 23, 24, 25, 26, 27, 28, 29, 30, 89, 90, 91, 92, 93, 94, 95, 96, 97, 98, 99, 100, 101, 102, 103, 104, 105, 106, 107, 108, 109, 110] (by decide +kernel) (by decide +kernel)
set_option maxRecDepth 20000 in
theorem gX6_fits_X6_areSilent : GoodIn wsX6_fits (wsV RX6 226 RX6 yX6_areSilent wsX6_areSilent) := goodIn_app (goodIn_of _ (by decide +kernel)) ggX6_fits_X6_areSilent
theorem dX6_fits_0 : decode cX6_fits 0 = .ok (.iload_n 1, 1) := by decide +kernel
theorem dX6_fits_1 : decode cX6_fits 1 = .ok (.i2l, 1) := by decide +kernel
theorem dX6_fits_2 : decode cX6_fits 2 = .ok (.lconst 0, 1) := by decide +kernel
theorem dX6_fits_3 : decode cX6_fits 3 = .ok (.lconst 1, 1) := by decide +kernel
theorem dX6_fits_4 : decode cX6_fits 4 = .ok (.invokestatic 79, 3) := by decide +kernel
theorem dX6_fits_7 : decode cX6_fits 7 = .ok (.ifCond .ne 5, 3) := by decide +kernel
theorem dX6_fits_10 : decode cX6_fits 10 = .ok (.iconst (-1), 1) := by decide +kernel
theorem dX6_fits_11 : decode cX6_fits 11 = .ok (.ireturn, 1) := by decide +kernel
theorem dX6_fits_12 : decode cX6_fits 12 = .ok (.iconst 0, 1) := by decide +kernel
theorem dX6_fits_13 : decode cX6_fits 13 = .ok (.istore_n 2, 1) := by decide +kernel
theorem dX6_fits_14 : decode cX6_fits 14 = .ok (.bipush (-4), 2) := by decide +kernel
theorem dX6_fits_16 : decode cX6_fits 16 = .ok (.istore_n 3, 1) := by decide +kernel
theorem dX6_fits_17 : decode cX6_fits 17 = .ok (.iconst 0, 1) := by decide +kernel
theorem dX6_fits_18 : decode cX6_fits 18 = .ok (.istore 4, 2) := by decide +kernel
theorem dX6_fits_20 : decode cX6_fits 20 = .ok (.iload 4, 2) := by decide +kernel
theorem dX6_fits_22 : decode cX6_fits 22 = .ok (.bipush 64, 2) := by decide +kernel
theorem dX6_fits_24 : decode cX6_fits 24 = .ok (.if_icmp .ge 89, 3) := by decide +kernel
theorem dX6_fits_27 : decode cX6_fits 27 = .ok (.aload_n 0, 1) := by decide +kernel
theorem dX6_fits_28 : decode cX6_fits 28 = .ok (.iload 4, 2) := by decide +kernel
theorem dX6_fits_30 : decode cX6_fits 30 = .ok (.bipush 8, 2) := by decide +kernel
theorem dX6_fits_32 : decode cX6_fits 32 = .ok (.idiv, 1) := by decide +kernel
theorem dX6_fits_33 : decode cX6_fits 33 = .ok (.iload 4, 2) := by decide +kernel
theorem dX6_fits_35 : decode cX6_fits 35 = .ok (.bipush 8, 2) := by decide +kernel
theorem dX6_fits_37 : decode cX6_fits 37 = .ok (.irem, 1) := by decide +kernel
theorem dX6_fits_38 : decode cX6_fits 38 = .ok (.invokevirtual 180, 3) := by decide +kernel
theorem dX6_fits_41 : decode cX6_fits 41 = .ok (.ifCond .eq 66, 3) := by decide +kernel
theorem dX6_fits_44 : decode cX6_fits 44 = .ok (.aload_n 0, 1) := by decide +kernel
theorem dX6_fits_45 : decode cX6_fits 45 = .ok (.iconst 0, 1) := by decide +kernel
theorem dX6_fits_46 : decode cX6_fits 46 = .ok (.iconst 0, 1) := by decide +kernel
theorem dX6_fits_47 : decode cX6_fits 47 = .ok (.iload 4, 2) := by decide +kernel
theorem dX6_fits_49 : decode cX6_fits 49 = .ok (.bipush 8, 2) := by decide +kernel
theorem dX6_fits_51 : decode cX6_fits 51 = .ok (.idiv, 1) := by decide +kernel
theorem dX6_fits_52 : decode cX6_fits 52 = .ok (.iload 4, 2) := by decide +kernel
theorem dX6_fits_54 : decode cX6_fits 54 = .ok (.bipush 8, 2) := by decide +kernel
theorem dX6_fits_56 : decode cX6_fits 56 = .ok (.irem, 1) := by decide +kernel
theorem dX6_fits_57 : decode cX6_fits 57 = .ok (.invokevirtual 165, 3) := by decide +kernel
theorem dX6_fits_60 : decode cX6_fits 60 = .ok (.ifCond .eq 47, 3) := by decide +kernel
theorem dX6_fits_63 : decode cX6_fits 63 = .ok (.aload_n 0, 1) := by decide +kernel
theorem dX6_fits_64 : decode cX6_fits 64 = .ok (.iconst 0, 1) := by decide +kernel
theorem dX6_fits_65 : decode cX6_fits 65 = .ok (.iconst 1, 1) := by decide +kernel
theorem dX6_fits_66 : decode cX6_fits 66 = .ok (.invokevirtual 203, 3) := by decide +kernel
theorem dX6_fits_69 : decode cX6_fits 69 = .ok (.aload_n 0, 1) := by decide +kernel
theorem dX6_fits_70 : decode cX6_fits 70 = .ok (.iconst 1, 1) := by decide +kernel
theorem dX6_fits_71 : decode cX6_fits 71 = .ok (.iconst 0, 1) := by decide +kernel
theorem dX6_fits_72 : decode cX6_fits 72 = .ok (.iload 4, 2) := by decide +kernel
theorem dX6_fits_74 : decode cX6_fits 74 = .ok (.bipush 8, 2) := by decide +kernel
theorem dX6_fits_76 : decode cX6_fits 76 = .ok (.idiv, 1) := by decide +kernel
theorem dX6_fits_77 : decode cX6_fits 77 = .ok (.iload 4, 2) := by decide +kernel
theorem dX6_fits_79 : decode cX6_fits 79 = .ok (.bipush 8, 2) := by decide +kernel
theorem dX6_fits_81 : decode cX6_fits 81 = .ok (.irem, 1) := by decide +kernel
theorem dX6_fits_82 : decode cX6_fits 82 = .ok (.invokevirtual 169, 3) := by decide +kernel
theorem dX6_fits_85 : decode cX6_fits 85 = .ok (.aload_n 0, 1) := by decide +kernel
theorem dX6_fits_86 : decode cX6_fits 86 = .ok (.iconst 1, 1) := by decide +kernel
theorem dX6_fits_87 : decode cX6_fits 87 = .ok (.invokevirtual 226, 3) := by decide +kernel
theorem dX6_fits_90 : decode cX6_fits 90 = .ok (.ifCond .eq 17, 3) := by decide +kernel
theorem dX6_fits_93 : decode cX6_fits 93 = .ok (.iload_n 2, 1) := by decide +kernel
theorem dX6_fits_94 : decode cX6_fits 94 = .ok (.ifCond .ne 8, 3) := by decide +kernel
theorem dX6_fits_97 : decode cX6_fits 97 = .ok (.iload 4, 2) := by decide +kernel
theorem dX6_fits_99 : decode cX6_fits 99 = .ok (.goto 4, 3) := by decide +kernel
theorem dX6_fits_102 : decode cX6_fits 102 = .ok (.iload_n 3, 1) := by decide +kernel
theorem dX6_fits_103 : decode cX6_fits 103 = .ok (.istore_n 3, 1) := by decide +kernel
theorem dX6_fits_104 : decode cX6_fits 104 = .ok (.iinc 2 1, 3) := by decide +kernel
theorem dX6_fits_107 : decode cX6_fits 107 = .ok (.iinc 4 1, 3) := by decide +kernel
theorem dX6_fits_110 : decode cX6_fits 110 = .ok (.goto (-90), 3) := by decide +kernel
theorem dX6_fits_113 : decode cX6_fits 113 = .ok (.iload_n 1, 1) := by decide +kernel
theorem dX6_fits_114 : decode cX6_fits 114 = .ok (.ifCond .ne 7, 3) := by decide +kernel
theorem dX6_fits_117 : decode cX6_fits 117 = .ok (.iload_n 2, 1) := by decide +kernel
theorem dX6_fits_118 : decode cX6_fits 118 = .ok (.goto 4, 3) := by decide +kernel
theorem dX6_fits_121 : decode cX6_fits 121 = .ok (.iload_n 3, 1) := by decide +kernel
theorem dX6_fits_122 : decode cX6_fits 122 = .ok (.ireturn, 1) := by decide +kernel
set_option maxRecDepth 20000 in
theorem ggX6_year_X6_in : GoodIn wsX6_year wsX6_in := goodIn_r _ [10] (by decide +kernel) (by decide +kernel)
set_option maxRecDepth 20000 in
theorem gX6_year_X6_in : GoodIn wsX6_year (va_wsS RX6 79 yX6_in wsX6_in) := goodIn_app (goodIn_of _ (by decide +kernel)) ggX6_year_X6_in
set_option maxRecDepth 20000 in
theorem ggX6_year_X6_copy : GoodIn wsX6_year wsX6_copy := goodIn_r _ [14, 15, 16, 17, 18, 79, 80, 81, 82, 83, 84, 85, 86, 87, 88, 89, 90, 91, 92, 93, 94, 95, 96, 97, 98, 99, 100] (by decide +kernel) (by decide +kernel)
set_option maxRecDepth 20000 in
theorem gX6_year_X6_copy : GoodIn wsX6_year (wsV RX6 203 RX6 yX6_copy wsX6_copy) := goodIn_app (goodIn_of _ (by decide +kernel)) ggX6_year_X6_copy
set_option maxRecDepth 20000 in
theorem ggX6_year_X6_goDay : GoodIn wsX6_year wsX6_goDay := goodIn_r _ [22, 17, 18, 23, 24, 25, 26, 9, 27, 16, 28, 29, 30, 31, 32, 33, 34, 15, 35, 36, 37, 38, 79, 80, 81, 82, 83, 84, 85, 86, 87, 88, 89, 90, 91, 92, 93, 94, 95, 96, 97, 98, 99, 100] (by decide +kernel) (by decide +kernel)
set_option maxRecDepth 20000 in
theorem gX6_year_X6_goDay : GoodIn wsX6_year (wsV RX6 162 RX6 yX6_goDay wsX6_goDay) := goodIn_app (goodIn_of _ (by decide +kernel)) ggX6_year_X6_goDay
set_option maxRecDepth 20000 in
theorem ggX6_year_X6_canDo : GoodIn wsX6_year wsX6_canDo := goodIn_r _ [42, 24, 25, 26, 9, 27, 16, 28, 29, 30, 31, 32, 33, 34, 15, 43, 44, 45, 46, 47, 48, 49, 50, 23, 51, 52, 53, 54, 55, 56, 57, 58, 79, 80, 81, 82, 83, 84, 85, 86, 87, 88, 89, 90, 91, 92, 93, 94, 95, 96, 97, 98, 99, 100] (by decide +kernel) (by decide +kernel)
set_option maxRecDepth 20000 in
theorem gX6_year_X6_canDo : GoodIn wsX6_year (wsV RX6 165 RX6 yX6_canDo wsX6_canDo) := goodIn_app (goodIn_of _ (by decide +kernel)) ggX6_year_X6_canDo
set_option maxRecDepth 20000 in
theorem ggX6_year_X6_doAct : GoodIn wsX6_year wsX6_doAct := goodIn_r _ [62, 31, 32, 33, 9, 34, 15, 35, 36, 37, 38, 63, 64, 65, 66, 23, 17, 67, 68, 69, 70, 71, 72, 73, 74, 16, 19, 20, 21, 22, 18, 24, 25, 26, 27, 28, 29, 30, 79, 80, 81, 82, 83, 84, 85, 86, 87, 88, 89, 90, 91, 92, 93, 94, 95, 96, 97, 98, 99, 100] (by decide +kernel) (by decide +kernel)
set_option maxRecDepth 20000 in
theorem gX6_year_X6_doAct : GoodIn wsX6_year (wsV RX6 169 RX6 yX6_doAct wsX6_doAct) := goodIn_app (goodIn_of _ (by decide +kernel)) ggX6_year_X6_doAct
set_option maxRecDepth 20000 in
theorem ggX6_year_X6_allOf : GoodIn wsX6_year wsX6_allOf := goodIn_r _ [78, 51, 52, 53, 9, 54, 31, 32, 33, 34, 15, 79, 80, 81, 82, 83, 84, 85, 86, 87, 88, 89, 90, 91, 92, 93, 94, 95, 96, 97, 98, 99, 100] (by decide +kernel) (by decide +kernel)
set_option maxRecDepth 20000 in
theorem gX6_year_X6_allOf : GoodIn wsX6_year (wsV RX6 209 RX6 yX6_allOf wsX6_allOf) := goodIn_app (goodIn_of _ (by decide +kernel)) ggX6_year_X6_allOf
theorem dX6_year_0 : decode cX6_year 0 = .ok (.iload_n 1, 1) := by decide +kernel
theorem dX6_year_1 : decode cX6_year 1 = .ok (.i2l, 1) := by decide +kernel
theorem dX6_year_2 : decode cX6_year 2 = .ok (.lconst 0, 1) := by decide +kernel
theorem dX6_year_3 : decode cX6_year 3 = .ok (.ldc2_w 229, 3) := by decide +kernel
theorem dX6_year_6 : decode cX6_year 6 = .ok (.invokestatic 79, 3) := by decide +kernel
theorem dX6_year_9 : decode cX6_year 9 = .ok (.ifCond .eq 25, 3) := by decide +kernel
theorem dX6_year_12 : decode cX6_year 12 = .ok (.iload_n 2, 1) := by decide +kernel
theorem dX6_year_13 : decode cX6_year 13 = .ok (.i2l, 1) := by decide +kernel
theorem dX6_year_14 : decode cX6_year 14 = .ok (.lconst 1, 1) := by decide +kernel
theorem dX6_year_15 : decode cX6_year 15 = .ok (.ldc2_w 104, 3) := by decide +kernel
theorem dX6_year_18 : decode cX6_year 18 = .ok (.invokestatic 79, 3) := by decide +kernel
theorem dX6_year_21 : decode cX6_year 21 = .ok (.ifCond .eq 13, 3) := by decide +kernel
theorem dX6_year_24 : decode cX6_year 24 = .ok (.iload_n 3, 1) := by decide +kernel
theorem dX6_year_25 : decode cX6_year 25 = .ok (.i2l, 1) := by decide +kernel
theorem dX6_year_26 : decode cX6_year 26 = .ok (.lconst 0, 1) := by decide +kernel
theorem dX6_year_27 : decode cX6_year 27 = .ok (.lconst 1, 1) := by decide +kernel
theorem dX6_year_28 : decode cX6_year 28 = .ok (.invokestatic 79, 3) := by decide +kernel
theorem dX6_year_31 : decode cX6_year 31 = .ok (.ifCond .ne 5, 3) := by decide +kernel
theorem dX6_year_34 : decode cX6_year 34 = .ok (.iconst (-1), 1) := by decide +kernel
theorem dX6_year_35 : decode cX6_year 35 = .ok (.ireturn, 1) := by decide +kernel
theorem dX6_year_36 : decode cX6_year 36 = .ok (.aload_n 0, 1) := by decide +kernel
theorem dX6_year_37 : decode cX6_year 37 = .ok (.iconst 0, 1) := by decide +kernel
theorem dX6_year_38 : decode cX6_year 38 = .ok (.iconst 1, 1) := by decide +kernel
theorem dX6_year_39 : decode cX6_year 39 = .ok (.invokevirtual 203, 3) := by decide +kernel
theorem dX6_year_42 : decode cX6_year 42 = .ok (.iconst 0, 1) := by decide +kernel
theorem dX6_year_43 : decode cX6_year 43 = .ok (.istore 4, 2) := by decide +kernel
theorem dX6_year_45 : decode cX6_year 45 = .ok (.iconst 0, 1) := by decide +kernel
theorem dX6_year_46 : decode cX6_year 46 = .ok (.istore 5, 2) := by decide +kernel
theorem dX6_year_48 : decode cX6_year 48 = .ok (.iload 5, 2) := by decide +kernel
theorem dX6_year_50 : decode cX6_year 50 = .ok (.iload_n 2, 1) := by decide +kernel
theorem dX6_year_51 : decode cX6_year 51 = .ok (.if_icmp .ge 150, 3) := by decide +kernel
theorem dX6_year_54 : decode cX6_year 54 = .ok (.ldc2_w 231, 3) := by decide +kernel
theorem dX6_year_57 : decode cX6_year 57 = .ok (.iload_n 1, 1) := by decide +kernel
theorem dX6_year_58 : decode cX6_year 58 = .ok (.i2l, 1) := by decide +kernel
theorem dX6_year_59 : decode cX6_year 59 = .ok (.lmul, 1) := by decide +kernel
theorem dX6_year_60 : decode cX6_year 60 = .ok (.ldc2_w 233, 3) := by decide +kernel
theorem dX6_year_63 : decode cX6_year 63 = .ok (.iload 5, 2) := by decide +kernel
theorem dX6_year_65 : decode cX6_year 65 = .ok (.i2l, 1) := by decide +kernel
theorem dX6_year_66 : decode cX6_year 66 = .ok (.lmul, 1) := by decide +kernel
theorem dX6_year_67 : decode cX6_year 67 = .ok (.ladd, 1) := by decide +kernel
theorem dX6_year_68 : decode cX6_year 68 = .ok (.lconst 1, 1) := by decide +kernel
theorem dX6_year_69 : decode cX6_year 69 = .ok (.ladd, 1) := by decide +kernel
theorem dX6_year_70 : decode cX6_year 70 = .ok (.lstore 6, 2) := by decide +kernel
theorem dX6_year_72 : decode cX6_year 72 = .ok (.lload 6, 2) := by decide +kernel
theorem dX6_year_74 : decode cX6_year 74 = .ok (.lload 6, 2) := by decide +kernel
theorem dX6_year_76 : decode cX6_year 76 = .ok (.lmul, 1) := by decide +kernel
theorem dX6_year_77 : decode cX6_year 77 = .ok (.ldc2_w 235, 3) := by decide +kernel
theorem dX6_year_80 : decode cX6_year 80 = .ok (.lrem, 1) := by decide +kernel
theorem dX6_year_81 : decode cX6_year 81 = .ok (.l2i, 1) := by decide +kernel
theorem dX6_year_82 : decode cX6_year 82 = .ok (.istore 8, 2) := by decide +kernel
theorem dX6_year_84 : decode cX6_year 84 = .ok (.iload 8, 2) := by decide +kernel
theorem dX6_year_86 : decode cX6_year 86 = .ok (.aload_n 0, 1) := by decide +kernel
theorem dX6_year_87 : decode cX6_year 87 = .ok (.getfield 13, 3) := by decide +kernel
theorem dX6_year_90 : decode cX6_year 90 = .ok (.iconst 0, 1) := by decide +kernel
theorem dX6_year_91 : decode cX6_year 91 = .ok (.iaload, 1) := by decide +kernel
theorem dX6_year_92 : decode cX6_year 92 = .ok (.irem, 1) := by decide +kernel
theorem dX6_year_93 : decode cX6_year 93 = .ok (.istore 9, 2) := by decide +kernel
theorem dX6_year_95 : decode cX6_year 95 = .ok (.iload 8, 2) := by decide +kernel
theorem dX6_year_97 : decode cX6_year 97 = .ok (.bipush 8, 2) := by decide +kernel
theorem dX6_year_99 : decode cX6_year 99 = .ok (.idiv, 1) := by decide +kernel
theorem dX6_year_100 : decode cX6_year 100 = .ok (.aload_n 0, 1) := by decide +kernel
theorem dX6_year_101 : decode cX6_year 101 = .ok (.getfield 13, 3) := by decide +kernel
theorem dX6_year_104 : decode cX6_year 104 = .ok (.iconst 0, 1) := by decide +kernel
theorem dX6_year_105 : decode cX6_year 105 = .ok (.iaload, 1) := by decide +kernel
theorem dX6_year_106 : decode cX6_year 106 = .ok (.irem, 1) := by decide +kernel
theorem dX6_year_107 : decode cX6_year 107 = .ok (.istore 10, 2) := by decide +kernel
theorem dX6_year_109 : decode cX6_year 109 = .ok (.iload 8, 2) := by decide +kernel
theorem dX6_year_111 : decode cX6_year 111 = .ok (.bipush 64, 2) := by decide +kernel
theorem dX6_year_113 : decode cX6_year 113 = .ok (.idiv, 1) := by decide +kernel
theorem dX6_year_114 : decode cX6_year 114 = .ok (.iconst 4, 1) := by decide +kernel
theorem dX6_year_115 : decode cX6_year 115 = .ok (.irem, 1) := by decide +kernel
theorem dX6_year_116 : decode cX6_year 116 = .ok (.istore 11, 2) := by decide +kernel
theorem dX6_year_118 : decode cX6_year 118 = .ok (.iload 11, 2) := by decide +kernel
theorem dX6_year_120 : decode cX6_year 120 = .ok (.iconst 1, 1) := by decide +kernel
theorem dX6_year_121 : decode cX6_year 121 = .ok (.if_icmp .ne 11, 3) := by decide +kernel
theorem dX6_year_124 : decode cX6_year 124 = .ok (.aload_n 0, 1) := by decide +kernel
theorem dX6_year_125 : decode cX6_year 125 = .ok (.iconst 1, 1) := by decide +kernel
theorem dX6_year_126 : decode cX6_year 126 = .ok (.invokevirtual 162, 3) := by decide +kernel
theorem dX6_year_129 : decode cX6_year 129 = .ok (.goto 66, 3) := by decide +kernel
theorem dX6_year_132 : decode cX6_year 132 = .ok (.iload 9, 2) := by decide +kernel
theorem dX6_year_134 : decode cX6_year 134 = .ok (.iload 10, 2) := by decide +kernel
theorem dX6_year_136 : decode cX6_year 136 = .ok (.if_icmp .eq 59, 3) := by decide +kernel
theorem dX6_year_139 : decode cX6_year 139 = .ok (.aload_n 0, 1) := by decide +kernel
theorem dX6_year_140 : decode cX6_year 140 = .ok (.iconst 1, 1) := by decide +kernel
theorem dX6_year_141 : decode cX6_year 141 = .ok (.iload 11, 2) := by decide +kernel
theorem dX6_year_143 : decode cX6_year 143 = .ok (.ifCond .ne 7, 3) := by decide +kernel
theorem dX6_year_146 : decode cX6_year 146 = .ok (.iconst 0, 1) := by decide +kernel
theorem dX6_year_147 : decode cX6_year 147 = .ok (.goto 4, 3) := by decide +kernel
theorem dX6_year_150 : decode cX6_year 150 = .ok (.iconst 1, 1) := by decide +kernel
theorem dX6_year_151 : decode cX6_year 151 = .ok (.iload 9, 2) := by decide +kernel
theorem dX6_year_153 : decode cX6_year 153 = .ok (.iload 10, 2) := by decide +kernel
theorem dX6_year_155 : decode cX6_year 155 = .ok (.invokevirtual 165, 3) := by decide +kernel
theorem dX6_year_158 : decode cX6_year 158 = .ok (.ifCond .eq 37, 3) := by decide +kernel
theorem dX6_year_161 : decode cX6_year 161 = .ok (.aload_n 0, 1) := by decide +kernel
theorem dX6_year_162 : decode cX6_year 162 = .ok (.iconst 1, 1) := by decide +kernel
theorem dX6_year_163 : decode cX6_year 163 = .ok (.iload 11, 2) := by decide +kernel
theorem dX6_year_165 : decode cX6_year 165 = .ok (.ifCond .ne 7, 3) := by decide +kernel
theorem dX6_year_168 : decode cX6_year 168 = .ok (.iconst 0, 1) := by decide +kernel
theorem dX6_year_169 : decode cX6_year 169 = .ok (.goto 4, 3) := by decide +kernel
theorem dX6_year_172 : decode cX6_year 172 = .ok (.iconst 1, 1) := by decide +kernel
theorem dX6_year_173 : decode cX6_year 173 = .ok (.iload 9, 2) := by decide +kernel
theorem dX6_year_175 : decode cX6_year 175 = .ok (.iload 10, 2) := by decide +kernel
theorem dX6_year_177 : decode cX6_year 177 = .ok (.invokevirtual 169, 3) := by decide +kernel
theorem dX6_year_180 : decode cX6_year 180 = .ok (.iload 4, 2) := by decide +kernel
theorem dX6_year_182 : decode cX6_year 182 = .ok (.iload 11, 2) := by decide +kernel
theorem dX6_year_184 : decode cX6_year 184 = .ok (.ifCond .ne 7, 3) := by decide +kernel
theorem dX6_year_187 : decode cX6_year 187 = .ok (.iconst 0, 1) := by decide +kernel
theorem dX6_year_188 : decode cX6_year 188 = .ok (.goto 4, 3) := by decide +kernel
theorem dX6_year_191 : decode cX6_year 191 = .ok (.iconst 1, 1) := by decide +kernel
theorem dX6_year_192 : decode cX6_year 192 = .ok (.iadd, 1) := by decide +kernel
theorem dX6_year_193 : decode cX6_year 193 = .ok (.istore 4, 2) := by decide +kernel
theorem dX6_year_195 : decode cX6_year 195 = .ok (.iinc 5 1, 3) := by decide +kernel
theorem dX6_year_198 : decode cX6_year 198 = .ok (.goto (-150), 3) := by decide +kernel
theorem dX6_year_201 : decode cX6_year 201 = .ok (.iload_n 3, 1) := by decide +kernel
theorem dX6_year_202 : decode cX6_year 202 = .ok (.ifCond .ne 11, 3) := by decide +kernel
theorem dX6_year_205 : decode cX6_year 205 = .ok (.aload_n 0, 1) := by decide +kernel
theorem dX6_year_206 : decode cX6_year 206 = .ok (.iconst 1, 1) := by decide +kernel
theorem dX6_year_207 : decode cX6_year 207 = .ok (.invokevirtual 209, 3) := by decide +kernel
theorem dX6_year_210 : decode cX6_year 210 = .ok (.goto 5, 3) := by decide +kernel
theorem dX6_year_213 : decode cX6_year 213 = .ok (.iload 4, 2) := by decide +kernel
theorem dX6_year_215 : decode cX6_year 215 = .ok (.ireturn, 1) := by decide +kernel
theorem dX6_copyActs_0 : decode cX6_copyActs 0 = .ok (.aload_n 0, 1) := by decide +kernel
theorem dX6_copyActs_1 : decode cX6_copyActs 1 = .ok (.getfield 28, 3) := by decide +kernel
theorem dX6_copyActs_4 : decode cX6_copyActs 4 = .ok (.iload_n 2, 1) := by decide +kernel
theorem dX6_copyActs_5 : decode cX6_copyActs 5 = .ok (.aload_n 0, 1) := by decide +kernel
theorem dX6_copyActs_6 : decode cX6_copyActs 6 = .ok (.getfield 28, 3) := by decide +kernel
theorem dX6_copyActs_9 : decode cX6_copyActs 9 = .ok (.iload_n 1, 1) := by decide +kernel
theorem dX6_copyActs_10 : decode cX6_copyActs 10 = .ok (.iaload, 1) := by decide +kernel
theorem dX6_copyActs_11 : decode cX6_copyActs 11 = .ok (.iastore, 1) := by decide +kernel
theorem dX6_copyActs_12 : decode cX6_copyActs 12 = .ok (.iconst 0, 1) := by decide +kernel
theorem dX6_copyActs_13 : decode cX6_copyActs 13 = .ok (.istore_n 3, 1) := by decide +kernel
theorem dX6_copyActs_14 : decode cX6_copyActs 14 = .ok (.iload_n 3, 1) := by decide +kernel
theorem dX6_copyActs_15 : decode cX6_copyActs 15 = .ok (.bipush 40, 2) := by decide +kernel
theorem dX6_copyActs_17 : decode cX6_copyActs 17 = .ok (.if_icmp .ge 75, 3) := by decide +kernel
theorem dX6_copyActs_20 : decode cX6_copyActs 20 = .ok (.aload_n 0, 1) := by decide +kernel
theorem dX6_copyActs_21 : decode cX6_copyActs 21 = .ok (.getfield 31, 3) := by decide +kernel
theorem dX6_copyActs_24 : decode cX6_copyActs 24 = .ok (.bipush 40, 2) := by decide +kernel
theorem dX6_copyActs_26 : decode cX6_copyActs 26 = .ok (.iload_n 2, 1) := by decide +kernel
theorem dX6_copyActs_27 : decode cX6_copyActs 27 = .ok (.imul, 1) := by decide +kernel
theorem dX6_copyActs_28 : decode cX6_copyActs 28 = .ok (.iload_n 3, 1) := by decide +kernel
theorem dX6_copyActs_29 : decode cX6_copyActs 29 = .ok (.iadd, 1) := by decide +kernel
theorem dX6_copyActs_30 : decode cX6_copyActs 30 = .ok (.aload_n 0, 1) := by decide +kernel
theorem dX6_copyActs_31 : decode cX6_copyActs 31 = .ok (.getfield 31, 3) := by decide +kernel
theorem dX6_copyActs_34 : decode cX6_copyActs 34 = .ok (.bipush 40, 2) := by decide +kernel
theorem dX6_copyActs_36 : decode cX6_copyActs 36 = .ok (.iload_n 1, 1) := by decide +kernel
theorem dX6_copyActs_37 : decode cX6_copyActs 37 = .ok (.imul, 1) := by decide +kernel
theorem dX6_copyActs_38 : decode cX6_copyActs 38 = .ok (.iload_n 3, 1) := by decide +kernel
theorem dX6_copyActs_39 : decode cX6_copyActs 39 = .ok (.iadd, 1) := by decide +kernel
theorem dX6_copyActs_40 : decode cX6_copyActs 40 = .ok (.iaload, 1) := by decide +kernel
theorem dX6_copyActs_41 : decode cX6_copyActs 41 = .ok (.iastore, 1) := by decide +kernel
theorem dX6_copyActs_42 : decode cX6_copyActs 42 = .ok (.aload_n 0, 1) := by decide +kernel
theorem dX6_copyActs_43 : decode cX6_copyActs 43 = .ok (.getfield 34, 3) := by decide +kernel
theorem dX6_copyActs_46 : decode cX6_copyActs 46 = .ok (.bipush 40, 2) := by decide +kernel
theorem dX6_copyActs_48 : decode cX6_copyActs 48 = .ok (.iload_n 2, 1) := by decide +kernel
theorem dX6_copyActs_49 : decode cX6_copyActs 49 = .ok (.imul, 1) := by decide +kernel
theorem dX6_copyActs_50 : decode cX6_copyActs 50 = .ok (.iload_n 3, 1) := by decide +kernel
theorem dX6_copyActs_51 : decode cX6_copyActs 51 = .ok (.iadd, 1) := by decide +kernel
theorem dX6_copyActs_52 : decode cX6_copyActs 52 = .ok (.aload_n 0, 1) := by decide +kernel
theorem dX6_copyActs_53 : decode cX6_copyActs 53 = .ok (.getfield 34, 3) := by decide +kernel
theorem dX6_copyActs_56 : decode cX6_copyActs 56 = .ok (.bipush 40, 2) := by decide +kernel
theorem dX6_copyActs_58 : decode cX6_copyActs 58 = .ok (.iload_n 1, 1) := by decide +kernel
theorem dX6_copyActs_59 : decode cX6_copyActs 59 = .ok (.imul, 1) := by decide +kernel
theorem dX6_copyActs_60 : decode cX6_copyActs 60 = .ok (.iload_n 3, 1) := by decide +kernel
theorem dX6_copyActs_61 : decode cX6_copyActs 61 = .ok (.iadd, 1) := by decide +kernel
theorem dX6_copyActs_62 : decode cX6_copyActs 62 = .ok (.iaload, 1) := by decide +kernel
theorem dX6_copyActs_63 : decode cX6_copyActs 63 = .ok (.iastore, 1) := by decide +kernel
theorem dX6_copyActs_64 : decode cX6_copyActs 64 = .ok (.aload_n 0, 1) := by decide +kernel
theorem dX6_copyActs_65 : decode cX6_copyActs 65 = .ok (.getfield 37, 3) := by decide +kernel
theorem dX6_copyActs_68 : decode cX6_copyActs 68 = .ok (.bipush 40, 2) := by decide +kernel
theorem dX6_copyActs_70 : decode cX6_copyActs 70 = .ok (.iload_n 2, 1) := by decide +kernel
theorem dX6_copyActs_71 : decode cX6_copyActs 71 = .ok (.imul, 1) := by decide +kernel
theorem dX6_copyActs_72 : decode cX6_copyActs 72 = .ok (.iload_n 3, 1) := by decide +kernel
theorem dX6_copyActs_73 : decode cX6_copyActs 73 = .ok (.iadd, 1) := by decide +kernel
theorem dX6_copyActs_74 : decode cX6_copyActs 74 = .ok (.aload_n 0, 1) := by decide +kernel
theorem dX6_copyActs_75 : decode cX6_copyActs 75 = .ok (.getfield 37, 3) := by decide +kernel
theorem dX6_copyActs_78 : decode cX6_copyActs 78 = .ok (.bipush 40, 2) := by decide +kernel
theorem dX6_copyActs_80 : decode cX6_copyActs 80 = .ok (.iload_n 1, 1) := by decide +kernel
theorem dX6_copyActs_81 : decode cX6_copyActs 81 = .ok (.imul, 1) := by decide +kernel
theorem dX6_copyActs_82 : decode cX6_copyActs 82 = .ok (.iload_n 3, 1) := by decide +kernel
theorem dX6_copyActs_83 : decode cX6_copyActs 83 = .ok (.iadd, 1) := by decide +kernel
theorem dX6_copyActs_84 : decode cX6_copyActs 84 = .ok (.iaload, 1) := by decide +kernel
theorem dX6_copyActs_85 : decode cX6_copyActs 85 = .ok (.iastore, 1) := by decide +kernel
theorem dX6_copyActs_86 : decode cX6_copyActs 86 = .ok (.iinc 3 1, 3) := by decide +kernel
theorem dX6_copyActs_89 : decode cX6_copyActs 89 = .ok (.goto (-75), 3) := by decide +kernel
theorem dX6_copyActs_92 : decode cX6_copyActs 92 = .ok (.return_, 1) := by decide +kernel
set_option maxRecDepth 20000 in
theorem ggX6_keep_X6_copyActs : GoodIn wsX6_keep wsX6_copyActs := goodIn_r _ [6, 7, 8, 9, 10, 11, 12, 13, 14, 15, 16, 17, 18, 19, 20, 21, 22, 23, 24, 25, 26, 27, 28, 29, 30, 31, 32] (by decide +kernel) (by decide +kernel)
set_option maxRecDepth 20000 in
theorem gX6_keep_X6_copyActs : GoodIn wsX6_keep (wsV RX6 237 RX6 yX6_copyActs wsX6_copyActs) := goodIn_app (goodIn_of _ (by decide +kernel)) ggX6_keep_X6_copyActs
theorem dX6_keep_0 : decode cX6_keep 0 = .ok (.aload_n 0, 1) := by decide +kernel
theorem dX6_keep_1 : decode cX6_keep 1 = .ok (.getfield 114, 3) := by decide +kernel
theorem dX6_keep_4 : decode cX6_keep 4 = .ok (.iconst 2, 1) := by decide +kernel
theorem dX6_keep_5 : decode cX6_keep 5 = .ok (.if_icmp .ne 6, 3) := by decide +kernel
theorem dX6_keep_8 : decode cX6_keep 8 = .ok (.bipush (-3), 2) := by decide +kernel
theorem dX6_keep_10 : decode cX6_keep 10 = .ok (.ireturn, 1) := by decide +kernel
theorem dX6_keep_11 : decode cX6_keep 11 = .ok (.aload_n 0, 1) := by decide +kernel
theorem dX6_keep_12 : decode cX6_keep 12 = .ok (.dup, 1) := by decide +kernel
theorem dX6_keep_13 : decode cX6_keep 13 = .ok (.getfield 114, 3) := by decide +kernel
theorem dX6_keep_16 : decode cX6_keep 16 = .ok (.iconst 1, 1) := by decide +kernel
theorem dX6_keep_17 : decode cX6_keep 17 = .ok (.iadd, 1) := by decide +kernel
theorem dX6_keep_18 : decode cX6_keep 18 = .ok (.putfield 114, 3) := by decide +kernel
theorem dX6_keep_21 : decode cX6_keep 21 = .ok (.aload_n 0, 1) := by decide +kernel
theorem dX6_keep_22 : decode cX6_keep 22 = .ok (.iconst 0, 1) := by decide +kernel
theorem dX6_keep_23 : decode cX6_keep 23 = .ok (.aload_n 0, 1) := by decide +kernel
theorem dX6_keep_24 : decode cX6_keep 24 = .ok (.getfield 114, 3) := by decide +kernel
theorem dX6_keep_27 : decode cX6_keep 27 = .ok (.invokevirtual 237, 3) := by decide +kernel
theorem dX6_keep_30 : decode cX6_keep 30 = .ok (.aload_n 0, 1) := by decide +kernel
theorem dX6_keep_31 : decode cX6_keep 31 = .ok (.getfield 114, 3) := by decide +kernel
theorem dX6_keep_34 : decode cX6_keep 34 = .ok (.ireturn, 1) := by decide +kernel
set_option maxRecDepth 20000 in
theorem ggX6_back_X6_copyActs : GoodIn wsX6_back wsX6_copyActs := goodIn_r _ [6, 7, 8, 9, 10, 81, 82, 83, 84, 85, 86, 87, 88, 89, 90, 91, 92, 93, 94, 95, 96, 97, 98, 99, 100, 101, 102] (by decide +kernel) (by decide +kernel)
set_option maxRecDepth 20000 in
theorem gX6_back_X6_copyActs : GoodIn wsX6_back (wsV RX6 237 RX6 yX6_copyActs wsX6_copyActs) := goodIn_app (goodIn_of _ (by decide +kernel)) ggX6_back_X6_copyActs
set_option maxRecDepth 20000 in
theorem ggX6_back_X6_begin : GoodIn wsX6_back wsX6_begin := goodIn_r _ [14, 15, 16, 17, 5, 18, 19, 20, 21, 22, 23, 24, 7, 8, 9, 10, 25, 26, 27, 28, 29, 30, 31, 32, 33, 34, 35, 36, 37, 38, 39, 40, 41, 42, 43, 44, 45, 46, 47, 48, 49, 50, 51, 52, 53, 54, 55, 56, 57, 58, 59, 60, 61, 62, 63, 64, 65, 66, 67, 68, 69, 70, 71, 72, 73, 74, 75, 76, 77, 78, 79, 80, 81, 82, 83, 84, 85, 86, 87, 88, 89, 90, 91, 92, 93, 94, 95, 96, 97, 98, 99, 100, 101, 102] (by decide +kernel) (by decide +kernel)
set_option maxRecDepth 20000 in
theorem gX6_back_X6_begin : GoodIn wsX6_back (wsV RX6 72 RX6 yX6_begin wsX6_begin) := goodIn_app (goodIn_of _ (by decide +kernel)) ggX6_back_X6_begin
theorem dX6_back_0 : decode cX6_back 0 = .ok (.aload_n 0, 1) := by decide +kernel
theorem dX6_back_1 : decode cX6_back 1 = .ok (.getfield 114, 3) := by decide +kernel
theorem dX6_back_4 : decode cX6_back 4 = .ok (.ifCond .ne 6, 3) := by decide +kernel
theorem dX6_back_7 : decode cX6_back 7 = .ok (.bipush (-2), 2) := by decide +kernel
theorem dX6_back_9 : decode cX6_back 9 = .ok (.ireturn, 1) := by decide +kernel
theorem dX6_back_10 : decode cX6_back 10 = .ok (.aload_n 0, 1) := by decide +kernel
theorem dX6_back_11 : decode cX6_back 11 = .ok (.aload_n 0, 1) := by decide +kernel
theorem dX6_back_12 : decode cX6_back 12 = .ok (.getfield 114, 3) := by decide +kernel
theorem dX6_back_15 : decode cX6_back 15 = .ok (.iconst 0, 1) := by decide +kernel
theorem dX6_back_16 : decode cX6_back 16 = .ok (.invokevirtual 237, 3) := by decide +kernel
theorem dX6_back_19 : decode cX6_back 19 = .ok (.aload_n 0, 1) := by decide +kernel
theorem dX6_back_20 : decode cX6_back 20 = .ok (.dup, 1) := by decide +kernel
theorem dX6_back_21 : decode cX6_back 21 = .ok (.getfield 114, 3) := by decide +kernel
theorem dX6_back_24 : decode cX6_back 24 = .ok (.iconst 1, 1) := by decide +kernel
theorem dX6_back_25 : decode cX6_back 25 = .ok (.isub, 1) := by decide +kernel
theorem dX6_back_26 : decode cX6_back 26 = .ok (.putfield 114, 3) := by decide +kernel
theorem dX6_back_29 : decode cX6_back 29 = .ok (.aload_n 0, 1) := by decide +kernel
theorem dX6_back_30 : decode cX6_back 30 = .ok (.invokevirtual 72, 3) := by decide +kernel
theorem dX6_back_33 : decode cX6_back 33 = .ok (.aload_n 0, 1) := by decide +kernel
theorem dX6_back_34 : decode cX6_back 34 = .ok (.getfield 114, 3) := by decide +kernel
theorem dX6_back_37 : decode cX6_back 37 = .ok (.ireturn, 1) := by decide +kernel
set_option maxRecDepth 20000 in
theorem ggX6_count_X6_bits : GoodIn wsX6_count wsX6_bits := goodIn_r _ [11] (by decide +kernel) (by decide +kernel)
set_option maxRecDepth 20000 in
theorem gX6_count_X6_bits : GoodIn wsX6_count (va_wsS RX6 192 yX6_bits wsX6_bits) := goodIn_app (goodIn_of _ (by decide +kernel)) ggX6_count_X6_bits
set_option maxRecDepth 20000 in
theorem ggX6_count_X6_allOf : GoodIn wsX6_count wsX6_allOf := goodIn_r _ [15, 16, 17, 18, 10, 19, 20, 21, 22, 23, 24, 25, 26, 27, 28, 29, 30, 31, 32, 33, 34, 35, 36, 37, 38, 39, 40, 41, 42, 43, 44, 45, 46] (by decide +kernel) (by decide +kernel)
set_option maxRecDepth 20000 in
theorem gX6_count_X6_allOf : GoodIn wsX6_count (wsV RX6 209 RX6 yX6_allOf wsX6_allOf) := goodIn_app (goodIn_of _ (by decide +kernel)) ggX6_count_X6_allOf
theorem dX6_count_0 : decode cX6_count 0 = .ok (.iload_n 1, 1) := by decide +kernel
theorem dX6_count_1 : decode cX6_count 1 = .ok (.tableswitch 99 0 7 #[47, 54, 64, 71, 77, 84, 89, 94], 47) := by decide +kernel
theorem dX6_count_48 : decode cX6_count 48 = .ok (.aload_n 0, 1) := by decide +kernel
theorem dX6_count_49 : decode cX6_count 49 = .ok (.getfield 13, 3) := by decide +kernel
theorem dX6_count_52 : decode cX6_count 52 = .ok (.iconst 0, 1) := by decide +kernel
theorem dX6_count_53 : decode cX6_count 53 = .ok (.iaload, 1) := by decide +kernel
theorem dX6_count_54 : decode cX6_count 54 = .ok (.ireturn, 1) := by decide +kernel
theorem dX6_count_55 : decode cX6_count 55 = .ok (.aload_n 0, 1) := by decide +kernel
theorem dX6_count_56 : decode cX6_count 56 = .ok (.getfield 49, 3) := by decide +kernel
theorem dX6_count_59 : decode cX6_count 59 = .ok (.iconst 0, 1) := by decide +kernel
theorem dX6_count_60 : decode cX6_count 60 = .ok (.iaload, 1) := by decide +kernel
theorem dX6_count_61 : decode cX6_count 61 = .ok (.invokestatic 192, 3) := by decide +kernel
theorem dX6_count_64 : decode cX6_count 64 = .ok (.ireturn, 1) := by decide +kernel
theorem dX6_count_65 : decode cX6_count 65 = .ok (.aload_n 0, 1) := by decide +kernel
theorem dX6_count_66 : decode cX6_count 66 = .ok (.getfield 52, 3) := by decide +kernel
theorem dX6_count_69 : decode cX6_count 69 = .ok (.iconst 0, 1) := by decide +kernel
theorem dX6_count_70 : decode cX6_count 70 = .ok (.iaload, 1) := by decide +kernel
theorem dX6_count_71 : decode cX6_count 71 = .ok (.ireturn, 1) := by decide +kernel
theorem dX6_count_72 : decode cX6_count 72 = .ok (.aload_n 0, 1) := by decide +kernel
theorem dX6_count_73 : decode cX6_count 73 = .ok (.iconst 0, 1) := by decide +kernel
theorem dX6_count_74 : decode cX6_count 74 = .ok (.invokevirtual 209, 3) := by decide +kernel
theorem dX6_count_77 : decode cX6_count 77 = .ok (.ireturn, 1) := by decide +kernel
theorem dX6_count_78 : decode cX6_count 78 = .ok (.aload_n 0, 1) := by decide +kernel
theorem dX6_count_79 : decode cX6_count 79 = .ok (.getfield 28, 3) := by decide +kernel
theorem dX6_count_82 : decode cX6_count 82 = .ok (.iconst 0, 1) := by decide +kernel
theorem dX6_count_83 : decode cX6_count 83 = .ok (.iaload, 1) := by decide +kernel
theorem dX6_count_84 : decode cX6_count 84 = .ok (.ireturn, 1) := by decide +kernel
theorem dX6_count_85 : decode cX6_count 85 = .ok (.aload_n 0, 1) := by decide +kernel
theorem dX6_count_86 : decode cX6_count 86 = .ok (.getfield 117, 3) := by decide +kernel
theorem dX6_count_89 : decode cX6_count 89 = .ok (.ireturn, 1) := by decide +kernel
theorem dX6_count_90 : decode cX6_count 90 = .ok (.aload_n 0, 1) := by decide +kernel
theorem dX6_count_91 : decode cX6_count 91 = .ok (.getfield 114, 3) := by decide +kernel
theorem dX6_count_94 : decode cX6_count 94 = .ok (.ireturn, 1) := by decide +kernel
theorem dX6_count_95 : decode cX6_count 95 = .ok (.aload_n 0, 1) := by decide +kernel
theorem dX6_count_96 : decode cX6_count 96 = .ok (.getfield 83, 3) := by decide +kernel
theorem dX6_count_99 : decode cX6_count 99 = .ok (.ireturn, 1) := by decide +kernel
theorem dX6_count_100 : decode cX6_count 100 = .ok (.iconst (-1), 1) := by decide +kernel
theorem dX6_count_101 : decode cX6_count 101 = .ok (.ireturn, 1) := by decide +kernel
theorem dJ6_bitCount_0f7a4_0 : decode cJ6_bitCount_0f7a4 0 = .ok (.iload_n 0, 1) := by decide +kernel
theorem dJ6_bitCount_0f7a4_1 : decode cJ6_bitCount_0f7a4 1 = .ok (.iload_n 0, 1) := by decide +kernel
theorem dJ6_bitCount_0f7a4_2 : decode cJ6_bitCount_0f7a4 2 = .ok (.iconst 1, 1) := by decide +kernel
theorem dJ6_bitCount_0f7a4_3 : decode cJ6_bitCount_0f7a4 3 = .ok (.iushr, 1) := by decide +kernel
theorem dJ6_bitCount_0f7a4_4 : decode cJ6_bitCount_0f7a4 4 = .ok (.ldc_w 265, 3) := by decide +kernel
theorem dJ6_bitCount_0f7a4_7 : decode cJ6_bitCount_0f7a4 7 = .ok (.iand, 1) := by decide +kernel
theorem dJ6_bitCount_0f7a4_8 : decode cJ6_bitCount_0f7a4 8 = .ok (.isub, 1) := by decide +kernel
theorem dJ6_bitCount_0f7a4_9 : decode cJ6_bitCount_0f7a4 9 = .ok (.istore_n 0, 1) := by decide +kernel
theorem dJ6_bitCount_0f7a4_10 : decode cJ6_bitCount_0f7a4 10 = .ok (.iload_n 0, 1) := by decide +kernel
theorem dJ6_bitCount_0f7a4_11 : decode cJ6_bitCount_0f7a4 11 = .ok (.ldc_w 266, 3) := by decide +kernel
theorem dJ6_bitCount_0f7a4_14 : decode cJ6_bitCount_0f7a4 14 = .ok (.iand, 1) := by decide +kernel
theorem dJ6_bitCount_0f7a4_15 : decode cJ6_bitCount_0f7a4 15 = .ok (.iload_n 0, 1) := by decide +kernel
theorem dJ6_bitCount_0f7a4_16 : decode cJ6_bitCount_0f7a4 16 = .ok (.iconst 2, 1) := by decide +kernel
theorem dJ6_bitCount_0f7a4_17 : decode cJ6_bitCount_0f7a4 17 = .ok (.iushr, 1) := by decide +kernel
theorem dJ6_bitCount_0f7a4_18 : decode cJ6_bitCount_0f7a4 18 = .ok (.ldc_w 266, 3) := by decide +kernel
theorem dJ6_bitCount_0f7a4_21 : decode cJ6_bitCount_0f7a4 21 = .ok (.iand, 1) := by decide +kernel
theorem dJ6_bitCount_0f7a4_22 : decode cJ6_bitCount_0f7a4 22 = .ok (.iadd, 1) := by decide +kernel
theorem dJ6_bitCount_0f7a4_23 : decode cJ6_bitCount_0f7a4 23 = .ok (.istore_n 0, 1) := by decide +kernel
theorem dJ6_bitCount_0f7a4_24 : decode cJ6_bitCount_0f7a4 24 = .ok (.iload_n 0, 1) := by decide +kernel
theorem dJ6_bitCount_0f7a4_25 : decode cJ6_bitCount_0f7a4 25 = .ok (.iload_n 0, 1) := by decide +kernel
theorem dJ6_bitCount_0f7a4_26 : decode cJ6_bitCount_0f7a4 26 = .ok (.iconst 4, 1) := by decide +kernel
theorem dJ6_bitCount_0f7a4_27 : decode cJ6_bitCount_0f7a4 27 = .ok (.iushr, 1) := by decide +kernel
theorem dJ6_bitCount_0f7a4_28 : decode cJ6_bitCount_0f7a4 28 = .ok (.iadd, 1) := by decide +kernel
theorem dJ6_bitCount_0f7a4_29 : decode cJ6_bitCount_0f7a4 29 = .ok (.ldc_w 267, 3) := by decide +kernel
theorem dJ6_bitCount_0f7a4_32 : decode cJ6_bitCount_0f7a4 32 = .ok (.iand, 1) := by decide +kernel
theorem dJ6_bitCount_0f7a4_33 : decode cJ6_bitCount_0f7a4 33 = .ok (.istore_n 0, 1) := by decide +kernel
theorem dJ6_bitCount_0f7a4_34 : decode cJ6_bitCount_0f7a4 34 = .ok (.iload_n 0, 1) := by decide +kernel
theorem dJ6_bitCount_0f7a4_35 : decode cJ6_bitCount_0f7a4 35 = .ok (.iload_n 0, 1) := by decide +kernel
theorem dJ6_bitCount_0f7a4_36 : decode cJ6_bitCount_0f7a4 36 = .ok (.bipush 8, 2) := by decide +kernel
theorem dJ6_bitCount_0f7a4_38 : decode cJ6_bitCount_0f7a4 38 = .ok (.iushr, 1) := by decide +kernel
theorem dJ6_bitCount_0f7a4_39 : decode cJ6_bitCount_0f7a4 39 = .ok (.iadd, 1) := by decide +kernel
theorem dJ6_bitCount_0f7a4_40 : decode cJ6_bitCount_0f7a4 40 = .ok (.istore_n 0, 1) := by decide +kernel
theorem dJ6_bitCount_0f7a4_41 : decode cJ6_bitCount_0f7a4 41 = .ok (.iload_n 0, 1) := by decide +kernel
theorem dJ6_bitCount_0f7a4_42 : decode cJ6_bitCount_0f7a4 42 = .ok (.iload_n 0, 1) := by decide +kernel
theorem dJ6_bitCount_0f7a4_43 : decode cJ6_bitCount_0f7a4 43 = .ok (.bipush 16, 2) := by decide +kernel
theorem dJ6_bitCount_0f7a4_45 : decode cJ6_bitCount_0f7a4 45 = .ok (.iushr, 1) := by decide +kernel
theorem dJ6_bitCount_0f7a4_46 : decode cJ6_bitCount_0f7a4 46 = .ok (.iadd, 1) := by decide +kernel
theorem dJ6_bitCount_0f7a4_47 : decode cJ6_bitCount_0f7a4 47 = .ok (.istore_n 0, 1) := by decide +kernel
theorem dJ6_bitCount_0f7a4_48 : decode cJ6_bitCount_0f7a4 48 = .ok (.iload_n 0, 1) := by decide +kernel
theorem dJ6_bitCount_0f7a4_49 : decode cJ6_bitCount_0f7a4 49 = .ok (.bipush 63, 2) := by decide +kernel
theorem dJ6_bitCount_0f7a4_51 : decode cJ6_bitCount_0f7a4 51 = .ok (.iand, 1) := by decide +kernel
theorem dJ6_bitCount_0f7a4_52 : decode cJ6_bitCount_0f7a4 52 = .ok (.ireturn, 1) := by decide +kernel
theorem dJ9_max_7cf53_0 : decode cJ9_max_7cf53 0 = .ok (.iload_n 0, 1) := by decide +kernel
theorem dJ9_max_7cf53_1 : decode cJ9_max_7cf53 1 = .ok (.iload_n 1, 1) := by decide +kernel
theorem dJ9_max_7cf53_2 : decode cJ9_max_7cf53 2 = .ok (.if_icmp .lt 7, 3) := by decide +kernel
theorem dJ9_max_7cf53_5 : decode cJ9_max_7cf53 5 = .ok (.iload_n 0, 1) := by decide +kernel
theorem dJ9_max_7cf53_6 : decode cJ9_max_7cf53 6 = .ok (.goto 4, 3) := by decide +kernel
theorem dJ9_max_7cf53_9 : decode cJ9_max_7cf53 9 = .ok (.iload_n 1, 1) := by decide +kernel
theorem dJ9_max_7cf53_10 : decode cJ9_max_7cf53 10 = .ok (.ireturn, 1) := by decide +kernel
theorem dJ9_min_7cf53_0 : decode cJ9_min_7cf53 0 = .ok (.iload_n 0, 1) := by decide +kernel
theorem dJ9_min_7cf53_1 : decode cJ9_min_7cf53 1 = .ok (.iload_n 1, 1) := by decide +kernel
theorem dJ9_min_7cf53_2 : decode cJ9_min_7cf53 2 = .ok (.if_icmp .gt 7, 3) := by decide +kernel
theorem dJ9_min_7cf53_5 : decode cJ9_min_7cf53 5 = .ok (.iload_n 0, 1) := by decide +kernel
theorem dJ9_min_7cf53_6 : decode cJ9_min_7cf53 6 = .ok (.goto 4, 3) := by decide +kernel
theorem dJ9_min_7cf53_9 : decode cJ9_min_7cf53 9 = .ok (.iload_n 1, 1) := by decide +kernel
theorem dJ9_min_7cf53_10 : decode cJ9_min_7cf53 10 = .ok (.ireturn, 1) := by decide +kernel
set_option maxRecDepth 20000 in
theorem ggJ0_length_8abf5_J0_coder_7d493 : GoodIn wsJ0_length_8abf5 wsJ0_coder_7d493 := goodIn_r _ [6, 7, 8] (by decide +kernel) (by decide +kernel)
set_option maxRecDepth 20000 in
theorem gJ0_length_8abf5_J0_coder_7d493 : GoodIn wsJ0_length_8abf5 (wsV RJ0 335 RJ0 yJ0_coder_7d493 wsJ0_coder_7d493) := goodIn_app (goodIn_of _ (by decide +kernel)) ggJ0_length_8abf5_J0_coder_7d493
theorem dJ0_length_8abf5_0 : decode cJ0_length_8abf5 0 = .ok (.aload_n 0, 1) := by decide +kernel
theorem dJ0_length_8abf5_1 : decode cJ0_length_8abf5 1 = .ok (.getfield 9, 3) := by decide +kernel
theorem dJ0_length_8abf5_4 : decode cJ0_length_8abf5 4 = .ok (.arraylength, 1) := by decide +kernel
theorem dJ0_length_8abf5_5 : decode cJ0_length_8abf5 5 = .ok (.aload_n 0, 1) := by decide +kernel
theorem dJ0_length_8abf5_6 : decode cJ0_length_8abf5 6 = .ok (.invokevirtual 335, 3) := by decide +kernel
theorem dJ0_length_8abf5_9 : decode cJ0_length_8abf5 9 = .ok (.ishr, 1) := by decide +kernel
theorem dJ0_length_8abf5_10 : decode cJ0_length_8abf5 10 = .ok (.ireturn, 1) := by decide +kernel
set_option maxRecDepth 20000 in
theorem ggJ0_charAt_5068e_J0_isLatin1_aae02 : GoodIn wsJ0_charAt_5068e wsJ0_isLatin1_aae02 := goodIn_r _ [6, 7, 8] (by decide +kernel) (by decide +kernel)
set_option maxRecDepth 20000 in
theorem gJ0_charAt_5068e_J0_isLatin1_aae02 : GoodIn wsJ0_charAt_5068e (wsV RJ0 492 RJ0 yJ0_isLatin1_aae02 wsJ0_isLatin1_aae02) := goodIn_app (goodIn_of _ (by decide +kernel)) ggJ0_charAt_5068e_J0_isLatin1_aae02
set_option maxRecDepth 20000 in
theorem ggJ0_charAt_5068e_J1_charAt_3b067 : GoodIn wsJ0_charAt_5068e wsJ1_charAt_3b067 := goodIn_r _ [12, 13, 14, 5, 15, 16, 17, 18, 19, 20] (by decide +kernel) (by decide +kernel)
set_option maxRecDepth 20000 in
theorem gJ0_charAt_5068e_J1_charAt_3b067 : GoodIn wsJ0_charAt_5068e (va_wsS RJ0 495 yJ1_charAt_3b067 wsJ1_charAt_3b067) := goodIn_app (goodIn_of _ (by decide +kernel)) ggJ0_charAt_5068e_J1_charAt_3b067
set_option maxRecDepth 20000 in
theorem ggJ0_charAt_5068e_J2_charAt_3b067 : GoodIn wsJ0_charAt_5068e wsJ2_charAt_3b067 := goodIn_r _ [24, 25, 26, 23, 27, 28, 29, 30, 31, 14, 5, 15, 16, 17, 18, 19, 20, 32, 33, 34, 35, 36, 37] (by decide +kernel) (by decide +kernel)
set_option maxRecDepth 20000 in
theorem gJ0_charAt_5068e_J2_charAt_3b067 : GoodIn wsJ0_charAt_5068e (va_wsS RJ0 498 yJ2_charAt_3b067 wsJ2_charAt_3b067) := goodIn_app (goodIn_of _ (by decide +kernel)) ggJ0_charAt_5068e_J2_charAt_3b067
theorem dJ0_charAt_5068e_0 : decode cJ0_charAt_5068e 0 = .ok (.aload_n 0, 1) := by decide +kernel
theorem dJ0_charAt_5068e_1 : decode cJ0_charAt_5068e 1 = .ok (.invokevirtual 492, 3) := by decide +kernel
theorem dJ0_charAt_5068e_4 : decode cJ0_charAt_5068e 4 = .ok (.ifCond .eq 12, 3) := by decide +kernel
theorem dJ0_charAt_5068e_7 : decode cJ0_charAt_5068e 7 = .ok (.aload_n 0, 1) := by decide +kernel
theorem dJ0_charAt_5068e_8 : decode cJ0_charAt_5068e 8 = .ok (.getfield 9, 3) := by decide +kernel
theorem dJ0_charAt_5068e_11 : decode cJ0_charAt_5068e 11 = .ok (.iload_n 1, 1) := by decide +kernel
theorem dJ0_charAt_5068e_12 : decode cJ0_charAt_5068e 12 = .ok (.invokestatic 495, 3) := by decide +kernel
theorem dJ0_charAt_5068e_15 : decode cJ0_charAt_5068e 15 = .ok (.ireturn, 1) := by decide +kernel
theorem dJ0_charAt_5068e_16 : decode cJ0_charAt_5068e 16 = .ok (.aload_n 0, 1) := by decide +kernel
theorem dJ0_charAt_5068e_17 : decode cJ0_charAt_5068e 17 = .ok (.getfield 9, 3) := by decide +kernel
theorem dJ0_charAt_5068e_20 : decode cJ0_charAt_5068e 20 = .ok (.iload_n 1, 1) := by decide +kernel
theorem dJ0_charAt_5068e_21 : decode cJ0_charAt_5068e 21 = .ok (.invokestatic 498, 3) := by decide +kernel
theorem dJ0_charAt_5068e_24 : decode cJ0_charAt_5068e 24 = .ok (.ireturn, 1) := by decide +kernel
theorem dJ0_coder_7d493_0 : decode cJ0_coder_7d493 0 = .ok (.getstatic 38, 3) := by decide +kernel
theorem dJ0_coder_7d493_3 : decode cJ0_coder_7d493 3 = .ok (.ifCond .eq 10, 3) := by decide +kernel
theorem dJ0_coder_7d493_6 : decode cJ0_coder_7d493 6 = .ok (.aload_n 0, 1) := by decide +kernel
theorem dJ0_coder_7d493_7 : decode cJ0_coder_7d493 7 = .ok (.getfield 15, 3) := by decide +kernel
theorem dJ0_coder_7d493_10 : decode cJ0_coder_7d493 10 = .ok (.goto 4, 3) := by decide +kernel
theorem dJ0_coder_7d493_13 : decode cJ0_coder_7d493 13 = .ok (.iconst 1, 1) := by decide +kernel
theorem dJ0_coder_7d493_14 : decode cJ0_coder_7d493 14 = .ok (.ireturn, 1) := by decide +kernel
theorem dJ0_isLatin1_aae02_0 : decode cJ0_isLatin1_aae02 0 = .ok (.getstatic 38, 3) := by decide +kernel
theorem dJ0_isLatin1_aae02_3 : decode cJ0_isLatin1_aae02 3 = .ok (.ifCond .eq 14, 3) := by decide +kernel
theorem dJ0_isLatin1_aae02_6 : decode cJ0_isLatin1_aae02 6 = .ok (.aload_n 0, 1) := by decide +kernel
theorem dJ0_isLatin1_aae02_7 : decode cJ0_isLatin1_aae02 7 = .ok (.getfield 15, 3) := by decide +kernel
theorem dJ0_isLatin1_aae02_10 : decode cJ0_isLatin1_aae02 10 = .ok (.ifCond .ne 7, 3) := by decide +kernel
theorem dJ0_isLatin1_aae02_13 : decode cJ0_isLatin1_aae02 13 = .ok (.iconst 1, 1) := by decide +kernel
theorem dJ0_isLatin1_aae02_14 : decode cJ0_isLatin1_aae02 14 = .ok (.goto 4, 3) := by decide +kernel
theorem dJ0_isLatin1_aae02_17 : decode cJ0_isLatin1_aae02 17 = .ok (.iconst 0, 1) := by decide +kernel
theorem dJ0_isLatin1_aae02_18 : decode cJ0_isLatin1_aae02 18 = .ok (.ireturn, 1) := by decide +kernel
set_option maxRecDepth 20000 in
theorem ggJ0_checkIndex_df160_J3_checkIndex_8e157 : GoodIn wsJ0_checkIndex_df160 wsJ3_checkIndex_8e157 := goodIn_r _ [5] (by decide +kernel) (by decide +kernel)
set_option maxRecDepth 20000 in
theorem gJ0_checkIndex_df160_J3_checkIndex_8e157 : GoodIn wsJ0_checkIndex_df160 (va_wsS RJ0 1059 yJ3_checkIndex_8e157 wsJ3_checkIndex_8e157) := goodIn_app (goodIn_of _ (by decide +kernel)) ggJ0_checkIndex_df160_J3_checkIndex_8e157
theorem dJ0_checkIndex_df160_0 : decode cJ0_checkIndex_df160 0 = .ok (.iload_n 0, 1) := by decide +kernel
theorem dJ0_checkIndex_df160_1 : decode cJ0_checkIndex_df160 1 = .ok (.iload_n 1, 1) := by decide +kernel
theorem dJ0_checkIndex_df160_2 : decode cJ0_checkIndex_df160 2 = .ok (.getstatic 1053, 3) := by decide +kernel
theorem dJ0_checkIndex_df160_5 : decode cJ0_checkIndex_df160 5 = .ok (.invokestatic 1059, 3) := by decide +kernel
theorem dJ0_checkIndex_df160_8 : decode cJ0_checkIndex_df160 8 = .ok (.pop, 1) := by decide +kernel
theorem dJ0_checkIndex_df160_9 : decode cJ0_checkIndex_df160 9 = .ok (.return_, 1) := by decide +kernel
set_option maxRecDepth 20000 in
theorem ggJ1_charAt_3b067_J0_checkIndex_df160 : GoodIn wsJ1_charAt_3b067 wsJ0_checkIndex_df160 := goodIn_r _ [4, 5, 6, 7, 8, 9] (by decide +kernel) (by decide +kernel)
set_option maxRecDepth 20000 in
theorem gJ1_charAt_3b067_J0_checkIndex_df160 : GoodIn wsJ1_charAt_3b067 (va_wsS RJ1 9 yJ0_checkIndex_df160 wsJ0_checkIndex_df160) := goodIn_app (goodIn_of _ (by decide +kernel)) ggJ1_charAt_3b067_J0_checkIndex_df160
theorem dJ1_charAt_3b067_0 : decode cJ1_charAt_3b067 0 = .ok (.iload_n 1, 1) := by decide +kernel
theorem dJ1_charAt_3b067_1 : decode cJ1_charAt_3b067 1 = .ok (.aload_n 0, 1) := by decide +kernel
theorem dJ1_charAt_3b067_2 : decode cJ1_charAt_3b067 2 = .ok (.arraylength, 1) := by decide +kernel
theorem dJ1_charAt_3b067_3 : decode cJ1_charAt_3b067 3 = .ok (.invokestatic 9, 3) := by decide +kernel
theorem dJ1_charAt_3b067_6 : decode cJ1_charAt_3b067 6 = .ok (.aload_n 0, 1) := by decide +kernel
theorem dJ1_charAt_3b067_7 : decode cJ1_charAt_3b067 7 = .ok (.iload_n 1, 1) := by decide +kernel
theorem dJ1_charAt_3b067_8 : decode cJ1_charAt_3b067 8 = .ok (.baload, 1) := by decide +kernel
theorem dJ1_charAt_3b067_9 : decode cJ1_charAt_3b067 9 = .ok (.sipush 255, 3) := by decide +kernel
theorem dJ1_charAt_3b067_12 : decode cJ1_charAt_3b067 12 = .ok (.iand, 1) := by decide +kernel
theorem dJ1_charAt_3b067_13 : decode cJ1_charAt_3b067 13 = .ok (.i2c, 1) := by decide +kernel
theorem dJ1_charAt_3b067_14 : decode cJ1_charAt_3b067 14 = .ok (.ireturn, 1) := by decide +kernel
set_option maxRecDepth 20000 in
theorem ggJ2_getChar_3b067_J2_length_9d52b : GoodIn wsJ2_getChar_3b067 wsJ2_length_9d52b := goodIn_r _ [7] (by decide +kernel) (by decide +kernel)
set_option maxRecDepth 20000 in
theorem gJ2_getChar_3b067_J2_length_9d52b : GoodIn wsJ2_getChar_3b067 (va_wsS RJ2 48 yJ2_length_9d52b wsJ2_length_9d52b) := goodIn_app (goodIn_of _ (by decide +kernel)) ggJ2_getChar_3b067_J2_length_9d52b
theorem dJ2_getChar_3b067_0 : decode cJ2_getChar_3b067 0 = .ok (.getstatic 44, 3) := by decide +kernel
theorem dJ2_getChar_3b067_3 : decode cJ2_getChar_3b067 3 = .ok (.ifCond .ne 25, 3) := by decide +kernel
theorem dJ2_getChar_3b067_6 : decode cJ2_getChar_3b067 6 = .ok (.iload_n 1, 1) := by decide +kernel
theorem dJ2_getChar_3b067_7 : decode cJ2_getChar_3b067 7 = .ok (.ifCond .lt 11, 3) := by decide +kernel
theorem dJ2_getChar_3b067_10 : decode cJ2_getChar_3b067 10 = .ok (.iload_n 1, 1) := by decide +kernel
theorem dJ2_getChar_3b067_11 : decode cJ2_getChar_3b067 11 = .ok (.aload_n 0, 1) := by decide +kernel
theorem dJ2_getChar_3b067_12 : decode cJ2_getChar_3b067 12 = .ok (.invokestatic 48, 3) := by decide +kernel
theorem dJ2_getChar_3b067_15 : decode cJ2_getChar_3b067 15 = .ok (.if_icmp .lt 13, 3) := by decide +kernel
theorem dJ2_getChar_3b067_18 : decode cJ2_getChar_3b067 18 = .ok (.new 52, 3) := by decide +kernel
theorem dJ2_getChar_3b067_21 : decode cJ2_getChar_3b067 21 = .ok (.dup, 1) := by decide +kernel
theorem dJ2_getChar_3b067_22 : decode cJ2_getChar_3b067 22 = .ok (.ldc 54, 2) := by decide +kernel
theorem dJ2_getChar_3b067_24 : decode cJ2_getChar_3b067 24 = .ok (.invokespecial 56, 3) := by decide +kernel
theorem dJ2_getChar_3b067_27 : decode cJ2_getChar_3b067 27 = .ok (.athrow, 1) := by decide +kernel
theorem dJ2_getChar_3b067_28 : decode cJ2_getChar_3b067 28 = .ok (.iload_n 1, 1) := by decide +kernel
theorem dJ2_getChar_3b067_29 : decode cJ2_getChar_3b067 29 = .ok (.iconst 1, 1) := by decide +kernel
theorem dJ2_getChar_3b067_30 : decode cJ2_getChar_3b067 30 = .ok (.ishl, 1) := by decide +kernel
theorem dJ2_getChar_3b067_31 : decode cJ2_getChar_3b067 31 = .ok (.istore_n 1, 1) := by decide +kernel
theorem dJ2_getChar_3b067_32 : decode cJ2_getChar_3b067 32 = .ok (.aload_n 0, 1) := by decide +kernel
theorem dJ2_getChar_3b067_33 : decode cJ2_getChar_3b067 33 = .ok (.iload_n 1, 1) := by decide +kernel
theorem dJ2_getChar_3b067_34 : decode cJ2_getChar_3b067 34 = .ok (.iinc 1 1, 3) := by decide +kernel
theorem dJ2_getChar_3b067_37 : decode cJ2_getChar_3b067 37 = .ok (.baload, 1) := by decide +kernel
theorem dJ2_getChar_3b067_38 : decode cJ2_getChar_3b067 38 = .ok (.sipush 255, 3) := by decide +kernel
theorem dJ2_getChar_3b067_41 : decode cJ2_getChar_3b067 41 = .ok (.iand, 1) := by decide +kernel
theorem dJ2_getChar_3b067_42 : decode cJ2_getChar_3b067 42 = .ok (.getstatic 59, 3) := by decide +kernel
theorem dJ2_getChar_3b067_45 : decode cJ2_getChar_3b067 45 = .ok (.ishl, 1) := by decide +kernel
theorem dJ2_getChar_3b067_46 : decode cJ2_getChar_3b067 46 = .ok (.aload_n 0, 1) := by decide +kernel
theorem dJ2_getChar_3b067_47 : decode cJ2_getChar_3b067 47 = .ok (.iload_n 1, 1) := by decide +kernel
theorem dJ2_getChar_3b067_48 : decode cJ2_getChar_3b067 48 = .ok (.baload, 1) := by decide +kernel
theorem dJ2_getChar_3b067_49 : decode cJ2_getChar_3b067 49 = .ok (.sipush 255, 3) := by decide +kernel
theorem dJ2_getChar_3b067_52 : decode cJ2_getChar_3b067 52 = .ok (.iand, 1) := by decide +kernel
theorem dJ2_getChar_3b067_53 : decode cJ2_getChar_3b067 53 = .ok (.getstatic 63, 3) := by decide +kernel
theorem dJ2_getChar_3b067_56 : decode cJ2_getChar_3b067 56 = .ok (.ishl, 1) := by decide +kernel
theorem dJ2_getChar_3b067_57 : decode cJ2_getChar_3b067 57 = .ok (.ior, 1) := by decide +kernel
theorem dJ2_getChar_3b067_58 : decode cJ2_getChar_3b067 58 = .ok (.i2c, 1) := by decide +kernel
theorem dJ2_getChar_3b067_59 : decode cJ2_getChar_3b067 59 = .ok (.ireturn, 1) := by decide +kernel
theorem dJ2_length_9d52b_0 : decode cJ2_length_9d52b 0 = .ok (.aload_n 0, 1) := by decide +kernel
theorem dJ2_length_9d52b_1 : decode cJ2_length_9d52b 1 = .ok (.arraylength, 1) := by decide +kernel
theorem dJ2_length_9d52b_2 : decode cJ2_length_9d52b 2 = .ok (.iconst 1, 1) := by decide +kernel
theorem dJ2_length_9d52b_3 : decode cJ2_length_9d52b 3 = .ok (.ishr, 1) := by decide +kernel
theorem dJ2_length_9d52b_4 : decode cJ2_length_9d52b 4 = .ok (.ireturn, 1) := by decide +kernel
set_option maxRecDepth 20000 in
theorem ggJ2_charAt_3b067_J2_checkIndex_2214a : GoodIn wsJ2_charAt_3b067 wsJ2_checkIndex_2214a := goodIn_r _ [4, 5, 6, 3, 7, 8, 9, 10, 11, 12, 13, 14, 15, 16] (by decide +kernel) (by decide +kernel)
set_option maxRecDepth 20000 in
theorem gJ2_charAt_3b067_J2_checkIndex_2214a : GoodIn wsJ2_charAt_3b067 (va_wsS RJ2 67 yJ2_checkIndex_2214a wsJ2_checkIndex_2214a) := goodIn_app (goodIn_of _ (by decide +kernel)) ggJ2_charAt_3b067_J2_checkIndex_2214a
set_option maxRecDepth 20000 in
theorem ggJ2_charAt_3b067_J2_getChar_3b067 : GoodIn wsJ2_charAt_3b067 wsJ2_getChar_3b067 := goodIn_r _ [19, 20, 21, 22, 5, 6, 3, 7] (by decide +kernel) (by decide +kernel)
set_option maxRecDepth 20000 in
theorem gJ2_charAt_3b067_J2_getChar_3b067 : GoodIn wsJ2_charAt_3b067 (va_wsS RJ2 71 yJ2_getChar_3b067 wsJ2_getChar_3b067) := goodIn_app (goodIn_of _ (by decide +kernel)) ggJ2_charAt_3b067_J2_getChar_3b067
theorem dJ2_charAt_3b067_0 : decode cJ2_charAt_3b067 0 = .ok (.iload_n 1, 1) := by decide +kernel
theorem dJ2_charAt_3b067_1 : decode cJ2_charAt_3b067 1 = .ok (.aload_n 0, 1) := by decide +kernel
theorem dJ2_charAt_3b067_2 : decode cJ2_charAt_3b067 2 = .ok (.invokestatic 67, 3) := by decide +kernel
theorem dJ2_charAt_3b067_5 : decode cJ2_charAt_3b067 5 = .ok (.aload_n 0, 1) := by decide +kernel
theorem dJ2_charAt_3b067_6 : decode cJ2_charAt_3b067 6 = .ok (.iload_n 1, 1) := by decide +kernel
theorem dJ2_charAt_3b067_7 : decode cJ2_charAt_3b067 7 = .ok (.invokestatic 71, 3) := by decide +kernel
theorem dJ2_charAt_3b067_10 : decode cJ2_charAt_3b067 10 = .ok (.ireturn, 1) := by decide +kernel
set_option maxRecDepth 20000 in
theorem ggJ2_checkIndex_2214a_J2_length_9d52b : GoodIn wsJ2_checkIndex_2214a wsJ2_length_9d52b := goodIn_r _ [4] (by decide +kernel) (by decide +kernel)
set_option maxRecDepth 20000 in
theorem gJ2_checkIndex_2214a_J2_length_9d52b : GoodIn wsJ2_checkIndex_2214a (va_wsS RJ2 48 yJ2_length_9d52b wsJ2_length_9d52b) := goodIn_app (goodIn_of _ (by decide +kernel)) ggJ2_checkIndex_2214a_J2_length_9d52b
set_option maxRecDepth 20000 in
theorem ggJ2_checkIndex_2214a_J0_checkIndex_df160 : GoodIn wsJ2_checkIndex_2214a wsJ0_checkIndex_df160 := goodIn_r _ [8, 9, 10, 11, 12, 13] (by decide +kernel) (by decide +kernel)
set_option maxRecDepth 20000 in
theorem gJ2_checkIndex_2214a_J0_checkIndex_df160 : GoodIn wsJ2_checkIndex_2214a (va_wsS RJ2 414 yJ0_checkIndex_df160 wsJ0_checkIndex_df160) := goodIn_app (goodIn_of _ (by decide +kernel)) ggJ2_checkIndex_2214a_J0_checkIndex_df160
theorem dJ2_checkIndex_2214a_0 : decode cJ2_checkIndex_2214a 0 = .ok (.iload_n 0, 1) := by decide +kernel
theorem dJ2_checkIndex_2214a_1 : decode cJ2_checkIndex_2214a 1 = .ok (.aload_n 1, 1) := by decide +kernel
theorem dJ2_checkIndex_2214a_2 : decode cJ2_checkIndex_2214a 2 = .ok (.invokestatic 48, 3) := by decide +kernel
theorem dJ2_checkIndex_2214a_5 : decode cJ2_checkIndex_2214a 5 = .ok (.invokestatic 414, 3) := by decide +kernel
theorem dJ2_checkIndex_2214a_8 : decode cJ2_checkIndex_2214a 8 = .ok (.return_, 1) := by decide +kernel
theorem dJ7_fill_53178_0 : decode cJ7_fill_53178 0 = .ok (.iconst 0, 1) := by decide +kernel
theorem dJ7_fill_53178_1 : decode cJ7_fill_53178 1 = .ok (.istore_n 2, 1) := by decide +kernel
theorem dJ7_fill_53178_2 : decode cJ7_fill_53178 2 = .ok (.aload_n 0, 1) := by decide +kernel
theorem dJ7_fill_53178_3 : decode cJ7_fill_53178 3 = .ok (.arraylength, 1) := by decide +kernel
theorem dJ7_fill_53178_4 : decode cJ7_fill_53178 4 = .ok (.istore_n 3, 1) := by decide +kernel
theorem dJ7_fill_53178_5 : decode cJ7_fill_53178 5 = .ok (.iload_n 2, 1) := by decide +kernel
theorem dJ7_fill_53178_6 : decode cJ7_fill_53178 6 = .ok (.iload_n 3, 1) := by decide +kernel
theorem dJ7_fill_53178_7 : decode cJ7_fill_53178 7 = .ok (.if_icmp .ge 13, 3) := by decide +kernel
theorem dJ7_fill_53178_10 : decode cJ7_fill_53178 10 = .ok (.aload_n 0, 1) := by decide +kernel
theorem dJ7_fill_53178_11 : decode cJ7_fill_53178 11 = .ok (.iload_n 2, 1) := by decide +kernel
theorem dJ7_fill_53178_12 : decode cJ7_fill_53178 12 = .ok (.iload_n 1, 1) := by decide +kernel
theorem dJ7_fill_53178_13 : decode cJ7_fill_53178 13 = .ok (.iastore, 1) := by decide +kernel
theorem dJ7_fill_53178_14 : decode cJ7_fill_53178 14 = .ok (.iinc 2 1, 3) := by decide +kernel
theorem dJ7_fill_53178_17 : decode cJ7_fill_53178 17 = .ok (.goto (-12), 3) := by decide +kernel
theorem dJ7_fill_53178_20 : decode cJ7_fill_53178 20 = .ok (.return_, 1) := by decide +kernel
theorem dJ3_checkIndex_8e157_0 : decode cJ3_checkIndex_8e157 0 = .ok (.iload_n 0, 1) := by decide +kernel
theorem dJ3_checkIndex_8e157_1 : decode cJ3_checkIndex_8e157 1 = .ok (.ifCond .lt 8, 3) := by decide +kernel
theorem dJ3_checkIndex_8e157_4 : decode cJ3_checkIndex_8e157 4 = .ok (.iload_n 0, 1) := by decide +kernel
theorem dJ3_checkIndex_8e157_5 : decode cJ3_checkIndex_8e157 5 = .ok (.iload_n 1, 1) := by decide +kernel
theorem dJ3_checkIndex_8e157_6 : decode cJ3_checkIndex_8e157 6 = .ok (.if_icmp .lt 10, 3) := by decide +kernel
theorem dJ3_checkIndex_8e157_9 : decode cJ3_checkIndex_8e157 9 = .ok (.aload_n 2, 1) := by decide +kernel
theorem dJ3_checkIndex_8e157_10 : decode cJ3_checkIndex_8e157 10 = .ok (.iload_n 0, 1) := by decide +kernel
theorem dJ3_checkIndex_8e157_11 : decode cJ3_checkIndex_8e157 11 = .ok (.iload_n 1, 1) := by decide +kernel
theorem dJ3_checkIndex_8e157_12 : decode cJ3_checkIndex_8e157 12 = .ok (.invokestatic 95, 3) := by decide +kernel
theorem dJ3_checkIndex_8e157_15 : decode cJ3_checkIndex_8e157 15 = .ok (.athrow, 1) := by decide +kernel
theorem dJ3_checkIndex_8e157_16 : decode cJ3_checkIndex_8e157 16 = .ok (.iload_n 0, 1) := by decide +kernel
theorem dJ3_checkIndex_8e157_17 : decode cJ3_checkIndex_8e157 17 = .ok (.ireturn, 1) := by decide +kernel
theorem dL_law_0 : decode cL_law 0 = .ok (.new 7, 3) := by decide +kernel
theorem dL_law_3 : decode cL_law 3 = .ok (.dup, 1) := by decide +kernel
theorem dL_law_4 : decode cL_law 4 = .ok (.invokespecial 9, 3) := by decide +kernel
theorem dL_law_7 : decode cL_law 7 = .ok (.astore_n 1, 1) := by decide +kernel
theorem dL_law_8 : decode cL_law 8 = .ok (.new 10, 3) := by decide +kernel
theorem dL_law_11 : decode cL_law 11 = .ok (.dup, 1) := by decide +kernel
theorem dL_law_12 : decode cL_law 12 = .ok (.invokespecial 12, 3) := by decide +kernel
theorem dL_law_15 : decode cL_law 15 = .ok (.astore_n 2, 1) := by decide +kernel
theorem dL_law_16 : decode cL_law 16 = .ok (.iconst 0, 1) := by decide +kernel
theorem dL_law_17 : decode cL_law 17 = .ok (.istore_n 3, 1) := by decide +kernel
theorem dL_law_18 : decode cL_law 18 = .ok (.iload_n 3, 1) := by decide +kernel
theorem dL_law_19 : decode cL_law 19 = .ok (.aload_n 0, 1) := by decide +kernel
theorem dL_law_20 : decode cL_law 20 = .ok (.arraylength, 1) := by decide +kernel
theorem dL_law_21 : decode cL_law 21 = .ok (.iconst 4, 1) := by decide +kernel
theorem dL_law_22 : decode cL_law 22 = .ok (.isub, 1) := by decide +kernel
theorem dL_law_23 : decode cL_law 23 = .ok (.if_icmp .gt 942, 3) := by decide +kernel
theorem dL_law_26 : decode cL_law 26 = .ok (.aload_n 0, 1) := by decide +kernel
theorem dL_law_27 : decode cL_law 27 = .ok (.iload_n 3, 1) := by decide +kernel
theorem dL_law_28 : decode cL_law 28 = .ok (.iaload, 1) := by decide +kernel
theorem dL_law_29 : decode cL_law 29 = .ok (.bipush 63, 2) := by decide +kernel
theorem dL_law_31 : decode cL_law 31 = .ok (.iand, 1) := by decide +kernel
theorem dL_law_32 : decode cL_law 32 = .ok (.tableswitch 927 0 32 #[148, 171, 184, 197, 210, 243, 276, 309, 342, 375, 408, 441, 464, 487, 500, 523, 556, 579, 602, 615, 648, 661, 674, 707, 740, 763, 776, 799, 812, 835, 878, 891, 904], 148) := by decide +kernel
theorem dL_law_180 : decode cL_law 180 = .ok (.aload_n 1, 1) := by decide +kernel
theorem dL_law_181 : decode cL_law 181 = .ok (.aload_n 0, 1) := by decide +kernel
theorem dL_law_182 : decode cL_law 182 = .ok (.iload_n 3, 1) := by decide +kernel
theorem dL_law_183 : decode cL_law 183 = .ok (.iconst 1, 1) := by decide +kernel
theorem dL_law_184 : decode cL_law 184 = .ok (.iadd, 1) := by decide +kernel
theorem dL_law_185 : decode cL_law 185 = .ok (.iaload, 1) := by decide +kernel
theorem dL_law_186 : decode cL_law 186 = .ok (.invokevirtual 13, 3) := by decide +kernel
theorem dL_law_189 : decode cL_law 189 = .ok (.aload_n 2, 1) := by decide +kernel
theorem dL_law_190 : decode cL_law 190 = .ok (.aload_n 0, 1) := by decide +kernel
theorem dL_law_191 : decode cL_law 191 = .ok (.iload_n 3, 1) := by decide +kernel
theorem dL_law_192 : decode cL_law 192 = .ok (.iconst 1, 1) := by decide +kernel
theorem dL_law_193 : decode cL_law 193 = .ok (.iadd, 1) := by decide +kernel
theorem dL_law_194 : decode cL_law 194 = .ok (.iaload, 1) := by decide +kernel
theorem dL_law_195 : decode cL_law 195 = .ok (.invokevirtual 17, 3) := by decide +kernel
theorem dL_law_198 : decode cL_law 198 = .ok (.if_icmp .eq 761, 3) := by decide +kernel
theorem dL_law_201 : decode cL_law 201 = .ok (.iconst 0, 1) := by decide +kernel
theorem dL_law_202 : decode cL_law 202 = .ok (.ireturn, 1) := by decide +kernel
theorem dL_law_203 : decode cL_law 203 = .ok (.aload_n 1, 1) := by decide +kernel
theorem dL_law_204 : decode cL_law 204 = .ok (.invokevirtual 18, 3) := by decide +kernel
theorem dL_law_207 : decode cL_law 207 = .ok (.aload_n 2, 1) := by decide +kernel
theorem dL_law_208 : decode cL_law 208 = .ok (.invokevirtual 22, 3) := by decide +kernel
theorem dL_law_211 : decode cL_law 211 = .ok (.if_icmp .eq 748, 3) := by decide +kernel
theorem dL_law_214 : decode cL_law 214 = .ok (.iconst 0, 1) := by decide +kernel
theorem dL_law_215 : decode cL_law 215 = .ok (.ireturn, 1) := by decide +kernel
theorem dL_law_216 : decode cL_law 216 = .ok (.aload_n 1, 1) := by decide +kernel
theorem dL_law_217 : decode cL_law 217 = .ok (.invokevirtual 23, 3) := by decide +kernel
theorem dL_law_220 : decode cL_law 220 = .ok (.aload_n 2, 1) := by decide +kernel
theorem dL_law_221 : decode cL_law 221 = .ok (.invokevirtual 26, 3) := by decide +kernel
theorem dL_law_224 : decode cL_law 224 = .ok (.if_icmp .eq 735, 3) := by decide +kernel
theorem dL_law_227 : decode cL_law 227 = .ok (.iconst 0, 1) := by decide +kernel
theorem dL_law_228 : decode cL_law 228 = .ok (.ireturn, 1) := by decide +kernel
theorem dL_law_229 : decode cL_law 229 = .ok (.aload_n 1, 1) := by decide +kernel
theorem dL_law_230 : decode cL_law 230 = .ok (.invokevirtual 27, 3) := by decide +kernel
theorem dL_law_233 : decode cL_law 233 = .ok (.aload_n 2, 1) := by decide +kernel
theorem dL_law_234 : decode cL_law 234 = .ok (.invokevirtual 30, 3) := by decide +kernel
theorem dL_law_237 : decode cL_law 237 = .ok (.if_icmp .eq 722, 3) := by decide +kernel
theorem dL_law_240 : decode cL_law 240 = .ok (.iconst 0, 1) := by decide +kernel
theorem dL_law_241 : decode cL_law 241 = .ok (.ireturn, 1) := by decide +kernel
theorem dL_law_242 : decode cL_law 242 = .ok (.aload_n 1, 1) := by decide +kernel
theorem dL_law_243 : decode cL_law 243 = .ok (.aload_n 0, 1) := by decide +kernel
theorem dL_law_244 : decode cL_law 244 = .ok (.iload_n 3, 1) := by decide +kernel
theorem dL_law_245 : decode cL_law 245 = .ok (.iconst 1, 1) := by decide +kernel
theorem dL_law_246 : decode cL_law 246 = .ok (.iadd, 1) := by decide +kernel
theorem dL_law_247 : decode cL_law 247 = .ok (.iaload, 1) := by decide +kernel
theorem dL_law_248 : decode cL_law 248 = .ok (.aload_n 0, 1) := by decide +kernel
theorem dL_law_249 : decode cL_law 249 = .ok (.iload_n 3, 1) := by decide +kernel
theorem dL_law_250 : decode cL_law 250 = .ok (.iconst 2, 1) := by decide +kernel
theorem dL_law_251 : decode cL_law 251 = .ok (.iadd, 1) := by decide +kernel
theorem dL_law_252 : decode cL_law 252 = .ok (.iaload, 1) := by decide +kernel
theorem dL_law_253 : decode cL_law 253 = .ok (.invokevirtual 31, 3) := by decide +kernel
theorem dL_law_256 : decode cL_law 256 = .ok (.aload_n 2, 1) := by decide +kernel
theorem dL_law_257 : decode cL_law 257 = .ok (.aload_n 0, 1) := by decide +kernel
theorem dL_law_258 : decode cL_law 258 = .ok (.iload_n 3, 1) := by decide +kernel
theorem dL_law_259 : decode cL_law 259 = .ok (.iconst 1, 1) := by decide +kernel
theorem dL_law_260 : decode cL_law 260 = .ok (.iadd, 1) := by decide +kernel
theorem dL_law_261 : decode cL_law 261 = .ok (.iaload, 1) := by decide +kernel
theorem dL_law_262 : decode cL_law 262 = .ok (.aload_n 0, 1) := by decide +kernel
theorem dL_law_263 : decode cL_law 263 = .ok (.iload_n 3, 1) := by decide +kernel
theorem dL_law_264 : decode cL_law 264 = .ok (.iconst 2, 1) := by decide +kernel
theorem dL_law_265 : decode cL_law 265 = .ok (.iadd, 1) := by decide +kernel
theorem dL_law_266 : decode cL_law 266 = .ok (.iaload, 1) := by decide +kernel
theorem dL_law_267 : decode cL_law 267 = .ok (.invokevirtual 35, 3) := by decide +kernel
theorem dL_law_270 : decode cL_law 270 = .ok (.if_icmp .eq 689, 3) := by decide +kernel
theorem dL_law_273 : decode cL_law 273 = .ok (.iconst 0, 1) := by decide +kernel
theorem dL_law_274 : decode cL_law 274 = .ok (.ireturn, 1) := by decide +kernel
theorem dL_law_275 : decode cL_law 275 = .ok (.aload_n 1, 1) := by decide +kernel
theorem dL_law_276 : decode cL_law 276 = .ok (.aload_n 0, 1) := by decide +kernel
theorem dL_law_277 : decode cL_law 277 = .ok (.iload_n 3, 1) := by decide +kernel
theorem dL_law_278 : decode cL_law 278 = .ok (.iconst 1, 1) := by decide +kernel
theorem dL_law_279 : decode cL_law 279 = .ok (.iadd, 1) := by decide +kernel
theorem dL_law_280 : decode cL_law 280 = .ok (.iaload, 1) := by decide +kernel
theorem dL_law_281 : decode cL_law 281 = .ok (.aload_n 0, 1) := by decide +kernel
theorem dL_law_282 : decode cL_law 282 = .ok (.iload_n 3, 1) := by decide +kernel
theorem dL_law_283 : decode cL_law 283 = .ok (.iconst 2, 1) := by decide +kernel
theorem dL_law_284 : decode cL_law 284 = .ok (.iadd, 1) := by decide +kernel
theorem dL_law_285 : decode cL_law 285 = .ok (.iaload, 1) := by decide +kernel
theorem dL_law_286 : decode cL_law 286 = .ok (.invokevirtual 36, 3) := by decide +kernel
theorem dL_law_289 : decode cL_law 289 = .ok (.aload_n 2, 1) := by decide +kernel
theorem dL_law_290 : decode cL_law 290 = .ok (.aload_n 0, 1) := by decide +kernel
theorem dL_law_291 : decode cL_law 291 = .ok (.iload_n 3, 1) := by decide +kernel
theorem dL_law_292 : decode cL_law 292 = .ok (.iconst 1, 1) := by decide +kernel
theorem dL_law_293 : decode cL_law 293 = .ok (.iadd, 1) := by decide +kernel
theorem dL_law_294 : decode cL_law 294 = .ok (.iaload, 1) := by decide +kernel
theorem dL_law_295 : decode cL_law 295 = .ok (.aload_n 0, 1) := by decide +kernel
theorem dL_law_296 : decode cL_law 296 = .ok (.iload_n 3, 1) := by decide +kernel
theorem dL_law_297 : decode cL_law 297 = .ok (.iconst 2, 1) := by decide +kernel
theorem dL_law_298 : decode cL_law 298 = .ok (.iadd, 1) := by decide +kernel
theorem dL_law_299 : decode cL_law 299 = .ok (.iaload, 1) := by decide +kernel
theorem dL_law_300 : decode cL_law 300 = .ok (.invokevirtual 39, 3) := by decide +kernel
theorem dL_law_303 : decode cL_law 303 = .ok (.if_icmp .eq 656, 3) := by decide +kernel
theorem dL_law_306 : decode cL_law 306 = .ok (.iconst 0, 1) := by decide +kernel
theorem dL_law_307 : decode cL_law 307 = .ok (.ireturn, 1) := by decide +kernel
theorem dL_law_308 : decode cL_law 308 = .ok (.aload_n 1, 1) := by decide +kernel
theorem dL_law_309 : decode cL_law 309 = .ok (.aload_n 0, 1) := by decide +kernel
theorem dL_law_310 : decode cL_law 310 = .ok (.iload_n 3, 1) := by decide +kernel
theorem dL_law_311 : decode cL_law 311 = .ok (.iconst 1, 1) := by decide +kernel
theorem dL_law_312 : decode cL_law 312 = .ok (.iadd, 1) := by decide +kernel
theorem dL_law_313 : decode cL_law 313 = .ok (.iaload, 1) := by decide +kernel
theorem dL_law_314 : decode cL_law 314 = .ok (.aload_n 0, 1) := by decide +kernel
theorem dL_law_315 : decode cL_law 315 = .ok (.iload_n 3, 1) := by decide +kernel
theorem dL_law_316 : decode cL_law 316 = .ok (.iconst 2, 1) := by decide +kernel
theorem dL_law_317 : decode cL_law 317 = .ok (.iadd, 1) := by decide +kernel
theorem dL_law_318 : decode cL_law 318 = .ok (.iaload, 1) := by decide +kernel
theorem dL_law_319 : decode cL_law 319 = .ok (.invokevirtual 40, 3) := by decide +kernel
theorem dL_law_322 : decode cL_law 322 = .ok (.aload_n 2, 1) := by decide +kernel
theorem dL_law_323 : decode cL_law 323 = .ok (.aload_n 0, 1) := by decide +kernel
theorem dL_law_324 : decode cL_law 324 = .ok (.iload_n 3, 1) := by decide +kernel
theorem dL_law_325 : decode cL_law 325 = .ok (.iconst 1, 1) := by decide +kernel
theorem dL_law_326 : decode cL_law 326 = .ok (.iadd, 1) := by decide +kernel
theorem dL_law_327 : decode cL_law 327 = .ok (.iaload, 1) := by decide +kernel
theorem dL_law_328 : decode cL_law 328 = .ok (.aload_n 0, 1) := by decide +kernel
theorem dL_law_329 : decode cL_law 329 = .ok (.iload_n 3, 1) := by decide +kernel
theorem dL_law_330 : decode cL_law 330 = .ok (.iconst 2, 1) := by decide +kernel
theorem dL_law_331 : decode cL_law 331 = .ok (.iadd, 1) := by decide +kernel
theorem dL_law_332 : decode cL_law 332 = .ok (.iaload, 1) := by decide +kernel
theorem dL_law_333 : decode cL_law 333 = .ok (.invokevirtual 43, 3) := by decide +kernel
theorem dL_law_336 : decode cL_law 336 = .ok (.if_icmp .eq 623, 3) := by decide +kernel
theorem dL_law_339 : decode cL_law 339 = .ok (.iconst 0, 1) := by decide +kernel
theorem dL_law_340 : decode cL_law 340 = .ok (.ireturn, 1) := by decide +kernel
theorem dL_law_341 : decode cL_law 341 = .ok (.aload_n 1, 1) := by decide +kernel
theorem dL_law_342 : decode cL_law 342 = .ok (.aload_n 0, 1) := by decide +kernel
theorem dL_law_343 : decode cL_law 343 = .ok (.iload_n 3, 1) := by decide +kernel
theorem dL_law_344 : decode cL_law 344 = .ok (.iconst 1, 1) := by decide +kernel
theorem dL_law_345 : decode cL_law 345 = .ok (.iadd, 1) := by decide +kernel
theorem dL_law_346 : decode cL_law 346 = .ok (.iaload, 1) := by decide +kernel
theorem dL_law_347 : decode cL_law 347 = .ok (.aload_n 0, 1) := by decide +kernel
theorem dL_law_348 : decode cL_law 348 = .ok (.iload_n 3, 1) := by decide +kernel
theorem dL_law_349 : decode cL_law 349 = .ok (.iconst 2, 1) := by decide +kernel
theorem dL_law_350 : decode cL_law 350 = .ok (.iadd, 1) := by decide +kernel
theorem dL_law_351 : decode cL_law 351 = .ok (.iaload, 1) := by decide +kernel
theorem dL_law_352 : decode cL_law 352 = .ok (.invokevirtual 44, 3) := by decide +kernel
theorem dL_law_355 : decode cL_law 355 = .ok (.aload_n 2, 1) := by decide +kernel
theorem dL_law_356 : decode cL_law 356 = .ok (.aload_n 0, 1) := by decide +kernel
theorem dL_law_357 : decode cL_law 357 = .ok (.iload_n 3, 1) := by decide +kernel
theorem dL_law_358 : decode cL_law 358 = .ok (.iconst 1, 1) := by decide +kernel
theorem dL_law_359 : decode cL_law 359 = .ok (.iadd, 1) := by decide +kernel
theorem dL_law_360 : decode cL_law 360 = .ok (.iaload, 1) := by decide +kernel
theorem dL_law_361 : decode cL_law 361 = .ok (.aload_n 0, 1) := by decide +kernel
theorem dL_law_362 : decode cL_law 362 = .ok (.iload_n 3, 1) := by decide +kernel
theorem dL_law_363 : decode cL_law 363 = .ok (.iconst 2, 1) := by decide +kernel
theorem dL_law_364 : decode cL_law 364 = .ok (.iadd, 1) := by decide +kernel
theorem dL_law_365 : decode cL_law 365 = .ok (.iaload, 1) := by decide +kernel
theorem dL_law_366 : decode cL_law 366 = .ok (.invokevirtual 47, 3) := by decide +kernel
theorem dL_law_369 : decode cL_law 369 = .ok (.if_icmp .eq 590, 3) := by decide +kernel
theorem dL_law_372 : decode cL_law 372 = .ok (.iconst 0, 1) := by decide +kernel
theorem dL_law_373 : decode cL_law 373 = .ok (.ireturn, 1) := by decide +kernel
theorem dL_law_374 : decode cL_law 374 = .ok (.aload_n 1, 1) := by decide +kernel
theorem dL_law_375 : decode cL_law 375 = .ok (.aload_n 0, 1) := by decide +kernel
theorem dL_law_376 : decode cL_law 376 = .ok (.iload_n 3, 1) := by decide +kernel
theorem dL_law_377 : decode cL_law 377 = .ok (.iconst 1, 1) := by decide +kernel
theorem dL_law_378 : decode cL_law 378 = .ok (.iadd, 1) := by decide +kernel
theorem dL_law_379 : decode cL_law 379 = .ok (.iaload, 1) := by decide +kernel
theorem dL_law_380 : decode cL_law 380 = .ok (.aload_n 0, 1) := by decide +kernel
theorem dL_law_381 : decode cL_law 381 = .ok (.iload_n 3, 1) := by decide +kernel
theorem dL_law_382 : decode cL_law 382 = .ok (.iconst 2, 1) := by decide +kernel
theorem dL_law_383 : decode cL_law 383 = .ok (.iadd, 1) := by decide +kernel
theorem dL_law_384 : decode cL_law 384 = .ok (.iaload, 1) := by decide +kernel
theorem dL_law_385 : decode cL_law 385 = .ok (.invokevirtual 48, 3) := by decide +kernel
theorem dL_law_388 : decode cL_law 388 = .ok (.aload_n 2, 1) := by decide +kernel
theorem dL_law_389 : decode cL_law 389 = .ok (.aload_n 0, 1) := by decide +kernel
theorem dL_law_390 : decode cL_law 390 = .ok (.iload_n 3, 1) := by decide +kernel
theorem dL_law_391 : decode cL_law 391 = .ok (.iconst 1, 1) := by decide +kernel
theorem dL_law_392 : decode cL_law 392 = .ok (.iadd, 1) := by decide +kernel
theorem dL_law_393 : decode cL_law 393 = .ok (.iaload, 1) := by decide +kernel
theorem dL_law_394 : decode cL_law 394 = .ok (.aload_n 0, 1) := by decide +kernel
theorem dL_law_395 : decode cL_law 395 = .ok (.iload_n 3, 1) := by decide +kernel
theorem dL_law_396 : decode cL_law 396 = .ok (.iconst 2, 1) := by decide +kernel
theorem dL_law_397 : decode cL_law 397 = .ok (.iadd, 1) := by decide +kernel
theorem dL_law_398 : decode cL_law 398 = .ok (.iaload, 1) := by decide +kernel
theorem dL_law_399 : decode cL_law 399 = .ok (.invokevirtual 51, 3) := by decide +kernel
theorem dL_law_402 : decode cL_law 402 = .ok (.if_icmp .eq 557, 3) := by decide +kernel
theorem dL_law_405 : decode cL_law 405 = .ok (.iconst 0, 1) := by decide +kernel
theorem dL_law_406 : decode cL_law 406 = .ok (.ireturn, 1) := by decide +kernel
theorem dL_law_407 : decode cL_law 407 = .ok (.aload_n 1, 1) := by decide +kernel
theorem dL_law_408 : decode cL_law 408 = .ok (.aload_n 0, 1) := by decide +kernel
theorem dL_law_409 : decode cL_law 409 = .ok (.iload_n 3, 1) := by decide +kernel
theorem dL_law_410 : decode cL_law 410 = .ok (.iconst 1, 1) := by decide +kernel
theorem dL_law_411 : decode cL_law 411 = .ok (.iadd, 1) := by decide +kernel
theorem dL_law_412 : decode cL_law 412 = .ok (.iaload, 1) := by decide +kernel
theorem dL_law_413 : decode cL_law 413 = .ok (.aload_n 0, 1) := by decide +kernel
theorem dL_law_414 : decode cL_law 414 = .ok (.iload_n 3, 1) := by decide +kernel
theorem dL_law_415 : decode cL_law 415 = .ok (.iconst 2, 1) := by decide +kernel
theorem dL_law_416 : decode cL_law 416 = .ok (.iadd, 1) := by decide +kernel
theorem dL_law_417 : decode cL_law 417 = .ok (.iaload, 1) := by decide +kernel
theorem dL_law_418 : decode cL_law 418 = .ok (.invokevirtual 52, 3) := by decide +kernel
theorem dL_law_421 : decode cL_law 421 = .ok (.aload_n 2, 1) := by decide +kernel
theorem dL_law_422 : decode cL_law 422 = .ok (.aload_n 0, 1) := by decide +kernel
theorem dL_law_423 : decode cL_law 423 = .ok (.iload_n 3, 1) := by decide +kernel
theorem dL_law_424 : decode cL_law 424 = .ok (.iconst 1, 1) := by decide +kernel
theorem dL_law_425 : decode cL_law 425 = .ok (.iadd, 1) := by decide +kernel
theorem dL_law_426 : decode cL_law 426 = .ok (.iaload, 1) := by decide +kernel
theorem dL_law_427 : decode cL_law 427 = .ok (.aload_n 0, 1) := by decide +kernel
theorem dL_law_428 : decode cL_law 428 = .ok (.iload_n 3, 1) := by decide +kernel
theorem dL_law_429 : decode cL_law 429 = .ok (.iconst 2, 1) := by decide +kernel
theorem dL_law_430 : decode cL_law 430 = .ok (.iadd, 1) := by decide +kernel
theorem dL_law_431 : decode cL_law 431 = .ok (.iaload, 1) := by decide +kernel
theorem dL_law_432 : decode cL_law 432 = .ok (.invokevirtual 55, 3) := by decide +kernel
theorem dL_law_435 : decode cL_law 435 = .ok (.if_icmp .eq 524, 3) := by decide +kernel
theorem dL_law_438 : decode cL_law 438 = .ok (.iconst 0, 1) := by decide +kernel
theorem dL_law_439 : decode cL_law 439 = .ok (.ireturn, 1) := by decide +kernel
theorem dL_law_440 : decode cL_law 440 = .ok (.aload_n 1, 1) := by decide +kernel
theorem dL_law_441 : decode cL_law 441 = .ok (.aload_n 0, 1) := by decide +kernel
theorem dL_law_442 : decode cL_law 442 = .ok (.iload_n 3, 1) := by decide +kernel
theorem dL_law_443 : decode cL_law 443 = .ok (.iconst 1, 1) := by decide +kernel
theorem dL_law_444 : decode cL_law 444 = .ok (.iadd, 1) := by decide +kernel
theorem dL_law_445 : decode cL_law 445 = .ok (.iaload, 1) := by decide +kernel
theorem dL_law_446 : decode cL_law 446 = .ok (.aload_n 0, 1) := by decide +kernel
theorem dL_law_447 : decode cL_law 447 = .ok (.iload_n 3, 1) := by decide +kernel
theorem dL_law_448 : decode cL_law 448 = .ok (.iconst 2, 1) := by decide +kernel
theorem dL_law_449 : decode cL_law 449 = .ok (.iadd, 1) := by decide +kernel
theorem dL_law_450 : decode cL_law 450 = .ok (.iaload, 1) := by decide +kernel
theorem dL_law_451 : decode cL_law 451 = .ok (.invokevirtual 56, 3) := by decide +kernel
theorem dL_law_454 : decode cL_law 454 = .ok (.aload_n 2, 1) := by decide +kernel
theorem dL_law_455 : decode cL_law 455 = .ok (.aload_n 0, 1) := by decide +kernel
theorem dL_law_456 : decode cL_law 456 = .ok (.iload_n 3, 1) := by decide +kernel
theorem dL_law_457 : decode cL_law 457 = .ok (.iconst 1, 1) := by decide +kernel
theorem dL_law_458 : decode cL_law 458 = .ok (.iadd, 1) := by decide +kernel
theorem dL_law_459 : decode cL_law 459 = .ok (.iaload, 1) := by decide +kernel
theorem dL_law_460 : decode cL_law 460 = .ok (.aload_n 0, 1) := by decide +kernel
theorem dL_law_461 : decode cL_law 461 = .ok (.iload_n 3, 1) := by decide +kernel
theorem dL_law_462 : decode cL_law 462 = .ok (.iconst 2, 1) := by decide +kernel
theorem dL_law_463 : decode cL_law 463 = .ok (.iadd, 1) := by decide +kernel
theorem dL_law_464 : decode cL_law 464 = .ok (.iaload, 1) := by decide +kernel
theorem dL_law_465 : decode cL_law 465 = .ok (.invokevirtual 59, 3) := by decide +kernel
theorem dL_law_468 : decode cL_law 468 = .ok (.if_icmp .eq 491, 3) := by decide +kernel
theorem dL_law_471 : decode cL_law 471 = .ok (.iconst 0, 1) := by decide +kernel
theorem dL_law_472 : decode cL_law 472 = .ok (.ireturn, 1) := by decide +kernel
theorem dL_law_473 : decode cL_law 473 = .ok (.aload_n 1, 1) := by decide +kernel
theorem dL_law_474 : decode cL_law 474 = .ok (.aload_n 0, 1) := by decide +kernel
theorem dL_law_475 : decode cL_law 475 = .ok (.iload_n 3, 1) := by decide +kernel
theorem dL_law_476 : decode cL_law 476 = .ok (.iconst 1, 1) := by decide +kernel
theorem dL_law_477 : decode cL_law 477 = .ok (.iadd, 1) := by decide +kernel
theorem dL_law_478 : decode cL_law 478 = .ok (.iaload, 1) := by decide +kernel
theorem dL_law_479 : decode cL_law 479 = .ok (.invokevirtual 60, 3) := by decide +kernel
theorem dL_law_482 : decode cL_law 482 = .ok (.aload_n 2, 1) := by decide +kernel
theorem dL_law_483 : decode cL_law 483 = .ok (.aload_n 0, 1) := by decide +kernel
theorem dL_law_484 : decode cL_law 484 = .ok (.iload_n 3, 1) := by decide +kernel
theorem dL_law_485 : decode cL_law 485 = .ok (.iconst 1, 1) := by decide +kernel
theorem dL_law_486 : decode cL_law 486 = .ok (.iadd, 1) := by decide +kernel
theorem dL_law_487 : decode cL_law 487 = .ok (.iaload, 1) := by decide +kernel
theorem dL_law_488 : decode cL_law 488 = .ok (.invokevirtual 63, 3) := by decide +kernel
theorem dL_law_491 : decode cL_law 491 = .ok (.if_icmp .eq 468, 3) := by decide +kernel
theorem dL_law_494 : decode cL_law 494 = .ok (.iconst 0, 1) := by decide +kernel
theorem dL_law_495 : decode cL_law 495 = .ok (.ireturn, 1) := by decide +kernel
theorem dL_law_496 : decode cL_law 496 = .ok (.aload_n 1, 1) := by decide +kernel
theorem dL_law_497 : decode cL_law 497 = .ok (.aload_n 0, 1) := by decide +kernel
theorem dL_law_498 : decode cL_law 498 = .ok (.iload_n 3, 1) := by decide +kernel
theorem dL_law_499 : decode cL_law 499 = .ok (.iconst 1, 1) := by decide +kernel
theorem dL_law_500 : decode cL_law 500 = .ok (.iadd, 1) := by decide +kernel
theorem dL_law_501 : decode cL_law 501 = .ok (.iaload, 1) := by decide +kernel
theorem dL_law_502 : decode cL_law 502 = .ok (.invokevirtual 64, 3) := by decide +kernel
theorem dL_law_505 : decode cL_law 505 = .ok (.aload_n 2, 1) := by decide +kernel
theorem dL_law_506 : decode cL_law 506 = .ok (.aload_n 0, 1) := by decide +kernel
theorem dL_law_507 : decode cL_law 507 = .ok (.iload_n 3, 1) := by decide +kernel
theorem dL_law_508 : decode cL_law 508 = .ok (.iconst 1, 1) := by decide +kernel
theorem dL_law_509 : decode cL_law 509 = .ok (.iadd, 1) := by decide +kernel
theorem dL_law_510 : decode cL_law 510 = .ok (.iaload, 1) := by decide +kernel
theorem dL_law_511 : decode cL_law 511 = .ok (.invokevirtual 67, 3) := by decide +kernel
theorem dL_law_514 : decode cL_law 514 = .ok (.if_icmp .eq 445, 3) := by decide +kernel
theorem dL_law_517 : decode cL_law 517 = .ok (.iconst 0, 1) := by decide +kernel
theorem dL_law_518 : decode cL_law 518 = .ok (.ireturn, 1) := by decide +kernel
theorem dL_law_519 : decode cL_law 519 = .ok (.aload_n 1, 1) := by decide +kernel
theorem dL_law_520 : decode cL_law 520 = .ok (.invokevirtual 68, 3) := by decide +kernel
theorem dL_law_523 : decode cL_law 523 = .ok (.aload_n 2, 1) := by decide +kernel
theorem dL_law_524 : decode cL_law 524 = .ok (.invokevirtual 71, 3) := by decide +kernel
theorem dL_law_527 : decode cL_law 527 = .ok (.if_icmp .eq 432, 3) := by decide +kernel
theorem dL_law_530 : decode cL_law 530 = .ok (.iconst 0, 1) := by decide +kernel
theorem dL_law_531 : decode cL_law 531 = .ok (.ireturn, 1) := by decide +kernel
theorem dL_law_532 : decode cL_law 532 = .ok (.aload_n 1, 1) := by decide +kernel
theorem dL_law_533 : decode cL_law 533 = .ok (.aload_n 0, 1) := by decide +kernel
theorem dL_law_534 : decode cL_law 534 = .ok (.iload_n 3, 1) := by decide +kernel
theorem dL_law_535 : decode cL_law 535 = .ok (.iconst 1, 1) := by decide +kernel
theorem dL_law_536 : decode cL_law 536 = .ok (.iadd, 1) := by decide +kernel
theorem dL_law_537 : decode cL_law 537 = .ok (.iaload, 1) := by decide +kernel
theorem dL_law_538 : decode cL_law 538 = .ok (.invokevirtual 72, 3) := by decide +kernel
theorem dL_law_541 : decode cL_law 541 = .ok (.aload_n 2, 1) := by decide +kernel
theorem dL_law_542 : decode cL_law 542 = .ok (.aload_n 0, 1) := by decide +kernel
theorem dL_law_543 : decode cL_law 543 = .ok (.iload_n 3, 1) := by decide +kernel
theorem dL_law_544 : decode cL_law 544 = .ok (.iconst 1, 1) := by decide +kernel
theorem dL_law_545 : decode cL_law 545 = .ok (.iadd, 1) := by decide +kernel
theorem dL_law_546 : decode cL_law 546 = .ok (.iaload, 1) := by decide +kernel
theorem dL_law_547 : decode cL_law 547 = .ok (.invokevirtual 75, 3) := by decide +kernel
theorem dL_law_550 : decode cL_law 550 = .ok (.if_icmp .eq 409, 3) := by decide +kernel
theorem dL_law_553 : decode cL_law 553 = .ok (.iconst 0, 1) := by decide +kernel
theorem dL_law_554 : decode cL_law 554 = .ok (.ireturn, 1) := by decide +kernel
theorem dL_law_555 : decode cL_law 555 = .ok (.aload_n 1, 1) := by decide +kernel
theorem dL_law_556 : decode cL_law 556 = .ok (.aload_n 0, 1) := by decide +kernel
theorem dL_law_557 : decode cL_law 557 = .ok (.iload_n 3, 1) := by decide +kernel
theorem dL_law_558 : decode cL_law 558 = .ok (.iconst 1, 1) := by decide +kernel
theorem dL_law_559 : decode cL_law 559 = .ok (.iadd, 1) := by decide +kernel
theorem dL_law_560 : decode cL_law 560 = .ok (.iaload, 1) := by decide +kernel
theorem dL_law_561 : decode cL_law 561 = .ok (.aload_n 0, 1) := by decide +kernel
theorem dL_law_562 : decode cL_law 562 = .ok (.iload_n 3, 1) := by decide +kernel
theorem dL_law_563 : decode cL_law 563 = .ok (.iconst 2, 1) := by decide +kernel
theorem dL_law_564 : decode cL_law 564 = .ok (.iadd, 1) := by decide +kernel
theorem dL_law_565 : decode cL_law 565 = .ok (.iaload, 1) := by decide +kernel
theorem dL_law_566 : decode cL_law 566 = .ok (.invokevirtual 76, 3) := by decide +kernel
theorem dL_law_569 : decode cL_law 569 = .ok (.aload_n 2, 1) := by decide +kernel
theorem dL_law_570 : decode cL_law 570 = .ok (.aload_n 0, 1) := by decide +kernel
theorem dL_law_571 : decode cL_law 571 = .ok (.iload_n 3, 1) := by decide +kernel
theorem dL_law_572 : decode cL_law 572 = .ok (.iconst 1, 1) := by decide +kernel
theorem dL_law_573 : decode cL_law 573 = .ok (.iadd, 1) := by decide +kernel
theorem dL_law_574 : decode cL_law 574 = .ok (.iaload, 1) := by decide +kernel
theorem dL_law_575 : decode cL_law 575 = .ok (.aload_n 0, 1) := by decide +kernel
theorem dL_law_576 : decode cL_law 576 = .ok (.iload_n 3, 1) := by decide +kernel
theorem dL_law_577 : decode cL_law 577 = .ok (.iconst 2, 1) := by decide +kernel
theorem dL_law_578 : decode cL_law 578 = .ok (.iadd, 1) := by decide +kernel
theorem dL_law_579 : decode cL_law 579 = .ok (.iaload, 1) := by decide +kernel
theorem dL_law_580 : decode cL_law 580 = .ok (.invokevirtual 79, 3) := by decide +kernel
theorem dL_law_583 : decode cL_law 583 = .ok (.if_icmp .eq 376, 3) := by decide +kernel
theorem dL_law_586 : decode cL_law 586 = .ok (.iconst 0, 1) := by decide +kernel
theorem dL_law_587 : decode cL_law 587 = .ok (.ireturn, 1) := by decide +kernel
theorem dL_law_588 : decode cL_law 588 = .ok (.aload_n 1, 1) := by decide +kernel
theorem dL_law_589 : decode cL_law 589 = .ok (.aload_n 0, 1) := by decide +kernel
theorem dL_law_590 : decode cL_law 590 = .ok (.iload_n 3, 1) := by decide +kernel
theorem dL_law_591 : decode cL_law 591 = .ok (.iconst 1, 1) := by decide +kernel
theorem dL_law_592 : decode cL_law 592 = .ok (.iadd, 1) := by decide +kernel
theorem dL_law_593 : decode cL_law 593 = .ok (.iaload, 1) := by decide +kernel
theorem dL_law_594 : decode cL_law 594 = .ok (.invokevirtual 80, 3) := by decide +kernel
theorem dL_law_597 : decode cL_law 597 = .ok (.aload_n 2, 1) := by decide +kernel
theorem dL_law_598 : decode cL_law 598 = .ok (.aload_n 0, 1) := by decide +kernel
theorem dL_law_599 : decode cL_law 599 = .ok (.iload_n 3, 1) := by decide +kernel
theorem dL_law_600 : decode cL_law 600 = .ok (.iconst 1, 1) := by decide +kernel
theorem dL_law_601 : decode cL_law 601 = .ok (.iadd, 1) := by decide +kernel
theorem dL_law_602 : decode cL_law 602 = .ok (.iaload, 1) := by decide +kernel
theorem dL_law_603 : decode cL_law 603 = .ok (.invokevirtual 83, 3) := by decide +kernel
theorem dL_law_606 : decode cL_law 606 = .ok (.if_icmp .eq 353, 3) := by decide +kernel
theorem dL_law_609 : decode cL_law 609 = .ok (.iconst 0, 1) := by decide +kernel
theorem dL_law_610 : decode cL_law 610 = .ok (.ireturn, 1) := by decide +kernel
theorem dL_law_611 : decode cL_law 611 = .ok (.aload_n 1, 1) := by decide +kernel
theorem dL_law_612 : decode cL_law 612 = .ok (.aload_n 0, 1) := by decide +kernel
theorem dL_law_613 : decode cL_law 613 = .ok (.iload_n 3, 1) := by decide +kernel
theorem dL_law_614 : decode cL_law 614 = .ok (.iconst 1, 1) := by decide +kernel
theorem dL_law_615 : decode cL_law 615 = .ok (.iadd, 1) := by decide +kernel
theorem dL_law_616 : decode cL_law 616 = .ok (.iaload, 1) := by decide +kernel
theorem dL_law_617 : decode cL_law 617 = .ok (.invokevirtual 84, 3) := by decide +kernel
theorem dL_law_620 : decode cL_law 620 = .ok (.aload_n 2, 1) := by decide +kernel
theorem dL_law_621 : decode cL_law 621 = .ok (.aload_n 0, 1) := by decide +kernel
theorem dL_law_622 : decode cL_law 622 = .ok (.iload_n 3, 1) := by decide +kernel
theorem dL_law_623 : decode cL_law 623 = .ok (.iconst 1, 1) := by decide +kernel
theorem dL_law_624 : decode cL_law 624 = .ok (.iadd, 1) := by decide +kernel
theorem dL_law_625 : decode cL_law 625 = .ok (.iaload, 1) := by decide +kernel
theorem dL_law_626 : decode cL_law 626 = .ok (.invokevirtual 87, 3) := by decide +kernel
theorem dL_law_629 : decode cL_law 629 = .ok (.if_icmp .eq 330, 3) := by decide +kernel
theorem dL_law_632 : decode cL_law 632 = .ok (.iconst 0, 1) := by decide +kernel
theorem dL_law_633 : decode cL_law 633 = .ok (.ireturn, 1) := by decide +kernel
theorem dL_law_634 : decode cL_law 634 = .ok (.aload_n 1, 1) := by decide +kernel
theorem dL_law_635 : decode cL_law 635 = .ok (.invokevirtual 88, 3) := by decide +kernel
theorem dL_law_638 : decode cL_law 638 = .ok (.aload_n 2, 1) := by decide +kernel
theorem dL_law_639 : decode cL_law 639 = .ok (.invokevirtual 91, 3) := by decide +kernel
theorem dL_law_642 : decode cL_law 642 = .ok (.if_icmp .eq 317, 3) := by decide +kernel
theorem dL_law_645 : decode cL_law 645 = .ok (.iconst 0, 1) := by decide +kernel
theorem dL_law_646 : decode cL_law 646 = .ok (.ireturn, 1) := by decide +kernel
theorem dL_law_647 : decode cL_law 647 = .ok (.aload_n 1, 1) := by decide +kernel
theorem dL_law_648 : decode cL_law 648 = .ok (.aload_n 0, 1) := by decide +kernel
theorem dL_law_649 : decode cL_law 649 = .ok (.iload_n 3, 1) := by decide +kernel
theorem dL_law_650 : decode cL_law 650 = .ok (.iconst 1, 1) := by decide +kernel
theorem dL_law_651 : decode cL_law 651 = .ok (.iadd, 1) := by decide +kernel
theorem dL_law_652 : decode cL_law 652 = .ok (.iaload, 1) := by decide +kernel
theorem dL_law_653 : decode cL_law 653 = .ok (.aload_n 0, 1) := by decide +kernel
theorem dL_law_654 : decode cL_law 654 = .ok (.iload_n 3, 1) := by decide +kernel
theorem dL_law_655 : decode cL_law 655 = .ok (.iconst 2, 1) := by decide +kernel
theorem dL_law_656 : decode cL_law 656 = .ok (.iadd, 1) := by decide +kernel
theorem dL_law_657 : decode cL_law 657 = .ok (.iaload, 1) := by decide +kernel
theorem dL_law_658 : decode cL_law 658 = .ok (.invokevirtual 92, 3) := by decide +kernel
theorem dL_law_661 : decode cL_law 661 = .ok (.aload_n 2, 1) := by decide +kernel
theorem dL_law_662 : decode cL_law 662 = .ok (.aload_n 0, 1) := by decide +kernel
theorem dL_law_663 : decode cL_law 663 = .ok (.iload_n 3, 1) := by decide +kernel
theorem dL_law_664 : decode cL_law 664 = .ok (.iconst 1, 1) := by decide +kernel
theorem dL_law_665 : decode cL_law 665 = .ok (.iadd, 1) := by decide +kernel
theorem dL_law_666 : decode cL_law 666 = .ok (.iaload, 1) := by decide +kernel
theorem dL_law_667 : decode cL_law 667 = .ok (.aload_n 0, 1) := by decide +kernel
theorem dL_law_668 : decode cL_law 668 = .ok (.iload_n 3, 1) := by decide +kernel
theorem dL_law_669 : decode cL_law 669 = .ok (.iconst 2, 1) := by decide +kernel
theorem dL_law_670 : decode cL_law 670 = .ok (.iadd, 1) := by decide +kernel
theorem dL_law_671 : decode cL_law 671 = .ok (.iaload, 1) := by decide +kernel
theorem dL_law_672 : decode cL_law 672 = .ok (.invokevirtual 95, 3) := by decide +kernel
theorem dL_law_675 : decode cL_law 675 = .ok (.if_icmp .eq 284, 3) := by decide +kernel
theorem dL_law_678 : decode cL_law 678 = .ok (.iconst 0, 1) := by decide +kernel
theorem dL_law_679 : decode cL_law 679 = .ok (.ireturn, 1) := by decide +kernel
theorem dL_law_680 : decode cL_law 680 = .ok (.aload_n 1, 1) := by decide +kernel
theorem dL_law_681 : decode cL_law 681 = .ok (.invokevirtual 96, 3) := by decide +kernel
theorem dL_law_684 : decode cL_law 684 = .ok (.aload_n 2, 1) := by decide +kernel
theorem dL_law_685 : decode cL_law 685 = .ok (.invokevirtual 99, 3) := by decide +kernel
theorem dL_law_688 : decode cL_law 688 = .ok (.if_icmp .eq 271, 3) := by decide +kernel
theorem dL_law_691 : decode cL_law 691 = .ok (.iconst 0, 1) := by decide +kernel
theorem dL_law_692 : decode cL_law 692 = .ok (.ireturn, 1) := by decide +kernel
theorem dL_law_693 : decode cL_law 693 = .ok (.aload_n 1, 1) := by decide +kernel
theorem dL_law_694 : decode cL_law 694 = .ok (.invokevirtual 100, 3) := by decide +kernel
theorem dL_law_697 : decode cL_law 697 = .ok (.aload_n 2, 1) := by decide +kernel
theorem dL_law_698 : decode cL_law 698 = .ok (.invokevirtual 103, 3) := by decide +kernel
theorem dL_law_701 : decode cL_law 701 = .ok (.if_icmp .eq 258, 3) := by decide +kernel
theorem dL_law_704 : decode cL_law 704 = .ok (.iconst 0, 1) := by decide +kernel
theorem dL_law_705 : decode cL_law 705 = .ok (.ireturn, 1) := by decide +kernel
theorem dL_law_706 : decode cL_law 706 = .ok (.aload_n 1, 1) := by decide +kernel
theorem dL_law_707 : decode cL_law 707 = .ok (.aload_n 0, 1) := by decide +kernel
theorem dL_law_708 : decode cL_law 708 = .ok (.iload_n 3, 1) := by decide +kernel
theorem dL_law_709 : decode cL_law 709 = .ok (.iconst 1, 1) := by decide +kernel
theorem dL_law_710 : decode cL_law 710 = .ok (.iadd, 1) := by decide +kernel
theorem dL_law_711 : decode cL_law 711 = .ok (.iaload, 1) := by decide +kernel
theorem dL_law_712 : decode cL_law 712 = .ok (.aload_n 0, 1) := by decide +kernel
theorem dL_law_713 : decode cL_law 713 = .ok (.iload_n 3, 1) := by decide +kernel
theorem dL_law_714 : decode cL_law 714 = .ok (.iconst 2, 1) := by decide +kernel
theorem dL_law_715 : decode cL_law 715 = .ok (.iadd, 1) := by decide +kernel
theorem dL_law_716 : decode cL_law 716 = .ok (.iaload, 1) := by decide +kernel
theorem dL_law_717 : decode cL_law 717 = .ok (.invokevirtual 104, 3) := by decide +kernel
theorem dL_law_720 : decode cL_law 720 = .ok (.aload_n 2, 1) := by decide +kernel
theorem dL_law_721 : decode cL_law 721 = .ok (.aload_n 0, 1) := by decide +kernel
theorem dL_law_722 : decode cL_law 722 = .ok (.iload_n 3, 1) := by decide +kernel
theorem dL_law_723 : decode cL_law 723 = .ok (.iconst 1, 1) := by decide +kernel
theorem dL_law_724 : decode cL_law 724 = .ok (.iadd, 1) := by decide +kernel
theorem dL_law_725 : decode cL_law 725 = .ok (.iaload, 1) := by decide +kernel
theorem dL_law_726 : decode cL_law 726 = .ok (.aload_n 0, 1) := by decide +kernel
theorem dL_law_727 : decode cL_law 727 = .ok (.iload_n 3, 1) := by decide +kernel
theorem dL_law_728 : decode cL_law 728 = .ok (.iconst 2, 1) := by decide +kernel
theorem dL_law_729 : decode cL_law 729 = .ok (.iadd, 1) := by decide +kernel
theorem dL_law_730 : decode cL_law 730 = .ok (.iaload, 1) := by decide +kernel
theorem dL_law_731 : decode cL_law 731 = .ok (.invokevirtual 107, 3) := by decide +kernel
theorem dL_law_734 : decode cL_law 734 = .ok (.if_icmp .eq 225, 3) := by decide +kernel
theorem dL_law_737 : decode cL_law 737 = .ok (.iconst 0, 1) := by decide +kernel
theorem dL_law_738 : decode cL_law 738 = .ok (.ireturn, 1) := by decide +kernel
theorem dL_law_739 : decode cL_law 739 = .ok (.aload_n 1, 1) := by decide +kernel
theorem dL_law_740 : decode cL_law 740 = .ok (.aload_n 0, 1) := by decide +kernel
theorem dL_law_741 : decode cL_law 741 = .ok (.iload_n 3, 1) := by decide +kernel
theorem dL_law_742 : decode cL_law 742 = .ok (.iconst 1, 1) := by decide +kernel
theorem dL_law_743 : decode cL_law 743 = .ok (.iadd, 1) := by decide +kernel
theorem dL_law_744 : decode cL_law 744 = .ok (.iaload, 1) := by decide +kernel
theorem dL_law_745 : decode cL_law 745 = .ok (.aload_n 0, 1) := by decide +kernel
theorem dL_law_746 : decode cL_law 746 = .ok (.iload_n 3, 1) := by decide +kernel
theorem dL_law_747 : decode cL_law 747 = .ok (.iconst 2, 1) := by decide +kernel
theorem dL_law_748 : decode cL_law 748 = .ok (.iadd, 1) := by decide +kernel
theorem dL_law_749 : decode cL_law 749 = .ok (.iaload, 1) := by decide +kernel
theorem dL_law_750 : decode cL_law 750 = .ok (.invokevirtual 108, 3) := by decide +kernel
theorem dL_law_753 : decode cL_law 753 = .ok (.aload_n 2, 1) := by decide +kernel
theorem dL_law_754 : decode cL_law 754 = .ok (.aload_n 0, 1) := by decide +kernel
theorem dL_law_755 : decode cL_law 755 = .ok (.iload_n 3, 1) := by decide +kernel
theorem dL_law_756 : decode cL_law 756 = .ok (.iconst 1, 1) := by decide +kernel
theorem dL_law_757 : decode cL_law 757 = .ok (.iadd, 1) := by decide +kernel
theorem dL_law_758 : decode cL_law 758 = .ok (.iaload, 1) := by decide +kernel
theorem dL_law_759 : decode cL_law 759 = .ok (.aload_n 0, 1) := by decide +kernel
theorem dL_law_760 : decode cL_law 760 = .ok (.iload_n 3, 1) := by decide +kernel
theorem dL_law_761 : decode cL_law 761 = .ok (.iconst 2, 1) := by decide +kernel
theorem dL_law_762 : decode cL_law 762 = .ok (.iadd, 1) := by decide +kernel
theorem dL_law_763 : decode cL_law 763 = .ok (.iaload, 1) := by decide +kernel
theorem dL_law_764 : decode cL_law 764 = .ok (.invokevirtual 111, 3) := by decide +kernel
theorem dL_law_767 : decode cL_law 767 = .ok (.if_icmp .eq 192, 3) := by decide +kernel
theorem dL_law_770 : decode cL_law 770 = .ok (.iconst 0, 1) := by decide +kernel
theorem dL_law_771 : decode cL_law 771 = .ok (.ireturn, 1) := by decide +kernel
theorem dL_law_772 : decode cL_law 772 = .ok (.aload_n 1, 1) := by decide +kernel
theorem dL_law_773 : decode cL_law 773 = .ok (.aload_n 0, 1) := by decide +kernel
theorem dL_law_774 : decode cL_law 774 = .ok (.iload_n 3, 1) := by decide +kernel
theorem dL_law_775 : decode cL_law 775 = .ok (.iconst 1, 1) := by decide +kernel
theorem dL_law_776 : decode cL_law 776 = .ok (.iadd, 1) := by decide +kernel
theorem dL_law_777 : decode cL_law 777 = .ok (.iaload, 1) := by decide +kernel
theorem dL_law_778 : decode cL_law 778 = .ok (.invokevirtual 112, 3) := by decide +kernel
theorem dL_law_781 : decode cL_law 781 = .ok (.aload_n 2, 1) := by decide +kernel
theorem dL_law_782 : decode cL_law 782 = .ok (.aload_n 0, 1) := by decide +kernel
theorem dL_law_783 : decode cL_law 783 = .ok (.iload_n 3, 1) := by decide +kernel
theorem dL_law_784 : decode cL_law 784 = .ok (.iconst 1, 1) := by decide +kernel
theorem dL_law_785 : decode cL_law 785 = .ok (.iadd, 1) := by decide +kernel
theorem dL_law_786 : decode cL_law 786 = .ok (.iaload, 1) := by decide +kernel
theorem dL_law_787 : decode cL_law 787 = .ok (.invokevirtual 115, 3) := by decide +kernel
theorem dL_law_790 : decode cL_law 790 = .ok (.if_icmp .eq 169, 3) := by decide +kernel
theorem dL_law_793 : decode cL_law 793 = .ok (.iconst 0, 1) := by decide +kernel
theorem dL_law_794 : decode cL_law 794 = .ok (.ireturn, 1) := by decide +kernel
theorem dL_law_795 : decode cL_law 795 = .ok (.aload_n 1, 1) := by decide +kernel
theorem dL_law_796 : decode cL_law 796 = .ok (.invokevirtual 116, 3) := by decide +kernel
theorem dL_law_799 : decode cL_law 799 = .ok (.aload_n 2, 1) := by decide +kernel
theorem dL_law_800 : decode cL_law 800 = .ok (.invokevirtual 119, 3) := by decide +kernel
theorem dL_law_803 : decode cL_law 803 = .ok (.if_icmp .eq 156, 3) := by decide +kernel
theorem dL_law_806 : decode cL_law 806 = .ok (.iconst 0, 1) := by decide +kernel
theorem dL_law_807 : decode cL_law 807 = .ok (.ireturn, 1) := by decide +kernel
theorem dL_law_808 : decode cL_law 808 = .ok (.aload_n 1, 1) := by decide +kernel
theorem dL_law_809 : decode cL_law 809 = .ok (.aload_n 0, 1) := by decide +kernel
theorem dL_law_810 : decode cL_law 810 = .ok (.iload_n 3, 1) := by decide +kernel
theorem dL_law_811 : decode cL_law 811 = .ok (.iconst 1, 1) := by decide +kernel
theorem dL_law_812 : decode cL_law 812 = .ok (.iadd, 1) := by decide +kernel
theorem dL_law_813 : decode cL_law 813 = .ok (.iaload, 1) := by decide +kernel
theorem dL_law_814 : decode cL_law 814 = .ok (.invokevirtual 120, 3) := by decide +kernel
theorem dL_law_817 : decode cL_law 817 = .ok (.aload_n 2, 1) := by decide +kernel
theorem dL_law_818 : decode cL_law 818 = .ok (.aload_n 0, 1) := by decide +kernel
theorem dL_law_819 : decode cL_law 819 = .ok (.iload_n 3, 1) := by decide +kernel
theorem dL_law_820 : decode cL_law 820 = .ok (.iconst 1, 1) := by decide +kernel
theorem dL_law_821 : decode cL_law 821 = .ok (.iadd, 1) := by decide +kernel
theorem dL_law_822 : decode cL_law 822 = .ok (.iaload, 1) := by decide +kernel
theorem dL_law_823 : decode cL_law 823 = .ok (.invokevirtual 123, 3) := by decide +kernel
theorem dL_law_826 : decode cL_law 826 = .ok (.if_icmp .eq 133, 3) := by decide +kernel
theorem dL_law_829 : decode cL_law 829 = .ok (.iconst 0, 1) := by decide +kernel
theorem dL_law_830 : decode cL_law 830 = .ok (.ireturn, 1) := by decide +kernel
theorem dL_law_831 : decode cL_law 831 = .ok (.aload_n 1, 1) := by decide +kernel
theorem dL_law_832 : decode cL_law 832 = .ok (.invokevirtual 124, 3) := by decide +kernel
theorem dL_law_835 : decode cL_law 835 = .ok (.aload_n 2, 1) := by decide +kernel
theorem dL_law_836 : decode cL_law 836 = .ok (.invokevirtual 127, 3) := by decide +kernel
theorem dL_law_839 : decode cL_law 839 = .ok (.if_icmp .eq 120, 3) := by decide +kernel
theorem dL_law_842 : decode cL_law 842 = .ok (.iconst 0, 1) := by decide +kernel
theorem dL_law_843 : decode cL_law 843 = .ok (.ireturn, 1) := by decide +kernel
theorem dL_law_844 : decode cL_law 844 = .ok (.aload_n 1, 1) := by decide +kernel
theorem dL_law_845 : decode cL_law 845 = .ok (.aload_n 0, 1) := by decide +kernel
theorem dL_law_846 : decode cL_law 846 = .ok (.iload_n 3, 1) := by decide +kernel
theorem dL_law_847 : decode cL_law 847 = .ok (.iconst 1, 1) := by decide +kernel
theorem dL_law_848 : decode cL_law 848 = .ok (.iadd, 1) := by decide +kernel
theorem dL_law_849 : decode cL_law 849 = .ok (.iaload, 1) := by decide +kernel
theorem dL_law_850 : decode cL_law 850 = .ok (.invokevirtual 128, 3) := by decide +kernel
theorem dL_law_853 : decode cL_law 853 = .ok (.aload_n 2, 1) := by decide +kernel
theorem dL_law_854 : decode cL_law 854 = .ok (.aload_n 0, 1) := by decide +kernel
theorem dL_law_855 : decode cL_law 855 = .ok (.iload_n 3, 1) := by decide +kernel
theorem dL_law_856 : decode cL_law 856 = .ok (.iconst 1, 1) := by decide +kernel
theorem dL_law_857 : decode cL_law 857 = .ok (.iadd, 1) := by decide +kernel
theorem dL_law_858 : decode cL_law 858 = .ok (.iaload, 1) := by decide +kernel
theorem dL_law_859 : decode cL_law 859 = .ok (.invokevirtual 131, 3) := by decide +kernel
theorem dL_law_862 : decode cL_law 862 = .ok (.if_icmp .eq 97, 3) := by decide +kernel
theorem dL_law_865 : decode cL_law 865 = .ok (.iconst 0, 1) := by decide +kernel
theorem dL_law_866 : decode cL_law 866 = .ok (.ireturn, 1) := by decide +kernel
theorem dL_law_867 : decode cL_law 867 = .ok (.aload_n 1, 1) := by decide +kernel
theorem dL_law_868 : decode cL_law 868 = .ok (.aload_n 0, 1) := by decide +kernel
theorem dL_law_869 : decode cL_law 869 = .ok (.iload_n 3, 1) := by decide +kernel
theorem dL_law_870 : decode cL_law 870 = .ok (.iconst 1, 1) := by decide +kernel
theorem dL_law_871 : decode cL_law 871 = .ok (.iadd, 1) := by decide +kernel
theorem dL_law_872 : decode cL_law 872 = .ok (.iaload, 1) := by decide +kernel
theorem dL_law_873 : decode cL_law 873 = .ok (.aload_n 0, 1) := by decide +kernel
theorem dL_law_874 : decode cL_law 874 = .ok (.iload_n 3, 1) := by decide +kernel
theorem dL_law_875 : decode cL_law 875 = .ok (.iconst 2, 1) := by decide +kernel
theorem dL_law_876 : decode cL_law 876 = .ok (.iadd, 1) := by decide +kernel
theorem dL_law_877 : decode cL_law 877 = .ok (.iaload, 1) := by decide +kernel
theorem dL_law_878 : decode cL_law 878 = .ok (.aload_n 0, 1) := by decide +kernel
theorem dL_law_879 : decode cL_law 879 = .ok (.iload_n 3, 1) := by decide +kernel
theorem dL_law_880 : decode cL_law 880 = .ok (.iconst 3, 1) := by decide +kernel
theorem dL_law_881 : decode cL_law 881 = .ok (.iadd, 1) := by decide +kernel
theorem dL_law_882 : decode cL_law 882 = .ok (.iaload, 1) := by decide +kernel
theorem dL_law_883 : decode cL_law 883 = .ok (.invokevirtual 132, 3) := by decide +kernel
theorem dL_law_886 : decode cL_law 886 = .ok (.aload_n 2, 1) := by decide +kernel
theorem dL_law_887 : decode cL_law 887 = .ok (.aload_n 0, 1) := by decide +kernel
theorem dL_law_888 : decode cL_law 888 = .ok (.iload_n 3, 1) := by decide +kernel
theorem dL_law_889 : decode cL_law 889 = .ok (.iconst 1, 1) := by decide +kernel
theorem dL_law_890 : decode cL_law 890 = .ok (.iadd, 1) := by decide +kernel
theorem dL_law_891 : decode cL_law 891 = .ok (.iaload, 1) := by decide +kernel
theorem dL_law_892 : decode cL_law 892 = .ok (.aload_n 0, 1) := by decide +kernel
theorem dL_law_893 : decode cL_law 893 = .ok (.iload_n 3, 1) := by decide +kernel
theorem dL_law_894 : decode cL_law 894 = .ok (.iconst 2, 1) := by decide +kernel
theorem dL_law_895 : decode cL_law 895 = .ok (.iadd, 1) := by decide +kernel
theorem dL_law_896 : decode cL_law 896 = .ok (.iaload, 1) := by decide +kernel
theorem dL_law_897 : decode cL_law 897 = .ok (.aload_n 0, 1) := by decide +kernel
theorem dL_law_898 : decode cL_law 898 = .ok (.iload_n 3, 1) := by decide +kernel
theorem dL_law_899 : decode cL_law 899 = .ok (.iconst 3, 1) := by decide +kernel
theorem dL_law_900 : decode cL_law 900 = .ok (.iadd, 1) := by decide +kernel
theorem dL_law_901 : decode cL_law 901 = .ok (.iaload, 1) := by decide +kernel
theorem dL_law_902 : decode cL_law 902 = .ok (.invokevirtual 136, 3) := by decide +kernel
theorem dL_law_905 : decode cL_law 905 = .ok (.if_icmp .eq 54, 3) := by decide +kernel
theorem dL_law_908 : decode cL_law 908 = .ok (.iconst 0, 1) := by decide +kernel
theorem dL_law_909 : decode cL_law 909 = .ok (.ireturn, 1) := by decide +kernel
theorem dL_law_910 : decode cL_law 910 = .ok (.aload_n 1, 1) := by decide +kernel
theorem dL_law_911 : decode cL_law 911 = .ok (.invokevirtual 137, 3) := by decide +kernel
theorem dL_law_914 : decode cL_law 914 = .ok (.aload_n 2, 1) := by decide +kernel
theorem dL_law_915 : decode cL_law 915 = .ok (.invokevirtual 140, 3) := by decide +kernel
theorem dL_law_918 : decode cL_law 918 = .ok (.if_icmp .eq 41, 3) := by decide +kernel
theorem dL_law_921 : decode cL_law 921 = .ok (.iconst 0, 1) := by decide +kernel
theorem dL_law_922 : decode cL_law 922 = .ok (.ireturn, 1) := by decide +kernel
theorem dL_law_923 : decode cL_law 923 = .ok (.aload_n 1, 1) := by decide +kernel
theorem dL_law_924 : decode cL_law 924 = .ok (.invokevirtual 141, 3) := by decide +kernel
theorem dL_law_927 : decode cL_law 927 = .ok (.aload_n 2, 1) := by decide +kernel
theorem dL_law_928 : decode cL_law 928 = .ok (.invokevirtual 144, 3) := by decide +kernel
theorem dL_law_931 : decode cL_law 931 = .ok (.if_icmp .eq 28, 3) := by decide +kernel
theorem dL_law_934 : decode cL_law 934 = .ok (.iconst 0, 1) := by decide +kernel
theorem dL_law_935 : decode cL_law 935 = .ok (.ireturn, 1) := by decide +kernel
theorem dL_law_936 : decode cL_law 936 = .ok (.aload_n 1, 1) := by decide +kernel
theorem dL_law_937 : decode cL_law 937 = .ok (.aload_n 0, 1) := by decide +kernel
theorem dL_law_938 : decode cL_law 938 = .ok (.iload_n 3, 1) := by decide +kernel
theorem dL_law_939 : decode cL_law 939 = .ok (.iconst 1, 1) := by decide +kernel
theorem dL_law_940 : decode cL_law 940 = .ok (.iadd, 1) := by decide +kernel
theorem dL_law_941 : decode cL_law 941 = .ok (.iaload, 1) := by decide +kernel
theorem dL_law_942 : decode cL_law 942 = .ok (.invokevirtual 145, 3) := by decide +kernel
theorem dL_law_945 : decode cL_law 945 = .ok (.aload_n 2, 1) := by decide +kernel
theorem dL_law_946 : decode cL_law 946 = .ok (.aload_n 0, 1) := by decide +kernel
theorem dL_law_947 : decode cL_law 947 = .ok (.iload_n 3, 1) := by decide +kernel
theorem dL_law_948 : decode cL_law 948 = .ok (.iconst 1, 1) := by decide +kernel
theorem dL_law_949 : decode cL_law 949 = .ok (.iadd, 1) := by decide +kernel
theorem dL_law_950 : decode cL_law 950 = .ok (.iaload, 1) := by decide +kernel
theorem dL_law_951 : decode cL_law 951 = .ok (.invokevirtual 148, 3) := by decide +kernel
theorem dL_law_954 : decode cL_law 954 = .ok (.if_icmp .eq 5, 3) := by decide +kernel
theorem dL_law_957 : decode cL_law 957 = .ok (.iconst 0, 1) := by decide +kernel
theorem dL_law_958 : decode cL_law 958 = .ok (.ireturn, 1) := by decide +kernel
theorem dL_law_959 : decode cL_law 959 = .ok (.iinc 3 4, 3) := by decide +kernel
theorem dL_law_962 : decode cL_law 962 = .ok (.goto (-944), 3) := by decide +kernel
theorem dL_law_965 : decode cL_law 965 = .ok (.iconst 1, 1) := by decide +kernel
theorem dL_law_966 : decode cL_law 966 = .ok (.ireturn, 1) := by decide +kernel
abbrev vwCl : List vw_C := [(RX0, TX0, 4), (RX1, TX1, 2), (RX2, TX2, 3), (RX3, TX3, 1), (RX4, TX4, 8), (RX5, TX5, 13), (RX6, TX6, 22)]

