theorem dX5_lotsThatFree_110 : decode cX5_lotsThatFree 110 = .ok (.iload_n 3, 1) := by decide +kernel
theorem dX5_lotsThatFree_111 : decode cX5_lotsThatFree 111 = .ok (.ireturn, 1) := by decide +kernel
theorem dX5_lotsInAll_0 : decode cX5_lotsInAll 0 = .ok (.iload_n 0, 1) := by decide +kernel
theorem dX5_lotsInAll_1 : decode cX5_lotsInAll 1 = .ok (.ifCond .ne 5, 3) := by decide +kernel
theorem dX5_lotsInAll_4 : decode cX5_lotsInAll 4 = .ok (.iconst 1, 1) := by decide +kernel
theorem dX5_lotsInAll_5 : decode cX5_lotsInAll 5 = .ok (.ireturn, 1) := by decide +kernel
theorem dX5_lotsInAll_6 : decode cX5_lotsInAll 6 = .ok (.iload_n 0, 1) := by decide +kernel
theorem dX5_lotsInAll_7 : decode cX5_lotsInAll 7 = .ok (.iconst 1, 1) := by decide +kernel
theorem dX5_lotsInAll_8 : decode cX5_lotsInAll 8 = .ok (.if_icmp .ne 7, 3) := by decide +kernel
theorem dX5_lotsInAll_11 : decode cX5_lotsInAll 11 = .ok (.iload_n 1, 1) := by decide +kernel
theorem dX5_lotsInAll_12 : decode cX5_lotsInAll 12 = .ok (.goto 10, 3) := by decide +kernel
theorem dX5_lotsInAll_15 : decode cX5_lotsInAll 15 = .ok (.iload_n 1, 1) := by decide +kernel
theorem dX5_lotsInAll_16 : decode cX5_lotsInAll 16 = .ok (.iload_n 1, 1) := by decide +kernel
theorem dX5_lotsInAll_17 : decode cX5_lotsInAll 17 = .ok (.iconst 1, 1) := by decide +kernel
theorem dX5_lotsInAll_18 : decode cX5_lotsInAll 18 = .ok (.isub, 1) := by decide +kernel
theorem dX5_lotsInAll_19 : decode cX5_lotsInAll 19 = .ok (.imul, 1) := by decide +kernel
theorem dX5_lotsInAll_20 : decode cX5_lotsInAll 20 = .ok (.iconst 2, 1) := by decide +kernel
theorem dX5_lotsInAll_21 : decode cX5_lotsInAll 21 = .ok (.idiv, 1) := by decide +kernel
theorem dX5_lotsInAll_22 : decode cX5_lotsInAll 22 = .ok (.ireturn, 1) := by decide +kernel
theorem dX5_greatestDivisor_0 : decode cX5_greatestDivisor 0 = .ok (.iload_n 1, 1) := by decide +kernel
theorem dX5_greatestDivisor_1 : decode cX5_greatestDivisor 1 = .ok (.istore_n 2, 1) := by decide +kernel
theorem dX5_greatestDivisor_2 : decode cX5_greatestDivisor 2 = .ok (.iload_n 0, 1) := by decide +kernel
theorem dX5_greatestDivisor_3 : decode cX5_greatestDivisor 3 = .ok (.istore_n 3, 1) := by decide +kernel
theorem dX5_greatestDivisor_4 : decode cX5_greatestDivisor 4 = .ok (.iconst 0, 1) := by decide +kernel
theorem dX5_greatestDivisor_5 : decode cX5_greatestDivisor 5 = .ok (.istore 4, 2) := by decide +kernel
theorem dX5_greatestDivisor_7 : decode cX5_greatestDivisor 7 = .ok (.iload 4, 2) := by decide +kernel
theorem dX5_greatestDivisor_9 : decode cX5_greatestDivisor 9 = .ok (.sipush 504, 3) := by decide +kernel
theorem dX5_greatestDivisor_12 : decode cX5_greatestDivisor 12 = .ok (.if_icmp .ge 23, 3) := by decide +kernel
theorem dX5_greatestDivisor_15 : decode cX5_greatestDivisor 15 = .ok (.iload_n 3, 1) := by decide +kernel
theorem dX5_greatestDivisor_16 : decode cX5_greatestDivisor 16 = .ok (.ifCond .eq 19, 3) := by decide +kernel
theorem dX5_greatestDivisor_19 : decode cX5_greatestDivisor 19 = .ok (.iload_n 2, 1) := by decide +kernel
theorem dX5_greatestDivisor_20 : decode cX5_greatestDivisor 20 = .ok (.iload_n 3, 1) := by decide +kernel
theorem dX5_greatestDivisor_21 : decode cX5_greatestDivisor 21 = .ok (.irem, 1) := by decide +kernel
theorem dX5_greatestDivisor_22 : decode cX5_greatestDivisor 22 = .ok (.istore 5, 2) := by decide +kernel
theorem dX5_greatestDivisor_24 : decode cX5_greatestDivisor 24 = .ok (.iload_n 3, 1) := by decide +kernel
theorem dX5_greatestDivisor_25 : decode cX5_greatestDivisor 25 = .ok (.istore_n 2, 1) := by decide +kernel
theorem dX5_greatestDivisor_26 : decode cX5_greatestDivisor 26 = .ok (.iload 5, 2) := by decide +kernel
theorem dX5_greatestDivisor_28 : decode cX5_greatestDivisor 28 = .ok (.istore_n 3, 1) := by decide +kernel
theorem dX5_greatestDivisor_29 : decode cX5_greatestDivisor 29 = .ok (.iinc 4 1, 3) := by decide +kernel
theorem dX5_greatestDivisor_32 : decode cX5_greatestDivisor 32 = .ok (.goto (-25), 3) := by decide +kernel
theorem dX5_greatestDivisor_35 : decode cX5_greatestDivisor 35 = .ok (.iload_n 2, 1) := by decide +kernel
theorem dX5_greatestDivisor_36 : decode cX5_greatestDivisor 36 = .ok (.ireturn, 1) := by decide +kernel
set_option maxRecDepth 20000 in
theorem ggX5_wrongFits_X4_canBeDone : GoodIn wsX5_wrongFits wsX4_canBeDone := goodIn_r _ [8, 9, 10, 11, 7, 12, 13, 14, 15, 16, 17, 18, 19, 20, 21, 22, 23, 24, 25, 26, 27, 28, 29, 30, 31, 32, 102, 103, 104, 105, 106, 107, 108, 109] (by decide +kernel) (by decide +kernel)
set_option maxRecDepth 20000 in
theorem gX5_wrongFits_X4_canBeDone : GoodIn wsX5_wrongFits (wsV RX5 197 RX4 yX4_canBeDone wsX4_canBeDone) := goodIn_app (goodIn_of _ (by decide +kernel)) ggX5_wrongFits_X4_canBeDone
set_option maxRecDepth 20000 in
theorem ggX5_wrongFits_X4_copyFrom : GoodIn wsX5_wrongFits wsX4_copyFrom := goodIn_r _ [36, 37, 38, 39, 13, 27, 40, 41, 42, 43, 44, 18, 28, 102, 103, 104, 105, 106, 107, 108, 109] (by decide +kernel) (by decide +kernel)
set_option maxRecDepth 20000 in
theorem gX5_wrongFits_X4_copyFrom : GoodIn wsX5_wrongFits (wsV RX5 91 RX4 yX4_copyFrom wsX4_copyFrom) := goodIn_app (goodIn_of _ (by decide +kernel)) ggX5_wrongFits_X4_copyFrom
set_option maxRecDepth 20000 in
theorem ggX5_wrongFits_X4_perform : GoodIn wsX5_wrongFits wsX4_perform := goodIn_r _ [48, 49, 50, 51, 7, 52, 53, 54, 55, 56, 14, 15, 16, 17, 18, 57, 58, 59, 60, 28, 61, 62, 63, 64, 27, 65, 66, 67, 68, 38, 69, 70, 71, 72, 13, 37, 73, 74, 75, 76, 77, 78, 79, 80, 9, 10, 11, 12, 102, 103, 104, 105, 106, 107, 108, 109] (by decide +kernel) (by decide +kernel)
set_option maxRecDepth 20000 in
theorem gX5_wrongFits_X4_perform : GoodIn wsX5_wrongFits (wsV RX5 259 RX4 yX4_perform wsX4_perform) := goodIn_app (goodIn_of _ (by decide +kernel)) ggX5_wrongFits_X4_perform
set_option maxRecDepth 20000 in
theorem ggX5_wrongFits_X4_anySpeakIn : GoodIn wsX5_wrongFits wsX4_anySpeakIn := goodIn_r _ [84, 37, 44, 85, 86, 87, 7, 88, 9, 10, 11, 12, 13, 14, 15, 16, 17, 18, 102, 103, 104, 105, 106, 107, 108, 109] (by decide +kernel) (by decide +kernel)
set_option maxRecDepth 20000 in
theorem gX5_wrongFits_X4_anySpeakIn : GoodIn wsX5_wrongFits (wsV RX5 277 RX4 yX4_anySpeakIn wsX4_anySpeakIn) := goodIn_app (goodIn_of _ (by decide +kernel)) ggX5_wrongFits_X4_anySpeakIn
theorem dX5_wrongFits_0 : decode cX5_wrongFits 0 = .ok (.aload_n 0, 1) := by decide +kernel
theorem dX5_wrongFits_1 : decode cX5_wrongFits 1 = .ok (.getfield 31, 3) := by decide +kernel
theorem dX5_wrongFits_4 : decode cX5_wrongFits 4 = .ok (.iconst 0, 1) := by decide +kernel
theorem dX5_wrongFits_5 : decode cX5_wrongFits 5 = .ok (.iload_n 1, 1) := by decide +kernel
theorem dX5_wrongFits_6 : decode cX5_wrongFits 6 = .ok (.iload_n 2, 1) := by decide +kernel
theorem dX5_wrongFits_7 : decode cX5_wrongFits 7 = .ok (.invokevirtual 197, 3) := by decide +kernel
theorem dX5_wrongFits_10 : decode cX5_wrongFits 10 = .ok (.ifCond .ne 5, 3) := by decide +kernel
theorem dX5_wrongFits_13 : decode cX5_wrongFits 13 = .ok (.iconst 0, 1) := by decide +kernel
theorem dX5_wrongFits_14 : decode cX5_wrongFits 14 = .ok (.ireturn, 1) := by decide +kernel
theorem dX5_wrongFits_15 : decode cX5_wrongFits 15 = .ok (.aload_n 0, 1) := by decide +kernel
theorem dX5_wrongFits_16 : decode cX5_wrongFits 16 = .ok (.getfield 37, 3) := by decide +kernel
theorem dX5_wrongFits_19 : decode cX5_wrongFits 19 = .ok (.aload_n 0, 1) := by decide +kernel
theorem dX5_wrongFits_20 : decode cX5_wrongFits 20 = .ok (.getfield 31, 3) := by decide +kernel
theorem dX5_wrongFits_23 : decode cX5_wrongFits 23 = .ok (.invokevirtual 91, 3) := by decide +kernel
theorem dX5_wrongFits_26 : decode cX5_wrongFits 26 = .ok (.aload_n 0, 1) := by decide +kernel
theorem dX5_wrongFits_27 : decode cX5_wrongFits 27 = .ok (.getfield 37, 3) := by decide +kernel
theorem dX5_wrongFits_30 : decode cX5_wrongFits 30 = .ok (.iconst 0, 1) := by decide +kernel
theorem dX5_wrongFits_31 : decode cX5_wrongFits 31 = .ok (.iload_n 1, 1) := by decide +kernel
theorem dX5_wrongFits_32 : decode cX5_wrongFits 32 = .ok (.iload_n 2, 1) := by decide +kernel
theorem dX5_wrongFits_33 : decode cX5_wrongFits 33 = .ok (.invokevirtual 259, 3) := by decide +kernel
theorem dX5_wrongFits_36 : decode cX5_wrongFits 36 = .ok (.aload_n 0, 1) := by decide +kernel
theorem dX5_wrongFits_37 : decode cX5_wrongFits 37 = .ok (.getfield 37, 3) := by decide +kernel
theorem dX5_wrongFits_40 : decode cX5_wrongFits 40 = .ok (.aload_n 0, 1) := by decide +kernel
theorem dX5_wrongFits_41 : decode cX5_wrongFits 41 = .ok (.getfield 237, 3) := by decide +kernel
theorem dX5_wrongFits_44 : decode cX5_wrongFits 44 = .ok (.invokevirtual 277, 3) := by decide +kernel
theorem dX5_wrongFits_47 : decode cX5_wrongFits 47 = .ok (.ifCond .ne 7, 3) := by decide +kernel
theorem dX5_wrongFits_50 : decode cX5_wrongFits 50 = .ok (.iconst 1, 1) := by decide +kernel
theorem dX5_wrongFits_51 : decode cX5_wrongFits 51 = .ok (.goto 4, 3) := by decide +kernel
theorem dX5_wrongFits_54 : decode cX5_wrongFits 54 = .ok (.iconst 0, 1) := by decide +kernel
theorem dX5_wrongFits_55 : decode cX5_wrongFits 55 = .ok (.ireturn, 1) := by decide +kernel
set_option maxRecDepth 20000 in
theorem ggX5_bowsInStep_X4_persons : GoodIn wsX5_bowsInStep wsX4_persons := goodIn_r _ [9, 10, 94, 95, 96, 97, 98, 99, 100, 101] (by decide +kernel) (by decide +kernel)
set_option maxRecDepth 20000 in
theorem gX5_bowsInStep_X4_persons : GoodIn wsX5_bowsInStep (wsV RX5 88 RX4 yX4_persons wsX4_persons) := goodIn_app (goodIn_of _ (by decide +kernel)) ggX5_bowsInStep_X4_persons
set_option maxRecDepth 20000 in
theorem ggX5_bowsInStep_X4_passDay : GoodIn wsX5_bowsInStep wsX4_passDay := goodIn_r _ [14, 15, 10, 16, 17, 18, 19, 8, 20, 21, 22, 23, 24, 25, 26, 27, 28, 29, 30, 31, 32, 33, 34, 35, 36, 37, 38, 39, 94, 95, 96, 97, 98, 99, 100, 101] (by decide +kernel) (by decide +kernel)
set_option maxRecDepth 20000 in
theorem gX5_bowsInStep_X4_passDay : GoodIn wsX5_bowsInStep (wsV RX5 231 RX4 yX4_passDay wsX4_passDay) := goodIn_app (goodIn_of _ (by decide +kernel)) ggX5_bowsInStep_X4_passDay
set_option maxRecDepth 20000 in
theorem ggX5_bowsInStep_X4_canBeDone : GoodIn wsX5_bowsInStep wsX4_canBeDone := goodIn_r _ [43, 17, 18, 19, 8, 20, 21, 30, 31, 32, 33, 34, 44, 45, 46, 47, 48, 49, 50, 51, 16, 39, 52, 53, 54, 55, 94, 95, 96, 97, 98, 99, 100, 101] (by decide +kernel) (by decide +kernel)
set_option maxRecDepth 20000 in
theorem gX5_bowsInStep_X4_canBeDone : GoodIn wsX5_bowsInStep (wsV RX5 197 RX4 yX4_canBeDone wsX4_canBeDone) := goodIn_app (goodIn_of _ (by decide +kernel)) ggX5_bowsInStep_X4_canBeDone
set_option maxRecDepth 20000 in
theorem ggX5_bowsInStep_X4_perform : GoodIn wsX5_bowsInStep wsX4_perform := goodIn_r _ [59, 22, 23, 24, 8, 25, 26, 27, 28, 29, 30, 31, 32, 33, 34, 35, 36, 37, 38, 39, 60, 61, 62, 63, 16, 64, 65, 66, 67, 15, 68, 69, 70, 71, 21, 10, 72, 73, 74, 75, 76, 12, 13, 14, 17, 18, 19, 20, 94, 95, 96, 97, 98, 99, 100, 101] (by decide +kernel) (by decide +kernel)
set_option maxRecDepth 20000 in
theorem gX5_bowsInStep_X4_perform : GoodIn wsX5_bowsInStep (wsV RX5 259 RX4 yX4_perform wsX4_perform) := goodIn_app (goodIn_of _ (by decide +kernel)) ggX5_bowsInStep_X4_perform
set_option maxRecDepth 20000 in
theorem ggX5_bowsInStep_X5_asNumber : GoodIn wsX5_bowsInStep wsX5_asNumber := goodIn_r _ [80] (by decide +kernel) (by decide +kernel)
set_option maxRecDepth 20000 in
theorem gX5_bowsInStep_X5_asNumber : GoodIn wsX5_bowsInStep (va_wsS RX5 117 yX5_asNumber wsX5_asNumber) := goodIn_app (goodIn_of _ (by decide +kernel)) ggX5_bowsInStep_X5_asNumber
theorem dX5_bowsInStep_0 : decode cX5_bowsInStep 0 = .ok (.aload_n 0, 1) := by decide +kernel
theorem dX5_bowsInStep_1 : decode cX5_bowsInStep 1 = .ok (.getfield 37, 3) := by decide +kernel
theorem dX5_bowsInStep_4 : decode cX5_bowsInStep 4 = .ok (.invokevirtual 88, 3) := by decide +kernel
theorem dX5_bowsInStep_7 : decode cX5_bowsInStep 7 = .ok (.istore_n 3, 1) := by decide +kernel
theorem dX5_bowsInStep_8 : decode cX5_bowsInStep 8 = .ok (.iload_n 3, 1) := by decide +kernel
theorem dX5_bowsInStep_9 : decode cX5_bowsInStep 9 = .ok (.iconst 1, 1) := by decide +kernel
theorem dX5_bowsInStep_10 : decode cX5_bowsInStep 10 = .ok (.if_icmp .ge 5, 3) := by decide +kernel
theorem dX5_bowsInStep_13 : decode cX5_bowsInStep 13 = .ok (.iconst 0, 1) := by decide +kernel
theorem dX5_bowsInStep_14 : decode cX5_bowsInStep 14 = .ok (.ireturn, 1) := by decide +kernel
theorem dX5_bowsInStep_15 : decode cX5_bowsInStep 15 = .ok (.ldc2_w 280, 3) := by decide +kernel
theorem dX5_bowsInStep_18 : decode cX5_bowsInStep 18 = .ok (.iload_n 1, 1) := by decide +kernel
theorem dX5_bowsInStep_19 : decode cX5_bowsInStep 19 = .ok (.i2l, 1) := by decide +kernel
theorem dX5_bowsInStep_20 : decode cX5_bowsInStep 20 = .ok (.lmul, 1) := by decide +kernel
theorem dX5_bowsInStep_21 : decode cX5_bowsInStep 21 = .ok (.ldc2_w 282, 3) := by decide +kernel
theorem dX5_bowsInStep_24 : decode cX5_bowsInStep 24 = .ok (.iload_n 2, 1) := by decide +kernel
theorem dX5_bowsInStep_25 : decode cX5_bowsInStep 25 = .ok (.i2l, 1) := by decide +kernel
theorem dX5_bowsInStep_26 : decode cX5_bowsInStep 26 = .ok (.lmul, 1) := by decide +kernel
theorem dX5_bowsInStep_27 : decode cX5_bowsInStep 27 = .ok (.ladd, 1) := by decide +kernel
theorem dX5_bowsInStep_28 : decode cX5_bowsInStep 28 = .ok (.lconst 1, 1) := by decide +kernel
theorem dX5_bowsInStep_29 : decode cX5_bowsInStep 29 = .ok (.ladd, 1) := by decide +kernel
theorem dX5_bowsInStep_30 : decode cX5_bowsInStep 30 = .ok (.lstore 4, 2) := by decide +kernel
theorem dX5_bowsInStep_32 : decode cX5_bowsInStep 32 = .ok (.lload 4, 2) := by decide +kernel
theorem dX5_bowsInStep_34 : decode cX5_bowsInStep 34 = .ok (.lload 4, 2) := by decide +kernel
theorem dX5_bowsInStep_36 : decode cX5_bowsInStep 36 = .ok (.lmul, 1) := by decide +kernel
theorem dX5_bowsInStep_37 : decode cX5_bowsInStep 37 = .ok (.ldc2_w 284, 3) := by decide +kernel
theorem dX5_bowsInStep_40 : decode cX5_bowsInStep 40 = .ok (.lrem, 1) := by decide +kernel
theorem dX5_bowsInStep_41 : decode cX5_bowsInStep 41 = .ok (.l2i, 1) := by decide +kernel
theorem dX5_bowsInStep_42 : decode cX5_bowsInStep 42 = .ok (.istore 6, 2) := by decide +kernel
theorem dX5_bowsInStep_44 : decode cX5_bowsInStep 44 = .ok (.iload 6, 2) := by decide +kernel
theorem dX5_bowsInStep_46 : decode cX5_bowsInStep 46 = .ok (.iload_n 3, 1) := by decide +kernel
theorem dX5_bowsInStep_47 : decode cX5_bowsInStep 47 = .ok (.irem, 1) := by decide +kernel
theorem dX5_bowsInStep_48 : decode cX5_bowsInStep 48 = .ok (.istore 7, 2) := by decide +kernel
theorem dX5_bowsInStep_50 : decode cX5_bowsInStep 50 = .ok (.iload 6, 2) := by decide +kernel
theorem dX5_bowsInStep_52 : decode cX5_bowsInStep 52 = .ok (.bipush 8, 2) := by decide +kernel
theorem dX5_bowsInStep_54 : decode cX5_bowsInStep 54 = .ok (.idiv, 1) := by decide +kernel
theorem dX5_bowsInStep_55 : decode cX5_bowsInStep 55 = .ok (.iload_n 3, 1) := by decide +kernel
theorem dX5_bowsInStep_56 : decode cX5_bowsInStep 56 = .ok (.irem, 1) := by decide +kernel
theorem dX5_bowsInStep_57 : decode cX5_bowsInStep 57 = .ok (.istore 8, 2) := by decide +kernel
theorem dX5_bowsInStep_59 : decode cX5_bowsInStep 59 = .ok (.iload 6, 2) := by decide +kernel
theorem dX5_bowsInStep_61 : decode cX5_bowsInStep 61 = .ok (.bipush 64, 2) := by decide +kernel
theorem dX5_bowsInStep_63 : decode cX5_bowsInStep 63 = .ok (.idiv, 1) := by decide +kernel
theorem dX5_bowsInStep_64 : decode cX5_bowsInStep 64 = .ok (.iconst 4, 1) := by decide +kernel
theorem dX5_bowsInStep_65 : decode cX5_bowsInStep 65 = .ok (.irem, 1) := by decide +kernel
theorem dX5_bowsInStep_66 : decode cX5_bowsInStep 66 = .ok (.istore 9, 2) := by decide +kernel
theorem dX5_bowsInStep_68 : decode cX5_bowsInStep 68 = .ok (.iload 9, 2) := by decide +kernel
theorem dX5_bowsInStep_70 : decode cX5_bowsInStep 70 = .ok (.iconst 1, 1) := by decide +kernel
theorem dX5_bowsInStep_71 : decode cX5_bowsInStep 71 = .ok (.if_icmp .ne 12, 3) := by decide +kernel
theorem dX5_bowsInStep_74 : decode cX5_bowsInStep 74 = .ok (.aload_n 0, 1) := by decide +kernel
theorem dX5_bowsInStep_75 : decode cX5_bowsInStep 75 = .ok (.getfield 37, 3) := by decide +kernel
theorem dX5_bowsInStep_78 : decode cX5_bowsInStep 78 = .ok (.invokevirtual 231, 3) := by decide +kernel
theorem dX5_bowsInStep_81 : decode cX5_bowsInStep 81 = .ok (.iconst 0, 1) := by decide +kernel
theorem dX5_bowsInStep_82 : decode cX5_bowsInStep 82 = .ok (.ireturn, 1) := by decide +kernel
theorem dX5_bowsInStep_83 : decode cX5_bowsInStep 83 = .ok (.iload 9, 2) := by decide +kernel
theorem dX5_bowsInStep_85 : decode cX5_bowsInStep 85 = .ok (.ifCond .ne 7, 3) := by decide +kernel
theorem dX5_bowsInStep_88 : decode cX5_bowsInStep 88 = .ok (.iconst 0, 1) := by decide +kernel
theorem dX5_bowsInStep_89 : decode cX5_bowsInStep 89 = .ok (.goto 4, 3) := by decide +kernel
theorem dX5_bowsInStep_92 : decode cX5_bowsInStep 92 = .ok (.iconst 1, 1) := by decide +kernel
theorem dX5_bowsInStep_93 : decode cX5_bowsInStep 93 = .ok (.istore 10, 2) := by decide +kernel
theorem dX5_bowsInStep_95 : decode cX5_bowsInStep 95 = .ok (.aload_n 0, 1) := by decide +kernel
theorem dX5_bowsInStep_96 : decode cX5_bowsInStep 96 = .ok (.getfield 37, 3) := by decide +kernel
theorem dX5_bowsInStep_99 : decode cX5_bowsInStep 99 = .ok (.iload 10, 2) := by decide +kernel
theorem dX5_bowsInStep_101 : decode cX5_bowsInStep 101 = .ok (.iload 7, 2) := by decide +kernel
theorem dX5_bowsInStep_103 : decode cX5_bowsInStep 103 = .ok (.iload 8, 2) := by decide +kernel
theorem dX5_bowsInStep_105 : decode cX5_bowsInStep 105 = .ok (.invokevirtual 197, 3) := by decide +kernel
theorem dX5_bowsInStep_108 : decode cX5_bowsInStep 108 = .ok (.ifCond .ne 5, 3) := by decide +kernel
theorem dX5_bowsInStep_111 : decode cX5_bowsInStep 111 = .ok (.iconst 0, 1) := by decide +kernel
theorem dX5_bowsInStep_112 : decode cX5_bowsInStep 112 = .ok (.ireturn, 1) := by decide +kernel
theorem dX5_bowsInStep_113 : decode cX5_bowsInStep 113 = .ok (.aload_n 0, 1) := by decide +kernel
theorem dX5_bowsInStep_114 : decode cX5_bowsInStep 114 = .ok (.getfield 37, 3) := by decide +kernel
theorem dX5_bowsInStep_117 : decode cX5_bowsInStep 117 = .ok (.iload 10, 2) := by decide +kernel
theorem dX5_bowsInStep_119 : decode cX5_bowsInStep 119 = .ok (.iload 7, 2) := by decide +kernel
theorem dX5_bowsInStep_121 : decode cX5_bowsInStep 121 = .ok (.iload 8, 2) := by decide +kernel
theorem dX5_bowsInStep_123 : decode cX5_bowsInStep 123 = .ok (.invokevirtual 259, 3) := by decide +kernel
theorem dX5_bowsInStep_126 : decode cX5_bowsInStep 126 = .ok (.iload 10, 2) := by decide +kernel
theorem dX5_bowsInStep_128 : decode cX5_bowsInStep 128 = .ok (.iconst 1, 1) := by decide +kernel
theorem dX5_bowsInStep_129 : decode cX5_bowsInStep 129 = .ok (.if_icmp .ne 7, 3) := by decide +kernel
theorem dX5_bowsInStep_132 : decode cX5_bowsInStep 132 = .ok (.iconst 1, 1) := by decide +kernel
theorem dX5_bowsInStep_133 : decode cX5_bowsInStep 133 = .ok (.goto 4, 3) := by decide +kernel
theorem dX5_bowsInStep_136 : decode cX5_bowsInStep 136 = .ok (.iconst 0, 1) := by decide +kernel
theorem dX5_bowsInStep_137 : decode cX5_bowsInStep 137 = .ok (.invokestatic 117, 3) := by decide +kernel
theorem dX5_bowsInStep_140 : decode cX5_bowsInStep 140 = .ok (.ireturn, 1) := by decide +kernel
set_option maxRecDepth 20000 in
theorem ggX6_init_X6_noTown : GoodIn wsX6_init wsX6_noTown := goodIn_r _ [27, 6, 10, 9, 95, 96, 97, 98, 99, 100, 101, 102, 103, 104, 105, 106, 107, 108, 109, 110, 111, 112, 113, 114, 115, 116] (by decide +kernel) (by decide +kernel)
set_option maxRecDepth 20000 in
theorem gX6_init_X6_noTown : GoodIn wsX6_init (wsV RX6 64 RX6 yX6_noTown wsX6_noTown) := goodIn_app (goodIn_of _ (by decide +kernel)) ggX6_init_X6_noTown
set_option maxRecDepth 20000 in
theorem ggX6_init_X6_addPerson : GoodIn wsX6_init wsX6_addPerson := goodIn_r _ [31, 7, 6, 8, 95, 96, 97, 98, 99, 100, 101, 102, 103, 104, 105, 106, 107, 108, 109, 110, 111, 112, 113, 114, 115, 116] (by decide +kernel) (by decide +kernel)
set_option maxRecDepth 20000 in
theorem gX6_init_X6_addPerson : GoodIn wsX6_init (wsV RX6 68 RX6 yX6_addPerson wsX6_addPerson) := goodIn_app (goodIn_of _ (by decide +kernel)) ggX6_init_X6_addPerson
set_option maxRecDepth 20000 in
theorem ggX6_init_X6_begin : GoodIn wsX6_init wsX6_begin := goodIn_r _ [35, 36, 37, 38, 26, 39, 17, 9, 18, 6, 19, 20, 11, 12, 13, 14, 40, 41, 42, 43, 44, 45, 46, 47, 48, 49, 50, 51, 52, 53, 54, 55, 56, 57, 58, 59, 60, 61, 62, 7, 63, 64, 65, 66, 67, 68, 69, 70, 71, 72, 73, 74, 75, 76, 77, 78, 79, 80, 81, 82, 83, 84, 85, 86, 87, 88, 89, 90, 91, 92, 93, 94, 95, 96, 97, 98, 99, 100, 101, 102, 103, 104, 105, 106, 107, 108, 109, 110, 111, 112, 113, 114, 115, 116] (by decide +kernel) (by decide +kernel)
set_option maxRecDepth 20000 in
theorem gX6_init_X6_begin : GoodIn wsX6_init (wsV RX6 72 RX6 yX6_begin wsX6_begin) := goodIn_app (goodIn_of _ (by decide +kernel)) ggX6_init_X6_begin
theorem dX6_init_0 : decode cX6_init 0 = .ok (.aload_n 0, 1) := by decide +kernel
theorem dX6_init_1 : decode cX6_init 1 = .ok (.invokespecial 1, 3) := by decide +kernel
theorem dX6_init_4 : decode cX6_init 4 = .ok (.aload_n 0, 1) := by decide +kernel
theorem dX6_init_5 : decode cX6_init 5 = .ok (.sipush 200, 3) := by decide +kernel
theorem dX6_init_8 : decode cX6_init 8 = .ok (.newarray .int, 2) := by decide +kernel
theorem dX6_init_10 : decode cX6_init 10 = .ok (.putfield 7, 3) := by decide +kernel
theorem dX6_init_13 : decode cX6_init 13 = .ok (.aload_n 0, 1) := by decide +kernel
theorem dX6_init_14 : decode cX6_init 14 = .ok (.iconst 2, 1) := by decide +kernel
theorem dX6_init_15 : decode cX6_init 15 = .ok (.newarray .int, 2) := by decide +kernel
theorem dX6_init_17 : decode cX6_init 17 = .ok (.putfield 13, 3) := by decide +kernel
theorem dX6_init_20 : decode cX6_init 20 = .ok (.aload_n 0, 1) := by decide +kernel
theorem dX6_init_21 : decode cX6_init 21 = .ok (.bipush 16, 2) := by decide +kernel
theorem dX6_init_23 : decode cX6_init 23 = .ok (.newarray .int, 2) := by decide +kernel
theorem dX6_init_25 : decode cX6_init 25 = .ok (.putfield 16, 3) := by decide +kernel
theorem dX6_init_28 : decode cX6_init 28 = .ok (.aload_n 0, 1) := by decide +kernel
theorem dX6_init_29 : decode cX6_init 29 = .ok (.bipush 16, 2) := by decide +kernel
theorem dX6_init_31 : decode cX6_init 31 = .ok (.newarray .int, 2) := by decide +kernel
theorem dX6_init_33 : decode cX6_init 33 = .ok (.putfield 19, 3) := by decide +kernel
theorem dX6_init_36 : decode cX6_init 36 = .ok (.aload_n 0, 1) := by decide +kernel
theorem dX6_init_37 : decode cX6_init 37 = .ok (.sipush 128, 3) := by decide +kernel
theorem dX6_init_40 : decode cX6_init 40 = .ok (.newarray .int, 2) := by decide +kernel
theorem dX6_init_42 : decode cX6_init 42 = .ok (.putfield 22, 3) := by decide +kernel
theorem dX6_init_45 : decode cX6_init 45 = .ok (.aload_n 0, 1) := by decide +kernel
theorem dX6_init_46 : decode cX6_init 46 = .ok (.iconst 2, 1) := by decide +kernel
theorem dX6_init_47 : decode cX6_init 47 = .ok (.newarray .int, 2) := by decide +kernel
theorem dX6_init_49 : decode cX6_init 49 = .ok (.putfield 25, 3) := by decide +kernel
theorem dX6_init_52 : decode cX6_init 52 = .ok (.aload_n 0, 1) := by decide +kernel
theorem dX6_init_53 : decode cX6_init 53 = .ok (.iconst 3, 1) := by decide +kernel
theorem dX6_init_54 : decode cX6_init 54 = .ok (.newarray .int, 2) := by decide +kernel
theorem dX6_init_56 : decode cX6_init 56 = .ok (.putfield 28, 3) := by decide +kernel
theorem dX6_init_59 : decode cX6_init 59 = .ok (.aload_n 0, 1) := by decide +kernel
theorem dX6_init_60 : decode cX6_init 60 = .ok (.bipush 120, 2) := by decide +kernel
theorem dX6_init_62 : decode cX6_init 62 = .ok (.newarray .int, 2) := by decide +kernel
theorem dX6_init_64 : decode cX6_init 64 = .ok (.putfield 31, 3) := by decide +kernel
theorem dX6_init_67 : decode cX6_init 67 = .ok (.aload_n 0, 1) := by decide +kernel
theorem dX6_init_68 : decode cX6_init 68 = .ok (.bipush 120, 2) := by decide +kernel
theorem dX6_init_70 : decode cX6_init 70 = .ok (.newarray .int, 2) := by decide +kernel
theorem dX6_init_72 : decode cX6_init 72 = .ok (.putfield 34, 3) := by decide +kernel
theorem dX6_init_75 : decode cX6_init 75 = .ok (.aload_n 0, 1) := by decide +kernel
theorem dX6_init_76 : decode cX6_init 76 = .ok (.bipush 120, 2) := by decide +kernel
theorem dX6_init_78 : decode cX6_init 78 = .ok (.newarray .int, 2) := by decide +kernel
theorem dX6_init_80 : decode cX6_init 80 = .ok (.putfield 37, 3) := by decide +kernel
theorem dX6_init_83 : decode cX6_init 83 = .ok (.aload_n 0, 1) := by decide +kernel
theorem dX6_init_84 : decode cX6_init 84 = .ok (.bipush 6, 2) := by decide +kernel
theorem dX6_init_86 : decode cX6_init 86 = .ok (.newarray .int, 2) := by decide +kernel
theorem dX6_init_88 : decode cX6_init 88 = .ok (.putfield 40, 3) := by decide +kernel
theorem dX6_init_91 : decode cX6_init 91 = .ok (.aload_n 0, 1) := by decide +kernel
theorem dX6_init_92 : decode cX6_init 92 = .ok (.iconst 3, 1) := by decide +kernel
theorem dX6_init_93 : decode cX6_init 93 = .ok (.newarray .int, 2) := by decide +kernel
theorem dX6_init_95 : decode cX6_init 95 = .ok (.putfield 43, 3) := by decide +kernel
theorem dX6_init_98 : decode cX6_init 98 = .ok (.aload_n 0, 1) := by decide +kernel
theorem dX6_init_99 : decode cX6_init 99 = .ok (.sipush 192, 3) := by decide +kernel
theorem dX6_init_102 : decode cX6_init 102 = .ok (.newarray .int, 2) := by decide +kernel
theorem dX6_init_104 : decode cX6_init 104 = .ok (.putfield 46, 3) := by decide +kernel
theorem dX6_init_107 : decode cX6_init 107 = .ok (.aload_n 0, 1) := by decide +kernel
theorem dX6_init_108 : decode cX6_init 108 = .ok (.iconst 3, 1) := by decide +kernel
theorem dX6_init_109 : decode cX6_init 109 = .ok (.newarray .int, 2) := by decide +kernel
theorem dX6_init_111 : decode cX6_init 111 = .ok (.putfield 49, 3) := by decide +kernel
theorem dX6_init_114 : decode cX6_init 114 = .ok (.aload_n 0, 1) := by decide +kernel
theorem dX6_init_115 : decode cX6_init 115 = .ok (.iconst 3, 1) := by decide +kernel
theorem dX6_init_116 : decode cX6_init 116 = .ok (.newarray .int, 2) := by decide +kernel
theorem dX6_init_118 : decode cX6_init 118 = .ok (.putfield 52, 3) := by decide +kernel
theorem dX6_init_121 : decode cX6_init 121 = .ok (.aload_n 0, 1) := by decide +kernel
theorem dX6_init_122 : decode cX6_init 122 = .ok (.iconst 3, 1) := by decide +kernel
theorem dX6_init_123 : decode cX6_init 123 = .ok (.newarray .int, 2) := by decide +kernel
theorem dX6_init_125 : decode cX6_init 125 = .ok (.putfield 55, 3) := by decide +kernel
theorem dX6_init_128 : decode cX6_init 128 = .ok (.aload_n 0, 1) := by decide +kernel
theorem dX6_init_129 : decode cX6_init 129 = .ok (.bipush 8, 2) := by decide +kernel
theorem dX6_init_131 : decode cX6_init 131 = .ok (.newarray .int, 2) := by decide +kernel
theorem dX6_init_133 : decode cX6_init 133 = .ok (.putfield 58, 3) := by decide +kernel
theorem dX6_init_136 : decode cX6_init 136 = .ok (.aload_n 0, 1) := by decide +kernel
theorem dX6_init_137 : decode cX6_init 137 = .ok (.sipush 128, 3) := by decide +kernel
theorem dX6_init_140 : decode cX6_init 140 = .ok (.newarray .int, 2) := by decide +kernel
theorem dX6_init_142 : decode cX6_init 142 = .ok (.putfield 61, 3) := by decide +kernel
theorem dX6_init_145 : decode cX6_init 145 = .ok (.aload_n 0, 1) := by decide +kernel
theorem dX6_init_146 : decode cX6_init 146 = .ok (.iconst 0, 1) := by decide +kernel
theorem dX6_init_147 : decode cX6_init 147 = .ok (.invokevirtual 64, 3) := by decide +kernel
theorem dX6_init_150 : decode cX6_init 150 = .ok (.aload_n 0, 1) := by decide +kernel
theorem dX6_init_151 : decode cX6_init 151 = .ok (.iconst 0, 1) := by decide +kernel
theorem dX6_init_152 : decode cX6_init 152 = .ok (.iconst 0, 1) := by decide +kernel
theorem dX6_init_153 : decode cX6_init 153 = .ok (.iconst 0, 1) := by decide +kernel
theorem dX6_init_154 : decode cX6_init 154 = .ok (.invokevirtual 68, 3) := by decide +kernel
theorem dX6_init_157 : decode cX6_init 157 = .ok (.aload_n 0, 1) := by decide +kernel
theorem dX6_init_158 : decode cX6_init 158 = .ok (.iconst 0, 1) := by decide +kernel
theorem dX6_init_159 : decode cX6_init 159 = .ok (.iconst 0, 1) := by decide +kernel
theorem dX6_init_160 : decode cX6_init 160 = .ok (.iconst 1, 1) := by decide +kernel
theorem dX6_init_161 : decode cX6_init 161 = .ok (.invokevirtual 68, 3) := by decide +kernel
theorem dX6_init_164 : decode cX6_init 164 = .ok (.aload_n 0, 1) := by decide +kernel
theorem dX6_init_165 : decode cX6_init 165 = .ok (.iconst 0, 1) := by decide +kernel
theorem dX6_init_166 : decode cX6_init 166 = .ok (.iconst 1, 1) := by decide +kernel
theorem dX6_init_167 : decode cX6_init 167 = .ok (.iconst 0, 1) := by decide +kernel
theorem dX6_init_168 : decode cX6_init 168 = .ok (.invokevirtual 68, 3) := by decide +kernel
theorem dX6_init_171 : decode cX6_init 171 = .ok (.aload_n 0, 1) := by decide +kernel
theorem dX6_init_172 : decode cX6_init 172 = .ok (.iconst 0, 1) := by decide +kernel
theorem dX6_init_173 : decode cX6_init 173 = .ok (.iconst 2, 1) := by decide +kernel
theorem dX6_init_174 : decode cX6_init 174 = .ok (.iconst 1, 1) := by decide +kernel
theorem dX6_init_175 : decode cX6_init 175 = .ok (.invokevirtual 68, 3) := by decide +kernel
theorem dX6_init_178 : decode cX6_init 178 = .ok (.aload_n 0, 1) := by decide +kernel
theorem dX6_init_179 : decode cX6_init 179 = .ok (.iconst 0, 1) := by decide +kernel
theorem dX6_init_180 : decode cX6_init 180 = .ok (.iconst 3, 1) := by decide +kernel
theorem dX6_init_181 : decode cX6_init 181 = .ok (.iconst 0, 1) := by decide +kernel
theorem dX6_init_182 : decode cX6_init 182 = .ok (.invokevirtual 68, 3) := by decide +kernel
theorem dX6_init_185 : decode cX6_init 185 = .ok (.aload_n 0, 1) := by decide +kernel
theorem dX6_init_186 : decode cX6_init 186 = .ok (.getfield 22, 3) := by decide +kernel
theorem dX6_init_189 : decode cX6_init 189 = .ok (.iconst 1, 1) := by decide +kernel
theorem dX6_init_190 : decode cX6_init 190 = .ok (.iconst 1, 1) := by decide +kernel
theorem dX6_init_191 : decode cX6_init 191 = .ok (.iastore, 1) := by decide +kernel
theorem dX6_init_192 : decode cX6_init 192 = .ok (.aload_n 0, 1) := by decide +kernel
theorem dX6_init_193 : decode cX6_init 193 = .ok (.getfield 22, 3) := by decide +kernel
theorem dX6_init_196 : decode cX6_init 196 = .ok (.bipush 10, 2) := by decide +kernel
theorem dX6_init_198 : decode cX6_init 198 = .ok (.iconst 2, 1) := by decide +kernel
theorem dX6_init_199 : decode cX6_init 199 = .ok (.iastore, 1) := by decide +kernel
theorem dX6_init_200 : decode cX6_init 200 = .ok (.aload_n 0, 1) := by decide +kernel
theorem dX6_init_201 : decode cX6_init 201 = .ok (.getfield 22, 3) := by decide +kernel
theorem dX6_init_204 : decode cX6_init 204 = .ok (.bipush 16, 2) := by decide +kernel
theorem dX6_init_206 : decode cX6_init 206 = .ok (.iconst 1, 1) := by decide +kernel
theorem dX6_init_207 : decode cX6_init 207 = .ok (.iastore, 1) := by decide +kernel
theorem dX6_init_208 : decode cX6_init 208 = .ok (.aload_n 0, 1) := by decide +kernel
theorem dX6_init_209 : decode cX6_init 209 = .ok (.getfield 22, 3) := by decide +kernel
theorem dX6_init_212 : decode cX6_init 212 = .ok (.bipush 28, 2) := by decide +kernel
theorem dX6_init_214 : decode cX6_init 214 = .ok (.iconst 3, 1) := by decide +kernel
theorem dX6_init_215 : decode cX6_init 215 = .ok (.iastore, 1) := by decide +kernel
theorem dX6_init_216 : decode cX6_init 216 = .ok (.aload_n 0, 1) := by decide +kernel
theorem dX6_init_217 : decode cX6_init 217 = .ok (.getfield 22, 3) := by decide +kernel
theorem dX6_init_220 : decode cX6_init 220 = .ok (.bipush 35, 2) := by decide +kernel
theorem dX6_init_222 : decode cX6_init 222 = .ok (.iconst 1, 1) := by decide +kernel
theorem dX6_init_223 : decode cX6_init 223 = .ok (.iastore, 1) := by decide +kernel
theorem dX6_init_224 : decode cX6_init 224 = .ok (.aload_n 0, 1) := by decide +kernel
theorem dX6_init_225 : decode cX6_init 225 = .ok (.invokevirtual 72, 3) := by decide +kernel
theorem dX6_init_228 : decode cX6_init 228 = .ok (.return_, 1) := by decide +kernel
theorem dX6_in_0 : decode cX6_in 0 = .ok (.lload_n 0, 1) := by decide +kernel
theorem dX6_in_1 : decode cX6_in 1 = .ok (.lload_n 2, 1) := by decide +kernel
theorem dX6_in_2 : decode cX6_in 2 = .ok (.lcmp, 1) := by decide +kernel
theorem dX6_in_3 : decode cX6_in 3 = .ok (.ifCond .lt 14, 3) := by decide +kernel
theorem dX6_in_6 : decode cX6_in 6 = .ok (.lload_n 0, 1) := by decide +kernel
theorem dX6_in_7 : decode cX6_in 7 = .ok (.lload 4, 2) := by decide +kernel
theorem dX6_in_9 : decode cX6_in 9 = .ok (.lcmp, 1) := by decide +kernel
theorem dX6_in_10 : decode cX6_in 10 = .ok (.ifCond .gt 7, 3) := by decide +kernel
theorem dX6_in_13 : decode cX6_in 13 = .ok (.iconst 1, 1) := by decide +kernel
theorem dX6_in_14 : decode cX6_in 14 = .ok (.goto 4, 3) := by decide +kernel
theorem dX6_in_17 : decode cX6_in 17 = .ok (.iconst 0, 1) := by decide +kernel
theorem dX6_in_18 : decode cX6_in 18 = .ok (.ireturn, 1) := by decide +kernel
theorem dX6_has_0 : decode cX6_has 0 = .ok (.iload_n 0, 1) := by decide +kernel
theorem dX6_has_1 : decode cX6_has 1 = .ok (.iload_n 1, 1) := by decide +kernel
theorem dX6_has_2 : decode cX6_has 2 = .ok (.ishr, 1) := by decide +kernel
theorem dX6_has_3 : decode cX6_has 3 = .ok (.iconst 1, 1) := by decide +kernel
theorem dX6_has_4 : decode cX6_has 4 = .ok (.iand, 1) := by decide +kernel
theorem dX6_has_5 : decode cX6_has 5 = .ok (.iconst 1, 1) := by decide +kernel
theorem dX6_has_6 : decode cX6_has 6 = .ok (.if_icmp .ne 7, 3) := by decide +kernel
theorem dX6_has_9 : decode cX6_has 9 = .ok (.iconst 1, 1) := by decide +kernel
theorem dX6_has_10 : decode cX6_has 10 = .ok (.goto 4, 3) := by decide +kernel
theorem dX6_has_13 : decode cX6_has 13 = .ok (.iconst 0, 1) := by decide +kernel
theorem dX6_has_14 : decode cX6_has 14 = .ok (.ireturn, 1) := by decide +kernel
theorem dX6_noTown_0 : decode cX6_noTown 0 = .ok (.aload_n 0, 1) := by decide +kernel
theorem dX6_noTown_1 : decode cX6_noTown 1 = .ok (.getfield 13, 3) := by decide +kernel
theorem dX6_noTown_4 : decode cX6_noTown 4 = .ok (.iload_n 1, 1) := by decide +kernel
theorem dX6_noTown_5 : decode cX6_noTown 5 = .ok (.iconst 0, 1) := by decide +kernel
theorem dX6_noTown_6 : decode cX6_noTown 6 = .ok (.iastore, 1) := by decide +kernel
theorem dX6_noTown_7 : decode cX6_noTown 7 = .ok (.aload_n 0, 1) := by decide +kernel
theorem dX6_noTown_8 : decode cX6_noTown 8 = .ok (.getfield 25, 3) := by decide +kernel
theorem dX6_noTown_11 : decode cX6_noTown 11 = .ok (.iload_n 1, 1) := by decide +kernel
theorem dX6_noTown_12 : decode cX6_noTown 12 = .ok (.bipush 40, 2) := by decide +kernel
theorem dX6_noTown_14 : decode cX6_noTown 14 = .ok (.iastore, 1) := by decide +kernel
theorem dX6_noTown_15 : decode cX6_noTown 15 = .ok (.iconst 0, 1) := by decide +kernel
theorem dX6_noTown_16 : decode cX6_noTown 16 = .ok (.istore_n 2, 1) := by decide +kernel
theorem dX6_noTown_17 : decode cX6_noTown 17 = .ok (.iload_n 2, 1) := by decide +kernel
theorem dX6_noTown_18 : decode cX6_noTown 18 = .ok (.bipush 64, 2) := by decide +kernel
theorem dX6_noTown_20 : decode cX6_noTown 20 = .ok (.if_icmp .ge 21, 3) := by decide +kernel
theorem dX6_noTown_23 : decode cX6_noTown 23 = .ok (.aload_n 0, 1) := by decide +kernel
theorem dX6_noTown_24 : decode cX6_noTown 24 = .ok (.getfield 22, 3) := by decide +kernel
theorem dX6_noTown_27 : decode cX6_noTown 27 = .ok (.bipush 64, 2) := by decide +kernel
theorem dX6_noTown_29 : decode cX6_noTown 29 = .ok (.iload_n 1, 1) := by decide +kernel
theorem dX6_noTown_30 : decode cX6_noTown 30 = .ok (.imul, 1) := by decide +kernel
theorem dX6_noTown_31 : decode cX6_noTown 31 = .ok (.iload_n 2, 1) := by decide +kernel
theorem dX6_noTown_32 : decode cX6_noTown 32 = .ok (.iadd, 1) := by decide +kernel
theorem dX6_noTown_33 : decode cX6_noTown 33 = .ok (.iconst 0, 1) := by decide +kernel
theorem dX6_noTown_34 : decode cX6_noTown 34 = .ok (.iastore, 1) := by decide +kernel
theorem dX6_noTown_35 : decode cX6_noTown 35 = .ok (.iinc 2 1, 3) := by decide +kernel
theorem dX6_noTown_38 : decode cX6_noTown 38 = .ok (.goto (-21), 3) := by decide +kernel
theorem dX6_noTown_41 : decode cX6_noTown 41 = .ok (.return_, 1) := by decide +kernel
theorem dX6_addPerson_0 : decode cX6_addPerson 0 = .ok (.aload_n 0, 1) := by decide +kernel
theorem dX6_addPerson_1 : decode cX6_addPerson 1 = .ok (.getfield 16, 3) := by decide +kernel
theorem dX6_addPerson_4 : decode cX6_addPerson 4 = .ok (.bipush 8, 2) := by decide +kernel
theorem dX6_addPerson_6 : decode cX6_addPerson 6 = .ok (.iload_n 1, 1) := by decide +kernel
theorem dX6_addPerson_7 : decode cX6_addPerson 7 = .ok (.imul, 1) := by decide +kernel
theorem dX6_addPerson_8 : decode cX6_addPerson 8 = .ok (.aload_n 0, 1) := by decide +kernel
theorem dX6_addPerson_9 : decode cX6_addPerson 9 = .ok (.getfield 13, 3) := by decide +kernel
theorem dX6_addPerson_12 : decode cX6_addPerson 12 = .ok (.iload_n 1, 1) := by decide +kernel
theorem dX6_addPerson_13 : decode cX6_addPerson 13 = .ok (.iaload, 1) := by decide +kernel
theorem dX6_addPerson_14 : decode cX6_addPerson 14 = .ok (.iadd, 1) := by decide +kernel
theorem dX6_addPerson_15 : decode cX6_addPerson 15 = .ok (.iload_n 2, 1) := by decide +kernel
theorem dX6_addPerson_16 : decode cX6_addPerson 16 = .ok (.iastore, 1) := by decide +kernel
theorem dX6_addPerson_17 : decode cX6_addPerson 17 = .ok (.aload_n 0, 1) := by decide +kernel
theorem dX6_addPerson_18 : decode cX6_addPerson 18 = .ok (.getfield 19, 3) := by decide +kernel
theorem dX6_addPerson_21 : decode cX6_addPerson 21 = .ok (.bipush 8, 2) := by decide +kernel
theorem dX6_addPerson_23 : decode cX6_addPerson 23 = .ok (.iload_n 1, 1) := by decide +kernel
theorem dX6_addPerson_24 : decode cX6_addPerson 24 = .ok (.imul, 1) := by decide +kernel
theorem dX6_addPerson_25 : decode cX6_addPerson 25 = .ok (.aload_n 0, 1) := by decide +kernel
theorem dX6_addPerson_26 : decode cX6_addPerson 26 = .ok (.getfield 13, 3) := by decide +kernel
theorem dX6_addPerson_29 : decode cX6_addPerson 29 = .ok (.iload_n 1, 1) := by decide +kernel
theorem dX6_addPerson_30 : decode cX6_addPerson 30 = .ok (.iaload, 1) := by decide +kernel
theorem dX6_addPerson_31 : decode cX6_addPerson 31 = .ok (.iadd, 1) := by decide +kernel
theorem dX6_addPerson_32 : decode cX6_addPerson 32 = .ok (.iload_n 3, 1) := by decide +kernel
theorem dX6_addPerson_33 : decode cX6_addPerson 33 = .ok (.iastore, 1) := by decide +kernel
theorem dX6_addPerson_34 : decode cX6_addPerson 34 = .ok (.aload_n 0, 1) := by decide +kernel
theorem dX6_addPerson_35 : decode cX6_addPerson 35 = .ok (.getfield 13, 3) := by decide +kernel
theorem dX6_addPerson_38 : decode cX6_addPerson 38 = .ok (.iload_n 1, 1) := by decide +kernel
theorem dX6_addPerson_39 : decode cX6_addPerson 39 = .ok (.dup2, 1) := by decide +kernel
theorem dX6_addPerson_40 : decode cX6_addPerson 40 = .ok (.iaload, 1) := by decide +kernel
theorem dX6_addPerson_41 : decode cX6_addPerson 41 = .ok (.iconst 1, 1) := by decide +kernel
theorem dX6_addPerson_42 : decode cX6_addPerson 42 = .ok (.iadd, 1) := by decide +kernel
theorem dX6_addPerson_43 : decode cX6_addPerson 43 = .ok (.iastore, 1) := by decide +kernel
theorem dX6_addPerson_44 : decode cX6_addPerson 44 = .ok (.return_, 1) := by decide +kernel
set_option maxRecDepth 20000 in
theorem ggX6_write_X6_in : GoodIn wsX6_write wsX6_in := goodIn_r _ [8] (by decide +kernel) (by decide +kernel)
set_option maxRecDepth 20000 in
theorem gX6_write_X6_in : GoodIn wsX6_write (va_wsS RX6 79 yX6_in wsX6_in) := goodIn_app (goodIn_of _ (by decide +kernel)) ggX6_write_X6_in
theorem dX6_write_0 : decode cX6_write 0 = .ok (.iload_n 1, 1) := by decide +kernel
theorem dX6_write_1 : decode cX6_write 1 = .ok (.i2l, 1) := by decide +kernel
theorem dX6_write_2 : decode cX6_write 2 = .ok (.ldc2_w 75, 3) := by decide +kernel
theorem dX6_write_5 : decode cX6_write 5 = .ok (.ldc2_w 77, 3) := by decide +kernel
theorem dX6_write_8 : decode cX6_write 8 = .ok (.invokestatic 79, 3) := by decide +kernel
theorem dX6_write_11 : decode cX6_write 11 = .ok (.ifCond .ne 5, 3) := by decide +kernel
theorem dX6_write_14 : decode cX6_write 14 = .ok (.iconst (-1), 1) := by decide +kernel
theorem dX6_write_15 : decode cX6_write 15 = .ok (.ireturn, 1) := by decide +kernel
theorem dX6_write_16 : decode cX6_write 16 = .ok (.aload_n 0, 1) := by decide +kernel
theorem dX6_write_17 : decode cX6_write 17 = .ok (.getfield 83, 3) := by decide +kernel
theorem dX6_write_20 : decode cX6_write 20 = .ok (.sipush 200, 3) := by decide +kernel
theorem dX6_write_23 : decode cX6_write 23 = .ok (.if_icmp .ne 6, 3) := by decide +kernel
theorem dX6_write_26 : decode cX6_write 26 = .ok (.bipush (-3), 2) := by decide +kernel
theorem dX6_write_28 : decode cX6_write 28 = .ok (.ireturn, 1) := by decide +kernel
theorem dX6_write_29 : decode cX6_write 29 = .ok (.aload_n 0, 1) := by decide +kernel
theorem dX6_write_30 : decode cX6_write 30 = .ok (.getfield 7, 3) := by decide +kernel
theorem dX6_write_33 : decode cX6_write 33 = .ok (.aload_n 0, 1) := by decide +kernel
theorem dX6_write_34 : decode cX6_write 34 = .ok (.getfield 83, 3) := by decide +kernel
theorem dX6_write_37 : decode cX6_write 37 = .ok (.iload_n 1, 1) := by decide +kernel
theorem dX6_write_38 : decode cX6_write 38 = .ok (.iastore, 1) := by decide +kernel
theorem dX6_write_39 : decode cX6_write 39 = .ok (.aload_n 0, 1) := by decide +kernel
theorem dX6_write_40 : decode cX6_write 40 = .ok (.dup, 1) := by decide +kernel
theorem dX6_write_41 : decode cX6_write 41 = .ok (.getfield 83, 3) := by decide +kernel
theorem dX6_write_44 : decode cX6_write 44 = .ok (.iconst 1, 1) := by decide +kernel
theorem dX6_write_45 : decode cX6_write 45 = .ok (.iadd, 1) := by decide +kernel
theorem dX6_write_46 : decode cX6_write 46 = .ok (.putfield 83, 3) := by decide +kernel
theorem dX6_write_49 : decode cX6_write 49 = .ok (.aload_n 0, 1) := by decide +kernel
theorem dX6_write_50 : decode cX6_write 50 = .ok (.getfield 83, 3) := by decide +kernel
theorem dX6_write_53 : decode cX6_write 53 = .ok (.ireturn, 1) := by decide +kernel
theorem dX6_wipe_0 : decode cX6_wipe 0 = .ok (.aload_n 0, 1) := by decide +kernel
theorem dX6_wipe_1 : decode cX6_wipe 1 = .ok (.getfield 83, 3) := by decide +kernel
theorem dX6_wipe_4 : decode cX6_wipe 4 = .ok (.istore_n 1, 1) := by decide +kernel
theorem dX6_wipe_5 : decode cX6_wipe 5 = .ok (.aload_n 0, 1) := by decide +kernel
theorem dX6_wipe_6 : decode cX6_wipe 6 = .ok (.iconst 0, 1) := by decide +kernel
theorem dX6_wipe_7 : decode cX6_wipe 7 = .ok (.putfield 83, 3) := by decide +kernel
theorem dX6_wipe_10 : decode cX6_wipe 10 = .ok (.iload_n 1, 1) := by decide +kernel
theorem dX6_wipe_11 : decode cX6_wipe 11 = .ok (.ireturn, 1) := by decide +kernel
theorem dX6_letterAt_0 : decode cX6_letterAt 0 = .ok (.iload_n 1, 1) := by decide +kernel
theorem dX6_letterAt_1 : decode cX6_letterAt 1 = .ok (.aload_n 0, 1) := by decide +kernel
theorem dX6_letterAt_2 : decode cX6_letterAt 2 = .ok (.getfield 83, 3) := by decide +kernel
theorem dX6_letterAt_5 : decode cX6_letterAt 5 = .ok (.if_icmp .ge 12, 3) := by decide +kernel
theorem dX6_letterAt_8 : decode cX6_letterAt 8 = .ok (.aload_n 0, 1) := by decide +kernel
theorem dX6_letterAt_9 : decode cX6_letterAt 9 = .ok (.getfield 7, 3) := by decide +kernel
theorem dX6_letterAt_12 : decode cX6_letterAt 12 = .ok (.iload_n 1, 1) := by decide +kernel
theorem dX6_letterAt_13 : decode cX6_letterAt 13 = .ok (.iaload, 1) := by decide +kernel
theorem dX6_letterAt_14 : decode cX6_letterAt 14 = .ok (.goto 4, 3) := by decide +kernel
theorem dX6_letterAt_17 : decode cX6_letterAt 17 = .ok (.iconst 0, 1) := by decide +kernel
theorem dX6_letterAt_18 : decode cX6_letterAt 18 = .ok (.ireturn, 1) := by decide +kernel
set_option maxRecDepth 20000 in
theorem ggX6_figures_X6_letterAt : GoodIn wsX6_figures wsX6_letterAt := goodIn_r _ [10, 11, 12, 16, 17, 18, 19, 20, 21, 22, 23, 24, 25, 26, 27, 28, 29, 30, 31, 32, 33, 34, 35, 36, 37] (by decide +kernel) (by decide +kernel)
set_option maxRecDepth 20000 in
theorem gX6_figures_X6_letterAt : GoodIn wsX6_figures (wsV RX6 90 RX6 yX6_letterAt wsX6_letterAt) := goodIn_app (goodIn_of _ (by decide +kernel)) ggX6_figures_X6_letterAt
set_option maxRecDepth 20000 in
theorem ggX6_figures_X6_in : GoodIn wsX6_figures wsX6_in := goodIn_r _ [15] (by decide +kernel) (by decide +kernel)
set_option maxRecDepth 20000 in
theorem gX6_figures_X6_in : GoodIn wsX6_figures (va_wsS RX6 79 yX6_in wsX6_in) := goodIn_app (goodIn_of _ (by decide +kernel)) ggX6_figures_X6_in
theorem dX6_figures_0 : decode cX6_figures 0 = .ok (.iconst 0, 1) := by decide +kernel
theorem dX6_figures_1 : decode cX6_figures 1 = .ok (.istore_n 2, 1) := by decide +kernel
theorem dX6_figures_2 : decode cX6_figures 2 = .ok (.iload_n 2, 1) := by decide +kernel
theorem dX6_figures_3 : decode cX6_figures 3 = .ok (.iload_n 1, 1) := by decide +kernel
theorem dX6_figures_4 : decode cX6_figures 4 = .ok (.if_icmp .ge 132, 3) := by decide +kernel
theorem dX6_figures_7 : decode cX6_figures 7 = .ok (.iconst 0, 1) := by decide +kernel
theorem dX6_figures_8 : decode cX6_figures 8 = .ok (.istore_n 3, 1) := by decide +kernel
theorem dX6_figures_9 : decode cX6_figures 9 = .ok (.iconst 0, 1) := by decide +kernel
theorem dX6_figures_10 : decode cX6_figures 10 = .ok (.istore 4, 2) := by decide +kernel
theorem dX6_figures_12 : decode cX6_figures 12 = .ok (.aload_n 0, 1) := by decide +kernel
theorem dX6_figures_13 : decode cX6_figures 13 = .ok (.aload_n 0, 1) := by decide +kernel
theorem dX6_figures_14 : decode cX6_figures 14 = .ok (.getfield 87, 3) := by decide +kernel
theorem dX6_figures_17 : decode cX6_figures 17 = .ok (.invokevirtual 90, 3) := by decide +kernel
theorem dX6_figures_20 : decode cX6_figures 20 = .ok (.i2l, 1) := by decide +kernel
theorem dX6_figures_21 : decode cX6_figures 21 = .ok (.ldc2_w 94, 3) := by decide +kernel
theorem dX6_figures_24 : decode cX6_figures 24 = .ok (.ldc2_w 96, 3) := by decide +kernel
theorem dX6_figures_27 : decode cX6_figures 27 = .ok (.invokestatic 79, 3) := by decide +kernel
theorem dX6_figures_30 : decode cX6_figures 30 = .ok (.ifCond .eq 43, 3) := by decide +kernel
theorem dX6_figures_33 : decode cX6_figures 33 = .ok (.iload_n 3, 1) := by decide +kernel
theorem dX6_figures_34 : decode cX6_figures 34 = .ok (.iconst 3, 1) := by decide +kernel
theorem dX6_figures_35 : decode cX6_figures 35 = .ok (.if_icmp .ge 38, 3) := by decide +kernel
theorem dX6_figures_38 : decode cX6_figures 38 = .ok (.bipush 10, 2) := by decide +kernel
theorem dX6_figures_40 : decode cX6_figures 40 = .ok (.iload 4, 2) := by decide +kernel
theorem dX6_figures_42 : decode cX6_figures 42 = .ok (.imul, 1) := by decide +kernel
theorem dX6_figures_43 : decode cX6_figures 43 = .ok (.aload_n 0, 1) := by decide +kernel
theorem dX6_figures_44 : decode cX6_figures 44 = .ok (.aload_n 0, 1) := by decide +kernel
theorem dX6_figures_45 : decode cX6_figures 45 = .ok (.getfield 87, 3) := by decide +kernel
theorem dX6_figures_48 : decode cX6_figures 48 = .ok (.invokevirtual 90, 3) := by decide +kernel
theorem dX6_figures_51 : decode cX6_figures 51 = .ok (.iadd, 1) := by decide +kernel
theorem dX6_figures_52 : decode cX6_figures 52 = .ok (.bipush 48, 2) := by decide +kernel
theorem dX6_figures_54 : decode cX6_figures 54 = .ok (.isub, 1) := by decide +kernel
theorem dX6_figures_55 : decode cX6_figures 55 = .ok (.istore 4, 2) := by decide +kernel
theorem dX6_figures_57 : decode cX6_figures 57 = .ok (.iinc 3 1, 3) := by decide +kernel
theorem dX6_figures_60 : decode cX6_figures 60 = .ok (.aload_n 0, 1) := by decide +kernel
theorem dX6_figures_61 : decode cX6_figures 61 = .ok (.dup, 1) := by decide +kernel
theorem dX6_figures_62 : decode cX6_figures 62 = .ok (.getfield 87, 3) := by decide +kernel
theorem dX6_figures_65 : decode cX6_figures 65 = .ok (.iconst 1, 1) := by decide +kernel
theorem dX6_figures_66 : decode cX6_figures 66 = .ok (.iadd, 1) := by decide +kernel
theorem dX6_figures_67 : decode cX6_figures 67 = .ok (.putfield 87, 3) := by decide +kernel
theorem dX6_figures_70 : decode cX6_figures 70 = .ok (.goto (-58), 3) := by decide +kernel
theorem dX6_figures_73 : decode cX6_figures 73 = .ok (.iload_n 3, 1) := by decide +kernel
theorem dX6_figures_74 : decode cX6_figures 74 = .ok (.i2l, 1) := by decide +kernel
theorem dX6_figures_75 : decode cX6_figures 75 = .ok (.lconst 1, 1) := by decide +kernel
theorem dX6_figures_76 : decode cX6_figures 76 = .ok (.ldc2_w 98, 3) := by decide +kernel
theorem dX6_figures_79 : decode cX6_figures 79 = .ok (.invokestatic 79, 3) := by decide +kernel
theorem dX6_figures_82 : decode cX6_figures 82 = .ok (.ifCond .eq 28, 3) := by decide +kernel
theorem dX6_figures_85 : decode cX6_figures 85 = .ok (.aload_n 0, 1) := by decide +kernel
theorem dX6_figures_86 : decode cX6_figures 86 = .ok (.aload_n 0, 1) := by decide +kernel
theorem dX6_figures_87 : decode cX6_figures 87 = .ok (.getfield 87, 3) := by decide +kernel
theorem dX6_figures_90 : decode cX6_figures 90 = .ok (.invokevirtual 90, 3) := by decide +kernel
theorem dX6_figures_93 : decode cX6_figures 93 = .ok (.iload_n 2, 1) := by decide +kernel
theorem dX6_figures_94 : decode cX6_figures 94 = .ok (.iload_n 1, 1) := by decide +kernel
theorem dX6_figures_95 : decode cX6_figures 95 = .ok (.iconst 1, 1) := by decide +kernel
theorem dX6_figures_96 : decode cX6_figures 96 = .ok (.isub, 1) := by decide +kernel
theorem dX6_figures_97 : decode cX6_figures 97 = .ok (.if_icmp .ge 8, 3) := by decide +kernel
theorem dX6_figures_100 : decode cX6_figures 100 = .ok (.bipush 44, 2) := by decide +kernel
theorem dX6_figures_102 : decode cX6_figures 102 = .ok (.goto 5, 3) := by decide +kernel
theorem dX6_figures_105 : decode cX6_figures 105 = .ok (.bipush 59, 2) := by decide +kernel
theorem dX6_figures_107 : decode cX6_figures 107 = .ok (.if_icmp .eq 5, 3) := by decide +kernel
theorem dX6_figures_110 : decode cX6_figures 110 = .ok (.iconst 0, 1) := by decide +kernel
theorem dX6_figures_111 : decode cX6_figures 111 = .ok (.ireturn, 1) := by decide +kernel
theorem dX6_figures_112 : decode cX6_figures 112 = .ok (.aload_n 0, 1) := by decide +kernel
theorem dX6_figures_113 : decode cX6_figures 113 = .ok (.getfield 43, 3) := by decide +kernel
theorem dX6_figures_116 : decode cX6_figures 116 = .ok (.iload_n 2, 1) := by decide +kernel
theorem dX6_figures_117 : decode cX6_figures 117 = .ok (.iload 4, 2) := by decide +kernel
theorem dX6_figures_119 : decode cX6_figures 119 = .ok (.iastore, 1) := by decide +kernel
theorem dX6_figures_120 : decode cX6_figures 120 = .ok (.aload_n 0, 1) := by decide +kernel
theorem dX6_figures_121 : decode cX6_figures 121 = .ok (.dup, 1) := by decide +kernel
theorem dX6_figures_122 : decode cX6_figures 122 = .ok (.getfield 87, 3) := by decide +kernel
theorem dX6_figures_125 : decode cX6_figures 125 = .ok (.iconst 1, 1) := by decide +kernel
theorem dX6_figures_126 : decode cX6_figures 126 = .ok (.iadd, 1) := by decide +kernel
theorem dX6_figures_127 : decode cX6_figures 127 = .ok (.putfield 87, 3) := by decide +kernel
theorem dX6_figures_130 : decode cX6_figures 130 = .ok (.iinc 2 1, 3) := by decide +kernel
theorem dX6_figures_133 : decode cX6_figures 133 = .ok (.goto (-131), 3) := by decide +kernel
theorem dX6_figures_136 : decode cX6_figures 136 = .ok (.iconst 1, 1) := by decide +kernel
theorem dX6_figures_137 : decode cX6_figures 137 = .ok (.ireturn, 1) := by decide +kernel
set_option maxRecDepth 20000 in
theorem ggX6_item_X6_letterAt : GoodIn wsX6_item wsX6_letterAt := goodIn_r _ [11, 12, 13, 30, 31, 32, 33, 34, 35, 36, 37, 38, 39, 40, 41, 42, 43, 44, 45, 46, 47, 48, 49, 50, 51] (by decide +kernel) (by decide +kernel)
set_option maxRecDepth 20000 in
theorem gX6_item_X6_letterAt : GoodIn wsX6_item (wsV RX6 90 RX6 yX6_letterAt wsX6_letterAt) := goodIn_app (goodIn_of _ (by decide +kernel)) ggX6_item_X6_letterAt
set_option maxRecDepth 20000 in
theorem ggX6_item_X6_figures : GoodIn wsX6_item wsX6_figures := goodIn_r _ [17, 1, 18, 19, 20, 3, 7, 8, 9, 10, 11, 12, 13, 21, 22, 23, 30, 31, 32, 33, 34, 35, 36, 37, 38, 39, 40, 41, 42, 43, 44, 45, 46, 47, 48, 49, 50, 51] (by decide +kernel) (by decide +kernel)
set_option maxRecDepth 20000 in
theorem gX6_item_X6_figures : GoodIn wsX6_item (wsV RX6 100 RX6 yX6_figures wsX6_figures) := goodIn_app (goodIn_of _ (by decide +kernel)) ggX6_item_X6_figures
set_option maxRecDepth 20000 in
theorem ggX6_item_X6_addPerson : GoodIn wsX6_item wsX6_addPerson := goodIn_r _ [27, 28, 2, 29, 30, 31, 32, 33, 34, 35, 36, 37, 38, 39, 40, 41, 42, 43, 44, 45, 46, 47, 48, 49, 50, 51] (by decide +kernel) (by decide +kernel)
set_option maxRecDepth 20000 in
theorem gX6_item_X6_addPerson : GoodIn wsX6_item (wsV RX6 68 RX6 yX6_addPerson wsX6_addPerson) := goodIn_app (goodIn_of _ (by decide +kernel)) ggX6_item_X6_addPerson
set_option maxRecDepth 20000 in
theorem ggX6_item_X6_in : GoodIn wsX6_item wsX6_in := goodIn_r _ [23] (by decide +kernel) (by decide +kernel)
set_option maxRecDepth 20000 in
theorem gX6_item_X6_in : GoodIn wsX6_item (va_wsS RX6 79 yX6_in wsX6_in) := goodIn_app (goodIn_of _ (by decide +kernel)) ggX6_item_X6_in
theorem dX6_item_0 : decode cX6_item 0 = .ok (.aload_n 0, 1) := by decide +kernel
theorem dX6_item_1 : decode cX6_item 1 = .ok (.aload_n 0, 1) := by decide +kernel
theorem dX6_item_2 : decode cX6_item 2 = .ok (.getfield 87, 3) := by decide +kernel
theorem dX6_item_5 : decode cX6_item 5 = .ok (.invokevirtual 90, 3) := by decide +kernel
theorem dX6_item_8 : decode cX6_item 8 = .ok (.istore_n 1, 1) := by decide +kernel
theorem dX6_item_9 : decode cX6_item 9 = .ok (.aload_n 0, 1) := by decide +kernel
theorem dX6_item_10 : decode cX6_item 10 = .ok (.dup, 1) := by decide +kernel
theorem dX6_item_11 : decode cX6_item 11 = .ok (.getfield 87, 3) := by decide +kernel
theorem dX6_item_14 : decode cX6_item 14 = .ok (.iconst 1, 1) := by decide +kernel
theorem dX6_item_15 : decode cX6_item 15 = .ok (.iadd, 1) := by decide +kernel
theorem dX6_item_16 : decode cX6_item 16 = .ok (.putfield 87, 3) := by decide +kernel
theorem dX6_item_19 : decode cX6_item 19 = .ok (.iload_n 1, 1) := by decide +kernel
theorem dX6_item_20 : decode cX6_item 20 = .ok (.lookupswitch 235 #[(101, 194), (111, 96), (112, 36)], 36) := by decide +kernel
theorem dX6_item_56 : decode cX6_item 56 = .ok (.aload_n 0, 1) := by decide +kernel
theorem dX6_item_57 : decode cX6_item 57 = .ok (.iconst 2, 1) := by decide +kernel
theorem dX6_item_58 : decode cX6_item 58 = .ok (.invokevirtual 100, 3) := by decide +kernel
theorem dX6_item_61 : decode cX6_item 61 = .ok (.ifCond .eq 34, 3) := by decide +kernel
theorem dX6_item_64 : decode cX6_item 64 = .ok (.aload_n 0, 1) := by decide +kernel
theorem dX6_item_65 : decode cX6_item 65 = .ok (.getfield 13, 3) := by decide +kernel
theorem dX6_item_68 : decode cX6_item 68 = .ok (.iconst 1, 1) := by decide +kernel
theorem dX6_item_69 : decode cX6_item 69 = .ok (.iaload, 1) := by decide +kernel
theorem dX6_item_70 : decode cX6_item 70 = .ok (.bipush 7, 2) := by decide +kernel
theorem dX6_item_72 : decode cX6_item 72 = .ok (.if_icmp .eq 23, 3) := by decide +kernel
theorem dX6_item_75 : decode cX6_item 75 = .ok (.aload_n 0, 1) := by decide +kernel
theorem dX6_item_76 : decode cX6_item 76 = .ok (.getfield 43, 3) := by decide +kernel
theorem dX6_item_79 : decode cX6_item 79 = .ok (.iconst 0, 1) := by decide +kernel
theorem dX6_item_80 : decode cX6_item 80 = .ok (.iaload, 1) := by decide +kernel
theorem dX6_item_81 : decode cX6_item 81 = .ok (.iconst 3, 1) := by decide +kernel
theorem dX6_item_82 : decode cX6_item 82 = .ok (.if_icmp .gt 13, 3) := by decide +kernel
theorem dX6_item_85 : decode cX6_item 85 = .ok (.aload_n 0, 1) := by decide +kernel
theorem dX6_item_86 : decode cX6_item 86 = .ok (.getfield 43, 3) := by decide +kernel
theorem dX6_item_89 : decode cX6_item 89 = .ok (.iconst 1, 1) := by decide +kernel
theorem dX6_item_90 : decode cX6_item 90 = .ok (.iaload, 1) := by decide +kernel
theorem dX6_item_91 : decode cX6_item 91 = .ok (.iconst 3, 1) := by decide +kernel
theorem dX6_item_92 : decode cX6_item 92 = .ok (.if_icmp .le 5, 3) := by decide +kernel
theorem dX6_item_95 : decode cX6_item 95 = .ok (.iconst 0, 1) := by decide +kernel
theorem dX6_item_96 : decode cX6_item 96 = .ok (.ireturn, 1) := by decide +kernel
theorem dX6_item_97 : decode cX6_item 97 = .ok (.aload_n 0, 1) := by decide +kernel
theorem dX6_item_98 : decode cX6_item 98 = .ok (.iconst 1, 1) := by decide +kernel
theorem dX6_item_99 : decode cX6_item 99 = .ok (.aload_n 0, 1) := by decide +kernel
theorem dX6_item_100 : decode cX6_item 100 = .ok (.getfield 43, 3) := by decide +kernel
theorem dX6_item_103 : decode cX6_item 103 = .ok (.iconst 0, 1) := by decide +kernel
theorem dX6_item_104 : decode cX6_item 104 = .ok (.iaload, 1) := by decide +kernel
theorem dX6_item_105 : decode cX6_item 105 = .ok (.aload_n 0, 1) := by decide +kernel
theorem dX6_item_106 : decode cX6_item 106 = .ok (.getfield 43, 3) := by decide +kernel
theorem dX6_item_109 : decode cX6_item 109 = .ok (.iconst 1, 1) := by decide +kernel
theorem dX6_item_110 : decode cX6_item 110 = .ok (.iaload, 1) := by decide +kernel
theorem dX6_item_111 : decode cX6_item 111 = .ok (.invokevirtual 68, 3) := by decide +kernel
theorem dX6_item_114 : decode cX6_item 114 = .ok (.iconst 1, 1) := by decide +kernel
theorem dX6_item_115 : decode cX6_item 115 = .ok (.ireturn, 1) := by decide +kernel
theorem dX6_item_116 : decode cX6_item 116 = .ok (.aload_n 0, 1) := by decide +kernel
theorem dX6_item_117 : decode cX6_item 117 = .ok (.iconst 3, 1) := by decide +kernel
theorem dX6_item_118 : decode cX6_item 118 = .ok (.invokevirtual 100, 3) := by decide +kernel
theorem dX6_item_121 : decode cX6_item 121 = .ok (.ifCond .eq 59, 3) := by decide +kernel
theorem dX6_item_124 : decode cX6_item 124 = .ok (.aload_n 0, 1) := by decide +kernel
theorem dX6_item_125 : decode cX6_item 125 = .ok (.getfield 43, 3) := by decide +kernel
theorem dX6_item_128 : decode cX6_item 128 = .ok (.iconst 0, 1) := by decide +kernel
theorem dX6_item_129 : decode cX6_item 129 = .ok (.iaload, 1) := by decide +kernel
theorem dX6_item_130 : decode cX6_item 130 = .ok (.aload_n 0, 1) := by decide +kernel
theorem dX6_item_131 : decode cX6_item 131 = .ok (.getfield 13, 3) := by decide +kernel
theorem dX6_item_134 : decode cX6_item 134 = .ok (.iconst 1, 1) := by decide +kernel
theorem dX6_item_135 : decode cX6_item 135 = .ok (.iaload, 1) := by decide +kernel
theorem dX6_item_136 : decode cX6_item 136 = .ok (.if_icmp .ge 44, 3) := by decide +kernel
theorem dX6_item_139 : decode cX6_item 139 = .ok (.aload_n 0, 1) := by decide +kernel
theorem dX6_item_140 : decode cX6_item 140 = .ok (.getfield 43, 3) := by decide +kernel
theorem dX6_item_143 : decode cX6_item 143 = .ok (.iconst 1, 1) := by decide +kernel
theorem dX6_item_144 : decode cX6_item 144 = .ok (.iaload, 1) := by decide +kernel
theorem dX6_item_145 : decode cX6_item 145 = .ok (.aload_n 0, 1) := by decide +kernel
theorem dX6_item_146 : decode cX6_item 146 = .ok (.getfield 13, 3) := by decide +kernel
theorem dX6_item_149 : decode cX6_item 149 = .ok (.iconst 1, 1) := by decide +kernel
theorem dX6_item_150 : decode cX6_item 150 = .ok (.iaload, 1) := by decide +kernel
theorem dX6_item_151 : decode cX6_item 151 = .ok (.if_icmp .ge 29, 3) := by decide +kernel
theorem dX6_item_154 : decode cX6_item 154 = .ok (.aload_n 0, 1) := by decide +kernel
theorem dX6_item_155 : decode cX6_item 155 = .ok (.getfield 43, 3) := by decide +kernel
theorem dX6_item_158 : decode cX6_item 158 = .ok (.iconst 0, 1) := by decide +kernel
theorem dX6_item_159 : decode cX6_item 159 = .ok (.iaload, 1) := by decide +kernel
theorem dX6_item_160 : decode cX6_item 160 = .ok (.aload_n 0, 1) := by decide +kernel
theorem dX6_item_161 : decode cX6_item 161 = .ok (.getfield 43, 3) := by decide +kernel
theorem dX6_item_164 : decode cX6_item 164 = .ok (.iconst 1, 1) := by decide +kernel
theorem dX6_item_165 : decode cX6_item 165 = .ok (.iaload, 1) := by decide +kernel
theorem dX6_item_166 : decode cX6_item 166 = .ok (.if_icmp .eq 14, 3) := by decide +kernel
theorem dX6_item_169 : decode cX6_item 169 = .ok (.aload_n 0, 1) := by decide +kernel
theorem dX6_item_170 : decode cX6_item 170 = .ok (.getfield 43, 3) := by decide +kernel
theorem dX6_item_173 : decode cX6_item 173 = .ok (.iconst 2, 1) := by decide +kernel
theorem dX6_item_174 : decode cX6_item 174 = .ok (.iaload, 1) := by decide +kernel
theorem dX6_item_175 : decode cX6_item 175 = .ok (.bipush 9, 2) := by decide +kernel
theorem dX6_item_177 : decode cX6_item 177 = .ok (.if_icmp .le 5, 3) := by decide +kernel
theorem dX6_item_180 : decode cX6_item 180 = .ok (.iconst 0, 1) := by decide +kernel
theorem dX6_item_181 : decode cX6_item 181 = .ok (.ireturn, 1) := by decide +kernel
theorem dX6_item_182 : decode cX6_item 182 = .ok (.aload_n 0, 1) := by decide +kernel
theorem dX6_item_183 : decode cX6_item 183 = .ok (.getfield 22, 3) := by decide +kernel
theorem dX6_item_186 : decode cX6_item 186 = .ok (.bipush 64, 2) := by decide +kernel
theorem dX6_item_188 : decode cX6_item 188 = .ok (.bipush 8, 2) := by decide +kernel
theorem dX6_item_190 : decode cX6_item 190 = .ok (.aload_n 0, 1) := by decide +kernel
theorem dX6_item_191 : decode cX6_item 191 = .ok (.getfield 43, 3) := by decide +kernel
theorem dX6_item_194 : decode cX6_item 194 = .ok (.iconst 0, 1) := by decide +kernel
theorem dX6_item_195 : decode cX6_item 195 = .ok (.iaload, 1) := by decide +kernel
theorem dX6_item_196 : decode cX6_item 196 = .ok (.imul, 1) := by decide +kernel
theorem dX6_item_197 : decode cX6_item 197 = .ok (.iadd, 1) := by decide +kernel
theorem dX6_item_198 : decode cX6_item 198 = .ok (.aload_n 0, 1) := by decide +kernel
theorem dX6_item_199 : decode cX6_item 199 = .ok (.getfield 43, 3) := by decide +kernel
theorem dX6_item_202 : decode cX6_item 202 = .ok (.iconst 1, 1) := by decide +kernel
theorem dX6_item_203 : decode cX6_item 203 = .ok (.iaload, 1) := by decide +kernel
theorem dX6_item_204 : decode cX6_item 204 = .ok (.iadd, 1) := by decide +kernel
theorem dX6_item_205 : decode cX6_item 205 = .ok (.aload_n 0, 1) := by decide +kernel
theorem dX6_item_206 : decode cX6_item 206 = .ok (.getfield 43, 3) := by decide +kernel
theorem dX6_item_209 : decode cX6_item 209 = .ok (.iconst 2, 1) := by decide +kernel
theorem dX6_item_210 : decode cX6_item 210 = .ok (.iaload, 1) := by decide +kernel
theorem dX6_item_211 : decode cX6_item 211 = .ok (.iastore, 1) := by decide +kernel
theorem dX6_item_212 : decode cX6_item 212 = .ok (.iconst 1, 1) := by decide +kernel
theorem dX6_item_213 : decode cX6_item 213 = .ok (.ireturn, 1) := by decide +kernel
theorem dX6_item_214 : decode cX6_item 214 = .ok (.aload_n 0, 1) := by decide +kernel
theorem dX6_item_215 : decode cX6_item 215 = .ok (.iconst 1, 1) := by decide +kernel
theorem dX6_item_216 : decode cX6_item 216 = .ok (.invokevirtual 100, 3) := by decide +kernel
theorem dX6_item_219 : decode cX6_item 219 = .ok (.ifCond .eq 20, 3) := by decide +kernel
theorem dX6_item_222 : decode cX6_item 222 = .ok (.aload_n 0, 1) := by decide +kernel
theorem dX6_item_223 : decode cX6_item 223 = .ok (.getfield 43, 3) := by decide +kernel
theorem dX6_item_226 : decode cX6_item 226 = .ok (.iconst 0, 1) := by decide +kernel
theorem dX6_item_227 : decode cX6_item 227 = .ok (.iaload, 1) := by decide +kernel
theorem dX6_item_228 : decode cX6_item 228 = .ok (.i2l, 1) := by decide +kernel
theorem dX6_item_229 : decode cX6_item 229 = .ok (.lconst 1, 1) := by decide +kernel
theorem dX6_item_230 : decode cX6_item 230 = .ok (.ldc2_w 104, 3) := by decide +kernel
theorem dX6_item_233 : decode cX6_item 233 = .ok (.invokestatic 79, 3) := by decide +kernel
theorem dX6_item_236 : decode cX6_item 236 = .ok (.ifCond .ne 5, 3) := by decide +kernel
theorem dX6_item_239 : decode cX6_item 239 = .ok (.iconst 0, 1) := by decide +kernel
theorem dX6_item_240 : decode cX6_item 240 = .ok (.ireturn, 1) := by decide +kernel
theorem dX6_item_241 : decode cX6_item 241 = .ok (.aload_n 0, 1) := by decide +kernel
theorem dX6_item_242 : decode cX6_item 242 = .ok (.getfield 25, 3) := by decide +kernel
theorem dX6_item_245 : decode cX6_item 245 = .ok (.iconst 1, 1) := by decide +kernel
theorem dX6_item_246 : decode cX6_item 246 = .ok (.aload_n 0, 1) := by decide +kernel
theorem dX6_item_247 : decode cX6_item 247 = .ok (.getfield 43, 3) := by decide +kernel
theorem dX6_item_250 : decode cX6_item 250 = .ok (.iconst 0, 1) := by decide +kernel
theorem dX6_item_251 : decode cX6_item 251 = .ok (.iaload, 1) := by decide +kernel
theorem dX6_item_252 : decode cX6_item 252 = .ok (.iastore, 1) := by decide +kernel
theorem dX6_item_253 : decode cX6_item 253 = .ok (.iconst 1, 1) := by decide +kernel
theorem dX6_item_254 : decode cX6_item 254 = .ok (.ireturn, 1) := by decide +kernel
theorem dX6_item_255 : decode cX6_item 255 = .ok (.iconst 0, 1) := by decide +kernel
theorem dX6_item_256 : decode cX6_item 256 = .ok (.ireturn, 1) := by decide +kernel
set_option maxRecDepth 20000 in
theorem ggX6_readAll_X6_noTown : GoodIn wsX6_readAll wsX6_noTown := goodIn_r _ [7, 8, 9, 10, 38, 39, 40, 41, 42, 43, 44, 45, 46, 47, 48, 49, 50, 51, 52, 53, 54, 55, 56, 57, 58, 59] (by decide +kernel) (by decide +kernel)
set_option maxRecDepth 20000 in
theorem gX6_readAll_X6_noTown : GoodIn wsX6_readAll (wsV RX6 64 RX6 yX6_noTown wsX6_noTown) := goodIn_app (goodIn_of _ (by decide +kernel)) ggX6_readAll_X6_noTown
set_option maxRecDepth 20000 in
theorem ggX6_readAll_X6_item : GoodIn wsX6_readAll wsX6_item := goodIn_r _ [14, 1, 8, 15, 10, 16, 9, 17, 18, 19, 6, 20, 2, 21, 22, 23, 24, 25, 26, 27, 28, 29, 30, 31, 32, 33, 34, 35, 36, 37, 38, 39, 40, 41, 42, 43, 44, 45, 46, 47, 48, 49, 50, 51, 52, 53, 54, 55, 56, 57, 58, 59] (by decide +kernel) (by decide +kernel)
set_option maxRecDepth 20000 in
theorem gX6_readAll_X6_item : GoodIn wsX6_readAll (wsV RX6 106 RX6 yX6_item wsX6_item) := goodIn_app (goodIn_of _ (by decide +kernel)) ggX6_readAll_X6_item
theorem dX6_readAll_0 : decode cX6_readAll 0 = .ok (.aload_n 0, 1) := by decide +kernel
theorem dX6_readAll_1 : decode cX6_readAll 1 = .ok (.iconst 1, 1) := by decide +kernel
theorem dX6_readAll_2 : decode cX6_readAll 2 = .ok (.invokevirtual 64, 3) := by decide +kernel
theorem dX6_readAll_5 : decode cX6_readAll 5 = .ok (.aload_n 0, 1) := by decide +kernel
theorem dX6_readAll_6 : decode cX6_readAll 6 = .ok (.iconst 0, 1) := by decide +kernel
theorem dX6_readAll_7 : decode cX6_readAll 7 = .ok (.putfield 87, 3) := by decide +kernel
theorem dX6_readAll_10 : decode cX6_readAll 10 = .ok (.aload_n 0, 1) := by decide +kernel
theorem dX6_readAll_11 : decode cX6_readAll 11 = .ok (.getfield 87, 3) := by decide +kernel
theorem dX6_readAll_14 : decode cX6_readAll 14 = .ok (.aload_n 0, 1) := by decide +kernel
theorem dX6_readAll_15 : decode cX6_readAll 15 = .ok (.getfield 83, 3) := by decide +kernel
theorem dX6_readAll_18 : decode cX6_readAll 18 = .ok (.if_icmp .ge 20, 3) := by decide +kernel
theorem dX6_readAll_21 : decode cX6_readAll 21 = .ok (.aload_n 0, 1) := by decide +kernel
theorem dX6_readAll_22 : decode cX6_readAll 22 = .ok (.getfield 87, 3) := by decide +kernel
theorem dX6_readAll_25 : decode cX6_readAll 25 = .ok (.istore_n 1, 1) := by decide +kernel
theorem dX6_readAll_26 : decode cX6_readAll 26 = .ok (.aload_n 0, 1) := by decide +kernel
theorem dX6_readAll_27 : decode cX6_readAll 27 = .ok (.invokevirtual 106, 3) := by decide +kernel
theorem dX6_readAll_30 : decode cX6_readAll 30 = .ok (.ifCond .ne 5, 3) := by decide +kernel
theorem dX6_readAll_33 : decode cX6_readAll 33 = .ok (.iload_n 1, 1) := by decide +kernel
theorem dX6_readAll_34 : decode cX6_readAll 34 = .ok (.ireturn, 1) := by decide +kernel
theorem dX6_readAll_35 : decode cX6_readAll 35 = .ok (.goto (-25), 3) := by decide +kernel
theorem dX6_readAll_38 : decode cX6_readAll 38 = .ok (.bipush (-4), 2) := by decide +kernel
theorem dX6_readAll_40 : decode cX6_readAll 40 = .ok (.ireturn, 1) := by decide +kernel
set_option maxRecDepth 20000 in
theorem ggX6_fault_X6_readAll : GoodIn wsX6_fault wsX6_readAll := goodIn_r _ [5, 6, 7, 8, 9, 10, 4, 11, 12, 13, 14, 15, 16, 17, 18, 19, 20, 21, 22, 23, 24, 25, 26, 27, 28, 29, 30, 31, 32, 33, 34, 35, 36, 37, 38, 39, 40, 41, 42, 43, 44, 45, 46, 47, 48, 49, 50, 51, 52, 53, 54, 55, 56, 57, 58, 59, 60, 61, 62, 63] (by decide +kernel) (by decide +kernel)
set_option maxRecDepth 20000 in
theorem gX6_fault_X6_readAll : GoodIn wsX6_fault (wsV RX6 110 RX6 yX6_readAll wsX6_readAll) := goodIn_app (goodIn_of _ (by decide +kernel)) ggX6_fault_X6_readAll
theorem dX6_fault_0 : decode cX6_fault 0 = .ok (.aload_n 0, 1) := by decide +kernel
theorem dX6_fault_1 : decode cX6_fault 1 = .ok (.invokevirtual 110, 3) := by decide +kernel
theorem dX6_fault_4 : decode cX6_fault 4 = .ok (.ireturn, 1) := by decide +kernel
set_option maxRecDepth 20000 in
theorem ggX6_lay_X6_readAll : GoodIn wsX6_lay wsX6_readAll := goodIn_r _ [13, 14, 15, 16, 17, 18, 12, 19, 1, 2, 5, 20, 21, 22, 23, 24, 25, 26, 27, 28, 29, 30, 31, 32, 33, 34, 35, 36, 37, 38, 39, 40, 41, 42, 43, 44, 3, 4, 115, 116, 117, 118, 119, 120, 121, 122, 123, 124, 125, 126, 127, 128, 129, 130, 131, 132, 133, 134, 135, 136] (by decide +kernel) (by decide +kernel)
set_option maxRecDepth 20000 in
theorem gX6_lay_X6_readAll : GoodIn wsX6_lay (wsV RX6 110 RX6 yX6_readAll wsX6_readAll) := goodIn_app (goodIn_of _ (by decide +kernel)) ggX6_lay_X6_readAll
set_option maxRecDepth 20000 in
theorem ggX6_lay_X6_begin : GoodIn wsX6_lay wsX6_begin := goodIn_r _ [48, 49, 50, 51, 12, 52, 53, 5, 54, 1, 55, 56, 6, 57, 58, 59, 60, 61, 62, 63, 64, 65, 66, 67, 68, 69, 70, 71, 72, 73, 74, 75, 76, 77, 78, 79, 80, 81, 82, 3, 83, 84, 85, 86, 87, 88, 89, 90, 91, 92, 93, 94, 95, 96, 97, 98, 99, 100, 101, 102, 103, 104, 105, 106, 107, 108, 109, 110, 111, 112, 113, 114, 115, 116, 117, 118, 119, 120, 121, 122, 123, 124, 125, 126, 127, 128, 129, 130, 131, 132, 133, 134, 135, 136] (by decide +kernel) (by decide +kernel)
set_option maxRecDepth 20000 in
theorem gX6_lay_X6_begin : GoodIn wsX6_lay (wsV RX6 72 RX6 yX6_begin wsX6_begin) := goodIn_app (goodIn_of _ (by decide +kernel)) ggX6_lay_X6_begin
theorem dX6_lay_0 : decode cX6_lay 0 = .ok (.aload_n 0, 1) := by decide +kernel
theorem dX6_lay_1 : decode cX6_lay 1 = .ok (.invokevirtual 110, 3) := by decide +kernel
theorem dX6_lay_4 : decode cX6_lay 4 = .ok (.bipush (-4), 2) := by decide +kernel
theorem dX6_lay_6 : decode cX6_lay 6 = .ok (.if_icmp .ne 12, 3) := by decide +kernel
theorem dX6_lay_9 : decode cX6_lay 9 = .ok (.aload_n 0, 1) := by decide +kernel
theorem dX6_lay_10 : decode cX6_lay 10 = .ok (.getfield 13, 3) := by decide +kernel
theorem dX6_lay_13 : decode cX6_lay 13 = .ok (.iconst 1, 1) := by decide +kernel
theorem dX6_lay_14 : decode cX6_lay 14 = .ok (.iaload, 1) := by decide +kernel
theorem dX6_lay_15 : decode cX6_lay 15 = .ok (.ifCond .ne 6, 3) := by decide +kernel
theorem dX6_lay_18 : decode cX6_lay 18 = .ok (.bipush (-2), 2) := by decide +kernel
theorem dX6_lay_20 : decode cX6_lay 20 = .ok (.ireturn, 1) := by decide +kernel
theorem dX6_lay_21 : decode cX6_lay 21 = .ok (.aload_n 0, 1) := by decide +kernel
theorem dX6_lay_22 : decode cX6_lay 22 = .ok (.getfield 13, 3) := by decide +kernel
theorem dX6_lay_25 : decode cX6_lay 25 = .ok (.iconst 0, 1) := by decide +kernel
theorem dX6_lay_26 : decode cX6_lay 26 = .ok (.aload_n 0, 1) := by decide +kernel
theorem dX6_lay_27 : decode cX6_lay 27 = .ok (.getfield 13, 3) := by decide +kernel
theorem dX6_lay_30 : decode cX6_lay 30 = .ok (.iconst 1, 1) := by decide +kernel
theorem dX6_lay_31 : decode cX6_lay 31 = .ok (.iaload, 1) := by decide +kernel
theorem dX6_lay_32 : decode cX6_lay 32 = .ok (.iastore, 1) := by decide +kernel
theorem dX6_lay_33 : decode cX6_lay 33 = .ok (.aload_n 0, 1) := by decide +kernel
theorem dX6_lay_34 : decode cX6_lay 34 = .ok (.getfield 25, 3) := by decide +kernel
theorem dX6_lay_37 : decode cX6_lay 37 = .ok (.iconst 0, 1) := by decide +kernel
theorem dX6_lay_38 : decode cX6_lay 38 = .ok (.aload_n 0, 1) := by decide +kernel
theorem dX6_lay_39 : decode cX6_lay 39 = .ok (.getfield 25, 3) := by decide +kernel
theorem dX6_lay_42 : decode cX6_lay 42 = .ok (.iconst 1, 1) := by decide +kernel
theorem dX6_lay_43 : decode cX6_lay 43 = .ok (.iaload, 1) := by decide +kernel
theorem dX6_lay_44 : decode cX6_lay 44 = .ok (.iastore, 1) := by decide +kernel
theorem dX6_lay_45 : decode cX6_lay 45 = .ok (.iconst 0, 1) := by decide +kernel
theorem dX6_lay_46 : decode cX6_lay 46 = .ok (.istore_n 1, 1) := by decide +kernel
theorem dX6_lay_47 : decode cX6_lay 47 = .ok (.iload_n 1, 1) := by decide +kernel
theorem dX6_lay_48 : decode cX6_lay 48 = .ok (.bipush 8, 2) := by decide +kernel
theorem dX6_lay_50 : decode cX6_lay 50 = .ok (.if_icmp .ge 39, 3) := by decide +kernel
theorem dX6_lay_53 : decode cX6_lay 53 = .ok (.aload_n 0, 1) := by decide +kernel
theorem dX6_lay_54 : decode cX6_lay 54 = .ok (.getfield 16, 3) := by decide +kernel
theorem dX6_lay_57 : decode cX6_lay 57 = .ok (.iload_n 1, 1) := by decide +kernel
theorem dX6_lay_58 : decode cX6_lay 58 = .ok (.aload_n 0, 1) := by decide +kernel
theorem dX6_lay_59 : decode cX6_lay 59 = .ok (.getfield 16, 3) := by decide +kernel
theorem dX6_lay_62 : decode cX6_lay 62 = .ok (.bipush 8, 2) := by decide +kernel
theorem dX6_lay_64 : decode cX6_lay 64 = .ok (.iload_n 1, 1) := by decide +kernel
theorem dX6_lay_65 : decode cX6_lay 65 = .ok (.iadd, 1) := by decide +kernel
theorem dX6_lay_66 : decode cX6_lay 66 = .ok (.iaload, 1) := by decide +kernel
theorem dX6_lay_67 : decode cX6_lay 67 = .ok (.iastore, 1) := by decide +kernel
theorem dX6_lay_68 : decode cX6_lay 68 = .ok (.aload_n 0, 1) := by decide +kernel
theorem dX6_lay_69 : decode cX6_lay 69 = .ok (.getfield 19, 3) := by decide +kernel
theorem dX6_lay_72 : decode cX6_lay 72 = .ok (.iload_n 1, 1) := by decide +kernel
theorem dX6_lay_73 : decode cX6_lay 73 = .ok (.aload_n 0, 1) := by decide +kernel
theorem dX6_lay_74 : decode cX6_lay 74 = .ok (.getfield 19, 3) := by decide +kernel
theorem dX6_lay_77 : decode cX6_lay 77 = .ok (.bipush 8, 2) := by decide +kernel
theorem dX6_lay_79 : decode cX6_lay 79 = .ok (.iload_n 1, 1) := by decide +kernel
theorem dX6_lay_80 : decode cX6_lay 80 = .ok (.iadd, 1) := by decide +kernel
theorem dX6_lay_81 : decode cX6_lay 81 = .ok (.iaload, 1) := by decide +kernel
theorem dX6_lay_82 : decode cX6_lay 82 = .ok (.iastore, 1) := by decide +kernel
theorem dX6_lay_83 : decode cX6_lay 83 = .ok (.iinc 1 1, 3) := by decide +kernel
theorem dX6_lay_86 : decode cX6_lay 86 = .ok (.goto (-39), 3) := by decide +kernel
theorem dX6_lay_89 : decode cX6_lay 89 = .ok (.iconst 0, 1) := by decide +kernel
theorem dX6_lay_90 : decode cX6_lay 90 = .ok (.istore_n 1, 1) := by decide +kernel
theorem dX6_lay_91 : decode cX6_lay 91 = .ok (.iload_n 1, 1) := by decide +kernel
theorem dX6_lay_92 : decode cX6_lay 92 = .ok (.bipush 64, 2) := by decide +kernel
theorem dX6_lay_94 : decode cX6_lay 94 = .ok (.if_icmp .ge 24, 3) := by decide +kernel
theorem dX6_lay_97 : decode cX6_lay 97 = .ok (.aload_n 0, 1) := by decide +kernel
theorem dX6_lay_98 : decode cX6_lay 98 = .ok (.getfield 22, 3) := by decide +kernel
theorem dX6_lay_101 : decode cX6_lay 101 = .ok (.iload_n 1, 1) := by decide +kernel
theorem dX6_lay_102 : decode cX6_lay 102 = .ok (.aload_n 0, 1) := by decide +kernel
theorem dX6_lay_103 : decode cX6_lay 103 = .ok (.getfield 22, 3) := by decide +kernel
theorem dX6_lay_106 : decode cX6_lay 106 = .ok (.bipush 64, 2) := by decide +kernel
theorem dX6_lay_108 : decode cX6_lay 108 = .ok (.iload_n 1, 1) := by decide +kernel
theorem dX6_lay_109 : decode cX6_lay 109 = .ok (.iadd, 1) := by decide +kernel
theorem dX6_lay_110 : decode cX6_lay 110 = .ok (.iaload, 1) := by decide +kernel
theorem dX6_lay_111 : decode cX6_lay 111 = .ok (.iastore, 1) := by decide +kernel
theorem dX6_lay_112 : decode cX6_lay 112 = .ok (.iinc 1 1, 3) := by decide +kernel
theorem dX6_lay_115 : decode cX6_lay 115 = .ok (.goto (-24), 3) := by decide +kernel
theorem dX6_lay_118 : decode cX6_lay 118 = .ok (.aload_n 0, 1) := by decide +kernel
theorem dX6_lay_119 : decode cX6_lay 119 = .ok (.getfield 28, 3) := by decide +kernel
theorem dX6_lay_122 : decode cX6_lay 122 = .ok (.iconst 0, 1) := by decide +kernel
theorem dX6_lay_123 : decode cX6_lay 123 = .ok (.iconst 0, 1) := by decide +kernel
theorem dX6_lay_124 : decode cX6_lay 124 = .ok (.iastore, 1) := by decide +kernel
theorem dX6_lay_125 : decode cX6_lay 125 = .ok (.aload_n 0, 1) := by decide +kernel
theorem dX6_lay_126 : decode cX6_lay 126 = .ok (.iconst 0, 1) := by decide +kernel
theorem dX6_lay_127 : decode cX6_lay 127 = .ok (.putfield 114, 3) := by decide +kernel
theorem dX6_lay_130 : decode cX6_lay 130 = .ok (.aload_n 0, 1) := by decide +kernel
theorem dX6_lay_131 : decode cX6_lay 131 = .ok (.iconst 0, 1) := by decide +kernel
theorem dX6_lay_132 : decode cX6_lay 132 = .ok (.putfield 117, 3) := by decide +kernel
theorem dX6_lay_135 : decode cX6_lay 135 = .ok (.aload_n 0, 1) := by decide +kernel
theorem dX6_lay_136 : decode cX6_lay 136 = .ok (.invokevirtual 72, 3) := by decide +kernel
theorem dX6_lay_139 : decode cX6_lay 139 = .ok (.aload_n 0, 1) := by decide +kernel
theorem dX6_lay_140 : decode cX6_lay 140 = .ok (.getfield 13, 3) := by decide +kernel
theorem dX6_lay_143 : decode cX6_lay 143 = .ok (.iconst 0, 1) := by decide +kernel
theorem dX6_lay_144 : decode cX6_lay 144 = .ok (.iaload, 1) := by decide +kernel
theorem dX6_lay_145 : decode cX6_lay 145 = .ok (.ireturn, 1) := by decide +kernel
set_option maxRecDepth 20000 in
theorem ggX6_isPerson_X6_in : GoodIn wsX6_isPerson wsX6_in := goodIn_r _ [5] (by decide +kernel) (by decide +kernel)
set_option maxRecDepth 20000 in
theorem gX6_isPerson_X6_in : GoodIn wsX6_isPerson (va_wsS RX6 79 yX6_in wsX6_in) := goodIn_app (goodIn_of _ (by decide +kernel)) ggX6_isPerson_X6_in
theorem dX6_isPerson_0 : decode cX6_isPerson 0 = .ok (.iload_n 1, 1) := by decide +kernel
theorem dX6_isPerson_1 : decode cX6_isPerson 1 = .ok (.i2l, 1) := by decide +kernel
theorem dX6_isPerson_2 : decode cX6_isPerson 2 = .ok (.lconst 0, 1) := by decide +kernel
theorem dX6_isPerson_3 : decode cX6_isPerson 3 = .ok (.aload_n 0, 1) := by decide +kernel
theorem dX6_isPerson_4 : decode cX6_isPerson 4 = .ok (.getfield 13, 3) := by decide +kernel
theorem dX6_isPerson_7 : decode cX6_isPerson 7 = .ok (.iconst 0, 1) := by decide +kernel
theorem dX6_isPerson_8 : decode cX6_isPerson 8 = .ok (.iaload, 1) := by decide +kernel
theorem dX6_isPerson_9 : decode cX6_isPerson 9 = .ok (.iconst 1, 1) := by decide +kernel
theorem dX6_isPerson_10 : decode cX6_isPerson 10 = .ok (.isub, 1) := by decide +kernel
theorem dX6_isPerson_11 : decode cX6_isPerson 11 = .ok (.i2l, 1) := by decide +kernel
theorem dX6_isPerson_12 : decode cX6_isPerson 12 = .ok (.invokestatic 79, 3) := by decide +kernel
theorem dX6_isPerson_15 : decode cX6_isPerson 15 = .ok (.ireturn, 1) := by decide +kernel
set_option maxRecDepth 20000 in
theorem ggX6_areTwo_X6_isPerson : GoodIn wsX6_areTwo wsX6_isPerson := goodIn_r _ [5, 6, 7, 8, 4, 9, 10, 11, 12, 13, 14, 15, 16, 17, 18, 19, 20, 21, 22, 23, 24, 25, 26, 27, 28, 29, 30, 31] (by decide +kernel) (by decide +kernel)
set_option maxRecDepth 20000 in
theorem gX6_areTwo_X6_isPerson : GoodIn wsX6_areTwo (wsV RX6 120 RX6 yX6_isPerson wsX6_isPerson) := goodIn_app (goodIn_of _ (by decide +kernel)) ggX6_areTwo_X6_isPerson
theorem dX6_areTwo_0 : decode cX6_areTwo 0 = .ok (.aload_n 0, 1) := by decide +kernel
theorem dX6_areTwo_1 : decode cX6_areTwo 1 = .ok (.iload_n 1, 1) := by decide +kernel
theorem dX6_areTwo_2 : decode cX6_areTwo 2 = .ok (.invokevirtual 120, 3) := by decide +kernel
theorem dX6_areTwo_5 : decode cX6_areTwo 5 = .ok (.ifCond .eq 20, 3) := by decide +kernel
theorem dX6_areTwo_8 : decode cX6_areTwo 8 = .ok (.aload_n 0, 1) := by decide +kernel
theorem dX6_areTwo_9 : decode cX6_areTwo 9 = .ok (.iload_n 2, 1) := by decide +kernel
theorem dX6_areTwo_10 : decode cX6_areTwo 10 = .ok (.invokevirtual 120, 3) := by decide +kernel
theorem dX6_areTwo_13 : decode cX6_areTwo 13 = .ok (.ifCond .eq 12, 3) := by decide +kernel
theorem dX6_areTwo_16 : decode cX6_areTwo 16 = .ok (.iload_n 1, 1) := by decide +kernel
theorem dX6_areTwo_17 : decode cX6_areTwo 17 = .ok (.iload_n 2, 1) := by decide +kernel
theorem dX6_areTwo_18 : decode cX6_areTwo 18 = .ok (.if_icmp .eq 7, 3) := by decide +kernel
theorem dX6_areTwo_21 : decode cX6_areTwo 21 = .ok (.iconst 1, 1) := by decide +kernel
theorem dX6_areTwo_22 : decode cX6_areTwo 22 = .ok (.goto 4, 3) := by decide +kernel
theorem dX6_areTwo_25 : decode cX6_areTwo 25 = .ok (.iconst 0, 1) := by decide +kernel
theorem dX6_areTwo_26 : decode cX6_areTwo 26 = .ok (.ireturn, 1) := by decide +kernel
theorem dX6_debt_0 : decode cX6_debt 0 = .ok (.aload_n 0, 1) := by decide +kernel
theorem dX6_debt_1 : decode cX6_debt 1 = .ok (.getfield 46, 3) := by decide +kernel
theorem dX6_debt_4 : decode cX6_debt 4 = .ok (.bipush 64, 2) := by decide +kernel
theorem dX6_debt_6 : decode cX6_debt 6 = .ok (.iload_n 1, 1) := by decide +kernel
theorem dX6_debt_7 : decode cX6_debt 7 = .ok (.imul, 1) := by decide +kernel
theorem dX6_debt_8 : decode cX6_debt 8 = .ok (.bipush 8, 2) := by decide +kernel
theorem dX6_debt_10 : decode cX6_debt 10 = .ok (.iload_n 2, 1) := by decide +kernel
theorem dX6_debt_11 : decode cX6_debt 11 = .ok (.imul, 1) := by decide +kernel
theorem dX6_debt_12 : decode cX6_debt 12 = .ok (.iadd, 1) := by decide +kernel
theorem dX6_debt_13 : decode cX6_debt 13 = .ok (.iload_n 3, 1) := by decide +kernel
theorem dX6_debt_14 : decode cX6_debt 14 = .ok (.iadd, 1) := by decide +kernel
theorem dX6_debt_15 : decode cX6_debt 15 = .ok (.iaload, 1) := by decide +kernel
theorem dX6_debt_16 : decode cX6_debt 16 = .ok (.ireturn, 1) := by decide +kernel
theorem dX6_setDebt_0 : decode cX6_setDebt 0 = .ok (.aload_n 0, 1) := by decide +kernel
theorem dX6_setDebt_1 : decode cX6_setDebt 1 = .ok (.getfield 46, 3) := by decide +kernel
theorem dX6_setDebt_4 : decode cX6_setDebt 4 = .ok (.bipush 64, 2) := by decide +kernel
theorem dX6_setDebt_6 : decode cX6_setDebt 6 = .ok (.iload_n 1, 1) := by decide +kernel
theorem dX6_setDebt_7 : decode cX6_setDebt 7 = .ok (.imul, 1) := by decide +kernel
theorem dX6_setDebt_8 : decode cX6_setDebt 8 = .ok (.bipush 8, 2) := by decide +kernel
theorem dX6_setDebt_10 : decode cX6_setDebt 10 = .ok (.iload_n 2, 1) := by decide +kernel
theorem dX6_setDebt_11 : decode cX6_setDebt 11 = .ok (.imul, 1) := by decide +kernel
theorem dX6_setDebt_12 : decode cX6_setDebt 12 = .ok (.iadd, 1) := by decide +kernel
theorem dX6_setDebt_13 : decode cX6_setDebt 13 = .ok (.iload_n 3, 1) := by decide +kernel
theorem dX6_setDebt_14 : decode cX6_setDebt 14 = .ok (.iadd, 1) := by decide +kernel
theorem dX6_setDebt_15 : decode cX6_setDebt 15 = .ok (.iload 4, 2) := by decide +kernel
theorem dX6_setDebt_17 : decode cX6_setDebt 17 = .ok (.bipush 9, 2) := by decide +kernel
theorem dX6_setDebt_19 : decode cX6_setDebt 19 = .ok (.if_icmp .le 8, 3) := by decide +kernel
theorem dX6_setDebt_22 : decode cX6_setDebt 22 = .ok (.bipush 9, 2) := by decide +kernel
theorem dX6_setDebt_24 : decode cX6_setDebt 24 = .ok (.goto 5, 3) := by decide +kernel
theorem dX6_setDebt_27 : decode cX6_setDebt 27 = .ok (.iload 4, 2) := by decide +kernel
theorem dX6_setDebt_29 : decode cX6_setDebt 29 = .ok (.iastore, 1) := by decide +kernel
theorem dX6_setDebt_30 : decode cX6_setDebt 30 = .ok (.return_, 1) := by decide +kernel
set_option maxRecDepth 20000 in
theorem ggX6_debtsOf_X6_debt : GoodIn wsX6_debtsOf wsX6_debt := goodIn_r _ [5, 6, 7, 8, 9, 10, 11, 12, 13, 14, 15, 16, 17, 18, 19, 20, 21, 22, 23, 24, 25, 26, 27, 28] (by decide +kernel) (by decide +kernel)
set_option maxRecDepth 20000 in
theorem gX6_debtsOf_X6_debt : GoodIn wsX6_debtsOf (wsV RX6 123 RX6 yX6_debt wsX6_debt) := goodIn_app (goodIn_of _ (by decide +kernel)) ggX6_debtsOf_X6_debt
theorem dX6_debtsOf_0 : decode cX6_debtsOf 0 = .ok (.iconst 0, 1) := by decide +kernel
theorem dX6_debtsOf_1 : decode cX6_debtsOf 1 = .ok (.istore_n 3, 1) := by decide +kernel
theorem dX6_debtsOf_2 : decode cX6_debtsOf 2 = .ok (.iconst 0, 1) := by decide +kernel
theorem dX6_debtsOf_3 : decode cX6_debtsOf 3 = .ok (.istore 4, 2) := by decide +kernel
theorem dX6_debtsOf_5 : decode cX6_debtsOf 5 = .ok (.iload 4, 2) := by decide +kernel
theorem dX6_debtsOf_7 : decode cX6_debtsOf 7 = .ok (.bipush 8, 2) := by decide +kernel
theorem dX6_debtsOf_9 : decode cX6_debtsOf 9 = .ok (.if_icmp .ge 20, 3) := by decide +kernel
theorem dX6_debtsOf_12 : decode cX6_debtsOf 12 = .ok (.iload_n 3, 1) := by decide +kernel
theorem dX6_debtsOf_13 : decode cX6_debtsOf 13 = .ok (.aload_n 0, 1) := by decide +kernel
theorem dX6_debtsOf_14 : decode cX6_debtsOf 14 = .ok (.iload_n 1, 1) := by decide +kernel
theorem dX6_debtsOf_15 : decode cX6_debtsOf 15 = .ok (.iload_n 2, 1) := by decide +kernel
theorem dX6_debtsOf_16 : decode cX6_debtsOf 16 = .ok (.iload 4, 2) := by decide +kernel
theorem dX6_debtsOf_18 : decode cX6_debtsOf 18 = .ok (.invokevirtual 123, 3) := by decide +kernel
theorem dX6_debtsOf_21 : decode cX6_debtsOf 21 = .ok (.iadd, 1) := by decide +kernel
theorem dX6_debtsOf_22 : decode cX6_debtsOf 22 = .ok (.istore_n 3, 1) := by decide +kernel
theorem dX6_debtsOf_23 : decode cX6_debtsOf 23 = .ok (.iinc 4 1, 3) := by decide +kernel
theorem dX6_debtsOf_26 : decode cX6_debtsOf 26 = .ok (.goto (-21), 3) := by decide +kernel
theorem dX6_debtsOf_29 : decode cX6_debtsOf 29 = .ok (.iload_n 3, 1) := by decide +kernel
theorem dX6_debtsOf_30 : decode cX6_debtsOf 30 = .ok (.ireturn, 1) := by decide +kernel
set_option maxRecDepth 20000 in
theorem ggX6_owedTo_X6_debt : GoodIn wsX6_owedTo wsX6_debt := goodIn_r _ [5, 6, 7, 8, 9, 10, 11, 12, 13, 14, 15, 16, 17, 18, 19, 20, 21, 22, 23, 24, 25, 26, 27, 28] (by decide +kernel) (by decide +kernel)
set_option maxRecDepth 20000 in
theorem gX6_owedTo_X6_debt : GoodIn wsX6_owedTo (wsV RX6 123 RX6 yX6_debt wsX6_debt) := goodIn_app (goodIn_of _ (by decide +kernel)) ggX6_owedTo_X6_debt
theorem dX6_owedTo_0 : decode cX6_owedTo 0 = .ok (.iconst 0, 1) := by decide +kernel
theorem dX6_owedTo_1 : decode cX6_owedTo 1 = .ok (.istore_n 3, 1) := by decide +kernel
theorem dX6_owedTo_2 : decode cX6_owedTo 2 = .ok (.iconst 0, 1) := by decide +kernel
theorem dX6_owedTo_3 : decode cX6_owedTo 3 = .ok (.istore 4, 2) := by decide +kernel
theorem dX6_owedTo_5 : decode cX6_owedTo 5 = .ok (.iload 4, 2) := by decide +kernel
theorem dX6_owedTo_7 : decode cX6_owedTo 7 = .ok (.bipush 8, 2) := by decide +kernel
theorem dX6_owedTo_9 : decode cX6_owedTo 9 = .ok (.if_icmp .ge 20, 3) := by decide +kernel
theorem dX6_owedTo_12 : decode cX6_owedTo 12 = .ok (.iload_n 3, 1) := by decide +kernel
theorem dX6_owedTo_13 : decode cX6_owedTo 13 = .ok (.aload_n 0, 1) := by decide +kernel
theorem dX6_owedTo_14 : decode cX6_owedTo 14 = .ok (.iload_n 1, 1) := by decide +kernel
theorem dX6_owedTo_15 : decode cX6_owedTo 15 = .ok (.iload 4, 2) := by decide +kernel
theorem dX6_owedTo_17 : decode cX6_owedTo 17 = .ok (.iload_n 2, 1) := by decide +kernel
theorem dX6_owedTo_18 : decode cX6_owedTo 18 = .ok (.invokevirtual 123, 3) := by decide +kernel
theorem dX6_owedTo_21 : decode cX6_owedTo 21 = .ok (.iadd, 1) := by decide +kernel
theorem dX6_owedTo_22 : decode cX6_owedTo 22 = .ok (.istore_n 3, 1) := by decide +kernel
theorem dX6_owedTo_23 : decode cX6_owedTo 23 = .ok (.iinc 4 1, 3) := by decide +kernel
theorem dX6_owedTo_26 : decode cX6_owedTo 26 = .ok (.goto (-21), 3) := by decide +kernel
theorem dX6_owedTo_29 : decode cX6_owedTo 29 = .ok (.iload_n 3, 1) := by decide +kernel
theorem dX6_owedTo_30 : decode cX6_owedTo 30 = .ok (.ireturn, 1) := by decide +kernel
set_option maxRecDepth 20000 in
theorem ggX6_allOf_X6_debtsOf : GoodIn wsX6_allOf wsX6_debtsOf := goodIn_r _ [5, 6, 7, 8, 4, 9, 10, 11, 12, 13, 14, 15, 16, 17, 18, 19, 20, 21, 22, 23, 24, 25, 26, 27, 28, 29, 30, 31, 32] (by decide +kernel) (by decide +kernel)
set_option maxRecDepth 20000 in
theorem gX6_allOf_X6_debtsOf : GoodIn wsX6_allOf (wsV RX6 127 RX6 yX6_debtsOf wsX6_debtsOf) := goodIn_app (goodIn_of _ (by decide +kernel)) ggX6_allOf_X6_debtsOf
theorem dX6_allOf_0 : decode cX6_allOf 0 = .ok (.iconst 0, 1) := by decide +kernel
theorem dX6_allOf_1 : decode cX6_allOf 1 = .ok (.istore_n 2, 1) := by decide +kernel
theorem dX6_allOf_2 : decode cX6_allOf 2 = .ok (.iconst 0, 1) := by decide +kernel
theorem dX6_allOf_3 : decode cX6_allOf 3 = .ok (.istore_n 3, 1) := by decide +kernel
theorem dX6_allOf_4 : decode cX6_allOf 4 = .ok (.iload_n 3, 1) := by decide +kernel
theorem dX6_allOf_5 : decode cX6_allOf 5 = .ok (.bipush 8, 2) := by decide +kernel
theorem dX6_allOf_7 : decode cX6_allOf 7 = .ok (.if_icmp .ge 18, 3) := by decide +kernel
theorem dX6_allOf_10 : decode cX6_allOf 10 = .ok (.iload_n 2, 1) := by decide +kernel
theorem dX6_allOf_11 : decode cX6_allOf 11 = .ok (.aload_n 0, 1) := by decide +kernel
theorem dX6_allOf_12 : decode cX6_allOf 12 = .ok (.iload_n 1, 1) := by decide +kernel
theorem dX6_allOf_13 : decode cX6_allOf 13 = .ok (.iload_n 3, 1) := by decide +kernel
theorem dX6_allOf_14 : decode cX6_allOf 14 = .ok (.invokevirtual 127, 3) := by decide +kernel
theorem dX6_allOf_17 : decode cX6_allOf 17 = .ok (.iadd, 1) := by decide +kernel
theorem dX6_allOf_18 : decode cX6_allOf 18 = .ok (.istore_n 2, 1) := by decide +kernel
theorem dX6_allOf_19 : decode cX6_allOf 19 = .ok (.iinc 3 1, 3) := by decide +kernel
theorem dX6_allOf_22 : decode cX6_allOf 22 = .ok (.goto (-18), 3) := by decide +kernel
theorem dX6_allOf_25 : decode cX6_allOf 25 = .ok (.iload_n 2, 1) := by decide +kernel
theorem dX6_allOf_26 : decode cX6_allOf 26 = .ok (.ireturn, 1) := by decide +kernel
set_option maxRecDepth 20000 in
theorem ggX6_isAlive_X6_has : GoodIn wsX6_isAlive wsX6_has := goodIn_r _ [5] (by decide +kernel) (by decide +kernel)
set_option maxRecDepth 20000 in
theorem gX6_isAlive_X6_has : GoodIn wsX6_isAlive (va_wsS RX6 131 yX6_has wsX6_has) := goodIn_app (goodIn_of _ (by decide +kernel)) ggX6_isAlive_X6_has
theorem dX6_isAlive_0 : decode cX6_isAlive 0 = .ok (.aload_n 0, 1) := by decide +kernel
theorem dX6_isAlive_1 : decode cX6_isAlive 1 = .ok (.getfield 49, 3) := by decide +kernel
theorem dX6_isAlive_4 : decode cX6_isAlive 4 = .ok (.iload_n 1, 1) := by decide +kernel
theorem dX6_isAlive_5 : decode cX6_isAlive 5 = .ok (.iaload, 1) := by decide +kernel
theorem dX6_isAlive_6 : decode cX6_isAlive 6 = .ok (.iload_n 2, 1) := by decide +kernel
theorem dX6_isAlive_7 : decode cX6_isAlive 7 = .ok (.invokestatic 131, 3) := by decide +kernel
theorem dX6_isAlive_10 : decode cX6_isAlive 10 = .ok (.ireturn, 1) := by decide +kernel
set_option maxRecDepth 20000 in
theorem ggX6_takes_X6_isAlive : GoodIn wsX6_takes wsX6_isAlive := goodIn_r _ [6, 7, 8, 9, 5, 10, 20, 21, 22, 23, 24, 25, 26, 27, 28, 29, 30, 31, 32, 33, 34, 35, 36, 37, 38, 39, 40, 41] (by decide +kernel) (by decide +kernel)
set_option maxRecDepth 20000 in
theorem gX6_takes_X6_isAlive : GoodIn wsX6_takes (wsV RX6 135 RX6 yX6_isAlive wsX6_isAlive) := goodIn_app (goodIn_of _ (by decide +kernel)) ggX6_takes_X6_isAlive
set_option maxRecDepth 20000 in
theorem ggX6_takes_X6_debtsOf : GoodIn wsX6_takes wsX6_debtsOf := goodIn_r _ [14, 15, 16, 17, 5, 18, 19, 20, 21, 22, 23, 24, 25, 26, 27, 28, 29, 30, 31, 32, 33, 34, 35, 36, 37, 38, 39, 40, 41] (by decide +kernel) (by decide +kernel)
set_option maxRecDepth 20000 in
theorem gX6_takes_X6_debtsOf : GoodIn wsX6_takes (wsV RX6 127 RX6 yX6_debtsOf wsX6_debtsOf) := goodIn_app (goodIn_of _ (by decide +kernel)) ggX6_takes_X6_debtsOf
theorem dX6_takes_0 : decode cX6_takes 0 = .ok (.aload_n 0, 1) := by decide +kernel
theorem dX6_takes_1 : decode cX6_takes 1 = .ok (.iload_n 1, 1) := by decide +kernel
theorem dX6_takes_2 : decode cX6_takes 2 = .ok (.iload_n 2, 1) := by decide +kernel
theorem dX6_takes_3 : decode cX6_takes 3 = .ok (.invokevirtual 135, 3) := by decide +kernel
theorem dX6_takes_6 : decode cX6_takes 6 = .ok (.ifCond .eq 26, 3) := by decide +kernel
theorem dX6_takes_9 : decode cX6_takes 9 = .ok (.aload_n 0, 1) := by decide +kernel
theorem dX6_takes_10 : decode cX6_takes 10 = .ok (.getfield 16, 3) := by decide +kernel
theorem dX6_takes_13 : decode cX6_takes 13 = .ok (.iload_n 2, 1) := by decide +kernel
theorem dX6_takes_14 : decode cX6_takes 14 = .ok (.iaload, 1) := by decide +kernel
theorem dX6_takes_15 : decode cX6_takes 15 = .ok (.iconst 1, 1) := by decide +kernel
theorem dX6_takes_16 : decode cX6_takes 16 = .ok (.if_icmp .eq 12, 3) := by decide +kernel
theorem dX6_takes_19 : decode cX6_takes 19 = .ok (.aload_n 0, 1) := by decide +kernel
theorem dX6_takes_20 : decode cX6_takes 20 = .ok (.iload_n 1, 1) := by decide +kernel
theorem dX6_takes_21 : decode cX6_takes 21 = .ok (.iload_n 2, 1) := by decide +kernel
theorem dX6_takes_22 : decode cX6_takes 22 = .ok (.invokevirtual 127, 3) := by decide +kernel
theorem dX6_takes_25 : decode cX6_takes 25 = .ok (.ifCond .ne 7, 3) := by decide +kernel
theorem dX6_takes_28 : decode cX6_takes 28 = .ok (.iconst 1, 1) := by decide +kernel
theorem dX6_takes_29 : decode cX6_takes 29 = .ok (.goto 4, 3) := by decide +kernel
theorem dX6_takes_32 : decode cX6_takes 32 = .ok (.iconst 0, 1) := by decide +kernel
theorem dX6_takes_33 : decode cX6_takes 33 = .ok (.ireturn, 1) := by decide +kernel
set_option maxRecDepth 20000 in
theorem ggX6_canBow_X6_debt : GoodIn wsX6_canBow wsX6_debt := goodIn_r _ [5, 6, 24, 25, 26, 27, 28, 29, 30, 31, 32, 33, 34, 35, 36, 37, 38, 39, 40, 41, 42, 43, 44, 45] (by decide +kernel) (by decide +kernel)
set_option maxRecDepth 20000 in
theorem gX6_canBow_X6_debt : GoodIn wsX6_canBow (wsV RX6 123 RX6 yX6_debt wsX6_debt) := goodIn_app (goodIn_of _ (by decide +kernel)) ggX6_canBow_X6_debt
set_option maxRecDepth 20000 in
theorem ggX6_canBow_X6_takes : GoodIn wsX6_canBow wsX6_takes := goodIn_r _ [10, 11, 12, 13, 14, 4, 15, 16, 17, 18, 19, 20, 21, 22, 23, 1, 2, 3, 5, 6, 24, 25, 26, 27, 28, 29, 30, 31, 32, 33, 34, 35, 36, 37, 38, 39, 40, 41, 42, 43, 44, 45] (by decide +kernel) (by decide +kernel)
set_option maxRecDepth 20000 in
theorem gX6_canBow_X6_takes : GoodIn wsX6_canBow (wsV RX6 138 RX6 yX6_takes wsX6_takes) := goodIn_app (goodIn_of _ (by decide +kernel)) ggX6_canBow_X6_takes
theorem dX6_canBow_0 : decode cX6_canBow 0 = .ok (.aload_n 0, 1) := by decide +kernel
theorem dX6_canBow_1 : decode cX6_canBow 1 = .ok (.iload_n 1, 1) := by decide +kernel
theorem dX6_canBow_2 : decode cX6_canBow 2 = .ok (.iload_n 2, 1) := by decide +kernel
theorem dX6_canBow_3 : decode cX6_canBow 3 = .ok (.iload_n 3, 1) := by decide +kernel
theorem dX6_canBow_4 : decode cX6_canBow 4 = .ok (.invokevirtual 123, 3) := by decide +kernel
theorem dX6_canBow_7 : decode cX6_canBow 7 = .ok (.ifCond .le 16, 3) := by decide +kernel
theorem dX6_canBow_10 : decode cX6_canBow 10 = .ok (.aload_n 0, 1) := by decide +kernel
theorem dX6_canBow_11 : decode cX6_canBow 11 = .ok (.iload_n 1, 1) := by decide +kernel
theorem dX6_canBow_12 : decode cX6_canBow 12 = .ok (.iload_n 3, 1) := by decide +kernel
theorem dX6_canBow_13 : decode cX6_canBow 13 = .ok (.invokevirtual 138, 3) := by decide +kernel
theorem dX6_canBow_16 : decode cX6_canBow 16 = .ok (.ifCond .eq 7, 3) := by decide +kernel
theorem dX6_canBow_19 : decode cX6_canBow 19 = .ok (.iconst 1, 1) := by decide +kernel
theorem dX6_canBow_20 : decode cX6_canBow 20 = .ok (.goto 4, 3) := by decide +kernel
theorem dX6_canBow_23 : decode cX6_canBow 23 = .ok (.iconst 0, 1) := by decide +kernel
theorem dX6_canBow_24 : decode cX6_canBow 24 = .ok (.ireturn, 1) := by decide +kernel
set_option maxRecDepth 20000 in
theorem ggX6_pays_X6_debt : GoodIn wsX6_pays wsX6_debt := goodIn_r _ [7, 8, 9, 10, 11, 12, 13, 14, 15, 16, 17, 18, 19, 20, 21, 22, 23, 24, 25, 26, 27, 28, 29, 30] (by decide +kernel) (by decide +kernel)
set_option maxRecDepth 20000 in
theorem gX6_pays_X6_debt : GoodIn wsX6_pays (wsV RX6 123 RX6 yX6_debt wsX6_debt) := goodIn_app (goodIn_of _ (by decide +kernel)) ggX6_pays_X6_debt
theorem dX6_pays_0 : decode cX6_pays 0 = .ok (.aload_n 0, 1) := by decide +kernel
theorem dX6_pays_1 : decode cX6_pays 1 = .ok (.getfield 16, 3) := by decide +kernel
theorem dX6_pays_4 : decode cX6_pays 4 = .ok (.iload_n 2, 1) := by decide +kernel
theorem dX6_pays_5 : decode cX6_pays 5 = .ok (.iaload, 1) := by decide +kernel
theorem dX6_pays_6 : decode cX6_pays 6 = .ok (.iconst 2, 1) := by decide +kernel
theorem dX6_pays_7 : decode cX6_pays 7 = .ok (.if_icmp .ne 13, 3) := by decide +kernel
theorem dX6_pays_10 : decode cX6_pays 10 = .ok (.aload_n 0, 1) := by decide +kernel
theorem dX6_pays_11 : decode cX6_pays 11 = .ok (.iload_n 1, 1) := by decide +kernel
theorem dX6_pays_12 : decode cX6_pays 12 = .ok (.iload_n 2, 1) := by decide +kernel
theorem dX6_pays_13 : decode cX6_pays 13 = .ok (.iload_n 3, 1) := by decide +kernel
theorem dX6_pays_14 : decode cX6_pays 14 = .ok (.invokevirtual 123, 3) := by decide +kernel
theorem dX6_pays_17 : decode cX6_pays 17 = .ok (.goto 30, 3) := by decide +kernel
theorem dX6_pays_20 : decode cX6_pays 20 = .ok (.aload_n 0, 1) := by decide +kernel
theorem dX6_pays_21 : decode cX6_pays 21 = .ok (.getfield 16, 3) := by decide +kernel
theorem dX6_pays_24 : decode cX6_pays 24 = .ok (.iload_n 2, 1) := by decide +kernel
theorem dX6_pays_25 : decode cX6_pays 25 = .ok (.iaload, 1) := by decide +kernel
theorem dX6_pays_26 : decode cX6_pays 26 = .ok (.iconst 3, 1) := by decide +kernel
theorem dX6_pays_27 : decode cX6_pays 27 = .ok (.if_icmp .ne 19, 3) := by decide +kernel
theorem dX6_pays_30 : decode cX6_pays 30 = .ok (.aload_n 0, 1) := by decide +kernel
theorem dX6_pays_31 : decode cX6_pays 31 = .ok (.getfield 52, 3) := by decide +kernel
theorem dX6_pays_34 : decode cX6_pays 34 = .ok (.iload_n 1, 1) := by decide +kernel
theorem dX6_pays_35 : decode cX6_pays 35 = .ok (.iaload, 1) := by decide +kernel
theorem dX6_pays_36 : decode cX6_pays 36 = .ok (.iconst 2, 1) := by decide +kernel
theorem dX6_pays_37 : decode cX6_pays 37 = .ok (.irem, 1) := by decide +kernel
theorem dX6_pays_38 : decode cX6_pays 38 = .ok (.iconst 1, 1) := by decide +kernel
theorem dX6_pays_39 : decode cX6_pays 39 = .ok (.if_icmp .ne 7, 3) := by decide +kernel
theorem dX6_pays_42 : decode cX6_pays 42 = .ok (.iconst 0, 1) := by decide +kernel
theorem dX6_pays_43 : decode cX6_pays 43 = .ok (.goto 4, 3) := by decide +kernel
theorem dX6_pays_46 : decode cX6_pays 46 = .ok (.iconst 1, 1) := by decide +kernel
theorem dX6_pays_47 : decode cX6_pays 47 = .ok (.ireturn, 1) := by decide +kernel
set_option maxRecDepth 20000 in
theorem ggX6_canAtOnce_X6_debt : GoodIn wsX6_canAtOnce wsX6_debt := goodIn_r _ [5, 6, 11, 12, 13, 14, 15, 16, 17, 18, 19, 20, 21, 22, 23, 24, 25, 26, 27, 28, 29, 30, 31, 32] (by decide +kernel) (by decide +kernel)
set_option maxRecDepth 20000 in
theorem gX6_canAtOnce_X6_debt : GoodIn wsX6_canAtOnce (wsV RX6 123 RX6 yX6_debt wsX6_debt) := goodIn_app (goodIn_of _ (by decide +kernel)) ggX6_canAtOnce_X6_debt
set_option maxRecDepth 20000 in
theorem ggX6_canAtOnce_X6_debtsOf : GoodIn wsX6_canAtOnce wsX6_debtsOf := goodIn_r _ [10, 1, 2, 3, 4, 5, 6, 11, 12, 13, 14, 15, 16, 17, 18, 19, 20, 21, 22, 23, 24, 25, 26, 27, 28, 29, 30, 31, 32] (by decide +kernel) (by decide +kernel)
set_option maxRecDepth 20000 in
theorem gX6_canAtOnce_X6_debtsOf : GoodIn wsX6_canAtOnce (wsV RX6 127 RX6 yX6_debtsOf wsX6_debtsOf) := goodIn_app (goodIn_of _ (by decide +kernel)) ggX6_canAtOnce_X6_debtsOf
theorem dX6_canAtOnce_0 : decode cX6_canAtOnce 0 = .ok (.aload_n 0, 1) := by decide +kernel
theorem dX6_canAtOnce_1 : decode cX6_canAtOnce 1 = .ok (.iload_n 1, 1) := by decide +kernel
theorem dX6_canAtOnce_2 : decode cX6_canAtOnce 2 = .ok (.iload_n 2, 1) := by decide +kernel
theorem dX6_canAtOnce_3 : decode cX6_canAtOnce 3 = .ok (.iload_n 3, 1) := by decide +kernel
theorem dX6_canAtOnce_4 : decode cX6_canAtOnce 4 = .ok (.invokevirtual 123, 3) := by decide +kernel
theorem dX6_canAtOnce_7 : decode cX6_canAtOnce 7 = .ok (.ifCond .le 49, 3) := by decide +kernel
theorem dX6_canAtOnce_10 : decode cX6_canAtOnce 10 = .ok (.aload_n 0, 1) := by decide +kernel
theorem dX6_canAtOnce_11 : decode cX6_canAtOnce 11 = .ok (.iload_n 1, 1) := by decide +kernel
theorem dX6_canAtOnce_12 : decode cX6_canAtOnce 12 = .ok (.iload_n 3, 1) := by decide +kernel
theorem dX6_canAtOnce_13 : decode cX6_canAtOnce 13 = .ok (.iload_n 2, 1) := by decide +kernel
theorem dX6_canAtOnce_14 : decode cX6_canAtOnce 14 = .ok (.invokevirtual 123, 3) := by decide +kernel
theorem dX6_canAtOnce_17 : decode cX6_canAtOnce 17 = .ok (.ifCond .le 39, 3) := by decide +kernel
theorem dX6_canAtOnce_20 : decode cX6_canAtOnce 20 = .ok (.aload_n 0, 1) := by decide +kernel
theorem dX6_canAtOnce_21 : decode cX6_canAtOnce 21 = .ok (.iload_n 1, 1) := by decide +kernel
theorem dX6_canAtOnce_22 : decode cX6_canAtOnce 22 = .ok (.iload_n 2, 1) := by decide +kernel
theorem dX6_canAtOnce_23 : decode cX6_canAtOnce 23 = .ok (.invokevirtual 127, 3) := by decide +kernel
theorem dX6_canAtOnce_26 : decode cX6_canAtOnce 26 = .ok (.aload_n 0, 1) := by decide +kernel
theorem dX6_canAtOnce_27 : decode cX6_canAtOnce 27 = .ok (.iload_n 1, 1) := by decide +kernel
theorem dX6_canAtOnce_28 : decode cX6_canAtOnce 28 = .ok (.iload_n 2, 1) := by decide +kernel
theorem dX6_canAtOnce_29 : decode cX6_canAtOnce 29 = .ok (.iload_n 3, 1) := by decide +kernel
theorem dX6_canAtOnce_30 : decode cX6_canAtOnce 30 = .ok (.invokevirtual 123, 3) := by decide +kernel
theorem dX6_canAtOnce_33 : decode cX6_canAtOnce 33 = .ok (.if_icmp .ne 23, 3) := by decide +kernel
theorem dX6_canAtOnce_36 : decode cX6_canAtOnce 36 = .ok (.aload_n 0, 1) := by decide +kernel
theorem dX6_canAtOnce_37 : decode cX6_canAtOnce 37 = .ok (.iload_n 1, 1) := by decide +kernel
theorem dX6_canAtOnce_38 : decode cX6_canAtOnce 38 = .ok (.iload_n 3, 1) := by decide +kernel
theorem dX6_canAtOnce_39 : decode cX6_canAtOnce 39 = .ok (.invokevirtual 127, 3) := by decide +kernel
theorem dX6_canAtOnce_42 : decode cX6_canAtOnce 42 = .ok (.aload_n 0, 1) := by decide +kernel
theorem dX6_canAtOnce_43 : decode cX6_canAtOnce 43 = .ok (.iload_n 1, 1) := by decide +kernel
theorem dX6_canAtOnce_44 : decode cX6_canAtOnce 44 = .ok (.iload_n 3, 1) := by decide +kernel
theorem dX6_canAtOnce_45 : decode cX6_canAtOnce 45 = .ok (.iload_n 2, 1) := by decide +kernel
theorem dX6_canAtOnce_46 : decode cX6_canAtOnce 46 = .ok (.invokevirtual 123, 3) := by decide +kernel
theorem dX6_canAtOnce_49 : decode cX6_canAtOnce 49 = .ok (.if_icmp .ne 7, 3) := by decide +kernel
theorem dX6_canAtOnce_52 : decode cX6_canAtOnce 52 = .ok (.iconst 1, 1) := by decide +kernel
theorem dX6_canAtOnce_53 : decode cX6_canAtOnce 53 = .ok (.goto 4, 3) := by decide +kernel
theorem dX6_canAtOnce_56 : decode cX6_canAtOnce 56 = .ok (.iconst 0, 1) := by decide +kernel
theorem dX6_canAtOnce_57 : decode cX6_canAtOnce 57 = .ok (.ireturn, 1) := by decide +kernel
set_option maxRecDepth 20000 in
theorem ggX6_maySpeak_X6_isAlive : GoodIn wsX6_maySpeak wsX6_isAlive := goodIn_r _ [5, 6, 7, 8, 4, 9, 15, 16, 17, 18, 19, 20, 21, 22, 23, 24, 25, 26, 27, 28, 29, 30, 31, 32, 33, 34, 35, 36] (by decide +kernel) (by decide +kernel)
set_option maxRecDepth 20000 in
theorem gX6_maySpeak_X6_isAlive : GoodIn wsX6_maySpeak (wsV RX6 135 RX6 yX6_isAlive wsX6_isAlive) := goodIn_app (goodIn_of _ (by decide +kernel)) ggX6_maySpeak_X6_isAlive
set_option maxRecDepth 20000 in
theorem ggX6_maySpeak_X6_debt : GoodIn wsX6_maySpeak wsX6_debt := goodIn_r _ [13, 14, 15, 16, 17, 18, 19, 20, 21, 22, 23, 24, 25, 26, 27, 28, 29, 30, 31, 32, 33, 34, 35, 36] (by decide +kernel) (by decide +kernel)
set_option maxRecDepth 20000 in
theorem gX6_maySpeak_X6_debt : GoodIn wsX6_maySpeak (wsV RX6 123 RX6 yX6_debt wsX6_debt) := goodIn_app (goodIn_of _ (by decide +kernel)) ggX6_maySpeak_X6_debt
theorem dX6_maySpeak_0 : decode cX6_maySpeak 0 = .ok (.iload_n 2, 1) := by decide +kernel
theorem dX6_maySpeak_1 : decode cX6_maySpeak 1 = .ok (.iload_n 3, 1) := by decide +kernel
theorem dX6_maySpeak_2 : decode cX6_maySpeak 2 = .ok (.if_icmp .eq 45, 3) := by decide +kernel
theorem dX6_maySpeak_5 : decode cX6_maySpeak 5 = .ok (.aload_n 0, 1) := by decide +kernel
theorem dX6_maySpeak_6 : decode cX6_maySpeak 6 = .ok (.iload_n 1, 1) := by decide +kernel
theorem dX6_maySpeak_7 : decode cX6_maySpeak 7 = .ok (.iload_n 2, 1) := by decide +kernel
theorem dX6_maySpeak_8 : decode cX6_maySpeak 8 = .ok (.invokevirtual 135, 3) := by decide +kernel
theorem dX6_maySpeak_11 : decode cX6_maySpeak 11 = .ok (.ifCond .eq 36, 3) := by decide +kernel
theorem dX6_maySpeak_14 : decode cX6_maySpeak 14 = .ok (.aload_n 0, 1) := by decide +kernel
theorem dX6_maySpeak_15 : decode cX6_maySpeak 15 = .ok (.iload_n 1, 1) := by decide +kernel
theorem dX6_maySpeak_16 : decode cX6_maySpeak 16 = .ok (.iload_n 3, 1) := by decide +kernel
theorem dX6_maySpeak_17 : decode cX6_maySpeak 17 = .ok (.invokevirtual 135, 3) := by decide +kernel
theorem dX6_maySpeak_20 : decode cX6_maySpeak 20 = .ok (.ifCond .eq 27, 3) := by decide +kernel
theorem dX6_maySpeak_23 : decode cX6_maySpeak 23 = .ok (.aload_n 0, 1) := by decide +kernel
theorem dX6_maySpeak_24 : decode cX6_maySpeak 24 = .ok (.iload_n 1, 1) := by decide +kernel
theorem dX6_maySpeak_25 : decode cX6_maySpeak 25 = .ok (.iload_n 2, 1) := by decide +kernel
theorem dX6_maySpeak_26 : decode cX6_maySpeak 26 = .ok (.iload_n 3, 1) := by decide +kernel
theorem dX6_maySpeak_27 : decode cX6_maySpeak 27 = .ok (.invokevirtual 123, 3) := by decide +kernel
theorem dX6_maySpeak_30 : decode cX6_maySpeak 30 = .ok (.ifCond .ne 17, 3) := by decide +kernel
theorem dX6_maySpeak_33 : decode cX6_maySpeak 33 = .ok (.aload_n 0, 1) := by decide +kernel
theorem dX6_maySpeak_34 : decode cX6_maySpeak 34 = .ok (.iload_n 1, 1) := by decide +kernel
theorem dX6_maySpeak_35 : decode cX6_maySpeak 35 = .ok (.iload_n 3, 1) := by decide +kernel
theorem dX6_maySpeak_36 : decode cX6_maySpeak 36 = .ok (.iload_n 2, 1) := by decide +kernel
theorem dX6_maySpeak_37 : decode cX6_maySpeak 37 = .ok (.invokevirtual 123, 3) := by decide +kernel
theorem dX6_maySpeak_40 : decode cX6_maySpeak 40 = .ok (.ifCond .ne 7, 3) := by decide +kernel
theorem dX6_maySpeak_43 : decode cX6_maySpeak 43 = .ok (.iconst 1, 1) := by decide +kernel
theorem dX6_maySpeak_44 : decode cX6_maySpeak 44 = .ok (.goto 4, 3) := by decide +kernel
theorem dX6_maySpeak_47 : decode cX6_maySpeak 47 = .ok (.iconst 0, 1) := by decide +kernel
theorem dX6_maySpeak_48 : decode cX6_maySpeak 48 = .ok (.ireturn, 1) := by decide +kernel
set_option maxRecDepth 20000 in
theorem ggX6_goDay_X6_isAlive : GoodIn wsX6_goDay wsX6_isAlive := goodIn_r _ [8, 9, 10, 11, 7, 12, 22, 23, 24, 25, 26, 27, 28, 29, 30, 31, 32, 33, 34, 35, 36, 37, 38, 39, 40, 41, 42, 43] (by decide +kernel) (by decide +kernel)
set_option maxRecDepth 20000 in
theorem gX6_goDay_X6_isAlive : GoodIn wsX6_goDay (wsV RX6 135 RX6 yX6_isAlive wsX6_isAlive) := goodIn_app (goodIn_of _ (by decide +kernel)) ggX6_goDay_X6_isAlive
set_option maxRecDepth 20000 in
theorem ggX6_goDay_X6_debt : GoodIn wsX6_goDay wsX6_debt := goodIn_r _ [16, 17, 22, 23, 24, 25, 26, 27, 28, 29, 30, 31, 32, 33, 34, 35, 36, 37, 38, 39, 40, 41, 42, 43] (by decide +kernel) (by decide +kernel)
set_option maxRecDepth 20000 in
theorem gX6_goDay_X6_debt : GoodIn wsX6_goDay (wsV RX6 123 RX6 yX6_debt wsX6_debt) := goodIn_app (goodIn_of _ (by decide +kernel)) ggX6_goDay_X6_debt
set_option maxRecDepth 20000 in
theorem ggX6_goDay_X6_setDebt : GoodIn wsX6_goDay wsX6_setDebt := goodIn_r _ [21, 17, 22, 23, 24, 25, 26, 27, 28, 29, 30, 31, 32, 33, 34, 35, 36, 37, 38, 39, 40, 41, 42, 43] (by decide +kernel) (by decide +kernel)
set_option maxRecDepth 20000 in
theorem gX6_goDay_X6_setDebt : GoodIn wsX6_goDay (wsV RX6 141 RX6 yX6_setDebt wsX6_setDebt) := goodIn_app (goodIn_of _ (by decide +kernel)) ggX6_goDay_X6_setDebt
theorem dX6_goDay_0 : decode cX6_goDay 0 = .ok (.aload_n 0, 1) := by decide +kernel
theorem dX6_goDay_1 : decode cX6_goDay 1 = .ok (.getfield 52, 3) := by decide +kernel
theorem dX6_goDay_4 : decode cX6_goDay 4 = .ok (.iload_n 1, 1) := by decide +kernel
theorem dX6_goDay_5 : decode cX6_goDay 5 = .ok (.dup2, 1) := by decide +kernel
theorem dX6_goDay_6 : decode cX6_goDay 6 = .ok (.iaload, 1) := by decide +kernel
theorem dX6_goDay_7 : decode cX6_goDay 7 = .ok (.iconst 1, 1) := by decide +kernel
theorem dX6_goDay_8 : decode cX6_goDay 8 = .ok (.iadd, 1) := by decide +kernel
theorem dX6_goDay_9 : decode cX6_goDay 9 = .ok (.iastore, 1) := by decide +kernel
theorem dX6_goDay_10 : decode cX6_goDay 10 = .ok (.iconst 0, 1) := by decide +kernel
theorem dX6_goDay_11 : decode cX6_goDay 11 = .ok (.istore_n 2, 1) := by decide +kernel
theorem dX6_goDay_12 : decode cX6_goDay 12 = .ok (.iload_n 2, 1) := by decide +kernel
theorem dX6_goDay_13 : decode cX6_goDay 13 = .ok (.aload_n 0, 1) := by decide +kernel
theorem dX6_goDay_14 : decode cX6_goDay 14 = .ok (.getfield 55, 3) := by decide +kernel
theorem dX6_goDay_17 : decode cX6_goDay 17 = .ok (.iload_n 1, 1) := by decide +kernel
theorem dX6_goDay_18 : decode cX6_goDay 18 = .ok (.iaload, 1) := by decide +kernel
theorem dX6_goDay_19 : decode cX6_goDay 19 = .ok (.if_icmp .ge 88, 3) := by decide +kernel
theorem dX6_goDay_22 : decode cX6_goDay 22 = .ok (.aload_n 0, 1) := by decide +kernel
theorem dX6_goDay_23 : decode cX6_goDay 23 = .ok (.getfield 52, 3) := by decide +kernel
theorem dX6_goDay_26 : decode cX6_goDay 26 = .ok (.iload_n 1, 1) := by decide +kernel
theorem dX6_goDay_27 : decode cX6_goDay 27 = .ok (.iaload, 1) := by decide +kernel
theorem dX6_goDay_28 : decode cX6_goDay 28 = .ok (.bipush 7, 2) := by decide +kernel
theorem dX6_goDay_30 : decode cX6_goDay 30 = .ok (.irem, 1) := by decide +kernel
theorem dX6_goDay_31 : decode cX6_goDay 31 = .ok (.ifCond .ne 76, 3) := by decide +kernel
theorem dX6_goDay_34 : decode cX6_goDay 34 = .ok (.iconst 0, 1) := by decide +kernel
theorem dX6_goDay_35 : decode cX6_goDay 35 = .ok (.istore_n 3, 1) := by decide +kernel
theorem dX6_goDay_36 : decode cX6_goDay 36 = .ok (.iload_n 3, 1) := by decide +kernel
theorem dX6_goDay_37 : decode cX6_goDay 37 = .ok (.aload_n 0, 1) := by decide +kernel
theorem dX6_goDay_38 : decode cX6_goDay 38 = .ok (.getfield 55, 3) := by decide +kernel
theorem dX6_goDay_41 : decode cX6_goDay 41 = .ok (.iload_n 1, 1) := by decide +kernel
theorem dX6_goDay_42 : decode cX6_goDay 42 = .ok (.iaload, 1) := by decide +kernel
theorem dX6_goDay_43 : decode cX6_goDay 43 = .ok (.if_icmp .ge 58, 3) := by decide +kernel
theorem dX6_goDay_46 : decode cX6_goDay 46 = .ok (.aload_n 0, 1) := by decide +kernel
theorem dX6_goDay_47 : decode cX6_goDay 47 = .ok (.getfield 16, 3) := by decide +kernel
theorem dX6_goDay_50 : decode cX6_goDay 50 = .ok (.iload_n 2, 1) := by decide +kernel
theorem dX6_goDay_51 : decode cX6_goDay 51 = .ok (.iaload, 1) := by decide +kernel
theorem dX6_goDay_52 : decode cX6_goDay 52 = .ok (.iconst 1, 1) := by decide +kernel
theorem dX6_goDay_53 : decode cX6_goDay 53 = .ok (.if_icmp .ne 42, 3) := by decide +kernel
theorem dX6_goDay_56 : decode cX6_goDay 56 = .ok (.iload_n 2, 1) := by decide +kernel
theorem dX6_goDay_57 : decode cX6_goDay 57 = .ok (.iload_n 3, 1) := by decide +kernel
theorem dX6_goDay_58 : decode cX6_goDay 58 = .ok (.if_icmp .eq 37, 3) := by decide +kernel
theorem dX6_goDay_61 : decode cX6_goDay 61 = .ok (.aload_n 0, 1) := by decide +kernel
theorem dX6_goDay_62 : decode cX6_goDay 62 = .ok (.iload_n 1, 1) := by decide +kernel
theorem dX6_goDay_63 : decode cX6_goDay 63 = .ok (.iload_n 2, 1) := by decide +kernel
theorem dX6_goDay_64 : decode cX6_goDay 64 = .ok (.invokevirtual 135, 3) := by decide +kernel
theorem dX6_goDay_67 : decode cX6_goDay 67 = .ok (.ifCond .eq 28, 3) := by decide +kernel
theorem dX6_goDay_70 : decode cX6_goDay 70 = .ok (.aload_n 0, 1) := by decide +kernel
theorem dX6_goDay_71 : decode cX6_goDay 71 = .ok (.iload_n 1, 1) := by decide +kernel
theorem dX6_goDay_72 : decode cX6_goDay 72 = .ok (.iload_n 3, 1) := by decide +kernel
theorem dX6_goDay_73 : decode cX6_goDay 73 = .ok (.invokevirtual 135, 3) := by decide +kernel
theorem dX6_goDay_76 : decode cX6_goDay 76 = .ok (.ifCond .eq 19, 3) := by decide +kernel
theorem dX6_goDay_79 : decode cX6_goDay 79 = .ok (.aload_n 0, 1) := by decide +kernel
theorem dX6_goDay_80 : decode cX6_goDay 80 = .ok (.iload_n 1, 1) := by decide +kernel
theorem dX6_goDay_81 : decode cX6_goDay 81 = .ok (.iload_n 2, 1) := by decide +kernel
theorem dX6_goDay_82 : decode cX6_goDay 82 = .ok (.iload_n 3, 1) := by decide +kernel
theorem dX6_goDay_83 : decode cX6_goDay 83 = .ok (.aload_n 0, 1) := by decide +kernel
theorem dX6_goDay_84 : decode cX6_goDay 84 = .ok (.iload_n 1, 1) := by decide +kernel
theorem dX6_goDay_85 : decode cX6_goDay 85 = .ok (.iload_n 2, 1) := by decide +kernel
theorem dX6_goDay_86 : decode cX6_goDay 86 = .ok (.iload_n 3, 1) := by decide +kernel
theorem dX6_goDay_87 : decode cX6_goDay 87 = .ok (.invokevirtual 123, 3) := by decide +kernel
theorem dX6_goDay_90 : decode cX6_goDay 90 = .ok (.iconst 1, 1) := by decide +kernel
theorem dX6_goDay_91 : decode cX6_goDay 91 = .ok (.iadd, 1) := by decide +kernel
theorem dX6_goDay_92 : decode cX6_goDay 92 = .ok (.invokevirtual 141, 3) := by decide +kernel
theorem dX6_goDay_95 : decode cX6_goDay 95 = .ok (.iinc 3 1, 3) := by decide +kernel
theorem dX6_goDay_98 : decode cX6_goDay 98 = .ok (.goto (-62), 3) := by decide +kernel
theorem dX6_goDay_101 : decode cX6_goDay 101 = .ok (.iinc 2 1, 3) := by decide +kernel
theorem dX6_goDay_104 : decode cX6_goDay 104 = .ok (.goto (-92), 3) := by decide +kernel
theorem dX6_goDay_107 : decode cX6_goDay 107 = .ok (.return_, 1) := by decide +kernel
set_option maxRecDepth 20000 in
theorem ggX6_canDo_X6_isAlive : GoodIn wsX6_canDo wsX6_isAlive := goodIn_r _ [5, 6, 7, 8, 4, 9, 32, 33, 34, 35, 36, 37, 38, 39, 40, 41, 42, 43, 44, 45, 46, 47, 48, 49, 50, 51, 52, 53] (by decide +kernel) (by decide +kernel)
set_option maxRecDepth 20000 in
theorem gX6_canDo_X6_isAlive : GoodIn wsX6_canDo (wsV RX6 135 RX6 yX6_isAlive wsX6_isAlive) := goodIn_app (goodIn_of _ (by decide +kernel)) ggX6_canDo_X6_isAlive
set_option maxRecDepth 20000 in
theorem ggX6_canDo_X6_debt : GoodIn wsX6_canDo wsX6_debt := goodIn_r _ [13, 14, 32, 33, 34, 35, 36, 37, 38, 39, 40, 41, 42, 43, 44, 45, 46, 47, 48, 49, 50, 51, 52, 53] (by decide +kernel) (by decide +kernel)
set_option maxRecDepth 20000 in
theorem gX6_canDo_X6_debt : GoodIn wsX6_canDo (wsV RX6 123 RX6 yX6_debt wsX6_debt) := goodIn_app (goodIn_of _ (by decide +kernel)) ggX6_canDo_X6_debt
set_option maxRecDepth 20000 in
theorem ggX6_canDo_X6_canBow : GoodIn wsX6_canDo wsX6_canBow := goodIn_r _ [18, 10, 11, 12, 4, 13, 14, 19, 20, 21, 22, 23, 1, 2, 3, 5, 6, 7, 8, 9, 24, 25, 26, 27, 32, 33, 34, 35, 36, 37, 38, 39, 40, 41, 42, 43, 44, 45, 46, 47, 48, 49, 50, 51, 52, 53] (by decide +kernel) (by decide +kernel)
set_option maxRecDepth 20000 in
theorem gX6_canDo_X6_canBow : GoodIn wsX6_canDo (wsV RX6 145 RX6 yX6_canBow wsX6_canBow) := goodIn_app (goodIn_of _ (by decide +kernel)) ggX6_canDo_X6_canBow
set_option maxRecDepth 20000 in
theorem ggX6_canDo_X6_canAtOnce : GoodIn wsX6_canDo wsX6_canAtOnce := goodIn_r _ [31, 10, 11, 12, 4, 13, 14, 24, 25, 26, 27, 32, 33, 34, 35, 36, 37, 38, 39, 40, 41, 42, 43, 44, 45, 46, 47, 48, 49, 50, 51, 52, 53] (by decide +kernel) (by decide +kernel)
set_option maxRecDepth 20000 in
theorem gX6_canDo_X6_canAtOnce : GoodIn wsX6_canDo (wsV RX6 149 RX6 yX6_canAtOnce wsX6_canAtOnce) := goodIn_app (goodIn_of _ (by decide +kernel)) ggX6_canDo_X6_canAtOnce
theorem dX6_canDo_0 : decode cX6_canDo 0 = .ok (.iload_n 2, 1) := by decide +kernel
theorem dX6_canDo_1 : decode cX6_canDo 1 = .ok (.tableswitch 128 0 4 #[35, 73, 82, 112, 121], 35) := by decide +kernel
theorem dX6_canDo_36 : decode cX6_canDo 36 = .ok (.aload_n 0, 1) := by decide +kernel
theorem dX6_canDo_37 : decode cX6_canDo 37 = .ok (.iload_n 1, 1) := by decide +kernel
theorem dX6_canDo_38 : decode cX6_canDo 38 = .ok (.iload_n 3, 1) := by decide +kernel
theorem dX6_canDo_39 : decode cX6_canDo 39 = .ok (.invokevirtual 135, 3) := by decide +kernel
theorem dX6_canDo_42 : decode cX6_canDo 42 = .ok (.ifCond .eq 30, 3) := by decide +kernel
theorem dX6_canDo_45 : decode cX6_canDo 45 = .ok (.aload_n 0, 1) := by decide +kernel
theorem dX6_canDo_46 : decode cX6_canDo 46 = .ok (.iload_n 1, 1) := by decide +kernel
theorem dX6_canDo_47 : decode cX6_canDo 47 = .ok (.iload 4, 2) := by decide +kernel
theorem dX6_canDo_49 : decode cX6_canDo 49 = .ok (.invokevirtual 135, 3) := by decide +kernel
theorem dX6_canDo_52 : decode cX6_canDo 52 = .ok (.ifCond .eq 20, 3) := by decide +kernel
theorem dX6_canDo_55 : decode cX6_canDo 55 = .ok (.aload_n 0, 1) := by decide +kernel
theorem dX6_canDo_56 : decode cX6_canDo 56 = .ok (.iload_n 1, 1) := by decide +kernel
theorem dX6_canDo_57 : decode cX6_canDo 57 = .ok (.iload_n 3, 1) := by decide +kernel
theorem dX6_canDo_58 : decode cX6_canDo 58 = .ok (.iload 4, 2) := by decide +kernel
theorem dX6_canDo_60 : decode cX6_canDo 60 = .ok (.invokevirtual 123, 3) := by decide +kernel
theorem dX6_canDo_63 : decode cX6_canDo 63 = .ok (.bipush 9, 2) := by decide +kernel
theorem dX6_canDo_65 : decode cX6_canDo 65 = .ok (.if_icmp .ge 7, 3) := by decide +kernel
theorem dX6_canDo_68 : decode cX6_canDo 68 = .ok (.iconst 1, 1) := by decide +kernel
theorem dX6_canDo_69 : decode cX6_canDo 69 = .ok (.goto 4, 3) := by decide +kernel
theorem dX6_canDo_72 : decode cX6_canDo 72 = .ok (.iconst 0, 1) := by decide +kernel
theorem dX6_canDo_73 : decode cX6_canDo 73 = .ok (.ireturn, 1) := by decide +kernel
theorem dX6_canDo_74 : decode cX6_canDo 74 = .ok (.aload_n 0, 1) := by decide +kernel
theorem dX6_canDo_75 : decode cX6_canDo 75 = .ok (.iload_n 1, 1) := by decide +kernel
theorem dX6_canDo_76 : decode cX6_canDo 76 = .ok (.iload_n 3, 1) := by decide +kernel
theorem dX6_canDo_77 : decode cX6_canDo 77 = .ok (.iload 4, 2) := by decide +kernel
theorem dX6_canDo_79 : decode cX6_canDo 79 = .ok (.invokevirtual 145, 3) := by decide +kernel
theorem dX6_canDo_82 : decode cX6_canDo 82 = .ok (.ireturn, 1) := by decide +kernel
theorem dX6_canDo_83 : decode cX6_canDo 83 = .ok (.aload_n 0, 1) := by decide +kernel
theorem dX6_canDo_84 : decode cX6_canDo 84 = .ok (.iload_n 1, 1) := by decide +kernel
theorem dX6_canDo_85 : decode cX6_canDo 85 = .ok (.iload_n 3, 1) := by decide +kernel
theorem dX6_canDo_86 : decode cX6_canDo 86 = .ok (.iload 4, 2) := by decide +kernel
theorem dX6_canDo_88 : decode cX6_canDo 88 = .ok (.invokevirtual 145, 3) := by decide +kernel
theorem dX6_canDo_91 : decode cX6_canDo 91 = .ok (.ifCond .eq 20, 3) := by decide +kernel
theorem dX6_canDo_94 : decode cX6_canDo 94 = .ok (.aload_n 0, 1) := by decide +kernel
theorem dX6_canDo_95 : decode cX6_canDo 95 = .ok (.iload_n 1, 1) := by decide +kernel
theorem dX6_canDo_96 : decode cX6_canDo 96 = .ok (.iload_n 3, 1) := by decide +kernel
theorem dX6_canDo_97 : decode cX6_canDo 97 = .ok (.iload 4, 2) := by decide +kernel
theorem dX6_canDo_99 : decode cX6_canDo 99 = .ok (.invokevirtual 123, 3) := by decide +kernel
theorem dX6_canDo_102 : decode cX6_canDo 102 = .ok (.bipush 9, 2) := by decide +kernel
theorem dX6_canDo_104 : decode cX6_canDo 104 = .ok (.if_icmp .ge 7, 3) := by decide +kernel
theorem dX6_canDo_107 : decode cX6_canDo 107 = .ok (.iconst 1, 1) := by decide +kernel
theorem dX6_canDo_108 : decode cX6_canDo 108 = .ok (.goto 4, 3) := by decide +kernel
theorem dX6_canDo_111 : decode cX6_canDo 111 = .ok (.iconst 0, 1) := by decide +kernel
theorem dX6_canDo_112 : decode cX6_canDo 112 = .ok (.ireturn, 1) := by decide +kernel
theorem dX6_canDo_113 : decode cX6_canDo 113 = .ok (.aload_n 0, 1) := by decide +kernel
theorem dX6_canDo_114 : decode cX6_canDo 114 = .ok (.iload_n 1, 1) := by decide +kernel
theorem dX6_canDo_115 : decode cX6_canDo 115 = .ok (.iload_n 3, 1) := by decide +kernel
theorem dX6_canDo_116 : decode cX6_canDo 116 = .ok (.iload 4, 2) := by decide +kernel
theorem dX6_canDo_118 : decode cX6_canDo 118 = .ok (.invokevirtual 149, 3) := by decide +kernel
theorem dX6_canDo_121 : decode cX6_canDo 121 = .ok (.ireturn, 1) := by decide +kernel
theorem dX6_canDo_122 : decode cX6_canDo 122 = .ok (.aload_n 0, 1) := by decide +kernel
theorem dX6_canDo_123 : decode cX6_canDo 123 = .ok (.iload_n 1, 1) := by decide +kernel
theorem dX6_canDo_124 : decode cX6_canDo 124 = .ok (.iload_n 3, 1) := by decide +kernel
theorem dX6_canDo_125 : decode cX6_canDo 125 = .ok (.invokevirtual 135, 3) := by decide +kernel
theorem dX6_canDo_128 : decode cX6_canDo 128 = .ok (.ireturn, 1) := by decide +kernel
theorem dX6_canDo_129 : decode cX6_canDo 129 = .ok (.iconst 1, 1) := by decide +kernel
theorem dX6_canDo_130 : decode cX6_canDo 130 = .ok (.ireturn, 1) := by decide +kernel
set_option maxRecDepth 20000 in
theorem ggX6_bothBow_X6_pays : GoodIn wsX6_bothBow wsX6_pays := goodIn_r _ [5, 6, 7, 8, 9, 10, 4, 11, 12, 17, 18, 19, 20, 21, 22, 23, 24, 25, 26, 27, 28, 29, 30, 31, 32, 33, 34, 35, 36, 37, 38] (by decide +kernel) (by decide +kernel)
set_option maxRecDepth 20000 in
theorem gX6_bothBow_X6_pays : GoodIn wsX6_bothBow (wsV RX6 152 RX6 yX6_pays wsX6_pays) := goodIn_app (goodIn_of _ (by decide +kernel)) ggX6_bothBow_X6_pays
set_option maxRecDepth 20000 in
theorem ggX6_bothBow_X6_debt : GoodIn wsX6_bothBow wsX6_debt := goodIn_r _ [11, 12, 17, 18, 19, 20, 21, 22, 23, 24, 25, 26, 27, 28, 29, 30, 31, 32, 33, 34, 35, 36, 37, 38] (by decide +kernel) (by decide +kernel)
set_option maxRecDepth 20000 in
theorem gX6_bothBow_X6_debt : GoodIn wsX6_bothBow (wsV RX6 123 RX6 yX6_debt wsX6_debt) := goodIn_app (goodIn_of _ (by decide +kernel)) ggX6_bothBow_X6_debt
set_option maxRecDepth 20000 in
theorem ggX6_bothBow_X6_setDebt : GoodIn wsX6_bothBow wsX6_setDebt := goodIn_r _ [16, 12, 17, 18, 19, 20, 21, 22, 23, 24, 25, 26, 27, 28, 29, 30, 31, 32, 33, 34, 35, 36, 37, 38] (by decide +kernel) (by decide +kernel)
set_option maxRecDepth 20000 in
theorem gX6_bothBow_X6_setDebt : GoodIn wsX6_bothBow (wsV RX6 141 RX6 yX6_setDebt wsX6_setDebt) := goodIn_app (goodIn_of _ (by decide +kernel)) ggX6_bothBow_X6_setDebt
theorem dX6_bothBow_0 : decode cX6_bothBow 0 = .ok (.aload_n 0, 1) := by decide +kernel
theorem dX6_bothBow_1 : decode cX6_bothBow 1 = .ok (.iload_n 1, 1) := by decide +kernel
theorem dX6_bothBow_2 : decode cX6_bothBow 2 = .ok (.iload_n 2, 1) := by decide +kernel
theorem dX6_bothBow_3 : decode cX6_bothBow 3 = .ok (.iload_n 3, 1) := by decide +kernel
theorem dX6_bothBow_4 : decode cX6_bothBow 4 = .ok (.invokevirtual 152, 3) := by decide +kernel
theorem dX6_bothBow_7 : decode cX6_bothBow 7 = .ok (.istore 4, 2) := by decide +kernel
theorem dX6_bothBow_9 : decode cX6_bothBow 9 = .ok (.aload_n 0, 1) := by decide +kernel
theorem dX6_bothBow_10 : decode cX6_bothBow 10 = .ok (.iload_n 1, 1) := by decide +kernel
theorem dX6_bothBow_11 : decode cX6_bothBow 11 = .ok (.iload_n 3, 1) := by decide +kernel
theorem dX6_bothBow_12 : decode cX6_bothBow 12 = .ok (.iload_n 2, 1) := by decide +kernel
theorem dX6_bothBow_13 : decode cX6_bothBow 13 = .ok (.invokevirtual 152, 3) := by decide +kernel
theorem dX6_bothBow_16 : decode cX6_bothBow 16 = .ok (.istore 5, 2) := by decide +kernel
theorem dX6_bothBow_18 : decode cX6_bothBow 18 = .ok (.aload_n 0, 1) := by decide +kernel
theorem dX6_bothBow_19 : decode cX6_bothBow 19 = .ok (.iload_n 1, 1) := by decide +kernel
theorem dX6_bothBow_20 : decode cX6_bothBow 20 = .ok (.iload_n 2, 1) := by decide +kernel
theorem dX6_bothBow_21 : decode cX6_bothBow 21 = .ok (.iload_n 3, 1) := by decide +kernel
theorem dX6_bothBow_22 : decode cX6_bothBow 22 = .ok (.aload_n 0, 1) := by decide +kernel
theorem dX6_bothBow_23 : decode cX6_bothBow 23 = .ok (.iload_n 1, 1) := by decide +kernel
theorem dX6_bothBow_24 : decode cX6_bothBow 24 = .ok (.iload_n 2, 1) := by decide +kernel
theorem dX6_bothBow_25 : decode cX6_bothBow 25 = .ok (.iload_n 3, 1) := by decide +kernel
theorem dX6_bothBow_26 : decode cX6_bothBow 26 = .ok (.invokevirtual 123, 3) := by decide +kernel
theorem dX6_bothBow_29 : decode cX6_bothBow 29 = .ok (.iload 4, 2) := by decide +kernel
theorem dX6_bothBow_31 : decode cX6_bothBow 31 = .ok (.isub, 1) := by decide +kernel
theorem dX6_bothBow_32 : decode cX6_bothBow 32 = .ok (.invokevirtual 141, 3) := by decide +kernel
theorem dX6_bothBow_35 : decode cX6_bothBow 35 = .ok (.aload_n 0, 1) := by decide +kernel
theorem dX6_bothBow_36 : decode cX6_bothBow 36 = .ok (.iload_n 1, 1) := by decide +kernel
theorem dX6_bothBow_37 : decode cX6_bothBow 37 = .ok (.iload_n 3, 1) := by decide +kernel
theorem dX6_bothBow_38 : decode cX6_bothBow 38 = .ok (.iload_n 2, 1) := by decide +kernel
theorem dX6_bothBow_39 : decode cX6_bothBow 39 = .ok (.aload_n 0, 1) := by decide +kernel
theorem dX6_bothBow_40 : decode cX6_bothBow 40 = .ok (.iload_n 1, 1) := by decide +kernel
theorem dX6_bothBow_41 : decode cX6_bothBow 41 = .ok (.iload_n 3, 1) := by decide +kernel
theorem dX6_bothBow_42 : decode cX6_bothBow 42 = .ok (.iload_n 2, 1) := by decide +kernel
theorem dX6_bothBow_43 : decode cX6_bothBow 43 = .ok (.invokevirtual 123, 3) := by decide +kernel
theorem dX6_bothBow_46 : decode cX6_bothBow 46 = .ok (.iload 5, 2) := by decide +kernel
theorem dX6_bothBow_48 : decode cX6_bothBow 48 = .ok (.isub, 1) := by decide +kernel
theorem dX6_bothBow_49 : decode cX6_bothBow 49 = .ok (.invokevirtual 141, 3) := by decide +kernel
theorem dX6_bothBow_52 : decode cX6_bothBow 52 = .ok (.return_, 1) := by decide +kernel
set_option maxRecDepth 20000 in
theorem ggX6_dies_X6_setDebt : GoodIn wsX6_dies wsX6_setDebt := goodIn_r _ [6, 7, 8, 9, 10, 11, 12, 13, 14, 15, 16, 17, 18, 19, 20, 21, 22, 23, 24, 25, 26, 27, 28, 29] (by decide +kernel) (by decide +kernel)
set_option maxRecDepth 20000 in
theorem gX6_dies_X6_setDebt : GoodIn wsX6_dies (wsV RX6 141 RX6 yX6_setDebt wsX6_setDebt) := goodIn_app (goodIn_of _ (by decide +kernel)) ggX6_dies_X6_setDebt
theorem dX6_dies_0 : decode cX6_dies 0 = .ok (.aload_n 0, 1) := by decide +kernel
theorem dX6_dies_1 : decode cX6_dies 1 = .ok (.getfield 49, 3) := by decide +kernel
theorem dX6_dies_4 : decode cX6_dies 4 = .ok (.iload_n 1, 1) := by decide +kernel
theorem dX6_dies_5 : decode cX6_dies 5 = .ok (.dup2, 1) := by decide +kernel
theorem dX6_dies_6 : decode cX6_dies 6 = .ok (.iaload, 1) := by decide +kernel
theorem dX6_dies_7 : decode cX6_dies 7 = .ok (.iconst 1, 1) := by decide +kernel
theorem dX6_dies_8 : decode cX6_dies 8 = .ok (.iload_n 2, 1) := by decide +kernel
theorem dX6_dies_9 : decode cX6_dies 9 = .ok (.ishl, 1) := by decide +kernel
theorem dX6_dies_10 : decode cX6_dies 10 = .ok (.iconst (-1), 1) := by decide +kernel
theorem dX6_dies_11 : decode cX6_dies 11 = .ok (.ixor, 1) := by decide +kernel
theorem dX6_dies_12 : decode cX6_dies 12 = .ok (.iand, 1) := by decide +kernel
theorem dX6_dies_13 : decode cX6_dies 13 = .ok (.iastore, 1) := by decide +kernel
theorem dX6_dies_14 : decode cX6_dies 14 = .ok (.iconst 0, 1) := by decide +kernel
theorem dX6_dies_15 : decode cX6_dies 15 = .ok (.istore_n 3, 1) := by decide +kernel
theorem dX6_dies_16 : decode cX6_dies 16 = .ok (.iload_n 3, 1) := by decide +kernel
theorem dX6_dies_17 : decode cX6_dies 17 = .ok (.bipush 8, 2) := by decide +kernel
theorem dX6_dies_19 : decode cX6_dies 19 = .ok (.if_icmp .ge 25, 3) := by decide +kernel
theorem dX6_dies_22 : decode cX6_dies 22 = .ok (.aload_n 0, 1) := by decide +kernel
theorem dX6_dies_23 : decode cX6_dies 23 = .ok (.iload_n 1, 1) := by decide +kernel
theorem dX6_dies_24 : decode cX6_dies 24 = .ok (.iload_n 2, 1) := by decide +kernel
theorem dX6_dies_25 : decode cX6_dies 25 = .ok (.iload_n 3, 1) := by decide +kernel
theorem dX6_dies_26 : decode cX6_dies 26 = .ok (.iconst 0, 1) := by decide +kernel
theorem dX6_dies_27 : decode cX6_dies 27 = .ok (.invokevirtual 141, 3) := by decide +kernel
theorem dX6_dies_30 : decode cX6_dies 30 = .ok (.aload_n 0, 1) := by decide +kernel
theorem dX6_dies_31 : decode cX6_dies 31 = .ok (.iload_n 1, 1) := by decide +kernel
theorem dX6_dies_32 : decode cX6_dies 32 = .ok (.iload_n 3, 1) := by decide +kernel
theorem dX6_dies_33 : decode cX6_dies 33 = .ok (.iload_n 2, 1) := by decide +kernel
theorem dX6_dies_34 : decode cX6_dies 34 = .ok (.iconst 0, 1) := by decide +kernel
theorem dX6_dies_35 : decode cX6_dies 35 = .ok (.invokevirtual 141, 3) := by decide +kernel
theorem dX6_dies_38 : decode cX6_dies 38 = .ok (.iinc 3 1, 3) := by decide +kernel
theorem dX6_dies_41 : decode cX6_dies 41 = .ok (.goto (-25), 3) := by decide +kernel
theorem dX6_dies_44 : decode cX6_dies 44 = .ok (.return_, 1) := by decide +kernel
set_option maxRecDepth 20000 in
theorem ggX6_doAct_X6_debt : GoodIn wsX6_doAct wsX6_debt := goodIn_r _ [5, 6, 38, 39, 40, 41, 42, 43, 44, 45, 46, 47, 48, 49, 50, 51, 52, 53, 54, 55, 56, 57, 58, 59] (by decide +kernel) (by decide +kernel)
set_option maxRecDepth 20000 in
theorem gX6_doAct_X6_debt : GoodIn wsX6_doAct (wsV RX6 123 RX6 yX6_debt wsX6_debt) := goodIn_app (goodIn_of _ (by decide +kernel)) ggX6_doAct_X6_debt
set_option maxRecDepth 20000 in
theorem ggX6_doAct_X6_setDebt : GoodIn wsX6_doAct wsX6_setDebt := goodIn_r _ [10, 6, 38, 39, 40, 41, 42, 43, 44, 45, 46, 47, 48, 49, 50, 51, 52, 53, 54, 55, 56, 57, 58, 59] (by decide +kernel) (by decide +kernel)
set_option maxRecDepth 20000 in
theorem gX6_doAct_X6_setDebt : GoodIn wsX6_doAct (wsV RX6 141 RX6 yX6_setDebt wsX6_setDebt) := goodIn_app (goodIn_of _ (by decide +kernel)) ggX6_doAct_X6_setDebt
set_option maxRecDepth 20000 in
theorem ggX6_doAct_X6_pays : GoodIn wsX6_doAct wsX6_pays := goodIn_r _ [14, 15, 16, 1, 2, 3, 4, 5, 6, 38, 39, 40, 41, 42, 43, 44, 45, 46, 47, 48, 49, 50, 51, 52, 53, 54, 55, 56, 57, 58, 59] (by decide +kernel) (by decide +kernel)
set_option maxRecDepth 20000 in
theorem gX6_doAct_X6_pays : GoodIn wsX6_doAct (wsV RX6 152 RX6 yX6_pays wsX6_pays) := goodIn_app (goodIn_of _ (by decide +kernel)) ggX6_doAct_X6_pays
set_option maxRecDepth 20000 in
theorem ggX6_doAct_X6_bothBow : GoodIn wsX6_doAct wsX6_bothBow := goodIn_r _ [20, 11, 12, 13, 4, 14, 15, 16, 1, 2, 3, 5, 6, 7, 8, 9, 10, 38, 39, 40, 41, 42, 43, 44, 45, 46, 47, 48, 49, 50, 51, 52, 53, 54, 55, 56, 57, 58, 59] (by decide +kernel) (by decide +kernel)
set_option maxRecDepth 20000 in
theorem gX6_doAct_X6_bothBow : GoodIn wsX6_doAct (wsV RX6 155 RX6 yX6_bothBow wsX6_bothBow) := goodIn_app (goodIn_of _ (by decide +kernel)) ggX6_doAct_X6_bothBow
set_option maxRecDepth 20000 in
theorem ggX6_doAct_X6_dies : GoodIn wsX6_doAct wsX6_dies := goodIn_r _ [24, 25, 7, 8, 9, 4, 10, 6, 38, 39, 40, 41, 42, 43, 44, 45, 46, 47, 48, 49, 50, 51, 52, 53, 54, 55, 56, 57, 58, 59] (by decide +kernel) (by decide +kernel)
set_option maxRecDepth 20000 in
theorem gX6_doAct_X6_dies : GoodIn wsX6_doAct (wsV RX6 158 RX6 yX6_dies wsX6_dies) := goodIn_app (goodIn_of _ (by decide +kernel)) ggX6_doAct_X6_dies
set_option maxRecDepth 20000 in
theorem ggX6_doAct_X6_goDay : GoodIn wsX6_doAct wsX6_goDay := goodIn_r _ [29, 16, 30, 15, 31, 32, 33, 4, 34, 25, 35, 36, 37, 1, 2, 3, 5, 6, 7, 8, 9, 10, 38, 39, 40, 41, 42, 43, 44, 45, 46, 47, 48, 49, 50, 51, 52, 53, 54, 55, 56, 57, 58, 59] (by decide +kernel) (by decide +kernel)
set_option maxRecDepth 20000 in
theorem gX6_doAct_X6_goDay : GoodIn wsX6_doAct (wsV RX6 162 RX6 yX6_goDay wsX6_goDay) := goodIn_app (goodIn_of _ (by decide +kernel)) ggX6_doAct_X6_goDay
theorem dX6_doAct_0 : decode cX6_doAct 0 = .ok (.iload_n 2, 1) := by decide +kernel
theorem dX6_doAct_1 : decode cX6_doAct 1 = .ok (.tableswitch 104 0 4 #[35, 56, 35, 84, 95], 35) := by decide +kernel
theorem dX6_doAct_36 : decode cX6_doAct 36 = .ok (.aload_n 0, 1) := by decide +kernel
theorem dX6_doAct_37 : decode cX6_doAct 37 = .ok (.iload_n 1, 1) := by decide +kernel
theorem dX6_doAct_38 : decode cX6_doAct 38 = .ok (.iload_n 3, 1) := by decide +kernel
theorem dX6_doAct_39 : decode cX6_doAct 39 = .ok (.iload 4, 2) := by decide +kernel
theorem dX6_doAct_41 : decode cX6_doAct 41 = .ok (.aload_n 0, 1) := by decide +kernel
theorem dX6_doAct_42 : decode cX6_doAct 42 = .ok (.iload_n 1, 1) := by decide +kernel
theorem dX6_doAct_43 : decode cX6_doAct 43 = .ok (.iload_n 3, 1) := by decide +kernel
theorem dX6_doAct_44 : decode cX6_doAct 44 = .ok (.iload 4, 2) := by decide +kernel
theorem dX6_doAct_46 : decode cX6_doAct 46 = .ok (.invokevirtual 123, 3) := by decide +kernel
theorem dX6_doAct_49 : decode cX6_doAct 49 = .ok (.iconst 1, 1) := by decide +kernel
theorem dX6_doAct_50 : decode cX6_doAct 50 = .ok (.iadd, 1) := by decide +kernel
theorem dX6_doAct_51 : decode cX6_doAct 51 = .ok (.invokevirtual 141, 3) := by decide +kernel
theorem dX6_doAct_54 : decode cX6_doAct 54 = .ok (.goto 72, 3) := by decide +kernel
theorem dX6_doAct_57 : decode cX6_doAct 57 = .ok (.aload_n 0, 1) := by decide +kernel
theorem dX6_doAct_58 : decode cX6_doAct 58 = .ok (.iload_n 1, 1) := by decide +kernel
theorem dX6_doAct_59 : decode cX6_doAct 59 = .ok (.iload_n 3, 1) := by decide +kernel
theorem dX6_doAct_60 : decode cX6_doAct 60 = .ok (.iload 4, 2) := by decide +kernel
theorem dX6_doAct_62 : decode cX6_doAct 62 = .ok (.aload_n 0, 1) := by decide +kernel
theorem dX6_doAct_63 : decode cX6_doAct 63 = .ok (.iload_n 1, 1) := by decide +kernel
theorem dX6_doAct_64 : decode cX6_doAct 64 = .ok (.iload_n 3, 1) := by decide +kernel
theorem dX6_doAct_65 : decode cX6_doAct 65 = .ok (.iload 4, 2) := by decide +kernel
theorem dX6_doAct_67 : decode cX6_doAct 67 = .ok (.invokevirtual 123, 3) := by decide +kernel
theorem dX6_doAct_70 : decode cX6_doAct 70 = .ok (.aload_n 0, 1) := by decide +kernel
theorem dX6_doAct_71 : decode cX6_doAct 71 = .ok (.iload_n 1, 1) := by decide +kernel
theorem dX6_doAct_72 : decode cX6_doAct 72 = .ok (.iload_n 3, 1) := by decide +kernel
theorem dX6_doAct_73 : decode cX6_doAct 73 = .ok (.iload 4, 2) := by decide +kernel
theorem dX6_doAct_75 : decode cX6_doAct 75 = .ok (.invokevirtual 152, 3) := by decide +kernel
theorem dX6_doAct_78 : decode cX6_doAct 78 = .ok (.isub, 1) := by decide +kernel
theorem dX6_doAct_79 : decode cX6_doAct 79 = .ok (.invokevirtual 141, 3) := by decide +kernel
theorem dX6_doAct_82 : decode cX6_doAct 82 = .ok (.goto 44, 3) := by decide +kernel
theorem dX6_doAct_85 : decode cX6_doAct 85 = .ok (.aload_n 0, 1) := by decide +kernel
theorem dX6_doAct_86 : decode cX6_doAct 86 = .ok (.iload_n 1, 1) := by decide +kernel
theorem dX6_doAct_87 : decode cX6_doAct 87 = .ok (.iload_n 3, 1) := by decide +kernel
theorem dX6_doAct_88 : decode cX6_doAct 88 = .ok (.iload 4, 2) := by decide +kernel
theorem dX6_doAct_90 : decode cX6_doAct 90 = .ok (.invokevirtual 155, 3) := by decide +kernel
theorem dX6_doAct_93 : decode cX6_doAct 93 = .ok (.goto 33, 3) := by decide +kernel
theorem dX6_doAct_96 : decode cX6_doAct 96 = .ok (.aload_n 0, 1) := by decide +kernel
theorem dX6_doAct_97 : decode cX6_doAct 97 = .ok (.iload_n 1, 1) := by decide +kernel
theorem dX6_doAct_98 : decode cX6_doAct 98 = .ok (.iload_n 3, 1) := by decide +kernel
theorem dX6_doAct_99 : decode cX6_doAct 99 = .ok (.invokevirtual 158, 3) := by decide +kernel
theorem dX6_doAct_102 : decode cX6_doAct 102 = .ok (.goto 24, 3) := by decide +kernel
theorem dX6_doAct_105 : decode cX6_doAct 105 = .ok (.iconst 0, 1) := by decide +kernel
theorem dX6_doAct_106 : decode cX6_doAct 106 = .ok (.istore 5, 2) := by decide +kernel
theorem dX6_doAct_108 : decode cX6_doAct 108 = .ok (.iload 5, 2) := by decide +kernel
theorem dX6_doAct_110 : decode cX6_doAct 110 = .ok (.iload 4, 2) := by decide +kernel
theorem dX6_doAct_112 : decode cX6_doAct 112 = .ok (.if_icmp .ge 14, 3) := by decide +kernel
theorem dX6_doAct_115 : decode cX6_doAct 115 = .ok (.aload_n 0, 1) := by decide +kernel
theorem dX6_doAct_116 : decode cX6_doAct 116 = .ok (.iload_n 1, 1) := by decide +kernel
theorem dX6_doAct_117 : decode cX6_doAct 117 = .ok (.invokevirtual 162, 3) := by decide +kernel
theorem dX6_doAct_120 : decode cX6_doAct 120 = .ok (.iinc 5 1, 3) := by decide +kernel
theorem dX6_doAct_123 : decode cX6_doAct 123 = .ok (.goto (-15), 3) := by decide +kernel
theorem dX6_doAct_126 : decode cX6_doAct 126 = .ok (.return_, 1) := by decide +kernel
set_option maxRecDepth 20000 in
theorem ggX6_beginBut_X6_canDo : GoodIn wsX6_beginBut wsX6_canDo := goodIn_r _ [15, 16, 17, 18, 14, 19, 3, 20, 21, 22, 23, 24, 25, 26, 1, 27, 28, 29, 30, 31, 32, 33, 34, 35, 36, 37, 38, 39, 40, 41, 42, 43, 68, 69, 70, 71, 72, 73, 74, 75, 76, 77, 78, 79, 80, 81, 82, 83, 84, 85, 86, 87, 88, 89] (by decide +kernel) (by decide +kernel)
set_option maxRecDepth 20000 in
theorem gX6_beginBut_X6_canDo : GoodIn wsX6_beginBut (wsV RX6 165 RX6 yX6_canDo wsX6_canDo) := goodIn_app (goodIn_of _ (by decide +kernel)) ggX6_beginBut_X6_canDo
set_option maxRecDepth 20000 in
theorem ggX6_beginBut_X6_doAct : GoodIn wsX6_beginBut wsX6_doAct := goodIn_r _ [47, 23, 24, 25, 14, 26, 1, 48, 49, 50, 51, 52, 53, 54, 55, 35, 5, 56, 57, 58, 59, 60, 61, 62, 63, 3, 64, 65, 66, 67, 6, 16, 17, 18, 19, 20, 21, 22, 68, 69, 70, 71, 72, 73, 74, 75, 76, 77, 78, 79, 80, 81, 82, 83, 84, 85, 86, 87, 88, 89] (by decide +kernel) (by decide +kernel)
set_option maxRecDepth 20000 in
theorem gX6_beginBut_X6_doAct : GoodIn wsX6_beginBut (wsV RX6 169 RX6 yX6_doAct wsX6_doAct) := goodIn_app (goodIn_of _ (by decide +kernel)) ggX6_beginBut_X6_doAct
theorem dX6_beginBut_0 : decode cX6_beginBut 0 = .ok (.iconst 0, 1) := by decide +kernel
theorem dX6_beginBut_1 : decode cX6_beginBut 1 = .ok (.istore_n 3, 1) := by decide +kernel
theorem dX6_beginBut_2 : decode cX6_beginBut 2 = .ok (.iload_n 3, 1) := by decide +kernel
theorem dX6_beginBut_3 : decode cX6_beginBut 3 = .ok (.bipush 64, 2) := by decide +kernel
theorem dX6_beginBut_5 : decode cX6_beginBut 5 = .ok (.if_icmp .ge 26, 3) := by decide +kernel
theorem dX6_beginBut_8 : decode cX6_beginBut 8 = .ok (.aload_n 0, 1) := by decide +kernel
theorem dX6_beginBut_9 : decode cX6_beginBut 9 = .ok (.getfield 46, 3) := by decide +kernel
theorem dX6_beginBut_12 : decode cX6_beginBut 12 = .ok (.bipush 64, 2) := by decide +kernel
theorem dX6_beginBut_14 : decode cX6_beginBut 14 = .ok (.iload_n 1, 1) := by decide +kernel
theorem dX6_beginBut_15 : decode cX6_beginBut 15 = .ok (.imul, 1) := by decide +kernel
theorem dX6_beginBut_16 : decode cX6_beginBut 16 = .ok (.iload_n 3, 1) := by decide +kernel
theorem dX6_beginBut_17 : decode cX6_beginBut 17 = .ok (.iadd, 1) := by decide +kernel
theorem dX6_beginBut_18 : decode cX6_beginBut 18 = .ok (.aload_n 0, 1) := by decide +kernel
theorem dX6_beginBut_19 : decode cX6_beginBut 19 = .ok (.getfield 22, 3) := by decide +kernel
theorem dX6_beginBut_22 : decode cX6_beginBut 22 = .ok (.iload_n 3, 1) := by decide +kernel
theorem dX6_beginBut_23 : decode cX6_beginBut 23 = .ok (.iaload, 1) := by decide +kernel
theorem dX6_beginBut_24 : decode cX6_beginBut 24 = .ok (.iastore, 1) := by decide +kernel
theorem dX6_beginBut_25 : decode cX6_beginBut 25 = .ok (.iinc 3 1, 3) := by decide +kernel
theorem dX6_beginBut_28 : decode cX6_beginBut 28 = .ok (.goto (-26), 3) := by decide +kernel
theorem dX6_beginBut_31 : decode cX6_beginBut 31 = .ok (.aload_n 0, 1) := by decide +kernel
theorem dX6_beginBut_32 : decode cX6_beginBut 32 = .ok (.getfield 49, 3) := by decide +kernel
theorem dX6_beginBut_35 : decode cX6_beginBut 35 = .ok (.iload_n 1, 1) := by decide +kernel
theorem dX6_beginBut_36 : decode cX6_beginBut 36 = .ok (.iconst 1, 1) := by decide +kernel
theorem dX6_beginBut_37 : decode cX6_beginBut 37 = .ok (.aload_n 0, 1) := by decide +kernel
theorem dX6_beginBut_38 : decode cX6_beginBut 38 = .ok (.getfield 13, 3) := by decide +kernel
theorem dX6_beginBut_41 : decode cX6_beginBut 41 = .ok (.iconst 0, 1) := by decide +kernel
theorem dX6_beginBut_42 : decode cX6_beginBut 42 = .ok (.iaload, 1) := by decide +kernel
theorem dX6_beginBut_43 : decode cX6_beginBut 43 = .ok (.ishl, 1) := by decide +kernel
theorem dX6_beginBut_44 : decode cX6_beginBut 44 = .ok (.iconst 1, 1) := by decide +kernel
theorem dX6_beginBut_45 : decode cX6_beginBut 45 = .ok (.isub, 1) := by decide +kernel
theorem dX6_beginBut_46 : decode cX6_beginBut 46 = .ok (.iastore, 1) := by decide +kernel
theorem dX6_beginBut_47 : decode cX6_beginBut 47 = .ok (.aload_n 0, 1) := by decide +kernel
theorem dX6_beginBut_48 : decode cX6_beginBut 48 = .ok (.getfield 52, 3) := by decide +kernel
theorem dX6_beginBut_51 : decode cX6_beginBut 51 = .ok (.iload_n 1, 1) := by decide +kernel
theorem dX6_beginBut_52 : decode cX6_beginBut 52 = .ok (.iconst 0, 1) := by decide +kernel
theorem dX6_beginBut_53 : decode cX6_beginBut 53 = .ok (.iastore, 1) := by decide +kernel
theorem dX6_beginBut_54 : decode cX6_beginBut 54 = .ok (.aload_n 0, 1) := by decide +kernel
theorem dX6_beginBut_55 : decode cX6_beginBut 55 = .ok (.getfield 55, 3) := by decide +kernel
theorem dX6_beginBut_58 : decode cX6_beginBut 58 = .ok (.iload_n 1, 1) := by decide +kernel
theorem dX6_beginBut_59 : decode cX6_beginBut 59 = .ok (.aload_n 0, 1) := by decide +kernel
theorem dX6_beginBut_60 : decode cX6_beginBut 60 = .ok (.getfield 13, 3) := by decide +kernel
theorem dX6_beginBut_63 : decode cX6_beginBut 63 = .ok (.iconst 0, 1) := by decide +kernel
theorem dX6_beginBut_64 : decode cX6_beginBut 64 = .ok (.iaload, 1) := by decide +kernel
theorem dX6_beginBut_65 : decode cX6_beginBut 65 = .ok (.iastore, 1) := by decide +kernel
theorem dX6_beginBut_66 : decode cX6_beginBut 66 = .ok (.iconst 0, 1) := by decide +kernel
theorem dX6_beginBut_67 : decode cX6_beginBut 67 = .ok (.istore_n 3, 1) := by decide +kernel
theorem dX6_beginBut_68 : decode cX6_beginBut 68 = .ok (.iload_n 3, 1) := by decide +kernel
theorem dX6_beginBut_69 : decode cX6_beginBut 69 = .ok (.aload_n 0, 1) := by decide +kernel
theorem dX6_beginBut_70 : decode cX6_beginBut 70 = .ok (.getfield 28, 3) := by decide +kernel
theorem dX6_beginBut_73 : decode cX6_beginBut 73 = .ok (.iconst 0, 1) := by decide +kernel
theorem dX6_beginBut_74 : decode cX6_beginBut 74 = .ok (.iaload, 1) := by decide +kernel
theorem dX6_beginBut_75 : decode cX6_beginBut 75 = .ok (.if_icmp .ge 63, 3) := by decide +kernel
theorem dX6_beginBut_78 : decode cX6_beginBut 78 = .ok (.iload_n 3, 1) := by decide +kernel
theorem dX6_beginBut_79 : decode cX6_beginBut 79 = .ok (.iload_n 2, 1) := by decide +kernel
theorem dX6_beginBut_80 : decode cX6_beginBut 80 = .ok (.if_icmp .eq 52, 3) := by decide +kernel
theorem dX6_beginBut_83 : decode cX6_beginBut 83 = .ok (.aload_n 0, 1) := by decide +kernel
theorem dX6_beginBut_84 : decode cX6_beginBut 84 = .ok (.iload_n 1, 1) := by decide +kernel
theorem dX6_beginBut_85 : decode cX6_beginBut 85 = .ok (.aload_n 0, 1) := by decide +kernel
theorem dX6_beginBut_86 : decode cX6_beginBut 86 = .ok (.getfield 31, 3) := by decide +kernel
theorem dX6_beginBut_89 : decode cX6_beginBut 89 = .ok (.iload_n 3, 1) := by decide +kernel
theorem dX6_beginBut_90 : decode cX6_beginBut 90 = .ok (.iaload, 1) := by decide +kernel
theorem dX6_beginBut_91 : decode cX6_beginBut 91 = .ok (.aload_n 0, 1) := by decide +kernel
theorem dX6_beginBut_92 : decode cX6_beginBut 92 = .ok (.getfield 34, 3) := by decide +kernel
theorem dX6_beginBut_95 : decode cX6_beginBut 95 = .ok (.iload_n 3, 1) := by decide +kernel
theorem dX6_beginBut_96 : decode cX6_beginBut 96 = .ok (.iaload, 1) := by decide +kernel
theorem dX6_beginBut_97 : decode cX6_beginBut 97 = .ok (.aload_n 0, 1) := by decide +kernel
theorem dX6_beginBut_98 : decode cX6_beginBut 98 = .ok (.getfield 37, 3) := by decide +kernel
theorem dX6_beginBut_101 : decode cX6_beginBut 101 = .ok (.iload_n 3, 1) := by decide +kernel
theorem dX6_beginBut_102 : decode cX6_beginBut 102 = .ok (.iaload, 1) := by decide +kernel
theorem dX6_beginBut_103 : decode cX6_beginBut 103 = .ok (.invokevirtual 165, 3) := by decide +kernel
theorem dX6_beginBut_106 : decode cX6_beginBut 106 = .ok (.ifCond .eq 26, 3) := by decide +kernel
theorem dX6_beginBut_109 : decode cX6_beginBut 109 = .ok (.aload_n 0, 1) := by decide +kernel
theorem dX6_beginBut_110 : decode cX6_beginBut 110 = .ok (.iload_n 1, 1) := by decide +kernel
theorem dX6_beginBut_111 : decode cX6_beginBut 111 = .ok (.aload_n 0, 1) := by decide +kernel
theorem dX6_beginBut_112 : decode cX6_beginBut 112 = .ok (.getfield 31, 3) := by decide +kernel
theorem dX6_beginBut_115 : decode cX6_beginBut 115 = .ok (.iload_n 3, 1) := by decide +kernel
theorem dX6_beginBut_116 : decode cX6_beginBut 116 = .ok (.iaload, 1) := by decide +kernel
theorem dX6_beginBut_117 : decode cX6_beginBut 117 = .ok (.aload_n 0, 1) := by decide +kernel
theorem dX6_beginBut_118 : decode cX6_beginBut 118 = .ok (.getfield 34, 3) := by decide +kernel
theorem dX6_beginBut_121 : decode cX6_beginBut 121 = .ok (.iload_n 3, 1) := by decide +kernel
theorem dX6_beginBut_122 : decode cX6_beginBut 122 = .ok (.iaload, 1) := by decide +kernel
theorem dX6_beginBut_123 : decode cX6_beginBut 123 = .ok (.aload_n 0, 1) := by decide +kernel
theorem dX6_beginBut_124 : decode cX6_beginBut 124 = .ok (.getfield 37, 3) := by decide +kernel
theorem dX6_beginBut_127 : decode cX6_beginBut 127 = .ok (.iload_n 3, 1) := by decide +kernel
theorem dX6_beginBut_128 : decode cX6_beginBut 128 = .ok (.iaload, 1) := by decide +kernel
theorem dX6_beginBut_129 : decode cX6_beginBut 129 = .ok (.invokevirtual 169, 3) := by decide +kernel
theorem dX6_beginBut_132 : decode cX6_beginBut 132 = .ok (.iinc 3 1, 3) := by decide +kernel
theorem dX6_beginBut_135 : decode cX6_beginBut 135 = .ok (.goto (-67), 3) := by decide +kernel
theorem dX6_beginBut_138 : decode cX6_beginBut 138 = .ok (.return_, 1) := by decide +kernel
set_option maxRecDepth 20000 in
theorem ggX6_begin_X6_beginBut : GoodIn wsX6_begin wsX6_beginBut := goodIn_r _ [5, 6, 7, 8, 9, 10, 11, 12, 13, 14, 15, 16, 17, 18, 4, 19, 20, 21, 22, 23, 24, 25, 26, 27, 28, 29, 30, 31, 32, 33, 34, 35, 36, 37, 38, 39, 40, 41, 42, 43, 44, 45, 46, 47, 48, 49, 50, 51, 52, 53, 54, 55, 56, 57, 58, 59, 60, 61, 62, 63, 64, 65, 66, 67, 68, 69, 70, 71, 72, 73, 74, 75, 76, 77, 78, 79, 80, 81, 82, 83, 84, 85, 86, 87, 88, 89, 90, 91, 92, 93] (by decide +kernel) (by decide +kernel)
set_option maxRecDepth 20000 in
theorem gX6_begin_X6_beginBut : GoodIn wsX6_begin (wsV RX6 172 RX6 yX6_beginBut wsX6_beginBut) := goodIn_app (goodIn_of _ (by decide +kernel)) ggX6_begin_X6_beginBut
theorem dX6_begin_0 : decode cX6_begin 0 = .ok (.aload_n 0, 1) := by decide +kernel
theorem dX6_begin_1 : decode cX6_begin 1 = .ok (.iconst 0, 1) := by decide +kernel
theorem dX6_begin_2 : decode cX6_begin 2 = .ok (.bipush (-4), 2) := by decide +kernel
theorem dX6_begin_4 : decode cX6_begin 4 = .ok (.invokevirtual 172, 3) := by decide +kernel
theorem dX6_begin_7 : decode cX6_begin 7 = .ok (.return_, 1) := by decide +kernel
theorem dX6_copy_0 : decode cX6_copy 0 = .ok (.iconst 0, 1) := by decide +kernel
theorem dX6_copy_1 : decode cX6_copy 1 = .ok (.istore_n 3, 1) := by decide +kernel
theorem dX6_copy_2 : decode cX6_copy 2 = .ok (.iload_n 3, 1) := by decide +kernel
theorem dX6_copy_3 : decode cX6_copy 3 = .ok (.bipush 64, 2) := by decide +kernel
theorem dX6_copy_5 : decode cX6_copy 5 = .ok (.if_icmp .ge 31, 3) := by decide +kernel
theorem dX6_copy_8 : decode cX6_copy 8 = .ok (.aload_n 0, 1) := by decide +kernel
theorem dX6_copy_9 : decode cX6_copy 9 = .ok (.getfield 46, 3) := by decide +kernel
theorem dX6_copy_12 : decode cX6_copy 12 = .ok (.bipush 64, 2) := by decide +kernel
theorem dX6_copy_14 : decode cX6_copy 14 = .ok (.iload_n 2, 1) := by decide +kernel
theorem dX6_copy_15 : decode cX6_copy 15 = .ok (.imul, 1) := by decide +kernel
theorem dX6_copy_16 : decode cX6_copy 16 = .ok (.iload_n 3, 1) := by decide +kernel
theorem dX6_copy_17 : decode cX6_copy 17 = .ok (.iadd, 1) := by decide +kernel
theorem dX6_copy_18 : decode cX6_copy 18 = .ok (.aload_n 0, 1) := by decide +kernel
theorem dX6_copy_19 : decode cX6_copy 19 = .ok (.getfield 46, 3) := by decide +kernel
theorem dX6_copy_22 : decode cX6_copy 22 = .ok (.bipush 64, 2) := by decide +kernel
theorem dX6_copy_24 : decode cX6_copy 24 = .ok (.iload_n 1, 1) := by decide +kernel
theorem dX6_copy_25 : decode cX6_copy 25 = .ok (.imul, 1) := by decide +kernel
theorem dX6_copy_26 : decode cX6_copy 26 = .ok (.iload_n 3, 1) := by decide +kernel
theorem dX6_copy_27 : decode cX6_copy 27 = .ok (.iadd, 1) := by decide +kernel
theorem dX6_copy_28 : decode cX6_copy 28 = .ok (.iaload, 1) := by decide +kernel
theorem dX6_copy_29 : decode cX6_copy 29 = .ok (.iastore, 1) := by decide +kernel
theorem dX6_copy_30 : decode cX6_copy 30 = .ok (.iinc 3 1, 3) := by decide +kernel
theorem dX6_copy_33 : decode cX6_copy 33 = .ok (.goto (-31), 3) := by decide +kernel
theorem dX6_copy_36 : decode cX6_copy 36 = .ok (.aload_n 0, 1) := by decide +kernel
theorem dX6_copy_37 : decode cX6_copy 37 = .ok (.getfield 49, 3) := by decide +kernel
theorem dX6_copy_40 : decode cX6_copy 40 = .ok (.iload_n 2, 1) := by decide +kernel
theorem dX6_copy_41 : decode cX6_copy 41 = .ok (.aload_n 0, 1) := by decide +kernel
theorem dX6_copy_42 : decode cX6_copy 42 = .ok (.getfield 49, 3) := by decide +kernel
theorem dX6_copy_45 : decode cX6_copy 45 = .ok (.iload_n 1, 1) := by decide +kernel
theorem dX6_copy_46 : decode cX6_copy 46 = .ok (.iaload, 1) := by decide +kernel
theorem dX6_copy_47 : decode cX6_copy 47 = .ok (.iastore, 1) := by decide +kernel
theorem dX6_copy_48 : decode cX6_copy 48 = .ok (.aload_n 0, 1) := by decide +kernel
theorem dX6_copy_49 : decode cX6_copy 49 = .ok (.getfield 52, 3) := by decide +kernel
theorem dX6_copy_52 : decode cX6_copy 52 = .ok (.iload_n 2, 1) := by decide +kernel
theorem dX6_copy_53 : decode cX6_copy 53 = .ok (.aload_n 0, 1) := by decide +kernel
theorem dX6_copy_54 : decode cX6_copy 54 = .ok (.getfield 52, 3) := by decide +kernel
theorem dX6_copy_57 : decode cX6_copy 57 = .ok (.iload_n 1, 1) := by decide +kernel
theorem dX6_copy_58 : decode cX6_copy 58 = .ok (.iaload, 1) := by decide +kernel
theorem dX6_copy_59 : decode cX6_copy 59 = .ok (.iastore, 1) := by decide +kernel
theorem dX6_copy_60 : decode cX6_copy 60 = .ok (.aload_n 0, 1) := by decide +kernel
theorem dX6_copy_61 : decode cX6_copy 61 = .ok (.getfield 55, 3) := by decide +kernel
theorem dX6_copy_64 : decode cX6_copy 64 = .ok (.iload_n 2, 1) := by decide +kernel
theorem dX6_copy_65 : decode cX6_copy 65 = .ok (.aload_n 0, 1) := by decide +kernel
theorem dX6_copy_66 : decode cX6_copy 66 = .ok (.getfield 55, 3) := by decide +kernel
theorem dX6_copy_69 : decode cX6_copy 69 = .ok (.iload_n 1, 1) := by decide +kernel
theorem dX6_copy_70 : decode cX6_copy 70 = .ok (.iaload, 1) := by decide +kernel
theorem dX6_copy_71 : decode cX6_copy 71 = .ok (.iastore, 1) := by decide +kernel
theorem dX6_copy_72 : decode cX6_copy 72 = .ok (.return_, 1) := by decide +kernel
set_option maxRecDepth 20000 in
theorem ggX6_person_X6_isPerson : GoodIn wsX6_person wsX6_isPerson := goodIn_r _ [8, 9, 10, 11, 7, 12, 38, 39, 40, 41, 42, 43, 44, 45, 46, 47, 48, 49, 50, 51, 52, 53, 54, 55, 56, 57, 58, 59] (by decide +kernel) (by decide +kernel)
set_option maxRecDepth 20000 in
theorem gX6_person_X6_isPerson : GoodIn wsX6_person (wsV RX6 120 RX6 yX6_isPerson wsX6_isPerson) := goodIn_app (goodIn_of _ (by decide +kernel)) ggX6_person_X6_isPerson
set_option maxRecDepth 20000 in
theorem ggX6_person_X6_in : GoodIn wsX6_person wsX6_in := goodIn_r _ [12] (by decide +kernel) (by decide +kernel)
set_option maxRecDepth 20000 in
theorem gX6_person_X6_in : GoodIn wsX6_person (va_wsS RX6 79 yX6_in wsX6_in) := goodIn_app (goodIn_of _ (by decide +kernel)) ggX6_person_X6_in
set_option maxRecDepth 20000 in
theorem ggX6_person_X6_isAlive : GoodIn wsX6_person wsX6_isAlive := goodIn_r _ [16, 17, 18, 19, 7, 20, 38, 39, 40, 41, 42, 43, 44, 45, 46, 47, 48, 49, 50, 51, 52, 53, 54, 55, 56, 57, 58, 59] (by decide +kernel) (by decide +kernel)
set_option maxRecDepth 20000 in
theorem gX6_person_X6_isAlive : GoodIn wsX6_person (wsV RX6 135 RX6 yX6_isAlive wsX6_isAlive) := goodIn_app (goodIn_of _ (by decide +kernel)) ggX6_person_X6_isAlive
set_option maxRecDepth 20000 in
theorem ggX6_person_X6_debtsOf : GoodIn wsX6_person wsX6_debtsOf := goodIn_r _ [24, 25, 26, 27, 7, 28, 29, 38, 39, 40, 41, 42, 43, 44, 45, 46, 47, 48, 49, 50, 51, 52, 53, 54, 55, 56, 57, 58, 59] (by decide +kernel) (by decide +kernel)
set_option maxRecDepth 20000 in
theorem gX6_person_X6_debtsOf : GoodIn wsX6_person (wsV RX6 127 RX6 yX6_debtsOf wsX6_debtsOf) := goodIn_app (goodIn_of _ (by decide +kernel)) ggX6_person_X6_debtsOf
set_option maxRecDepth 20000 in
theorem ggX6_person_X6_owedTo : GoodIn wsX6_person wsX6_owedTo := goodIn_r _ [33, 25, 26, 27, 7, 28, 29, 38, 39, 40, 41, 42, 43, 44, 45, 46, 47, 48, 49, 50, 51, 52, 53, 54, 55, 56, 57, 58, 59] (by decide +kernel) (by decide +kernel)
set_option maxRecDepth 20000 in
theorem gX6_person_X6_owedTo : GoodIn wsX6_person (wsV RX6 177 RX6 yX6_owedTo wsX6_owedTo) := goodIn_app (goodIn_of _ (by decide +kernel)) ggX6_person_X6_owedTo
set_option maxRecDepth 20000 in
theorem ggX6_person_X6_takes : GoodIn wsX6_person wsX6_takes := goodIn_r _ [37, 2, 13, 14, 15, 7, 16, 17, 18, 19, 20, 21, 22, 23, 24, 25, 26, 27, 28, 29, 38, 39, 40, 41, 42, 43, 44, 45, 46, 47, 48, 49, 50, 51, 52, 53, 54, 55, 56, 57, 58, 59] (by decide +kernel) (by decide +kernel)
set_option maxRecDepth 20000 in
theorem gX6_person_X6_takes : GoodIn wsX6_person (wsV RX6 138 RX6 yX6_takes wsX6_takes) := goodIn_app (goodIn_of _ (by decide +kernel)) ggX6_person_X6_takes
theorem dX6_person_0 : decode cX6_person 0 = .ok (.aload_n 0, 1) := by decide +kernel
theorem dX6_person_1 : decode cX6_person 1 = .ok (.iload_n 1, 1) := by decide +kernel
theorem dX6_person_2 : decode cX6_person 2 = .ok (.invokevirtual 120, 3) := by decide +kernel
theorem dX6_person_5 : decode cX6_person 5 = .ok (.ifCond .eq 15, 3) := by decide +kernel
theorem dX6_person_8 : decode cX6_person 8 = .ok (.iload_n 2, 1) := by decide +kernel
theorem dX6_person_9 : decode cX6_person 9 = .ok (.i2l, 1) := by decide +kernel
theorem dX6_person_10 : decode cX6_person 10 = .ok (.lconst 0, 1) := by decide +kernel
theorem dX6_person_11 : decode cX6_person 11 = .ok (.ldc2_w 175, 3) := by decide +kernel
theorem dX6_person_14 : decode cX6_person 14 = .ok (.invokestatic 79, 3) := by decide +kernel
theorem dX6_person_17 : decode cX6_person 17 = .ok (.ifCond .ne 5, 3) := by decide +kernel
theorem dX6_person_20 : decode cX6_person 20 = .ok (.iconst (-1), 1) := by decide +kernel
theorem dX6_person_21 : decode cX6_person 21 = .ok (.ireturn, 1) := by decide +kernel
theorem dX6_person_22 : decode cX6_person 22 = .ok (.iload_n 2, 1) := by decide +kernel
theorem dX6_person_23 : decode cX6_person 23 = .ok (.tableswitch 76 0 4 #[33, 40, 47, 62, 69], 33) := by decide +kernel
theorem dX6_person_56 : decode cX6_person 56 = .ok (.aload_n 0, 1) := by decide +kernel
theorem dX6_person_57 : decode cX6_person 57 = .ok (.getfield 16, 3) := by decide +kernel
theorem dX6_person_60 : decode cX6_person 60 = .ok (.iload_n 1, 1) := by decide +kernel
theorem dX6_person_61 : decode cX6_person 61 = .ok (.iaload, 1) := by decide +kernel
theorem dX6_person_62 : decode cX6_person 62 = .ok (.ireturn, 1) := by decide +kernel
theorem dX6_person_63 : decode cX6_person 63 = .ok (.aload_n 0, 1) := by decide +kernel
theorem dX6_person_64 : decode cX6_person 64 = .ok (.getfield 19, 3) := by decide +kernel
theorem dX6_person_67 : decode cX6_person 67 = .ok (.iload_n 1, 1) := by decide +kernel
theorem dX6_person_68 : decode cX6_person 68 = .ok (.iaload, 1) := by decide +kernel
theorem dX6_person_69 : decode cX6_person 69 = .ok (.ireturn, 1) := by decide +kernel
theorem dX6_person_70 : decode cX6_person 70 = .ok (.aload_n 0, 1) := by decide +kernel
theorem dX6_person_71 : decode cX6_person 71 = .ok (.iconst 0, 1) := by decide +kernel
theorem dX6_person_72 : decode cX6_person 72 = .ok (.iload_n 1, 1) := by decide +kernel
theorem dX6_person_73 : decode cX6_person 73 = .ok (.invokevirtual 135, 3) := by decide +kernel
theorem dX6_person_76 : decode cX6_person 76 = .ok (.ifCond .eq 7, 3) := by decide +kernel
theorem dX6_person_79 : decode cX6_person 79 = .ok (.iconst 1, 1) := by decide +kernel
theorem dX6_person_80 : decode cX6_person 80 = .ok (.goto 4, 3) := by decide +kernel
theorem dX6_person_83 : decode cX6_person 83 = .ok (.iconst 0, 1) := by decide +kernel
theorem dX6_person_84 : decode cX6_person 84 = .ok (.ireturn, 1) := by decide +kernel
theorem dX6_person_85 : decode cX6_person 85 = .ok (.aload_n 0, 1) := by decide +kernel
theorem dX6_person_86 : decode cX6_person 86 = .ok (.iconst 0, 1) := by decide +kernel
theorem dX6_person_87 : decode cX6_person 87 = .ok (.iload_n 1, 1) := by decide +kernel
theorem dX6_person_88 : decode cX6_person 88 = .ok (.invokevirtual 127, 3) := by decide +kernel
theorem dX6_person_91 : decode cX6_person 91 = .ok (.ireturn, 1) := by decide +kernel
theorem dX6_person_92 : decode cX6_person 92 = .ok (.aload_n 0, 1) := by decide +kernel
theorem dX6_person_93 : decode cX6_person 93 = .ok (.iconst 0, 1) := by decide +kernel
theorem dX6_person_94 : decode cX6_person 94 = .ok (.iload_n 1, 1) := by decide +kernel
theorem dX6_person_95 : decode cX6_person 95 = .ok (.invokevirtual 177, 3) := by decide +kernel
theorem dX6_person_98 : decode cX6_person 98 = .ok (.ireturn, 1) := by decide +kernel
theorem dX6_person_99 : decode cX6_person 99 = .ok (.aload_n 0, 1) := by decide +kernel
theorem dX6_person_100 : decode cX6_person 100 = .ok (.iconst 0, 1) := by decide +kernel
theorem dX6_person_101 : decode cX6_person 101 = .ok (.iload_n 1, 1) := by decide +kernel
theorem dX6_person_102 : decode cX6_person 102 = .ok (.invokevirtual 138, 3) := by decide +kernel
theorem dX6_person_105 : decode cX6_person 105 = .ok (.ifCond .eq 7, 3) := by decide +kernel
theorem dX6_person_108 : decode cX6_person 108 = .ok (.iconst 1, 1) := by decide +kernel
theorem dX6_person_109 : decode cX6_person 109 = .ok (.goto 4, 3) := by decide +kernel
theorem dX6_person_112 : decode cX6_person 112 = .ok (.iconst 0, 1) := by decide +kernel
theorem dX6_person_113 : decode cX6_person 113 = .ok (.ireturn, 1) := by decide +kernel
set_option maxRecDepth 20000 in
theorem ggX6_owes_X6_areTwo : GoodIn wsX6_owes wsX6_areTwo := goodIn_r _ [5, 6, 7, 8, 4, 9, 10, 11, 12, 13, 19, 20, 21, 22, 23, 24, 25, 26, 27, 28, 29, 30, 31, 32, 33, 34, 35, 36, 37, 38, 39, 40] (by decide +kernel) (by decide +kernel)
set_option maxRecDepth 20000 in
theorem gX6_owes_X6_areTwo : GoodIn wsX6_owes (wsV RX6 180 RX6 yX6_areTwo wsX6_areTwo) := goodIn_app (goodIn_of _ (by decide +kernel)) ggX6_owes_X6_areTwo
set_option maxRecDepth 20000 in
theorem ggX6_owes_X6_debt : GoodIn wsX6_owes wsX6_debt := goodIn_r _ [17, 18, 19, 20, 21, 22, 23, 24, 25, 26, 27, 28, 29, 30, 31, 32, 33, 34, 35, 36, 37, 38, 39, 40] (by decide +kernel) (by decide +kernel)
set_option maxRecDepth 20000 in
theorem gX6_owes_X6_debt : GoodIn wsX6_owes (wsV RX6 123 RX6 yX6_debt wsX6_debt) := goodIn_app (goodIn_of _ (by decide +kernel)) ggX6_owes_X6_debt
theorem dX6_owes_0 : decode cX6_owes 0 = .ok (.aload_n 0, 1) := by decide +kernel
theorem dX6_owes_1 : decode cX6_owes 1 = .ok (.iload_n 1, 1) := by decide +kernel
theorem dX6_owes_2 : decode cX6_owes 2 = .ok (.iload_n 2, 1) := by decide +kernel
theorem dX6_owes_3 : decode cX6_owes 3 = .ok (.invokevirtual 180, 3) := by decide +kernel
theorem dX6_owes_6 : decode cX6_owes 6 = .ok (.ifCond .eq 13, 3) := by decide +kernel
theorem dX6_owes_9 : decode cX6_owes 9 = .ok (.aload_n 0, 1) := by decide +kernel
theorem dX6_owes_10 : decode cX6_owes 10 = .ok (.iconst 0, 1) := by decide +kernel
theorem dX6_owes_11 : decode cX6_owes 11 = .ok (.iload_n 1, 1) := by decide +kernel
theorem dX6_owes_12 : decode cX6_owes 12 = .ok (.iload_n 2, 1) := by decide +kernel
theorem dX6_owes_13 : decode cX6_owes 13 = .ok (.invokevirtual 123, 3) := by decide +kernel
theorem dX6_owes_16 : decode cX6_owes 16 = .ok (.goto 4, 3) := by decide +kernel
theorem dX6_owes_19 : decode cX6_owes 19 = .ok (.iconst (-1), 1) := by decide +kernel
theorem dX6_owes_20 : decode cX6_owes 20 = .ok (.ireturn, 1) := by decide +kernel
set_option maxRecDepth 20000 in
theorem ggX6_speak_X6_areTwo : GoodIn wsX6_speak wsX6_areTwo := goodIn_r _ [5, 6, 7, 8, 4, 9, 10, 11, 12, 13, 31, 32, 33, 34, 35, 36, 37, 38, 39, 40, 41, 42, 43, 44, 45, 46, 47, 48, 49, 50, 51, 52] (by decide +kernel) (by decide +kernel)
set_option maxRecDepth 20000 in
theorem gX6_speak_X6_areTwo : GoodIn wsX6_speak (wsV RX6 180 RX6 yX6_areTwo wsX6_areTwo) := goodIn_app (goodIn_of _ (by decide +kernel)) ggX6_speak_X6_areTwo
set_option maxRecDepth 20000 in
theorem ggX6_speak_X6_maySpeak : GoodIn wsX6_speak wsX6_maySpeak := goodIn_r _ [17, 18, 19, 20, 4, 21, 22, 23, 24, 25, 26, 27, 28, 29, 30, 31, 32, 33, 34, 35, 36, 37, 38, 39, 40, 41, 42, 43, 44, 45, 46, 47, 48, 49, 50, 51, 52] (by decide +kernel) (by decide +kernel)
set_option maxRecDepth 20000 in
theorem gX6_speak_X6_maySpeak : GoodIn wsX6_speak (wsV RX6 183 RX6 yX6_maySpeak wsX6_maySpeak) := goodIn_app (goodIn_of _ (by decide +kernel)) ggX6_speak_X6_maySpeak
theorem dX6_speak_0 : decode cX6_speak 0 = .ok (.aload_n 0, 1) := by decide +kernel
theorem dX6_speak_1 : decode cX6_speak 1 = .ok (.iload_n 1, 1) := by decide +kernel
theorem dX6_speak_2 : decode cX6_speak 2 = .ok (.iload_n 2, 1) := by decide +kernel
theorem dX6_speak_3 : decode cX6_speak 3 = .ok (.invokevirtual 180, 3) := by decide +kernel
theorem dX6_speak_6 : decode cX6_speak 6 = .ok (.ifCond .ne 7, 3) := by decide +kernel
theorem dX6_speak_9 : decode cX6_speak 9 = .ok (.iconst (-1), 1) := by decide +kernel
theorem dX6_speak_10 : decode cX6_speak 10 = .ok (.goto 18, 3) := by decide +kernel
theorem dX6_speak_13 : decode cX6_speak 13 = .ok (.aload_n 0, 1) := by decide +kernel
theorem dX6_speak_14 : decode cX6_speak 14 = .ok (.iconst 0, 1) := by decide +kernel
theorem dX6_speak_15 : decode cX6_speak 15 = .ok (.iload_n 1, 1) := by decide +kernel
theorem dX6_speak_16 : decode cX6_speak 16 = .ok (.iload_n 2, 1) := by decide +kernel
theorem dX6_speak_17 : decode cX6_speak 17 = .ok (.invokevirtual 183, 3) := by decide +kernel
theorem dX6_speak_20 : decode cX6_speak 20 = .ok (.ifCond .eq 7, 3) := by decide +kernel
theorem dX6_speak_23 : decode cX6_speak 23 = .ok (.iconst 1, 1) := by decide +kernel
theorem dX6_speak_24 : decode cX6_speak 24 = .ok (.goto 4, 3) := by decide +kernel
theorem dX6_speak_27 : decode cX6_speak 27 = .ok (.iconst 0, 1) := by decide +kernel
theorem dX6_speak_28 : decode cX6_speak 28 = .ok (.ireturn, 1) := by decide +kernel
set_option maxRecDepth 20000 in
theorem ggX6_act_X6_canDo : GoodIn wsX6_act wsX6_canDo := goodIn_r _ [9, 10, 11, 12, 8, 13, 14, 15, 16, 17, 18, 19, 20, 21, 22, 23, 24, 25, 26, 27, 28, 29, 30, 31, 32, 33, 34, 35, 36, 37, 38, 39, 66, 67, 68, 69, 70, 71, 72, 73, 74, 75, 76, 77, 78, 79, 80, 81, 82, 83, 84, 85, 86, 87] (by decide +kernel) (by decide +kernel)
set_option maxRecDepth 20000 in
theorem gX6_act_X6_canDo : GoodIn wsX6_act (wsV RX6 165 RX6 yX6_canDo wsX6_canDo) := goodIn_app (goodIn_of _ (by decide +kernel)) ggX6_act_X6_canDo
set_option maxRecDepth 20000 in
theorem ggX6_act_X6_doAct : GoodIn wsX6_act wsX6_doAct := goodIn_r _ [43, 18, 19, 20, 8, 21, 22, 44, 45, 46, 47, 48, 49, 50, 51, 31, 52, 53, 54, 55, 56, 57, 58, 59, 60, 14, 61, 62, 63, 64, 65, 10, 11, 12, 13, 15, 16, 17, 66, 67, 68, 69, 70, 71, 72, 73, 74, 75, 76, 77, 78, 79, 80, 81, 82, 83, 84, 85, 86, 87] (by decide +kernel) (by decide +kernel)
set_option maxRecDepth 20000 in
theorem gX6_act_X6_doAct : GoodIn wsX6_act (wsV RX6 169 RX6 yX6_doAct wsX6_doAct) := goodIn_app (goodIn_of _ (by decide +kernel)) ggX6_act_X6_doAct
theorem dX6_act_0 : decode cX6_act 0 = .ok (.aload_n 0, 1) := by decide +kernel
theorem dX6_act_1 : decode cX6_act 1 = .ok (.iconst 0, 1) := by decide +kernel
theorem dX6_act_2 : decode cX6_act 2 = .ok (.iload_n 1, 1) := by decide +kernel
theorem dX6_act_3 : decode cX6_act 3 = .ok (.iload_n 2, 1) := by decide +kernel
theorem dX6_act_4 : decode cX6_act 4 = .ok (.iload_n 3, 1) := by decide +kernel
theorem dX6_act_5 : decode cX6_act 5 = .ok (.invokevirtual 165, 3) := by decide +kernel
theorem dX6_act_8 : decode cX6_act 8 = .ok (.ifCond .ne 6, 3) := by decide +kernel
theorem dX6_act_11 : decode cX6_act 11 = .ok (.bipush (-2), 2) := by decide +kernel
theorem dX6_act_13 : decode cX6_act 13 = .ok (.ireturn, 1) := by decide +kernel
theorem dX6_act_14 : decode cX6_act 14 = .ok (.aload_n 0, 1) := by decide +kernel
theorem dX6_act_15 : decode cX6_act 15 = .ok (.getfield 28, 3) := by decide +kernel
theorem dX6_act_18 : decode cX6_act 18 = .ok (.iconst 0, 1) := by decide +kernel
theorem dX6_act_19 : decode cX6_act 19 = .ok (.iaload, 1) := by decide +kernel
theorem dX6_act_20 : decode cX6_act 20 = .ok (.bipush 40, 2) := by decide +kernel
theorem dX6_act_22 : decode cX6_act 22 = .ok (.if_icmp .ne 6, 3) := by decide +kernel
theorem dX6_act_25 : decode cX6_act 25 = .ok (.bipush (-3), 2) := by decide +kernel
theorem dX6_act_27 : decode cX6_act 27 = .ok (.ireturn, 1) := by decide +kernel
theorem dX6_act_28 : decode cX6_act 28 = .ok (.aload_n 0, 1) := by decide +kernel
theorem dX6_act_29 : decode cX6_act 29 = .ok (.getfield 31, 3) := by decide +kernel
theorem dX6_act_32 : decode cX6_act 32 = .ok (.aload_n 0, 1) := by decide +kernel
theorem dX6_act_33 : decode cX6_act 33 = .ok (.getfield 28, 3) := by decide +kernel
theorem dX6_act_36 : decode cX6_act 36 = .ok (.iconst 0, 1) := by decide +kernel
theorem dX6_act_37 : decode cX6_act 37 = .ok (.iaload, 1) := by decide +kernel
theorem dX6_act_38 : decode cX6_act 38 = .ok (.iload_n 1, 1) := by decide +kernel
theorem dX6_act_39 : decode cX6_act 39 = .ok (.iastore, 1) := by decide +kernel
theorem dX6_act_40 : decode cX6_act 40 = .ok (.aload_n 0, 1) := by decide +kernel
theorem dX6_act_41 : decode cX6_act 41 = .ok (.getfield 34, 3) := by decide +kernel
theorem dX6_act_44 : decode cX6_act 44 = .ok (.aload_n 0, 1) := by decide +kernel
theorem dX6_act_45 : decode cX6_act 45 = .ok (.getfield 28, 3) := by decide +kernel
theorem dX6_act_48 : decode cX6_act 48 = .ok (.iconst 0, 1) := by decide +kernel
theorem dX6_act_49 : decode cX6_act 49 = .ok (.iaload, 1) := by decide +kernel
theorem dX6_act_50 : decode cX6_act 50 = .ok (.iload_n 2, 1) := by decide +kernel
theorem dX6_act_51 : decode cX6_act 51 = .ok (.iastore, 1) := by decide +kernel
theorem dX6_act_52 : decode cX6_act 52 = .ok (.aload_n 0, 1) := by decide +kernel
theorem dX6_act_53 : decode cX6_act 53 = .ok (.getfield 37, 3) := by decide +kernel
theorem dX6_act_56 : decode cX6_act 56 = .ok (.aload_n 0, 1) := by decide +kernel
theorem dX6_act_57 : decode cX6_act 57 = .ok (.getfield 28, 3) := by decide +kernel
theorem dX6_act_60 : decode cX6_act 60 = .ok (.iconst 0, 1) := by decide +kernel
theorem dX6_act_61 : decode cX6_act 61 = .ok (.iaload, 1) := by decide +kernel
theorem dX6_act_62 : decode cX6_act 62 = .ok (.iload_n 3, 1) := by decide +kernel
theorem dX6_act_63 : decode cX6_act 63 = .ok (.iastore, 1) := by decide +kernel
theorem dX6_act_64 : decode cX6_act 64 = .ok (.aload_n 0, 1) := by decide +kernel
theorem dX6_act_65 : decode cX6_act 65 = .ok (.getfield 28, 3) := by decide +kernel
theorem dX6_act_68 : decode cX6_act 68 = .ok (.iconst 0, 1) := by decide +kernel
theorem dX6_act_69 : decode cX6_act 69 = .ok (.dup2, 1) := by decide +kernel
theorem dX6_act_70 : decode cX6_act 70 = .ok (.iaload, 1) := by decide +kernel
theorem dX6_act_71 : decode cX6_act 71 = .ok (.iconst 1, 1) := by decide +kernel
theorem dX6_act_72 : decode cX6_act 72 = .ok (.iadd, 1) := by decide +kernel
theorem dX6_act_73 : decode cX6_act 73 = .ok (.iastore, 1) := by decide +kernel
theorem dX6_act_74 : decode cX6_act 74 = .ok (.aload_n 0, 1) := by decide +kernel
theorem dX6_act_75 : decode cX6_act 75 = .ok (.iconst 0, 1) := by decide +kernel
theorem dX6_act_76 : decode cX6_act 76 = .ok (.iload_n 1, 1) := by decide +kernel
theorem dX6_act_77 : decode cX6_act 77 = .ok (.iload_n 2, 1) := by decide +kernel
theorem dX6_act_78 : decode cX6_act 78 = .ok (.iload_n 3, 1) := by decide +kernel
theorem dX6_act_79 : decode cX6_act 79 = .ok (.invokevirtual 169, 3) := by decide +kernel
theorem dX6_act_82 : decode cX6_act 82 = .ok (.iconst 0, 1) := by decide +kernel
theorem dX6_act_83 : decode cX6_act 83 = .ok (.ireturn, 1) := by decide +kernel
set_option maxRecDepth 20000 in
theorem ggX6_actOfTwo_X6_areTwo : GoodIn wsX6_actOfTwo wsX6_areTwo := goodIn_r _ [5, 6, 7, 8, 4, 9, 10, 11, 12, 13, 82, 83, 84, 85, 86, 87, 88, 89, 90, 91, 92, 93, 94, 95, 96, 97, 98, 99, 100, 101, 102, 103] (by decide +kernel) (by decide +kernel)
set_option maxRecDepth 20000 in
theorem gX6_actOfTwo_X6_areTwo : GoodIn wsX6_actOfTwo (wsV RX6 180 RX6 yX6_areTwo wsX6_areTwo) := goodIn_app (goodIn_of _ (by decide +kernel)) ggX6_actOfTwo_X6_areTwo
set_option maxRecDepth 20000 in
theorem ggX6_actOfTwo_X6_act : GoodIn wsX6_actOfTwo wsX6_act := goodIn_r _ [17, 18, 19, 20, 21, 22, 23, 24, 4, 25, 26, 27, 28, 29, 30, 31, 32, 33, 34, 35, 36, 37, 38, 39, 40, 41, 42, 43, 44, 45, 46, 47, 48, 49, 50, 51, 52, 53, 54, 55, 56, 57, 58, 59, 60, 61, 62, 63, 64, 65, 66, 67, 68, 69, 70, 71, 72, 73, 74, 75, 76, 77, 78, 79, 80, 81, 82, 83, 84, 85, 86, 87, 88, 89, 90, 91, 92, 93, 94, 95, 96, 97, 98, 99, 100, 101, 102, 103] (by decide +kernel) (by decide +kernel)
set_option maxRecDepth 20000 in
theorem gX6_actOfTwo_X6_act : GoodIn wsX6_actOfTwo (wsV RX6 186 RX6 yX6_act wsX6_act) := goodIn_app (goodIn_of _ (by decide +kernel)) ggX6_actOfTwo_X6_act
set_option maxRecDepth 20000 in
theorem ggX6_actOfTwo_X6_debt : GoodIn wsX6_actOfTwo wsX6_debt := goodIn_r _ [37, 38, 82, 83, 84, 85, 86, 87, 88, 89, 90, 91, 92, 93, 94, 95, 96, 97, 98, 99, 100, 101, 102, 103] (by decide +kernel) (by decide +kernel)
set_option maxRecDepth 20000 in
theorem gX6_actOfTwo_X6_debt : GoodIn wsX6_actOfTwo (wsV RX6 123 RX6 yX6_debt wsX6_debt) := goodIn_app (goodIn_of _ (by decide +kernel)) ggX6_actOfTwo_X6_debt
theorem dX6_actOfTwo_0 : decode cX6_actOfTwo 0 = .ok (.aload_n 0, 1) := by decide +kernel
theorem dX6_actOfTwo_1 : decode cX6_actOfTwo 1 = .ok (.iload_n 2, 1) := by decide +kernel
theorem dX6_actOfTwo_2 : decode cX6_actOfTwo 2 = .ok (.iload_n 3, 1) := by decide +kernel
theorem dX6_actOfTwo_3 : decode cX6_actOfTwo 3 = .ok (.invokevirtual 180, 3) := by decide +kernel
theorem dX6_actOfTwo_6 : decode cX6_actOfTwo 6 = .ok (.ifCond .eq 13, 3) := by decide +kernel
theorem dX6_actOfTwo_9 : decode cX6_actOfTwo 9 = .ok (.aload_n 0, 1) := by decide +kernel
theorem dX6_actOfTwo_10 : decode cX6_actOfTwo 10 = .ok (.iload_n 1, 1) := by decide +kernel
theorem dX6_actOfTwo_11 : decode cX6_actOfTwo 11 = .ok (.iload_n 2, 1) := by decide +kernel
theorem dX6_actOfTwo_12 : decode cX6_actOfTwo 12 = .ok (.iload_n 3, 1) := by decide +kernel
theorem dX6_actOfTwo_13 : decode cX6_actOfTwo 13 = .ok (.invokevirtual 186, 3) := by decide +kernel
theorem dX6_actOfTwo_16 : decode cX6_actOfTwo 16 = .ok (.goto 4, 3) := by decide +kernel
theorem dX6_actOfTwo_19 : decode cX6_actOfTwo 19 = .ok (.iconst (-1), 1) := by decide +kernel
theorem dX6_actOfTwo_20 : decode cX6_actOfTwo 20 = .ok (.istore 4, 2) := by decide +kernel
theorem dX6_actOfTwo_22 : decode cX6_actOfTwo 22 = .ok (.iload 4, 2) := by decide +kernel
theorem dX6_actOfTwo_24 : decode cX6_actOfTwo 24 = .ok (.ifCond .ge 8, 3) := by decide +kernel
theorem dX6_actOfTwo_27 : decode cX6_actOfTwo 27 = .ok (.iload 4, 2) := by decide +kernel
theorem dX6_actOfTwo_29 : decode cX6_actOfTwo 29 = .ok (.goto 33, 3) := by decide +kernel
theorem dX6_actOfTwo_32 : decode cX6_actOfTwo 32 = .ok (.iload_n 1, 1) := by decide +kernel
theorem dX6_actOfTwo_33 : decode cX6_actOfTwo 33 = .ok (.iconst 3, 1) := by decide +kernel
theorem dX6_actOfTwo_34 : decode cX6_actOfTwo 34 = .ok (.if_icmp .ne 21, 3) := by decide +kernel
theorem dX6_actOfTwo_37 : decode cX6_actOfTwo 37 = .ok (.aload_n 0, 1) := by decide +kernel
theorem dX6_actOfTwo_38 : decode cX6_actOfTwo 38 = .ok (.iconst 0, 1) := by decide +kernel
theorem dX6_actOfTwo_39 : decode cX6_actOfTwo 39 = .ok (.iload_n 2, 1) := by decide +kernel
theorem dX6_actOfTwo_40 : decode cX6_actOfTwo 40 = .ok (.iload_n 3, 1) := by decide +kernel
theorem dX6_actOfTwo_41 : decode cX6_actOfTwo 41 = .ok (.invokevirtual 123, 3) := by decide +kernel
theorem dX6_actOfTwo_44 : decode cX6_actOfTwo 44 = .ok (.aload_n 0, 1) := by decide +kernel
theorem dX6_actOfTwo_45 : decode cX6_actOfTwo 45 = .ok (.iconst 0, 1) := by decide +kernel
theorem dX6_actOfTwo_46 : decode cX6_actOfTwo 46 = .ok (.iload_n 3, 1) := by decide +kernel
theorem dX6_actOfTwo_47 : decode cX6_actOfTwo 47 = .ok (.iload_n 2, 1) := by decide +kernel
theorem dX6_actOfTwo_48 : decode cX6_actOfTwo 48 = .ok (.invokevirtual 123, 3) := by decide +kernel
theorem dX6_actOfTwo_51 : decode cX6_actOfTwo 51 = .ok (.iadd, 1) := by decide +kernel
theorem dX6_actOfTwo_52 : decode cX6_actOfTwo 52 = .ok (.goto 10, 3) := by decide +kernel
theorem dX6_actOfTwo_55 : decode cX6_actOfTwo 55 = .ok (.aload_n 0, 1) := by decide +kernel
theorem dX6_actOfTwo_56 : decode cX6_actOfTwo 56 = .ok (.iconst 0, 1) := by decide +kernel
theorem dX6_actOfTwo_57 : decode cX6_actOfTwo 57 = .ok (.iload_n 2, 1) := by decide +kernel
theorem dX6_actOfTwo_58 : decode cX6_actOfTwo 58 = .ok (.iload_n 3, 1) := by decide +kernel
theorem dX6_actOfTwo_59 : decode cX6_actOfTwo 59 = .ok (.invokevirtual 123, 3) := by decide +kernel
theorem dX6_actOfTwo_62 : decode cX6_actOfTwo 62 = .ok (.ireturn, 1) := by decide +kernel
set_option maxRecDepth 20000 in
theorem ggX6_wrong_X6_actOfTwo : GoodIn wsX6_wrong wsX6_actOfTwo := goodIn_r _ [5, 6, 7, 8, 4, 9, 10, 11, 12, 13, 14, 15, 16, 17, 18, 19, 20, 21, 22, 23, 24, 25, 26, 27, 28, 29, 30, 31, 32, 33, 34, 35, 36, 37, 38, 39, 40, 41, 42, 43, 44, 45, 46, 47, 48, 49, 50, 51, 52, 53, 54, 55, 56, 57, 58, 59, 60, 61, 62, 63, 64, 65, 66, 67, 68, 69, 70, 71, 72, 73, 74, 75, 76, 77, 78, 79, 80, 81, 82, 83, 84, 85, 86, 87, 88, 89, 90, 91, 92, 93, 94, 95, 96, 97, 98, 99, 100, 101, 102, 103, 104, 105, 106, 107] (by decide +kernel) (by decide +kernel)
set_option maxRecDepth 20000 in
theorem gX6_wrong_X6_actOfTwo : GoodIn wsX6_wrong (wsV RX6 189 RX6 yX6_actOfTwo wsX6_actOfTwo) := goodIn_app (goodIn_of _ (by decide +kernel)) ggX6_wrong_X6_actOfTwo
theorem dX6_wrong_0 : decode cX6_wrong 0 = .ok (.aload_n 0, 1) := by decide +kernel
theorem dX6_wrong_1 : decode cX6_wrong 1 = .ok (.iconst 0, 1) := by decide +kernel
theorem dX6_wrong_2 : decode cX6_wrong 2 = .ok (.iload_n 1, 1) := by decide +kernel
theorem dX6_wrong_3 : decode cX6_wrong 3 = .ok (.iload_n 2, 1) := by decide +kernel
theorem dX6_wrong_4 : decode cX6_wrong 4 = .ok (.invokevirtual 189, 3) := by decide +kernel
theorem dX6_wrong_7 : decode cX6_wrong 7 = .ok (.ireturn, 1) := by decide +kernel
set_option maxRecDepth 20000 in
theorem ggX6_bow_X6_actOfTwo : GoodIn wsX6_bow wsX6_actOfTwo := goodIn_r _ [5, 6, 7, 8, 4, 9, 10, 11, 12, 13, 14, 15, 16, 17, 18, 19, 20, 21, 22, 23, 24, 25, 26, 27, 28, 29, 30, 31, 32, 33, 34, 35, 36, 37, 38, 39, 40, 41, 42, 43, 44, 45, 46, 47, 48, 49, 50, 51, 52, 53, 54, 55, 56, 57, 58, 59, 60, 61, 62, 63, 64, 65, 66, 67, 68, 69, 70, 71, 72, 73, 74, 75, 76, 77, 78, 79, 80, 81, 82, 83, 84, 85, 86, 87, 88, 89, 90, 91, 92, 93, 94, 95, 96, 97, 98, 99, 100, 101, 102, 103, 104, 105, 106, 107] (by decide +kernel) (by decide +kernel)
set_option maxRecDepth 20000 in
theorem gX6_bow_X6_actOfTwo : GoodIn wsX6_bow (wsV RX6 189 RX6 yX6_actOfTwo wsX6_actOfTwo) := goodIn_app (goodIn_of _ (by decide +kernel)) ggX6_bow_X6_actOfTwo
theorem dX6_bow_0 : decode cX6_bow 0 = .ok (.aload_n 0, 1) := by decide +kernel
theorem dX6_bow_1 : decode cX6_bow 1 = .ok (.iconst 1, 1) := by decide +kernel
theorem dX6_bow_2 : decode cX6_bow 2 = .ok (.iload_n 1, 1) := by decide +kernel
theorem dX6_bow_3 : decode cX6_bow 3 = .ok (.iload_n 2, 1) := by decide +kernel
theorem dX6_bow_4 : decode cX6_bow 4 = .ok (.invokevirtual 189, 3) := by decide +kernel
theorem dX6_bow_7 : decode cX6_bow 7 = .ok (.ireturn, 1) := by decide +kernel
set_option maxRecDepth 20000 in
theorem ggX6_refuse_X6_actOfTwo : GoodIn wsX6_refuse wsX6_actOfTwo := goodIn_r _ [5, 6, 7, 8, 4, 9, 10, 11, 12, 13, 14, 15, 16, 17, 18, 19, 20, 21, 22, 23, 24, 25, 26, 27, 28, 29, 30, 31, 32, 33, 34, 35, 36, 37, 38, 39, 40, 41, 42, 43, 44, 45, 46, 47, 48, 49, 50, 51, 52, 53, 54, 55, 56, 57, 58, 59, 60, 61, 62, 63, 64, 65, 66, 67, 68, 69, 70, 71, 72, 73, 74, 75, 76, 77, 78, 79, 80, 81, 82, 83, 84, 85, 86, 87, 88, 89, 90, 91, 92, 93, 94, 95, 96, 97, 98, 99, 100, 101, 102, 103, 104, 105, 106, 107] (by decide +kernel) (by decide +kernel)
set_option maxRecDepth 20000 in
theorem gX6_refuse_X6_actOfTwo : GoodIn wsX6_refuse (wsV RX6 189 RX6 yX6_actOfTwo wsX6_actOfTwo) := goodIn_app (goodIn_of _ (by decide +kernel)) ggX6_refuse_X6_actOfTwo
theorem dX6_refuse_0 : decode cX6_refuse 0 = .ok (.aload_n 0, 1) := by decide +kernel
theorem dX6_refuse_1 : decode cX6_refuse 1 = .ok (.iconst 2, 1) := by decide +kernel
theorem dX6_refuse_2 : decode cX6_refuse 2 = .ok (.iload_n 1, 1) := by decide +kernel
theorem dX6_refuse_3 : decode cX6_refuse 3 = .ok (.iload_n 2, 1) := by decide +kernel
theorem dX6_refuse_4 : decode cX6_refuse 4 = .ok (.invokevirtual 189, 3) := by decide +kernel
theorem dX6_refuse_7 : decode cX6_refuse 7 = .ok (.ireturn, 1) := by decide +kernel
set_option maxRecDepth 20000 in
theorem ggX6_atOnce_X6_actOfTwo : GoodIn wsX6_atOnce wsX6_actOfTwo := goodIn_r _ [5, 6, 7, 8, 4, 9, 10, 11, 12, 13, 14, 15, 16, 17, 18, 19, 20, 21, 22, 23, 24, 25, 26, 27, 28, 29, 30, 31, 32, 33, 34, 35, 36, 37, 38, 39, 40, 41, 42, 43, 44, 45, 46, 47, 48, 49, 50, 51, 52, 53, 54, 55, 56, 57, 58, 59, 60, 61, 62, 63, 64, 65, 66, 67, 68, 69, 70, 71, 72, 73, 74, 75, 76, 77, 78, 79, 80, 81, 82, 83, 84, 85, 86, 87, 88, 89, 90, 91, 92, 93, 94, 95, 96, 97, 98, 99, 100, 101, 102, 103, 104, 105, 106, 107] (by decide +kernel) (by decide +kernel)
set_option maxRecDepth 20000 in
theorem gX6_atOnce_X6_actOfTwo : GoodIn wsX6_atOnce (wsV RX6 189 RX6 yX6_actOfTwo wsX6_actOfTwo) := goodIn_app (goodIn_of _ (by decide +kernel)) ggX6_atOnce_X6_actOfTwo
theorem dX6_atOnce_0 : decode cX6_atOnce 0 = .ok (.aload_n 0, 1) := by decide +kernel
theorem dX6_atOnce_1 : decode cX6_atOnce 1 = .ok (.iconst 3, 1) := by decide +kernel
theorem dX6_atOnce_2 : decode cX6_atOnce 2 = .ok (.iload_n 1, 1) := by decide +kernel
theorem dX6_atOnce_3 : decode cX6_atOnce 3 = .ok (.iload_n 2, 1) := by decide +kernel
theorem dX6_atOnce_4 : decode cX6_atOnce 4 = .ok (.invokevirtual 189, 3) := by decide +kernel
theorem dX6_atOnce_7 : decode cX6_atOnce 7 = .ok (.ireturn, 1) := by decide +kernel
theorem dX6_bits_0 : decode cX6_bits 0 = .ok (.iconst 0, 1) := by decide +kernel
theorem dX6_bits_1 : decode cX6_bits 1 = .ok (.istore_n 1, 1) := by decide +kernel
theorem dX6_bits_2 : decode cX6_bits 2 = .ok (.iload_n 0, 1) := by decide +kernel
theorem dX6_bits_3 : decode cX6_bits 3 = .ok (.istore_n 2, 1) := by decide +kernel
theorem dX6_bits_4 : decode cX6_bits 4 = .ok (.iload_n 2, 1) := by decide +kernel
theorem dX6_bits_5 : decode cX6_bits 5 = .ok (.ifCond .eq 15, 3) := by decide +kernel
theorem dX6_bits_8 : decode cX6_bits 8 = .ok (.iinc 1 1, 3) := by decide +kernel
theorem dX6_bits_11 : decode cX6_bits 11 = .ok (.iload_n 2, 1) := by decide +kernel
theorem dX6_bits_12 : decode cX6_bits 12 = .ok (.iload_n 2, 1) := by decide +kernel
theorem dX6_bits_13 : decode cX6_bits 13 = .ok (.iconst 1, 1) := by decide +kernel
theorem dX6_bits_14 : decode cX6_bits 14 = .ok (.isub, 1) := by decide +kernel
theorem dX6_bits_15 : decode cX6_bits 15 = .ok (.iand, 1) := by decide +kernel
theorem dX6_bits_16 : decode cX6_bits 16 = .ok (.istore_n 2, 1) := by decide +kernel
theorem dX6_bits_17 : decode cX6_bits 17 = .ok (.goto (-13), 3) := by decide +kernel
theorem dX6_bits_20 : decode cX6_bits 20 = .ok (.iload_n 1, 1) := by decide +kernel
theorem dX6_bits_21 : decode cX6_bits 21 = .ok (.ireturn, 1) := by decide +kernel
set_option maxRecDepth 20000 in
theorem ggX6_die_X6_isPerson : GoodIn wsX6_die wsX6_isPerson := goodIn_r _ [6, 7, 8, 9, 5, 10, 81, 82, 83, 84, 85, 86, 87, 88, 89, 90, 91, 92, 93, 94, 95, 96, 97, 98, 99, 100, 101, 102] (by decide +kernel) (by decide +kernel)
set_option maxRecDepth 20000 in
theorem gX6_die_X6_isPerson : GoodIn wsX6_die (wsV RX6 120 RX6 yX6_isPerson wsX6_isPerson) := goodIn_app (goodIn_of _ (by decide +kernel)) ggX6_die_X6_isPerson
set_option maxRecDepth 20000 in
theorem ggX6_die_X6_act : GoodIn wsX6_die wsX6_act := goodIn_r _ [14, 15, 16, 17, 18, 19, 20, 21, 5, 22, 23, 24, 25, 26, 1, 27, 28, 29, 30, 31, 32, 33, 34, 35, 36, 37, 38, 39, 40, 41, 42, 43, 44, 45, 46, 47, 48, 49, 50, 51, 52, 53, 54, 55, 56, 57, 58, 59, 60, 61, 62, 63, 64, 65, 66, 67, 68, 69, 70, 71, 72, 73, 74, 75, 76, 77, 81, 82, 83, 84, 85, 86, 87, 88, 89, 90, 91, 92, 93, 94, 95, 96, 97, 98, 99, 100, 101, 102] (by decide +kernel) (by decide +kernel)
set_option maxRecDepth 20000 in
theorem gX6_die_X6_act : GoodIn wsX6_die (wsV RX6 186 RX6 yX6_act wsX6_act) := goodIn_app (goodIn_of _ (by decide +kernel)) ggX6_die_X6_act
set_option maxRecDepth 20000 in
theorem ggX6_die_X6_bits : GoodIn wsX6_die wsX6_bits := goodIn_r _ [80] (by decide +kernel) (by decide +kernel)
set_option maxRecDepth 20000 in
theorem gX6_die_X6_bits : GoodIn wsX6_die (va_wsS RX6 192 yX6_bits wsX6_bits) := goodIn_app (goodIn_of _ (by decide +kernel)) ggX6_die_X6_bits
theorem dX6_die_0 : decode cX6_die 0 = .ok (.aload_n 0, 1) := by decide +kernel
theorem dX6_die_1 : decode cX6_die 1 = .ok (.iload_n 1, 1) := by decide +kernel
theorem dX6_die_2 : decode cX6_die 2 = .ok (.invokevirtual 120, 3) := by decide +kernel
theorem dX6_die_5 : decode cX6_die 5 = .ok (.ifCond .eq 13, 3) := by decide +kernel
theorem dX6_die_8 : decode cX6_die 8 = .ok (.aload_n 0, 1) := by decide +kernel
theorem dX6_die_9 : decode cX6_die 9 = .ok (.iconst 4, 1) := by decide +kernel
theorem dX6_die_10 : decode cX6_die 10 = .ok (.iload_n 1, 1) := by decide +kernel
theorem dX6_die_11 : decode cX6_die 11 = .ok (.iconst 0, 1) := by decide +kernel
theorem dX6_die_12 : decode cX6_die 12 = .ok (.invokevirtual 186, 3) := by decide +kernel
theorem dX6_die_15 : decode cX6_die 15 = .ok (.goto 4, 3) := by decide +kernel
theorem dX6_die_18 : decode cX6_die 18 = .ok (.iconst (-1), 1) := by decide +kernel
theorem dX6_die_19 : decode cX6_die 19 = .ok (.istore_n 2, 1) := by decide +kernel
theorem dX6_die_20 : decode cX6_die 20 = .ok (.iload_n 2, 1) := by decide +kernel
theorem dX6_die_21 : decode cX6_die 21 = .ok (.ifCond .ge 7, 3) := by decide +kernel
theorem dX6_die_24 : decode cX6_die 24 = .ok (.iload_n 2, 1) := by decide +kernel
theorem dX6_die_25 : decode cX6_die 25 = .ok (.goto 12, 3) := by decide +kernel
theorem dX6_die_28 : decode cX6_die 28 = .ok (.aload_n 0, 1) := by decide +kernel
theorem dX6_die_29 : decode cX6_die 29 = .ok (.getfield 49, 3) := by decide +kernel
theorem dX6_die_32 : decode cX6_die 32 = .ok (.iconst 0, 1) := by decide +kernel
theorem dX6_die_33 : decode cX6_die 33 = .ok (.iaload, 1) := by decide +kernel
theorem dX6_die_34 : decode cX6_die 34 = .ok (.invokestatic 192, 3) := by decide +kernel
theorem dX6_die_37 : decode cX6_die 37 = .ok (.ireturn, 1) := by decide +kernel
set_option maxRecDepth 20000 in
theorem ggX6_days_X6_in : GoodIn wsX6_days wsX6_in := goodIn_r _ [6] (by decide +kernel) (by decide +kernel)
set_option maxRecDepth 20000 in
theorem gX6_days_X6_in : GoodIn wsX6_days (va_wsS RX6 79 yX6_in wsX6_in) := goodIn_app (goodIn_of _ (by decide +kernel)) ggX6_days_X6_in
set_option maxRecDepth 20000 in
theorem ggX6_days_X6_act : GoodIn wsX6_days wsX6_act := goodIn_r _ [10, 11, 12, 13, 14, 15, 16, 17, 5, 18, 19, 20, 21, 22, 23, 24, 25, 26, 27, 28, 29, 30, 31, 32, 33, 34, 35, 36, 37, 38, 39, 40, 41, 42, 43, 44, 45, 46, 47, 48, 49, 50, 51, 52, 53, 54, 55, 56, 57, 58, 59, 60, 2, 61, 62, 63, 64, 65, 66, 67, 68, 69, 70, 71, 72, 73, 74, 75, 76, 77, 78, 79, 80, 81, 82, 83, 84, 85, 86, 87, 88, 89, 90, 91, 92, 93, 94, 95] (by decide +kernel) (by decide +kernel)
set_option maxRecDepth 20000 in
theorem gX6_days_X6_act : GoodIn wsX6_days (wsV RX6 186 RX6 yX6_act wsX6_act) := goodIn_app (goodIn_of _ (by decide +kernel)) ggX6_days_X6_act
theorem dX6_days_0 : decode cX6_days 0 = .ok (.iload_n 1, 1) := by decide +kernel
theorem dX6_days_1 : decode cX6_days 1 = .ok (.i2l, 1) := by decide +kernel
theorem dX6_days_2 : decode cX6_days 2 = .ok (.lconst 1, 1) := by decide +kernel
theorem dX6_days_3 : decode cX6_days 3 = .ok (.ldc2_w 195, 3) := by decide +kernel
theorem dX6_days_6 : decode cX6_days 6 = .ok (.invokestatic 79, 3) := by decide +kernel
theorem dX6_days_9 : decode cX6_days 9 = .ok (.ifCond .eq 13, 3) := by decide +kernel
theorem dX6_days_12 : decode cX6_days 12 = .ok (.aload_n 0, 1) := by decide +kernel
theorem dX6_days_13 : decode cX6_days 13 = .ok (.iconst 5, 1) := by decide +kernel
theorem dX6_days_14 : decode cX6_days 14 = .ok (.iconst 0, 1) := by decide +kernel
theorem dX6_days_15 : decode cX6_days 15 = .ok (.iload_n 1, 1) := by decide +kernel
theorem dX6_days_16 : decode cX6_days 16 = .ok (.invokevirtual 186, 3) := by decide +kernel
theorem dX6_days_19 : decode cX6_days 19 = .ok (.goto 4, 3) := by decide +kernel
theorem dX6_days_22 : decode cX6_days 22 = .ok (.iconst (-1), 1) := by decide +kernel
theorem dX6_days_23 : decode cX6_days 23 = .ok (.istore_n 2, 1) := by decide +kernel
theorem dX6_days_24 : decode cX6_days 24 = .ok (.iload_n 2, 1) := by decide +kernel
theorem dX6_days_25 : decode cX6_days 25 = .ok (.ifCond .ge 7, 3) := by decide +kernel
theorem dX6_days_28 : decode cX6_days 28 = .ok (.iload_n 2, 1) := by decide +kernel
theorem dX6_days_29 : decode cX6_days 29 = .ok (.goto 9, 3) := by decide +kernel
theorem dX6_days_32 : decode cX6_days 32 = .ok (.aload_n 0, 1) := by decide +kernel
theorem dX6_days_33 : decode cX6_days 33 = .ok (.getfield 52, 3) := by decide +kernel
theorem dX6_days_36 : decode cX6_days 36 = .ok (.iconst 0, 1) := by decide +kernel
theorem dX6_days_37 : decode cX6_days 37 = .ok (.iaload, 1) := by decide +kernel
theorem dX6_days_38 : decode cX6_days 38 = .ok (.ireturn, 1) := by decide +kernel
set_option maxRecDepth 20000 in
theorem ggX6_undo_X6_begin : GoodIn wsX6_undo wsX6_begin := goodIn_r _ [6, 7, 8, 9, 5, 10, 11, 12, 13, 14, 15, 16, 1, 17, 18, 19, 20, 21, 22, 23, 24, 25, 26, 27, 28, 29, 30, 31, 32, 33, 34, 35, 36, 37, 38, 39, 40, 41, 42, 43, 44, 45, 46, 47, 48, 49, 50, 51, 52, 53, 54, 55, 56, 57, 58, 59, 60, 61, 62, 63, 64, 65, 66, 67, 68, 69, 70, 71, 72, 73, 74, 75, 76, 77, 78, 79, 80, 81, 82, 83, 84, 85, 86, 87, 88, 89, 90, 91, 92, 93, 94, 95, 96, 97] (by decide +kernel) (by decide +kernel)
set_option maxRecDepth 20000 in
theorem gX6_undo_X6_begin : GoodIn wsX6_undo (wsV RX6 72 RX6 yX6_begin wsX6_begin) := goodIn_app (goodIn_of _ (by decide +kernel)) ggX6_undo_X6_begin
theorem dX6_undo_0 : decode cX6_undo 0 = .ok (.aload_n 0, 1) := by decide +kernel
theorem dX6_undo_1 : decode cX6_undo 1 = .ok (.getfield 28, 3) := by decide +kernel
theorem dX6_undo_4 : decode cX6_undo 4 = .ok (.iconst 0, 1) := by decide +kernel
theorem dX6_undo_5 : decode cX6_undo 5 = .ok (.iaload, 1) := by decide +kernel
theorem dX6_undo_6 : decode cX6_undo 6 = .ok (.ifCond .ne 6, 3) := by decide +kernel
theorem dX6_undo_9 : decode cX6_undo 9 = .ok (.bipush (-2), 2) := by decide +kernel
theorem dX6_undo_11 : decode cX6_undo 11 = .ok (.ireturn, 1) := by decide +kernel
theorem dX6_undo_12 : decode cX6_undo 12 = .ok (.aload_n 0, 1) := by decide +kernel
theorem dX6_undo_13 : decode cX6_undo 13 = .ok (.getfield 28, 3) := by decide +kernel
theorem dX6_undo_16 : decode cX6_undo 16 = .ok (.iconst 0, 1) := by decide +kernel
theorem dX6_undo_17 : decode cX6_undo 17 = .ok (.dup2, 1) := by decide +kernel
theorem dX6_undo_18 : decode cX6_undo 18 = .ok (.iaload, 1) := by decide +kernel
theorem dX6_undo_19 : decode cX6_undo 19 = .ok (.iconst 1, 1) := by decide +kernel
theorem dX6_undo_20 : decode cX6_undo 20 = .ok (.isub, 1) := by decide +kernel
theorem dX6_undo_21 : decode cX6_undo 21 = .ok (.iastore, 1) := by decide +kernel
theorem dX6_undo_22 : decode cX6_undo 22 = .ok (.aload_n 0, 1) := by decide +kernel
theorem dX6_undo_23 : decode cX6_undo 23 = .ok (.invokevirtual 72, 3) := by decide +kernel
theorem dX6_undo_26 : decode cX6_undo 26 = .ok (.aload_n 0, 1) := by decide +kernel
theorem dX6_undo_27 : decode cX6_undo 27 = .ok (.getfield 28, 3) := by decide +kernel
theorem dX6_undo_30 : decode cX6_undo 30 = .ok (.iconst 0, 1) := by decide +kernel
theorem dX6_undo_31 : decode cX6_undo 31 = .ok (.iaload, 1) := by decide +kernel
theorem dX6_undo_32 : decode cX6_undo 32 = .ok (.ireturn, 1) := by decide +kernel
set_option maxRecDepth 20000 in
theorem ggX6_firstBow_X6_canBow : GoodIn wsX6_firstBow wsX6_canBow := goodIn_r _ [5, 6, 7, 8, 4, 9, 10, 11, 12, 13, 14, 15, 16, 17, 18, 19, 20, 21, 22, 23, 24, 25, 26, 27, 33, 34, 35, 36, 37, 38, 39, 40, 41, 42, 43, 44, 45, 46, 47, 48, 49, 50, 51, 52, 53, 54] (by decide +kernel) (by decide +kernel)
set_option maxRecDepth 20000 in
theorem gX6_firstBow_X6_canBow : GoodIn wsX6_firstBow (wsV RX6 145 RX6 yX6_canBow wsX6_canBow) := goodIn_app (goodIn_of _ (by decide +kernel)) ggX6_firstBow_X6_canBow
set_option maxRecDepth 20000 in
theorem ggX6_firstBow_X6_pays : GoodIn wsX6_firstBow wsX6_pays := goodIn_r _ [31, 15, 32, 6, 7, 8, 4, 9, 10, 33, 34, 35, 36, 37, 38, 39, 40, 41, 42, 43, 44, 45, 46, 47, 48, 49, 50, 51, 52, 53, 54] (by decide +kernel) (by decide +kernel)
set_option maxRecDepth 20000 in
theorem gX6_firstBow_X6_pays : GoodIn wsX6_firstBow (wsV RX6 152 RX6 yX6_pays wsX6_pays) := goodIn_app (goodIn_of _ (by decide +kernel)) ggX6_firstBow_X6_pays
theorem dX6_firstBow_0 : decode cX6_firstBow 0 = .ok (.iconst 0, 1) := by decide +kernel
theorem dX6_firstBow_1 : decode cX6_firstBow 1 = .ok (.istore_n 2, 1) := by decide +kernel
theorem dX6_firstBow_2 : decode cX6_firstBow 2 = .ok (.iload_n 2, 1) := by decide +kernel
theorem dX6_firstBow_3 : decode cX6_firstBow 3 = .ok (.bipush 64, 2) := by decide +kernel
theorem dX6_firstBow_5 : decode cX6_firstBow 5 = .ok (.if_icmp .ge 43, 3) := by decide +kernel
theorem dX6_firstBow_8 : decode cX6_firstBow 8 = .ok (.aload_n 0, 1) := by decide +kernel
theorem dX6_firstBow_9 : decode cX6_firstBow 9 = .ok (.iload_n 1, 1) := by decide +kernel
theorem dX6_firstBow_10 : decode cX6_firstBow 10 = .ok (.iload_n 2, 1) := by decide +kernel
theorem dX6_firstBow_11 : decode cX6_firstBow 11 = .ok (.bipush 8, 2) := by decide +kernel
theorem dX6_firstBow_13 : decode cX6_firstBow 13 = .ok (.idiv, 1) := by decide +kernel
theorem dX6_firstBow_14 : decode cX6_firstBow 14 = .ok (.iload_n 2, 1) := by decide +kernel
theorem dX6_firstBow_15 : decode cX6_firstBow 15 = .ok (.bipush 8, 2) := by decide +kernel
theorem dX6_firstBow_17 : decode cX6_firstBow 17 = .ok (.irem, 1) := by decide +kernel
theorem dX6_firstBow_18 : decode cX6_firstBow 18 = .ok (.invokevirtual 145, 3) := by decide +kernel
theorem dX6_firstBow_21 : decode cX6_firstBow 21 = .ok (.ifCond .eq 21, 3) := by decide +kernel
theorem dX6_firstBow_24 : decode cX6_firstBow 24 = .ok (.aload_n 0, 1) := by decide +kernel
theorem dX6_firstBow_25 : decode cX6_firstBow 25 = .ok (.iload_n 1, 1) := by decide +kernel
theorem dX6_firstBow_26 : decode cX6_firstBow 26 = .ok (.iload_n 2, 1) := by decide +kernel
theorem dX6_firstBow_27 : decode cX6_firstBow 27 = .ok (.bipush 8, 2) := by decide +kernel
theorem dX6_firstBow_29 : decode cX6_firstBow 29 = .ok (.idiv, 1) := by decide +kernel
theorem dX6_firstBow_30 : decode cX6_firstBow 30 = .ok (.iload_n 2, 1) := by decide +kernel
theorem dX6_firstBow_31 : decode cX6_firstBow 31 = .ok (.bipush 8, 2) := by decide +kernel
theorem dX6_firstBow_33 : decode cX6_firstBow 33 = .ok (.irem, 1) := by decide +kernel
theorem dX6_firstBow_34 : decode cX6_firstBow 34 = .ok (.invokevirtual 152, 3) := by decide +kernel
theorem dX6_firstBow_37 : decode cX6_firstBow 37 = .ok (.ifCond .le 5, 3) := by decide +kernel
theorem dX6_firstBow_40 : decode cX6_firstBow 40 = .ok (.iload_n 2, 1) := by decide +kernel
theorem dX6_firstBow_41 : decode cX6_firstBow 41 = .ok (.ireturn, 1) := by decide +kernel
theorem dX6_firstBow_42 : decode cX6_firstBow 42 = .ok (.iinc 2 1, 3) := by decide +kernel
theorem dX6_firstBow_45 : decode cX6_firstBow 45 = .ok (.goto (-43), 3) := by decide +kernel
theorem dX6_firstBow_48 : decode cX6_firstBow 48 = .ok (.bipush (-4), 2) := by decide +kernel
theorem dX6_firstBow_50 : decode cX6_firstBow 50 = .ok (.ireturn, 1) := by decide +kernel
set_option maxRecDepth 20000 in
theorem ggX6_firstAtOnce_X6_canAtOnce : GoodIn wsX6_firstAtOnce wsX6_canAtOnce := goodIn_r _ [5, 6, 7, 8, 4, 9, 10, 11, 12, 13, 14, 21, 22, 23, 24, 25, 26, 27, 28, 29, 30, 31, 32, 33, 34, 35, 36, 37, 38, 39, 40, 41, 42] (by decide +kernel) (by decide +kernel)
set_option maxRecDepth 20000 in
theorem gX6_firstAtOnce_X6_canAtOnce : GoodIn wsX6_firstAtOnce (wsV RX6 149 RX6 yX6_canAtOnce wsX6_canAtOnce) := goodIn_app (goodIn_of _ (by decide +kernel)) ggX6_firstAtOnce_X6_canAtOnce
set_option maxRecDepth 20000 in
theorem ggX6_firstAtOnce_X6_pays : GoodIn wsX6_firstAtOnce wsX6_pays := goodIn_r _ [18, 19, 20, 6, 7, 8, 4, 9, 10, 21, 22, 23, 24, 25, 26, 27, 28, 29, 30, 31, 32, 33, 34, 35, 36, 37, 38, 39, 40, 41, 42] (by decide +kernel) (by decide +kernel)
set_option maxRecDepth 20000 in
theorem gX6_firstAtOnce_X6_pays : GoodIn wsX6_firstAtOnce (wsV RX6 152 RX6 yX6_pays wsX6_pays) := goodIn_app (goodIn_of _ (by decide +kernel)) ggX6_firstAtOnce_X6_pays
theorem dX6_firstAtOnce_0 : decode cX6_firstAtOnce 0 = .ok (.iconst 0, 1) := by decide +kernel
theorem dX6_firstAtOnce_1 : decode cX6_firstAtOnce 1 = .ok (.istore_n 2, 1) := by decide +kernel
theorem dX6_firstAtOnce_2 : decode cX6_firstAtOnce 2 = .ok (.iload_n 2, 1) := by decide +kernel
theorem dX6_firstAtOnce_3 : decode cX6_firstAtOnce 3 = .ok (.bipush 64, 2) := by decide +kernel
theorem dX6_firstAtOnce_5 : decode cX6_firstAtOnce 5 = .ok (.if_icmp .ge 59, 3) := by decide +kernel
theorem dX6_firstAtOnce_8 : decode cX6_firstAtOnce 8 = .ok (.iload_n 2, 1) := by decide +kernel
theorem dX6_firstAtOnce_9 : decode cX6_firstAtOnce 9 = .ok (.bipush 8, 2) := by decide +kernel
theorem dX6_firstAtOnce_11 : decode cX6_firstAtOnce 11 = .ok (.idiv, 1) := by decide +kernel
theorem dX6_firstAtOnce_12 : decode cX6_firstAtOnce 12 = .ok (.istore_n 3, 1) := by decide +kernel
theorem dX6_firstAtOnce_13 : decode cX6_firstAtOnce 13 = .ok (.iload_n 2, 1) := by decide +kernel
theorem dX6_firstAtOnce_14 : decode cX6_firstAtOnce 14 = .ok (.bipush 8, 2) := by decide +kernel
theorem dX6_firstAtOnce_16 : decode cX6_firstAtOnce 16 = .ok (.irem, 1) := by decide +kernel
theorem dX6_firstAtOnce_17 : decode cX6_firstAtOnce 17 = .ok (.istore 4, 2) := by decide +kernel
theorem dX6_firstAtOnce_19 : decode cX6_firstAtOnce 19 = .ok (.iload_n 3, 1) := by decide +kernel
theorem dX6_firstAtOnce_20 : decode cX6_firstAtOnce 20 = .ok (.iload 4, 2) := by decide +kernel
theorem dX6_firstAtOnce_22 : decode cX6_firstAtOnce 22 = .ok (.if_icmp .ge 36, 3) := by decide +kernel
theorem dX6_firstAtOnce_25 : decode cX6_firstAtOnce 25 = .ok (.aload_n 0, 1) := by decide +kernel
theorem dX6_firstAtOnce_26 : decode cX6_firstAtOnce 26 = .ok (.iload_n 1, 1) := by decide +kernel
theorem dX6_firstAtOnce_27 : decode cX6_firstAtOnce 27 = .ok (.iload_n 3, 1) := by decide +kernel
theorem dX6_firstAtOnce_28 : decode cX6_firstAtOnce 28 = .ok (.iload 4, 2) := by decide +kernel
theorem dX6_firstAtOnce_30 : decode cX6_firstAtOnce 30 = .ok (.invokevirtual 149, 3) := by decide +kernel
theorem dX6_firstAtOnce_33 : decode cX6_firstAtOnce 33 = .ok (.ifCond .eq 25, 3) := by decide +kernel
theorem dX6_firstAtOnce_36 : decode cX6_firstAtOnce 36 = .ok (.aload_n 0, 1) := by decide +kernel
theorem dX6_firstAtOnce_37 : decode cX6_firstAtOnce 37 = .ok (.iload_n 1, 1) := by decide +kernel
theorem dX6_firstAtOnce_38 : decode cX6_firstAtOnce 38 = .ok (.iload_n 3, 1) := by decide +kernel
theorem dX6_firstAtOnce_39 : decode cX6_firstAtOnce 39 = .ok (.iload 4, 2) := by decide +kernel
theorem dX6_firstAtOnce_41 : decode cX6_firstAtOnce 41 = .ok (.invokevirtual 152, 3) := by decide +kernel
theorem dX6_firstAtOnce_44 : decode cX6_firstAtOnce 44 = .ok (.aload_n 0, 1) := by decide +kernel
theorem dX6_firstAtOnce_45 : decode cX6_firstAtOnce 45 = .ok (.iload_n 1, 1) := by decide +kernel
theorem dX6_firstAtOnce_46 : decode cX6_firstAtOnce 46 = .ok (.iload 4, 2) := by decide +kernel
theorem dX6_firstAtOnce_48 : decode cX6_firstAtOnce 48 = .ok (.iload_n 3, 1) := by decide +kernel
theorem dX6_firstAtOnce_49 : decode cX6_firstAtOnce 49 = .ok (.invokevirtual 152, 3) := by decide +kernel
theorem dX6_firstAtOnce_52 : decode cX6_firstAtOnce 52 = .ok (.iadd, 1) := by decide +kernel
theorem dX6_firstAtOnce_53 : decode cX6_firstAtOnce 53 = .ok (.ifCond .le 5, 3) := by decide +kernel
theorem dX6_firstAtOnce_56 : decode cX6_firstAtOnce 56 = .ok (.iload_n 2, 1) := by decide +kernel
theorem dX6_firstAtOnce_57 : decode cX6_firstAtOnce 57 = .ok (.ireturn, 1) := by decide +kernel
theorem dX6_firstAtOnce_58 : decode cX6_firstAtOnce 58 = .ok (.iinc 2 1, 3) := by decide +kernel
theorem dX6_firstAtOnce_61 : decode cX6_firstAtOnce 61 = .ok (.goto (-59), 3) := by decide +kernel
theorem dX6_firstAtOnce_64 : decode cX6_firstAtOnce 64 = .ok (.bipush (-4), 2) := by decide +kernel
theorem dX6_firstAtOnce_66 : decode cX6_firstAtOnce 66 = .ok (.ireturn, 1) := by decide +kernel
set_option maxRecDepth 20000 in
theorem ggX6_makePeace_X6_firstBow : GoodIn wsX6_makePeace wsX6_firstBow := goodIn_r _ [5, 6, 7, 8, 4, 9, 10, 11, 12, 13, 14, 15, 16, 17, 18, 19, 20, 21, 22, 23, 24, 25, 26, 27, 28, 29, 30, 31, 32, 33, 34, 35, 36, 66, 67, 68, 69, 70, 71, 72, 73, 74, 75, 76, 77, 78, 79, 80, 81, 82, 83, 84, 85, 86, 87] (by decide +kernel) (by decide +kernel)
set_option maxRecDepth 20000 in
theorem gX6_makePeace_X6_firstBow : GoodIn wsX6_makePeace (wsV RX6 197 RX6 yX6_firstBow wsX6_firstBow) := goodIn_app (goodIn_of _ (by decide +kernel)) ggX6_makePeace_X6_firstBow
set_option maxRecDepth 20000 in
theorem ggX6_makePeace_X6_firstAtOnce : GoodIn wsX6_makePeace wsX6_firstAtOnce := goodIn_r _ [40, 41, 42, 43, 4, 44, 10, 11, 12, 13, 14, 28, 29, 30, 31, 32, 33, 34, 35, 19, 36, 66, 67, 68, 69, 70, 71, 72, 73, 74, 75, 76, 77, 78, 79, 80, 81, 82, 83, 84, 85, 86, 87] (by decide +kernel) (by decide +kernel)
set_option maxRecDepth 20000 in
theorem gX6_makePeace_X6_firstAtOnce : GoodIn wsX6_makePeace (wsV RX6 200 RX6 yX6_firstAtOnce wsX6_firstAtOnce) := goodIn_app (goodIn_of _ (by decide +kernel)) ggX6_makePeace_X6_firstAtOnce
set_option maxRecDepth 20000 in
theorem ggX6_makePeace_X6_doAct : GoodIn wsX6_makePeace wsX6_doAct := goodIn_r _ [48, 10, 11, 12, 4, 13, 14, 49, 50, 51, 52, 32, 33, 34, 35, 19, 36, 53, 54, 55, 56, 57, 58, 59, 60, 24, 61, 62, 63, 64, 65, 20, 21, 22, 23, 25, 26, 27, 66, 67, 68, 69, 70, 71, 72, 73, 74, 75, 76, 77, 78, 79, 80, 81, 82, 83, 84, 85, 86, 87] (by decide +kernel) (by decide +kernel)
set_option maxRecDepth 20000 in
theorem gX6_makePeace_X6_doAct : GoodIn wsX6_makePeace (wsV RX6 169 RX6 yX6_doAct wsX6_doAct) := goodIn_app (goodIn_of _ (by decide +kernel)) ggX6_makePeace_X6_doAct
set_option maxRecDepth 20000 in
theorem ggX6_makePeace_X6_bothBow : GoodIn wsX6_makePeace wsX6_bothBow := goodIn_r _ [56, 32, 33, 34, 4, 35, 19, 36, 10, 11, 12, 13, 14, 49, 50, 51, 52, 66, 67, 68, 69, 70, 71, 72, 73, 74, 75, 76, 77, 78, 79, 80, 81, 82, 83, 84, 85, 86, 87] (by decide +kernel) (by decide +kernel)
set_option maxRecDepth 20000 in
theorem gX6_makePeace_X6_bothBow : GoodIn wsX6_makePeace (wsV RX6 155 RX6 yX6_bothBow wsX6_bothBow) := goodIn_app (goodIn_of _ (by decide +kernel)) ggX6_makePeace_X6_bothBow
theorem dX6_makePeace_0 : decode cX6_makePeace 0 = .ok (.iconst 0, 1) := by decide +kernel
theorem dX6_makePeace_1 : decode cX6_makePeace 1 = .ok (.istore_n 2, 1) := by decide +kernel
theorem dX6_makePeace_2 : decode cX6_makePeace 2 = .ok (.iconst 1, 1) := by decide +kernel
theorem dX6_makePeace_3 : decode cX6_makePeace 3 = .ok (.istore_n 3, 1) := by decide +kernel
theorem dX6_makePeace_4 : decode cX6_makePeace 4 = .ok (.iload_n 3, 1) := by decide +kernel
theorem dX6_makePeace_5 : decode cX6_makePeace 5 = .ok (.ifCond .eq 102, 3) := by decide +kernel
theorem dX6_makePeace_8 : decode cX6_makePeace 8 = .ok (.aload_n 0, 1) := by decide +kernel
theorem dX6_makePeace_9 : decode cX6_makePeace 9 = .ok (.iload_n 1, 1) := by decide +kernel
theorem dX6_makePeace_10 : decode cX6_makePeace 10 = .ok (.invokevirtual 197, 3) := by decide +kernel
theorem dX6_makePeace_13 : decode cX6_makePeace 13 = .ok (.istore 4, 2) := by decide +kernel
theorem dX6_makePeace_15 : decode cX6_makePeace 15 = .ok (.iload 4, 2) := by decide +kernel
theorem dX6_makePeace_17 : decode cX6_makePeace 17 = .ok (.ifCond .ge 11, 3) := by decide +kernel
theorem dX6_makePeace_20 : decode cX6_makePeace 20 = .ok (.aload_n 0, 1) := by decide +kernel
theorem dX6_makePeace_21 : decode cX6_makePeace 21 = .ok (.iload_n 1, 1) := by decide +kernel
theorem dX6_makePeace_22 : decode cX6_makePeace 22 = .ok (.invokevirtual 200, 3) := by decide +kernel
theorem dX6_makePeace_25 : decode cX6_makePeace 25 = .ok (.goto 5, 3) := by decide +kernel
theorem dX6_makePeace_28 : decode cX6_makePeace 28 = .ok (.bipush (-4), 2) := by decide +kernel
theorem dX6_makePeace_30 : decode cX6_makePeace 30 = .ok (.istore 5, 2) := by decide +kernel
theorem dX6_makePeace_32 : decode cX6_makePeace 32 = .ok (.iload 4, 2) := by decide +kernel
theorem dX6_makePeace_34 : decode cX6_makePeace 34 = .ok (.ifCond .lt 22, 3) := by decide +kernel
theorem dX6_makePeace_37 : decode cX6_makePeace 37 = .ok (.aload_n 0, 1) := by decide +kernel
theorem dX6_makePeace_38 : decode cX6_makePeace 38 = .ok (.iload_n 1, 1) := by decide +kernel
theorem dX6_makePeace_39 : decode cX6_makePeace 39 = .ok (.iconst 1, 1) := by decide +kernel
theorem dX6_makePeace_40 : decode cX6_makePeace 40 = .ok (.iload 4, 2) := by decide +kernel
theorem dX6_makePeace_42 : decode cX6_makePeace 42 = .ok (.bipush 8, 2) := by decide +kernel
theorem dX6_makePeace_44 : decode cX6_makePeace 44 = .ok (.idiv, 1) := by decide +kernel
theorem dX6_makePeace_45 : decode cX6_makePeace 45 = .ok (.iload 4, 2) := by decide +kernel
theorem dX6_makePeace_47 : decode cX6_makePeace 47 = .ok (.bipush 8, 2) := by decide +kernel
theorem dX6_makePeace_49 : decode cX6_makePeace 49 = .ok (.irem, 1) := by decide +kernel
theorem dX6_makePeace_50 : decode cX6_makePeace 50 = .ok (.invokevirtual 169, 3) := by decide +kernel
theorem dX6_makePeace_53 : decode cX6_makePeace 53 = .ok (.goto 23, 3) := by decide +kernel
theorem dX6_makePeace_56 : decode cX6_makePeace 56 = .ok (.iload 5, 2) := by decide +kernel
theorem dX6_makePeace_58 : decode cX6_makePeace 58 = .ok (.ifCond .lt 18, 3) := by decide +kernel
theorem dX6_makePeace_61 : decode cX6_makePeace 61 = .ok (.aload_n 0, 1) := by decide +kernel
theorem dX6_makePeace_62 : decode cX6_makePeace 62 = .ok (.iload_n 1, 1) := by decide +kernel
theorem dX6_makePeace_63 : decode cX6_makePeace 63 = .ok (.iload 5, 2) := by decide +kernel
theorem dX6_makePeace_65 : decode cX6_makePeace 65 = .ok (.bipush 8, 2) := by decide +kernel
theorem dX6_makePeace_67 : decode cX6_makePeace 67 = .ok (.idiv, 1) := by decide +kernel
theorem dX6_makePeace_68 : decode cX6_makePeace 68 = .ok (.iload 5, 2) := by decide +kernel
theorem dX6_makePeace_70 : decode cX6_makePeace 70 = .ok (.bipush 8, 2) := by decide +kernel
theorem dX6_makePeace_72 : decode cX6_makePeace 72 = .ok (.irem, 1) := by decide +kernel
theorem dX6_makePeace_73 : decode cX6_makePeace 73 = .ok (.invokevirtual 155, 3) := by decide +kernel
theorem dX6_makePeace_76 : decode cX6_makePeace 76 = .ok (.iload 4, 2) := by decide +kernel
theorem dX6_makePeace_78 : decode cX6_makePeace 78 = .ok (.ifCond .ge 8, 3) := by decide +kernel
theorem dX6_makePeace_81 : decode cX6_makePeace 81 = .ok (.iload 5, 2) := by decide +kernel
theorem dX6_makePeace_83 : decode cX6_makePeace 83 = .ok (.ifCond .lt 7, 3) := by decide +kernel
theorem dX6_makePeace_86 : decode cX6_makePeace 86 = .ok (.iconst 1, 1) := by decide +kernel
theorem dX6_makePeace_87 : decode cX6_makePeace 87 = .ok (.goto 4, 3) := by decide +kernel
theorem dX6_makePeace_90 : decode cX6_makePeace 90 = .ok (.iconst 0, 1) := by decide +kernel
theorem dX6_makePeace_91 : decode cX6_makePeace 91 = .ok (.istore_n 3, 1) := by decide +kernel
theorem dX6_makePeace_92 : decode cX6_makePeace 92 = .ok (.iload_n 2, 1) := by decide +kernel
theorem dX6_makePeace_93 : decode cX6_makePeace 93 = .ok (.iload_n 3, 1) := by decide +kernel
theorem dX6_makePeace_94 : decode cX6_makePeace 94 = .ok (.ifCond .eq 7, 3) := by decide +kernel
theorem dX6_makePeace_97 : decode cX6_makePeace 97 = .ok (.iconst 1, 1) := by decide +kernel
theorem dX6_makePeace_98 : decode cX6_makePeace 98 = .ok (.goto 4, 3) := by decide +kernel
theorem dX6_makePeace_101 : decode cX6_makePeace 101 = .ok (.iconst 0, 1) := by decide +kernel
theorem dX6_makePeace_102 : decode cX6_makePeace 102 = .ok (.iadd, 1) := by decide +kernel
theorem dX6_makePeace_103 : decode cX6_makePeace 103 = .ok (.istore_n 2, 1) := by decide +kernel
theorem dX6_makePeace_104 : decode cX6_makePeace 104 = .ok (.goto (-100), 3) := by decide +kernel
theorem dX6_makePeace_107 : decode cX6_makePeace 107 = .ok (.iload_n 2, 1) := by decide +kernel
theorem dX6_makePeace_108 : decode cX6_makePeace 108 = .ok (.ireturn, 1) := by decide +kernel
set_option maxRecDepth 20000 in
theorem ggX6_owedBehind_X6_copy : GoodIn wsX6_owedBehind wsX6_copy := goodIn_r _ [5, 6, 7, 8, 9, 78, 79, 80, 81, 82, 83, 84, 85, 86, 87, 88, 89, 90, 91, 92, 93, 94, 95, 96, 97, 98, 99] (by decide +kernel) (by decide +kernel)
set_option maxRecDepth 20000 in
theorem gX6_owedBehind_X6_copy : GoodIn wsX6_owedBehind (wsV RX6 203 RX6 yX6_copy wsX6_copy) := goodIn_app (goodIn_of _ (by decide +kernel)) ggX6_owedBehind_X6_copy
set_option maxRecDepth 20000 in
theorem ggX6_owedBehind_X6_makePeace : GoodIn wsX6_owedBehind wsX6_makePeace := goodIn_r _ [13, 14, 15, 16, 4, 17, 18, 19, 20, 21, 22, 23, 24, 25, 6, 26, 27, 28, 29, 30, 31, 32, 33, 34, 7, 35, 36, 37, 38, 39, 40, 41, 42, 43, 44, 45, 8, 46, 47, 48, 49, 50, 51, 52, 53, 54, 55, 56, 57, 58, 59, 60, 61, 62, 63, 64, 65, 66, 67, 68, 69, 70, 71, 72, 73, 9, 78, 79, 80, 81, 82, 83, 84, 85, 86, 87, 88, 89, 90, 91, 92, 93, 94, 95, 96, 97, 98, 99] (by decide +kernel) (by decide +kernel)
set_option maxRecDepth 20000 in
theorem gX6_owedBehind_X6_makePeace : GoodIn wsX6_owedBehind (wsV RX6 206 RX6 yX6_makePeace wsX6_makePeace) := goodIn_app (goodIn_of _ (by decide +kernel)) ggX6_owedBehind_X6_makePeace
set_option maxRecDepth 20000 in
theorem ggX6_owedBehind_X6_allOf : GoodIn wsX6_owedBehind wsX6_allOf := goodIn_r _ [77, 38, 39, 40, 4, 41, 22, 23, 24, 25, 6, 78, 79, 80, 81, 82, 83, 84, 85, 86, 87, 88, 89, 90, 91, 92, 93, 94, 95, 96, 97, 98, 99] (by decide +kernel) (by decide +kernel)
set_option maxRecDepth 20000 in
theorem gX6_owedBehind_X6_allOf : GoodIn wsX6_owedBehind (wsV RX6 209 RX6 yX6_allOf wsX6_allOf) := goodIn_app (goodIn_of _ (by decide +kernel)) ggX6_owedBehind_X6_allOf
theorem dX6_owedBehind_0 : decode cX6_owedBehind 0 = .ok (.aload_n 0, 1) := by decide +kernel
theorem dX6_owedBehind_1 : decode cX6_owedBehind 1 = .ok (.iload_n 1, 1) := by decide +kernel
theorem dX6_owedBehind_2 : decode cX6_owedBehind 2 = .ok (.iconst 2, 1) := by decide +kernel
theorem dX6_owedBehind_3 : decode cX6_owedBehind 3 = .ok (.invokevirtual 203, 3) := by decide +kernel
theorem dX6_owedBehind_6 : decode cX6_owedBehind 6 = .ok (.aload_n 0, 1) := by decide +kernel
theorem dX6_owedBehind_7 : decode cX6_owedBehind 7 = .ok (.iconst 2, 1) := by decide +kernel
theorem dX6_owedBehind_8 : decode cX6_owedBehind 8 = .ok (.invokevirtual 206, 3) := by decide +kernel
theorem dX6_owedBehind_11 : decode cX6_owedBehind 11 = .ok (.pop, 1) := by decide +kernel
theorem dX6_owedBehind_12 : decode cX6_owedBehind 12 = .ok (.aload_n 0, 1) := by decide +kernel
theorem dX6_owedBehind_13 : decode cX6_owedBehind 13 = .ok (.iconst 2, 1) := by decide +kernel
theorem dX6_owedBehind_14 : decode cX6_owedBehind 14 = .ok (.invokevirtual 209, 3) := by decide +kernel
theorem dX6_owedBehind_17 : decode cX6_owedBehind 17 = .ok (.ireturn, 1) := by decide +kernel
set_option maxRecDepth 20000 in
theorem ggX6_peace_X6_in : GoodIn wsX6_peace wsX6_in := goodIn_r _ [5] (by decide +kernel) (by decide +kernel)
set_option maxRecDepth 20000 in
theorem gX6_peace_X6_in : GoodIn wsX6_peace (va_wsS RX6 79 yX6_in wsX6_in) := goodIn_app (goodIn_of _ (by decide +kernel)) ggX6_peace_X6_in
set_option maxRecDepth 20000 in
theorem ggX6_peace_X6_copy : GoodIn wsX6_peace wsX6_copy := goodIn_r _ [9, 10, 11, 12, 13, 86, 87, 88, 89, 90, 91, 92, 93, 94, 95, 96, 97, 98, 99, 100, 101, 102, 103, 104, 105, 106, 107] (by decide +kernel) (by decide +kernel)
set_option maxRecDepth 20000 in
theorem gX6_peace_X6_copy : GoodIn wsX6_peace (wsV RX6 203 RX6 yX6_copy wsX6_copy) := goodIn_app (goodIn_of _ (by decide +kernel)) ggX6_peace_X6_copy
set_option maxRecDepth 20000 in
theorem ggX6_peace_X6_makePeace : GoodIn wsX6_peace wsX6_makePeace := goodIn_r _ [17, 18, 19, 20, 4, 21, 22, 23, 24, 25, 26, 27, 28, 29, 10, 30, 31, 32, 33, 34, 35, 36, 37, 38, 11, 39, 40, 41, 42, 43, 44, 45, 46, 47, 48, 49, 12, 50, 51, 52, 53, 54, 55, 56, 57, 58, 59, 60, 61, 62, 63, 64, 65, 66, 67, 68, 69, 70, 71, 72, 73, 74, 75, 76, 77, 13, 86, 87, 88, 89, 90, 91, 92, 93, 94, 95, 96, 97, 98, 99, 100, 101, 102, 103, 104, 105, 106, 107] (by decide +kernel) (by decide +kernel)
set_option maxRecDepth 20000 in
theorem gX6_peace_X6_makePeace : GoodIn wsX6_peace (wsV RX6 206 RX6 yX6_makePeace wsX6_makePeace) := goodIn_app (goodIn_of _ (by decide +kernel)) ggX6_peace_X6_makePeace
set_option maxRecDepth 20000 in
theorem ggX6_peace_X6_debtsOf : GoodIn wsX6_peace wsX6_debtsOf := goodIn_r _ [45, 26, 27, 28, 4, 29, 10, 86, 87, 88, 89, 90, 91, 92, 93, 94, 95, 96, 97, 98, 99, 100, 101, 102, 103, 104, 105, 106, 107] (by decide +kernel) (by decide +kernel)
set_option maxRecDepth 20000 in
theorem gX6_peace_X6_debtsOf : GoodIn wsX6_peace (wsV RX6 127 RX6 yX6_debtsOf wsX6_debtsOf) := goodIn_app (goodIn_of _ (by decide +kernel)) ggX6_peace_X6_debtsOf
set_option maxRecDepth 20000 in
theorem ggX6_peace_X6_owedTo : GoodIn wsX6_peace wsX6_owedTo := goodIn_r _ [81, 26, 27, 28, 4, 29, 10, 86, 87, 88, 89, 90, 91, 92, 93, 94, 95, 96, 97, 98, 99, 100, 101, 102, 103, 104, 105, 106, 107] (by decide +kernel) (by decide +kernel)
set_option maxRecDepth 20000 in
theorem gX6_peace_X6_owedTo : GoodIn wsX6_peace (wsV RX6 177 RX6 yX6_owedTo wsX6_owedTo) := goodIn_app (goodIn_of _ (by decide +kernel)) ggX6_peace_X6_owedTo
set_option maxRecDepth 20000 in
theorem ggX6_peace_X6_allOf : GoodIn wsX6_peace wsX6_allOf := goodIn_r _ [85, 42, 43, 44, 4, 45, 26, 27, 28, 29, 10, 86, 87, 88, 89, 90, 91, 92, 93, 94, 95, 96, 97, 98, 99, 100, 101, 102, 103, 104, 105, 106, 107] (by decide +kernel) (by decide +kernel)
set_option maxRecDepth 20000 in
theorem gX6_peace_X6_allOf : GoodIn wsX6_peace (wsV RX6 209 RX6 yX6_allOf wsX6_allOf) := goodIn_app (goodIn_of _ (by decide +kernel)) ggX6_peace_X6_allOf
theorem dX6_peace_0 : decode cX6_peace 0 = .ok (.iload_n 1, 1) := by decide +kernel
theorem dX6_peace_1 : decode cX6_peace 1 = .ok (.i2l, 1) := by decide +kernel
theorem dX6_peace_2 : decode cX6_peace 2 = .ok (.lconst 0, 1) := by decide +kernel
theorem dX6_peace_3 : decode cX6_peace 3 = .ok (.ldc2_w 98, 3) := by decide +kernel
theorem dX6_peace_6 : decode cX6_peace 6 = .ok (.invokestatic 79, 3) := by decide +kernel
theorem dX6_peace_9 : decode cX6_peace 9 = .ok (.ifCond .ne 5, 3) := by decide +kernel
theorem dX6_peace_12 : decode cX6_peace 12 = .ok (.iconst (-1), 1) := by decide +kernel
theorem dX6_peace_13 : decode cX6_peace 13 = .ok (.ireturn, 1) := by decide +kernel
theorem dX6_peace_14 : decode cX6_peace 14 = .ok (.aload_n 0, 1) := by decide +kernel
theorem dX6_peace_15 : decode cX6_peace 15 = .ok (.iconst 0, 1) := by decide +kernel
theorem dX6_peace_16 : decode cX6_peace 16 = .ok (.iconst 1, 1) := by decide +kernel
theorem dX6_peace_17 : decode cX6_peace 17 = .ok (.invokevirtual 203, 3) := by decide +kernel
theorem dX6_peace_20 : decode cX6_peace 20 = .ok (.aload_n 0, 1) := by decide +kernel
theorem dX6_peace_21 : decode cX6_peace 21 = .ok (.iconst 1, 1) := by decide +kernel
theorem dX6_peace_22 : decode cX6_peace 22 = .ok (.invokevirtual 206, 3) := by decide +kernel
theorem dX6_peace_25 : decode cX6_peace 25 = .ok (.istore_n 2, 1) := by decide +kernel
theorem dX6_peace_26 : decode cX6_peace 26 = .ok (.iconst 0, 1) := by decide +kernel
theorem dX6_peace_27 : decode cX6_peace 27 = .ok (.istore_n 3, 1) := by decide +kernel
theorem dX6_peace_28 : decode cX6_peace 28 = .ok (.iconst 0, 1) := by decide +kernel
theorem dX6_peace_29 : decode cX6_peace 29 = .ok (.istore 4, 2) := by decide +kernel
theorem dX6_peace_31 : decode cX6_peace 31 = .ok (.iload 4, 2) := by decide +kernel
theorem dX6_peace_33 : decode cX6_peace 33 = .ok (.bipush 8, 2) := by decide +kernel
theorem dX6_peace_35 : decode cX6_peace 35 = .ok (.if_icmp .ge 38, 3) := by decide +kernel
theorem dX6_peace_38 : decode cX6_peace 38 = .ok (.iload_n 3, 1) := by decide +kernel
theorem dX6_peace_39 : decode cX6_peace 39 = .ok (.aload_n 0, 1) := by decide +kernel
theorem dX6_peace_40 : decode cX6_peace 40 = .ok (.iconst 1, 1) := by decide +kernel
theorem dX6_peace_41 : decode cX6_peace 41 = .ok (.iload 4, 2) := by decide +kernel
theorem dX6_peace_43 : decode cX6_peace 43 = .ok (.invokevirtual 127, 3) := by decide +kernel
theorem dX6_peace_46 : decode cX6_peace 46 = .ok (.aload_n 0, 1) := by decide +kernel
theorem dX6_peace_47 : decode cX6_peace 47 = .ok (.iconst 1, 1) := by decide +kernel
theorem dX6_peace_48 : decode cX6_peace 48 = .ok (.iload 4, 2) := by decide +kernel
theorem dX6_peace_50 : decode cX6_peace 50 = .ok (.invokevirtual 177, 3) := by decide +kernel
theorem dX6_peace_53 : decode cX6_peace 53 = .ok (.iadd, 1) := by decide +kernel
theorem dX6_peace_54 : decode cX6_peace 54 = .ok (.ifCond .le 10, 3) := by decide +kernel
theorem dX6_peace_57 : decode cX6_peace 57 = .ok (.iconst 1, 1) := by decide +kernel
theorem dX6_peace_58 : decode cX6_peace 58 = .ok (.iload 4, 2) := by decide +kernel
theorem dX6_peace_60 : decode cX6_peace 60 = .ok (.ishl, 1) := by decide +kernel
theorem dX6_peace_61 : decode cX6_peace 61 = .ok (.goto 4, 3) := by decide +kernel
theorem dX6_peace_64 : decode cX6_peace 64 = .ok (.iconst 0, 1) := by decide +kernel
theorem dX6_peace_65 : decode cX6_peace 65 = .ok (.ior, 1) := by decide +kernel
theorem dX6_peace_66 : decode cX6_peace 66 = .ok (.istore_n 3, 1) := by decide +kernel
theorem dX6_peace_67 : decode cX6_peace 67 = .ok (.iinc 4 1, 3) := by decide +kernel
theorem dX6_peace_70 : decode cX6_peace 70 = .ok (.goto (-39), 3) := by decide +kernel
theorem dX6_peace_73 : decode cX6_peace 73 = .ok (.iload_n 1, 1) := by decide +kernel
theorem dX6_peace_74 : decode cX6_peace 74 = .ok (.ifCond .ne 7, 3) := by decide +kernel
theorem dX6_peace_77 : decode cX6_peace 77 = .ok (.iload_n 2, 1) := by decide +kernel
theorem dX6_peace_78 : decode cX6_peace 78 = .ok (.goto 17, 3) := by decide +kernel
theorem dX6_peace_81 : decode cX6_peace 81 = .ok (.iload_n 1, 1) := by decide +kernel
theorem dX6_peace_82 : decode cX6_peace 82 = .ok (.iconst 1, 1) := by decide +kernel
theorem dX6_peace_83 : decode cX6_peace 83 = .ok (.if_icmp .ne 11, 3) := by decide +kernel
theorem dX6_peace_86 : decode cX6_peace 86 = .ok (.aload_n 0, 1) := by decide +kernel
theorem dX6_peace_87 : decode cX6_peace 87 = .ok (.iconst 1, 1) := by decide +kernel
theorem dX6_peace_88 : decode cX6_peace 88 = .ok (.invokevirtual 209, 3) := by decide +kernel
theorem dX6_peace_91 : decode cX6_peace 91 = .ok (.goto 4, 3) := by decide +kernel
theorem dX6_peace_94 : decode cX6_peace 94 = .ok (.iload_n 3, 1) := by decide +kernel
theorem dX6_peace_95 : decode cX6_peace 95 = .ok (.ireturn, 1) := by decide +kernel
theorem dX6_layFar_0 : decode cX6_layFar 0 = .ok (.iconst 0, 1) := by decide +kernel
theorem dX6_layFar_1 : decode cX6_layFar 1 = .ok (.istore_n 2, 1) := by decide +kernel
theorem dX6_layFar_2 : decode cX6_layFar 2 = .ok (.iload_n 2, 1) := by decide +kernel
theorem dX6_layFar_3 : decode cX6_layFar 3 = .ok (.bipush 8, 2) := by decide +kernel
theorem dX6_layFar_5 : decode cX6_layFar 5 = .ok (.if_icmp .ge 26, 3) := by decide +kernel
theorem dX6_layFar_8 : decode cX6_layFar 8 = .ok (.aload_n 0, 1) := by decide +kernel
theorem dX6_layFar_9 : decode cX6_layFar 9 = .ok (.getfield 58, 3) := by decide +kernel
theorem dX6_layFar_12 : decode cX6_layFar 12 = .ok (.iload_n 2, 1) := by decide +kernel
theorem dX6_layFar_13 : decode cX6_layFar 13 = .ok (.iload_n 2, 1) := by decide +kernel
theorem dX6_layFar_14 : decode cX6_layFar 14 = .ok (.iload_n 1, 1) := by decide +kernel
theorem dX6_layFar_15 : decode cX6_layFar 15 = .ok (.if_icmp .ne 7, 3) := by decide +kernel
theorem dX6_layFar_18 : decode cX6_layFar 18 = .ok (.iconst 0, 1) := by decide +kernel
theorem dX6_layFar_19 : decode cX6_layFar 19 = .ok (.goto 5, 3) := by decide +kernel
theorem dX6_layFar_22 : decode cX6_layFar 22 = .ok (.bipush 99, 2) := by decide +kernel
theorem dX6_layFar_24 : decode cX6_layFar 24 = .ok (.iastore, 1) := by decide +kernel
theorem dX6_layFar_25 : decode cX6_layFar 25 = .ok (.iinc 2 1, 3) := by decide +kernel
theorem dX6_layFar_28 : decode cX6_layFar 28 = .ok (.goto (-26), 3) := by decide +kernel
theorem dX6_layFar_31 : decode cX6_layFar 31 = .ok (.iconst 0, 1) := by decide +kernel
theorem dX6_layFar_32 : decode cX6_layFar 32 = .ok (.istore_n 2, 1) := by decide +kernel
theorem dX6_layFar_33 : decode cX6_layFar 33 = .ok (.iload_n 2, 1) := by decide +kernel
theorem dX6_layFar_34 : decode cX6_layFar 34 = .ok (.bipush 8, 2) := by decide +kernel
theorem dX6_layFar_36 : decode cX6_layFar 36 = .ok (.if_icmp .ge 82, 3) := by decide +kernel
theorem dX6_layFar_39 : decode cX6_layFar 39 = .ok (.iconst 0, 1) := by decide +kernel
theorem dX6_layFar_40 : decode cX6_layFar 40 = .ok (.istore_n 3, 1) := by decide +kernel
theorem dX6_layFar_41 : decode cX6_layFar 41 = .ok (.iload_n 3, 1) := by decide +kernel
theorem dX6_layFar_42 : decode cX6_layFar 42 = .ok (.bipush 64, 2) := by decide +kernel
theorem dX6_layFar_44 : decode cX6_layFar 44 = .ok (.if_icmp .ge 68, 3) := by decide +kernel
theorem dX6_layFar_47 : decode cX6_layFar 47 = .ok (.aload_n 0, 1) := by decide +kernel
theorem dX6_layFar_48 : decode cX6_layFar 48 = .ok (.getfield 58, 3) := by decide +kernel
theorem dX6_layFar_51 : decode cX6_layFar 51 = .ok (.iload_n 3, 1) := by decide +kernel
theorem dX6_layFar_52 : decode cX6_layFar 52 = .ok (.bipush 8, 2) := by decide +kernel
theorem dX6_layFar_54 : decode cX6_layFar 54 = .ok (.irem, 1) := by decide +kernel
theorem dX6_layFar_55 : decode cX6_layFar 55 = .ok (.iaload, 1) := by decide +kernel
theorem dX6_layFar_56 : decode cX6_layFar 56 = .ok (.iconst 1, 1) := by decide +kernel
theorem dX6_layFar_57 : decode cX6_layFar 57 = .ok (.iadd, 1) := by decide +kernel
theorem dX6_layFar_58 : decode cX6_layFar 58 = .ok (.istore 4, 2) := by decide +kernel
theorem dX6_layFar_60 : decode cX6_layFar 60 = .ok (.aload_n 0, 1) := by decide +kernel
theorem dX6_layFar_61 : decode cX6_layFar 61 = .ok (.getfield 58, 3) := by decide +kernel
theorem dX6_layFar_64 : decode cX6_layFar 64 = .ok (.iload_n 3, 1) := by decide +kernel
theorem dX6_layFar_65 : decode cX6_layFar 65 = .ok (.bipush 8, 2) := by decide +kernel
theorem dX6_layFar_67 : decode cX6_layFar 67 = .ok (.idiv, 1) := by decide +kernel
theorem dX6_layFar_68 : decode cX6_layFar 68 = .ok (.aload_n 0, 1) := by decide +kernel
theorem dX6_layFar_69 : decode cX6_layFar 69 = .ok (.getfield 46, 3) := by decide +kernel
theorem dX6_layFar_72 : decode cX6_layFar 72 = .ok (.iload_n 3, 1) := by decide +kernel
theorem dX6_layFar_73 : decode cX6_layFar 73 = .ok (.iaload, 1) := by decide +kernel
theorem dX6_layFar_74 : decode cX6_layFar 74 = .ok (.ifCond .le 22, 3) := by decide +kernel
theorem dX6_layFar_77 : decode cX6_layFar 77 = .ok (.iload 4, 2) := by decide +kernel
theorem dX6_layFar_79 : decode cX6_layFar 79 = .ok (.aload_n 0, 1) := by decide +kernel
theorem dX6_layFar_80 : decode cX6_layFar 80 = .ok (.getfield 58, 3) := by decide +kernel
theorem dX6_layFar_83 : decode cX6_layFar 83 = .ok (.iload_n 3, 1) := by decide +kernel
theorem dX6_layFar_84 : decode cX6_layFar 84 = .ok (.bipush 8, 2) := by decide +kernel
theorem dX6_layFar_86 : decode cX6_layFar 86 = .ok (.idiv, 1) := by decide +kernel
theorem dX6_layFar_87 : decode cX6_layFar 87 = .ok (.iaload, 1) := by decide +kernel
theorem dX6_layFar_88 : decode cX6_layFar 88 = .ok (.if_icmp .ge 8, 3) := by decide +kernel
theorem dX6_layFar_91 : decode cX6_layFar 91 = .ok (.iload 4, 2) := by decide +kernel
theorem dX6_layFar_93 : decode cX6_layFar 93 = .ok (.goto 12, 3) := by decide +kernel
theorem dX6_layFar_96 : decode cX6_layFar 96 = .ok (.aload_n 0, 1) := by decide +kernel
theorem dX6_layFar_97 : decode cX6_layFar 97 = .ok (.getfield 58, 3) := by decide +kernel
theorem dX6_layFar_100 : decode cX6_layFar 100 = .ok (.iload_n 3, 1) := by decide +kernel
theorem dX6_layFar_101 : decode cX6_layFar 101 = .ok (.bipush 8, 2) := by decide +kernel
theorem dX6_layFar_103 : decode cX6_layFar 103 = .ok (.idiv, 1) := by decide +kernel
theorem dX6_layFar_104 : decode cX6_layFar 104 = .ok (.iaload, 1) := by decide +kernel
theorem dX6_layFar_105 : decode cX6_layFar 105 = .ok (.iastore, 1) := by decide +kernel
theorem dX6_layFar_106 : decode cX6_layFar 106 = .ok (.iinc 3 1, 3) := by decide +kernel
theorem dX6_layFar_109 : decode cX6_layFar 109 = .ok (.goto (-68), 3) := by decide +kernel
theorem dX6_layFar_112 : decode cX6_layFar 112 = .ok (.iinc 2 1, 3) := by decide +kernel
theorem dX6_layFar_115 : decode cX6_layFar 115 = .ok (.goto (-82), 3) := by decide +kernel
theorem dX6_layFar_118 : decode cX6_layFar 118 = .ok (.return_, 1) := by decide +kernel
set_option maxRecDepth 20000 in
theorem ggX6_ring_X6_isPerson : GoodIn wsX6_ring wsX6_isPerson := goodIn_r _ [6, 7, 8, 9, 5, 10, 20, 21, 22, 23, 24, 25, 26, 27, 28, 29, 30, 31, 32, 33, 34, 35, 36, 37, 38, 39, 40, 41] (by decide +kernel) (by decide +kernel)
set_option maxRecDepth 20000 in
theorem gX6_ring_X6_isPerson : GoodIn wsX6_ring (wsV RX6 120 RX6 yX6_isPerson wsX6_isPerson) := goodIn_app (goodIn_of _ (by decide +kernel)) ggX6_ring_X6_isPerson
set_option maxRecDepth 20000 in
theorem ggX6_ring_X6_in : GoodIn wsX6_ring wsX6_in := goodIn_r _ [10] (by decide +kernel) (by decide +kernel)
set_option maxRecDepth 20000 in
theorem gX6_ring_X6_in : GoodIn wsX6_ring (va_wsS RX6 79 yX6_in wsX6_in) := goodIn_app (goodIn_of _ (by decide +kernel)) ggX6_ring_X6_in
set_option maxRecDepth 20000 in
theorem ggX6_ring_X6_layFar : GoodIn wsX6_ring wsX6_layFar := goodIn_r _ [14, 1, 15, 20, 21, 22, 23, 24, 25, 26, 27, 28, 29, 30, 31, 32, 33, 34, 35, 36, 37, 38, 39, 40, 41] (by decide +kernel) (by decide +kernel)
set_option maxRecDepth 20000 in
theorem gX6_ring_X6_layFar : GoodIn wsX6_ring (wsV RX6 212 RX6 yX6_layFar wsX6_layFar) := goodIn_app (goodIn_of _ (by decide +kernel)) ggX6_ring_X6_layFar
set_option maxRecDepth 20000 in
theorem ggX6_ring_X6_debt : GoodIn wsX6_ring wsX6_debt := goodIn_r _ [19, 15, 20, 21, 22, 23, 24, 25, 26, 27, 28, 29, 30, 31, 32, 33, 34, 35, 36, 37, 38, 39, 40, 41] (by decide +kernel) (by decide +kernel)
set_option maxRecDepth 20000 in
theorem gX6_ring_X6_debt : GoodIn wsX6_ring (wsV RX6 123 RX6 yX6_debt wsX6_debt) := goodIn_app (goodIn_of _ (by decide +kernel)) ggX6_ring_X6_debt
theorem dX6_ring_0 : decode cX6_ring 0 = .ok (.aload_n 0, 1) := by decide +kernel
theorem dX6_ring_1 : decode cX6_ring 1 = .ok (.iload_n 1, 1) := by decide +kernel
theorem dX6_ring_2 : decode cX6_ring 2 = .ok (.invokevirtual 120, 3) := by decide +kernel
theorem dX6_ring_5 : decode cX6_ring 5 = .ok (.ifCond .eq 13, 3) := by decide +kernel
theorem dX6_ring_8 : decode cX6_ring 8 = .ok (.iload_n 2, 1) := by decide +kernel
theorem dX6_ring_9 : decode cX6_ring 9 = .ok (.i2l, 1) := by decide +kernel
theorem dX6_ring_10 : decode cX6_ring 10 = .ok (.lconst 0, 1) := by decide +kernel
theorem dX6_ring_11 : decode cX6_ring 11 = .ok (.lconst 1, 1) := by decide +kernel
theorem dX6_ring_12 : decode cX6_ring 12 = .ok (.invokestatic 79, 3) := by decide +kernel
theorem dX6_ring_15 : decode cX6_ring 15 = .ok (.ifCond .ne 5, 3) := by decide +kernel
theorem dX6_ring_18 : decode cX6_ring 18 = .ok (.iconst (-1), 1) := by decide +kernel
theorem dX6_ring_19 : decode cX6_ring 19 = .ok (.ireturn, 1) := by decide +kernel
theorem dX6_ring_20 : decode cX6_ring 20 = .ok (.aload_n 0, 1) := by decide +kernel
theorem dX6_ring_21 : decode cX6_ring 21 = .ok (.iload_n 1, 1) := by decide +kernel
theorem dX6_ring_22 : decode cX6_ring 22 = .ok (.invokevirtual 212, 3) := by decide +kernel
theorem dX6_ring_25 : decode cX6_ring 25 = .ok (.bipush 99, 2) := by decide +kernel
theorem dX6_ring_27 : decode cX6_ring 27 = .ok (.istore_n 3, 1) := by decide +kernel
theorem dX6_ring_28 : decode cX6_ring 28 = .ok (.bipush (-4), 2) := by decide +kernel
theorem dX6_ring_30 : decode cX6_ring 30 = .ok (.istore 4, 2) := by decide +kernel
theorem dX6_ring_32 : decode cX6_ring 32 = .ok (.iconst 0, 1) := by decide +kernel
theorem dX6_ring_33 : decode cX6_ring 33 = .ok (.istore 5, 2) := by decide +kernel
theorem dX6_ring_35 : decode cX6_ring 35 = .ok (.iload 5, 2) := by decide +kernel
theorem dX6_ring_37 : decode cX6_ring 37 = .ok (.bipush 8, 2) := by decide +kernel
theorem dX6_ring_39 : decode cX6_ring 39 = .ok (.if_icmp .ge 47, 3) := by decide +kernel
theorem dX6_ring_42 : decode cX6_ring 42 = .ok (.aload_n 0, 1) := by decide +kernel
theorem dX6_ring_43 : decode cX6_ring 43 = .ok (.iconst 0, 1) := by decide +kernel
theorem dX6_ring_44 : decode cX6_ring 44 = .ok (.iload_n 1, 1) := by decide +kernel
theorem dX6_ring_45 : decode cX6_ring 45 = .ok (.iload 5, 2) := by decide +kernel
theorem dX6_ring_47 : decode cX6_ring 47 = .ok (.invokevirtual 123, 3) := by decide +kernel
theorem dX6_ring_50 : decode cX6_ring 50 = .ok (.ifCond .le 30, 3) := by decide +kernel
theorem dX6_ring_53 : decode cX6_ring 53 = .ok (.aload_n 0, 1) := by decide +kernel
theorem dX6_ring_54 : decode cX6_ring 54 = .ok (.getfield 58, 3) := by decide +kernel
theorem dX6_ring_57 : decode cX6_ring 57 = .ok (.iload 5, 2) := by decide +kernel
theorem dX6_ring_59 : decode cX6_ring 59 = .ok (.iaload, 1) := by decide +kernel
theorem dX6_ring_60 : decode cX6_ring 60 = .ok (.iconst 1, 1) := by decide +kernel
theorem dX6_ring_61 : decode cX6_ring 61 = .ok (.iadd, 1) := by decide +kernel
theorem dX6_ring_62 : decode cX6_ring 62 = .ok (.iload_n 3, 1) := by decide +kernel
theorem dX6_ring_63 : decode cX6_ring 63 = .ok (.if_icmp .ge 17, 3) := by decide +kernel
theorem dX6_ring_66 : decode cX6_ring 66 = .ok (.aload_n 0, 1) := by decide +kernel
theorem dX6_ring_67 : decode cX6_ring 67 = .ok (.getfield 58, 3) := by decide +kernel
theorem dX6_ring_70 : decode cX6_ring 70 = .ok (.iload 5, 2) := by decide +kernel
theorem dX6_ring_72 : decode cX6_ring 72 = .ok (.iaload, 1) := by decide +kernel
theorem dX6_ring_73 : decode cX6_ring 73 = .ok (.iconst 1, 1) := by decide +kernel
theorem dX6_ring_74 : decode cX6_ring 74 = .ok (.iadd, 1) := by decide +kernel
theorem dX6_ring_75 : decode cX6_ring 75 = .ok (.istore_n 3, 1) := by decide +kernel
theorem dX6_ring_76 : decode cX6_ring 76 = .ok (.iload 5, 2) := by decide +kernel
theorem dX6_ring_78 : decode cX6_ring 78 = .ok (.istore 4, 2) := by decide +kernel
theorem dX6_ring_80 : decode cX6_ring 80 = .ok (.iinc 5 1, 3) := by decide +kernel
theorem dX6_ring_83 : decode cX6_ring 83 = .ok (.goto (-48), 3) := by decide +kernel
theorem dX6_ring_86 : decode cX6_ring 86 = .ok (.iload 4, 2) := by decide +kernel
theorem dX6_ring_88 : decode cX6_ring 88 = .ok (.ifCond .lt 8, 3) := by decide +kernel
theorem dX6_ring_91 : decode cX6_ring 91 = .ok (.iload_n 2, 1) := by decide +kernel
theorem dX6_ring_92 : decode cX6_ring 92 = .ok (.iconst 1, 1) := by decide +kernel
theorem dX6_ring_93 : decode cX6_ring 93 = .ok (.if_icmp .ne 8, 3) := by decide +kernel
theorem dX6_ring_96 : decode cX6_ring 96 = .ok (.iload 4, 2) := by decide +kernel
theorem dX6_ring_98 : decode cX6_ring 98 = .ok (.goto 4, 3) := by decide +kernel
theorem dX6_ring_101 : decode cX6_ring 101 = .ok (.iload_n 3, 1) := by decide +kernel
theorem dX6_ring_102 : decode cX6_ring 102 = .ok (.ireturn, 1) := by decide +kernel
set_option maxRecDepth 20000 in
theorem ggX6_forgiven_X6_in : GoodIn wsX6_forgiven wsX6_in := goodIn_r _ [5] (by decide +kernel) (by decide +kernel)
set_option maxRecDepth 20000 in
theorem gX6_forgiven_X6_in : GoodIn wsX6_forgiven (va_wsS RX6 79 yX6_in wsX6_in) := goodIn_app (goodIn_of _ (by decide +kernel)) ggX6_forgiven_X6_in
set_option maxRecDepth 20000 in
theorem ggX6_forgiven_X6_copy : GoodIn wsX6_forgiven wsX6_copy := goodIn_r _ [9, 1, 10, 11, 12, 85, 86, 87, 88, 89, 90, 91, 92, 93, 94, 95, 96, 97, 98, 99, 100, 101, 102, 103, 104, 105, 106] (by decide +kernel) (by decide +kernel)
set_option maxRecDepth 20000 in
theorem gX6_forgiven_X6_copy : GoodIn wsX6_forgiven (wsV RX6 203 RX6 yX6_copy wsX6_copy) := goodIn_app (goodIn_of _ (by decide +kernel)) ggX6_forgiven_X6_copy
set_option maxRecDepth 20000 in
theorem ggX6_forgiven_X6_owedBehind : GoodIn wsX6_forgiven wsX6_owedBehind := goodIn_r _ [16, 6, 7, 8, 4, 9, 1, 10, 11, 12, 17, 18, 19, 20, 21, 22, 23, 24, 25, 26, 27, 28, 29, 30, 31, 32, 33, 34, 35, 36, 37, 38, 39, 40, 41, 42, 43, 44, 45, 46, 47, 48, 49, 50, 51, 52, 53, 54, 55, 56, 57, 58, 59, 60, 61, 62, 63, 64, 65, 66, 67, 68, 69, 70, 71, 72, 73, 74, 75, 76, 77, 78, 79, 80, 81, 82, 83, 84, 85, 86, 87, 88, 89, 90, 91, 92, 93, 94, 95, 96, 97, 98, 99, 100, 101, 102, 103, 104, 105, 106] (by decide +kernel) (by decide +kernel)
set_option maxRecDepth 20000 in
theorem gX6_forgiven_X6_owedBehind : GoodIn wsX6_forgiven (wsV RX6 215 RX6 yX6_owedBehind wsX6_owedBehind) := goodIn_app (goodIn_of _ (by decide +kernel)) ggX6_forgiven_X6_owedBehind
theorem dX6_forgiven_0 : decode cX6_forgiven 0 = .ok (.iload_n 1, 1) := by decide +kernel
theorem dX6_forgiven_1 : decode cX6_forgiven 1 = .ok (.i2l, 1) := by decide +kernel
theorem dX6_forgiven_2 : decode cX6_forgiven 2 = .ok (.lconst 0, 1) := by decide +kernel
theorem dX6_forgiven_3 : decode cX6_forgiven 3 = .ok (.lconst 1, 1) := by decide +kernel
theorem dX6_forgiven_4 : decode cX6_forgiven 4 = .ok (.invokestatic 79, 3) := by decide +kernel
theorem dX6_forgiven_7 : decode cX6_forgiven 7 = .ok (.ifCond .ne 5, 3) := by decide +kernel
theorem dX6_forgiven_10 : decode cX6_forgiven 10 = .ok (.iconst (-1), 1) := by decide +kernel
theorem dX6_forgiven_11 : decode cX6_forgiven 11 = .ok (.ireturn, 1) := by decide +kernel
theorem dX6_forgiven_12 : decode cX6_forgiven 12 = .ok (.bipush (-4), 2) := by decide +kernel
theorem dX6_forgiven_14 : decode cX6_forgiven 14 = .ok (.istore_n 2, 1) := by decide +kernel
theorem dX6_forgiven_15 : decode cX6_forgiven 15 = .ok (.iconst 0, 1) := by decide +kernel
theorem dX6_forgiven_16 : decode cX6_forgiven 16 = .ok (.istore_n 3, 1) := by decide +kernel
theorem dX6_forgiven_17 : decode cX6_forgiven 17 = .ok (.iconst 0, 1) := by decide +kernel
theorem dX6_forgiven_18 : decode cX6_forgiven 18 = .ok (.istore 4, 2) := by decide +kernel
theorem dX6_forgiven_20 : decode cX6_forgiven 20 = .ok (.iload 4, 2) := by decide +kernel
theorem dX6_forgiven_22 : decode cX6_forgiven 22 = .ok (.bipush 64, 2) := by decide +kernel
theorem dX6_forgiven_24 : decode cX6_forgiven 24 = .ok (.if_icmp .ge 59, 3) := by decide +kernel
theorem dX6_forgiven_27 : decode cX6_forgiven 27 = .ok (.aload_n 0, 1) := by decide +kernel
theorem dX6_forgiven_28 : decode cX6_forgiven 28 = .ok (.getfield 46, 3) := by decide +kernel
theorem dX6_forgiven_31 : decode cX6_forgiven 31 = .ok (.iload 4, 2) := by decide +kernel
theorem dX6_forgiven_33 : decode cX6_forgiven 33 = .ok (.iaload, 1) := by decide +kernel
theorem dX6_forgiven_34 : decode cX6_forgiven 34 = .ok (.ifCond .le 43, 3) := by decide +kernel
theorem dX6_forgiven_37 : decode cX6_forgiven 37 = .ok (.aload_n 0, 1) := by decide +kernel
theorem dX6_forgiven_38 : decode cX6_forgiven 38 = .ok (.iconst 0, 1) := by decide +kernel
theorem dX6_forgiven_39 : decode cX6_forgiven 39 = .ok (.iconst 1, 1) := by decide +kernel
theorem dX6_forgiven_40 : decode cX6_forgiven 40 = .ok (.invokevirtual 203, 3) := by decide +kernel
theorem dX6_forgiven_43 : decode cX6_forgiven 43 = .ok (.aload_n 0, 1) := by decide +kernel
theorem dX6_forgiven_44 : decode cX6_forgiven 44 = .ok (.getfield 46, 3) := by decide +kernel
theorem dX6_forgiven_47 : decode cX6_forgiven 47 = .ok (.bipush 64, 2) := by decide +kernel
theorem dX6_forgiven_49 : decode cX6_forgiven 49 = .ok (.iload 4, 2) := by decide +kernel
theorem dX6_forgiven_51 : decode cX6_forgiven 51 = .ok (.iadd, 1) := by decide +kernel
theorem dX6_forgiven_52 : decode cX6_forgiven 52 = .ok (.iconst 0, 1) := by decide +kernel
theorem dX6_forgiven_53 : decode cX6_forgiven 53 = .ok (.iastore, 1) := by decide +kernel
theorem dX6_forgiven_54 : decode cX6_forgiven 54 = .ok (.aload_n 0, 1) := by decide +kernel
theorem dX6_forgiven_55 : decode cX6_forgiven 55 = .ok (.iconst 1, 1) := by decide +kernel
theorem dX6_forgiven_56 : decode cX6_forgiven 56 = .ok (.invokevirtual 215, 3) := by decide +kernel
theorem dX6_forgiven_59 : decode cX6_forgiven 59 = .ok (.istore 5, 2) := by decide +kernel
theorem dX6_forgiven_61 : decode cX6_forgiven 61 = .ok (.iload_n 2, 1) := by decide +kernel
theorem dX6_forgiven_62 : decode cX6_forgiven 62 = .ok (.ifCond .lt 9, 3) := by decide +kernel
theorem dX6_forgiven_65 : decode cX6_forgiven 65 = .ok (.iload 5, 2) := by decide +kernel
theorem dX6_forgiven_67 : decode cX6_forgiven 67 = .ok (.iload_n 3, 1) := by decide +kernel
theorem dX6_forgiven_68 : decode cX6_forgiven 68 = .ok (.if_icmp .ge 9, 3) := by decide +kernel
theorem dX6_forgiven_71 : decode cX6_forgiven 71 = .ok (.iload 4, 2) := by decide +kernel
theorem dX6_forgiven_73 : decode cX6_forgiven 73 = .ok (.istore_n 2, 1) := by decide +kernel
theorem dX6_forgiven_74 : decode cX6_forgiven 74 = .ok (.iload 5, 2) := by decide +kernel
theorem dX6_forgiven_76 : decode cX6_forgiven 76 = .ok (.istore_n 3, 1) := by decide +kernel
theorem dX6_forgiven_77 : decode cX6_forgiven 77 = .ok (.iinc 4 1, 3) := by decide +kernel
theorem dX6_forgiven_80 : decode cX6_forgiven 80 = .ok (.goto (-60), 3) := by decide +kernel
theorem dX6_forgiven_83 : decode cX6_forgiven 83 = .ok (.iload_n 2, 1) := by decide +kernel
theorem dX6_forgiven_84 : decode cX6_forgiven 84 = .ok (.ifCond .lt 7, 3) := by decide +kernel
theorem dX6_forgiven_87 : decode cX6_forgiven 87 = .ok (.iload_n 1, 1) := by decide +kernel
theorem dX6_forgiven_88 : decode cX6_forgiven 88 = .ok (.ifCond .ne 7, 3) := by decide +kernel
theorem dX6_forgiven_91 : decode cX6_forgiven 91 = .ok (.iload_n 2, 1) := by decide +kernel
theorem dX6_forgiven_92 : decode cX6_forgiven 92 = .ok (.goto 4, 3) := by decide +kernel
theorem dX6_forgiven_95 : decode cX6_forgiven 95 = .ok (.iload_n 3, 1) := by decide +kernel
theorem dX6_forgiven_96 : decode cX6_forgiven 96 = .ok (.ireturn, 1) := by decide +kernel
set_option maxRecDepth 20000 in
theorem ggX6_mustNot_X6_isPerson : GoodIn wsX6_mustNot wsX6_isPerson := goodIn_r _ [6, 1, 7, 8, 5, 9, 94, 95, 96, 97, 98, 99, 100, 101, 102, 103, 104, 105, 106, 107, 108, 109, 110, 111, 112, 113, 114, 115] (by decide +kernel) (by decide +kernel)
set_option maxRecDepth 20000 in
theorem gX6_mustNot_X6_isPerson : GoodIn wsX6_mustNot (wsV RX6 120 RX6 yX6_isPerson wsX6_isPerson) := goodIn_app (goodIn_of _ (by decide +kernel)) ggX6_mustNot_X6_isPerson
set_option maxRecDepth 20000 in
theorem ggX6_mustNot_X6_isAlive : GoodIn wsX6_mustNot wsX6_isAlive := goodIn_r _ [13, 14, 15, 16, 5, 17, 94, 95, 96, 97, 98, 99, 100, 101, 102, 103, 104, 105, 106, 107, 108, 109, 110, 111, 112, 113, 114, 115] (by decide +kernel) (by decide +kernel)
set_option maxRecDepth 20000 in
theorem gX6_mustNot_X6_isAlive : GoodIn wsX6_mustNot (wsV RX6 135 RX6 yX6_isAlive wsX6_isAlive) := goodIn_app (goodIn_of _ (by decide +kernel)) ggX6_mustNot_X6_isAlive
set_option maxRecDepth 20000 in
theorem ggX6_mustNot_X6_owedBehind : GoodIn wsX6_mustNot wsX6_owedBehind := goodIn_r _ [21, 22, 23, 24, 5, 25, 26, 14, 27, 28, 29, 30, 31, 32, 33, 34, 35, 36, 37, 38, 39, 40, 41, 42, 43, 44, 45, 46, 47, 48, 49, 10, 11, 12, 13, 15, 16, 17, 50, 51, 52, 53, 54, 55, 56, 57, 58, 59, 60, 61, 62, 63, 64, 65, 66, 67, 68, 69, 70, 71, 72, 73, 74, 75, 76, 77, 78, 79, 80, 81, 82, 83, 84, 85, 86, 87, 88, 89, 94, 95, 96, 97, 98, 99, 100, 101, 102, 103, 104, 105, 106, 107, 108, 109, 110, 111, 112, 113, 114, 115] (by decide +kernel) (by decide +kernel)
set_option maxRecDepth 20000 in
theorem gX6_mustNot_X6_owedBehind : GoodIn wsX6_mustNot (wsV RX6 215 RX6 yX6_owedBehind wsX6_owedBehind) := goodIn_app (goodIn_of _ (by decide +kernel)) ggX6_mustNot_X6_owedBehind
set_option maxRecDepth 20000 in
theorem ggX6_mustNot_X6_canDo : GoodIn wsX6_mustNot wsX6_canDo := goodIn_r _ [93, 10, 11, 12, 5, 13, 14, 15, 16, 17, 41, 42, 43, 44, 26, 37, 38, 39, 40, 45, 46, 47, 48, 49, 50, 51, 52, 53, 62, 63, 64, 65, 94, 95, 96, 97, 98, 99, 100, 101, 102, 103, 104, 105, 106, 107, 108, 109, 110, 111, 112, 113, 114, 115] (by decide +kernel) (by decide +kernel)
set_option maxRecDepth 20000 in
theorem gX6_mustNot_X6_canDo : GoodIn wsX6_mustNot (wsV RX6 165 RX6 yX6_canDo wsX6_canDo) := goodIn_app (goodIn_of _ (by decide +kernel)) ggX6_mustNot_X6_canDo
set_option maxRecDepth 20000 in
theorem ggX6_mustNot_X6_copy : GoodIn wsX6_mustNot wsX6_copy := goodIn_r _ [25, 26, 14, 27, 28, 94, 95, 96, 97, 98, 99, 100, 101, 102, 103, 104, 105, 106, 107, 108, 109, 110, 111, 112, 113, 114, 115] (by decide +kernel) (by decide +kernel)
set_option maxRecDepth 20000 in
theorem gX6_mustNot_X6_copy : GoodIn wsX6_mustNot (wsV RX6 203 RX6 yX6_copy wsX6_copy) := goodIn_app (goodIn_of _ (by decide +kernel)) ggX6_mustNot_X6_copy
set_option maxRecDepth 20000 in
theorem ggX6_mustNot_X6_doAct : GoodIn wsX6_mustNot wsX6_doAct := goodIn_r _ [69, 41, 42, 43, 5, 44, 26, 70, 71, 72, 73, 54, 55, 56, 57, 49, 27, 74, 75, 76, 77, 78, 79, 80, 81, 14, 82, 83, 84, 85, 28, 10, 11, 12, 13, 15, 16, 17, 94, 95, 96, 97, 98, 99, 100, 101, 102, 103, 104, 105, 106, 107, 108, 109, 110, 111, 112, 113, 114, 115] (by decide +kernel) (by decide +kernel)
set_option maxRecDepth 20000 in
theorem gX6_mustNot_X6_doAct : GoodIn wsX6_mustNot (wsV RX6 169 RX6 yX6_doAct wsX6_doAct) := goodIn_app (goodIn_of _ (by decide +kernel)) ggX6_mustNot_X6_doAct
theorem dX6_mustNot_0 : decode cX6_mustNot 0 = .ok (.aload_n 0, 1) := by decide +kernel
theorem dX6_mustNot_1 : decode cX6_mustNot 1 = .ok (.iload_n 1, 1) := by decide +kernel
theorem dX6_mustNot_2 : decode cX6_mustNot 2 = .ok (.invokevirtual 120, 3) := by decide +kernel
theorem dX6_mustNot_5 : decode cX6_mustNot 5 = .ok (.ifCond .ne 5, 3) := by decide +kernel
theorem dX6_mustNot_8 : decode cX6_mustNot 8 = .ok (.iconst (-1), 1) := by decide +kernel
theorem dX6_mustNot_9 : decode cX6_mustNot 9 = .ok (.ireturn, 1) := by decide +kernel
theorem dX6_mustNot_10 : decode cX6_mustNot 10 = .ok (.aload_n 0, 1) := by decide +kernel
theorem dX6_mustNot_11 : decode cX6_mustNot 11 = .ok (.iconst 0, 1) := by decide +kernel
theorem dX6_mustNot_12 : decode cX6_mustNot 12 = .ok (.iload_n 1, 1) := by decide +kernel
theorem dX6_mustNot_13 : decode cX6_mustNot 13 = .ok (.invokevirtual 135, 3) := by decide +kernel
theorem dX6_mustNot_16 : decode cX6_mustNot 16 = .ok (.ifCond .ne 6, 3) := by decide +kernel
theorem dX6_mustNot_19 : decode cX6_mustNot 19 = .ok (.bipush (-2), 2) := by decide +kernel
theorem dX6_mustNot_21 : decode cX6_mustNot 21 = .ok (.ireturn, 1) := by decide +kernel
theorem dX6_mustNot_22 : decode cX6_mustNot 22 = .ok (.aload_n 0, 1) := by decide +kernel
theorem dX6_mustNot_23 : decode cX6_mustNot 23 = .ok (.iconst 0, 1) := by decide +kernel
theorem dX6_mustNot_24 : decode cX6_mustNot 24 = .ok (.invokevirtual 215, 3) := by decide +kernel
theorem dX6_mustNot_27 : decode cX6_mustNot 27 = .ok (.istore_n 2, 1) := by decide +kernel
theorem dX6_mustNot_28 : decode cX6_mustNot 28 = .ok (.iconst 0, 1) := by decide +kernel
theorem dX6_mustNot_29 : decode cX6_mustNot 29 = .ok (.istore_n 3, 1) := by decide +kernel
theorem dX6_mustNot_30 : decode cX6_mustNot 30 = .ok (.iconst 0, 1) := by decide +kernel
theorem dX6_mustNot_31 : decode cX6_mustNot 31 = .ok (.istore 4, 2) := by decide +kernel
theorem dX6_mustNot_33 : decode cX6_mustNot 33 = .ok (.iload 4, 2) := by decide +kernel
theorem dX6_mustNot_35 : decode cX6_mustNot 35 = .ok (.aload_n 0, 1) := by decide +kernel
theorem dX6_mustNot_36 : decode cX6_mustNot 36 = .ok (.getfield 13, 3) := by decide +kernel
theorem dX6_mustNot_39 : decode cX6_mustNot 39 = .ok (.iconst 0, 1) := by decide +kernel
theorem dX6_mustNot_40 : decode cX6_mustNot 40 = .ok (.iaload, 1) := by decide +kernel
theorem dX6_mustNot_41 : decode cX6_mustNot 41 = .ok (.if_icmp .ge 62, 3) := by decide +kernel
theorem dX6_mustNot_44 : decode cX6_mustNot 44 = .ok (.iload_n 1, 1) := by decide +kernel
theorem dX6_mustNot_45 : decode cX6_mustNot 45 = .ok (.iload 4, 2) := by decide +kernel
theorem dX6_mustNot_47 : decode cX6_mustNot 47 = .ok (.if_icmp .eq 50, 3) := by decide +kernel
theorem dX6_mustNot_50 : decode cX6_mustNot 50 = .ok (.aload_n 0, 1) := by decide +kernel
theorem dX6_mustNot_51 : decode cX6_mustNot 51 = .ok (.iconst 0, 1) := by decide +kernel
theorem dX6_mustNot_52 : decode cX6_mustNot 52 = .ok (.iconst 0, 1) := by decide +kernel
theorem dX6_mustNot_53 : decode cX6_mustNot 53 = .ok (.iload_n 1, 1) := by decide +kernel
theorem dX6_mustNot_54 : decode cX6_mustNot 54 = .ok (.iload 4, 2) := by decide +kernel
theorem dX6_mustNot_56 : decode cX6_mustNot 56 = .ok (.invokevirtual 165, 3) := by decide +kernel
theorem dX6_mustNot_59 : decode cX6_mustNot 59 = .ok (.ifCond .eq 38, 3) := by decide +kernel
theorem dX6_mustNot_62 : decode cX6_mustNot 62 = .ok (.aload_n 0, 1) := by decide +kernel
theorem dX6_mustNot_63 : decode cX6_mustNot 63 = .ok (.iconst 0, 1) := by decide +kernel
theorem dX6_mustNot_64 : decode cX6_mustNot 64 = .ok (.iconst 1, 1) := by decide +kernel
theorem dX6_mustNot_65 : decode cX6_mustNot 65 = .ok (.invokevirtual 203, 3) := by decide +kernel
theorem dX6_mustNot_68 : decode cX6_mustNot 68 = .ok (.aload_n 0, 1) := by decide +kernel
theorem dX6_mustNot_69 : decode cX6_mustNot 69 = .ok (.iconst 1, 1) := by decide +kernel
theorem dX6_mustNot_70 : decode cX6_mustNot 70 = .ok (.iconst 0, 1) := by decide +kernel
theorem dX6_mustNot_71 : decode cX6_mustNot 71 = .ok (.iload_n 1, 1) := by decide +kernel
theorem dX6_mustNot_72 : decode cX6_mustNot 72 = .ok (.iload 4, 2) := by decide +kernel
theorem dX6_mustNot_74 : decode cX6_mustNot 74 = .ok (.invokevirtual 169, 3) := by decide +kernel
theorem dX6_mustNot_77 : decode cX6_mustNot 77 = .ok (.iload_n 3, 1) := by decide +kernel
theorem dX6_mustNot_78 : decode cX6_mustNot 78 = .ok (.aload_n 0, 1) := by decide +kernel
theorem dX6_mustNot_79 : decode cX6_mustNot 79 = .ok (.iconst 1, 1) := by decide +kernel
theorem dX6_mustNot_80 : decode cX6_mustNot 80 = .ok (.invokevirtual 215, 3) := by decide +kernel
theorem dX6_mustNot_83 : decode cX6_mustNot 83 = .ok (.iload_n 2, 1) := by decide +kernel
theorem dX6_mustNot_84 : decode cX6_mustNot 84 = .ok (.if_icmp .le 10, 3) := by decide +kernel
theorem dX6_mustNot_87 : decode cX6_mustNot 87 = .ok (.iconst 1, 1) := by decide +kernel
theorem dX6_mustNot_88 : decode cX6_mustNot 88 = .ok (.iload 4, 2) := by decide +kernel
theorem dX6_mustNot_90 : decode cX6_mustNot 90 = .ok (.ishl, 1) := by decide +kernel
theorem dX6_mustNot_91 : decode cX6_mustNot 91 = .ok (.goto 4, 3) := by decide +kernel
theorem dX6_mustNot_94 : decode cX6_mustNot 94 = .ok (.iconst 0, 1) := by decide +kernel
theorem dX6_mustNot_95 : decode cX6_mustNot 95 = .ok (.ior, 1) := by decide +kernel
theorem dX6_mustNot_96 : decode cX6_mustNot 96 = .ok (.istore_n 3, 1) := by decide +kernel
theorem dX6_mustNot_97 : decode cX6_mustNot 97 = .ok (.iinc 4 1, 3) := by decide +kernel
theorem dX6_mustNot_100 : decode cX6_mustNot 100 = .ok (.goto (-67), 3) := by decide +kernel
theorem dX6_mustNot_103 : decode cX6_mustNot 103 = .ok (.iload_n 3, 1) := by decide +kernel
theorem dX6_mustNot_104 : decode cX6_mustNot 104 = .ok (.ireturn, 1) := by decide +kernel
set_option maxRecDepth 20000 in
theorem ggX6_began_X6_owedBehind : GoodIn wsX6_began wsX6_owedBehind := goodIn_r _ [6, 7, 8, 9, 5, 10, 11, 12, 13, 14, 15, 16, 17, 18, 19, 20, 21, 22, 23, 24, 25, 26, 27, 28, 29, 30, 31, 32, 33, 34, 35, 36, 37, 38, 39, 40, 41, 42, 43, 44, 45, 46, 47, 48, 49, 50, 51, 52, 53, 54, 55, 56, 57, 58, 59, 60, 61, 62, 63, 64, 65, 66, 67, 68, 69, 70, 71, 72, 73, 74, 75, 76, 77, 78, 79, 80, 81, 82, 96, 97, 98, 99, 100, 101, 102, 103, 104, 105, 106, 107, 108, 109, 110, 111, 112, 113, 114, 115, 116, 117] (by decide +kernel) (by decide +kernel)
set_option maxRecDepth 20000 in
theorem gX6_began_X6_owedBehind : GoodIn wsX6_began (wsV RX6 215 RX6 yX6_owedBehind wsX6_owedBehind) := goodIn_app (goodIn_of _ (by decide +kernel)) ggX6_began_X6_owedBehind
set_option maxRecDepth 20000 in
theorem ggX6_began_X6_beginBut : GoodIn wsX6_began wsX6_beginBut := goodIn_r _ [86, 11, 87, 12, 88, 13, 14, 1, 89, 90, 91, 92, 93, 94, 5, 95, 36, 37, 38, 39, 40, 41, 42, 27, 28, 29, 30, 23, 24, 25, 26, 31, 32, 33, 34, 35, 43, 44, 45, 46, 55, 56, 57, 58, 59, 60, 61, 62, 63, 64, 65, 66, 47, 48, 49, 50, 67, 68, 69, 70, 71, 72, 73, 74, 75, 76, 77, 78, 96, 97, 98, 99, 100, 101, 102, 103, 104, 105, 106, 107, 108, 109, 110, 111, 112, 113, 114, 115, 116, 117] (by decide +kernel) (by decide +kernel)
set_option maxRecDepth 20000 in
theorem gX6_began_X6_beginBut : GoodIn wsX6_began (wsV RX6 172 RX6 yX6_beginBut wsX6_beginBut) := goodIn_app (goodIn_of _ (by decide +kernel)) ggX6_began_X6_beginBut
theorem dX6_began_0 : decode cX6_began 0 = .ok (.aload_n 0, 1) := by decide +kernel
theorem dX6_began_1 : decode cX6_began 1 = .ok (.iconst 0, 1) := by decide +kernel
theorem dX6_began_2 : decode cX6_began 2 = .ok (.invokevirtual 215, 3) := by decide +kernel
theorem dX6_began_5 : decode cX6_began 5 = .ok (.istore_n 1, 1) := by decide +kernel
theorem dX6_began_6 : decode cX6_began 6 = .ok (.iconst 0, 1) := by decide +kernel
theorem dX6_began_7 : decode cX6_began 7 = .ok (.istore_n 2, 1) := by decide +kernel
theorem dX6_began_8 : decode cX6_began 8 = .ok (.iload_n 2, 1) := by decide +kernel
theorem dX6_began_9 : decode cX6_began 9 = .ok (.aload_n 0, 1) := by decide +kernel
theorem dX6_began_10 : decode cX6_began 10 = .ok (.getfield 28, 3) := by decide +kernel
theorem dX6_began_13 : decode cX6_began 13 = .ok (.iconst 0, 1) := by decide +kernel
theorem dX6_began_14 : decode cX6_began 14 = .ok (.iaload, 1) := by decide +kernel
theorem dX6_began_15 : decode cX6_began 15 = .ok (.if_icmp .ge 26, 3) := by decide +kernel
theorem dX6_began_18 : decode cX6_began 18 = .ok (.aload_n 0, 1) := by decide +kernel
theorem dX6_began_19 : decode cX6_began 19 = .ok (.iconst 1, 1) := by decide +kernel
theorem dX6_began_20 : decode cX6_began 20 = .ok (.iload_n 2, 1) := by decide +kernel
theorem dX6_began_21 : decode cX6_began 21 = .ok (.invokevirtual 172, 3) := by decide +kernel
theorem dX6_began_24 : decode cX6_began 24 = .ok (.aload_n 0, 1) := by decide +kernel
theorem dX6_began_25 : decode cX6_began 25 = .ok (.iconst 1, 1) := by decide +kernel
theorem dX6_began_26 : decode cX6_began 26 = .ok (.invokevirtual 215, 3) := by decide +kernel
theorem dX6_began_29 : decode cX6_began 29 = .ok (.iload_n 1, 1) := by decide +kernel
theorem dX6_began_30 : decode cX6_began 30 = .ok (.if_icmp .ge 5, 3) := by decide +kernel
theorem dX6_began_33 : decode cX6_began 33 = .ok (.iload_n 2, 1) := by decide +kernel
theorem dX6_began_34 : decode cX6_began 34 = .ok (.ireturn, 1) := by decide +kernel
theorem dX6_began_35 : decode cX6_began 35 = .ok (.iinc 2 1, 3) := by decide +kernel
theorem dX6_began_38 : decode cX6_began 38 = .ok (.goto (-30), 3) := by decide +kernel
theorem dX6_began_41 : decode cX6_began 41 = .ok (.bipush (-4), 2) := by decide +kernel
theorem dX6_began_43 : decode cX6_began 43 = .ok (.ireturn, 1) := by decide +kernel
set_option maxRecDepth 20000 in
theorem ggX6_word_X6_isPerson : GoodIn wsX6_word wsX6_isPerson := goodIn_r _ [5, 6, 7, 8, 4, 9, 27, 28, 29, 30, 31, 32, 33, 34, 35, 36, 37, 38, 39, 40, 41, 42, 43, 44, 45, 46, 47, 48] (by decide +kernel) (by decide +kernel)
set_option maxRecDepth 20000 in
theorem gX6_word_X6_isPerson : GoodIn wsX6_word (wsV RX6 120 RX6 yX6_isPerson wsX6_isPerson) := goodIn_app (goodIn_of _ (by decide +kernel)) ggX6_word_X6_isPerson
set_option maxRecDepth 20000 in
theorem ggX6_word_X6_isAlive : GoodIn wsX6_word wsX6_isAlive := goodIn_r _ [13, 14, 15, 16, 4, 17, 27, 28, 29, 30, 31, 32, 33, 34, 35, 36, 37, 38, 39, 40, 41, 42, 43, 44, 45, 46, 47, 48] (by decide +kernel) (by decide +kernel)
set_option maxRecDepth 20000 in
theorem gX6_word_X6_isAlive : GoodIn wsX6_word (wsV RX6 135 RX6 yX6_isAlive wsX6_isAlive) := goodIn_app (goodIn_of _ (by decide +kernel)) ggX6_word_X6_isAlive
set_option maxRecDepth 20000 in
theorem ggX6_word_X6_has : GoodIn wsX6_word wsX6_has := goodIn_r _ [17] (by decide +kernel) (by decide +kernel)
set_option maxRecDepth 20000 in
theorem gX6_word_X6_has : GoodIn wsX6_word (va_wsS RX6 131 yX6_has wsX6_has) := goodIn_app (goodIn_of _ (by decide +kernel)) ggX6_word_X6_has
set_option maxRecDepth 20000 in
theorem ggX6_word_X6_maySpeak : GoodIn wsX6_word wsX6_maySpeak := goodIn_r _ [21, 10, 11, 12, 4, 13, 14, 15, 16, 17, 22, 23, 24, 25, 26, 27, 28, 29, 30, 31, 32, 33, 34, 35, 36, 37, 38, 39, 40, 41, 42, 43, 44, 45, 46, 47, 48] (by decide +kernel) (by decide +kernel)
set_option maxRecDepth 20000 in
theorem gX6_word_X6_maySpeak : GoodIn wsX6_word (wsV RX6 183 RX6 yX6_maySpeak wsX6_maySpeak) := goodIn_app (goodIn_of _ (by decide +kernel)) ggX6_word_X6_maySpeak
theorem dX6_word_0 : decode cX6_word 0 = .ok (.aload_n 0, 1) := by decide +kernel
theorem dX6_word_1 : decode cX6_word 1 = .ok (.iload_n 1, 1) := by decide +kernel
theorem dX6_word_2 : decode cX6_word 2 = .ok (.invokevirtual 120, 3) := by decide +kernel
theorem dX6_word_5 : decode cX6_word 5 = .ok (.ifCond .eq 11, 3) := by decide +kernel
theorem dX6_word_8 : decode cX6_word 8 = .ok (.aload_n 0, 1) := by decide +kernel
theorem dX6_word_9 : decode cX6_word 9 = .ok (.iload_n 2, 1) := by decide +kernel
theorem dX6_word_10 : decode cX6_word 10 = .ok (.invokevirtual 120, 3) := by decide +kernel
theorem dX6_word_13 : decode cX6_word 13 = .ok (.ifCond .ne 5, 3) := by decide +kernel
theorem dX6_word_16 : decode cX6_word 16 = .ok (.iconst (-1), 1) := by decide +kernel
theorem dX6_word_17 : decode cX6_word 17 = .ok (.ireturn, 1) := by decide +kernel
theorem dX6_word_18 : decode cX6_word 18 = .ok (.aload_n 0, 1) := by decide +kernel
theorem dX6_word_19 : decode cX6_word 19 = .ok (.iconst 0, 1) := by decide +kernel
theorem dX6_word_20 : decode cX6_word 20 = .ok (.iload_n 1, 1) := by decide +kernel
theorem dX6_word_21 : decode cX6_word 21 = .ok (.invokevirtual 135, 3) := by decide +kernel
theorem dX6_word_24 : decode cX6_word 24 = .ok (.ifCond .eq 9, 3) := by decide +kernel
theorem dX6_word_27 : decode cX6_word 27 = .ok (.iconst 1, 1) := by decide +kernel
theorem dX6_word_28 : decode cX6_word 28 = .ok (.iload_n 1, 1) := by decide +kernel
theorem dX6_word_29 : decode cX6_word 29 = .ok (.ishl, 1) := by decide +kernel
theorem dX6_word_30 : decode cX6_word 30 = .ok (.goto 4, 3) := by decide +kernel
theorem dX6_word_33 : decode cX6_word 33 = .ok (.iconst 0, 1) := by decide +kernel
theorem dX6_word_34 : decode cX6_word 34 = .ok (.istore_n 3, 1) := by decide +kernel
theorem dX6_word_35 : decode cX6_word 35 = .ok (.iconst 0, 1) := by decide +kernel
theorem dX6_word_36 : decode cX6_word 36 = .ok (.istore 4, 2) := by decide +kernel
theorem dX6_word_38 : decode cX6_word 38 = .ok (.iload 4, 2) := by decide +kernel
theorem dX6_word_40 : decode cX6_word 40 = .ok (.bipush 8, 2) := by decide +kernel
theorem dX6_word_42 : decode cX6_word 42 = .ok (.if_icmp .ge 88, 3) := by decide +kernel
theorem dX6_word_45 : decode cX6_word 45 = .ok (.iload_n 3, 1) := by decide +kernel
theorem dX6_word_46 : decode cX6_word 46 = .ok (.iload_n 2, 1) := by decide +kernel
theorem dX6_word_47 : decode cX6_word 47 = .ok (.invokestatic 131, 3) := by decide +kernel
theorem dX6_word_50 : decode cX6_word 50 = .ok (.ifCond .eq 6, 3) := by decide +kernel
theorem dX6_word_53 : decode cX6_word 53 = .ok (.iload 4, 2) := by decide +kernel
theorem dX6_word_55 : decode cX6_word 55 = .ok (.ireturn, 1) := by decide +kernel
theorem dX6_word_56 : decode cX6_word 56 = .ok (.iload_n 3, 1) := by decide +kernel
theorem dX6_word_57 : decode cX6_word 57 = .ok (.istore 5, 2) := by decide +kernel
theorem dX6_word_59 : decode cX6_word 59 = .ok (.iconst 0, 1) := by decide +kernel
theorem dX6_word_60 : decode cX6_word 60 = .ok (.istore 6, 2) := by decide +kernel
theorem dX6_word_62 : decode cX6_word 62 = .ok (.iload 6, 2) := by decide +kernel
theorem dX6_word_64 : decode cX6_word 64 = .ok (.bipush 64, 2) := by decide +kernel
theorem dX6_word_66 : decode cX6_word 66 = .ok (.if_icmp .ge 55, 3) := by decide +kernel
theorem dX6_word_69 : decode cX6_word 69 = .ok (.iload 5, 2) := by decide +kernel
theorem dX6_word_71 : decode cX6_word 71 = .ok (.iload_n 3, 1) := by decide +kernel
theorem dX6_word_72 : decode cX6_word 72 = .ok (.iload 6, 2) := by decide +kernel
theorem dX6_word_74 : decode cX6_word 74 = .ok (.bipush 8, 2) := by decide +kernel
theorem dX6_word_76 : decode cX6_word 76 = .ok (.idiv, 1) := by decide +kernel
theorem dX6_word_77 : decode cX6_word 77 = .ok (.invokestatic 131, 3) := by decide +kernel
theorem dX6_word_80 : decode cX6_word 80 = .ok (.ifCond .eq 31, 3) := by decide +kernel
theorem dX6_word_83 : decode cX6_word 83 = .ok (.aload_n 0, 1) := by decide +kernel
theorem dX6_word_84 : decode cX6_word 84 = .ok (.iconst 0, 1) := by decide +kernel
theorem dX6_word_85 : decode cX6_word 85 = .ok (.iload 6, 2) := by decide +kernel
theorem dX6_word_87 : decode cX6_word 87 = .ok (.bipush 8, 2) := by decide +kernel
theorem dX6_word_89 : decode cX6_word 89 = .ok (.idiv, 1) := by decide +kernel
theorem dX6_word_90 : decode cX6_word 90 = .ok (.iload 6, 2) := by decide +kernel
theorem dX6_word_92 : decode cX6_word 92 = .ok (.bipush 8, 2) := by decide +kernel
theorem dX6_word_94 : decode cX6_word 94 = .ok (.irem, 1) := by decide +kernel
theorem dX6_word_95 : decode cX6_word 95 = .ok (.invokevirtual 183, 3) := by decide +kernel
theorem dX6_word_98 : decode cX6_word 98 = .ok (.ifCond .eq 13, 3) := by decide +kernel
theorem dX6_word_101 : decode cX6_word 101 = .ok (.iconst 1, 1) := by decide +kernel
theorem dX6_word_102 : decode cX6_word 102 = .ok (.iload 6, 2) := by decide +kernel
theorem dX6_word_104 : decode cX6_word 104 = .ok (.bipush 8, 2) := by decide +kernel
theorem dX6_word_106 : decode cX6_word 106 = .ok (.irem, 1) := by decide +kernel
theorem dX6_word_107 : decode cX6_word 107 = .ok (.ishl, 1) := by decide +kernel
theorem dX6_word_108 : decode cX6_word 108 = .ok (.goto 4, 3) := by decide +kernel
theorem dX6_word_111 : decode cX6_word 111 = .ok (.iconst 0, 1) := by decide +kernel
theorem dX6_word_112 : decode cX6_word 112 = .ok (.ior, 1) := by decide +kernel
theorem dX6_word_113 : decode cX6_word 113 = .ok (.istore 5, 2) := by decide +kernel
theorem dX6_word_115 : decode cX6_word 115 = .ok (.iinc 6 1, 3) := by decide +kernel
theorem dX6_word_118 : decode cX6_word 118 = .ok (.goto (-56), 3) := by decide +kernel
theorem dX6_word_121 : decode cX6_word 121 = .ok (.iload 5, 2) := by decide +kernel
theorem dX6_word_123 : decode cX6_word 123 = .ok (.istore_n 3, 1) := by decide +kernel
theorem dX6_word_124 : decode cX6_word 124 = .ok (.iinc 4 1, 3) := by decide +kernel
theorem dX6_word_127 : decode cX6_word 127 = .ok (.goto (-89), 3) := by decide +kernel
theorem dX6_word_130 : decode cX6_word 130 = .ok (.bipush (-4), 2) := by decide +kernel
theorem dX6_word_132 : decode cX6_word 132 = .ok (.ireturn, 1) := by decide +kernel
set_option maxRecDepth 20000 in
theorem ggX6_mayAll_X6_has : GoodIn wsX6_mayAll wsX6_has := goodIn_r _ [5] (by decide +kernel) (by decide +kernel)
set_option maxRecDepth 20000 in
theorem gX6_mayAll_X6_has : GoodIn wsX6_mayAll (va_wsS RX6 131 yX6_has wsX6_has) := goodIn_app (goodIn_of _ (by decide +kernel)) ggX6_mayAll_X6_has
set_option maxRecDepth 20000 in
theorem ggX6_mayAll_X6_maySpeak : GoodIn wsX6_mayAll wsX6_maySpeak := goodIn_r _ [9, 10, 11, 12, 4, 13, 1, 2, 3, 5, 14, 15, 16, 17, 18, 19, 20, 21, 22, 23, 24, 25, 26, 27, 28, 29, 30, 31, 32, 33, 34, 35, 36, 37, 38, 39, 40] (by decide +kernel) (by decide +kernel)
set_option maxRecDepth 20000 in
theorem gX6_mayAll_X6_maySpeak : GoodIn wsX6_mayAll (wsV RX6 183 RX6 yX6_maySpeak wsX6_maySpeak) := goodIn_app (goodIn_of _ (by decide +kernel)) ggX6_mayAll_X6_maySpeak
theorem dX6_mayAll_0 : decode cX6_mayAll 0 = .ok (.iload_n 1, 1) := by decide +kernel
theorem dX6_mayAll_1 : decode cX6_mayAll 1 = .ok (.aload_n 0, 1) := by decide +kernel
theorem dX6_mayAll_2 : decode cX6_mayAll 2 = .ok (.getfield 49, 3) := by decide +kernel
theorem dX6_mayAll_5 : decode cX6_mayAll 5 = .ok (.iconst 0, 1) := by decide +kernel
theorem dX6_mayAll_6 : decode cX6_mayAll 6 = .ok (.iaload, 1) := by decide +kernel
theorem dX6_mayAll_7 : decode cX6_mayAll 7 = .ok (.iconst (-1), 1) := by decide +kernel
theorem dX6_mayAll_8 : decode cX6_mayAll 8 = .ok (.ixor, 1) := by decide +kernel
theorem dX6_mayAll_9 : decode cX6_mayAll 9 = .ok (.iand, 1) := by decide +kernel
theorem dX6_mayAll_10 : decode cX6_mayAll 10 = .ok (.ifCond .ne 7, 3) := by decide +kernel
theorem dX6_mayAll_13 : decode cX6_mayAll 13 = .ok (.iconst 1, 1) := by decide +kernel
theorem dX6_mayAll_14 : decode cX6_mayAll 14 = .ok (.goto 4, 3) := by decide +kernel
theorem dX6_mayAll_17 : decode cX6_mayAll 17 = .ok (.iconst 0, 1) := by decide +kernel
theorem dX6_mayAll_18 : decode cX6_mayAll 18 = .ok (.istore_n 2, 1) := by decide +kernel
theorem dX6_mayAll_19 : decode cX6_mayAll 19 = .ok (.iconst 0, 1) := by decide +kernel
theorem dX6_mayAll_20 : decode cX6_mayAll 20 = .ok (.istore_n 3, 1) := by decide +kernel
theorem dX6_mayAll_21 : decode cX6_mayAll 21 = .ok (.iload_n 3, 1) := by decide +kernel
theorem dX6_mayAll_22 : decode cX6_mayAll 22 = .ok (.bipush 64, 2) := by decide +kernel
theorem dX6_mayAll_24 : decode cX6_mayAll 24 = .ok (.if_icmp .ge 68, 3) := by decide +kernel
theorem dX6_mayAll_27 : decode cX6_mayAll 27 = .ok (.iload_n 2, 1) := by decide +kernel
theorem dX6_mayAll_28 : decode cX6_mayAll 28 = .ok (.ifCond .eq 56, 3) := by decide +kernel
theorem dX6_mayAll_31 : decode cX6_mayAll 31 = .ok (.iload_n 3, 1) := by decide +kernel
theorem dX6_mayAll_32 : decode cX6_mayAll 32 = .ok (.bipush 8, 2) := by decide +kernel
theorem dX6_mayAll_34 : decode cX6_mayAll 34 = .ok (.idiv, 1) := by decide +kernel
theorem dX6_mayAll_35 : decode cX6_mayAll 35 = .ok (.iload_n 3, 1) := by decide +kernel
theorem dX6_mayAll_36 : decode cX6_mayAll 36 = .ok (.bipush 8, 2) := by decide +kernel
theorem dX6_mayAll_38 : decode cX6_mayAll 38 = .ok (.irem, 1) := by decide +kernel
theorem dX6_mayAll_39 : decode cX6_mayAll 39 = .ok (.if_icmp .ge 41, 3) := by decide +kernel
theorem dX6_mayAll_42 : decode cX6_mayAll 42 = .ok (.iload_n 1, 1) := by decide +kernel
theorem dX6_mayAll_43 : decode cX6_mayAll 43 = .ok (.iload_n 3, 1) := by decide +kernel
theorem dX6_mayAll_44 : decode cX6_mayAll 44 = .ok (.bipush 8, 2) := by decide +kernel
theorem dX6_mayAll_46 : decode cX6_mayAll 46 = .ok (.idiv, 1) := by decide +kernel
theorem dX6_mayAll_47 : decode cX6_mayAll 47 = .ok (.invokestatic 131, 3) := by decide +kernel
theorem dX6_mayAll_50 : decode cX6_mayAll 50 = .ok (.ifCond .eq 30, 3) := by decide +kernel
theorem dX6_mayAll_53 : decode cX6_mayAll 53 = .ok (.iload_n 1, 1) := by decide +kernel
theorem dX6_mayAll_54 : decode cX6_mayAll 54 = .ok (.iload_n 3, 1) := by decide +kernel
theorem dX6_mayAll_55 : decode cX6_mayAll 55 = .ok (.bipush 8, 2) := by decide +kernel
theorem dX6_mayAll_57 : decode cX6_mayAll 57 = .ok (.irem, 1) := by decide +kernel
theorem dX6_mayAll_58 : decode cX6_mayAll 58 = .ok (.invokestatic 131, 3) := by decide +kernel
theorem dX6_mayAll_61 : decode cX6_mayAll 61 = .ok (.ifCond .eq 19, 3) := by decide +kernel
theorem dX6_mayAll_64 : decode cX6_mayAll 64 = .ok (.aload_n 0, 1) := by decide +kernel
theorem dX6_mayAll_65 : decode cX6_mayAll 65 = .ok (.iconst 0, 1) := by decide +kernel
theorem dX6_mayAll_66 : decode cX6_mayAll 66 = .ok (.iload_n 3, 1) := by decide +kernel
theorem dX6_mayAll_67 : decode cX6_mayAll 67 = .ok (.bipush 8, 2) := by decide +kernel
theorem dX6_mayAll_69 : decode cX6_mayAll 69 = .ok (.idiv, 1) := by decide +kernel
theorem dX6_mayAll_70 : decode cX6_mayAll 70 = .ok (.iload_n 3, 1) := by decide +kernel
theorem dX6_mayAll_71 : decode cX6_mayAll 71 = .ok (.bipush 8, 2) := by decide +kernel
