theorem dX4_takesApology_4 : decode cX4_takesApology 4 = .ok (.iload_n 1, 1) := by decide +kernel
theorem dX4_takesApology_5 : decode cX4_takesApology 5 = .ok (.iaload, 1) := by decide +kernel
theorem dX4_takesApology_6 : decode cX4_takesApology 6 = .ok (.iconst 1, 1) := by decide +kernel
theorem dX4_takesApology_7 : decode cX4_takesApology 7 = .ok (.if_icmp .eq 12, 3) := by decide +kernel
theorem dX4_takesApology_10 : decode cX4_takesApology 10 = .ok (.aload_n 0, 1) := by decide +kernel
theorem dX4_takesApology_11 : decode cX4_takesApology 11 = .ok (.getfield 21, 3) := by decide +kernel
theorem dX4_takesApology_14 : decode cX4_takesApology 14 = .ok (.iload_n 1, 1) := by decide +kernel
theorem dX4_takesApology_15 : decode cX4_takesApology 15 = .ok (.iaload, 1) := by decide +kernel
theorem dX4_takesApology_16 : decode cX4_takesApology 16 = .ok (.ifCond .ne 7, 3) := by decide +kernel
theorem dX4_takesApology_19 : decode cX4_takesApology 19 = .ok (.iconst 1, 1) := by decide +kernel
theorem dX4_takesApology_20 : decode cX4_takesApology 20 = .ok (.goto 4, 3) := by decide +kernel
theorem dX4_takesApology_23 : decode cX4_takesApology 23 = .ok (.iconst 0, 1) := by decide +kernel
theorem dX4_takesApology_24 : decode cX4_takesApology 24 = .ok (.ireturn, 1) := by decide +kernel
set_option maxRecDepth 20000 in
theorem ggX4_maySpeak_X4_isAlive : GoodIn wsX4_maySpeak wsX4_isAlive := goodIn_r _ [5, 6, 12, 13, 14, 15, 16, 17, 18, 19] (by decide +kernel) (by decide +kernel)
set_option maxRecDepth 20000 in
theorem gX4_maySpeak_X4_isAlive : GoodIn wsX4_maySpeak (wsV RX4 53 RX4 yX4_isAlive wsX4_isAlive) := goodIn_app (goodIn_of _ (by decide +kernel)) ggX4_maySpeak_X4_isAlive
set_option maxRecDepth 20000 in
theorem ggX4_maySpeak_X4_debt : GoodIn wsX4_maySpeak wsX4_debt := goodIn_r _ [10, 11, 12, 13, 14, 15, 16, 17, 18, 19] (by decide +kernel) (by decide +kernel)
set_option maxRecDepth 20000 in
theorem gX4_maySpeak_X4_debt : GoodIn wsX4_maySpeak (wsV RX4 61 RX4 yX4_debt wsX4_debt) := goodIn_app (goodIn_of _ (by decide +kernel)) ggX4_maySpeak_X4_debt
theorem dX4_maySpeak_0 : decode cX4_maySpeak 0 = .ok (.iload_n 1, 1) := by decide +kernel
theorem dX4_maySpeak_1 : decode cX4_maySpeak 1 = .ok (.iload_n 2, 1) := by decide +kernel
theorem dX4_maySpeak_2 : decode cX4_maySpeak 2 = .ok (.if_icmp .eq 41, 3) := by decide +kernel
theorem dX4_maySpeak_5 : decode cX4_maySpeak 5 = .ok (.aload_n 0, 1) := by decide +kernel
theorem dX4_maySpeak_6 : decode cX4_maySpeak 6 = .ok (.iload_n 1, 1) := by decide +kernel
theorem dX4_maySpeak_7 : decode cX4_maySpeak 7 = .ok (.invokevirtual 53, 3) := by decide +kernel
theorem dX4_maySpeak_10 : decode cX4_maySpeak 10 = .ok (.ifCond .eq 33, 3) := by decide +kernel
theorem dX4_maySpeak_13 : decode cX4_maySpeak 13 = .ok (.aload_n 0, 1) := by decide +kernel
theorem dX4_maySpeak_14 : decode cX4_maySpeak 14 = .ok (.iload_n 2, 1) := by decide +kernel
theorem dX4_maySpeak_15 : decode cX4_maySpeak 15 = .ok (.invokevirtual 53, 3) := by decide +kernel
theorem dX4_maySpeak_18 : decode cX4_maySpeak 18 = .ok (.ifCond .eq 25, 3) := by decide +kernel
theorem dX4_maySpeak_21 : decode cX4_maySpeak 21 = .ok (.aload_n 0, 1) := by decide +kernel
theorem dX4_maySpeak_22 : decode cX4_maySpeak 22 = .ok (.iload_n 1, 1) := by decide +kernel
theorem dX4_maySpeak_23 : decode cX4_maySpeak 23 = .ok (.iload_n 2, 1) := by decide +kernel
theorem dX4_maySpeak_24 : decode cX4_maySpeak 24 = .ok (.invokevirtual 61, 3) := by decide +kernel
theorem dX4_maySpeak_27 : decode cX4_maySpeak 27 = .ok (.ifCond .ne 16, 3) := by decide +kernel
theorem dX4_maySpeak_30 : decode cX4_maySpeak 30 = .ok (.aload_n 0, 1) := by decide +kernel
theorem dX4_maySpeak_31 : decode cX4_maySpeak 31 = .ok (.iload_n 2, 1) := by decide +kernel
theorem dX4_maySpeak_32 : decode cX4_maySpeak 32 = .ok (.iload_n 1, 1) := by decide +kernel
theorem dX4_maySpeak_33 : decode cX4_maySpeak 33 = .ok (.invokevirtual 61, 3) := by decide +kernel
theorem dX4_maySpeak_36 : decode cX4_maySpeak 36 = .ok (.ifCond .ne 7, 3) := by decide +kernel
theorem dX4_maySpeak_39 : decode cX4_maySpeak 39 = .ok (.iconst 1, 1) := by decide +kernel
theorem dX4_maySpeak_40 : decode cX4_maySpeak 40 = .ok (.goto 4, 3) := by decide +kernel
theorem dX4_maySpeak_43 : decode cX4_maySpeak 43 = .ok (.iconst 0, 1) := by decide +kernel
theorem dX4_maySpeak_44 : decode cX4_maySpeak 44 = .ok (.ireturn, 1) := by decide +kernel
set_option maxRecDepth 20000 in
theorem ggX4_anySpeakIn_X4_maySpeak : GoodIn wsX4_anySpeakIn wsX4_maySpeak := goodIn_r _ [7, 8, 9, 10, 6, 11, 12, 13, 14, 15, 16, 17, 18, 19, 20, 21, 22, 23, 24, 25] (by decide +kernel) (by decide +kernel)
set_option maxRecDepth 20000 in
theorem gX4_anySpeakIn_X4_maySpeak : GoodIn wsX4_anySpeakIn (wsV RX4 69 RX4 yX4_maySpeak wsX4_maySpeak) := goodIn_app (goodIn_of _ (by decide +kernel)) ggX4_anySpeakIn_X4_maySpeak
theorem dX4_anySpeakIn_0 : decode cX4_anySpeakIn 0 = .ok (.iconst 0, 1) := by decide +kernel
theorem dX4_anySpeakIn_1 : decode cX4_anySpeakIn 1 = .ok (.istore_n 2, 1) := by decide +kernel
theorem dX4_anySpeakIn_2 : decode cX4_anySpeakIn 2 = .ok (.iload_n 2, 1) := by decide +kernel
theorem dX4_anySpeakIn_3 : decode cX4_anySpeakIn 3 = .ok (.aload_n 0, 1) := by decide +kernel
theorem dX4_anySpeakIn_4 : decode cX4_anySpeakIn 4 = .ok (.getfield 24, 3) := by decide +kernel
theorem dX4_anySpeakIn_7 : decode cX4_anySpeakIn 7 = .ok (.if_icmp .ge 79, 3) := by decide +kernel
theorem dX4_anySpeakIn_10 : decode cX4_anySpeakIn 10 = .ok (.iload_n 2, 1) := by decide +kernel
theorem dX4_anySpeakIn_11 : decode cX4_anySpeakIn 11 = .ok (.iconst 1, 1) := by decide +kernel
theorem dX4_anySpeakIn_12 : decode cX4_anySpeakIn 12 = .ok (.iadd, 1) := by decide +kernel
theorem dX4_anySpeakIn_13 : decode cX4_anySpeakIn 13 = .ok (.istore_n 3, 1) := by decide +kernel
theorem dX4_anySpeakIn_14 : decode cX4_anySpeakIn 14 = .ok (.iload_n 3, 1) := by decide +kernel
theorem dX4_anySpeakIn_15 : decode cX4_anySpeakIn 15 = .ok (.aload_n 0, 1) := by decide +kernel
theorem dX4_anySpeakIn_16 : decode cX4_anySpeakIn 16 = .ok (.getfield 24, 3) := by decide +kernel
theorem dX4_anySpeakIn_19 : decode cX4_anySpeakIn 19 = .ok (.if_icmp .ge 61, 3) := by decide +kernel
theorem dX4_anySpeakIn_22 : decode cX4_anySpeakIn 22 = .ok (.iload_n 1, 1) := by decide +kernel
theorem dX4_anySpeakIn_23 : decode cX4_anySpeakIn 23 = .ok (.aload_n 0, 1) := by decide +kernel
theorem dX4_anySpeakIn_24 : decode cX4_anySpeakIn 24 = .ok (.getfield 15, 3) := by decide +kernel
theorem dX4_anySpeakIn_27 : decode cX4_anySpeakIn 27 = .ok (.iload_n 2, 1) := by decide +kernel
theorem dX4_anySpeakIn_28 : decode cX4_anySpeakIn 28 = .ok (.iaload, 1) := by decide +kernel
theorem dX4_anySpeakIn_29 : decode cX4_anySpeakIn 29 = .ok (.ishr, 1) := by decide +kernel
theorem dX4_anySpeakIn_30 : decode cX4_anySpeakIn 30 = .ok (.iconst 1, 1) := by decide +kernel
theorem dX4_anySpeakIn_31 : decode cX4_anySpeakIn 31 = .ok (.iand, 1) := by decide +kernel
theorem dX4_anySpeakIn_32 : decode cX4_anySpeakIn 32 = .ok (.iconst 1, 1) := by decide +kernel
theorem dX4_anySpeakIn_33 : decode cX4_anySpeakIn 33 = .ok (.if_icmp .ne 7, 3) := by decide +kernel
theorem dX4_anySpeakIn_36 : decode cX4_anySpeakIn 36 = .ok (.iconst 1, 1) := by decide +kernel
theorem dX4_anySpeakIn_37 : decode cX4_anySpeakIn 37 = .ok (.goto 4, 3) := by decide +kernel
theorem dX4_anySpeakIn_40 : decode cX4_anySpeakIn 40 = .ok (.iconst 0, 1) := by decide +kernel
theorem dX4_anySpeakIn_41 : decode cX4_anySpeakIn 41 = .ok (.istore 4, 2) := by decide +kernel
theorem dX4_anySpeakIn_43 : decode cX4_anySpeakIn 43 = .ok (.iload 4, 2) := by decide +kernel
theorem dX4_anySpeakIn_45 : decode cX4_anySpeakIn 45 = .ok (.ifCond .eq 29, 3) := by decide +kernel
theorem dX4_anySpeakIn_48 : decode cX4_anySpeakIn 48 = .ok (.aload_n 0, 1) := by decide +kernel
theorem dX4_anySpeakIn_49 : decode cX4_anySpeakIn 49 = .ok (.getfield 15, 3) := by decide +kernel
theorem dX4_anySpeakIn_52 : decode cX4_anySpeakIn 52 = .ok (.iload_n 2, 1) := by decide +kernel
theorem dX4_anySpeakIn_53 : decode cX4_anySpeakIn 53 = .ok (.iaload, 1) := by decide +kernel
theorem dX4_anySpeakIn_54 : decode cX4_anySpeakIn 54 = .ok (.aload_n 0, 1) := by decide +kernel
theorem dX4_anySpeakIn_55 : decode cX4_anySpeakIn 55 = .ok (.getfield 15, 3) := by decide +kernel
theorem dX4_anySpeakIn_58 : decode cX4_anySpeakIn 58 = .ok (.iload_n 3, 1) := by decide +kernel
theorem dX4_anySpeakIn_59 : decode cX4_anySpeakIn 59 = .ok (.iaload, 1) := by decide +kernel
theorem dX4_anySpeakIn_60 : decode cX4_anySpeakIn 60 = .ok (.if_icmp .ne 14, 3) := by decide +kernel
theorem dX4_anySpeakIn_63 : decode cX4_anySpeakIn 63 = .ok (.aload_n 0, 1) := by decide +kernel
theorem dX4_anySpeakIn_64 : decode cX4_anySpeakIn 64 = .ok (.iload_n 2, 1) := by decide +kernel
theorem dX4_anySpeakIn_65 : decode cX4_anySpeakIn 65 = .ok (.iload_n 3, 1) := by decide +kernel
theorem dX4_anySpeakIn_66 : decode cX4_anySpeakIn 66 = .ok (.invokevirtual 69, 3) := by decide +kernel
theorem dX4_anySpeakIn_69 : decode cX4_anySpeakIn 69 = .ok (.ifCond .eq 5, 3) := by decide +kernel
theorem dX4_anySpeakIn_72 : decode cX4_anySpeakIn 72 = .ok (.iconst 1, 1) := by decide +kernel
theorem dX4_anySpeakIn_73 : decode cX4_anySpeakIn 73 = .ok (.ireturn, 1) := by decide +kernel
theorem dX4_anySpeakIn_74 : decode cX4_anySpeakIn 74 = .ok (.iinc 3 1, 3) := by decide +kernel
theorem dX4_anySpeakIn_77 : decode cX4_anySpeakIn 77 = .ok (.goto (-63), 3) := by decide +kernel
theorem dX4_anySpeakIn_80 : decode cX4_anySpeakIn 80 = .ok (.iinc 2 1, 3) := by decide +kernel
theorem dX4_anySpeakIn_83 : decode cX4_anySpeakIn 83 = .ok (.goto (-81), 3) := by decide +kernel
theorem dX4_anySpeakIn_86 : decode cX4_anySpeakIn 86 = .ok (.iconst 0, 1) := by decide +kernel
theorem dX4_anySpeakIn_87 : decode cX4_anySpeakIn 87 = .ok (.ireturn, 1) := by decide +kernel
set_option maxRecDepth 20000 in
theorem ggX4_linkSpeakers_X2_clear : GoodIn wsX4_linkSpeakers wsX2_clear := goodIn_r _ [6, 7, 8, 9, 10, 11, 12, 13, 14, 15, 16, 44, 45, 46] (by decide +kernel) (by decide +kernel)
set_option maxRecDepth 20000 in
theorem gX4_linkSpeakers_X2_clear : GoodIn wsX4_linkSpeakers (wsV RX4 73 RX2 yX2_clear wsX2_clear) := goodIn_app (goodIn_of _ (by decide +kernel)) ggX4_linkSpeakers_X2_clear
set_option maxRecDepth 20000 in
theorem ggX4_linkSpeakers_X4_maySpeak : GoodIn wsX4_linkSpeakers wsX4_maySpeak := goodIn_r _ [21, 22, 23, 24, 20, 25, 26, 27, 28, 29, 30, 31, 36, 37, 38, 39, 40, 41, 42, 43] (by decide +kernel) (by decide +kernel)
set_option maxRecDepth 20000 in
theorem gX4_linkSpeakers_X4_maySpeak : GoodIn wsX4_linkSpeakers (wsV RX4 69 RX4 yX4_maySpeak wsX4_maySpeak) := goodIn_app (goodIn_of _ (by decide +kernel)) ggX4_linkSpeakers_X4_maySpeak
set_option maxRecDepth 20000 in
theorem ggX4_linkSpeakers_X2_link : GoodIn wsX4_linkSpeakers wsX2_link := goodIn_r _ [35, 11, 12, 44, 45, 46] (by decide +kernel) (by decide +kernel)
set_option maxRecDepth 20000 in
theorem gX4_linkSpeakers_X2_link : GoodIn wsX4_linkSpeakers (wsV RX4 79 RX2 yX2_link wsX2_link) := goodIn_app (goodIn_of _ (by decide +kernel)) ggX4_linkSpeakers_X2_link
theorem dX4_linkSpeakers_0 : decode cX4_linkSpeakers 0 = .ok (.aload_n 1, 1) := by decide +kernel
theorem dX4_linkSpeakers_1 : decode cX4_linkSpeakers 1 = .ok (.aload_n 0, 1) := by decide +kernel
theorem dX4_linkSpeakers_2 : decode cX4_linkSpeakers 2 = .ok (.getfield 24, 3) := by decide +kernel
theorem dX4_linkSpeakers_5 : decode cX4_linkSpeakers 5 = .ok (.invokevirtual 73, 3) := by decide +kernel
theorem dX4_linkSpeakers_8 : decode cX4_linkSpeakers 8 = .ok (.iconst 0, 1) := by decide +kernel
theorem dX4_linkSpeakers_9 : decode cX4_linkSpeakers 9 = .ok (.istore_n 2, 1) := by decide +kernel
theorem dX4_linkSpeakers_10 : decode cX4_linkSpeakers 10 = .ok (.iload_n 2, 1) := by decide +kernel
theorem dX4_linkSpeakers_11 : decode cX4_linkSpeakers 11 = .ok (.aload_n 0, 1) := by decide +kernel
theorem dX4_linkSpeakers_12 : decode cX4_linkSpeakers 12 = .ok (.getfield 24, 3) := by decide +kernel
theorem dX4_linkSpeakers_15 : decode cX4_linkSpeakers 15 = .ok (.if_icmp .ge 40, 3) := by decide +kernel
theorem dX4_linkSpeakers_18 : decode cX4_linkSpeakers 18 = .ok (.iconst 0, 1) := by decide +kernel
theorem dX4_linkSpeakers_19 : decode cX4_linkSpeakers 19 = .ok (.istore_n 3, 1) := by decide +kernel
theorem dX4_linkSpeakers_20 : decode cX4_linkSpeakers 20 = .ok (.iload_n 3, 1) := by decide +kernel
theorem dX4_linkSpeakers_21 : decode cX4_linkSpeakers 21 = .ok (.aload_n 0, 1) := by decide +kernel
theorem dX4_linkSpeakers_22 : decode cX4_linkSpeakers 22 = .ok (.getfield 24, 3) := by decide +kernel
theorem dX4_linkSpeakers_25 : decode cX4_linkSpeakers 25 = .ok (.if_icmp .ge 24, 3) := by decide +kernel
theorem dX4_linkSpeakers_28 : decode cX4_linkSpeakers 28 = .ok (.aload_n 0, 1) := by decide +kernel
theorem dX4_linkSpeakers_29 : decode cX4_linkSpeakers 29 = .ok (.iload_n 2, 1) := by decide +kernel
theorem dX4_linkSpeakers_30 : decode cX4_linkSpeakers 30 = .ok (.iload_n 3, 1) := by decide +kernel
theorem dX4_linkSpeakers_31 : decode cX4_linkSpeakers 31 = .ok (.invokevirtual 69, 3) := by decide +kernel
theorem dX4_linkSpeakers_34 : decode cX4_linkSpeakers 34 = .ok (.ifCond .eq 9, 3) := by decide +kernel
theorem dX4_linkSpeakers_37 : decode cX4_linkSpeakers 37 = .ok (.aload_n 1, 1) := by decide +kernel
theorem dX4_linkSpeakers_38 : decode cX4_linkSpeakers 38 = .ok (.iload_n 2, 1) := by decide +kernel
theorem dX4_linkSpeakers_39 : decode cX4_linkSpeakers 39 = .ok (.iload_n 3, 1) := by decide +kernel
theorem dX4_linkSpeakers_40 : decode cX4_linkSpeakers 40 = .ok (.invokevirtual 79, 3) := by decide +kernel
theorem dX4_linkSpeakers_43 : decode cX4_linkSpeakers 43 = .ok (.iinc 3 1, 3) := by decide +kernel
theorem dX4_linkSpeakers_46 : decode cX4_linkSpeakers 46 = .ok (.goto (-26), 3) := by decide +kernel
theorem dX4_linkSpeakers_49 : decode cX4_linkSpeakers 49 = .ok (.iinc 2 1, 3) := by decide +kernel
theorem dX4_linkSpeakers_52 : decode cX4_linkSpeakers 52 = .ok (.goto (-42), 3) := by decide +kernel
theorem dX4_linkSpeakers_55 : decode cX4_linkSpeakers 55 = .ok (.return_, 1) := by decide +kernel
set_option maxRecDepth 20000 in
theorem ggX4_linkDebts_X2_clear : GoodIn wsX4_linkDebts wsX2_clear := goodIn_r _ [6, 7, 8, 9, 10, 11, 12, 13, 14, 15, 16, 35, 36, 37] (by decide +kernel) (by decide +kernel)
set_option maxRecDepth 20000 in
theorem gX4_linkDebts_X2_clear : GoodIn wsX4_linkDebts (wsV RX4 73 RX2 yX2_clear wsX2_clear) := goodIn_app (goodIn_of _ (by decide +kernel)) ggX4_linkDebts_X2_clear
set_option maxRecDepth 20000 in
theorem ggX4_linkDebts_X4_debt : GoodIn wsX4_linkDebts wsX4_debt := goodIn_r _ [21, 22, 27, 28, 29, 30, 31, 32, 33, 34] (by decide +kernel) (by decide +kernel)
set_option maxRecDepth 20000 in
theorem gX4_linkDebts_X4_debt : GoodIn wsX4_linkDebts (wsV RX4 61 RX4 yX4_debt wsX4_debt) := goodIn_app (goodIn_of _ (by decide +kernel)) ggX4_linkDebts_X4_debt
set_option maxRecDepth 20000 in
theorem ggX4_linkDebts_X2_link : GoodIn wsX4_linkDebts wsX2_link := goodIn_r _ [26, 11, 12, 35, 36, 37] (by decide +kernel) (by decide +kernel)
set_option maxRecDepth 20000 in
theorem gX4_linkDebts_X2_link : GoodIn wsX4_linkDebts (wsV RX4 79 RX2 yX2_link wsX2_link) := goodIn_app (goodIn_of _ (by decide +kernel)) ggX4_linkDebts_X2_link
theorem dX4_linkDebts_0 : decode cX4_linkDebts 0 = .ok (.aload_n 1, 1) := by decide +kernel
theorem dX4_linkDebts_1 : decode cX4_linkDebts 1 = .ok (.aload_n 0, 1) := by decide +kernel
theorem dX4_linkDebts_2 : decode cX4_linkDebts 2 = .ok (.getfield 24, 3) := by decide +kernel
theorem dX4_linkDebts_5 : decode cX4_linkDebts 5 = .ok (.invokevirtual 73, 3) := by decide +kernel
theorem dX4_linkDebts_8 : decode cX4_linkDebts 8 = .ok (.iconst 0, 1) := by decide +kernel
theorem dX4_linkDebts_9 : decode cX4_linkDebts 9 = .ok (.istore_n 2, 1) := by decide +kernel
theorem dX4_linkDebts_10 : decode cX4_linkDebts 10 = .ok (.iload_n 2, 1) := by decide +kernel
theorem dX4_linkDebts_11 : decode cX4_linkDebts 11 = .ok (.aload_n 0, 1) := by decide +kernel
theorem dX4_linkDebts_12 : decode cX4_linkDebts 12 = .ok (.getfield 24, 3) := by decide +kernel
theorem dX4_linkDebts_15 : decode cX4_linkDebts 15 = .ok (.if_icmp .ge 40, 3) := by decide +kernel
theorem dX4_linkDebts_18 : decode cX4_linkDebts 18 = .ok (.iconst 0, 1) := by decide +kernel
theorem dX4_linkDebts_19 : decode cX4_linkDebts 19 = .ok (.istore_n 3, 1) := by decide +kernel
theorem dX4_linkDebts_20 : decode cX4_linkDebts 20 = .ok (.iload_n 3, 1) := by decide +kernel
theorem dX4_linkDebts_21 : decode cX4_linkDebts 21 = .ok (.aload_n 0, 1) := by decide +kernel
theorem dX4_linkDebts_22 : decode cX4_linkDebts 22 = .ok (.getfield 24, 3) := by decide +kernel
theorem dX4_linkDebts_25 : decode cX4_linkDebts 25 = .ok (.if_icmp .ge 24, 3) := by decide +kernel
theorem dX4_linkDebts_28 : decode cX4_linkDebts 28 = .ok (.aload_n 0, 1) := by decide +kernel
theorem dX4_linkDebts_29 : decode cX4_linkDebts 29 = .ok (.iload_n 2, 1) := by decide +kernel
theorem dX4_linkDebts_30 : decode cX4_linkDebts 30 = .ok (.iload_n 3, 1) := by decide +kernel
theorem dX4_linkDebts_31 : decode cX4_linkDebts 31 = .ok (.invokevirtual 61, 3) := by decide +kernel
theorem dX4_linkDebts_34 : decode cX4_linkDebts 34 = .ok (.ifCond .le 9, 3) := by decide +kernel
theorem dX4_linkDebts_37 : decode cX4_linkDebts 37 = .ok (.aload_n 1, 1) := by decide +kernel
theorem dX4_linkDebts_38 : decode cX4_linkDebts 38 = .ok (.iload_n 2, 1) := by decide +kernel
theorem dX4_linkDebts_39 : decode cX4_linkDebts 39 = .ok (.iload_n 3, 1) := by decide +kernel
theorem dX4_linkDebts_40 : decode cX4_linkDebts 40 = .ok (.invokevirtual 79, 3) := by decide +kernel
theorem dX4_linkDebts_43 : decode cX4_linkDebts 43 = .ok (.iinc 3 1, 3) := by decide +kernel
theorem dX4_linkDebts_46 : decode cX4_linkDebts 46 = .ok (.goto (-26), 3) := by decide +kernel
theorem dX4_linkDebts_49 : decode cX4_linkDebts 49 = .ok (.iinc 2 1, 3) := by decide +kernel
theorem dX4_linkDebts_52 : decode cX4_linkDebts 52 = .ok (.goto (-42), 3) := by decide +kernel
theorem dX4_linkDebts_55 : decode cX4_linkDebts 55 = .ok (.return_, 1) := by decide +kernel
set_option maxRecDepth 20000 in
theorem ggX4_canBeDone_X4_isAlive : GoodIn wsX4_canBeDone wsX4_isAlive := goodIn_r _ [5, 6, 26, 27, 28, 29, 30, 31, 32, 33] (by decide +kernel) (by decide +kernel)
set_option maxRecDepth 20000 in
theorem gX4_canBeDone_X4_isAlive : GoodIn wsX4_canBeDone (wsV RX4 53 RX4 yX4_isAlive wsX4_isAlive) := goodIn_app (goodIn_of _ (by decide +kernel)) ggX4_canBeDone_X4_isAlive
set_option maxRecDepth 20000 in
theorem ggX4_canBeDone_X4_debt : GoodIn wsX4_canBeDone wsX4_debt := goodIn_r _ [10, 11, 26, 27, 28, 29, 30, 31, 32, 33] (by decide +kernel) (by decide +kernel)
set_option maxRecDepth 20000 in
theorem gX4_canBeDone_X4_debt : GoodIn wsX4_canBeDone (wsV RX4 61 RX4 yX4_debt wsX4_debt) := goodIn_app (goodIn_of _ (by decide +kernel)) ggX4_canBeDone_X4_debt
set_option maxRecDepth 20000 in
theorem ggX4_canBeDone_X4_canBow : GoodIn wsX4_canBeDone wsX4_canBow := goodIn_r _ [15, 7, 8, 9, 4, 10, 11, 16, 17, 18, 19, 20, 21, 26, 27, 28, 29, 30, 31, 32, 33] (by decide +kernel) (by decide +kernel)
set_option maxRecDepth 20000 in
theorem gX4_canBeDone_X4_canBow : GoodIn wsX4_canBeDone (wsV RX4 82 RX4 yX4_canBow wsX4_canBow) := goodIn_app (goodIn_of _ (by decide +kernel)) ggX4_canBeDone_X4_canBow
set_option maxRecDepth 20000 in
theorem ggX4_canBeDone_X4_canBowAtOnce : GoodIn wsX4_canBeDone wsX4_canBowAtOnce := goodIn_r _ [25, 21, 7, 8, 9, 4, 10, 11, 26, 27, 28, 29, 30, 31, 32, 33] (by decide +kernel) (by decide +kernel)
set_option maxRecDepth 20000 in
theorem gX4_canBeDone_X4_canBowAtOnce : GoodIn wsX4_canBeDone (wsV RX4 85 RX4 yX4_canBowAtOnce wsX4_canBowAtOnce) := goodIn_app (goodIn_of _ (by decide +kernel)) ggX4_canBeDone_X4_canBowAtOnce
theorem dX4_canBeDone_0 : decode cX4_canBeDone 0 = .ok (.iload_n 1, 1) := by decide +kernel
theorem dX4_canBeDone_1 : decode cX4_canBeDone 1 = .ok (.tableswitch 119 0 4 #[35, 73, 80, 106, 113], 35) := by decide +kernel
theorem dX4_canBeDone_36 : decode cX4_canBeDone 36 = .ok (.iload_n 2, 1) := by decide +kernel
theorem dX4_canBeDone_37 : decode cX4_canBeDone 37 = .ok (.iload_n 3, 1) := by decide +kernel
theorem dX4_canBeDone_38 : decode cX4_canBeDone 38 = .ok (.if_icmp .eq 34, 3) := by decide +kernel
theorem dX4_canBeDone_41 : decode cX4_canBeDone 41 = .ok (.aload_n 0, 1) := by decide +kernel
theorem dX4_canBeDone_42 : decode cX4_canBeDone 42 = .ok (.iload_n 2, 1) := by decide +kernel
theorem dX4_canBeDone_43 : decode cX4_canBeDone 43 = .ok (.invokevirtual 53, 3) := by decide +kernel
theorem dX4_canBeDone_46 : decode cX4_canBeDone 46 = .ok (.ifCond .eq 26, 3) := by decide +kernel
theorem dX4_canBeDone_49 : decode cX4_canBeDone 49 = .ok (.aload_n 0, 1) := by decide +kernel
theorem dX4_canBeDone_50 : decode cX4_canBeDone 50 = .ok (.iload_n 3, 1) := by decide +kernel
theorem dX4_canBeDone_51 : decode cX4_canBeDone 51 = .ok (.invokevirtual 53, 3) := by decide +kernel
theorem dX4_canBeDone_54 : decode cX4_canBeDone 54 = .ok (.ifCond .eq 18, 3) := by decide +kernel
theorem dX4_canBeDone_57 : decode cX4_canBeDone 57 = .ok (.aload_n 0, 1) := by decide +kernel
theorem dX4_canBeDone_58 : decode cX4_canBeDone 58 = .ok (.iload_n 2, 1) := by decide +kernel
theorem dX4_canBeDone_59 : decode cX4_canBeDone 59 = .ok (.iload_n 3, 1) := by decide +kernel
theorem dX4_canBeDone_60 : decode cX4_canBeDone 60 = .ok (.invokevirtual 61, 3) := by decide +kernel
theorem dX4_canBeDone_63 : decode cX4_canBeDone 63 = .ok (.bipush 9, 2) := by decide +kernel
theorem dX4_canBeDone_65 : decode cX4_canBeDone 65 = .ok (.if_icmp .ge 7, 3) := by decide +kernel
theorem dX4_canBeDone_68 : decode cX4_canBeDone 68 = .ok (.iconst 1, 1) := by decide +kernel
theorem dX4_canBeDone_69 : decode cX4_canBeDone 69 = .ok (.goto 4, 3) := by decide +kernel
theorem dX4_canBeDone_72 : decode cX4_canBeDone 72 = .ok (.iconst 0, 1) := by decide +kernel
theorem dX4_canBeDone_73 : decode cX4_canBeDone 73 = .ok (.ireturn, 1) := by decide +kernel
theorem dX4_canBeDone_74 : decode cX4_canBeDone 74 = .ok (.aload_n 0, 1) := by decide +kernel
theorem dX4_canBeDone_75 : decode cX4_canBeDone 75 = .ok (.iload_n 2, 1) := by decide +kernel
theorem dX4_canBeDone_76 : decode cX4_canBeDone 76 = .ok (.iload_n 3, 1) := by decide +kernel
theorem dX4_canBeDone_77 : decode cX4_canBeDone 77 = .ok (.invokevirtual 82, 3) := by decide +kernel
theorem dX4_canBeDone_80 : decode cX4_canBeDone 80 = .ok (.ireturn, 1) := by decide +kernel
theorem dX4_canBeDone_81 : decode cX4_canBeDone 81 = .ok (.aload_n 0, 1) := by decide +kernel
theorem dX4_canBeDone_82 : decode cX4_canBeDone 82 = .ok (.iload_n 2, 1) := by decide +kernel
theorem dX4_canBeDone_83 : decode cX4_canBeDone 83 = .ok (.iload_n 3, 1) := by decide +kernel
theorem dX4_canBeDone_84 : decode cX4_canBeDone 84 = .ok (.invokevirtual 82, 3) := by decide +kernel
theorem dX4_canBeDone_87 : decode cX4_canBeDone 87 = .ok (.ifCond .eq 18, 3) := by decide +kernel
theorem dX4_canBeDone_90 : decode cX4_canBeDone 90 = .ok (.aload_n 0, 1) := by decide +kernel
theorem dX4_canBeDone_91 : decode cX4_canBeDone 91 = .ok (.iload_n 2, 1) := by decide +kernel
theorem dX4_canBeDone_92 : decode cX4_canBeDone 92 = .ok (.iload_n 3, 1) := by decide +kernel
theorem dX4_canBeDone_93 : decode cX4_canBeDone 93 = .ok (.invokevirtual 61, 3) := by decide +kernel
theorem dX4_canBeDone_96 : decode cX4_canBeDone 96 = .ok (.bipush 9, 2) := by decide +kernel
theorem dX4_canBeDone_98 : decode cX4_canBeDone 98 = .ok (.if_icmp .ge 7, 3) := by decide +kernel
theorem dX4_canBeDone_101 : decode cX4_canBeDone 101 = .ok (.iconst 1, 1) := by decide +kernel
theorem dX4_canBeDone_102 : decode cX4_canBeDone 102 = .ok (.goto 4, 3) := by decide +kernel
theorem dX4_canBeDone_105 : decode cX4_canBeDone 105 = .ok (.iconst 0, 1) := by decide +kernel
theorem dX4_canBeDone_106 : decode cX4_canBeDone 106 = .ok (.ireturn, 1) := by decide +kernel
theorem dX4_canBeDone_107 : decode cX4_canBeDone 107 = .ok (.aload_n 0, 1) := by decide +kernel
theorem dX4_canBeDone_108 : decode cX4_canBeDone 108 = .ok (.iload_n 2, 1) := by decide +kernel
theorem dX4_canBeDone_109 : decode cX4_canBeDone 109 = .ok (.iload_n 3, 1) := by decide +kernel
theorem dX4_canBeDone_110 : decode cX4_canBeDone 110 = .ok (.invokevirtual 85, 3) := by decide +kernel
theorem dX4_canBeDone_113 : decode cX4_canBeDone 113 = .ok (.ireturn, 1) := by decide +kernel
theorem dX4_canBeDone_114 : decode cX4_canBeDone 114 = .ok (.aload_n 0, 1) := by decide +kernel
theorem dX4_canBeDone_115 : decode cX4_canBeDone 115 = .ok (.iload_n 2, 1) := by decide +kernel
theorem dX4_canBeDone_116 : decode cX4_canBeDone 116 = .ok (.invokevirtual 53, 3) := by decide +kernel
theorem dX4_canBeDone_119 : decode cX4_canBeDone 119 = .ok (.ireturn, 1) := by decide +kernel
theorem dX4_canBeDone_120 : decode cX4_canBeDone 120 = .ok (.iload_n 1, 1) := by decide +kernel
theorem dX4_canBeDone_121 : decode cX4_canBeDone 121 = .ok (.iconst 5, 1) := by decide +kernel
theorem dX4_canBeDone_122 : decode cX4_canBeDone 122 = .ok (.if_icmp .ne 7, 3) := by decide +kernel
theorem dX4_canBeDone_125 : decode cX4_canBeDone 125 = .ok (.iconst 1, 1) := by decide +kernel
theorem dX4_canBeDone_126 : decode cX4_canBeDone 126 = .ok (.goto 4, 3) := by decide +kernel
theorem dX4_canBeDone_129 : decode cX4_canBeDone 129 = .ok (.iconst 0, 1) := by decide +kernel
theorem dX4_canBeDone_130 : decode cX4_canBeDone 130 = .ok (.ireturn, 1) := by decide +kernel
set_option maxRecDepth 20000 in
theorem ggX4_perform_X4_oweOneMore : GoodIn wsX4_perform wsX4_oweOneMore := goodIn_r _ [5, 6, 7, 8, 9, 10, 11, 12, 4, 13, 14, 15, 16, 17, 18, 19, 48, 49, 50, 51, 52, 53, 54, 55] (by decide +kernel) (by decide +kernel)
set_option maxRecDepth 20000 in
theorem gX4_perform_X4_oweOneMore : GoodIn wsX4_perform (wsV RX4 88 RX4 yX4_oweOneMore wsX4_oweOneMore) := goodIn_app (goodIn_of _ (by decide +kernel)) ggX4_perform_X4_oweOneMore
set_option maxRecDepth 20000 in
theorem ggX4_perform_X4_pay : GoodIn wsX4_perform wsX4_pay := goodIn_r _ [23, 24, 25, 26, 27, 4, 28, 29, 10, 11, 12, 13, 14, 15, 16, 17, 18, 19, 48, 49, 50, 51, 52, 53, 54, 55] (by decide +kernel) (by decide +kernel)
set_option maxRecDepth 20000 in
theorem gX4_perform_X4_pay : GoodIn wsX4_perform (wsV RX4 91 RX4 yX4_pay wsX4_pay) := goodIn_app (goodIn_of _ (by decide +kernel)) ggX4_perform_X4_pay
set_option maxRecDepth 20000 in
theorem ggX4_perform_X4_bury : GoodIn wsX4_perform wsX4_bury := goodIn_r _ [33, 34, 35, 15, 16, 17, 4, 18, 19, 14, 48, 49, 50, 51, 52, 53, 54, 55] (by decide +kernel) (by decide +kernel)
set_option maxRecDepth 20000 in
theorem gX4_perform_X4_bury : GoodIn wsX4_perform (wsV RX4 94 RX4 yX4_bury wsX4_bury) := goodIn_app (goodIn_of _ (by decide +kernel)) ggX4_perform_X4_bury
set_option maxRecDepth 20000 in
theorem ggX4_perform_X4_passDays : GoodIn wsX4_perform wsX4_passDays := goodIn_r _ [39, 40, 41, 42, 4, 43, 29, 35, 24, 44, 45, 46, 47, 34, 1, 2, 3, 5, 6, 7, 8, 9, 10, 11, 12, 13, 14, 15, 16, 17, 18, 19, 48, 49, 50, 51, 52, 53, 54, 55] (by decide +kernel) (by decide +kernel)
set_option maxRecDepth 20000 in
theorem gX4_perform_X4_passDays : GoodIn wsX4_perform (wsV RX4 97 RX4 yX4_passDays wsX4_passDays) := goodIn_app (goodIn_of _ (by decide +kernel)) ggX4_perform_X4_passDays
theorem dX4_perform_0 : decode cX4_perform 0 = .ok (.iload_n 1, 1) := by decide +kernel
theorem dX4_perform_1 : decode cX4_perform 1 = .ok (.tableswitch 76 0 4 #[35, 44, 35, 53, 68], 35) := by decide +kernel
theorem dX4_perform_36 : decode cX4_perform 36 = .ok (.aload_n 0, 1) := by decide +kernel
theorem dX4_perform_37 : decode cX4_perform 37 = .ok (.iload_n 2, 1) := by decide +kernel
theorem dX4_perform_38 : decode cX4_perform 38 = .ok (.iload_n 3, 1) := by decide +kernel
theorem dX4_perform_39 : decode cX4_perform 39 = .ok (.invokevirtual 88, 3) := by decide +kernel
theorem dX4_perform_42 : decode cX4_perform 42 = .ok (.goto 40, 3) := by decide +kernel
theorem dX4_perform_45 : decode cX4_perform 45 = .ok (.aload_n 0, 1) := by decide +kernel
theorem dX4_perform_46 : decode cX4_perform 46 = .ok (.iload_n 2, 1) := by decide +kernel
theorem dX4_perform_47 : decode cX4_perform 47 = .ok (.iload_n 3, 1) := by decide +kernel
theorem dX4_perform_48 : decode cX4_perform 48 = .ok (.invokevirtual 91, 3) := by decide +kernel
theorem dX4_perform_51 : decode cX4_perform 51 = .ok (.goto 31, 3) := by decide +kernel
theorem dX4_perform_54 : decode cX4_perform 54 = .ok (.aload_n 0, 1) := by decide +kernel
theorem dX4_perform_55 : decode cX4_perform 55 = .ok (.iload_n 2, 1) := by decide +kernel
theorem dX4_perform_56 : decode cX4_perform 56 = .ok (.iload_n 3, 1) := by decide +kernel
theorem dX4_perform_57 : decode cX4_perform 57 = .ok (.invokevirtual 91, 3) := by decide +kernel
theorem dX4_perform_60 : decode cX4_perform 60 = .ok (.aload_n 0, 1) := by decide +kernel
theorem dX4_perform_61 : decode cX4_perform 61 = .ok (.iload_n 3, 1) := by decide +kernel
theorem dX4_perform_62 : decode cX4_perform 62 = .ok (.iload_n 2, 1) := by decide +kernel
theorem dX4_perform_63 : decode cX4_perform 63 = .ok (.invokevirtual 91, 3) := by decide +kernel
theorem dX4_perform_66 : decode cX4_perform 66 = .ok (.goto 16, 3) := by decide +kernel
theorem dX4_perform_69 : decode cX4_perform 69 = .ok (.aload_n 0, 1) := by decide +kernel
theorem dX4_perform_70 : decode cX4_perform 70 = .ok (.iload_n 2, 1) := by decide +kernel
theorem dX4_perform_71 : decode cX4_perform 71 = .ok (.invokevirtual 94, 3) := by decide +kernel
theorem dX4_perform_74 : decode cX4_perform 74 = .ok (.goto 8, 3) := by decide +kernel
theorem dX4_perform_77 : decode cX4_perform 77 = .ok (.aload_n 0, 1) := by decide +kernel
theorem dX4_perform_78 : decode cX4_perform 78 = .ok (.iload_n 2, 1) := by decide +kernel
theorem dX4_perform_79 : decode cX4_perform 79 = .ok (.invokevirtual 97, 3) := by decide +kernel
theorem dX4_perform_82 : decode cX4_perform 82 = .ok (.return_, 1) := by decide +kernel
set_option maxRecDepth 20000 in
theorem ggX4_canBow_X4_debt : GoodIn wsX4_canBow wsX4_debt := goodIn_r _ [5, 6, 13, 14, 15, 16, 17, 18, 19, 20] (by decide +kernel) (by decide +kernel)
set_option maxRecDepth 20000 in
theorem gX4_canBow_X4_debt : GoodIn wsX4_canBow (wsV RX4 61 RX4 yX4_debt wsX4_debt) := goodIn_app (goodIn_of _ (by decide +kernel)) ggX4_canBow_X4_debt
set_option maxRecDepth 20000 in
theorem ggX4_canBow_X4_takesApology : GoodIn wsX4_canBow wsX4_takesApology := goodIn_r _ [10, 11, 12, 13, 14, 15, 16, 17, 18, 19, 20] (by decide +kernel) (by decide +kernel)
set_option maxRecDepth 20000 in
theorem gX4_canBow_X4_takesApology : GoodIn wsX4_canBow (wsV RX4 100 RX4 yX4_takesApology wsX4_takesApology) := goodIn_app (goodIn_of _ (by decide +kernel)) ggX4_canBow_X4_takesApology
theorem dX4_canBow_0 : decode cX4_canBow 0 = .ok (.aload_n 0, 1) := by decide +kernel
theorem dX4_canBow_1 : decode cX4_canBow 1 = .ok (.iload_n 1, 1) := by decide +kernel
theorem dX4_canBow_2 : decode cX4_canBow 2 = .ok (.iload_n 2, 1) := by decide +kernel
theorem dX4_canBow_3 : decode cX4_canBow 3 = .ok (.invokevirtual 61, 3) := by decide +kernel
theorem dX4_canBow_6 : decode cX4_canBow 6 = .ok (.ifCond .le 15, 3) := by decide +kernel
theorem dX4_canBow_9 : decode cX4_canBow 9 = .ok (.aload_n 0, 1) := by decide +kernel
theorem dX4_canBow_10 : decode cX4_canBow 10 = .ok (.iload_n 2, 1) := by decide +kernel
theorem dX4_canBow_11 : decode cX4_canBow 11 = .ok (.invokevirtual 100, 3) := by decide +kernel
theorem dX4_canBow_14 : decode cX4_canBow 14 = .ok (.ifCond .eq 7, 3) := by decide +kernel
theorem dX4_canBow_17 : decode cX4_canBow 17 = .ok (.iconst 1, 1) := by decide +kernel
theorem dX4_canBow_18 : decode cX4_canBow 18 = .ok (.goto 4, 3) := by decide +kernel
theorem dX4_canBow_21 : decode cX4_canBow 21 = .ok (.iconst 0, 1) := by decide +kernel
theorem dX4_canBow_22 : decode cX4_canBow 22 = .ok (.ireturn, 1) := by decide +kernel
set_option maxRecDepth 20000 in
theorem ggX4_canBowAtOnce_X4_debt : GoodIn wsX4_canBowAtOnce wsX4_debt := goodIn_r _ [6, 7, 8, 9, 10, 11, 12, 13, 14, 15] (by decide +kernel) (by decide +kernel)
set_option maxRecDepth 20000 in
theorem gX4_canBowAtOnce_X4_debt : GoodIn wsX4_canBowAtOnce (wsV RX4 61 RX4 yX4_debt wsX4_debt) := goodIn_app (goodIn_of _ (by decide +kernel)) ggX4_canBowAtOnce_X4_debt
theorem dX4_canBowAtOnce_0 : decode cX4_canBowAtOnce 0 = .ok (.aload_n 0, 1) := by decide +kernel
theorem dX4_canBowAtOnce_1 : decode cX4_canBowAtOnce 1 = .ok (.iload_n 1, 1) := by decide +kernel
theorem dX4_canBowAtOnce_2 : decode cX4_canBowAtOnce 2 = .ok (.iload_n 2, 1) := by decide +kernel
theorem dX4_canBowAtOnce_3 : decode cX4_canBowAtOnce 3 = .ok (.invokevirtual 61, 3) := by decide +kernel
theorem dX4_canBowAtOnce_6 : decode cX4_canBowAtOnce 6 = .ok (.ifCond .le 46, 3) := by decide +kernel
theorem dX4_canBowAtOnce_9 : decode cX4_canBowAtOnce 9 = .ok (.aload_n 0, 1) := by decide +kernel
theorem dX4_canBowAtOnce_10 : decode cX4_canBowAtOnce 10 = .ok (.iload_n 2, 1) := by decide +kernel
theorem dX4_canBowAtOnce_11 : decode cX4_canBowAtOnce 11 = .ok (.iload_n 1, 1) := by decide +kernel
theorem dX4_canBowAtOnce_12 : decode cX4_canBowAtOnce 12 = .ok (.invokevirtual 61, 3) := by decide +kernel
theorem dX4_canBowAtOnce_15 : decode cX4_canBowAtOnce 15 = .ok (.ifCond .le 37, 3) := by decide +kernel
theorem dX4_canBowAtOnce_18 : decode cX4_canBowAtOnce 18 = .ok (.aload_n 0, 1) := by decide +kernel
theorem dX4_canBowAtOnce_19 : decode cX4_canBowAtOnce 19 = .ok (.getfield 21, 3) := by decide +kernel
theorem dX4_canBowAtOnce_22 : decode cX4_canBowAtOnce 22 = .ok (.iload_n 1, 1) := by decide +kernel
theorem dX4_canBowAtOnce_23 : decode cX4_canBowAtOnce 23 = .ok (.iaload, 1) := by decide +kernel
theorem dX4_canBowAtOnce_24 : decode cX4_canBowAtOnce 24 = .ok (.aload_n 0, 1) := by decide +kernel
theorem dX4_canBowAtOnce_25 : decode cX4_canBowAtOnce 25 = .ok (.iload_n 1, 1) := by decide +kernel
theorem dX4_canBowAtOnce_26 : decode cX4_canBowAtOnce 26 = .ok (.iload_n 2, 1) := by decide +kernel
theorem dX4_canBowAtOnce_27 : decode cX4_canBowAtOnce 27 = .ok (.invokevirtual 61, 3) := by decide +kernel
theorem dX4_canBowAtOnce_30 : decode cX4_canBowAtOnce 30 = .ok (.if_icmp .ne 22, 3) := by decide +kernel
theorem dX4_canBowAtOnce_33 : decode cX4_canBowAtOnce 33 = .ok (.aload_n 0, 1) := by decide +kernel
theorem dX4_canBowAtOnce_34 : decode cX4_canBowAtOnce 34 = .ok (.getfield 21, 3) := by decide +kernel
theorem dX4_canBowAtOnce_37 : decode cX4_canBowAtOnce 37 = .ok (.iload_n 2, 1) := by decide +kernel
theorem dX4_canBowAtOnce_38 : decode cX4_canBowAtOnce 38 = .ok (.iaload, 1) := by decide +kernel
theorem dX4_canBowAtOnce_39 : decode cX4_canBowAtOnce 39 = .ok (.aload_n 0, 1) := by decide +kernel
theorem dX4_canBowAtOnce_40 : decode cX4_canBowAtOnce 40 = .ok (.iload_n 2, 1) := by decide +kernel
theorem dX4_canBowAtOnce_41 : decode cX4_canBowAtOnce 41 = .ok (.iload_n 1, 1) := by decide +kernel
theorem dX4_canBowAtOnce_42 : decode cX4_canBowAtOnce 42 = .ok (.invokevirtual 61, 3) := by decide +kernel
theorem dX4_canBowAtOnce_45 : decode cX4_canBowAtOnce 45 = .ok (.if_icmp .ne 7, 3) := by decide +kernel
theorem dX4_canBowAtOnce_48 : decode cX4_canBowAtOnce 48 = .ok (.iconst 1, 1) := by decide +kernel
theorem dX4_canBowAtOnce_49 : decode cX4_canBowAtOnce 49 = .ok (.goto 4, 3) := by decide +kernel
theorem dX4_canBowAtOnce_52 : decode cX4_canBowAtOnce 52 = .ok (.iconst 0, 1) := by decide +kernel
theorem dX4_canBowAtOnce_53 : decode cX4_canBowAtOnce 53 = .ok (.ireturn, 1) := by decide +kernel
theorem dX4_paysToday_0 : decode cX4_paysToday 0 = .ok (.aload_n 0, 1) := by decide +kernel
theorem dX4_paysToday_1 : decode cX4_paysToday 1 = .ok (.getfield 9, 3) := by decide +kernel
theorem dX4_paysToday_4 : decode cX4_paysToday 4 = .ok (.iload_n 1, 1) := by decide +kernel
theorem dX4_paysToday_5 : decode cX4_paysToday 5 = .ok (.iaload, 1) := by decide +kernel
theorem dX4_paysToday_6 : decode cX4_paysToday 6 = .ok (.iconst 3, 1) := by decide +kernel
theorem dX4_paysToday_7 : decode cX4_paysToday 7 = .ok (.if_icmp .ne 12, 3) := by decide +kernel
theorem dX4_paysToday_10 : decode cX4_paysToday 10 = .ok (.aload_n 0, 1) := by decide +kernel
theorem dX4_paysToday_11 : decode cX4_paysToday 11 = .ok (.getfield 28, 3) := by decide +kernel
theorem dX4_paysToday_14 : decode cX4_paysToday 14 = .ok (.iconst 2, 1) := by decide +kernel
theorem dX4_paysToday_15 : decode cX4_paysToday 15 = .ok (.irem, 1) := by decide +kernel
theorem dX4_paysToday_16 : decode cX4_paysToday 16 = .ok (.ifCond .ne 7, 3) := by decide +kernel
theorem dX4_paysToday_19 : decode cX4_paysToday 19 = .ok (.iconst 1, 1) := by decide +kernel
theorem dX4_paysToday_20 : decode cX4_paysToday 20 = .ok (.goto 4, 3) := by decide +kernel
theorem dX4_paysToday_23 : decode cX4_paysToday 23 = .ok (.iconst 0, 1) := by decide +kernel
theorem dX4_paysToday_24 : decode cX4_paysToday 24 = .ok (.ireturn, 1) := by decide +kernel
set_option maxRecDepth 20000 in
theorem ggX4_pay_X4_paysToday : GoodIn wsX4_pay wsX4_paysToday := goodIn_r _ [6, 1, 7, 18, 19, 20, 21, 22, 23, 24, 25] (by decide +kernel) (by decide +kernel)
set_option maxRecDepth 20000 in
theorem gX4_pay_X4_paysToday : GoodIn wsX4_pay (wsV RX4 103 RX4 yX4_paysToday wsX4_paysToday) := goodIn_app (goodIn_of _ (by decide +kernel)) ggX4_pay_X4_paysToday
set_option maxRecDepth 20000 in
theorem ggX4_pay_X4_debt : GoodIn wsX4_pay wsX4_debt := goodIn_r _ [11, 12, 18, 19, 20, 21, 22, 23, 24, 25] (by decide +kernel) (by decide +kernel)
set_option maxRecDepth 20000 in
theorem gX4_pay_X4_debt : GoodIn wsX4_pay (wsV RX4 61 RX4 yX4_debt wsX4_debt) := goodIn_app (goodIn_of _ (by decide +kernel)) ggX4_pay_X4_debt
set_option maxRecDepth 20000 in
theorem ggX4_pay_X4_setDebt : GoodIn wsX4_pay wsX4_setDebt := goodIn_r _ [16, 17, 12, 18, 19, 20, 21, 22, 23, 24, 25] (by decide +kernel) (by decide +kernel)
set_option maxRecDepth 20000 in
theorem gX4_pay_X4_setDebt : GoodIn wsX4_pay (wsV RX4 57 RX4 yX4_setDebt wsX4_setDebt) := goodIn_app (goodIn_of _ (by decide +kernel)) ggX4_pay_X4_setDebt
theorem dX4_pay_0 : decode cX4_pay 0 = .ok (.aload_n 0, 1) := by decide +kernel
theorem dX4_pay_1 : decode cX4_pay 1 = .ok (.iload_n 1, 1) := by decide +kernel
theorem dX4_pay_2 : decode cX4_pay 2 = .ok (.invokevirtual 103, 3) := by decide +kernel
theorem dX4_pay_5 : decode cX4_pay 5 = .ok (.ifCond .eq 40, 3) := by decide +kernel
theorem dX4_pay_8 : decode cX4_pay 8 = .ok (.aload_n 0, 1) := by decide +kernel
theorem dX4_pay_9 : decode cX4_pay 9 = .ok (.iload_n 1, 1) := by decide +kernel
theorem dX4_pay_10 : decode cX4_pay 10 = .ok (.iload_n 2, 1) := by decide +kernel
theorem dX4_pay_11 : decode cX4_pay 11 = .ok (.invokevirtual 61, 3) := by decide +kernel
theorem dX4_pay_14 : decode cX4_pay 14 = .ok (.ifCond .le 31, 3) := by decide +kernel
theorem dX4_pay_17 : decode cX4_pay 17 = .ok (.aload_n 0, 1) := by decide +kernel
theorem dX4_pay_18 : decode cX4_pay 18 = .ok (.iload_n 1, 1) := by decide +kernel
theorem dX4_pay_19 : decode cX4_pay 19 = .ok (.iload_n 2, 1) := by decide +kernel
theorem dX4_pay_20 : decode cX4_pay 20 = .ok (.aload_n 0, 1) := by decide +kernel
theorem dX4_pay_21 : decode cX4_pay 21 = .ok (.getfield 9, 3) := by decide +kernel
theorem dX4_pay_24 : decode cX4_pay 24 = .ok (.iload_n 1, 1) := by decide +kernel
theorem dX4_pay_25 : decode cX4_pay 25 = .ok (.iaload, 1) := by decide +kernel
theorem dX4_pay_26 : decode cX4_pay 26 = .ok (.iconst 2, 1) := by decide +kernel
theorem dX4_pay_27 : decode cX4_pay 27 = .ok (.if_icmp .ne 7, 3) := by decide +kernel
theorem dX4_pay_30 : decode cX4_pay 30 = .ok (.iconst 0, 1) := by decide +kernel
theorem dX4_pay_31 : decode cX4_pay 31 = .ok (.goto 11, 3) := by decide +kernel
theorem dX4_pay_34 : decode cX4_pay 34 = .ok (.aload_n 0, 1) := by decide +kernel
theorem dX4_pay_35 : decode cX4_pay 35 = .ok (.iload_n 1, 1) := by decide +kernel
theorem dX4_pay_36 : decode cX4_pay 36 = .ok (.iload_n 2, 1) := by decide +kernel
theorem dX4_pay_37 : decode cX4_pay 37 = .ok (.invokevirtual 61, 3) := by decide +kernel
theorem dX4_pay_40 : decode cX4_pay 40 = .ok (.iconst 1, 1) := by decide +kernel
theorem dX4_pay_41 : decode cX4_pay 41 = .ok (.isub, 1) := by decide +kernel
theorem dX4_pay_42 : decode cX4_pay 42 = .ok (.invokevirtual 57, 3) := by decide +kernel
theorem dX4_pay_45 : decode cX4_pay 45 = .ok (.return_, 1) := by decide +kernel
set_option maxRecDepth 20000 in
theorem ggX4_oweOneMore_X4_debt : GoodIn wsX4_oweOneMore wsX4_debt := goodIn_r _ [9, 10, 16, 17, 18, 19, 20, 21, 22, 23] (by decide +kernel) (by decide +kernel)
set_option maxRecDepth 20000 in
theorem gX4_oweOneMore_X4_debt : GoodIn wsX4_oweOneMore (wsV RX4 61 RX4 yX4_debt wsX4_debt) := goodIn_app (goodIn_of _ (by decide +kernel)) ggX4_oweOneMore_X4_debt
set_option maxRecDepth 20000 in
theorem ggX4_oweOneMore_X4_setDebt : GoodIn wsX4_oweOneMore wsX4_setDebt := goodIn_r _ [14, 15, 10, 16, 17, 18, 19, 20, 21, 22, 23] (by decide +kernel) (by decide +kernel)
set_option maxRecDepth 20000 in
theorem gX4_oweOneMore_X4_setDebt : GoodIn wsX4_oweOneMore (wsV RX4 57 RX4 yX4_setDebt wsX4_setDebt) := goodIn_app (goodIn_of _ (by decide +kernel)) ggX4_oweOneMore_X4_setDebt
theorem dX4_oweOneMore_0 : decode cX4_oweOneMore 0 = .ok (.aload_n 0, 1) := by decide +kernel
theorem dX4_oweOneMore_1 : decode cX4_oweOneMore 1 = .ok (.iload_n 1, 1) := by decide +kernel
theorem dX4_oweOneMore_2 : decode cX4_oweOneMore 2 = .ok (.iload_n 2, 1) := by decide +kernel
theorem dX4_oweOneMore_3 : decode cX4_oweOneMore 3 = .ok (.bipush 9, 2) := by decide +kernel
theorem dX4_oweOneMore_5 : decode cX4_oweOneMore 5 = .ok (.aload_n 0, 1) := by decide +kernel
theorem dX4_oweOneMore_6 : decode cX4_oweOneMore 6 = .ok (.iload_n 1, 1) := by decide +kernel
theorem dX4_oweOneMore_7 : decode cX4_oweOneMore 7 = .ok (.iload_n 2, 1) := by decide +kernel
theorem dX4_oweOneMore_8 : decode cX4_oweOneMore 8 = .ok (.invokevirtual 61, 3) := by decide +kernel
theorem dX4_oweOneMore_11 : decode cX4_oweOneMore 11 = .ok (.iconst 1, 1) := by decide +kernel
theorem dX4_oweOneMore_12 : decode cX4_oweOneMore 12 = .ok (.iadd, 1) := by decide +kernel
theorem dX4_oweOneMore_13 : decode cX4_oweOneMore 13 = .ok (.invokestatic 106, 3) := by decide +kernel
theorem dX4_oweOneMore_16 : decode cX4_oweOneMore 16 = .ok (.invokevirtual 57, 3) := by decide +kernel
theorem dX4_oweOneMore_19 : decode cX4_oweOneMore 19 = .ok (.return_, 1) := by decide +kernel
set_option maxRecDepth 20000 in
theorem ggX4_bury_X4_setDebt : GoodIn wsX4_bury wsX4_setDebt := goodIn_r _ [7, 8, 9, 10, 11, 12, 13, 14, 15, 16, 17] (by decide +kernel) (by decide +kernel)
set_option maxRecDepth 20000 in
theorem gX4_bury_X4_setDebt : GoodIn wsX4_bury (wsV RX4 57 RX4 yX4_setDebt wsX4_setDebt) := goodIn_app (goodIn_of _ (by decide +kernel)) ggX4_bury_X4_setDebt
theorem dX4_bury_0 : decode cX4_bury 0 = .ok (.aload_n 0, 1) := by decide +kernel
theorem dX4_bury_1 : decode cX4_bury 1 = .ok (.dup, 1) := by decide +kernel
theorem dX4_bury_2 : decode cX4_bury 2 = .ok (.getfield 34, 3) := by decide +kernel
theorem dX4_bury_5 : decode cX4_bury 5 = .ok (.iconst 1, 1) := by decide +kernel
theorem dX4_bury_6 : decode cX4_bury 6 = .ok (.iload_n 1, 1) := by decide +kernel
theorem dX4_bury_7 : decode cX4_bury 7 = .ok (.ishl, 1) := by decide +kernel
theorem dX4_bury_8 : decode cX4_bury 8 = .ok (.iconst (-1), 1) := by decide +kernel
theorem dX4_bury_9 : decode cX4_bury 9 = .ok (.ixor, 1) := by decide +kernel
theorem dX4_bury_10 : decode cX4_bury 10 = .ok (.iand, 1) := by decide +kernel
theorem dX4_bury_11 : decode cX4_bury 11 = .ok (.putfield 34, 3) := by decide +kernel
theorem dX4_bury_14 : decode cX4_bury 14 = .ok (.iconst 0, 1) := by decide +kernel
theorem dX4_bury_15 : decode cX4_bury 15 = .ok (.istore_n 2, 1) := by decide +kernel
theorem dX4_bury_16 : decode cX4_bury 16 = .ok (.iload_n 2, 1) := by decide +kernel
theorem dX4_bury_17 : decode cX4_bury 17 = .ok (.aload_n 0, 1) := by decide +kernel
theorem dX4_bury_18 : decode cX4_bury 18 = .ok (.getfield 24, 3) := by decide +kernel
theorem dX4_bury_21 : decode cX4_bury 21 = .ok (.if_icmp .ge 23, 3) := by decide +kernel
theorem dX4_bury_24 : decode cX4_bury 24 = .ok (.aload_n 0, 1) := by decide +kernel
theorem dX4_bury_25 : decode cX4_bury 25 = .ok (.iload_n 1, 1) := by decide +kernel
theorem dX4_bury_26 : decode cX4_bury 26 = .ok (.iload_n 2, 1) := by decide +kernel
theorem dX4_bury_27 : decode cX4_bury 27 = .ok (.iconst 0, 1) := by decide +kernel
theorem dX4_bury_28 : decode cX4_bury 28 = .ok (.invokevirtual 57, 3) := by decide +kernel
theorem dX4_bury_31 : decode cX4_bury 31 = .ok (.aload_n 0, 1) := by decide +kernel
theorem dX4_bury_32 : decode cX4_bury 32 = .ok (.iload_n 2, 1) := by decide +kernel
theorem dX4_bury_33 : decode cX4_bury 33 = .ok (.iload_n 1, 1) := by decide +kernel
theorem dX4_bury_34 : decode cX4_bury 34 = .ok (.iconst 0, 1) := by decide +kernel
theorem dX4_bury_35 : decode cX4_bury 35 = .ok (.invokevirtual 57, 3) := by decide +kernel
theorem dX4_bury_38 : decode cX4_bury 38 = .ok (.iinc 2 1, 3) := by decide +kernel
theorem dX4_bury_41 : decode cX4_bury 41 = .ok (.goto (-25), 3) := by decide +kernel
theorem dX4_bury_44 : decode cX4_bury 44 = .ok (.return_, 1) := by decide +kernel
set_option maxRecDepth 20000 in
theorem ggX4_passDays_X4_passDay : GoodIn wsX4_passDays wsX4_passDay := goodIn_r _ [5, 6, 7, 8, 9, 10, 11, 4, 12, 13, 14, 15, 16, 17, 18, 19, 20, 21, 22, 23, 24, 25, 26, 27, 28, 29, 30, 31, 32, 33, 34, 35, 36, 37, 38, 39] (by decide +kernel) (by decide +kernel)
set_option maxRecDepth 20000 in
theorem gX4_passDays_X4_passDay : GoodIn wsX4_passDays (wsV RX4 111 RX4 yX4_passDay wsX4_passDay) := goodIn_app (goodIn_of _ (by decide +kernel)) ggX4_passDays_X4_passDay
theorem dX4_passDays_0 : decode cX4_passDays 0 = .ok (.iconst 0, 1) := by decide +kernel
theorem dX4_passDays_1 : decode cX4_passDays 1 = .ok (.istore_n 2, 1) := by decide +kernel
theorem dX4_passDays_2 : decode cX4_passDays 2 = .ok (.iload_n 2, 1) := by decide +kernel
theorem dX4_passDays_3 : decode cX4_passDays 3 = .ok (.iload_n 1, 1) := by decide +kernel
theorem dX4_passDays_4 : decode cX4_passDays 4 = .ok (.if_icmp .ge 13, 3) := by decide +kernel
theorem dX4_passDays_7 : decode cX4_passDays 7 = .ok (.aload_n 0, 1) := by decide +kernel
theorem dX4_passDays_8 : decode cX4_passDays 8 = .ok (.invokevirtual 111, 3) := by decide +kernel
theorem dX4_passDays_11 : decode cX4_passDays 11 = .ok (.iinc 2 1, 3) := by decide +kernel
theorem dX4_passDays_14 : decode cX4_passDays 14 = .ok (.goto (-12), 3) := by decide +kernel
theorem dX4_passDays_17 : decode cX4_passDays 17 = .ok (.return_, 1) := by decide +kernel
set_option maxRecDepth 20000 in
theorem ggX4_passDay_X4_isAlive : GoodIn wsX4_passDay wsX4_isAlive := goodIn_r _ [8, 9, 28, 29, 30, 31, 32, 33, 34, 35] (by decide +kernel) (by decide +kernel)
set_option maxRecDepth 20000 in
theorem gX4_passDay_X4_isAlive : GoodIn wsX4_passDay (wsV RX4 53 RX4 yX4_isAlive wsX4_isAlive) := goodIn_app (goodIn_of _ (by decide +kernel)) ggX4_passDay_X4_isAlive
set_option maxRecDepth 20000 in
theorem ggX4_passDay_X4_oweOneMore : GoodIn wsX4_passDay wsX4_oweOneMore := goodIn_r _ [13, 14, 15, 16, 17, 18, 19, 20, 7, 21, 22, 23, 24, 25, 26, 27, 28, 29, 30, 31, 32, 33, 34, 35] (by decide +kernel) (by decide +kernel)
set_option maxRecDepth 20000 in
theorem gX4_passDay_X4_oweOneMore : GoodIn wsX4_passDay (wsV RX4 88 RX4 yX4_oweOneMore wsX4_oweOneMore) := goodIn_app (goodIn_of _ (by decide +kernel)) ggX4_passDay_X4_oweOneMore
theorem dX4_passDay_0 : decode cX4_passDay 0 = .ok (.aload_n 0, 1) := by decide +kernel
theorem dX4_passDay_1 : decode cX4_passDay 1 = .ok (.dup, 1) := by decide +kernel
theorem dX4_passDay_2 : decode cX4_passDay 2 = .ok (.getfield 28, 3) := by decide +kernel
theorem dX4_passDay_5 : decode cX4_passDay 5 = .ok (.iconst 1, 1) := by decide +kernel
theorem dX4_passDay_6 : decode cX4_passDay 6 = .ok (.iadd, 1) := by decide +kernel
theorem dX4_passDay_7 : decode cX4_passDay 7 = .ok (.putfield 28, 3) := by decide +kernel
theorem dX4_passDay_10 : decode cX4_passDay 10 = .ok (.aload_n 0, 1) := by decide +kernel
theorem dX4_passDay_11 : decode cX4_passDay 11 = .ok (.getfield 28, 3) := by decide +kernel
theorem dX4_passDay_14 : decode cX4_passDay 14 = .ok (.bipush 7, 2) := by decide +kernel
theorem dX4_passDay_16 : decode cX4_passDay 16 = .ok (.irem, 1) := by decide +kernel
theorem dX4_passDay_17 : decode cX4_passDay 17 = .ok (.ifCond .eq 4, 3) := by decide +kernel
theorem dX4_passDay_20 : decode cX4_passDay 20 = .ok (.return_, 1) := by decide +kernel
theorem dX4_passDay_21 : decode cX4_passDay 21 = .ok (.iconst 0, 1) := by decide +kernel
theorem dX4_passDay_22 : decode cX4_passDay 22 = .ok (.istore_n 1, 1) := by decide +kernel
theorem dX4_passDay_23 : decode cX4_passDay 23 = .ok (.iload_n 1, 1) := by decide +kernel
theorem dX4_passDay_24 : decode cX4_passDay 24 = .ok (.aload_n 0, 1) := by decide +kernel
theorem dX4_passDay_25 : decode cX4_passDay 25 = .ok (.getfield 24, 3) := by decide +kernel
theorem dX4_passDay_28 : decode cX4_passDay 28 = .ok (.if_icmp .ge 62, 3) := by decide +kernel
theorem dX4_passDay_31 : decode cX4_passDay 31 = .ok (.iconst 0, 1) := by decide +kernel
theorem dX4_passDay_32 : decode cX4_passDay 32 = .ok (.istore_n 2, 1) := by decide +kernel
theorem dX4_passDay_33 : decode cX4_passDay 33 = .ok (.iload_n 2, 1) := by decide +kernel
theorem dX4_passDay_34 : decode cX4_passDay 34 = .ok (.aload_n 0, 1) := by decide +kernel
theorem dX4_passDay_35 : decode cX4_passDay 35 = .ok (.getfield 24, 3) := by decide +kernel
theorem dX4_passDay_38 : decode cX4_passDay 38 = .ok (.if_icmp .ge 46, 3) := by decide +kernel
theorem dX4_passDay_41 : decode cX4_passDay 41 = .ok (.iload_n 1, 1) := by decide +kernel
theorem dX4_passDay_42 : decode cX4_passDay 42 = .ok (.iload_n 2, 1) := by decide +kernel
theorem dX4_passDay_43 : decode cX4_passDay 43 = .ok (.if_icmp .eq 35, 3) := by decide +kernel
theorem dX4_passDay_46 : decode cX4_passDay 46 = .ok (.aload_n 0, 1) := by decide +kernel
theorem dX4_passDay_47 : decode cX4_passDay 47 = .ok (.getfield 9, 3) := by decide +kernel
theorem dX4_passDay_50 : decode cX4_passDay 50 = .ok (.iload_n 1, 1) := by decide +kernel
theorem dX4_passDay_51 : decode cX4_passDay 51 = .ok (.iaload, 1) := by decide +kernel
theorem dX4_passDay_52 : decode cX4_passDay 52 = .ok (.iconst 1, 1) := by decide +kernel
theorem dX4_passDay_53 : decode cX4_passDay 53 = .ok (.if_icmp .ne 25, 3) := by decide +kernel
theorem dX4_passDay_56 : decode cX4_passDay 56 = .ok (.aload_n 0, 1) := by decide +kernel
theorem dX4_passDay_57 : decode cX4_passDay 57 = .ok (.iload_n 1, 1) := by decide +kernel
theorem dX4_passDay_58 : decode cX4_passDay 58 = .ok (.invokevirtual 53, 3) := by decide +kernel
theorem dX4_passDay_61 : decode cX4_passDay 61 = .ok (.ifCond .eq 17, 3) := by decide +kernel
theorem dX4_passDay_64 : decode cX4_passDay 64 = .ok (.aload_n 0, 1) := by decide +kernel
theorem dX4_passDay_65 : decode cX4_passDay 65 = .ok (.iload_n 2, 1) := by decide +kernel
theorem dX4_passDay_66 : decode cX4_passDay 66 = .ok (.invokevirtual 53, 3) := by decide +kernel
theorem dX4_passDay_69 : decode cX4_passDay 69 = .ok (.ifCond .eq 9, 3) := by decide +kernel
theorem dX4_passDay_72 : decode cX4_passDay 72 = .ok (.aload_n 0, 1) := by decide +kernel
theorem dX4_passDay_73 : decode cX4_passDay 73 = .ok (.iload_n 1, 1) := by decide +kernel
theorem dX4_passDay_74 : decode cX4_passDay 74 = .ok (.iload_n 2, 1) := by decide +kernel
theorem dX4_passDay_75 : decode cX4_passDay 75 = .ok (.invokevirtual 88, 3) := by decide +kernel
theorem dX4_passDay_78 : decode cX4_passDay 78 = .ok (.iinc 2 1, 3) := by decide +kernel
theorem dX4_passDay_81 : decode cX4_passDay 81 = .ok (.goto (-48), 3) := by decide +kernel
theorem dX4_passDay_84 : decode cX4_passDay 84 = .ok (.iinc 1 1, 3) := by decide +kernel
theorem dX4_passDay_87 : decode cX4_passDay 87 = .ok (.goto (-64), 3) := by decide +kernel
theorem dX4_passDay_90 : decode cX4_passDay 90 = .ok (.return_, 1) := by decide +kernel
set_option maxRecDepth 20000 in
theorem ggX4_makePeace_X4_bowAllThatCanBe : GoodIn wsX4_makePeace wsX4_bowAllThatCanBe := goodIn_r _ [5, 6, 7, 8, 9, 10, 11, 4, 12, 13, 14, 15, 16, 17, 18, 19, 20, 21, 22, 23, 24, 25, 26, 27, 28, 29, 30, 43, 44, 45, 46, 47, 48, 49, 50] (by decide +kernel) (by decide +kernel)
set_option maxRecDepth 20000 in
theorem gX4_makePeace_X4_bowAllThatCanBe : GoodIn wsX4_makePeace (wsV RX4 114 RX4 yX4_bowAllThatCanBe wsX4_bowAllThatCanBe) := goodIn_app (goodIn_of _ (by decide +kernel)) ggX4_makePeace_X4_bowAllThatCanBe
set_option maxRecDepth 20000 in
theorem ggX4_makePeace_X4_firstTwoBowAtOnce : GoodIn wsX4_makePeace wsX4_firstTwoBowAtOnce := goodIn_r _ [34, 6, 35, 36, 37, 4, 38, 7, 13, 14, 15, 16, 17, 22, 23, 24, 25, 8, 26, 39, 40, 41, 42, 27, 28, 29, 30, 43, 44, 45, 46, 47, 48, 49, 50] (by decide +kernel) (by decide +kernel)
set_option maxRecDepth 20000 in
theorem gX4_makePeace_X4_firstTwoBowAtOnce : GoodIn wsX4_makePeace (wsV RX4 118 RX4 yX4_firstTwoBowAtOnce wsX4_firstTwoBowAtOnce) := goodIn_app (goodIn_of _ (by decide +kernel)) ggX4_makePeace_X4_firstTwoBowAtOnce
theorem dX4_makePeace_0 : decode cX4_makePeace 0 = .ok (.aload_n 0, 1) := by decide +kernel
theorem dX4_makePeace_1 : decode cX4_makePeace 1 = .ok (.invokevirtual 114, 3) := by decide +kernel
theorem dX4_makePeace_4 : decode cX4_makePeace 4 = .ok (.istore_n 1, 1) := by decide +kernel
theorem dX4_makePeace_5 : decode cX4_makePeace 5 = .ok (.iconst 0, 1) := by decide +kernel
theorem dX4_makePeace_6 : decode cX4_makePeace 6 = .ok (.istore_n 2, 1) := by decide +kernel
theorem dX4_makePeace_7 : decode cX4_makePeace 7 = .ok (.iload_n 2, 1) := by decide +kernel
theorem dX4_makePeace_8 : decode cX4_makePeace 8 = .ok (.sipush 504, 3) := by decide +kernel
theorem dX4_makePeace_11 : decode cX4_makePeace 11 = .ok (.if_icmp .ge 28, 3) := by decide +kernel
theorem dX4_makePeace_14 : decode cX4_makePeace 14 = .ok (.aload_n 0, 1) := by decide +kernel
theorem dX4_makePeace_15 : decode cX4_makePeace 15 = .ok (.invokevirtual 118, 3) := by decide +kernel
theorem dX4_makePeace_18 : decode cX4_makePeace 18 = .ok (.ifCond .ne 6, 3) := by decide +kernel
theorem dX4_makePeace_21 : decode cX4_makePeace 21 = .ok (.goto 18, 3) := by decide +kernel
theorem dX4_makePeace_24 : decode cX4_makePeace 24 = .ok (.iload_n 1, 1) := by decide +kernel
theorem dX4_makePeace_25 : decode cX4_makePeace 25 = .ok (.iconst 1, 1) := by decide +kernel
theorem dX4_makePeace_26 : decode cX4_makePeace 26 = .ok (.aload_n 0, 1) := by decide +kernel
theorem dX4_makePeace_27 : decode cX4_makePeace 27 = .ok (.invokevirtual 114, 3) := by decide +kernel
theorem dX4_makePeace_30 : decode cX4_makePeace 30 = .ok (.iadd, 1) := by decide +kernel
theorem dX4_makePeace_31 : decode cX4_makePeace 31 = .ok (.iadd, 1) := by decide +kernel
theorem dX4_makePeace_32 : decode cX4_makePeace 32 = .ok (.istore_n 1, 1) := by decide +kernel
theorem dX4_makePeace_33 : decode cX4_makePeace 33 = .ok (.iinc 2 1, 3) := by decide +kernel
theorem dX4_makePeace_36 : decode cX4_makePeace 36 = .ok (.goto (-29), 3) := by decide +kernel
theorem dX4_makePeace_39 : decode cX4_makePeace 39 = .ok (.iload_n 1, 1) := by decide +kernel
theorem dX4_makePeace_40 : decode cX4_makePeace 40 = .ok (.ireturn, 1) := by decide +kernel
set_option maxRecDepth 20000 in
theorem ggX4_bowAllThatCanBe_X4_canBow : GoodIn wsX4_bowAllThatCanBe wsX4_canBow := goodIn_r _ [8, 9, 10, 11, 7, 12, 13, 14, 15, 16, 17, 3, 2, 27, 28, 29, 30, 31, 32, 33, 34] (by decide +kernel) (by decide +kernel)
set_option maxRecDepth 20000 in
theorem gX4_bowAllThatCanBe_X4_canBow : GoodIn wsX4_bowAllThatCanBe (wsV RX4 82 RX4 yX4_canBow wsX4_canBow) := goodIn_app (goodIn_of _ (by decide +kernel)) ggX4_bowAllThatCanBe_X4_canBow
set_option maxRecDepth 20000 in
theorem ggX4_bowAllThatCanBe_X4_paysToday : GoodIn wsX4_bowAllThatCanBe wsX4_paysToday := goodIn_r _ [21, 3, 22, 27, 28, 29, 30, 31, 32, 33, 34] (by decide +kernel) (by decide +kernel)
set_option maxRecDepth 20000 in
theorem gX4_bowAllThatCanBe_X4_paysToday : GoodIn wsX4_bowAllThatCanBe (wsV RX4 103 RX4 yX4_paysToday wsX4_paysToday) := goodIn_app (goodIn_of _ (by decide +kernel)) ggX4_bowAllThatCanBe_X4_paysToday
set_option maxRecDepth 20000 in
theorem ggX4_bowAllThatCanBe_X4_debt : GoodIn wsX4_bowAllThatCanBe wsX4_debt := goodIn_r _ [12, 13, 27, 28, 29, 30, 31, 32, 33, 34] (by decide +kernel) (by decide +kernel)
set_option maxRecDepth 20000 in
theorem gX4_bowAllThatCanBe_X4_debt : GoodIn wsX4_bowAllThatCanBe (wsV RX4 61 RX4 yX4_debt wsX4_debt) := goodIn_app (goodIn_of _ (by decide +kernel)) ggX4_bowAllThatCanBe_X4_debt
set_option maxRecDepth 20000 in
theorem ggX4_bowAllThatCanBe_X4_setDebt : GoodIn wsX4_bowAllThatCanBe wsX4_setDebt := goodIn_r _ [26, 2, 13, 27, 28, 29, 30, 31, 32, 33, 34] (by decide +kernel) (by decide +kernel)
set_option maxRecDepth 20000 in
theorem gX4_bowAllThatCanBe_X4_setDebt : GoodIn wsX4_bowAllThatCanBe (wsV RX4 57 RX4 yX4_setDebt wsX4_setDebt) := goodIn_app (goodIn_of _ (by decide +kernel)) ggX4_bowAllThatCanBe_X4_setDebt
theorem dX4_bowAllThatCanBe_0 : decode cX4_bowAllThatCanBe 0 = .ok (.iconst 0, 1) := by decide +kernel
theorem dX4_bowAllThatCanBe_1 : decode cX4_bowAllThatCanBe 1 = .ok (.istore_n 1, 1) := by decide +kernel
theorem dX4_bowAllThatCanBe_2 : decode cX4_bowAllThatCanBe 2 = .ok (.iconst (-1), 1) := by decide +kernel
theorem dX4_bowAllThatCanBe_3 : decode cX4_bowAllThatCanBe 3 = .ok (.istore_n 2, 1) := by decide +kernel
theorem dX4_bowAllThatCanBe_4 : decode cX4_bowAllThatCanBe 4 = .ok (.iconst 0, 1) := by decide +kernel
theorem dX4_bowAllThatCanBe_5 : decode cX4_bowAllThatCanBe 5 = .ok (.istore_n 3, 1) := by decide +kernel
theorem dX4_bowAllThatCanBe_6 : decode cX4_bowAllThatCanBe 6 = .ok (.iload_n 3, 1) := by decide +kernel
theorem dX4_bowAllThatCanBe_7 : decode cX4_bowAllThatCanBe 7 = .ok (.sipush 504, 3) := by decide +kernel
theorem dX4_bowAllThatCanBe_10 : decode cX4_bowAllThatCanBe 10 = .ok (.if_icmp .ge 117, 3) := by decide +kernel
theorem dX4_bowAllThatCanBe_13 : decode cX4_bowAllThatCanBe 13 = .ok (.iload_n 1, 1) := by decide +kernel
theorem dX4_bowAllThatCanBe_14 : decode cX4_bowAllThatCanBe 14 = .ok (.iload_n 2, 1) := by decide +kernel
theorem dX4_bowAllThatCanBe_15 : decode cX4_bowAllThatCanBe 15 = .ok (.if_icmp .eq 112, 3) := by decide +kernel
theorem dX4_bowAllThatCanBe_18 : decode cX4_bowAllThatCanBe 18 = .ok (.iload_n 1, 1) := by decide +kernel
theorem dX4_bowAllThatCanBe_19 : decode cX4_bowAllThatCanBe 19 = .ok (.istore_n 2, 1) := by decide +kernel
theorem dX4_bowAllThatCanBe_20 : decode cX4_bowAllThatCanBe 20 = .ok (.iconst 0, 1) := by decide +kernel
theorem dX4_bowAllThatCanBe_21 : decode cX4_bowAllThatCanBe 21 = .ok (.istore 4, 2) := by decide +kernel
theorem dX4_bowAllThatCanBe_23 : decode cX4_bowAllThatCanBe 23 = .ok (.iload 4, 2) := by decide +kernel
theorem dX4_bowAllThatCanBe_25 : decode cX4_bowAllThatCanBe 25 = .ok (.aload_n 0, 1) := by decide +kernel
theorem dX4_bowAllThatCanBe_26 : decode cX4_bowAllThatCanBe 26 = .ok (.getfield 24, 3) := by decide +kernel
theorem dX4_bowAllThatCanBe_29 : decode cX4_bowAllThatCanBe 29 = .ok (.if_icmp .ge 92, 3) := by decide +kernel
theorem dX4_bowAllThatCanBe_32 : decode cX4_bowAllThatCanBe 32 = .ok (.iconst 0, 1) := by decide +kernel
theorem dX4_bowAllThatCanBe_33 : decode cX4_bowAllThatCanBe 33 = .ok (.istore 5, 2) := by decide +kernel
theorem dX4_bowAllThatCanBe_35 : decode cX4_bowAllThatCanBe 35 = .ok (.iload 5, 2) := by decide +kernel
theorem dX4_bowAllThatCanBe_37 : decode cX4_bowAllThatCanBe 37 = .ok (.aload_n 0, 1) := by decide +kernel
theorem dX4_bowAllThatCanBe_38 : decode cX4_bowAllThatCanBe 38 = .ok (.getfield 24, 3) := by decide +kernel
theorem dX4_bowAllThatCanBe_41 : decode cX4_bowAllThatCanBe 41 = .ok (.if_icmp .ge 74, 3) := by decide +kernel
theorem dX4_bowAllThatCanBe_44 : decode cX4_bowAllThatCanBe 44 = .ok (.aload_n 0, 1) := by decide +kernel
theorem dX4_bowAllThatCanBe_45 : decode cX4_bowAllThatCanBe 45 = .ok (.getfield 21, 3) := by decide +kernel
theorem dX4_bowAllThatCanBe_48 : decode cX4_bowAllThatCanBe 48 = .ok (.iload 4, 2) := by decide +kernel
theorem dX4_bowAllThatCanBe_50 : decode cX4_bowAllThatCanBe 50 = .ok (.iaload, 1) := by decide +kernel
theorem dX4_bowAllThatCanBe_51 : decode cX4_bowAllThatCanBe 51 = .ok (.ifCond .le 64, 3) := by decide +kernel
theorem dX4_bowAllThatCanBe_54 : decode cX4_bowAllThatCanBe 54 = .ok (.aload_n 0, 1) := by decide +kernel
theorem dX4_bowAllThatCanBe_55 : decode cX4_bowAllThatCanBe 55 = .ok (.iload 4, 2) := by decide +kernel
theorem dX4_bowAllThatCanBe_57 : decode cX4_bowAllThatCanBe 57 = .ok (.iload 5, 2) := by decide +kernel
theorem dX4_bowAllThatCanBe_59 : decode cX4_bowAllThatCanBe 59 = .ok (.invokevirtual 82, 3) := by decide +kernel
theorem dX4_bowAllThatCanBe_62 : decode cX4_bowAllThatCanBe 62 = .ok (.ifCond .eq 47, 3) := by decide +kernel
theorem dX4_bowAllThatCanBe_65 : decode cX4_bowAllThatCanBe 65 = .ok (.aload_n 0, 1) := by decide +kernel
theorem dX4_bowAllThatCanBe_66 : decode cX4_bowAllThatCanBe 66 = .ok (.iload 4, 2) := by decide +kernel
theorem dX4_bowAllThatCanBe_68 : decode cX4_bowAllThatCanBe 68 = .ok (.invokevirtual 103, 3) := by decide +kernel
theorem dX4_bowAllThatCanBe_71 : decode cX4_bowAllThatCanBe 71 = .ok (.ifCond .eq 38, 3) := by decide +kernel
theorem dX4_bowAllThatCanBe_74 : decode cX4_bowAllThatCanBe 74 = .ok (.iload_n 1, 1) := by decide +kernel
theorem dX4_bowAllThatCanBe_75 : decode cX4_bowAllThatCanBe 75 = .ok (.aload_n 0, 1) := by decide +kernel
theorem dX4_bowAllThatCanBe_76 : decode cX4_bowAllThatCanBe 76 = .ok (.getfield 9, 3) := by decide +kernel
theorem dX4_bowAllThatCanBe_79 : decode cX4_bowAllThatCanBe 79 = .ok (.iload 4, 2) := by decide +kernel
theorem dX4_bowAllThatCanBe_81 : decode cX4_bowAllThatCanBe 81 = .ok (.iaload, 1) := by decide +kernel
theorem dX4_bowAllThatCanBe_82 : decode cX4_bowAllThatCanBe 82 = .ok (.iconst 2, 1) := by decide +kernel
theorem dX4_bowAllThatCanBe_83 : decode cX4_bowAllThatCanBe 83 = .ok (.if_icmp .ne 7, 3) := by decide +kernel
theorem dX4_bowAllThatCanBe_86 : decode cX4_bowAllThatCanBe 86 = .ok (.iconst 1, 1) := by decide +kernel
theorem dX4_bowAllThatCanBe_87 : decode cX4_bowAllThatCanBe 87 = .ok (.goto 11, 3) := by decide +kernel
theorem dX4_bowAllThatCanBe_90 : decode cX4_bowAllThatCanBe 90 = .ok (.aload_n 0, 1) := by decide +kernel
theorem dX4_bowAllThatCanBe_91 : decode cX4_bowAllThatCanBe 91 = .ok (.iload 4, 2) := by decide +kernel
theorem dX4_bowAllThatCanBe_93 : decode cX4_bowAllThatCanBe 93 = .ok (.iload 5, 2) := by decide +kernel
theorem dX4_bowAllThatCanBe_95 : decode cX4_bowAllThatCanBe 95 = .ok (.invokevirtual 61, 3) := by decide +kernel
theorem dX4_bowAllThatCanBe_98 : decode cX4_bowAllThatCanBe 98 = .ok (.iadd, 1) := by decide +kernel
theorem dX4_bowAllThatCanBe_99 : decode cX4_bowAllThatCanBe 99 = .ok (.istore_n 1, 1) := by decide +kernel
theorem dX4_bowAllThatCanBe_100 : decode cX4_bowAllThatCanBe 100 = .ok (.aload_n 0, 1) := by decide +kernel
theorem dX4_bowAllThatCanBe_101 : decode cX4_bowAllThatCanBe 101 = .ok (.iload 4, 2) := by decide +kernel
theorem dX4_bowAllThatCanBe_103 : decode cX4_bowAllThatCanBe 103 = .ok (.iload 5, 2) := by decide +kernel
theorem dX4_bowAllThatCanBe_105 : decode cX4_bowAllThatCanBe 105 = .ok (.iconst 0, 1) := by decide +kernel
theorem dX4_bowAllThatCanBe_106 : decode cX4_bowAllThatCanBe 106 = .ok (.invokevirtual 57, 3) := by decide +kernel
theorem dX4_bowAllThatCanBe_109 : decode cX4_bowAllThatCanBe 109 = .ok (.iinc 5 1, 3) := by decide +kernel
theorem dX4_bowAllThatCanBe_112 : decode cX4_bowAllThatCanBe 112 = .ok (.goto (-77), 3) := by decide +kernel
theorem dX4_bowAllThatCanBe_115 : decode cX4_bowAllThatCanBe 115 = .ok (.iinc 4 1, 3) := by decide +kernel
theorem dX4_bowAllThatCanBe_118 : decode cX4_bowAllThatCanBe 118 = .ok (.goto (-95), 3) := by decide +kernel
theorem dX4_bowAllThatCanBe_121 : decode cX4_bowAllThatCanBe 121 = .ok (.iinc 3 1, 3) := by decide +kernel
theorem dX4_bowAllThatCanBe_124 : decode cX4_bowAllThatCanBe 124 = .ok (.goto (-118), 3) := by decide +kernel
theorem dX4_bowAllThatCanBe_127 : decode cX4_bowAllThatCanBe 127 = .ok (.iload_n 1, 1) := by decide +kernel
theorem dX4_bowAllThatCanBe_128 : decode cX4_bowAllThatCanBe 128 = .ok (.ireturn, 1) := by decide +kernel
set_option maxRecDepth 20000 in
theorem ggX4_firstTwoBowAtOnce_X4_canBowAtOnce : GoodIn wsX4_firstTwoBowAtOnce wsX4_canBowAtOnce := goodIn_r _ [6, 7, 8, 9, 10, 5, 11, 12, 27, 28, 29, 30, 31, 32, 33, 34] (by decide +kernel) (by decide +kernel)
set_option maxRecDepth 20000 in
theorem gX4_firstTwoBowAtOnce_X4_canBowAtOnce : GoodIn wsX4_firstTwoBowAtOnce (wsV RX4 85 RX4 yX4_canBowAtOnce wsX4_canBowAtOnce) := goodIn_app (goodIn_of _ (by decide +kernel)) ggX4_firstTwoBowAtOnce_X4_canBowAtOnce
set_option maxRecDepth 20000 in
theorem ggX4_firstTwoBowAtOnce_X4_paysToday : GoodIn wsX4_firstTwoBowAtOnce wsX4_paysToday := goodIn_r _ [16, 17, 18, 27, 28, 29, 30, 31, 32, 33, 34] (by decide +kernel) (by decide +kernel)
set_option maxRecDepth 20000 in
theorem gX4_firstTwoBowAtOnce_X4_paysToday : GoodIn wsX4_firstTwoBowAtOnce (wsV RX4 103 RX4 yX4_paysToday wsX4_paysToday) := goodIn_app (goodIn_of _ (by decide +kernel)) ggX4_firstTwoBowAtOnce_X4_paysToday
set_option maxRecDepth 20000 in
theorem ggX4_firstTwoBowAtOnce_X4_pay : GoodIn wsX4_firstTwoBowAtOnce wsX4_pay := goodIn_r _ [22, 17, 13, 14, 15, 5, 16, 18, 8, 9, 10, 11, 12, 23, 24, 25, 26, 7, 27, 28, 29, 30, 31, 32, 33, 34] (by decide +kernel) (by decide +kernel)
set_option maxRecDepth 20000 in
theorem gX4_firstTwoBowAtOnce_X4_pay : GoodIn wsX4_firstTwoBowAtOnce (wsV RX4 91 RX4 yX4_pay wsX4_pay) := goodIn_app (goodIn_of _ (by decide +kernel)) ggX4_firstTwoBowAtOnce_X4_pay
theorem dX4_firstTwoBowAtOnce_0 : decode cX4_firstTwoBowAtOnce 0 = .ok (.iconst 0, 1) := by decide +kernel
theorem dX4_firstTwoBowAtOnce_1 : decode cX4_firstTwoBowAtOnce 1 = .ok (.istore_n 1, 1) := by decide +kernel
theorem dX4_firstTwoBowAtOnce_2 : decode cX4_firstTwoBowAtOnce 2 = .ok (.iload_n 1, 1) := by decide +kernel
theorem dX4_firstTwoBowAtOnce_3 : decode cX4_firstTwoBowAtOnce 3 = .ok (.aload_n 0, 1) := by decide +kernel
theorem dX4_firstTwoBowAtOnce_4 : decode cX4_firstTwoBowAtOnce 4 = .ok (.getfield 24, 3) := by decide +kernel
theorem dX4_firstTwoBowAtOnce_7 : decode cX4_firstTwoBowAtOnce 7 = .ok (.if_icmp .ge 66, 3) := by decide +kernel
theorem dX4_firstTwoBowAtOnce_10 : decode cX4_firstTwoBowAtOnce 10 = .ok (.iload_n 1, 1) := by decide +kernel
theorem dX4_firstTwoBowAtOnce_11 : decode cX4_firstTwoBowAtOnce 11 = .ok (.iconst 1, 1) := by decide +kernel
theorem dX4_firstTwoBowAtOnce_12 : decode cX4_firstTwoBowAtOnce 12 = .ok (.iadd, 1) := by decide +kernel
theorem dX4_firstTwoBowAtOnce_13 : decode cX4_firstTwoBowAtOnce 13 = .ok (.istore_n 2, 1) := by decide +kernel
theorem dX4_firstTwoBowAtOnce_14 : decode cX4_firstTwoBowAtOnce 14 = .ok (.iload_n 2, 1) := by decide +kernel
theorem dX4_firstTwoBowAtOnce_15 : decode cX4_firstTwoBowAtOnce 15 = .ok (.aload_n 0, 1) := by decide +kernel
theorem dX4_firstTwoBowAtOnce_16 : decode cX4_firstTwoBowAtOnce 16 = .ok (.getfield 24, 3) := by decide +kernel
theorem dX4_firstTwoBowAtOnce_19 : decode cX4_firstTwoBowAtOnce 19 = .ok (.if_icmp .ge 48, 3) := by decide +kernel
theorem dX4_firstTwoBowAtOnce_22 : decode cX4_firstTwoBowAtOnce 22 = .ok (.aload_n 0, 1) := by decide +kernel
theorem dX4_firstTwoBowAtOnce_23 : decode cX4_firstTwoBowAtOnce 23 = .ok (.iload_n 1, 1) := by decide +kernel
theorem dX4_firstTwoBowAtOnce_24 : decode cX4_firstTwoBowAtOnce 24 = .ok (.iload_n 2, 1) := by decide +kernel
theorem dX4_firstTwoBowAtOnce_25 : decode cX4_firstTwoBowAtOnce 25 = .ok (.invokevirtual 85, 3) := by decide +kernel
theorem dX4_firstTwoBowAtOnce_28 : decode cX4_firstTwoBowAtOnce 28 = .ok (.ifCond .eq 33, 3) := by decide +kernel
theorem dX4_firstTwoBowAtOnce_31 : decode cX4_firstTwoBowAtOnce 31 = .ok (.aload_n 0, 1) := by decide +kernel
theorem dX4_firstTwoBowAtOnce_32 : decode cX4_firstTwoBowAtOnce 32 = .ok (.iload_n 1, 1) := by decide +kernel
theorem dX4_firstTwoBowAtOnce_33 : decode cX4_firstTwoBowAtOnce 33 = .ok (.invokevirtual 103, 3) := by decide +kernel
theorem dX4_firstTwoBowAtOnce_36 : decode cX4_firstTwoBowAtOnce 36 = .ok (.ifCond .ne 11, 3) := by decide +kernel
theorem dX4_firstTwoBowAtOnce_39 : decode cX4_firstTwoBowAtOnce 39 = .ok (.aload_n 0, 1) := by decide +kernel
theorem dX4_firstTwoBowAtOnce_40 : decode cX4_firstTwoBowAtOnce 40 = .ok (.iload_n 2, 1) := by decide +kernel
theorem dX4_firstTwoBowAtOnce_41 : decode cX4_firstTwoBowAtOnce 41 = .ok (.invokevirtual 103, 3) := by decide +kernel
theorem dX4_firstTwoBowAtOnce_44 : decode cX4_firstTwoBowAtOnce 44 = .ok (.ifCond .eq 17, 3) := by decide +kernel
theorem dX4_firstTwoBowAtOnce_47 : decode cX4_firstTwoBowAtOnce 47 = .ok (.aload_n 0, 1) := by decide +kernel
theorem dX4_firstTwoBowAtOnce_48 : decode cX4_firstTwoBowAtOnce 48 = .ok (.iload_n 1, 1) := by decide +kernel
theorem dX4_firstTwoBowAtOnce_49 : decode cX4_firstTwoBowAtOnce 49 = .ok (.iload_n 2, 1) := by decide +kernel
theorem dX4_firstTwoBowAtOnce_50 : decode cX4_firstTwoBowAtOnce 50 = .ok (.invokevirtual 91, 3) := by decide +kernel
theorem dX4_firstTwoBowAtOnce_53 : decode cX4_firstTwoBowAtOnce 53 = .ok (.aload_n 0, 1) := by decide +kernel
theorem dX4_firstTwoBowAtOnce_54 : decode cX4_firstTwoBowAtOnce 54 = .ok (.iload_n 2, 1) := by decide +kernel
theorem dX4_firstTwoBowAtOnce_55 : decode cX4_firstTwoBowAtOnce 55 = .ok (.iload_n 1, 1) := by decide +kernel
theorem dX4_firstTwoBowAtOnce_56 : decode cX4_firstTwoBowAtOnce 56 = .ok (.invokevirtual 91, 3) := by decide +kernel
theorem dX4_firstTwoBowAtOnce_59 : decode cX4_firstTwoBowAtOnce 59 = .ok (.iconst 1, 1) := by decide +kernel
theorem dX4_firstTwoBowAtOnce_60 : decode cX4_firstTwoBowAtOnce 60 = .ok (.ireturn, 1) := by decide +kernel
theorem dX4_firstTwoBowAtOnce_61 : decode cX4_firstTwoBowAtOnce 61 = .ok (.iinc 2 1, 3) := by decide +kernel
theorem dX4_firstTwoBowAtOnce_64 : decode cX4_firstTwoBowAtOnce 64 = .ok (.goto (-50), 3) := by decide +kernel
theorem dX4_firstTwoBowAtOnce_67 : decode cX4_firstTwoBowAtOnce 67 = .ok (.iinc 1 1, 3) := by decide +kernel
theorem dX4_firstTwoBowAtOnce_70 : decode cX4_firstTwoBowAtOnce 70 = .ok (.goto (-68), 3) := by decide +kernel
theorem dX4_firstTwoBowAtOnce_73 : decode cX4_firstTwoBowAtOnce 73 = .ok (.iconst 0, 1) := by decide +kernel
theorem dX4_firstTwoBowAtOnce_74 : decode cX4_firstTwoBowAtOnce 74 = .ok (.ireturn, 1) := by decide +kernel
set_option maxRecDepth 20000 in
theorem ggX5_init_X1_init : GoodIn wsX5_init wsX1_init := goodIn_r _ [31, 32, 2, 3, 28, 33, 182, 183] (by decide +kernel) (by decide +kernel)
set_option maxRecDepth 20000 in
theorem gX5_init_X1_init_n11 : GoodIn wsX5_init (wsX1_init) := ggX5_init_X1_init
set_option maxRecDepth 20000 in
theorem ggX5_init_X3_init : GoodIn wsX5_init wsX3_init := goodIn_r _ [35, 36, 2, 3, 28, 37, 197] (by decide +kernel) (by decide +kernel)
set_option maxRecDepth 20000 in
theorem gX5_init_X3_init_n18 : GoodIn wsX5_init (wsX3_init) := ggX5_init_X3_init
set_option maxRecDepth 20000 in
theorem ggX5_init_X5_firstTown : GoodIn wsX5_init wsX5_firstTown := goodIn_r _ [41, 4, 5, 6, 14, 15, 16, 8, 9, 10, 30, 31, 32, 2, 3, 28, 33, 42, 43, 44, 45, 46, 47, 48, 49, 50, 51, 52, 53, 54, 55, 56, 57, 58, 59, 60, 61, 62, 63, 64, 65, 66, 67, 68, 69, 70, 71, 72, 73, 74, 75, 76, 77, 78, 79, 80, 81, 82, 83, 84, 85, 86, 87, 88, 89, 90, 91, 92, 93, 94, 95, 96, 97, 98, 99, 100, 101, 102, 34, 35, 36, 37, 103, 104, 105, 106, 107, 108, 109, 110, 111, 112, 113, 114, 115, 116, 117, 118, 119, 120, 121, 122, 123, 124, 125, 126, 127, 128, 129, 130, 131, 132, 133, 134, 135, 136, 137, 138, 139, 140, 141, 142, 143, 144, 145, 146, 147, 148, 149, 150, 151, 152, 153, 154, 155, 156, 157, 158, 159, 160, 161, 162, 163, 164, 165, 166, 167, 168, 169, 170, 182, 183, 198, 199, 200, 201, 202, 203, 204, 205, 197] (by decide +kernel) (by decide +kernel)
set_option maxRecDepth 20000 in
theorem gX5_init_X5_firstTown : GoodIn wsX5_init (va_wsS RX5 23 yX5_firstTown wsX5_firstTown) := goodIn_app (goodIn_of _ (by decide +kernel)) ggX5_init_X5_firstTown
set_option maxRecDepth 20000 in
theorem ggX5_init_X4_init : GoodIn wsX5_init wsX4_init := goodIn_r _ [97, 98, 2, 3, 28, 99, 100, 101, 102, 198, 199, 200, 201, 202, 203, 204, 205] (by decide +kernel) (by decide +kernel)
set_option maxRecDepth 20000 in
theorem gX5_init_X4_init_n36 : GoodIn wsX5_init (wsX4_init) := ggX5_init_X4_init
set_option maxRecDepth 20000 in
theorem ggX5_init_X0_init : GoodIn wsX5_init wsX0_init := goodIn_r _ [172, 173, 2, 3, 28, 174, 175, 176, 206, 207, 208, 209] (by decide +kernel) (by decide +kernel)
set_option maxRecDepth 20000 in
theorem gX5_init_X0_init_n42 : GoodIn wsX5_init (wsX0_init) := ggX5_init_X0_init
set_option maxRecDepth 20000 in
theorem ggX5_init_X2_init : GoodIn wsX5_init wsX2_init := goodIn_r _ [178, 179, 2, 3, 28, 180, 181, 210, 211, 212] (by decide +kernel) (by decide +kernel)
set_option maxRecDepth 20000 in
theorem gX5_init_X2_init_n55 : GoodIn wsX5_init (wsX2_init) := ggX5_init_X2_init
theorem dX5_init_0 : decode cX5_init 0 = .ok (.aload_n 0, 1) := by decide +kernel
theorem dX5_init_1 : decode cX5_init 1 = .ok (.invokespecial 3, 3) := by decide +kernel
theorem dX5_init_4 : decode cX5_init 4 = .ok (.aload_n 0, 1) := by decide +kernel
theorem dX5_init_5 : decode cX5_init 5 = .ok (.new 9, 3) := by decide +kernel
theorem dX5_init_8 : decode cX5_init 8 = .ok (.dup, 1) := by decide +kernel
theorem dX5_init_9 : decode cX5_init 9 = .ok (.invokespecial 11, 3) := by decide +kernel
theorem dX5_init_12 : decode cX5_init 12 = .ok (.putfield 12, 3) := by decide +kernel
theorem dX5_init_15 : decode cX5_init 15 = .ok (.aload_n 0, 1) := by decide +kernel
theorem dX5_init_16 : decode cX5_init 16 = .ok (.new 16, 3) := by decide +kernel
theorem dX5_init_19 : decode cX5_init 19 = .ok (.dup, 1) := by decide +kernel
theorem dX5_init_20 : decode cX5_init 20 = .ok (.invokespecial 18, 3) := by decide +kernel
theorem dX5_init_23 : decode cX5_init 23 = .ok (.putfield 19, 3) := by decide +kernel
theorem dX5_init_26 : decode cX5_init 26 = .ok (.aload_n 0, 1) := by decide +kernel
theorem dX5_init_27 : decode cX5_init 27 = .ok (.invokestatic 23, 3) := by decide +kernel
theorem dX5_init_30 : decode cX5_init 30 = .ok (.putfield 27, 3) := by decide +kernel
theorem dX5_init_33 : decode cX5_init 33 = .ok (.aload_n 0, 1) := by decide +kernel
theorem dX5_init_34 : decode cX5_init 34 = .ok (.invokestatic 23, 3) := by decide +kernel
theorem dX5_init_37 : decode cX5_init 37 = .ok (.putfield 31, 3) := by decide +kernel
theorem dX5_init_40 : decode cX5_init 40 = .ok (.aload_n 0, 1) := by decide +kernel
theorem dX5_init_41 : decode cX5_init 41 = .ok (.new 34, 3) := by decide +kernel
theorem dX5_init_44 : decode cX5_init 44 = .ok (.dup, 1) := by decide +kernel
theorem dX5_init_45 : decode cX5_init 45 = .ok (.invokespecial 36, 3) := by decide +kernel
theorem dX5_init_48 : decode cX5_init 48 = .ok (.putfield 37, 3) := by decide +kernel
theorem dX5_init_51 : decode cX5_init 51 = .ok (.aload_n 0, 1) := by decide +kernel
theorem dX5_init_52 : decode cX5_init 52 = .ok (.new 40, 3) := by decide +kernel
theorem dX5_init_55 : decode cX5_init 55 = .ok (.dup, 1) := by decide +kernel
theorem dX5_init_56 : decode cX5_init 56 = .ok (.invokespecial 42, 3) := by decide +kernel
theorem dX5_init_59 : decode cX5_init 59 = .ok (.putfield 43, 3) := by decide +kernel
theorem dX5_init_62 : decode cX5_init 62 = .ok (.aload_n 0, 1) := by decide +kernel
theorem dX5_init_63 : decode cX5_init 63 = .ok (.new 40, 3) := by decide +kernel
theorem dX5_init_66 : decode cX5_init 66 = .ok (.dup, 1) := by decide +kernel
theorem dX5_init_67 : decode cX5_init 67 = .ok (.invokespecial 42, 3) := by decide +kernel
theorem dX5_init_70 : decode cX5_init 70 = .ok (.putfield 47, 3) := by decide +kernel
theorem dX5_init_73 : decode cX5_init 73 = .ok (.aload_n 0, 1) := by decide +kernel
theorem dX5_init_74 : decode cX5_init 74 = .ok (.new 40, 3) := by decide +kernel
theorem dX5_init_77 : decode cX5_init 77 = .ok (.dup, 1) := by decide +kernel
theorem dX5_init_78 : decode cX5_init 78 = .ok (.invokespecial 42, 3) := by decide +kernel
theorem dX5_init_81 : decode cX5_init 81 = .ok (.putfield 50, 3) := by decide +kernel
theorem dX5_init_84 : decode cX5_init 84 = .ok (.aload_n 0, 1) := by decide +kernel
theorem dX5_init_85 : decode cX5_init 85 = .ok (.new 53, 3) := by decide +kernel
theorem dX5_init_88 : decode cX5_init 88 = .ok (.dup, 1) := by decide +kernel
theorem dX5_init_89 : decode cX5_init 89 = .ok (.invokespecial 55, 3) := by decide +kernel
theorem dX5_init_92 : decode cX5_init 92 = .ok (.putfield 56, 3) := by decide +kernel
theorem dX5_init_95 : decode cX5_init 95 = .ok (.aload_n 0, 1) := by decide +kernel
theorem dX5_init_96 : decode cX5_init 96 = .ok (.bipush 64, 2) := by decide +kernel
theorem dX5_init_98 : decode cX5_init 98 = .ok (.newarray .int, 2) := by decide +kernel
theorem dX5_init_100 : decode cX5_init 100 = .ok (.putfield 60, 3) := by decide +kernel
theorem dX5_init_103 : decode cX5_init 103 = .ok (.return_, 1) := by decide +kernel
set_option maxRecDepth 20000 in
theorem ggX5_firstTown_X1_init : GoodIn wsX5_firstTown wsX1_init := goodIn_r _ [11, 12, 13, 14, 15, 16, 150, 151] (by decide +kernel) (by decide +kernel)
set_option maxRecDepth 20000 in
theorem gX5_firstTown_X1_init_n11 : GoodIn wsX5_firstTown (wsX1_init) := ggX5_firstTown_X1_init
set_option maxRecDepth 20000 in
theorem ggX5_firstTown_J0_length_8abf5 : GoodIn wsX5_firstTown wsJ0_length_8abf5 := goodIn_r _ [21, 22, 23, 24, 25, 20, 26, 27, 28] (by decide +kernel) (by decide +kernel)
set_option maxRecDepth 20000 in
theorem gX5_firstTown_J0_length_8abf5 : GoodIn wsX5_firstTown (wsV RX5 66 RJ0 yJ0_length_8abf5 wsJ0_length_8abf5) := goodIn_app (goodIn_of _ (by decide +kernel)) ggX5_firstTown_J0_length_8abf5
set_option maxRecDepth 20000 in
theorem ggX5_firstTown_J0_charAt_5068e : GoodIn wsX5_firstTown wsJ0_charAt_5068e := goodIn_r _ [32, 22, 33, 34, 35, 20, 36, 27, 28, 37, 38, 39, 40, 41, 42, 43, 44, 45, 46, 47, 48, 49, 50, 51, 52, 53, 54, 55, 56, 57, 58, 59, 60, 61, 62, 63, 64, 65] (by decide +kernel) (by decide +kernel)
set_option maxRecDepth 20000 in
theorem gX5_firstTown_J0_charAt_5068e : GoodIn wsX5_firstTown (wsV RX5 72 RJ0 yJ0_charAt_5068e wsJ0_charAt_5068e) := goodIn_app (goodIn_of _ (by decide +kernel)) ggX5_firstTown_J0_charAt_5068e
set_option maxRecDepth 20000 in
theorem ggX5_firstTown_X1_add : GoodIn wsX5_firstTown wsX1_add := goodIn_r _ [69, 70, 16, 150, 151] (by decide +kernel) (by decide +kernel)
set_option maxRecDepth 20000 in
theorem gX5_firstTown_X1_add : GoodIn wsX5_firstTown (wsV RX5 76 RX1 yX1_add wsX1_add) := goodIn_app (goodIn_of _ (by decide +kernel)) ggX5_firstTown_X1_add
set_option maxRecDepth 20000 in
theorem ggX5_firstTown_X4_init : GoodIn wsX5_firstTown wsX4_init := goodIn_r _ [72, 73, 13, 14, 15, 74, 75, 76, 77, 152, 153, 154, 155, 156, 157, 158, 159] (by decide +kernel) (by decide +kernel)
set_option maxRecDepth 20000 in
theorem gX5_firstTown_X4_init_n36 : GoodIn wsX5_firstTown (wsX4_init) := ggX5_firstTown_X4_init
set_option maxRecDepth 20000 in
theorem ggX5_firstTown_X3_init : GoodIn wsX5_firstTown wsX3_init := goodIn_r _ [79, 80, 13, 14, 15, 81, 160] (by decide +kernel) (by decide +kernel)
set_option maxRecDepth 20000 in
theorem gX5_firstTown_X3_init_n18 : GoodIn wsX5_firstTown (wsX3_init) := ggX5_firstTown_X3_init
set_option maxRecDepth 20000 in
theorem ggX5_firstTown_X3_readTown : GoodIn wsX5_firstTown wsX3_readTown := goodIn_r _ [85, 86, 87, 88, 6, 89, 90, 91, 92, 93, 76, 77, 94, 95, 96, 97, 98, 99, 100, 3, 101, 70, 102, 103, 104, 9, 105, 106, 107, 108, 109, 16, 110, 111, 112, 113, 114, 115, 116, 81, 117, 118, 119, 120, 121, 122, 123, 124, 125, 126, 127, 128, 129, 130, 131, 132, 133, 74, 75, 134, 135, 136, 137, 138, 139, 140, 141, 142, 143, 144, 145, 146, 147, 148, 149, 152, 153, 154, 155, 156, 157, 158, 159, 150, 151, 160] (by decide +kernel) (by decide +kernel)
set_option maxRecDepth 20000 in
theorem gX5_firstTown_X3_readTown : GoodIn wsX5_firstTown (wsV RX5 80 RX3 yX3_readTown wsX3_readTown) := goodIn_app (goodIn_of _ (by decide +kernel)) ggX5_firstTown_X3_readTown
theorem dX5_firstTown_0 : decode cX5_firstTown 0 = .ok (.new 9, 3) := by decide +kernel
theorem dX5_firstTown_3 : decode cX5_firstTown 3 = .ok (.dup, 1) := by decide +kernel
theorem dX5_firstTown_4 : decode cX5_firstTown 4 = .ok (.invokespecial 11, 3) := by decide +kernel
theorem dX5_firstTown_7 : decode cX5_firstTown 7 = .ok (.astore_n 0, 1) := by decide +kernel
theorem dX5_firstTown_8 : decode cX5_firstTown 8 = .ok (.iconst 0, 1) := by decide +kernel
theorem dX5_firstTown_9 : decode cX5_firstTown 9 = .ok (.istore_n 1, 1) := by decide +kernel
theorem dX5_firstTown_10 : decode cX5_firstTown 10 = .ok (.iload_n 1, 1) := by decide +kernel
theorem dX5_firstTown_11 : decode cX5_firstTown 11 = .ok (.ldc 64, 2) := by decide +kernel
theorem dX5_firstTown_13 : decode cX5_firstTown 13 = .ok (.invokevirtual 66, 3) := by decide +kernel
theorem dX5_firstTown_16 : decode cX5_firstTown 16 = .ok (.if_icmp .ge 19, 3) := by decide +kernel
theorem dX5_firstTown_19 : decode cX5_firstTown 19 = .ok (.aload_n 0, 1) := by decide +kernel
theorem dX5_firstTown_20 : decode cX5_firstTown 20 = .ok (.ldc 64, 2) := by decide +kernel
theorem dX5_firstTown_22 : decode cX5_firstTown 22 = .ok (.iload_n 1, 1) := by decide +kernel
theorem dX5_firstTown_23 : decode cX5_firstTown 23 = .ok (.invokevirtual 72, 3) := by decide +kernel
theorem dX5_firstTown_26 : decode cX5_firstTown 26 = .ok (.invokevirtual 76, 3) := by decide +kernel
theorem dX5_firstTown_29 : decode cX5_firstTown 29 = .ok (.iinc 1 1, 3) := by decide +kernel
theorem dX5_firstTown_32 : decode cX5_firstTown 32 = .ok (.goto (-22), 3) := by decide +kernel
theorem dX5_firstTown_35 : decode cX5_firstTown 35 = .ok (.new 34, 3) := by decide +kernel
theorem dX5_firstTown_38 : decode cX5_firstTown 38 = .ok (.dup, 1) := by decide +kernel
theorem dX5_firstTown_39 : decode cX5_firstTown 39 = .ok (.invokespecial 36, 3) := by decide +kernel
theorem dX5_firstTown_42 : decode cX5_firstTown 42 = .ok (.astore_n 1, 1) := by decide +kernel
theorem dX5_firstTown_43 : decode cX5_firstTown 43 = .ok (.new 16, 3) := by decide +kernel
theorem dX5_firstTown_46 : decode cX5_firstTown 46 = .ok (.dup, 1) := by decide +kernel
theorem dX5_firstTown_47 : decode cX5_firstTown 47 = .ok (.invokespecial 18, 3) := by decide +kernel
theorem dX5_firstTown_50 : decode cX5_firstTown 50 = .ok (.aload_n 0, 1) := by decide +kernel
theorem dX5_firstTown_51 : decode cX5_firstTown 51 = .ok (.aload_n 1, 1) := by decide +kernel
theorem dX5_firstTown_52 : decode cX5_firstTown 52 = .ok (.invokevirtual 80, 3) := by decide +kernel
theorem dX5_firstTown_55 : decode cX5_firstTown 55 = .ok (.pop, 1) := by decide +kernel
theorem dX5_firstTown_56 : decode cX5_firstTown 56 = .ok (.aload_n 1, 1) := by decide +kernel
theorem dX5_firstTown_57 : decode cX5_firstTown 57 = .ok (.areturn, 1) := by decide +kernel
set_option maxRecDepth 20000 in
theorem ggX5_write_X1_length : GoodIn wsX5_write wsX1_length := goodIn_r _ [6, 7, 26, 27] (by decide +kernel) (by decide +kernel)
set_option maxRecDepth 20000 in
theorem gX5_write_X1_length : GoodIn wsX5_write (wsV RX5 84 RX1 yX1_length wsX1_length) := goodIn_app (goodIn_of _ (by decide +kernel)) ggX5_write_X1_length
set_option maxRecDepth 20000 in
theorem ggX5_write_X1_add : GoodIn wsX5_write wsX1_add := goodIn_r _ [11, 7, 12, 26, 27] (by decide +kernel) (by decide +kernel)
set_option maxRecDepth 20000 in
theorem gX5_write_X1_add : GoodIn wsX5_write (wsV RX5 76 RX1 yX1_add wsX1_add) := goodIn_app (goodIn_of _ (by decide +kernel)) ggX5_write_X1_add
theorem dX5_write_0 : decode cX5_write 0 = .ok (.iload_n 1, 1) := by decide +kernel
theorem dX5_write_1 : decode cX5_write 1 = .ok (.bipush 32, 2) := by decide +kernel
theorem dX5_write_3 : decode cX5_write 3 = .ok (.if_icmp .lt 9, 3) := by decide +kernel
theorem dX5_write_6 : decode cX5_write 6 = .ok (.iload_n 1, 1) := by decide +kernel
theorem dX5_write_7 : decode cX5_write 7 = .ok (.bipush 126, 2) := by decide +kernel
theorem dX5_write_9 : decode cX5_write 9 = .ok (.if_icmp .le 5, 3) := by decide +kernel
theorem dX5_write_12 : decode cX5_write 12 = .ok (.iconst (-1), 1) := by decide +kernel
theorem dX5_write_13 : decode cX5_write 13 = .ok (.ireturn, 1) := by decide +kernel
theorem dX5_write_14 : decode cX5_write 14 = .ok (.aload_n 0, 1) := by decide +kernel
theorem dX5_write_15 : decode cX5_write 15 = .ok (.getfield 12, 3) := by decide +kernel
theorem dX5_write_18 : decode cX5_write 18 = .ok (.invokevirtual 84, 3) := by decide +kernel
theorem dX5_write_21 : decode cX5_write 21 = .ok (.sipush 200, 3) := by decide +kernel
theorem dX5_write_24 : decode cX5_write 24 = .ok (.if_icmp .lt 6, 3) := by decide +kernel
theorem dX5_write_27 : decode cX5_write 27 = .ok (.bipush (-3), 2) := by decide +kernel
theorem dX5_write_29 : decode cX5_write 29 = .ok (.ireturn, 1) := by decide +kernel
theorem dX5_write_30 : decode cX5_write 30 = .ok (.aload_n 0, 1) := by decide +kernel
theorem dX5_write_31 : decode cX5_write 31 = .ok (.getfield 12, 3) := by decide +kernel
theorem dX5_write_34 : decode cX5_write 34 = .ok (.iload_n 1, 1) := by decide +kernel
theorem dX5_write_35 : decode cX5_write 35 = .ok (.invokevirtual 76, 3) := by decide +kernel
theorem dX5_write_38 : decode cX5_write 38 = .ok (.aload_n 0, 1) := by decide +kernel
theorem dX5_write_39 : decode cX5_write 39 = .ok (.getfield 12, 3) := by decide +kernel
theorem dX5_write_42 : decode cX5_write 42 = .ok (.invokevirtual 84, 3) := by decide +kernel
theorem dX5_write_45 : decode cX5_write 45 = .ok (.ireturn, 1) := by decide +kernel
set_option maxRecDepth 20000 in
theorem ggX5_wipe_X1_length : GoodIn wsX5_wipe wsX1_length := goodIn_r _ [6, 7, 25, 26] (by decide +kernel) (by decide +kernel)
set_option maxRecDepth 20000 in
theorem gX5_wipe_X1_length : GoodIn wsX5_wipe (wsV RX5 84 RX1 yX1_length wsX1_length) := goodIn_app (goodIn_of _ (by decide +kernel)) ggX5_wipe_X1_length
set_option maxRecDepth 20000 in
theorem ggX5_wipe_X1_clear : GoodIn wsX5_wipe wsX1_clear := goodIn_r _ [11, 7, 25, 26] (by decide +kernel) (by decide +kernel)
set_option maxRecDepth 20000 in
theorem gX5_wipe_X1_clear : GoodIn wsX5_wipe (wsV RX5 85 RX1 yX1_clear wsX1_clear) := goodIn_app (goodIn_of _ (by decide +kernel)) ggX5_wipe_X1_clear
theorem dX5_wipe_0 : decode cX5_wipe 0 = .ok (.aload_n 0, 1) := by decide +kernel
theorem dX5_wipe_1 : decode cX5_wipe 1 = .ok (.getfield 12, 3) := by decide +kernel
theorem dX5_wipe_4 : decode cX5_wipe 4 = .ok (.invokevirtual 84, 3) := by decide +kernel
theorem dX5_wipe_7 : decode cX5_wipe 7 = .ok (.istore_n 1, 1) := by decide +kernel
theorem dX5_wipe_8 : decode cX5_wipe 8 = .ok (.aload_n 0, 1) := by decide +kernel
theorem dX5_wipe_9 : decode cX5_wipe 9 = .ok (.getfield 12, 3) := by decide +kernel
theorem dX5_wipe_12 : decode cX5_wipe 12 = .ok (.invokevirtual 85, 3) := by decide +kernel
theorem dX5_wipe_15 : decode cX5_wipe 15 = .ok (.iload_n 1, 1) := by decide +kernel
theorem dX5_wipe_16 : decode cX5_wipe 16 = .ok (.ireturn, 1) := by decide +kernel
set_option maxRecDepth 20000 in
theorem ggX5_fault_X3_readTown : GoodIn wsX5_fault wsX3_readTown := goodIn_r _ [8, 9, 10, 11, 12, 13, 14, 15, 16, 17, 18, 19, 20, 21, 22, 23, 24, 25, 26, 27, 28, 29, 30, 31, 32, 7, 33, 34, 35, 36, 37, 38, 39, 40, 41, 42, 43, 44, 45, 46, 47, 48, 49, 50, 51, 52, 53, 54, 55, 56, 57, 58, 59, 60, 61, 62, 63, 64, 65, 66, 67, 68, 69, 70, 71, 72, 73, 74, 75, 76, 77, 78, 79, 80, 81, 95, 96, 97, 98, 99, 100, 101, 102, 103, 104, 105] (by decide +kernel) (by decide +kernel)
set_option maxRecDepth 20000 in
theorem gX5_fault_X3_readTown : GoodIn wsX5_fault (wsV RX5 80 RX3 yX3_readTown wsX3_readTown) := goodIn_app (goodIn_of _ (by decide +kernel)) ggX5_fault_X3_readTown
theorem dX5_fault_0 : decode cX5_fault 0 = .ok (.aload_n 0, 1) := by decide +kernel
theorem dX5_fault_1 : decode cX5_fault 1 = .ok (.getfield 19, 3) := by decide +kernel
theorem dX5_fault_4 : decode cX5_fault 4 = .ok (.aload_n 0, 1) := by decide +kernel
theorem dX5_fault_5 : decode cX5_fault 5 = .ok (.getfield 12, 3) := by decide +kernel
theorem dX5_fault_8 : decode cX5_fault 8 = .ok (.aload_n 0, 1) := by decide +kernel
theorem dX5_fault_9 : decode cX5_fault 9 = .ok (.getfield 37, 3) := by decide +kernel
theorem dX5_fault_12 : decode cX5_fault 12 = .ok (.invokevirtual 80, 3) := by decide +kernel
theorem dX5_fault_15 : decode cX5_fault 15 = .ok (.ireturn, 1) := by decide +kernel
set_option maxRecDepth 20000 in
theorem ggX5_lay_X3_readTown : GoodIn wsX5_lay wsX3_readTown := goodIn_r _ [12, 13, 14, 15, 16, 17, 18, 19, 20, 21, 22, 23, 24, 25, 26, 27, 28, 29, 30, 31, 32, 33, 34, 35, 36, 11, 37, 38, 39, 40, 41, 42, 43, 44, 45, 46, 47, 48, 49, 50, 51, 52, 53, 54, 55, 56, 57, 58, 59, 60, 61, 62, 63, 64, 65, 66, 67, 68, 69, 70, 71, 72, 73, 74, 75, 76, 77, 78, 79, 80, 81, 82, 83, 84, 85, 121, 122, 123, 124, 125, 126, 127, 128, 129, 130, 131] (by decide +kernel) (by decide +kernel)
set_option maxRecDepth 20000 in
theorem gX5_lay_X3_readTown : GoodIn wsX5_lay (wsV RX5 80 RX3 yX3_readTown wsX3_readTown) := goodIn_app (goodIn_of _ (by decide +kernel)) ggX5_lay_X3_readTown
set_option maxRecDepth 20000 in
theorem ggX5_lay_X4_persons : GoodIn wsX5_lay wsX4_persons := goodIn_r _ [63, 18, 121, 122, 123, 124, 125, 126, 127, 128] (by decide +kernel) (by decide +kernel)
set_option maxRecDepth 20000 in
theorem gX5_lay_X4_persons : GoodIn wsX5_lay (wsV RX5 88 RX4 yX4_persons wsX4_persons) := goodIn_app (goodIn_of _ (by decide +kernel)) ggX5_lay_X4_persons
set_option maxRecDepth 20000 in
theorem ggX5_lay_X4_copyFrom : GoodIn wsX5_lay wsX4_copyFrom := goodIn_r _ [90, 18, 19, 20, 21, 68, 91, 92, 93, 94, 69, 22, 23, 121, 122, 123, 124, 125, 126, 127, 128] (by decide +kernel) (by decide +kernel)
set_option maxRecDepth 20000 in
theorem gX5_lay_X4_copyFrom : GoodIn wsX5_lay (wsV RX5 91 RX4 yX4_copyFrom wsX4_copyFrom) := goodIn_app (goodIn_of _ (by decide +kernel)) ggX5_lay_X4_copyFrom
set_option maxRecDepth 20000 in
theorem ggX5_lay_X0_clear : GoodIn wsX5_lay wsX0_clear := goodIn_r _ [99, 100, 132, 133, 134, 135] (by decide +kernel) (by decide +kernel)
set_option maxRecDepth 20000 in
theorem gX5_lay_X0_clear : GoodIn wsX5_lay (wsV RX5 95 RX0 yX0_clear wsX0_clear) := goodIn_app (goodIn_of _ (by decide +kernel)) ggX5_lay_X0_clear
set_option maxRecDepth 20000 in
theorem ggX5_lay_X5_forgetSilence : GoodIn wsX5_lay wsX5_forgetSilence := goodIn_r _ [105, 106, 107, 108, 109, 110, 111, 112, 113, 114, 115, 116, 117, 118, 119, 120] (by decide +kernel) (by decide +kernel)
set_option maxRecDepth 20000 in
theorem gX5_lay_X5_forgetSilence : GoodIn wsX5_lay (wsV RX5 96 RX5 yX5_forgetSilence wsX5_forgetSilence) := goodIn_app (goodIn_of _ (by decide +kernel)) ggX5_lay_X5_forgetSilence
theorem dX5_lay_0 : decode cX5_lay 0 = .ok (.aload_n 0, 1) := by decide +kernel
theorem dX5_lay_1 : decode cX5_lay 1 = .ok (.getfield 19, 3) := by decide +kernel
theorem dX5_lay_4 : decode cX5_lay 4 = .ok (.aload_n 0, 1) := by decide +kernel
theorem dX5_lay_5 : decode cX5_lay 5 = .ok (.getfield 12, 3) := by decide +kernel
theorem dX5_lay_8 : decode cX5_lay 8 = .ok (.aload_n 0, 1) := by decide +kernel
theorem dX5_lay_9 : decode cX5_lay 9 = .ok (.getfield 37, 3) := by decide +kernel
theorem dX5_lay_12 : decode cX5_lay 12 = .ok (.invokevirtual 80, 3) := by decide +kernel
theorem dX5_lay_15 : decode cX5_lay 15 = .ok (.bipush (-4), 2) := by decide +kernel
theorem dX5_lay_17 : decode cX5_lay 17 = .ok (.if_icmp .ne 14, 3) := by decide +kernel
theorem dX5_lay_20 : decode cX5_lay 20 = .ok (.aload_n 0, 1) := by decide +kernel
theorem dX5_lay_21 : decode cX5_lay 21 = .ok (.getfield 37, 3) := by decide +kernel
theorem dX5_lay_24 : decode cX5_lay 24 = .ok (.invokevirtual 88, 3) := by decide +kernel
theorem dX5_lay_27 : decode cX5_lay 27 = .ok (.iconst 1, 1) := by decide +kernel
theorem dX5_lay_28 : decode cX5_lay 28 = .ok (.if_icmp .ge 6, 3) := by decide +kernel
theorem dX5_lay_31 : decode cX5_lay 31 = .ok (.bipush (-2), 2) := by decide +kernel
theorem dX5_lay_33 : decode cX5_lay 33 = .ok (.ireturn, 1) := by decide +kernel
theorem dX5_lay_34 : decode cX5_lay 34 = .ok (.aload_n 0, 1) := by decide +kernel
theorem dX5_lay_35 : decode cX5_lay 35 = .ok (.getfield 27, 3) := by decide +kernel
theorem dX5_lay_38 : decode cX5_lay 38 = .ok (.aload_n 0, 1) := by decide +kernel
theorem dX5_lay_39 : decode cX5_lay 39 = .ok (.getfield 37, 3) := by decide +kernel
theorem dX5_lay_42 : decode cX5_lay 42 = .ok (.invokevirtual 91, 3) := by decide +kernel
theorem dX5_lay_45 : decode cX5_lay 45 = .ok (.aload_n 0, 1) := by decide +kernel
theorem dX5_lay_46 : decode cX5_lay 46 = .ok (.getfield 31, 3) := by decide +kernel
theorem dX5_lay_49 : decode cX5_lay 49 = .ok (.aload_n 0, 1) := by decide +kernel
theorem dX5_lay_50 : decode cX5_lay 50 = .ok (.getfield 37, 3) := by decide +kernel
theorem dX5_lay_53 : decode cX5_lay 53 = .ok (.invokevirtual 91, 3) := by decide +kernel
theorem dX5_lay_56 : decode cX5_lay 56 = .ok (.aload_n 0, 1) := by decide +kernel
theorem dX5_lay_57 : decode cX5_lay 57 = .ok (.getfield 43, 3) := by decide +kernel
theorem dX5_lay_60 : decode cX5_lay 60 = .ok (.invokevirtual 95, 3) := by decide +kernel
theorem dX5_lay_63 : decode cX5_lay 63 = .ok (.aload_n 0, 1) := by decide +kernel
theorem dX5_lay_64 : decode cX5_lay 64 = .ok (.invokevirtual 96, 3) := by decide +kernel
theorem dX5_lay_67 : decode cX5_lay 67 = .ok (.aload_n 0, 1) := by decide +kernel
theorem dX5_lay_68 : decode cX5_lay 68 = .ok (.iconst 0, 1) := by decide +kernel
theorem dX5_lay_69 : decode cX5_lay 69 = .ok (.putfield 99, 3) := by decide +kernel
theorem dX5_lay_72 : decode cX5_lay 72 = .ok (.aload_n 0, 1) := by decide +kernel
theorem dX5_lay_73 : decode cX5_lay 73 = .ok (.getfield 31, 3) := by decide +kernel
theorem dX5_lay_76 : decode cX5_lay 76 = .ok (.invokevirtual 88, 3) := by decide +kernel
theorem dX5_lay_79 : decode cX5_lay 79 = .ok (.ireturn, 1) := by decide +kernel
set_option maxRecDepth 20000 in
theorem ggX5_person_X5_isPerson : GoodIn wsX5_person wsX5_isPerson := goodIn_r _ [6, 1, 7, 8, 9, 10, 11, 12, 49, 50, 51, 52, 53, 54, 55, 56, 57, 58, 59, 60, 61, 62, 63, 64, 65, 66, 67, 68, 69] (by decide +kernel) (by decide +kernel)
set_option maxRecDepth 20000 in
theorem gX5_person_X5_isPerson : GoodIn wsX5_person (wsV RX5 103 RX5 yX5_isPerson wsX5_isPerson) := goodIn_app (goodIn_of _ (by decide +kernel)) ggX5_person_X5_isPerson
set_option maxRecDepth 20000 in
theorem ggX5_person_X4_kindOf : GoodIn wsX5_person wsX4_kindOf := goodIn_r _ [16, 17, 62, 63, 64, 65, 66, 67, 68, 69] (by decide +kernel) (by decide +kernel)
set_option maxRecDepth 20000 in
theorem gX5_person_X4_kindOf : GoodIn wsX5_person (wsV RX5 107 RX4 yX4_kindOf wsX4_kindOf) := goodIn_app (goodIn_of _ (by decide +kernel)) ggX5_person_X4_kindOf
set_option maxRecDepth 20000 in
theorem ggX5_person_X4_streetOf : GoodIn wsX5_person wsX4_streetOf := goodIn_r _ [21, 22, 62, 63, 64, 65, 66, 67, 68, 69] (by decide +kernel) (by decide +kernel)
set_option maxRecDepth 20000 in
theorem gX5_person_X4_streetOf : GoodIn wsX5_person (wsV RX5 111 RX4 yX4_streetOf wsX4_streetOf) := goodIn_app (goodIn_of _ (by decide +kernel)) ggX5_person_X4_streetOf
set_option maxRecDepth 20000 in
theorem ggX5_person_X4_isAlive : GoodIn wsX5_person wsX4_isAlive := goodIn_r _ [26, 27, 62, 63, 64, 65, 66, 67, 68, 69] (by decide +kernel) (by decide +kernel)
set_option maxRecDepth 20000 in
theorem gX5_person_X4_isAlive : GoodIn wsX5_person (wsV RX5 114 RX4 yX4_isAlive wsX4_isAlive) := goodIn_app (goodIn_of _ (by decide +kernel)) ggX5_person_X4_isAlive
set_option maxRecDepth 20000 in
theorem ggX5_person_X5_asNumber : GoodIn wsX5_person wsX5_asNumber := goodIn_r _ [30] (by decide +kernel) (by decide +kernel)
set_option maxRecDepth 20000 in
theorem gX5_person_X5_asNumber : GoodIn wsX5_person (va_wsS RX5 117 yX5_asNumber wsX5_asNumber) := goodIn_app (goodIn_of _ (by decide +kernel)) ggX5_person_X5_asNumber
set_option maxRecDepth 20000 in
theorem ggX5_person_X4_owing : GoodIn wsX5_person wsX4_owing := goodIn_r _ [34, 35, 62, 63, 64, 65, 66, 67, 68, 69] (by decide +kernel) (by decide +kernel)
set_option maxRecDepth 20000 in
theorem gX5_person_X4_owing : GoodIn wsX5_person (wsV RX5 121 RX4 yX4_owing wsX4_owing) := goodIn_app (goodIn_of _ (by decide +kernel)) ggX5_person_X4_owing
set_option maxRecDepth 20000 in
theorem ggX5_person_X4_owedTo : GoodIn wsX5_person wsX4_owedTo := goodIn_r _ [39, 12, 40, 41, 42, 10, 43, 44, 62, 63, 64, 65, 66, 67, 68, 69] (by decide +kernel) (by decide +kernel)
set_option maxRecDepth 20000 in
theorem gX5_person_X4_owedTo : GoodIn wsX5_person (wsV RX5 124 RX4 yX4_owedTo wsX4_owedTo) := goodIn_app (goodIn_of _ (by decide +kernel)) ggX5_person_X4_owedTo
set_option maxRecDepth 20000 in
theorem ggX5_person_X4_takesApology : GoodIn wsX5_person wsX4_takesApology := goodIn_r _ [48, 17, 35, 62, 63, 64, 65, 66, 67, 68, 69] (by decide +kernel) (by decide +kernel)
set_option maxRecDepth 20000 in
theorem gX5_person_X4_takesApology : GoodIn wsX5_person (wsV RX5 127 RX4 yX4_takesApology wsX4_takesApology) := goodIn_app (goodIn_of _ (by decide +kernel)) ggX5_person_X4_takesApology
theorem dX5_person_0 : decode cX5_person 0 = .ok (.aload_n 0, 1) := by decide +kernel
theorem dX5_person_1 : decode cX5_person 1 = .ok (.iload_n 1, 1) := by decide +kernel
theorem dX5_person_2 : decode cX5_person 2 = .ok (.invokevirtual 103, 3) := by decide +kernel
theorem dX5_person_5 : decode cX5_person 5 = .ok (.ifCond .ne 5, 3) := by decide +kernel
theorem dX5_person_8 : decode cX5_person 8 = .ok (.iconst (-1), 1) := by decide +kernel
theorem dX5_person_9 : decode cX5_person 9 = .ok (.ireturn, 1) := by decide +kernel
theorem dX5_person_10 : decode cX5_person 10 = .ok (.iload_n 2, 1) := by decide +kernel
theorem dX5_person_11 : decode cX5_person 11 = .ok (.tableswitch 116 0 5 #[37, 46, 55, 67, 76, 85], 37) := by decide +kernel
theorem dX5_person_48 : decode cX5_person 48 = .ok (.aload_n 0, 1) := by decide +kernel
theorem dX5_person_49 : decode cX5_person 49 = .ok (.getfield 31, 3) := by decide +kernel
theorem dX5_person_52 : decode cX5_person 52 = .ok (.iload_n 1, 1) := by decide +kernel
theorem dX5_person_53 : decode cX5_person 53 = .ok (.invokevirtual 107, 3) := by decide +kernel
theorem dX5_person_56 : decode cX5_person 56 = .ok (.ireturn, 1) := by decide +kernel
theorem dX5_person_57 : decode cX5_person 57 = .ok (.aload_n 0, 1) := by decide +kernel
theorem dX5_person_58 : decode cX5_person 58 = .ok (.getfield 31, 3) := by decide +kernel
theorem dX5_person_61 : decode cX5_person 61 = .ok (.iload_n 1, 1) := by decide +kernel
theorem dX5_person_62 : decode cX5_person 62 = .ok (.invokevirtual 111, 3) := by decide +kernel
theorem dX5_person_65 : decode cX5_person 65 = .ok (.ireturn, 1) := by decide +kernel
theorem dX5_person_66 : decode cX5_person 66 = .ok (.aload_n 0, 1) := by decide +kernel
theorem dX5_person_67 : decode cX5_person 67 = .ok (.getfield 31, 3) := by decide +kernel
theorem dX5_person_70 : decode cX5_person 70 = .ok (.iload_n 1, 1) := by decide +kernel
theorem dX5_person_71 : decode cX5_person 71 = .ok (.invokevirtual 114, 3) := by decide +kernel
theorem dX5_person_74 : decode cX5_person 74 = .ok (.invokestatic 117, 3) := by decide +kernel
theorem dX5_person_77 : decode cX5_person 77 = .ok (.ireturn, 1) := by decide +kernel
theorem dX5_person_78 : decode cX5_person 78 = .ok (.aload_n 0, 1) := by decide +kernel
theorem dX5_person_79 : decode cX5_person 79 = .ok (.getfield 31, 3) := by decide +kernel
theorem dX5_person_82 : decode cX5_person 82 = .ok (.iload_n 1, 1) := by decide +kernel
theorem dX5_person_83 : decode cX5_person 83 = .ok (.invokevirtual 121, 3) := by decide +kernel
theorem dX5_person_86 : decode cX5_person 86 = .ok (.ireturn, 1) := by decide +kernel
theorem dX5_person_87 : decode cX5_person 87 = .ok (.aload_n 0, 1) := by decide +kernel
theorem dX5_person_88 : decode cX5_person 88 = .ok (.getfield 31, 3) := by decide +kernel
theorem dX5_person_91 : decode cX5_person 91 = .ok (.iload_n 1, 1) := by decide +kernel
theorem dX5_person_92 : decode cX5_person 92 = .ok (.invokevirtual 124, 3) := by decide +kernel
theorem dX5_person_95 : decode cX5_person 95 = .ok (.ireturn, 1) := by decide +kernel
theorem dX5_person_96 : decode cX5_person 96 = .ok (.aload_n 0, 1) := by decide +kernel
theorem dX5_person_97 : decode cX5_person 97 = .ok (.getfield 31, 3) := by decide +kernel
theorem dX5_person_100 : decode cX5_person 100 = .ok (.iload_n 1, 1) := by decide +kernel
theorem dX5_person_101 : decode cX5_person 101 = .ok (.invokevirtual 114, 3) := by decide +kernel
theorem dX5_person_104 : decode cX5_person 104 = .ok (.ifCond .eq 18, 3) := by decide +kernel
theorem dX5_person_107 : decode cX5_person 107 = .ok (.aload_n 0, 1) := by decide +kernel
theorem dX5_person_108 : decode cX5_person 108 = .ok (.getfield 31, 3) := by decide +kernel
theorem dX5_person_111 : decode cX5_person 111 = .ok (.iload_n 1, 1) := by decide +kernel
theorem dX5_person_112 : decode cX5_person 112 = .ok (.invokevirtual 127, 3) := by decide +kernel
theorem dX5_person_115 : decode cX5_person 115 = .ok (.ifCond .eq 7, 3) := by decide +kernel
theorem dX5_person_118 : decode cX5_person 118 = .ok (.iconst 1, 1) := by decide +kernel
theorem dX5_person_119 : decode cX5_person 119 = .ok (.goto 4, 3) := by decide +kernel
theorem dX5_person_122 : decode cX5_person 122 = .ok (.iconst 0, 1) := by decide +kernel
theorem dX5_person_123 : decode cX5_person 123 = .ok (.invokestatic 117, 3) := by decide +kernel
theorem dX5_person_126 : decode cX5_person 126 = .ok (.ireturn, 1) := by decide +kernel
theorem dX5_person_127 : decode cX5_person 127 = .ok (.iconst (-1), 1) := by decide +kernel
theorem dX5_person_128 : decode cX5_person 128 = .ok (.ireturn, 1) := by decide +kernel
set_option maxRecDepth 20000 in
theorem ggX5_owes_X5_areTwo : GoodIn wsX5_owes wsX5_areTwo := goodIn_r _ [6, 7, 8, 9, 5, 10, 1, 11, 12, 13, 14, 15, 16, 22, 23, 24, 25, 26, 27, 28, 29, 30, 31, 32, 33, 34, 35, 36, 37, 38, 39, 40, 41, 42] (by decide +kernel) (by decide +kernel)
set_option maxRecDepth 20000 in
theorem gX5_owes_X5_areTwo : GoodIn wsX5_owes (wsV RX5 130 RX5 yX5_areTwo wsX5_areTwo) := goodIn_app (goodIn_of _ (by decide +kernel)) ggX5_owes_X5_areTwo
set_option maxRecDepth 20000 in
theorem ggX5_owes_X4_debt : GoodIn wsX5_owes wsX4_debt := goodIn_r _ [20, 21, 35, 36, 37, 38, 39, 40, 41, 42] (by decide +kernel) (by decide +kernel)
set_option maxRecDepth 20000 in
theorem gX5_owes_X4_debt : GoodIn wsX5_owes (wsV RX5 134 RX4 yX4_debt wsX4_debt) := goodIn_app (goodIn_of _ (by decide +kernel)) ggX5_owes_X4_debt
theorem dX5_owes_0 : decode cX5_owes 0 = .ok (.aload_n 0, 1) := by decide +kernel
theorem dX5_owes_1 : decode cX5_owes 1 = .ok (.iload_n 1, 1) := by decide +kernel
theorem dX5_owes_2 : decode cX5_owes 2 = .ok (.iload_n 2, 1) := by decide +kernel
theorem dX5_owes_3 : decode cX5_owes 3 = .ok (.invokevirtual 130, 3) := by decide +kernel
theorem dX5_owes_6 : decode cX5_owes 6 = .ok (.ifCond .eq 15, 3) := by decide +kernel
theorem dX5_owes_9 : decode cX5_owes 9 = .ok (.aload_n 0, 1) := by decide +kernel
theorem dX5_owes_10 : decode cX5_owes 10 = .ok (.getfield 31, 3) := by decide +kernel
theorem dX5_owes_13 : decode cX5_owes 13 = .ok (.iload_n 1, 1) := by decide +kernel
theorem dX5_owes_14 : decode cX5_owes 14 = .ok (.iload_n 2, 1) := by decide +kernel
theorem dX5_owes_15 : decode cX5_owes 15 = .ok (.invokevirtual 134, 3) := by decide +kernel
theorem dX5_owes_18 : decode cX5_owes 18 = .ok (.goto 4, 3) := by decide +kernel
theorem dX5_owes_21 : decode cX5_owes 21 = .ok (.iconst (-1), 1) := by decide +kernel
theorem dX5_owes_22 : decode cX5_owes 22 = .ok (.ireturn, 1) := by decide +kernel
set_option maxRecDepth 20000 in
theorem ggX5_speak_X5_areTwo : GoodIn wsX5_speak wsX5_areTwo := goodIn_r _ [6, 7, 8, 9, 5, 10, 1, 11, 12, 13, 14, 15, 16, 34, 35, 36, 37, 38, 39, 40, 41, 42, 43, 44, 45, 46, 47, 48, 49, 50, 51, 52, 53, 54] (by decide +kernel) (by decide +kernel)
set_option maxRecDepth 20000 in
theorem gX5_speak_X5_areTwo : GoodIn wsX5_speak (wsV RX5 130 RX5 yX5_areTwo wsX5_areTwo) := goodIn_app (goodIn_of _ (by decide +kernel)) ggX5_speak_X5_areTwo
set_option maxRecDepth 20000 in
theorem ggX5_speak_X4_maySpeak : GoodIn wsX5_speak wsX4_maySpeak := goodIn_r _ [20, 21, 22, 23, 14, 24, 25, 26, 27, 28, 29, 30, 47, 48, 49, 50, 51, 52, 53, 54] (by decide +kernel) (by decide +kernel)
set_option maxRecDepth 20000 in
theorem gX5_speak_X4_maySpeak : GoodIn wsX5_speak (wsV RX5 138 RX4 yX4_maySpeak wsX4_maySpeak) := goodIn_app (goodIn_of _ (by decide +kernel)) ggX5_speak_X4_maySpeak
set_option maxRecDepth 20000 in
theorem ggX5_speak_X5_asNumber : GoodIn wsX5_speak wsX5_asNumber := goodIn_r _ [33] (by decide +kernel) (by decide +kernel)
set_option maxRecDepth 20000 in
theorem gX5_speak_X5_asNumber : GoodIn wsX5_speak (va_wsS RX5 117 yX5_asNumber wsX5_asNumber) := goodIn_app (goodIn_of _ (by decide +kernel)) ggX5_speak_X5_asNumber
theorem dX5_speak_0 : decode cX5_speak 0 = .ok (.aload_n 0, 1) := by decide +kernel
theorem dX5_speak_1 : decode cX5_speak 1 = .ok (.iload_n 1, 1) := by decide +kernel
theorem dX5_speak_2 : decode cX5_speak 2 = .ok (.iload_n 2, 1) := by decide +kernel
theorem dX5_speak_3 : decode cX5_speak 3 = .ok (.invokevirtual 130, 3) := by decide +kernel
theorem dX5_speak_6 : decode cX5_speak 6 = .ok (.ifCond .eq 18, 3) := by decide +kernel
theorem dX5_speak_9 : decode cX5_speak 9 = .ok (.aload_n 0, 1) := by decide +kernel
theorem dX5_speak_10 : decode cX5_speak 10 = .ok (.getfield 31, 3) := by decide +kernel
theorem dX5_speak_13 : decode cX5_speak 13 = .ok (.iload_n 1, 1) := by decide +kernel
theorem dX5_speak_14 : decode cX5_speak 14 = .ok (.iload_n 2, 1) := by decide +kernel
theorem dX5_speak_15 : decode cX5_speak 15 = .ok (.invokevirtual 138, 3) := by decide +kernel
theorem dX5_speak_18 : decode cX5_speak 18 = .ok (.invokestatic 117, 3) := by decide +kernel
theorem dX5_speak_21 : decode cX5_speak 21 = .ok (.goto 4, 3) := by decide +kernel
theorem dX5_speak_24 : decode cX5_speak 24 = .ok (.iconst (-1), 1) := by decide +kernel
theorem dX5_speak_25 : decode cX5_speak 25 = .ok (.ireturn, 1) := by decide +kernel
set_option maxRecDepth 20000 in
theorem ggX5_wrong_X5_actOfTwo : GoodIn wsX5_wrong wsX5_actOfTwo := goodIn_r _ [5, 6, 7, 8, 9, 4, 10, 11, 12, 13, 14, 15, 16, 17, 18, 19, 20, 21, 22, 23, 24, 25, 26, 27, 28, 29, 30, 31, 32, 33, 34, 35, 36, 37, 38, 39, 40, 41, 42, 43, 44, 45, 46, 47, 48, 49, 50, 51, 52, 53, 54, 55, 56, 57, 58, 59, 60, 61, 62, 63, 64, 65, 66, 67, 68, 69, 70, 71, 72, 73, 74, 75, 76, 77, 78, 79, 80, 81, 82, 83, 84, 85, 86, 87, 88, 89, 90, 91, 92, 93, 94, 95, 96, 97, 98, 99, 100, 101, 102, 103, 104, 105, 106, 107, 108, 109, 110, 111, 112, 113, 114, 115, 116, 117, 118, 119, 120, 121, 122, 123, 124, 125, 126, 127, 128, 129] (by decide +kernel) (by decide +kernel)
set_option maxRecDepth 20000 in
theorem gX5_wrong_X5_actOfTwo : GoodIn wsX5_wrong (wsV RX5 141 RX5 yX5_actOfTwo wsX5_actOfTwo) := goodIn_app (goodIn_of _ (by decide +kernel)) ggX5_wrong_X5_actOfTwo
theorem dX5_wrong_0 : decode cX5_wrong 0 = .ok (.aload_n 0, 1) := by decide +kernel
theorem dX5_wrong_1 : decode cX5_wrong 1 = .ok (.iconst 0, 1) := by decide +kernel
theorem dX5_wrong_2 : decode cX5_wrong 2 = .ok (.iload_n 1, 1) := by decide +kernel
theorem dX5_wrong_3 : decode cX5_wrong 3 = .ok (.iload_n 2, 1) := by decide +kernel
theorem dX5_wrong_4 : decode cX5_wrong 4 = .ok (.invokevirtual 141, 3) := by decide +kernel
theorem dX5_wrong_7 : decode cX5_wrong 7 = .ok (.ireturn, 1) := by decide +kernel
set_option maxRecDepth 20000 in
theorem ggX5_bow_X5_actOfTwo : GoodIn wsX5_bow wsX5_actOfTwo := goodIn_r _ [5, 6, 7, 8, 9, 4, 10, 11, 12, 13, 14, 15, 16, 17, 18, 19, 20, 21, 22, 23, 24, 25, 26, 27, 28, 29, 30, 31, 32, 33, 34, 35, 36, 37, 38, 39, 40, 41, 42, 43, 44, 45, 46, 47, 48, 49, 50, 51, 52, 53, 54, 55, 56, 57, 58, 59, 60, 61, 62, 63, 64, 65, 66, 67, 68, 69, 70, 71, 72, 73, 74, 75, 76, 77, 78, 79, 80, 81, 82, 83, 84, 85, 86, 87, 88, 89, 90, 91, 92, 93, 94, 95, 96, 97, 98, 99, 100, 101, 102, 103, 104, 105, 106, 107, 108, 109, 110, 111, 112, 113, 114, 115, 116, 117, 118, 119, 120, 121, 122, 123, 124, 125, 126, 127, 128, 129] (by decide +kernel) (by decide +kernel)
set_option maxRecDepth 20000 in
theorem gX5_bow_X5_actOfTwo : GoodIn wsX5_bow (wsV RX5 141 RX5 yX5_actOfTwo wsX5_actOfTwo) := goodIn_app (goodIn_of _ (by decide +kernel)) ggX5_bow_X5_actOfTwo
theorem dX5_bow_0 : decode cX5_bow 0 = .ok (.aload_n 0, 1) := by decide +kernel
theorem dX5_bow_1 : decode cX5_bow 1 = .ok (.iconst 1, 1) := by decide +kernel
theorem dX5_bow_2 : decode cX5_bow 2 = .ok (.iload_n 1, 1) := by decide +kernel
theorem dX5_bow_3 : decode cX5_bow 3 = .ok (.iload_n 2, 1) := by decide +kernel
theorem dX5_bow_4 : decode cX5_bow 4 = .ok (.invokevirtual 141, 3) := by decide +kernel
theorem dX5_bow_7 : decode cX5_bow 7 = .ok (.ireturn, 1) := by decide +kernel
set_option maxRecDepth 20000 in
theorem ggX5_refuse_X5_actOfTwo : GoodIn wsX5_refuse wsX5_actOfTwo := goodIn_r _ [5, 6, 7, 8, 9, 4, 10, 11, 12, 13, 14, 15, 16, 17, 18, 19, 20, 21, 22, 23, 24, 25, 26, 27, 28, 29, 30, 31, 32, 33, 34, 35, 36, 37, 38, 39, 40, 41, 42, 43, 44, 45, 46, 47, 48, 49, 50, 51, 52, 53, 54, 55, 56, 57, 58, 59, 60, 61, 62, 63, 64, 65, 66, 67, 68, 69, 70, 71, 72, 73, 74, 75, 76, 77, 78, 79, 80, 81, 82, 83, 84, 85, 86, 87, 88, 89, 90, 91, 92, 93, 94, 95, 96, 97, 98, 99, 100, 101, 102, 103, 104, 105, 106, 107, 108, 109, 110, 111, 112, 113, 114, 115, 116, 117, 118, 119, 120, 121, 122, 123, 124, 125, 126, 127, 128, 129] (by decide +kernel) (by decide +kernel)
set_option maxRecDepth 20000 in
theorem gX5_refuse_X5_actOfTwo : GoodIn wsX5_refuse (wsV RX5 141 RX5 yX5_actOfTwo wsX5_actOfTwo) := goodIn_app (goodIn_of _ (by decide +kernel)) ggX5_refuse_X5_actOfTwo
theorem dX5_refuse_0 : decode cX5_refuse 0 = .ok (.aload_n 0, 1) := by decide +kernel
theorem dX5_refuse_1 : decode cX5_refuse 1 = .ok (.iconst 2, 1) := by decide +kernel
theorem dX5_refuse_2 : decode cX5_refuse 2 = .ok (.iload_n 1, 1) := by decide +kernel
theorem dX5_refuse_3 : decode cX5_refuse 3 = .ok (.iload_n 2, 1) := by decide +kernel
theorem dX5_refuse_4 : decode cX5_refuse 4 = .ok (.invokevirtual 141, 3) := by decide +kernel
theorem dX5_refuse_7 : decode cX5_refuse 7 = .ok (.ireturn, 1) := by decide +kernel
set_option maxRecDepth 20000 in
theorem ggX5_atOnce_X5_actOfTwo : GoodIn wsX5_atOnce wsX5_actOfTwo := goodIn_r _ [6, 1, 7, 8, 9, 5, 10, 11, 12, 13, 14, 15, 16, 17, 18, 19, 20, 21, 22, 23, 24, 25, 26, 27, 28, 29, 30, 31, 32, 33, 34, 35, 36, 37, 38, 39, 40, 41, 42, 43, 44, 45, 46, 47, 48, 49, 50, 51, 52, 53, 54, 55, 56, 57, 58, 59, 60, 61, 62, 63, 64, 65, 66, 67, 68, 69, 70, 71, 72, 73, 74, 75, 76, 77, 78, 79, 80, 81, 82, 83, 84, 85, 86, 87, 88, 89, 90, 91, 92, 93, 94, 95, 96, 97, 98, 99, 100, 101, 102, 103, 104, 105, 106, 107, 108, 109, 110, 111, 112, 113, 114, 115, 116, 117, 118, 119, 120, 121, 122, 123, 124, 125, 126, 127, 128, 129] (by decide +kernel) (by decide +kernel)
set_option maxRecDepth 20000 in
theorem gX5_atOnce_X5_actOfTwo : GoodIn wsX5_atOnce (wsV RX5 141 RX5 yX5_actOfTwo wsX5_actOfTwo) := goodIn_app (goodIn_of _ (by decide +kernel)) ggX5_atOnce_X5_actOfTwo
set_option maxRecDepth 20000 in
theorem ggX5_atOnce_X4_debt : GoodIn wsX5_atOnce wsX4_debt := goodIn_r _ [38, 39, 118, 119, 120, 121, 122, 123, 124, 125] (by decide +kernel) (by decide +kernel)
set_option maxRecDepth 20000 in
theorem gX5_atOnce_X4_debt : GoodIn wsX5_atOnce (wsV RX5 134 RX4 yX4_debt wsX4_debt) := goodIn_app (goodIn_of _ (by decide +kernel)) ggX5_atOnce_X4_debt
theorem dX5_atOnce_0 : decode cX5_atOnce 0 = .ok (.aload_n 0, 1) := by decide +kernel
theorem dX5_atOnce_1 : decode cX5_atOnce 1 = .ok (.iconst 3, 1) := by decide +kernel
theorem dX5_atOnce_2 : decode cX5_atOnce 2 = .ok (.iload_n 1, 1) := by decide +kernel
theorem dX5_atOnce_3 : decode cX5_atOnce 3 = .ok (.iload_n 2, 1) := by decide +kernel
theorem dX5_atOnce_4 : decode cX5_atOnce 4 = .ok (.invokevirtual 141, 3) := by decide +kernel
theorem dX5_atOnce_7 : decode cX5_atOnce 7 = .ok (.istore_n 3, 1) := by decide +kernel
theorem dX5_atOnce_8 : decode cX5_atOnce 8 = .ok (.iload_n 3, 1) := by decide +kernel
theorem dX5_atOnce_9 : decode cX5_atOnce 9 = .ok (.ifCond .ge 7, 3) := by decide +kernel
theorem dX5_atOnce_12 : decode cX5_atOnce 12 = .ok (.iload_n 3, 1) := by decide +kernel
theorem dX5_atOnce_13 : decode cX5_atOnce 13 = .ok (.goto 22, 3) := by decide +kernel
theorem dX5_atOnce_16 : decode cX5_atOnce 16 = .ok (.aload_n 0, 1) := by decide +kernel
theorem dX5_atOnce_17 : decode cX5_atOnce 17 = .ok (.getfield 31, 3) := by decide +kernel
theorem dX5_atOnce_20 : decode cX5_atOnce 20 = .ok (.iload_n 1, 1) := by decide +kernel
theorem dX5_atOnce_21 : decode cX5_atOnce 21 = .ok (.iload_n 2, 1) := by decide +kernel
theorem dX5_atOnce_22 : decode cX5_atOnce 22 = .ok (.invokevirtual 134, 3) := by decide +kernel
theorem dX5_atOnce_25 : decode cX5_atOnce 25 = .ok (.aload_n 0, 1) := by decide +kernel
theorem dX5_atOnce_26 : decode cX5_atOnce 26 = .ok (.getfield 31, 3) := by decide +kernel
theorem dX5_atOnce_29 : decode cX5_atOnce 29 = .ok (.iload_n 2, 1) := by decide +kernel
theorem dX5_atOnce_30 : decode cX5_atOnce 30 = .ok (.iload_n 1, 1) := by decide +kernel
theorem dX5_atOnce_31 : decode cX5_atOnce 31 = .ok (.invokevirtual 134, 3) := by decide +kernel
theorem dX5_atOnce_34 : decode cX5_atOnce 34 = .ok (.iadd, 1) := by decide +kernel
theorem dX5_atOnce_35 : decode cX5_atOnce 35 = .ok (.ireturn, 1) := by decide +kernel
set_option maxRecDepth 20000 in
theorem ggX5_die_X5_isPerson : GoodIn wsX5_die wsX5_isPerson := goodIn_r _ [6, 1, 7, 8, 9, 10, 11, 12, 107, 108, 109, 110, 111, 112, 113, 114, 115, 116, 117, 118, 119, 120, 121, 122, 123, 124, 125, 126, 127] (by decide +kernel) (by decide +kernel)
set_option maxRecDepth 20000 in
theorem gX5_die_X5_isPerson : GoodIn wsX5_die (wsV RX5 103 RX5 yX5_isPerson wsX5_isPerson) := goodIn_app (goodIn_of _ (by decide +kernel)) ggX5_die_X5_isPerson
set_option maxRecDepth 20000 in
theorem ggX5_die_X5_act : GoodIn wsX5_die wsX5_act := goodIn_r _ [16, 1, 17, 18, 19, 20, 10, 21, 22, 23, 24, 25, 26, 27, 28, 29, 30, 31, 32, 33, 34, 35, 36, 37, 38, 39, 40, 41, 42, 43, 44, 45, 46, 47, 48, 49, 50, 51, 52, 53, 54, 55, 56, 57, 58, 59, 60, 61, 62, 63, 64, 65, 66, 67, 68, 69, 70, 71, 72, 73, 74, 75, 76, 77, 78, 79, 80, 81, 82, 83, 84, 85, 86, 87, 12, 88, 89, 90, 91, 92, 93, 94, 95, 107, 108, 109, 110, 111, 112, 113, 114, 115, 116, 117, 118, 119, 120, 121, 122, 123, 124, 125, 126, 127, 128, 129, 130, 131] (by decide +kernel) (by decide +kernel)
set_option maxRecDepth 20000 in
theorem gX5_die_X5_act : GoodIn wsX5_die (wsV RX5 145 RX5 yX5_act wsX5_act) := goodIn_app (goodIn_of _ (by decide +kernel)) ggX5_die_X5_act
set_option maxRecDepth 20000 in
theorem ggX5_die_X4_aliveBits : GoodIn wsX5_die wsX4_aliveBits := goodIn_r _ [99, 26, 120, 121, 122, 123, 124, 125, 126, 127] (by decide +kernel) (by decide +kernel)
set_option maxRecDepth 20000 in
theorem gX5_die_X4_aliveBits : GoodIn wsX5_die (wsV RX5 148 RX4 yX4_aliveBits wsX4_aliveBits) := goodIn_app (goodIn_of _ (by decide +kernel)) ggX5_die_X4_aliveBits
set_option maxRecDepth 20000 in
theorem ggX5_die_J6_bitCount_0f7a4 : GoodIn wsX5_die wsJ6_bitCount_0f7a4 := goodIn_r _ [103, 104, 105, 106] (by decide +kernel) (by decide +kernel)
set_option maxRecDepth 20000 in
theorem gX5_die_J6_bitCount_0f7a4 : GoodIn wsX5_die (va_wsS RX5 151 yJ6_bitCount_0f7a4 wsJ6_bitCount_0f7a4) := goodIn_app (goodIn_of _ (by decide +kernel)) ggX5_die_J6_bitCount_0f7a4
theorem dX5_die_0 : decode cX5_die 0 = .ok (.aload_n 0, 1) := by decide +kernel
theorem dX5_die_1 : decode cX5_die 1 = .ok (.iload_n 1, 1) := by decide +kernel
theorem dX5_die_2 : decode cX5_die 2 = .ok (.invokevirtual 103, 3) := by decide +kernel
theorem dX5_die_5 : decode cX5_die 5 = .ok (.ifCond .ne 5, 3) := by decide +kernel
theorem dX5_die_8 : decode cX5_die 8 = .ok (.iconst (-1), 1) := by decide +kernel
theorem dX5_die_9 : decode cX5_die 9 = .ok (.ireturn, 1) := by decide +kernel
theorem dX5_die_10 : decode cX5_die 10 = .ok (.aload_n 0, 1) := by decide +kernel
theorem dX5_die_11 : decode cX5_die 11 = .ok (.iconst 4, 1) := by decide +kernel
theorem dX5_die_12 : decode cX5_die 12 = .ok (.iload_n 1, 1) := by decide +kernel
theorem dX5_die_13 : decode cX5_die 13 = .ok (.iload_n 1, 1) := by decide +kernel
theorem dX5_die_14 : decode cX5_die 14 = .ok (.invokevirtual 145, 3) := by decide +kernel
theorem dX5_die_17 : decode cX5_die 17 = .ok (.istore_n 2, 1) := by decide +kernel
theorem dX5_die_18 : decode cX5_die 18 = .ok (.iload_n 2, 1) := by decide +kernel
theorem dX5_die_19 : decode cX5_die 19 = .ok (.ifCond .ge 7, 3) := by decide +kernel
theorem dX5_die_22 : decode cX5_die 22 = .ok (.iload_n 2, 1) := by decide +kernel
theorem dX5_die_23 : decode cX5_die 23 = .ok (.goto 13, 3) := by decide +kernel
theorem dX5_die_26 : decode cX5_die 26 = .ok (.aload_n 0, 1) := by decide +kernel
theorem dX5_die_27 : decode cX5_die 27 = .ok (.getfield 31, 3) := by decide +kernel
theorem dX5_die_30 : decode cX5_die 30 = .ok (.invokevirtual 148, 3) := by decide +kernel
theorem dX5_die_33 : decode cX5_die 33 = .ok (.invokestatic 151, 3) := by decide +kernel
theorem dX5_die_36 : decode cX5_die 36 = .ok (.ireturn, 1) := by decide +kernel
set_option maxRecDepth 20000 in
theorem ggX5_days_X5_act : GoodIn wsX5_days wsX5_act := goodIn_r _ [6, 1, 7, 8, 9, 10, 11, 12, 13, 14, 15, 16, 17, 18, 19, 20, 21, 22, 23, 24, 25, 26, 27, 28, 29, 30, 31, 32, 33, 34, 35, 36, 37, 38, 39, 40, 41, 42, 43, 44, 45, 46, 47, 48, 49, 50, 51, 52, 53, 54, 55, 56, 57, 58, 59, 60, 61, 62, 63, 64, 65, 66, 67, 68, 69, 70, 71, 72, 73, 74, 75, 76, 77, 78, 79, 80, 81, 82, 83, 84, 85, 86, 87, 92, 93, 94, 95, 96, 97, 98, 99, 100, 101, 102, 103, 104, 105, 106, 107, 108, 109, 110, 111, 112, 113, 114, 115, 116] (by decide +kernel) (by decide +kernel)
set_option maxRecDepth 20000 in
theorem gX5_days_X5_act : GoodIn wsX5_days (wsV RX5 145 RX5 yX5_act wsX5_act) := goodIn_app (goodIn_of _ (by decide +kernel)) ggX5_days_X5_act
set_option maxRecDepth 20000 in
theorem ggX5_days_X4_day : GoodIn wsX5_days wsX4_day := goodIn_r _ [91, 74, 105, 106, 107, 108, 109, 110, 111, 112] (by decide +kernel) (by decide +kernel)
set_option maxRecDepth 20000 in
theorem gX5_days_X4_day : GoodIn wsX5_days (wsV RX5 156 RX4 yX4_day wsX4_day) := goodIn_app (goodIn_of _ (by decide +kernel)) ggX5_days_X4_day
theorem dX5_days_0 : decode cX5_days 0 = .ok (.iload_n 1, 1) := by decide +kernel
theorem dX5_days_1 : decode cX5_days 1 = .ok (.iconst 1, 1) := by decide +kernel
theorem dX5_days_2 : decode cX5_days 2 = .ok (.if_icmp .lt 9, 3) := by decide +kernel
theorem dX5_days_5 : decode cX5_days 5 = .ok (.iload_n 1, 1) := by decide +kernel
theorem dX5_days_6 : decode cX5_days 6 = .ok (.bipush 9, 2) := by decide +kernel
theorem dX5_days_8 : decode cX5_days 8 = .ok (.if_icmp .le 5, 3) := by decide +kernel
theorem dX5_days_11 : decode cX5_days 11 = .ok (.iconst (-1), 1) := by decide +kernel
theorem dX5_days_12 : decode cX5_days 12 = .ok (.ireturn, 1) := by decide +kernel
theorem dX5_days_13 : decode cX5_days 13 = .ok (.aload_n 0, 1) := by decide +kernel
theorem dX5_days_14 : decode cX5_days 14 = .ok (.iconst 5, 1) := by decide +kernel
theorem dX5_days_15 : decode cX5_days 15 = .ok (.iload_n 1, 1) := by decide +kernel
theorem dX5_days_16 : decode cX5_days 16 = .ok (.iload_n 1, 1) := by decide +kernel
theorem dX5_days_17 : decode cX5_days 17 = .ok (.invokevirtual 145, 3) := by decide +kernel
theorem dX5_days_20 : decode cX5_days 20 = .ok (.istore_n 2, 1) := by decide +kernel
theorem dX5_days_21 : decode cX5_days 21 = .ok (.iload_n 2, 1) := by decide +kernel
theorem dX5_days_22 : decode cX5_days 22 = .ok (.ifCond .ge 7, 3) := by decide +kernel
theorem dX5_days_25 : decode cX5_days 25 = .ok (.iload_n 2, 1) := by decide +kernel
theorem dX5_days_26 : decode cX5_days 26 = .ok (.goto 10, 3) := by decide +kernel
theorem dX5_days_29 : decode cX5_days 29 = .ok (.aload_n 0, 1) := by decide +kernel
theorem dX5_days_30 : decode cX5_days 30 = .ok (.getfield 31, 3) := by decide +kernel
theorem dX5_days_33 : decode cX5_days 33 = .ok (.invokevirtual 156, 3) := by decide +kernel
theorem dX5_days_36 : decode cX5_days 36 = .ok (.ireturn, 1) := by decide +kernel
set_option maxRecDepth 20000 in
theorem ggX5_undo_X0_size : GoodIn wsX5_undo wsX0_size := goodIn_r _ [7, 8, 124, 125, 126, 127] (by decide +kernel) (by decide +kernel)
set_option maxRecDepth 20000 in
theorem gX5_undo_X0_size : GoodIn wsX5_undo (wsV RX5 159 RX0 yX0_size wsX0_size) := goodIn_app (goodIn_of _ (by decide +kernel)) ggX5_undo_X0_size
set_option maxRecDepth 20000 in
theorem ggX5_undo_X0_dropLatest : GoodIn wsX5_undo wsX0_dropLatest := goodIn_r _ [12, 8, 124, 125, 126, 127] (by decide +kernel) (by decide +kernel)
set_option maxRecDepth 20000 in
theorem gX5_undo_X0_dropLatest : GoodIn wsX5_undo (wsV RX5 162 RX0 yX0_dropLatest wsX0_dropLatest) := goodIn_app (goodIn_of _ (by decide +kernel)) ggX5_undo_X0_dropLatest
set_option maxRecDepth 20000 in
theorem ggX5_undo_X5_doAgain : GoodIn wsX5_undo wsX5_doAgain := goodIn_r _ [17, 18, 1, 19, 20, 21, 22, 23, 24, 25, 26, 27, 28, 29, 30, 31, 32, 33, 34, 35, 3, 4, 5, 6, 7, 8, 36, 37, 38, 39, 40, 41, 42, 43, 44, 45, 46, 47, 48, 49, 50, 51, 52, 53, 54, 55, 56, 57, 58, 59, 60, 61, 62, 63, 64, 65, 66, 67, 68, 69, 70, 71, 72, 73, 74, 75, 76, 77, 78, 79, 80, 81, 82, 83, 84, 85, 86, 87, 88, 89, 90, 91, 92, 93, 94, 95, 96, 97, 98, 99, 100, 101, 102, 103, 104, 105, 106, 107, 108, 109, 110, 111, 112, 113, 114, 115, 116, 117, 118, 119, 120, 121, 122, 123, 128, 129, 130, 131, 132, 133, 134, 135, 124, 125, 126, 127] (by decide +kernel) (by decide +kernel)
set_option maxRecDepth 20000 in
theorem gX5_undo_X5_doAgain : GoodIn wsX5_undo (wsV RX5 165 RX5 yX5_doAgain wsX5_doAgain) := goodIn_app (goodIn_of _ (by decide +kernel)) ggX5_undo_X5_doAgain
theorem dX5_undo_0 : decode cX5_undo 0 = .ok (.aload_n 0, 1) := by decide +kernel
theorem dX5_undo_1 : decode cX5_undo 1 = .ok (.getfield 43, 3) := by decide +kernel
theorem dX5_undo_4 : decode cX5_undo 4 = .ok (.invokevirtual 159, 3) := by decide +kernel
theorem dX5_undo_7 : decode cX5_undo 7 = .ok (.iconst 1, 1) := by decide +kernel
theorem dX5_undo_8 : decode cX5_undo 8 = .ok (.if_icmp .ge 6, 3) := by decide +kernel
theorem dX5_undo_11 : decode cX5_undo 11 = .ok (.bipush (-2), 2) := by decide +kernel
theorem dX5_undo_13 : decode cX5_undo 13 = .ok (.ireturn, 1) := by decide +kernel
theorem dX5_undo_14 : decode cX5_undo 14 = .ok (.aload_n 0, 1) := by decide +kernel
theorem dX5_undo_15 : decode cX5_undo 15 = .ok (.getfield 43, 3) := by decide +kernel
theorem dX5_undo_18 : decode cX5_undo 18 = .ok (.invokevirtual 162, 3) := by decide +kernel
theorem dX5_undo_21 : decode cX5_undo 21 = .ok (.aload_n 0, 1) := by decide +kernel
theorem dX5_undo_22 : decode cX5_undo 22 = .ok (.aload_n 0, 1) := by decide +kernel
theorem dX5_undo_23 : decode cX5_undo 23 = .ok (.getfield 31, 3) := by decide +kernel
theorem dX5_undo_26 : decode cX5_undo 26 = .ok (.iconst (-1), 1) := by decide +kernel
theorem dX5_undo_27 : decode cX5_undo 27 = .ok (.invokevirtual 165, 3) := by decide +kernel
theorem dX5_undo_30 : decode cX5_undo 30 = .ok (.aload_n 0, 1) := by decide +kernel
theorem dX5_undo_31 : decode cX5_undo 31 = .ok (.getfield 43, 3) := by decide +kernel
theorem dX5_undo_34 : decode cX5_undo 34 = .ok (.invokevirtual 159, 3) := by decide +kernel
theorem dX5_undo_37 : decode cX5_undo 37 = .ok (.ireturn, 1) := by decide +kernel
set_option maxRecDepth 20000 in
theorem ggX5_peace_X4_copyFrom : GoodIn wsX5_peace wsX4_copyFrom := goodIn_r _ [7, 8, 9, 10, 11, 12, 13, 14, 15, 16, 17, 18, 19, 85, 86, 87, 88, 89, 90, 91, 92] (by decide +kernel) (by decide +kernel)
set_option maxRecDepth 20000 in
theorem gX5_peace_X4_copyFrom : GoodIn wsX5_peace (wsV RX5 91 RX4 yX4_copyFrom wsX4_copyFrom) := goodIn_app (goodIn_of _ (by decide +kernel)) ggX5_peace_X4_copyFrom
set_option maxRecDepth 20000 in
theorem ggX5_peace_X4_makePeace : GoodIn wsX5_peace wsX4_makePeace := goodIn_r _ [23, 24, 25, 26, 6, 27, 8, 19, 12, 28, 29, 30, 31, 32, 33, 34, 35, 18, 36, 37, 38, 39, 40, 41, 42, 43, 9, 44, 45, 46, 47, 48, 49, 50, 51, 52, 53, 54, 55, 56, 57, 58, 59, 85, 86, 87, 88, 89, 90, 91, 92] (by decide +kernel) (by decide +kernel)
set_option maxRecDepth 20000 in
theorem gX5_peace_X4_makePeace : GoodIn wsX5_peace (wsV RX5 169 RX4 yX4_makePeace wsX4_makePeace) := goodIn_app (goodIn_of _ (by decide +kernel)) ggX5_peace_X4_makePeace
set_option maxRecDepth 20000 in
theorem ggX5_peace_X4_allOwed : GoodIn wsX5_peace wsX4_allOwed := goodIn_r _ [63, 8, 19, 85, 86, 87, 88, 89, 90, 91, 92] (by decide +kernel) (by decide +kernel)
set_option maxRecDepth 20000 in
theorem gX5_peace_X4_allOwed : GoodIn wsX5_peace (wsV RX5 172 RX4 yX4_allOwed wsX4_allOwed) := goodIn_app (goodIn_of _ (by decide +kernel)) ggX5_peace_X4_allOwed
set_option maxRecDepth 20000 in
theorem ggX5_peace_X4_stuckBits : GoodIn wsX5_peace wsX4_stuckBits := goodIn_r _ [67, 8, 19, 68, 69, 70, 6, 71, 32, 33, 34, 35, 18, 85, 86, 87, 88, 89, 90, 91, 92] (by decide +kernel) (by decide +kernel)
set_option maxRecDepth 20000 in
theorem gX5_peace_X4_stuckBits : GoodIn wsX5_peace (wsV RX5 175 RX4 yX4_stuckBits wsX4_stuckBits) := goodIn_app (goodIn_of _ (by decide +kernel)) ggX5_peace_X4_stuckBits
theorem dX5_peace_0 : decode cX5_peace 0 = .ok (.iload_n 1, 1) := by decide +kernel
theorem dX5_peace_1 : decode cX5_peace 1 = .ok (.ifCond .lt 8, 3) := by decide +kernel
theorem dX5_peace_4 : decode cX5_peace 4 = .ok (.iload_n 1, 1) := by decide +kernel
theorem dX5_peace_5 : decode cX5_peace 5 = .ok (.iconst 2, 1) := by decide +kernel
theorem dX5_peace_6 : decode cX5_peace 6 = .ok (.if_icmp .le 5, 3) := by decide +kernel
theorem dX5_peace_9 : decode cX5_peace 9 = .ok (.iconst (-1), 1) := by decide +kernel
theorem dX5_peace_10 : decode cX5_peace 10 = .ok (.ireturn, 1) := by decide +kernel
theorem dX5_peace_11 : decode cX5_peace 11 = .ok (.aload_n 0, 1) := by decide +kernel
theorem dX5_peace_12 : decode cX5_peace 12 = .ok (.getfield 37, 3) := by decide +kernel
theorem dX5_peace_15 : decode cX5_peace 15 = .ok (.aload_n 0, 1) := by decide +kernel
theorem dX5_peace_16 : decode cX5_peace 16 = .ok (.getfield 31, 3) := by decide +kernel
theorem dX5_peace_19 : decode cX5_peace 19 = .ok (.invokevirtual 91, 3) := by decide +kernel
theorem dX5_peace_22 : decode cX5_peace 22 = .ok (.aload_n 0, 1) := by decide +kernel
theorem dX5_peace_23 : decode cX5_peace 23 = .ok (.getfield 37, 3) := by decide +kernel
theorem dX5_peace_26 : decode cX5_peace 26 = .ok (.invokevirtual 169, 3) := by decide +kernel
theorem dX5_peace_29 : decode cX5_peace 29 = .ok (.istore_n 2, 1) := by decide +kernel
theorem dX5_peace_30 : decode cX5_peace 30 = .ok (.iload_n 1, 1) := by decide +kernel
theorem dX5_peace_31 : decode cX5_peace 31 = .ok (.ifCond .ne 5, 3) := by decide +kernel
theorem dX5_peace_34 : decode cX5_peace 34 = .ok (.iload_n 2, 1) := by decide +kernel
theorem dX5_peace_35 : decode cX5_peace 35 = .ok (.ireturn, 1) := by decide +kernel
theorem dX5_peace_36 : decode cX5_peace 36 = .ok (.iload_n 1, 1) := by decide +kernel
theorem dX5_peace_37 : decode cX5_peace 37 = .ok (.iconst 1, 1) := by decide +kernel
theorem dX5_peace_38 : decode cX5_peace 38 = .ok (.if_icmp .ne 13, 3) := by decide +kernel
theorem dX5_peace_41 : decode cX5_peace 41 = .ok (.aload_n 0, 1) := by decide +kernel
theorem dX5_peace_42 : decode cX5_peace 42 = .ok (.getfield 37, 3) := by decide +kernel
theorem dX5_peace_45 : decode cX5_peace 45 = .ok (.invokevirtual 172, 3) := by decide +kernel
theorem dX5_peace_48 : decode cX5_peace 48 = .ok (.goto 10, 3) := by decide +kernel
theorem dX5_peace_51 : decode cX5_peace 51 = .ok (.aload_n 0, 1) := by decide +kernel
theorem dX5_peace_52 : decode cX5_peace 52 = .ok (.getfield 37, 3) := by decide +kernel
theorem dX5_peace_55 : decode cX5_peace 55 = .ok (.invokevirtual 175, 3) := by decide +kernel
theorem dX5_peace_58 : decode cX5_peace 58 = .ok (.ireturn, 1) := by decide +kernel
set_option maxRecDepth 20000 in
theorem ggX5_ring_X5_isPerson : GoodIn wsX5_ring wsX5_isPerson := goodIn_r _ [7, 1, 8, 9, 10, 11, 12, 13, 57, 58, 59, 60, 61, 62, 63, 64, 65, 66, 67, 68, 69, 70, 71, 72, 73, 74, 75, 76, 77] (by decide +kernel) (by decide +kernel)
set_option maxRecDepth 20000 in
theorem gX5_ring_X5_isPerson : GoodIn wsX5_ring (wsV RX5 103 RX5 yX5_isPerson wsX5_isPerson) := goodIn_app (goodIn_of _ (by decide +kernel)) ggX5_ring_X5_isPerson
set_option maxRecDepth 20000 in
theorem ggX5_ring_X5_isZeroOrOne : GoodIn wsX5_ring wsX5_isZeroOrOne := goodIn_r _ [16] (by decide +kernel) (by decide +kernel)
set_option maxRecDepth 20000 in
theorem gX5_ring_X5_isZeroOrOne : GoodIn wsX5_ring (va_wsS RX5 178 yX5_isZeroOrOne wsX5_isZeroOrOne) := goodIn_app (goodIn_of _ (by decide +kernel)) ggX5_ring_X5_isZeroOrOne
set_option maxRecDepth 20000 in
theorem ggX5_ring_X4_linkDebts : GoodIn wsX5_ring wsX4_linkDebts := goodIn_r _ [20, 13, 21, 22, 23, 24, 25, 26, 27, 28, 29, 30, 31, 32, 33, 34, 35, 36, 37, 38, 11, 39, 40, 41, 42, 43, 44, 70, 71, 72, 73, 74, 75, 76, 77, 78, 79, 80] (by decide +kernel) (by decide +kernel)
set_option maxRecDepth 20000 in
theorem gX5_ring_X4_linkDebts : GoodIn wsX5_ring (wsV RX5 181 RX4 yX4_linkDebts wsX4_linkDebts) := goodIn_app (goodIn_of _ (by decide +kernel)) ggX5_ring_X4_linkDebts
set_option maxRecDepth 20000 in
theorem ggX5_ring_X4_persons : GoodIn wsX5_ring wsX4_persons := goodIn_r _ [12, 13, 70, 71, 72, 73, 74, 75, 76, 77] (by decide +kernel) (by decide +kernel)
set_option maxRecDepth 20000 in
theorem gX5_ring_X4_persons : GoodIn wsX5_ring (wsV RX5 88 RX4 yX4_persons wsX4_persons) := goodIn_app (goodIn_of _ (by decide +kernel)) ggX5_ring_X4_persons
set_option maxRecDepth 20000 in
theorem ggX5_ring_X2_areLinked : GoodIn wsX5_ring wsX2_areLinked := goodIn_r _ [48, 31, 78, 79, 80] (by decide +kernel) (by decide +kernel)
set_option maxRecDepth 20000 in
theorem gX5_ring_X2_areLinked : GoodIn wsX5_ring (wsV RX5 185 RX2 yX2_areLinked wsX2_areLinked) := goodIn_app (goodIn_of _ (by decide +kernel)) ggX5_ring_X2_areLinked
set_option maxRecDepth 20000 in
theorem ggX5_ring_X2_steps : GoodIn wsX5_ring wsX2_steps := goodIn_r _ [52, 30, 53, 54, 55, 24, 56, 31, 78, 79, 80] (by decide +kernel) (by decide +kernel)
set_option maxRecDepth 20000 in
theorem gX5_ring_X2_steps : GoodIn wsX5_ring (wsV RX5 188 RX2 yX2_steps wsX2_steps) := goodIn_app (goodIn_of _ (by decide +kernel)) ggX5_ring_X2_steps
theorem dX5_ring_0 : decode cX5_ring 0 = .ok (.aload_n 0, 1) := by decide +kernel
theorem dX5_ring_1 : decode cX5_ring 1 = .ok (.iload_n 1, 1) := by decide +kernel
theorem dX5_ring_2 : decode cX5_ring 2 = .ok (.invokevirtual 103, 3) := by decide +kernel
theorem dX5_ring_5 : decode cX5_ring 5 = .ok (.ifCond .eq 10, 3) := by decide +kernel
theorem dX5_ring_8 : decode cX5_ring 8 = .ok (.iload_n 2, 1) := by decide +kernel
theorem dX5_ring_9 : decode cX5_ring 9 = .ok (.invokestatic 178, 3) := by decide +kernel
theorem dX5_ring_12 : decode cX5_ring 12 = .ok (.ifCond .ne 5, 3) := by decide +kernel
theorem dX5_ring_15 : decode cX5_ring 15 = .ok (.iconst (-1), 1) := by decide +kernel
theorem dX5_ring_16 : decode cX5_ring 16 = .ok (.ireturn, 1) := by decide +kernel
theorem dX5_ring_17 : decode cX5_ring 17 = .ok (.aload_n 0, 1) := by decide +kernel
theorem dX5_ring_18 : decode cX5_ring 18 = .ok (.getfield 31, 3) := by decide +kernel
theorem dX5_ring_21 : decode cX5_ring 21 = .ok (.aload_n 0, 1) := by decide +kernel
theorem dX5_ring_22 : decode cX5_ring 22 = .ok (.getfield 56, 3) := by decide +kernel
theorem dX5_ring_25 : decode cX5_ring 25 = .ok (.invokevirtual 181, 3) := by decide +kernel
theorem dX5_ring_28 : decode cX5_ring 28 = .ok (.bipush (-4), 2) := by decide +kernel
theorem dX5_ring_30 : decode cX5_ring 30 = .ok (.istore_n 3, 1) := by decide +kernel
theorem dX5_ring_31 : decode cX5_ring 31 = .ok (.bipush (-4), 2) := by decide +kernel
theorem dX5_ring_33 : decode cX5_ring 33 = .ok (.istore 4, 2) := by decide +kernel
theorem dX5_ring_35 : decode cX5_ring 35 = .ok (.iconst 0, 1) := by decide +kernel
theorem dX5_ring_36 : decode cX5_ring 36 = .ok (.istore 5, 2) := by decide +kernel
theorem dX5_ring_38 : decode cX5_ring 38 = .ok (.iload 5, 2) := by decide +kernel
theorem dX5_ring_40 : decode cX5_ring 40 = .ok (.aload_n 0, 1) := by decide +kernel
theorem dX5_ring_41 : decode cX5_ring 41 = .ok (.getfield 31, 3) := by decide +kernel
theorem dX5_ring_44 : decode cX5_ring 44 = .ok (.invokevirtual 88, 3) := by decide +kernel
theorem dX5_ring_47 : decode cX5_ring 47 = .ok (.if_icmp .ge 69, 3) := by decide +kernel
theorem dX5_ring_50 : decode cX5_ring 50 = .ok (.aload_n 0, 1) := by decide +kernel
theorem dX5_ring_51 : decode cX5_ring 51 = .ok (.getfield 56, 3) := by decide +kernel
theorem dX5_ring_54 : decode cX5_ring 54 = .ok (.iload_n 1, 1) := by decide +kernel
theorem dX5_ring_55 : decode cX5_ring 55 = .ok (.iload 5, 2) := by decide +kernel
theorem dX5_ring_57 : decode cX5_ring 57 = .ok (.invokevirtual 185, 3) := by decide +kernel
theorem dX5_ring_60 : decode cX5_ring 60 = .ok (.ifCond .eq 16, 3) := by decide +kernel
theorem dX5_ring_63 : decode cX5_ring 63 = .ok (.aload_n 0, 1) := by decide +kernel
theorem dX5_ring_64 : decode cX5_ring 64 = .ok (.getfield 56, 3) := by decide +kernel
theorem dX5_ring_67 : decode cX5_ring 67 = .ok (.iload 5, 2) := by decide +kernel
theorem dX5_ring_69 : decode cX5_ring 69 = .ok (.iload_n 1, 1) := by decide +kernel
theorem dX5_ring_70 : decode cX5_ring 70 = .ok (.invokevirtual 188, 3) := by decide +kernel
theorem dX5_ring_73 : decode cX5_ring 73 = .ok (.goto 5, 3) := by decide +kernel
theorem dX5_ring_76 : decode cX5_ring 76 = .ok (.bipush (-4), 2) := by decide +kernel
theorem dX5_ring_78 : decode cX5_ring 78 = .ok (.istore 6, 2) := by decide +kernel
theorem dX5_ring_80 : decode cX5_ring 80 = .ok (.iload 6, 2) := by decide +kernel
theorem dX5_ring_82 : decode cX5_ring 82 = .ok (.bipush (-4), 2) := by decide +kernel
theorem dX5_ring_84 : decode cX5_ring 84 = .ok (.if_icmp .eq 26, 3) := by decide +kernel
theorem dX5_ring_87 : decode cX5_ring 87 = .ok (.iload_n 3, 1) := by decide +kernel
theorem dX5_ring_88 : decode cX5_ring 88 = .ok (.bipush (-4), 2) := by decide +kernel
theorem dX5_ring_90 : decode cX5_ring 90 = .ok (.if_icmp .eq 11, 3) := by decide +kernel
theorem dX5_ring_93 : decode cX5_ring 93 = .ok (.iload 6, 2) := by decide +kernel
theorem dX5_ring_95 : decode cX5_ring 95 = .ok (.iconst 1, 1) := by decide +kernel
theorem dX5_ring_96 : decode cX5_ring 96 = .ok (.iadd, 1) := by decide +kernel
theorem dX5_ring_97 : decode cX5_ring 97 = .ok (.iload_n 3, 1) := by decide +kernel
theorem dX5_ring_98 : decode cX5_ring 98 = .ok (.if_icmp .ge 12, 3) := by decide +kernel
theorem dX5_ring_101 : decode cX5_ring 101 = .ok (.iload 6, 2) := by decide +kernel
theorem dX5_ring_103 : decode cX5_ring 103 = .ok (.iconst 1, 1) := by decide +kernel
theorem dX5_ring_104 : decode cX5_ring 104 = .ok (.iadd, 1) := by decide +kernel
theorem dX5_ring_105 : decode cX5_ring 105 = .ok (.istore_n 3, 1) := by decide +kernel
theorem dX5_ring_106 : decode cX5_ring 106 = .ok (.iload 5, 2) := by decide +kernel
theorem dX5_ring_108 : decode cX5_ring 108 = .ok (.istore 4, 2) := by decide +kernel
theorem dX5_ring_110 : decode cX5_ring 110 = .ok (.iinc 5 1, 3) := by decide +kernel
theorem dX5_ring_113 : decode cX5_ring 113 = .ok (.goto (-75), 3) := by decide +kernel
theorem dX5_ring_116 : decode cX5_ring 116 = .ok (.iload_n 2, 1) := by decide +kernel
theorem dX5_ring_117 : decode cX5_ring 117 = .ok (.ifCond .ne 7, 3) := by decide +kernel
theorem dX5_ring_120 : decode cX5_ring 120 = .ok (.iload_n 3, 1) := by decide +kernel
theorem dX5_ring_121 : decode cX5_ring 121 = .ok (.goto 5, 3) := by decide +kernel
theorem dX5_ring_124 : decode cX5_ring 124 = .ok (.iload 4, 2) := by decide +kernel
theorem dX5_ring_126 : decode cX5_ring 126 = .ok (.ireturn, 1) := by decide +kernel
set_option maxRecDepth 20000 in
theorem ggX5_forgiven_X5_isZeroOrOne : GoodIn wsX5_forgiven wsX5_isZeroOrOne := goodIn_r _ [5] (by decide +kernel) (by decide +kernel)
set_option maxRecDepth 20000 in
theorem gX5_forgiven_X5_isZeroOrOne : GoodIn wsX5_forgiven (va_wsS RX5 178 yX5_isZeroOrOne wsX5_isZeroOrOne) := goodIn_app (goodIn_of _ (by decide +kernel)) ggX5_forgiven_X5_isZeroOrOne
set_option maxRecDepth 20000 in
theorem ggX5_forgiven_X5_listDebts : GoodIn wsX5_forgiven wsX5_listDebts := goodIn_r _ [9, 10, 1, 11, 12, 13, 14, 15, 16, 17, 18, 19, 20, 21, 22, 23, 4, 24, 90, 91, 92, 93, 94, 95, 96, 97, 98, 99, 100, 101, 102, 103, 104, 105, 106, 107, 108, 109, 110] (by decide +kernel) (by decide +kernel)
set_option maxRecDepth 20000 in
theorem gX5_forgiven_X5_listDebts : GoodIn wsX5_forgiven (wsV RX5 191 RX5 yX5_listDebts wsX5_listDebts) := goodIn_app (goodIn_of _ (by decide +kernel)) ggX5_forgiven_X5_listDebts
set_option maxRecDepth 20000 in
theorem ggX5_forgiven_X5_owedWithout : GoodIn wsX5_forgiven wsX5_owedWithout := goodIn_r _ [28, 29, 10, 30, 31, 32, 14, 33, 16, 34, 35, 36, 37, 38, 39, 40, 41, 42, 21, 43, 44, 45, 46, 4, 47, 1, 48, 49, 50, 51, 52, 53, 54, 55, 56, 57, 58, 59, 60, 61, 62, 63, 64, 18, 19, 20, 65, 66, 67, 68, 69, 70, 71, 72, 73, 74, 75, 76, 77, 78, 79, 80, 81, 82, 83, 84, 85, 86, 87, 88, 89, 90, 91, 92, 93, 94, 95, 96, 97, 98, 99, 100, 101, 102, 103, 104, 105, 106, 107, 108, 109, 110] (by decide +kernel) (by decide +kernel)
set_option maxRecDepth 20000 in
theorem gX5_forgiven_X5_owedWithout : GoodIn wsX5_forgiven (wsV RX5 194 RX5 yX5_owedWithout wsX5_owedWithout) := goodIn_app (goodIn_of _ (by decide +kernel)) ggX5_forgiven_X5_owedWithout
theorem dX5_forgiven_0 : decode cX5_forgiven 0 = .ok (.iload_n 1, 1) := by decide +kernel
theorem dX5_forgiven_1 : decode cX5_forgiven 1 = .ok (.invokestatic 178, 3) := by decide +kernel
theorem dX5_forgiven_4 : decode cX5_forgiven 4 = .ok (.ifCond .ne 5, 3) := by decide +kernel
theorem dX5_forgiven_7 : decode cX5_forgiven 7 = .ok (.iconst (-1), 1) := by decide +kernel
theorem dX5_forgiven_8 : decode cX5_forgiven 8 = .ok (.ireturn, 1) := by decide +kernel
theorem dX5_forgiven_9 : decode cX5_forgiven 9 = .ok (.aload_n 0, 1) := by decide +kernel
theorem dX5_forgiven_10 : decode cX5_forgiven 10 = .ok (.invokevirtual 191, 3) := by decide +kernel
theorem dX5_forgiven_13 : decode cX5_forgiven 13 = .ok (.istore_n 2, 1) := by decide +kernel
theorem dX5_forgiven_14 : decode cX5_forgiven 14 = .ok (.bipush (-4), 2) := by decide +kernel
theorem dX5_forgiven_16 : decode cX5_forgiven 16 = .ok (.istore_n 3, 1) := by decide +kernel
theorem dX5_forgiven_17 : decode cX5_forgiven 17 = .ok (.bipush (-4), 2) := by decide +kernel
theorem dX5_forgiven_19 : decode cX5_forgiven 19 = .ok (.istore 4, 2) := by decide +kernel
theorem dX5_forgiven_21 : decode cX5_forgiven 21 = .ok (.iconst 0, 1) := by decide +kernel
theorem dX5_forgiven_22 : decode cX5_forgiven 22 = .ok (.istore 5, 2) := by decide +kernel
theorem dX5_forgiven_24 : decode cX5_forgiven 24 = .ok (.iload 5, 2) := by decide +kernel
theorem dX5_forgiven_26 : decode cX5_forgiven 26 = .ok (.iload_n 2, 1) := by decide +kernel
theorem dX5_forgiven_27 : decode cX5_forgiven 27 = .ok (.if_icmp .ge 43, 3) := by decide +kernel
theorem dX5_forgiven_30 : decode cX5_forgiven 30 = .ok (.aload_n 0, 1) := by decide +kernel
theorem dX5_forgiven_31 : decode cX5_forgiven 31 = .ok (.iload 5, 2) := by decide +kernel
theorem dX5_forgiven_33 : decode cX5_forgiven 33 = .ok (.iconst (-1), 1) := by decide +kernel
theorem dX5_forgiven_34 : decode cX5_forgiven 34 = .ok (.invokevirtual 194, 3) := by decide +kernel
theorem dX5_forgiven_37 : decode cX5_forgiven 37 = .ok (.istore 6, 2) := by decide +kernel
theorem dX5_forgiven_39 : decode cX5_forgiven 39 = .ok (.iload_n 3, 1) := by decide +kernel
theorem dX5_forgiven_40 : decode cX5_forgiven 40 = .ok (.bipush (-4), 2) := by decide +kernel
theorem dX5_forgiven_42 : decode cX5_forgiven 42 = .ok (.if_icmp .eq 10, 3) := by decide +kernel
theorem dX5_forgiven_45 : decode cX5_forgiven 45 = .ok (.iload 6, 2) := by decide +kernel
theorem dX5_forgiven_47 : decode cX5_forgiven 47 = .ok (.iload 4, 2) := by decide +kernel
theorem dX5_forgiven_49 : decode cX5_forgiven 49 = .ok (.if_icmp .ge 15, 3) := by decide +kernel
theorem dX5_forgiven_52 : decode cX5_forgiven 52 = .ok (.aload_n 0, 1) := by decide +kernel
theorem dX5_forgiven_53 : decode cX5_forgiven 53 = .ok (.getfield 60, 3) := by decide +kernel
theorem dX5_forgiven_56 : decode cX5_forgiven 56 = .ok (.iload 5, 2) := by decide +kernel
theorem dX5_forgiven_58 : decode cX5_forgiven 58 = .ok (.iaload, 1) := by decide +kernel
theorem dX5_forgiven_59 : decode cX5_forgiven 59 = .ok (.istore_n 3, 1) := by decide +kernel
theorem dX5_forgiven_60 : decode cX5_forgiven 60 = .ok (.iload 6, 2) := by decide +kernel
theorem dX5_forgiven_62 : decode cX5_forgiven 62 = .ok (.istore 4, 2) := by decide +kernel
theorem dX5_forgiven_64 : decode cX5_forgiven 64 = .ok (.iinc 5 1, 3) := by decide +kernel
theorem dX5_forgiven_67 : decode cX5_forgiven 67 = .ok (.goto (-43), 3) := by decide +kernel
theorem dX5_forgiven_70 : decode cX5_forgiven 70 = .ok (.iload_n 1, 1) := by decide +kernel
theorem dX5_forgiven_71 : decode cX5_forgiven 71 = .ok (.ifCond .ne 7, 3) := by decide +kernel
theorem dX5_forgiven_74 : decode cX5_forgiven 74 = .ok (.iload_n 3, 1) := by decide +kernel
theorem dX5_forgiven_75 : decode cX5_forgiven 75 = .ok (.goto 5, 3) := by decide +kernel
theorem dX5_forgiven_78 : decode cX5_forgiven 78 = .ok (.iload 4, 2) := by decide +kernel
theorem dX5_forgiven_80 : decode cX5_forgiven 80 = .ok (.ireturn, 1) := by decide +kernel
set_option maxRecDepth 20000 in
theorem ggX5_mustNot_X5_isPerson : GoodIn wsX5_mustNot wsX5_isPerson := goodIn_r _ [6, 1, 7, 8, 9, 10, 11, 12, 120, 121, 122, 123, 124, 125, 126, 127, 128, 129, 130, 131, 132, 133, 134, 135, 136, 137, 138, 139, 140] (by decide +kernel) (by decide +kernel)
set_option maxRecDepth 20000 in
theorem gX5_mustNot_X5_isPerson : GoodIn wsX5_mustNot (wsV RX5 103 RX5 yX5_isPerson wsX5_isPerson) := goodIn_app (goodIn_of _ (by decide +kernel)) ggX5_mustNot_X5_isPerson
set_option maxRecDepth 20000 in
theorem ggX5_mustNot_X4_isAlive : GoodIn wsX5_mustNot wsX4_isAlive := goodIn_r _ [16, 17, 133, 134, 135, 136, 137, 138, 139, 140] (by decide +kernel) (by decide +kernel)
set_option maxRecDepth 20000 in
theorem gX5_mustNot_X4_isAlive : GoodIn wsX5_mustNot (wsV RX5 114 RX4 yX4_isAlive wsX4_isAlive) := goodIn_app (goodIn_of _ (by decide +kernel)) ggX5_mustNot_X4_isAlive
set_option maxRecDepth 20000 in
theorem ggX5_mustNot_X5_owedWithout : GoodIn wsX5_mustNot wsX5_owedWithout := goodIn_r _ [21, 22, 1, 23, 24, 25, 10, 26, 12, 27, 28, 17, 29, 30, 31, 32, 33, 34, 35, 36, 37, 38, 39, 5, 40, 41, 42, 43, 44, 45, 46, 47, 48, 49, 50, 51, 52, 53, 54, 55, 56, 57, 58, 59, 60, 61, 62, 63, 64, 65, 66, 67, 68, 69, 70, 71, 72, 73, 74, 75, 76, 77, 78, 79, 80, 81, 82, 83, 84, 85, 86, 120, 121, 122, 123, 124, 125, 126, 127, 128, 129, 130, 131, 132, 133, 134, 135, 136, 137, 138, 139, 140] (by decide +kernel) (by decide +kernel)
set_option maxRecDepth 20000 in
theorem gX5_mustNot_X5_owedWithout : GoodIn wsX5_mustNot (wsV RX5 194 RX5 yX5_owedWithout wsX5_owedWithout) := goodIn_app (goodIn_of _ (by decide +kernel)) ggX5_mustNot_X5_owedWithout
set_option maxRecDepth 20000 in
theorem ggX5_mustNot_X4_persons : GoodIn wsX5_mustNot wsX4_persons := goodIn_r _ [11, 12, 133, 134, 135, 136, 137, 138, 139, 140] (by decide +kernel) (by decide +kernel)
set_option maxRecDepth 20000 in
theorem gX5_mustNot_X4_persons : GoodIn wsX5_mustNot (wsV RX5 88 RX4 yX4_persons wsX4_persons) := goodIn_app (goodIn_of _ (by decide +kernel)) ggX5_mustNot_X4_persons
set_option maxRecDepth 20000 in
theorem ggX5_mustNot_X4_canBeDone : GoodIn wsX5_mustNot wsX4_canBeDone := goodIn_r _ [90, 91, 14, 15, 10, 16, 17, 58, 59, 60, 61, 35, 54, 55, 56, 57, 62, 63, 64, 65, 29, 36, 75, 76, 77, 78, 133, 134, 135, 136, 137, 138, 139, 140] (by decide +kernel) (by decide +kernel)
set_option maxRecDepth 20000 in
theorem gX5_mustNot_X4_canBeDone : GoodIn wsX5_mustNot (wsV RX5 197 RX4 yX4_canBeDone wsX4_canBeDone) := goodIn_app (goodIn_of _ (by decide +kernel)) ggX5_mustNot_X4_canBeDone
set_option maxRecDepth 20000 in
theorem ggX5_mustNot_X5_owedBehindWrong : GoodIn wsX5_mustNot wsX5_owedBehindWrong := goodIn_r _ [95, 22, 1, 23, 24, 25, 10, 26, 12, 27, 28, 17, 29, 30, 31, 32, 33, 34, 35, 36, 96, 97, 98, 99, 100, 101, 102, 103, 104, 105, 106, 107, 58, 59, 60, 61, 70, 43, 44, 45, 79, 80, 81, 82, 66, 67, 68, 69, 108, 109, 110, 111, 112, 113, 114, 115, 116, 117, 118, 119, 91, 14, 15, 16, 46, 47, 48, 49, 50, 51, 52, 53, 54, 55, 56, 57, 62, 63, 64, 65, 71, 72, 73, 74, 75, 76, 77, 78, 83, 84, 85, 86, 120, 121, 122, 123, 124, 125, 126, 127, 128, 129, 130, 131, 132, 133, 134, 135, 136, 137, 138, 139, 140] (by decide +kernel) (by decide +kernel)
set_option maxRecDepth 20000 in
theorem gX5_mustNot_X5_owedBehindWrong : GoodIn wsX5_mustNot (wsV RX5 201 RX5 yX5_owedBehindWrong wsX5_owedBehindWrong) := goodIn_app (goodIn_of _ (by decide +kernel)) ggX5_mustNot_X5_owedBehindWrong
theorem dX5_mustNot_0 : decode cX5_mustNot 0 = .ok (.aload_n 0, 1) := by decide +kernel
theorem dX5_mustNot_1 : decode cX5_mustNot 1 = .ok (.iload_n 1, 1) := by decide +kernel
theorem dX5_mustNot_2 : decode cX5_mustNot 2 = .ok (.invokevirtual 103, 3) := by decide +kernel
theorem dX5_mustNot_5 : decode cX5_mustNot 5 = .ok (.ifCond .ne 5, 3) := by decide +kernel
theorem dX5_mustNot_8 : decode cX5_mustNot 8 = .ok (.iconst (-1), 1) := by decide +kernel
theorem dX5_mustNot_9 : decode cX5_mustNot 9 = .ok (.ireturn, 1) := by decide +kernel
theorem dX5_mustNot_10 : decode cX5_mustNot 10 = .ok (.aload_n 0, 1) := by decide +kernel
theorem dX5_mustNot_11 : decode cX5_mustNot 11 = .ok (.getfield 31, 3) := by decide +kernel
theorem dX5_mustNot_14 : decode cX5_mustNot 14 = .ok (.iload_n 1, 1) := by decide +kernel
theorem dX5_mustNot_15 : decode cX5_mustNot 15 = .ok (.invokevirtual 114, 3) := by decide +kernel
theorem dX5_mustNot_18 : decode cX5_mustNot 18 = .ok (.ifCond .ne 6, 3) := by decide +kernel
theorem dX5_mustNot_21 : decode cX5_mustNot 21 = .ok (.bipush (-2), 2) := by decide +kernel
theorem dX5_mustNot_23 : decode cX5_mustNot 23 = .ok (.ireturn, 1) := by decide +kernel
theorem dX5_mustNot_24 : decode cX5_mustNot 24 = .ok (.aload_n 0, 1) := by decide +kernel
theorem dX5_mustNot_25 : decode cX5_mustNot 25 = .ok (.iconst (-1), 1) := by decide +kernel
theorem dX5_mustNot_26 : decode cX5_mustNot 26 = .ok (.iconst (-1), 1) := by decide +kernel
theorem dX5_mustNot_27 : decode cX5_mustNot 27 = .ok (.invokevirtual 194, 3) := by decide +kernel
theorem dX5_mustNot_30 : decode cX5_mustNot 30 = .ok (.istore_n 2, 1) := by decide +kernel
theorem dX5_mustNot_31 : decode cX5_mustNot 31 = .ok (.iconst 0, 1) := by decide +kernel
theorem dX5_mustNot_32 : decode cX5_mustNot 32 = .ok (.istore_n 3, 1) := by decide +kernel
theorem dX5_mustNot_33 : decode cX5_mustNot 33 = .ok (.iconst 0, 1) := by decide +kernel
theorem dX5_mustNot_34 : decode cX5_mustNot 34 = .ok (.istore 4, 2) := by decide +kernel
theorem dX5_mustNot_36 : decode cX5_mustNot 36 = .ok (.iload 4, 2) := by decide +kernel
theorem dX5_mustNot_38 : decode cX5_mustNot 38 = .ok (.aload_n 0, 1) := by decide +kernel
theorem dX5_mustNot_39 : decode cX5_mustNot 39 = .ok (.getfield 31, 3) := by decide +kernel
theorem dX5_mustNot_42 : decode cX5_mustNot 42 = .ok (.invokevirtual 88, 3) := by decide +kernel
theorem dX5_mustNot_45 : decode cX5_mustNot 45 = .ok (.if_icmp .ge 41, 3) := by decide +kernel
theorem dX5_mustNot_48 : decode cX5_mustNot 48 = .ok (.aload_n 0, 1) := by decide +kernel
theorem dX5_mustNot_49 : decode cX5_mustNot 49 = .ok (.getfield 31, 3) := by decide +kernel
theorem dX5_mustNot_52 : decode cX5_mustNot 52 = .ok (.iconst 0, 1) := by decide +kernel
theorem dX5_mustNot_53 : decode cX5_mustNot 53 = .ok (.iload_n 1, 1) := by decide +kernel
theorem dX5_mustNot_54 : decode cX5_mustNot 54 = .ok (.iload 4, 2) := by decide +kernel
theorem dX5_mustNot_56 : decode cX5_mustNot 56 = .ok (.invokevirtual 197, 3) := by decide +kernel
theorem dX5_mustNot_59 : decode cX5_mustNot 59 = .ok (.ifCond .eq 21, 3) := by decide +kernel
theorem dX5_mustNot_62 : decode cX5_mustNot 62 = .ok (.aload_n 0, 1) := by decide +kernel
theorem dX5_mustNot_63 : decode cX5_mustNot 63 = .ok (.iload_n 1, 1) := by decide +kernel
theorem dX5_mustNot_64 : decode cX5_mustNot 64 = .ok (.iload 4, 2) := by decide +kernel
theorem dX5_mustNot_66 : decode cX5_mustNot 66 = .ok (.invokevirtual 201, 3) := by decide +kernel
theorem dX5_mustNot_69 : decode cX5_mustNot 69 = .ok (.iload_n 2, 1) := by decide +kernel
theorem dX5_mustNot_70 : decode cX5_mustNot 70 = .ok (.if_icmp .le 10, 3) := by decide +kernel
theorem dX5_mustNot_73 : decode cX5_mustNot 73 = .ok (.iload_n 3, 1) := by decide +kernel
theorem dX5_mustNot_74 : decode cX5_mustNot 74 = .ok (.iconst 1, 1) := by decide +kernel
theorem dX5_mustNot_75 : decode cX5_mustNot 75 = .ok (.iload 4, 2) := by decide +kernel
theorem dX5_mustNot_77 : decode cX5_mustNot 77 = .ok (.ishl, 1) := by decide +kernel
theorem dX5_mustNot_78 : decode cX5_mustNot 78 = .ok (.ior, 1) := by decide +kernel
theorem dX5_mustNot_79 : decode cX5_mustNot 79 = .ok (.istore_n 3, 1) := by decide +kernel
theorem dX5_mustNot_80 : decode cX5_mustNot 80 = .ok (.iinc 4 1, 3) := by decide +kernel
theorem dX5_mustNot_83 : decode cX5_mustNot 83 = .ok (.goto (-47), 3) := by decide +kernel
theorem dX5_mustNot_86 : decode cX5_mustNot 86 = .ok (.iload_n 3, 1) := by decide +kernel
theorem dX5_mustNot_87 : decode cX5_mustNot 87 = .ok (.ireturn, 1) := by decide +kernel
set_option maxRecDepth 20000 in
theorem ggX5_began_X5_owedWithout : GoodIn wsX5_began wsX5_owedWithout := goodIn_r _ [7, 2, 8, 9, 10, 11, 12, 13, 14, 15, 16, 17, 18, 19, 20, 21, 22, 23, 24, 25, 26, 27, 28, 6, 29, 30, 31, 32, 33, 34, 35, 36, 37, 38, 39, 40, 41, 42, 43, 44, 45, 46, 47, 48, 49, 50, 51, 52, 53, 54, 55, 56, 57, 58, 59, 60, 61, 62, 63, 64, 65, 66, 67, 68, 69, 70, 71, 72, 73, 74, 75, 134, 135, 136, 137, 138, 139, 140, 141, 142, 143, 144, 145, 146, 147, 148, 149, 150, 151, 152, 153, 154] (by decide +kernel) (by decide +kernel)
set_option maxRecDepth 20000 in
theorem gX5_began_X5_owedWithout : GoodIn wsX5_began (wsV RX5 194 RX5 yX5_owedWithout wsX5_owedWithout) := goodIn_app (goodIn_of _ (by decide +kernel)) ggX5_began_X5_owedWithout
set_option maxRecDepth 20000 in
theorem ggX5_began_X0_size : GoodIn wsX5_began wsX0_size := goodIn_r _ [80, 81, 155, 156, 157, 158] (by decide +kernel) (by decide +kernel)
set_option maxRecDepth 20000 in
theorem gX5_began_X0_size : GoodIn wsX5_began (wsV RX5 159 RX0 yX0_size wsX0_size) := goodIn_app (goodIn_of _ (by decide +kernel)) ggX5_began_X0_size
set_option maxRecDepth 20000 in
theorem ggX5_began_X5_doAgain : GoodIn wsX5_began wsX5_doAgain := goodIn_r _ [85, 86, 1, 9, 10, 11, 12, 13, 14, 15, 16, 17, 18, 19, 20, 21, 22, 23, 24, 25, 76, 77, 78, 79, 80, 81, 87, 88, 89, 90, 91, 92, 93, 94, 95, 96, 97, 98, 99, 100, 101, 102, 103, 104, 105, 106, 107, 108, 109, 47, 48, 49, 50, 43, 44, 45, 46, 51, 52, 53, 54, 64, 65, 66, 67, 110, 111, 112, 113, 114, 115, 116, 117, 118, 119, 120, 121, 59, 32, 33, 34, 68, 69, 70, 71, 55, 56, 57, 58, 122, 123, 124, 125, 126, 127, 128, 129, 130, 131, 132, 133, 134, 135, 136, 137, 138, 139, 140, 141, 142, 143, 144, 145, 146, 147, 148, 149, 150, 151, 152, 153, 154, 155, 156, 157, 158] (by decide +kernel) (by decide +kernel)
set_option maxRecDepth 20000 in
theorem gX5_began_X5_doAgain : GoodIn wsX5_began (wsV RX5 165 RX5 yX5_doAgain wsX5_doAgain) := goodIn_app (goodIn_of _ (by decide +kernel)) ggX5_began_X5_doAgain
set_option maxRecDepth 20000 in
theorem ggX5_began_X4_makePeace : GoodIn wsX5_began wsX4_makePeace := goodIn_r _ [38, 39, 40, 41, 12, 42, 14, 25, 18, 43, 44, 45, 46, 47, 48, 49, 50, 24, 51, 52, 53, 54, 55, 56, 57, 58, 15, 59, 32, 33, 34, 60, 61, 62, 63, 64, 65, 66, 67, 68, 69, 70, 71, 147, 148, 149, 150, 151, 152, 153, 154] (by decide +kernel) (by decide +kernel)
set_option maxRecDepth 20000 in
theorem gX5_began_X4_makePeace : GoodIn wsX5_began (wsV RX5 169 RX4 yX4_makePeace wsX4_makePeace) := goodIn_app (goodIn_of _ (by decide +kernel)) ggX5_began_X4_makePeace
set_option maxRecDepth 20000 in
theorem ggX5_began_X4_allOwed : GoodIn wsX5_began wsX4_allOwed := goodIn_r _ [75, 14, 25, 147, 148, 149, 150, 151, 152, 153, 154] (by decide +kernel) (by decide +kernel)
set_option maxRecDepth 20000 in
theorem gX5_began_X4_allOwed : GoodIn wsX5_began (wsV RX5 172 RX4 yX4_allOwed wsX4_allOwed) := goodIn_app (goodIn_of _ (by decide +kernel)) ggX5_began_X4_allOwed
theorem dX5_began_0 : decode cX5_began 0 = .ok (.aload_n 0, 1) := by decide +kernel
theorem dX5_began_1 : decode cX5_began 1 = .ok (.iconst (-1), 1) := by decide +kernel
theorem dX5_began_2 : decode cX5_began 2 = .ok (.iconst (-1), 1) := by decide +kernel
theorem dX5_began_3 : decode cX5_began 3 = .ok (.invokevirtual 194, 3) := by decide +kernel
theorem dX5_began_6 : decode cX5_began 6 = .ok (.istore_n 1, 1) := by decide +kernel
theorem dX5_began_7 : decode cX5_began 7 = .ok (.iconst 0, 1) := by decide +kernel
theorem dX5_began_8 : decode cX5_began 8 = .ok (.istore_n 2, 1) := by decide +kernel
theorem dX5_began_9 : decode cX5_began 9 = .ok (.iload_n 2, 1) := by decide +kernel
theorem dX5_began_10 : decode cX5_began 10 = .ok (.aload_n 0, 1) := by decide +kernel
theorem dX5_began_11 : decode cX5_began 11 = .ok (.getfield 43, 3) := by decide +kernel
theorem dX5_began_14 : decode cX5_began 14 = .ok (.invokevirtual 159, 3) := by decide +kernel
theorem dX5_began_17 : decode cX5_began 17 = .ok (.if_icmp .ge 39, 3) := by decide +kernel
theorem dX5_began_20 : decode cX5_began 20 = .ok (.aload_n 0, 1) := by decide +kernel
theorem dX5_began_21 : decode cX5_began 21 = .ok (.aload_n 0, 1) := by decide +kernel
theorem dX5_began_22 : decode cX5_began 22 = .ok (.getfield 37, 3) := by decide +kernel
theorem dX5_began_25 : decode cX5_began 25 = .ok (.iload_n 2, 1) := by decide +kernel
theorem dX5_began_26 : decode cX5_began 26 = .ok (.invokevirtual 165, 3) := by decide +kernel
theorem dX5_began_29 : decode cX5_began 29 = .ok (.aload_n 0, 1) := by decide +kernel
theorem dX5_began_30 : decode cX5_began 30 = .ok (.getfield 37, 3) := by decide +kernel
theorem dX5_began_33 : decode cX5_began 33 = .ok (.invokevirtual 169, 3) := by decide +kernel
theorem dX5_began_36 : decode cX5_began 36 = .ok (.pop, 1) := by decide +kernel
theorem dX5_began_37 : decode cX5_began 37 = .ok (.aload_n 0, 1) := by decide +kernel
theorem dX5_began_38 : decode cX5_began 38 = .ok (.getfield 37, 3) := by decide +kernel
theorem dX5_began_41 : decode cX5_began 41 = .ok (.invokevirtual 172, 3) := by decide +kernel
theorem dX5_began_44 : decode cX5_began 44 = .ok (.iload_n 1, 1) := by decide +kernel
theorem dX5_began_45 : decode cX5_began 45 = .ok (.if_icmp .ge 5, 3) := by decide +kernel
theorem dX5_began_48 : decode cX5_began 48 = .ok (.iload_n 2, 1) := by decide +kernel
theorem dX5_began_49 : decode cX5_began 49 = .ok (.ireturn, 1) := by decide +kernel
theorem dX5_began_50 : decode cX5_began 50 = .ok (.iinc 2 1, 3) := by decide +kernel
theorem dX5_began_53 : decode cX5_began 53 = .ok (.goto (-44), 3) := by decide +kernel
theorem dX5_began_56 : decode cX5_began 56 = .ok (.bipush (-4), 2) := by decide +kernel
theorem dX5_began_58 : decode cX5_began 58 = .ok (.ireturn, 1) := by decide +kernel
set_option maxRecDepth 20000 in
theorem ggX5_word_X5_isPerson : GoodIn wsX5_word wsX5_isPerson := goodIn_r _ [7, 1, 8, 9, 10, 11, 12, 13, 60, 61, 62, 63, 64, 65, 66, 67, 68, 69, 70, 71, 72, 73, 74, 75, 76, 77, 78, 79, 80] (by decide +kernel) (by decide +kernel)
set_option maxRecDepth 20000 in
theorem gX5_word_X5_isPerson : GoodIn wsX5_word (wsV RX5 103 RX5 yX5_isPerson wsX5_isPerson) := goodIn_app (goodIn_of _ (by decide +kernel)) ggX5_word_X5_isPerson
set_option maxRecDepth 20000 in
theorem ggX5_word_X4_isAlive : GoodIn wsX5_word wsX4_isAlive := goodIn_r _ [17, 18, 73, 74, 75, 76, 77, 78, 79, 80] (by decide +kernel) (by decide +kernel)
set_option maxRecDepth 20000 in
theorem gX5_word_X4_isAlive : GoodIn wsX5_word (wsV RX5 114 RX4 yX4_isAlive wsX4_isAlive) := goodIn_app (goodIn_of _ (by decide +kernel)) ggX5_word_X4_isAlive
set_option maxRecDepth 20000 in
theorem ggX5_word_X4_linkSpeakers : GoodIn wsX5_word wsX4_linkSpeakers := goodIn_r _ [22, 13, 23, 24, 25, 26, 27, 28, 29, 30, 31, 32, 33, 34, 35, 36, 37, 38, 39, 40, 11, 41, 42, 15, 16, 17, 18, 43, 44, 45, 46, 47, 48, 49, 50, 51, 73, 74, 75, 76, 77, 78, 79, 80, 81, 82, 83] (by decide +kernel) (by decide +kernel)
set_option maxRecDepth 20000 in
theorem gX5_word_X4_linkSpeakers : GoodIn wsX5_word (wsV RX5 204 RX4 yX4_linkSpeakers wsX4_linkSpeakers) := goodIn_app (goodIn_of _ (by decide +kernel)) ggX5_word_X4_linkSpeakers
set_option maxRecDepth 20000 in
theorem ggX5_word_X2_steps : GoodIn wsX5_word wsX2_steps := goodIn_r _ [55, 32, 56, 57, 58, 26, 59, 33, 81, 82, 83] (by decide +kernel) (by decide +kernel)
set_option maxRecDepth 20000 in
theorem gX5_word_X2_steps : GoodIn wsX5_word (wsV RX5 188 RX2 yX2_steps wsX2_steps) := goodIn_app (goodIn_of _ (by decide +kernel)) ggX5_word_X2_steps
theorem dX5_word_0 : decode cX5_word 0 = .ok (.aload_n 0, 1) := by decide +kernel
theorem dX5_word_1 : decode cX5_word 1 = .ok (.iload_n 1, 1) := by decide +kernel
theorem dX5_word_2 : decode cX5_word 2 = .ok (.invokevirtual 103, 3) := by decide +kernel
theorem dX5_word_5 : decode cX5_word 5 = .ok (.ifCond .eq 11, 3) := by decide +kernel
theorem dX5_word_8 : decode cX5_word 8 = .ok (.aload_n 0, 1) := by decide +kernel
theorem dX5_word_9 : decode cX5_word 9 = .ok (.iload_n 2, 1) := by decide +kernel
theorem dX5_word_10 : decode cX5_word 10 = .ok (.invokevirtual 103, 3) := by decide +kernel
theorem dX5_word_13 : decode cX5_word 13 = .ok (.ifCond .ne 5, 3) := by decide +kernel
theorem dX5_word_16 : decode cX5_word 16 = .ok (.iconst (-1), 1) := by decide +kernel
theorem dX5_word_17 : decode cX5_word 17 = .ok (.ireturn, 1) := by decide +kernel
theorem dX5_word_18 : decode cX5_word 18 = .ok (.aload_n 0, 1) := by decide +kernel
theorem dX5_word_19 : decode cX5_word 19 = .ok (.getfield 31, 3) := by decide +kernel
theorem dX5_word_22 : decode cX5_word 22 = .ok (.iload_n 1, 1) := by decide +kernel
theorem dX5_word_23 : decode cX5_word 23 = .ok (.invokevirtual 114, 3) := by decide +kernel
theorem dX5_word_26 : decode cX5_word 26 = .ok (.ifCond .eq 14, 3) := by decide +kernel
theorem dX5_word_29 : decode cX5_word 29 = .ok (.aload_n 0, 1) := by decide +kernel
theorem dX5_word_30 : decode cX5_word 30 = .ok (.getfield 31, 3) := by decide +kernel
theorem dX5_word_33 : decode cX5_word 33 = .ok (.iload_n 2, 1) := by decide +kernel
theorem dX5_word_34 : decode cX5_word 34 = .ok (.invokevirtual 114, 3) := by decide +kernel
theorem dX5_word_37 : decode cX5_word 37 = .ok (.ifCond .ne 6, 3) := by decide +kernel
theorem dX5_word_40 : decode cX5_word 40 = .ok (.bipush (-4), 2) := by decide +kernel
theorem dX5_word_42 : decode cX5_word 42 = .ok (.ireturn, 1) := by decide +kernel
theorem dX5_word_43 : decode cX5_word 43 = .ok (.aload_n 0, 1) := by decide +kernel
theorem dX5_word_44 : decode cX5_word 44 = .ok (.getfield 31, 3) := by decide +kernel
theorem dX5_word_47 : decode cX5_word 47 = .ok (.aload_n 0, 1) := by decide +kernel
theorem dX5_word_48 : decode cX5_word 48 = .ok (.getfield 56, 3) := by decide +kernel
theorem dX5_word_51 : decode cX5_word 51 = .ok (.invokevirtual 204, 3) := by decide +kernel
theorem dX5_word_54 : decode cX5_word 54 = .ok (.aload_n 0, 1) := by decide +kernel
theorem dX5_word_55 : decode cX5_word 55 = .ok (.getfield 56, 3) := by decide +kernel
theorem dX5_word_58 : decode cX5_word 58 = .ok (.iload_n 1, 1) := by decide +kernel
theorem dX5_word_59 : decode cX5_word 59 = .ok (.iload_n 2, 1) := by decide +kernel
theorem dX5_word_60 : decode cX5_word 60 = .ok (.invokevirtual 188, 3) := by decide +kernel
theorem dX5_word_63 : decode cX5_word 63 = .ok (.ireturn, 1) := by decide +kernel
set_option maxRecDepth 20000 in
theorem ggX5_vote_X4_linkSpeakers : GoodIn wsX5_vote wsX4_linkSpeakers := goodIn_r _ [7, 8, 9, 10, 11, 12, 13, 14, 15, 16, 17, 18, 19, 20, 21, 22, 23, 24, 25, 26, 6, 27, 28, 29, 30, 31, 32, 33, 34, 35, 36, 37, 38, 39, 40, 41, 74, 75, 76, 77, 78, 79, 80, 81, 82, 83, 84] (by decide +kernel) (by decide +kernel)
set_option maxRecDepth 20000 in
theorem gX5_vote_X4_linkSpeakers : GoodIn wsX5_vote (wsV RX5 204 RX4 yX4_linkSpeakers wsX4_linkSpeakers) := goodIn_app (goodIn_of _ (by decide +kernel)) ggX5_vote_X4_linkSpeakers
set_option maxRecDepth 20000 in
theorem ggX5_vote_X4_aliveBits : GoodIn wsX5_vote wsX4_aliveBits := goodIn_r _ [45, 32, 74, 75, 76, 77, 78, 79, 80, 81] (by decide +kernel) (by decide +kernel)
set_option maxRecDepth 20000 in
theorem gX5_vote_X4_aliveBits : GoodIn wsX5_vote (wsV RX5 148 RX4 yX4_aliveBits wsX4_aliveBits) := goodIn_app (goodIn_of _ (by decide +kernel)) ggX5_vote_X4_aliveBits
set_option maxRecDepth 20000 in
theorem ggX5_vote_X2_largestSet : GoodIn wsX5_vote wsX2_largestSet := goodIn_r _ [49, 18, 50, 51, 52, 53, 54, 55, 56, 57, 58, 59, 12, 60, 19, 82, 83, 84] (by decide +kernel) (by decide +kernel)
set_option maxRecDepth 20000 in
theorem gX5_vote_X2_largestSet : GoodIn wsX5_vote (wsV RX5 207 RX2 yX2_largestSet wsX2_largestSet) := goodIn_app (goodIn_of _ (by decide +kernel)) ggX5_vote_X2_largestSet
theorem dX5_vote_0 : decode cX5_vote 0 = .ok (.aload_n 0, 1) := by decide +kernel
theorem dX5_vote_1 : decode cX5_vote 1 = .ok (.getfield 31, 3) := by decide +kernel
theorem dX5_vote_4 : decode cX5_vote 4 = .ok (.aload_n 0, 1) := by decide +kernel
theorem dX5_vote_5 : decode cX5_vote 5 = .ok (.getfield 56, 3) := by decide +kernel
theorem dX5_vote_8 : decode cX5_vote 8 = .ok (.invokevirtual 204, 3) := by decide +kernel
theorem dX5_vote_11 : decode cX5_vote 11 = .ok (.aload_n 0, 1) := by decide +kernel
theorem dX5_vote_12 : decode cX5_vote 12 = .ok (.getfield 56, 3) := by decide +kernel
theorem dX5_vote_15 : decode cX5_vote 15 = .ok (.aload_n 0, 1) := by decide +kernel
theorem dX5_vote_16 : decode cX5_vote 16 = .ok (.getfield 31, 3) := by decide +kernel
theorem dX5_vote_19 : decode cX5_vote 19 = .ok (.invokevirtual 148, 3) := by decide +kernel
theorem dX5_vote_22 : decode cX5_vote 22 = .ok (.invokevirtual 207, 3) := by decide +kernel
theorem dX5_vote_25 : decode cX5_vote 25 = .ok (.ireturn, 1) := by decide +kernel
set_option maxRecDepth 20000 in
theorem ggX5_deals_X4_linkSpeakers : GoodIn wsX5_deals wsX4_linkSpeakers := goodIn_r _ [7, 8, 9, 10, 11, 12, 13, 14, 15, 16, 17, 18, 19, 20, 21, 22, 23, 24, 25, 26, 6, 27, 28, 29, 30, 31, 32, 33, 34, 35, 36, 37, 38, 39, 40, 41, 74, 75, 76, 77, 78, 79, 80, 81, 82, 83, 84] (by decide +kernel) (by decide +kernel)
set_option maxRecDepth 20000 in
theorem gX5_deals_X4_linkSpeakers : GoodIn wsX5_deals (wsV RX5 204 RX4 yX4_linkSpeakers wsX4_linkSpeakers) := goodIn_app (goodIn_of _ (by decide +kernel)) ggX5_deals_X4_linkSpeakers
set_option maxRecDepth 20000 in
theorem ggX5_deals_X2_mostTwos : GoodIn wsX5_deals wsX2_mostTwos := goodIn_r _ [45, 46, 18, 47, 48, 49, 12, 50, 19, 51, 52, 16, 53, 54, 55, 56, 57, 58, 59, 60, 82, 83, 84] (by decide +kernel) (by decide +kernel)
set_option maxRecDepth 20000 in
theorem gX5_deals_X2_mostTwos : GoodIn wsX5_deals (wsV RX5 210 RX2 yX2_mostTwos wsX2_mostTwos) := goodIn_app (goodIn_of _ (by decide +kernel)) ggX5_deals_X2_mostTwos
theorem dX5_deals_0 : decode cX5_deals 0 = .ok (.aload_n 0, 1) := by decide +kernel
theorem dX5_deals_1 : decode cX5_deals 1 = .ok (.getfield 31, 3) := by decide +kernel
theorem dX5_deals_4 : decode cX5_deals 4 = .ok (.aload_n 0, 1) := by decide +kernel
theorem dX5_deals_5 : decode cX5_deals 5 = .ok (.getfield 56, 3) := by decide +kernel
theorem dX5_deals_8 : decode cX5_deals 8 = .ok (.invokevirtual 204, 3) := by decide +kernel
theorem dX5_deals_11 : decode cX5_deals 11 = .ok (.aload_n 0, 1) := by decide +kernel
theorem dX5_deals_12 : decode cX5_deals 12 = .ok (.getfield 56, 3) := by decide +kernel
theorem dX5_deals_15 : decode cX5_deals 15 = .ok (.invokevirtual 210, 3) := by decide +kernel
theorem dX5_deals_18 : decode cX5_deals 18 = .ok (.ireturn, 1) := by decide +kernel
set_option maxRecDepth 20000 in
theorem ggX5_guests_X5_areTwo : GoodIn wsX5_guests wsX5_areTwo := goodIn_r _ [7, 8, 9, 10, 6, 11, 1, 12, 13, 14, 15, 16, 17, 60, 61, 62, 63, 64, 65, 66, 67, 68, 69, 70, 71, 72, 73, 74, 75, 76, 77, 78, 79, 80] (by decide +kernel) (by decide +kernel)
set_option maxRecDepth 20000 in
theorem gX5_guests_X5_areTwo : GoodIn wsX5_guests (wsV RX5 130 RX5 yX5_areTwo wsX5_areTwo) := goodIn_app (goodIn_of _ (by decide +kernel)) ggX5_guests_X5_areTwo
set_option maxRecDepth 20000 in
theorem ggX5_guests_X4_isAlive : GoodIn wsX5_guests wsX4_isAlive := goodIn_r _ [21, 22, 73, 74, 75, 76, 77, 78, 79, 80] (by decide +kernel) (by decide +kernel)
set_option maxRecDepth 20000 in
theorem gX5_guests_X4_isAlive : GoodIn wsX5_guests (wsV RX5 114 RX4 yX4_isAlive wsX4_isAlive) := goodIn_app (goodIn_of _ (by decide +kernel)) ggX5_guests_X4_isAlive
set_option maxRecDepth 20000 in
theorem ggX5_guests_X4_linkSpeakers : GoodIn wsX5_guests wsX4_linkSpeakers := goodIn_r _ [26, 17, 27, 28, 29, 30, 31, 32, 33, 34, 35, 36, 37, 38, 39, 40, 41, 42, 43, 44, 15, 45, 46, 19, 20, 21, 22, 47, 48, 49, 50, 51, 52, 53, 54, 55, 73, 74, 75, 76, 77, 78, 79, 80, 81, 82, 83] (by decide +kernel) (by decide +kernel)
set_option maxRecDepth 20000 in
theorem gX5_guests_X4_linkSpeakers : GoodIn wsX5_guests (wsV RX5 204 RX4 yX4_linkSpeakers wsX4_linkSpeakers) := goodIn_app (goodIn_of _ (by decide +kernel)) ggX5_guests_X4_linkSpeakers
set_option maxRecDepth 20000 in
theorem ggX5_guests_X2_linkedTo : GoodIn wsX5_guests wsX2_linkedTo := goodIn_r _ [59, 37, 81, 82, 83] (by decide +kernel) (by decide +kernel)
set_option maxRecDepth 20000 in
theorem gX5_guests_X2_linkedTo : GoodIn wsX5_guests (wsV RX5 213 RX2 yX2_linkedTo wsX2_linkedTo) := goodIn_app (goodIn_of _ (by decide +kernel)) ggX5_guests_X2_linkedTo
theorem dX5_guests_0 : decode cX5_guests 0 = .ok (.aload_n 0, 1) := by decide +kernel
theorem dX5_guests_1 : decode cX5_guests 1 = .ok (.iload_n 1, 1) := by decide +kernel
theorem dX5_guests_2 : decode cX5_guests 2 = .ok (.iload_n 2, 1) := by decide +kernel
theorem dX5_guests_3 : decode cX5_guests 3 = .ok (.invokevirtual 130, 3) := by decide +kernel
theorem dX5_guests_6 : decode cX5_guests 6 = .ok (.ifCond .ne 5, 3) := by decide +kernel
theorem dX5_guests_9 : decode cX5_guests 9 = .ok (.iconst (-1), 1) := by decide +kernel
theorem dX5_guests_10 : decode cX5_guests 10 = .ok (.ireturn, 1) := by decide +kernel
theorem dX5_guests_11 : decode cX5_guests 11 = .ok (.aload_n 0, 1) := by decide +kernel
theorem dX5_guests_12 : decode cX5_guests 12 = .ok (.getfield 31, 3) := by decide +kernel
theorem dX5_guests_15 : decode cX5_guests 15 = .ok (.iload_n 1, 1) := by decide +kernel
theorem dX5_guests_16 : decode cX5_guests 16 = .ok (.invokevirtual 114, 3) := by decide +kernel
theorem dX5_guests_19 : decode cX5_guests 19 = .ok (.ifCond .eq 14, 3) := by decide +kernel
theorem dX5_guests_22 : decode cX5_guests 22 = .ok (.aload_n 0, 1) := by decide +kernel
theorem dX5_guests_23 : decode cX5_guests 23 = .ok (.getfield 31, 3) := by decide +kernel
theorem dX5_guests_26 : decode cX5_guests 26 = .ok (.iload_n 2, 1) := by decide +kernel
theorem dX5_guests_27 : decode cX5_guests 27 = .ok (.invokevirtual 114, 3) := by decide +kernel
theorem dX5_guests_30 : decode cX5_guests 30 = .ok (.ifCond .ne 6, 3) := by decide +kernel
theorem dX5_guests_33 : decode cX5_guests 33 = .ok (.bipush (-2), 2) := by decide +kernel
theorem dX5_guests_35 : decode cX5_guests 35 = .ok (.ireturn, 1) := by decide +kernel
theorem dX5_guests_36 : decode cX5_guests 36 = .ok (.aload_n 0, 1) := by decide +kernel
theorem dX5_guests_37 : decode cX5_guests 37 = .ok (.getfield 31, 3) := by decide +kernel
theorem dX5_guests_40 : decode cX5_guests 40 = .ok (.aload_n 0, 1) := by decide +kernel
theorem dX5_guests_41 : decode cX5_guests 41 = .ok (.getfield 56, 3) := by decide +kernel
theorem dX5_guests_44 : decode cX5_guests 44 = .ok (.invokevirtual 204, 3) := by decide +kernel
theorem dX5_guests_47 : decode cX5_guests 47 = .ok (.aload_n 0, 1) := by decide +kernel
theorem dX5_guests_48 : decode cX5_guests 48 = .ok (.getfield 56, 3) := by decide +kernel
theorem dX5_guests_51 : decode cX5_guests 51 = .ok (.iload_n 1, 1) := by decide +kernel
theorem dX5_guests_52 : decode cX5_guests 52 = .ok (.invokevirtual 213, 3) := by decide +kernel
theorem dX5_guests_55 : decode cX5_guests 55 = .ok (.aload_n 0, 1) := by decide +kernel
theorem dX5_guests_56 : decode cX5_guests 56 = .ok (.getfield 56, 3) := by decide +kernel
theorem dX5_guests_59 : decode cX5_guests 59 = .ok (.iload_n 2, 1) := by decide +kernel
theorem dX5_guests_60 : decode cX5_guests 60 = .ok (.invokevirtual 213, 3) := by decide +kernel
theorem dX5_guests_63 : decode cX5_guests 63 = .ok (.iand, 1) := by decide +kernel
theorem dX5_guests_64 : decode cX5_guests 64 = .ok (.ireturn, 1) := by decide +kernel
set_option maxRecDepth 20000 in
theorem ggX5_court_X5_isZeroOrOne : GoodIn wsX5_court wsX5_isZeroOrOne := goodIn_r _ [4] (by decide +kernel) (by decide +kernel)
set_option maxRecDepth 20000 in
theorem gX5_court_X5_isZeroOrOne : GoodIn wsX5_court (va_wsS RX5 178 yX5_isZeroOrOne wsX5_isZeroOrOne) := goodIn_app (goodIn_of _ (by decide +kernel)) ggX5_court_X5_isZeroOrOne
set_option maxRecDepth 20000 in
theorem ggX5_court_X5_listDebts : GoodIn wsX5_court wsX5_listDebts := goodIn_r _ [8, 9, 10, 11, 12, 13, 14, 15, 16, 17, 18, 19, 20, 21, 22, 23, 3, 24, 103, 104, 105, 106, 107, 108, 109, 110, 111, 112, 113, 114, 115, 116, 117, 118, 119, 120, 121, 122, 123] (by decide +kernel) (by decide +kernel)
set_option maxRecDepth 20000 in
theorem gX5_court_X5_listDebts : GoodIn wsX5_court (wsV RX5 191 RX5 yX5_listDebts wsX5_listDebts) := goodIn_app (goodIn_of _ (by decide +kernel)) ggX5_court_X5_listDebts
set_option maxRecDepth 20000 in
theorem ggX5_court_X5_lotsThatFree : GoodIn wsX5_court wsX5_lotsThatFree := goodIn_r _ [28, 29, 30, 31, 3, 32, 33, 9, 34, 35, 36, 14, 37, 16, 38, 39, 40, 41, 42, 43, 44, 45, 46, 21, 47, 48, 49, 50, 51, 10, 52, 53, 54, 55, 56, 57, 58, 59, 60, 61, 62, 63, 64, 65, 66, 67, 68, 18, 19, 20, 69, 70, 71, 72, 73, 74, 75, 76, 77, 78, 79, 80, 81, 82, 83, 84, 85, 86, 87, 88, 89, 90, 91, 92, 93, 94, 95, 96, 103, 104, 105, 106, 107, 108, 109, 110, 111, 112, 113, 114, 115, 116, 117, 118, 119, 120, 121, 122, 123] (by decide +kernel) (by decide +kernel)
set_option maxRecDepth 20000 in
theorem gX5_court_X5_lotsThatFree : GoodIn wsX5_court (wsV RX5 216 RX5 yX5_lotsThatFree wsX5_lotsThatFree) := goodIn_app (goodIn_of _ (by decide +kernel)) ggX5_court_X5_lotsThatFree
set_option maxRecDepth 20000 in
theorem ggX5_court_X5_lotsInAll : GoodIn wsX5_court wsX5_lotsInAll := goodIn_r _ [99] (by decide +kernel) (by decide +kernel)
set_option maxRecDepth 20000 in
theorem gX5_court_X5_lotsInAll : GoodIn wsX5_court (va_wsS RX5 219 yX5_lotsInAll wsX5_lotsInAll) := goodIn_app (goodIn_of _ (by decide +kernel)) ggX5_court_X5_lotsInAll
set_option maxRecDepth 20000 in
theorem ggX5_court_X5_greatestDivisor : GoodIn wsX5_court wsX5_greatestDivisor := goodIn_r _ [102] (by decide +kernel) (by decide +kernel)
set_option maxRecDepth 20000 in
theorem gX5_court_X5_greatestDivisor : GoodIn wsX5_court (va_wsS RX5 222 yX5_greatestDivisor wsX5_greatestDivisor) := goodIn_app (goodIn_of _ (by decide +kernel)) ggX5_court_X5_greatestDivisor
theorem dX5_court_0 : decode cX5_court 0 = .ok (.iload_n 1, 1) := by decide +kernel
theorem dX5_court_1 : decode cX5_court 1 = .ok (.ifCond .lt 15, 3) := by decide +kernel
theorem dX5_court_4 : decode cX5_court 4 = .ok (.iload_n 1, 1) := by decide +kernel
theorem dX5_court_5 : decode cX5_court 5 = .ok (.iconst 2, 1) := by decide +kernel
theorem dX5_court_6 : decode cX5_court 6 = .ok (.if_icmp .gt 10, 3) := by decide +kernel
theorem dX5_court_9 : decode cX5_court 9 = .ok (.iload_n 2, 1) := by decide +kernel
theorem dX5_court_10 : decode cX5_court 10 = .ok (.invokestatic 178, 3) := by decide +kernel
theorem dX5_court_13 : decode cX5_court 13 = .ok (.ifCond .ne 5, 3) := by decide +kernel
theorem dX5_court_16 : decode cX5_court 16 = .ok (.iconst (-1), 1) := by decide +kernel
theorem dX5_court_17 : decode cX5_court 17 = .ok (.ireturn, 1) := by decide +kernel
theorem dX5_court_18 : decode cX5_court 18 = .ok (.aload_n 0, 1) := by decide +kernel
theorem dX5_court_19 : decode cX5_court 19 = .ok (.invokevirtual 191, 3) := by decide +kernel
theorem dX5_court_22 : decode cX5_court 22 = .ok (.istore_n 3, 1) := by decide +kernel
theorem dX5_court_23 : decode cX5_court 23 = .ok (.iload_n 3, 1) := by decide +kernel
theorem dX5_court_24 : decode cX5_court 24 = .ok (.iload_n 1, 1) := by decide +kernel
theorem dX5_court_25 : decode cX5_court 25 = .ok (.if_icmp .ge 6, 3) := by decide +kernel
theorem dX5_court_28 : decode cX5_court 28 = .ok (.bipush (-4), 2) := by decide +kernel
theorem dX5_court_30 : decode cX5_court 30 = .ok (.ireturn, 1) := by decide +kernel
theorem dX5_court_31 : decode cX5_court 31 = .ok (.aload_n 0, 1) := by decide +kernel
theorem dX5_court_32 : decode cX5_court 32 = .ok (.iload_n 1, 1) := by decide +kernel
theorem dX5_court_33 : decode cX5_court 33 = .ok (.iload_n 3, 1) := by decide +kernel
theorem dX5_court_34 : decode cX5_court 34 = .ok (.invokevirtual 216, 3) := by decide +kernel
theorem dX5_court_37 : decode cX5_court 37 = .ok (.istore 4, 2) := by decide +kernel
theorem dX5_court_39 : decode cX5_court 39 = .ok (.iload_n 1, 1) := by decide +kernel
theorem dX5_court_40 : decode cX5_court 40 = .ok (.iload_n 3, 1) := by decide +kernel
theorem dX5_court_41 : decode cX5_court 41 = .ok (.invokestatic 219, 3) := by decide +kernel
theorem dX5_court_44 : decode cX5_court 44 = .ok (.istore 5, 2) := by decide +kernel
theorem dX5_court_46 : decode cX5_court 46 = .ok (.iload 4, 2) := by decide +kernel
theorem dX5_court_48 : decode cX5_court 48 = .ok (.iload 5, 2) := by decide +kernel
theorem dX5_court_50 : decode cX5_court 50 = .ok (.invokestatic 222, 3) := by decide +kernel
theorem dX5_court_53 : decode cX5_court 53 = .ok (.istore 6, 2) := by decide +kernel
theorem dX5_court_55 : decode cX5_court 55 = .ok (.iload 6, 2) := by decide +kernel
theorem dX5_court_57 : decode cX5_court 57 = .ok (.iconst 1, 1) := by decide +kernel
theorem dX5_court_58 : decode cX5_court 58 = .ok (.if_icmp .ge 6, 3) := by decide +kernel
theorem dX5_court_61 : decode cX5_court 61 = .ok (.bipush (-4), 2) := by decide +kernel
theorem dX5_court_63 : decode cX5_court 63 = .ok (.ireturn, 1) := by decide +kernel
theorem dX5_court_64 : decode cX5_court 64 = .ok (.iload_n 2, 1) := by decide +kernel
theorem dX5_court_65 : decode cX5_court 65 = .ok (.ifCond .ne 8, 3) := by decide +kernel
theorem dX5_court_68 : decode cX5_court 68 = .ok (.iload 4, 2) := by decide +kernel
theorem dX5_court_70 : decode cX5_court 70 = .ok (.goto 5, 3) := by decide +kernel
theorem dX5_court_73 : decode cX5_court 73 = .ok (.iload 5, 2) := by decide +kernel
theorem dX5_court_75 : decode cX5_court 75 = .ok (.iload 6, 2) := by decide +kernel
theorem dX5_court_77 : decode cX5_court 77 = .ok (.idiv, 1) := by decide +kernel
theorem dX5_court_78 : decode cX5_court 78 = .ok (.ireturn, 1) := by decide +kernel
set_option maxRecDepth 20000 in
theorem ggX5_stranger_X5_isZeroOrOne : GoodIn wsX5_stranger wsX5_isZeroOrOne := goodIn_r _ [6] (by decide +kernel) (by decide +kernel)
set_option maxRecDepth 20000 in
theorem gX5_stranger_X5_isZeroOrOne : GoodIn wsX5_stranger (va_wsS RX5 178 yX5_isZeroOrOne wsX5_isZeroOrOne) := goodIn_app (goodIn_of _ (by decide +kernel)) ggX5_stranger_X5_isZeroOrOne
set_option maxRecDepth 20000 in
theorem ggX5_stranger_X4_persons : GoodIn wsX5_stranger wsX4_persons := goodIn_r _ [11, 12, 97, 98, 99, 100, 101, 102, 103, 104] (by decide +kernel) (by decide +kernel)
set_option maxRecDepth 20000 in
theorem gX5_stranger_X4_persons : GoodIn wsX5_stranger (wsV RX5 88 RX4 yX4_persons wsX4_persons) := goodIn_app (goodIn_of _ (by decide +kernel)) ggX5_stranger_X4_persons
set_option maxRecDepth 20000 in
theorem ggX5_stranger_X4_copyFrom : GoodIn wsX5_stranger wsX4_copyFrom := goodIn_r _ [16, 12, 17, 18, 19, 20, 21, 22, 23, 24, 25, 26, 27, 97, 98, 99, 100, 101, 102, 103, 104] (by decide +kernel) (by decide +kernel)
set_option maxRecDepth 20000 in
theorem gX5_stranger_X4_copyFrom : GoodIn wsX5_stranger (wsV RX5 91 RX4 yX4_copyFrom wsX4_copyFrom) := goodIn_app (goodIn_of _ (by decide +kernel)) ggX5_stranger_X4_copyFrom
set_option maxRecDepth 20000 in
theorem ggX5_stranger_X4_makePeace : GoodIn wsX5_stranger wsX4_makePeace := goodIn_r _ [31, 32, 33, 34, 10, 35, 12, 27, 20, 36, 37, 38, 39, 40, 41, 42, 43, 26, 44, 45, 46, 47, 48, 49, 50, 51, 17, 52, 53, 54, 55, 56, 57, 58, 59, 60, 61, 62, 63, 64, 65, 66, 67, 97, 98, 99, 100, 101, 102, 103, 104] (by decide +kernel) (by decide +kernel)
set_option maxRecDepth 20000 in
theorem gX5_stranger_X4_makePeace : GoodIn wsX5_stranger (wsV RX5 169 RX4 yX4_makePeace wsX4_makePeace) := goodIn_app (goodIn_of _ (by decide +kernel)) ggX5_stranger_X4_makePeace
set_option maxRecDepth 20000 in
theorem ggX5_stranger_X4_allOwed : GoodIn wsX5_stranger wsX4_allOwed := goodIn_r _ [71, 12, 27, 97, 98, 99, 100, 101, 102, 103, 104] (by decide +kernel) (by decide +kernel)
set_option maxRecDepth 20000 in
theorem gX5_stranger_X4_allOwed : GoodIn wsX5_stranger (wsV RX5 172 RX4 yX4_allOwed wsX4_allOwed) := goodIn_app (goodIn_of _ (by decide +kernel)) ggX5_stranger_X4_allOwed
set_option maxRecDepth 20000 in
theorem ggX5_stranger_X4_addStranger : GoodIn wsX5_stranger wsX4_addStranger := goodIn_r _ [75, 12, 76, 77, 78, 10, 79, 20, 25, 19, 80, 81, 82, 83, 52, 53, 54, 55, 27, 26, 97, 98, 99, 100, 101, 102, 103, 104] (by decide +kernel) (by decide +kernel)
set_option maxRecDepth 20000 in
theorem gX5_stranger_X4_addStranger : GoodIn wsX5_stranger (wsV RX5 225 RX4 yX4_addStranger wsX4_addStranger) := goodIn_app (goodIn_of _ (by decide +kernel)) ggX5_stranger_X4_addStranger
theorem dX5_stranger_0 : decode cX5_stranger 0 = .ok (.iload_n 1, 1) := by decide +kernel
theorem dX5_stranger_1 : decode cX5_stranger 1 = .ok (.invokestatic 178, 3) := by decide +kernel
theorem dX5_stranger_4 : decode cX5_stranger 4 = .ok (.ifCond .ne 5, 3) := by decide +kernel
theorem dX5_stranger_7 : decode cX5_stranger 7 = .ok (.iconst (-1), 1) := by decide +kernel
theorem dX5_stranger_8 : decode cX5_stranger 8 = .ok (.ireturn, 1) := by decide +kernel
theorem dX5_stranger_9 : decode cX5_stranger 9 = .ok (.aload_n 0, 1) := by decide +kernel
theorem dX5_stranger_10 : decode cX5_stranger 10 = .ok (.getfield 31, 3) := by decide +kernel
theorem dX5_stranger_13 : decode cX5_stranger 13 = .ok (.invokevirtual 88, 3) := by decide +kernel
theorem dX5_stranger_16 : decode cX5_stranger 16 = .ok (.bipush 7, 2) := by decide +kernel
theorem dX5_stranger_18 : decode cX5_stranger 18 = .ok (.if_icmp .lt 6, 3) := by decide +kernel
theorem dX5_stranger_21 : decode cX5_stranger 21 = .ok (.bipush (-3), 2) := by decide +kernel
theorem dX5_stranger_23 : decode cX5_stranger 23 = .ok (.ireturn, 1) := by decide +kernel
theorem dX5_stranger_24 : decode cX5_stranger 24 = .ok (.aload_n 0, 1) := by decide +kernel
theorem dX5_stranger_25 : decode cX5_stranger 25 = .ok (.getfield 37, 3) := by decide +kernel
theorem dX5_stranger_28 : decode cX5_stranger 28 = .ok (.aload_n 0, 1) := by decide +kernel
theorem dX5_stranger_29 : decode cX5_stranger 29 = .ok (.getfield 31, 3) := by decide +kernel
theorem dX5_stranger_32 : decode cX5_stranger 32 = .ok (.invokevirtual 91, 3) := by decide +kernel
theorem dX5_stranger_35 : decode cX5_stranger 35 = .ok (.aload_n 0, 1) := by decide +kernel
theorem dX5_stranger_36 : decode cX5_stranger 36 = .ok (.getfield 37, 3) := by decide +kernel
theorem dX5_stranger_39 : decode cX5_stranger 39 = .ok (.invokevirtual 169, 3) := by decide +kernel
theorem dX5_stranger_42 : decode cX5_stranger 42 = .ok (.istore_n 2, 1) := by decide +kernel
theorem dX5_stranger_43 : decode cX5_stranger 43 = .ok (.aload_n 0, 1) := by decide +kernel
theorem dX5_stranger_44 : decode cX5_stranger 44 = .ok (.getfield 37, 3) := by decide +kernel
theorem dX5_stranger_47 : decode cX5_stranger 47 = .ok (.invokevirtual 172, 3) := by decide +kernel
theorem dX5_stranger_50 : decode cX5_stranger 50 = .ok (.istore_n 3, 1) := by decide +kernel
theorem dX5_stranger_51 : decode cX5_stranger 51 = .ok (.aload_n 0, 1) := by decide +kernel
theorem dX5_stranger_52 : decode cX5_stranger 52 = .ok (.getfield 37, 3) := by decide +kernel
theorem dX5_stranger_55 : decode cX5_stranger 55 = .ok (.aload_n 0, 1) := by decide +kernel
theorem dX5_stranger_56 : decode cX5_stranger 56 = .ok (.getfield 31, 3) := by decide +kernel
theorem dX5_stranger_59 : decode cX5_stranger 59 = .ok (.invokevirtual 91, 3) := by decide +kernel
theorem dX5_stranger_62 : decode cX5_stranger 62 = .ok (.aload_n 0, 1) := by decide +kernel
theorem dX5_stranger_63 : decode cX5_stranger 63 = .ok (.getfield 37, 3) := by decide +kernel
theorem dX5_stranger_66 : decode cX5_stranger 66 = .ok (.invokevirtual 225, 3) := by decide +kernel
theorem dX5_stranger_69 : decode cX5_stranger 69 = .ok (.aload_n 0, 1) := by decide +kernel
theorem dX5_stranger_70 : decode cX5_stranger 70 = .ok (.getfield 37, 3) := by decide +kernel
theorem dX5_stranger_73 : decode cX5_stranger 73 = .ok (.invokevirtual 169, 3) := by decide +kernel
theorem dX5_stranger_76 : decode cX5_stranger 76 = .ok (.iload_n 2, 1) := by decide +kernel
theorem dX5_stranger_77 : decode cX5_stranger 77 = .ok (.isub, 1) := by decide +kernel
theorem dX5_stranger_78 : decode cX5_stranger 78 = .ok (.istore 4, 2) := by decide +kernel
theorem dX5_stranger_80 : decode cX5_stranger 80 = .ok (.aload_n 0, 1) := by decide +kernel
theorem dX5_stranger_81 : decode cX5_stranger 81 = .ok (.getfield 37, 3) := by decide +kernel
theorem dX5_stranger_84 : decode cX5_stranger 84 = .ok (.invokevirtual 172, 3) := by decide +kernel
theorem dX5_stranger_87 : decode cX5_stranger 87 = .ok (.iload_n 3, 1) := by decide +kernel
theorem dX5_stranger_88 : decode cX5_stranger 88 = .ok (.isub, 1) := by decide +kernel
theorem dX5_stranger_89 : decode cX5_stranger 89 = .ok (.istore 5, 2) := by decide +kernel
theorem dX5_stranger_91 : decode cX5_stranger 91 = .ok (.bipush 100, 2) := by decide +kernel
theorem dX5_stranger_93 : decode cX5_stranger 93 = .ok (.iload_n 1, 1) := by decide +kernel
theorem dX5_stranger_94 : decode cX5_stranger 94 = .ok (.ifCond .ne 8, 3) := by decide +kernel
theorem dX5_stranger_97 : decode cX5_stranger 97 = .ok (.iload 4, 2) := by decide +kernel
theorem dX5_stranger_99 : decode cX5_stranger 99 = .ok (.goto 5, 3) := by decide +kernel
theorem dX5_stranger_102 : decode cX5_stranger 102 = .ok (.iload 5, 2) := by decide +kernel
theorem dX5_stranger_104 : decode cX5_stranger 104 = .ok (.iadd, 1) := by decide +kernel
theorem dX5_stranger_105 : decode cX5_stranger 105 = .ok (.ireturn, 1) := by decide +kernel
set_option maxRecDepth 20000 in
theorem ggX5_easter_X4_copyFrom : GoodIn wsX5_easter wsX4_copyFrom := goodIn_r _ [7, 8, 9, 10, 11, 12, 13, 14, 15, 16, 17, 18, 19, 101, 102, 103, 104, 105, 106, 107, 108] (by decide +kernel) (by decide +kernel)
set_option maxRecDepth 20000 in
theorem gX5_easter_X4_copyFrom : GoodIn wsX5_easter (wsV RX5 91 RX4 yX4_copyFrom wsX4_copyFrom) := goodIn_app (goodIn_of _ (by decide +kernel)) ggX5_easter_X4_copyFrom
set_option maxRecDepth 20000 in
theorem ggX5_easter_X4_day : GoodIn wsX5_easter wsX4_day := goodIn_r _ [23, 9, 101, 102, 103, 104, 105, 106, 107, 108] (by decide +kernel) (by decide +kernel)
set_option maxRecDepth 20000 in
theorem gX5_easter_X4_day : GoodIn wsX5_easter (wsV RX5 156 RX4 yX4_day wsX4_day) := goodIn_app (goodIn_of _ (by decide +kernel)) ggX5_easter_X4_day
set_option maxRecDepth 20000 in
theorem ggX5_easter_X4_easterDay : GoodIn wsX5_easter wsX4_easterDay := goodIn_r _ [27, 10, 101, 102, 103, 104, 105, 106, 107, 108] (by decide +kernel) (by decide +kernel)
set_option maxRecDepth 20000 in
theorem gX5_easter_X4_easterDay : GoodIn wsX5_easter (wsV RX5 228 RX4 yX4_easterDay wsX4_easterDay) := goodIn_app (goodIn_of _ (by decide +kernel)) ggX5_easter_X4_easterDay
set_option maxRecDepth 20000 in
theorem ggX5_easter_X4_makePeace : GoodIn wsX5_easter wsX4_makePeace := goodIn_r _ [31, 32, 33, 34, 6, 35, 8, 19, 12, 36, 37, 38, 39, 40, 41, 42, 43, 18, 44, 45, 46, 47, 48, 49, 50, 51, 9, 52, 53, 54, 55, 56, 57, 58, 59, 60, 61, 62, 63, 64, 65, 66, 67, 101, 102, 103, 104, 105, 106, 107, 108] (by decide +kernel) (by decide +kernel)
set_option maxRecDepth 20000 in
theorem gX5_easter_X4_makePeace : GoodIn wsX5_easter (wsV RX5 169 RX4 yX4_makePeace wsX4_makePeace) := goodIn_app (goodIn_of _ (by decide +kernel)) ggX5_easter_X4_makePeace
set_option maxRecDepth 20000 in
theorem ggX5_easter_X4_allOwed : GoodIn wsX5_easter wsX4_allOwed := goodIn_r _ [71, 8, 19, 101, 102, 103, 104, 105, 106, 107, 108] (by decide +kernel) (by decide +kernel)
set_option maxRecDepth 20000 in
theorem gX5_easter_X4_allOwed : GoodIn wsX5_easter (wsV RX5 172 RX4 yX4_allOwed wsX4_allOwed) := goodIn_app (goodIn_of _ (by decide +kernel)) ggX5_easter_X4_allOwed
set_option maxRecDepth 20000 in
theorem ggX5_easter_X4_passDay : GoodIn wsX5_easter wsX4_passDay := goodIn_r _ [75, 9, 8, 12, 76, 77, 78, 6, 79, 11, 80, 81, 82, 83, 84, 85, 86, 87, 40, 41, 42, 43, 18, 52, 53, 54, 55, 19, 101, 102, 103, 104, 105, 106, 107, 108] (by decide +kernel) (by decide +kernel)
set_option maxRecDepth 20000 in
theorem gX5_easter_X4_passDay : GoodIn wsX5_easter (wsV RX5 231 RX4 yX4_passDay wsX4_passDay) := goodIn_app (goodIn_of _ (by decide +kernel)) ggX5_easter_X4_passDay
theorem dX5_easter_0 : decode cX5_easter 0 = .ok (.aload_n 0, 1) := by decide +kernel
theorem dX5_easter_1 : decode cX5_easter 1 = .ok (.getfield 37, 3) := by decide +kernel
theorem dX5_easter_4 : decode cX5_easter 4 = .ok (.aload_n 0, 1) := by decide +kernel
theorem dX5_easter_5 : decode cX5_easter 5 = .ok (.getfield 31, 3) := by decide +kernel
theorem dX5_easter_8 : decode cX5_easter 8 = .ok (.invokevirtual 91, 3) := by decide +kernel
theorem dX5_easter_11 : decode cX5_easter 11 = .ok (.aload_n 0, 1) := by decide +kernel
theorem dX5_easter_12 : decode cX5_easter 12 = .ok (.getfield 31, 3) := by decide +kernel
theorem dX5_easter_15 : decode cX5_easter 15 = .ok (.invokevirtual 156, 3) := by decide +kernel
theorem dX5_easter_18 : decode cX5_easter 18 = .ok (.istore_n 1, 1) := by decide +kernel
theorem dX5_easter_19 : decode cX5_easter 19 = .ok (.iload_n 1, 1) := by decide +kernel
theorem dX5_easter_20 : decode cX5_easter 20 = .ok (.aload_n 0, 1) := by decide +kernel
theorem dX5_easter_21 : decode cX5_easter 21 = .ok (.getfield 31, 3) := by decide +kernel
theorem dX5_easter_24 : decode cX5_easter 24 = .ok (.invokevirtual 228, 3) := by decide +kernel
theorem dX5_easter_27 : decode cX5_easter 27 = .ok (.if_icmp .gt 36, 3) := by decide +kernel
theorem dX5_easter_30 : decode cX5_easter 30 = .ok (.aload_n 0, 1) := by decide +kernel
theorem dX5_easter_31 : decode cX5_easter 31 = .ok (.getfield 37, 3) := by decide +kernel
theorem dX5_easter_34 : decode cX5_easter 34 = .ok (.invokevirtual 169, 3) := by decide +kernel
theorem dX5_easter_37 : decode cX5_easter 37 = .ok (.pop, 1) := by decide +kernel
theorem dX5_easter_38 : decode cX5_easter 38 = .ok (.aload_n 0, 1) := by decide +kernel
theorem dX5_easter_39 : decode cX5_easter 39 = .ok (.getfield 37, 3) := by decide +kernel
theorem dX5_easter_42 : decode cX5_easter 42 = .ok (.invokevirtual 172, 3) := by decide +kernel
theorem dX5_easter_45 : decode cX5_easter 45 = .ok (.ifCond .ne 5, 3) := by decide +kernel
theorem dX5_easter_48 : decode cX5_easter 48 = .ok (.iload_n 1, 1) := by decide +kernel
theorem dX5_easter_49 : decode cX5_easter 49 = .ok (.ireturn, 1) := by decide +kernel
theorem dX5_easter_50 : decode cX5_easter 50 = .ok (.aload_n 0, 1) := by decide +kernel
theorem dX5_easter_51 : decode cX5_easter 51 = .ok (.getfield 37, 3) := by decide +kernel
theorem dX5_easter_54 : decode cX5_easter 54 = .ok (.invokevirtual 231, 3) := by decide +kernel
theorem dX5_easter_57 : decode cX5_easter 57 = .ok (.iinc 1 1, 3) := by decide +kernel
theorem dX5_easter_60 : decode cX5_easter 60 = .ok (.goto (-41), 3) := by decide +kernel
theorem dX5_easter_63 : decode cX5_easter 63 = .ok (.bipush (-4), 2) := by decide +kernel
theorem dX5_easter_65 : decode cX5_easter 65 = .ok (.ireturn, 1) := by decide +kernel
theorem dX5_silent_0 : decode cX5_silent 0 = .ok (.iload_n 1, 1) := by decide +kernel
theorem dX5_silent_1 : decode cX5_silent 1 = .ok (.ifCond .lt 8, 3) := by decide +kernel
theorem dX5_silent_4 : decode cX5_silent 4 = .ok (.iload_n 1, 1) := by decide +kernel
theorem dX5_silent_5 : decode cX5_silent 5 = .ok (.iconst 4, 1) := by decide +kernel
theorem dX5_silent_6 : decode cX5_silent 6 = .ok (.if_icmp .lt 5, 3) := by decide +kernel
theorem dX5_silent_9 : decode cX5_silent 9 = .ok (.iconst (-1), 1) := by decide +kernel
theorem dX5_silent_10 : decode cX5_silent 10 = .ok (.ireturn, 1) := by decide +kernel
theorem dX5_silent_11 : decode cX5_silent 11 = .ok (.aload_n 0, 1) := by decide +kernel
theorem dX5_silent_12 : decode cX5_silent 12 = .ok (.getfield 234, 3) := by decide +kernel
theorem dX5_silent_15 : decode cX5_silent 15 = .ok (.bipush 6, 2) := by decide +kernel
theorem dX5_silent_17 : decode cX5_silent 17 = .ok (.if_icmp .lt 6, 3) := by decide +kernel
theorem dX5_silent_20 : decode cX5_silent 20 = .ok (.bipush (-3), 2) := by decide +kernel
theorem dX5_silent_22 : decode cX5_silent 22 = .ok (.ireturn, 1) := by decide +kernel
theorem dX5_silent_23 : decode cX5_silent 23 = .ok (.aload_n 0, 1) := by decide +kernel
theorem dX5_silent_24 : decode cX5_silent 24 = .ok (.dup, 1) := by decide +kernel
theorem dX5_silent_25 : decode cX5_silent 25 = .ok (.getfield 234, 3) := by decide +kernel
theorem dX5_silent_28 : decode cX5_silent 28 = .ok (.iconst 1, 1) := by decide +kernel
theorem dX5_silent_29 : decode cX5_silent 29 = .ok (.iadd, 1) := by decide +kernel
theorem dX5_silent_30 : decode cX5_silent 30 = .ok (.putfield 234, 3) := by decide +kernel
theorem dX5_silent_33 : decode cX5_silent 33 = .ok (.aload_n 0, 1) := by decide +kernel
theorem dX5_silent_34 : decode cX5_silent 34 = .ok (.dup, 1) := by decide +kernel
theorem dX5_silent_35 : decode cX5_silent 35 = .ok (.getfield 237, 3) := by decide +kernel
theorem dX5_silent_38 : decode cX5_silent 38 = .ok (.iconst 1, 1) := by decide +kernel
theorem dX5_silent_39 : decode cX5_silent 39 = .ok (.iload_n 1, 1) := by decide +kernel
theorem dX5_silent_40 : decode cX5_silent 40 = .ok (.ishl, 1) := by decide +kernel
theorem dX5_silent_41 : decode cX5_silent 41 = .ok (.ior, 1) := by decide +kernel
theorem dX5_silent_42 : decode cX5_silent 42 = .ok (.putfield 237, 3) := by decide +kernel
theorem dX5_silent_45 : decode cX5_silent 45 = .ok (.aload_n 0, 1) := by decide +kernel
theorem dX5_silent_46 : decode cX5_silent 46 = .ok (.getfield 234, 3) := by decide +kernel
theorem dX5_silent_49 : decode cX5_silent 49 = .ok (.ireturn, 1) := by decide +kernel
set_option maxRecDepth 20000 in
theorem ggX5_forget_X5_forgetSilence : GoodIn wsX5_forget wsX5_forgetSilence := goodIn_r _ [6, 1, 7, 8, 9, 10, 11, 12, 13, 14, 15, 16, 17, 18, 19, 20] (by decide +kernel) (by decide +kernel)
set_option maxRecDepth 20000 in
theorem gX5_forget_X5_forgetSilence : GoodIn wsX5_forget (wsV RX5 96 RX5 yX5_forgetSilence wsX5_forgetSilence) := goodIn_app (goodIn_of _ (by decide +kernel)) ggX5_forget_X5_forgetSilence
theorem dX5_forget_0 : decode cX5_forget 0 = .ok (.aload_n 0, 1) := by decide +kernel
theorem dX5_forget_1 : decode cX5_forget 1 = .ok (.getfield 234, 3) := by decide +kernel
theorem dX5_forget_4 : decode cX5_forget 4 = .ok (.istore_n 1, 1) := by decide +kernel
theorem dX5_forget_5 : decode cX5_forget 5 = .ok (.aload_n 0, 1) := by decide +kernel
theorem dX5_forget_6 : decode cX5_forget 6 = .ok (.invokevirtual 96, 3) := by decide +kernel
theorem dX5_forget_9 : decode cX5_forget 9 = .ok (.iload_n 1, 1) := by decide +kernel
theorem dX5_forget_10 : decode cX5_forget 10 = .ok (.ireturn, 1) := by decide +kernel
set_option maxRecDepth 20000 in
theorem ggX5_fits_X5_isZeroOrOne : GoodIn wsX5_fits wsX5_isZeroOrOne := goodIn_r _ [5] (by decide +kernel) (by decide +kernel)
set_option maxRecDepth 20000 in
theorem gX5_fits_X5_isZeroOrOne : GoodIn wsX5_fits (va_wsS RX5 178 yX5_isZeroOrOne wsX5_isZeroOrOne) := goodIn_app (goodIn_of _ (by decide +kernel)) ggX5_fits_X5_isZeroOrOne
set_option maxRecDepth 20000 in
theorem ggX5_fits_X4_persons : GoodIn wsX5_fits wsX4_persons := goodIn_r _ [10, 11, 117, 118, 119, 120, 121, 122, 123, 124] (by decide +kernel) (by decide +kernel)
set_option maxRecDepth 20000 in
theorem gX5_fits_X4_persons : GoodIn wsX5_fits (wsV RX5 88 RX4 yX4_persons wsX4_persons) := goodIn_app (goodIn_of _ (by decide +kernel)) ggX5_fits_X4_persons
set_option maxRecDepth 20000 in
theorem ggX5_fits_X5_wrongFits : GoodIn wsX5_fits wsX5_wrongFits := goodIn_r _ [15, 1, 16, 17, 18, 19, 20, 9, 21, 22, 23, 24, 25, 26, 27, 28, 29, 30, 31, 32, 33, 34, 35, 36, 37, 38, 39, 40, 41, 42, 43, 44, 45, 46, 47, 48, 49, 11, 50, 51, 52, 53, 54, 55, 56, 57, 58, 59, 60, 61, 62, 63, 64, 65, 66, 67, 68, 69, 70, 71, 72, 73, 74, 75, 76, 77, 78, 79, 80, 81, 82, 83, 84, 85, 86, 87, 88, 89, 90, 91, 92, 93, 94, 95, 96, 97, 98, 99, 100, 104, 105, 106, 107, 108, 109, 110, 111, 112, 113, 114, 115, 116, 117, 118, 119, 120, 121, 122, 123, 124] (by decide +kernel) (by decide +kernel)
set_option maxRecDepth 20000 in
theorem gX5_fits_X5_wrongFits : GoodIn wsX5_fits (wsV RX5 240 RX5 yX5_wrongFits wsX5_wrongFits) := goodIn_app (goodIn_of _ (by decide +kernel)) ggX5_fits_X5_wrongFits
set_option maxRecDepth 20000 in
theorem ggX5_fits_X5_twoAsNumber : GoodIn wsX5_fits wsX5_twoAsNumber := goodIn_r _ [103] (by decide +kernel) (by decide +kernel)
set_option maxRecDepth 20000 in
theorem gX5_fits_X5_twoAsNumber : GoodIn wsX5_fits (va_wsS RX5 243 yX5_twoAsNumber wsX5_twoAsNumber) := goodIn_app (goodIn_of _ (by decide +kernel)) ggX5_fits_X5_twoAsNumber
theorem dX5_fits_0 : decode cX5_fits 0 = .ok (.iload_n 1, 1) := by decide +kernel
theorem dX5_fits_1 : decode cX5_fits 1 = .ok (.invokestatic 178, 3) := by decide +kernel
theorem dX5_fits_4 : decode cX5_fits 4 = .ok (.ifCond .ne 5, 3) := by decide +kernel
theorem dX5_fits_7 : decode cX5_fits 7 = .ok (.iconst (-1), 1) := by decide +kernel
theorem dX5_fits_8 : decode cX5_fits 8 = .ok (.ireturn, 1) := by decide +kernel
theorem dX5_fits_9 : decode cX5_fits 9 = .ok (.iconst 0, 1) := by decide +kernel
theorem dX5_fits_10 : decode cX5_fits 10 = .ok (.istore_n 2, 1) := by decide +kernel
theorem dX5_fits_11 : decode cX5_fits 11 = .ok (.bipush (-4), 2) := by decide +kernel
theorem dX5_fits_13 : decode cX5_fits 13 = .ok (.istore_n 3, 1) := by decide +kernel
theorem dX5_fits_14 : decode cX5_fits 14 = .ok (.iconst 0, 1) := by decide +kernel
theorem dX5_fits_15 : decode cX5_fits 15 = .ok (.istore 4, 2) := by decide +kernel
theorem dX5_fits_17 : decode cX5_fits 17 = .ok (.iload 4, 2) := by decide +kernel
theorem dX5_fits_19 : decode cX5_fits 19 = .ok (.aload_n 0, 1) := by decide +kernel
theorem dX5_fits_20 : decode cX5_fits 20 = .ok (.getfield 31, 3) := by decide +kernel
theorem dX5_fits_23 : decode cX5_fits 23 = .ok (.invokevirtual 88, 3) := by decide +kernel
theorem dX5_fits_26 : decode cX5_fits 26 = .ok (.if_icmp .ge 60, 3) := by decide +kernel
theorem dX5_fits_29 : decode cX5_fits 29 = .ok (.iconst 0, 1) := by decide +kernel
theorem dX5_fits_30 : decode cX5_fits 30 = .ok (.istore 5, 2) := by decide +kernel
theorem dX5_fits_32 : decode cX5_fits 32 = .ok (.iload 5, 2) := by decide +kernel
theorem dX5_fits_34 : decode cX5_fits 34 = .ok (.aload_n 0, 1) := by decide +kernel
theorem dX5_fits_35 : decode cX5_fits 35 = .ok (.getfield 31, 3) := by decide +kernel
theorem dX5_fits_38 : decode cX5_fits 38 = .ok (.invokevirtual 88, 3) := by decide +kernel
theorem dX5_fits_41 : decode cX5_fits 41 = .ok (.if_icmp .ge 39, 3) := by decide +kernel
theorem dX5_fits_44 : decode cX5_fits 44 = .ok (.aload_n 0, 1) := by decide +kernel
theorem dX5_fits_45 : decode cX5_fits 45 = .ok (.iload 4, 2) := by decide +kernel
theorem dX5_fits_47 : decode cX5_fits 47 = .ok (.iload 5, 2) := by decide +kernel
theorem dX5_fits_49 : decode cX5_fits 49 = .ok (.invokevirtual 240, 3) := by decide +kernel
theorem dX5_fits_52 : decode cX5_fits 52 = .ok (.ifCond .eq 22, 3) := by decide +kernel
theorem dX5_fits_55 : decode cX5_fits 55 = .ok (.iload_n 2, 1) := by decide +kernel
theorem dX5_fits_56 : decode cX5_fits 56 = .ok (.ifCond .ne 13, 3) := by decide +kernel
theorem dX5_fits_59 : decode cX5_fits 59 = .ok (.iload 4, 2) := by decide +kernel
theorem dX5_fits_61 : decode cX5_fits 61 = .ok (.iload 5, 2) := by decide +kernel
theorem dX5_fits_63 : decode cX5_fits 63 = .ok (.invokestatic 243, 3) := by decide +kernel
theorem dX5_fits_66 : decode cX5_fits 66 = .ok (.goto 4, 3) := by decide +kernel
theorem dX5_fits_69 : decode cX5_fits 69 = .ok (.iload_n 3, 1) := by decide +kernel
theorem dX5_fits_70 : decode cX5_fits 70 = .ok (.istore_n 3, 1) := by decide +kernel
theorem dX5_fits_71 : decode cX5_fits 71 = .ok (.iinc 2 1, 3) := by decide +kernel
theorem dX5_fits_74 : decode cX5_fits 74 = .ok (.iinc 5 1, 3) := by decide +kernel
theorem dX5_fits_77 : decode cX5_fits 77 = .ok (.goto (-45), 3) := by decide +kernel
theorem dX5_fits_80 : decode cX5_fits 80 = .ok (.iinc 4 1, 3) := by decide +kernel
theorem dX5_fits_83 : decode cX5_fits 83 = .ok (.goto (-66), 3) := by decide +kernel
theorem dX5_fits_86 : decode cX5_fits 86 = .ok (.iload_n 1, 1) := by decide +kernel
theorem dX5_fits_87 : decode cX5_fits 87 = .ok (.ifCond .ne 7, 3) := by decide +kernel
theorem dX5_fits_90 : decode cX5_fits 90 = .ok (.iload_n 2, 1) := by decide +kernel
theorem dX5_fits_91 : decode cX5_fits 91 = .ok (.goto 4, 3) := by decide +kernel
theorem dX5_fits_94 : decode cX5_fits 94 = .ok (.iload_n 3, 1) := by decide +kernel
theorem dX5_fits_95 : decode cX5_fits 95 = .ok (.ireturn, 1) := by decide +kernel
set_option maxRecDepth 20000 in
theorem ggX5_year_X5_isZeroOrOne : GoodIn wsX5_year wsX5_isZeroOrOne := goodIn_r _ [6] (by decide +kernel) (by decide +kernel)
set_option maxRecDepth 20000 in
theorem gX5_year_X5_isZeroOrOne : GoodIn wsX5_year (va_wsS RX5 178 yX5_isZeroOrOne wsX5_isZeroOrOne) := goodIn_app (goodIn_of _ (by decide +kernel)) ggX5_year_X5_isZeroOrOne
set_option maxRecDepth 20000 in
theorem ggX5_year_X4_copyFrom : GoodIn wsX5_year wsX4_copyFrom := goodIn_r _ [11, 12, 13, 14, 15, 16, 17, 18, 19, 20, 21, 22, 23, 116, 117, 118, 119, 120, 121, 122, 123] (by decide +kernel) (by decide +kernel)
set_option maxRecDepth 20000 in
theorem gX5_year_X4_copyFrom : GoodIn wsX5_year (wsV RX5 91 RX4 yX4_copyFrom wsX4_copyFrom) := goodIn_app (goodIn_of _ (by decide +kernel)) ggX5_year_X4_copyFrom
set_option maxRecDepth 20000 in
theorem ggX5_year_X5_bowsInStep : GoodIn wsX5_year wsX5_bowsInStep := goodIn_r _ [27, 1, 28, 29, 30, 31, 32, 33, 10, 34, 12, 35, 36, 37, 38, 13, 16, 39, 40, 41, 42, 15, 43, 44, 45, 46, 47, 48, 49, 50, 51, 52, 53, 54, 22, 55, 56, 57, 58, 23, 59, 60, 61, 62, 63, 64, 65, 66, 67, 68, 69, 70, 71, 72, 73, 74, 75, 76, 77, 78, 79, 80, 81, 82, 83, 84, 85, 86, 87, 88, 89, 90, 91, 92, 93, 94, 95, 96, 97, 5, 98, 103, 104, 105, 106, 107, 108, 109, 110, 111, 112, 113, 114, 115, 116, 117, 118, 119, 120, 121, 122, 123] (by decide +kernel) (by decide +kernel)
set_option maxRecDepth 20000 in
theorem gX5_year_X5_bowsInStep : GoodIn wsX5_year (wsV RX5 246 RX5 yX5_bowsInStep wsX5_bowsInStep) := goodIn_app (goodIn_of _ (by decide +kernel)) ggX5_year_X5_bowsInStep
set_option maxRecDepth 20000 in
theorem ggX5_year_X4_allOwed : GoodIn wsX5_year wsX4_allOwed := goodIn_r _ [102, 12, 23, 116, 117, 118, 119, 120, 121, 122, 123] (by decide +kernel) (by decide +kernel)
set_option maxRecDepth 20000 in
theorem gX5_year_X4_allOwed : GoodIn wsX5_year (wsV RX5 172 RX4 yX4_allOwed wsX4_allOwed) := goodIn_app (goodIn_of _ (by decide +kernel)) ggX5_year_X4_allOwed
theorem dX5_year_0 : decode cX5_year 0 = .ok (.iload_n 1, 1) := by decide +kernel
theorem dX5_year_1 : decode cX5_year 1 = .ok (.ifCond .lt 28, 3) := by decide +kernel
theorem dX5_year_4 : decode cX5_year 4 = .ok (.iload_n 1, 1) := by decide +kernel
theorem dX5_year_5 : decode cX5_year 5 = .ok (.sipush 9999, 3) := by decide +kernel
theorem dX5_year_8 : decode cX5_year 8 = .ok (.if_icmp .gt 21, 3) := by decide +kernel
theorem dX5_year_11 : decode cX5_year 11 = .ok (.iload_n 2, 1) := by decide +kernel
theorem dX5_year_12 : decode cX5_year 12 = .ok (.iconst 1, 1) := by decide +kernel
theorem dX5_year_13 : decode cX5_year 13 = .ok (.if_icmp .lt 16, 3) := by decide +kernel
theorem dX5_year_16 : decode cX5_year 16 = .ok (.iload_n 2, 1) := by decide +kernel
theorem dX5_year_17 : decode cX5_year 17 = .ok (.bipush 60, 2) := by decide +kernel
theorem dX5_year_19 : decode cX5_year 19 = .ok (.if_icmp .gt 10, 3) := by decide +kernel
theorem dX5_year_22 : decode cX5_year 22 = .ok (.iload_n 3, 1) := by decide +kernel
theorem dX5_year_23 : decode cX5_year 23 = .ok (.invokestatic 178, 3) := by decide +kernel
theorem dX5_year_26 : decode cX5_year 26 = .ok (.ifCond .ne 5, 3) := by decide +kernel
theorem dX5_year_29 : decode cX5_year 29 = .ok (.iconst (-1), 1) := by decide +kernel
theorem dX5_year_30 : decode cX5_year 30 = .ok (.ireturn, 1) := by decide +kernel
theorem dX5_year_31 : decode cX5_year 31 = .ok (.aload_n 0, 1) := by decide +kernel
theorem dX5_year_32 : decode cX5_year 32 = .ok (.getfield 37, 3) := by decide +kernel
theorem dX5_year_35 : decode cX5_year 35 = .ok (.aload_n 0, 1) := by decide +kernel
theorem dX5_year_36 : decode cX5_year 36 = .ok (.getfield 31, 3) := by decide +kernel
theorem dX5_year_39 : decode cX5_year 39 = .ok (.invokevirtual 91, 3) := by decide +kernel
theorem dX5_year_42 : decode cX5_year 42 = .ok (.iconst 0, 1) := by decide +kernel
theorem dX5_year_43 : decode cX5_year 43 = .ok (.istore 4, 2) := by decide +kernel
theorem dX5_year_45 : decode cX5_year 45 = .ok (.iconst 0, 1) := by decide +kernel
theorem dX5_year_46 : decode cX5_year 46 = .ok (.istore 5, 2) := by decide +kernel
theorem dX5_year_48 : decode cX5_year 48 = .ok (.iload 5, 2) := by decide +kernel
theorem dX5_year_50 : decode cX5_year 50 = .ok (.iload_n 2, 1) := by decide +kernel
theorem dX5_year_51 : decode cX5_year 51 = .ok (.if_icmp .ge 21, 3) := by decide +kernel
theorem dX5_year_54 : decode cX5_year 54 = .ok (.iload 4, 2) := by decide +kernel
theorem dX5_year_56 : decode cX5_year 56 = .ok (.aload_n 0, 1) := by decide +kernel
theorem dX5_year_57 : decode cX5_year 57 = .ok (.iload_n 1, 1) := by decide +kernel
theorem dX5_year_58 : decode cX5_year 58 = .ok (.iload 5, 2) := by decide +kernel
theorem dX5_year_60 : decode cX5_year 60 = .ok (.invokevirtual 246, 3) := by decide +kernel
theorem dX5_year_63 : decode cX5_year 63 = .ok (.iadd, 1) := by decide +kernel
theorem dX5_year_64 : decode cX5_year 64 = .ok (.istore 4, 2) := by decide +kernel
theorem dX5_year_66 : decode cX5_year 66 = .ok (.iinc 5 1, 3) := by decide +kernel
theorem dX5_year_69 : decode cX5_year 69 = .ok (.goto (-21), 3) := by decide +kernel
theorem dX5_year_72 : decode cX5_year 72 = .ok (.iload_n 3, 1) := by decide +kernel
theorem dX5_year_73 : decode cX5_year 73 = .ok (.ifCond .ne 13, 3) := by decide +kernel
theorem dX5_year_76 : decode cX5_year 76 = .ok (.aload_n 0, 1) := by decide +kernel
theorem dX5_year_77 : decode cX5_year 77 = .ok (.getfield 37, 3) := by decide +kernel
theorem dX5_year_80 : decode cX5_year 80 = .ok (.invokevirtual 172, 3) := by decide +kernel
theorem dX5_year_83 : decode cX5_year 83 = .ok (.goto 5, 3) := by decide +kernel
theorem dX5_year_86 : decode cX5_year 86 = .ok (.iload 4, 2) := by decide +kernel
theorem dX5_year_88 : decode cX5_year 88 = .ok (.ireturn, 1) := by decide +kernel
set_option maxRecDepth 20000 in
theorem ggX5_keep_X5_latestKept : GoodIn wsX5_keep wsX5_latestKept := goodIn_r _ [7, 1, 8, 9, 23, 24, 25, 26, 27, 28, 29, 30, 31, 32, 33, 34, 35] (by decide +kernel) (by decide +kernel)
set_option maxRecDepth 20000 in
theorem gX5_keep_X5_latestKept : GoodIn wsX5_keep (wsV RX5 249 RX5 yX5_latestKept wsX5_latestKept) := goodIn_app (goodIn_of _ (by decide +kernel)) ggX5_keep_X5_latestKept
set_option maxRecDepth 20000 in
theorem ggX5_keep_X0_copyFrom : GoodIn wsX5_keep wsX0_copyFrom := goodIn_r _ [14, 15, 16, 17, 18, 19, 20, 21, 22, 36, 37, 38, 39] (by decide +kernel) (by decide +kernel)
set_option maxRecDepth 20000 in
theorem gX5_keep_X0_copyFrom : GoodIn wsX5_keep (wsV RX5 253 RX0 yX0_copyFrom wsX0_copyFrom) := goodIn_app (goodIn_of _ (by decide +kernel)) ggX5_keep_X0_copyFrom
theorem dX5_keep_0 : decode cX5_keep 0 = .ok (.aload_n 0, 1) := by decide +kernel
theorem dX5_keep_1 : decode cX5_keep 1 = .ok (.getfield 99, 3) := by decide +kernel
theorem dX5_keep_4 : decode cX5_keep 4 = .ok (.iconst 2, 1) := by decide +kernel
theorem dX5_keep_5 : decode cX5_keep 5 = .ok (.if_icmp .lt 6, 3) := by decide +kernel
theorem dX5_keep_8 : decode cX5_keep 8 = .ok (.bipush (-3), 2) := by decide +kernel
theorem dX5_keep_10 : decode cX5_keep 10 = .ok (.ireturn, 1) := by decide +kernel
theorem dX5_keep_11 : decode cX5_keep 11 = .ok (.aload_n 0, 1) := by decide +kernel
theorem dX5_keep_12 : decode cX5_keep 12 = .ok (.dup, 1) := by decide +kernel
theorem dX5_keep_13 : decode cX5_keep 13 = .ok (.getfield 99, 3) := by decide +kernel
theorem dX5_keep_16 : decode cX5_keep 16 = .ok (.iconst 1, 1) := by decide +kernel
theorem dX5_keep_17 : decode cX5_keep 17 = .ok (.iadd, 1) := by decide +kernel
theorem dX5_keep_18 : decode cX5_keep 18 = .ok (.putfield 99, 3) := by decide +kernel
theorem dX5_keep_21 : decode cX5_keep 21 = .ok (.aload_n 0, 1) := by decide +kernel
theorem dX5_keep_22 : decode cX5_keep 22 = .ok (.invokevirtual 249, 3) := by decide +kernel
theorem dX5_keep_25 : decode cX5_keep 25 = .ok (.aload_n 0, 1) := by decide +kernel
theorem dX5_keep_26 : decode cX5_keep 26 = .ok (.getfield 43, 3) := by decide +kernel
theorem dX5_keep_29 : decode cX5_keep 29 = .ok (.invokevirtual 253, 3) := by decide +kernel
theorem dX5_keep_32 : decode cX5_keep 32 = .ok (.aload_n 0, 1) := by decide +kernel
theorem dX5_keep_33 : decode cX5_keep 33 = .ok (.getfield 99, 3) := by decide +kernel
theorem dX5_keep_36 : decode cX5_keep 36 = .ok (.ireturn, 1) := by decide +kernel
set_option maxRecDepth 20000 in
theorem ggX5_back_X5_latestKept : GoodIn wsX5_back wsX5_latestKept := goodIn_r _ [8, 1, 9, 10, 119, 120, 121, 122, 123, 124, 125, 126, 127, 128, 129, 130, 131] (by decide +kernel) (by decide +kernel)
set_option maxRecDepth 20000 in
theorem gX5_back_X5_latestKept : GoodIn wsX5_back (wsV RX5 249 RX5 yX5_latestKept wsX5_latestKept) := goodIn_app (goodIn_of _ (by decide +kernel)) ggX5_back_X5_latestKept
set_option maxRecDepth 20000 in
theorem ggX5_back_X0_copyFrom : GoodIn wsX5_back wsX0_copyFrom := goodIn_r _ [15, 16, 17, 18, 19, 20, 21, 22, 23, 132, 133, 134, 135] (by decide +kernel) (by decide +kernel)
set_option maxRecDepth 20000 in
theorem gX5_back_X0_copyFrom : GoodIn wsX5_back (wsV RX5 253 RX0 yX0_copyFrom wsX0_copyFrom) := goodIn_app (goodIn_of _ (by decide +kernel)) ggX5_back_X0_copyFrom
set_option maxRecDepth 20000 in
theorem ggX5_back_X5_doAgain : GoodIn wsX5_back wsX5_doAgain := goodIn_r _ [27, 28, 2, 29, 30, 31, 32, 33, 34, 35, 36, 37, 38, 39, 18, 19, 20, 40, 41, 42, 43, 44, 45, 14, 46, 23, 47, 48, 49, 50, 16, 51, 52, 53, 54, 21, 55, 56, 57, 58, 22, 59, 60, 61, 62, 63, 64, 65, 66, 67, 68, 69, 70, 71, 72, 73, 74, 75, 76, 77, 78, 79, 80, 81, 82, 83, 84, 85, 86, 87, 88, 89, 90, 91, 92, 93, 94, 95, 96, 97, 98, 99, 100, 101, 102, 103, 104, 105, 106, 107, 108, 109, 110, 111, 112, 113, 114, 115, 116, 117, 118, 119, 120, 121, 122, 123, 124, 125, 126, 127, 128, 129, 130, 131, 136, 137, 138, 139, 140, 141, 142, 143, 132, 133, 134, 135] (by decide +kernel) (by decide +kernel)
set_option maxRecDepth 20000 in
theorem gX5_back_X5_doAgain : GoodIn wsX5_back (wsV RX5 165 RX5 yX5_doAgain wsX5_doAgain) := goodIn_app (goodIn_of _ (by decide +kernel)) ggX5_back_X5_doAgain
theorem dX5_back_0 : decode cX5_back 0 = .ok (.aload_n 0, 1) := by decide +kernel
theorem dX5_back_1 : decode cX5_back 1 = .ok (.getfield 99, 3) := by decide +kernel
theorem dX5_back_4 : decode cX5_back 4 = .ok (.iconst 1, 1) := by decide +kernel
theorem dX5_back_5 : decode cX5_back 5 = .ok (.if_icmp .ge 6, 3) := by decide +kernel
theorem dX5_back_8 : decode cX5_back 8 = .ok (.bipush (-2), 2) := by decide +kernel
theorem dX5_back_10 : decode cX5_back 10 = .ok (.ireturn, 1) := by decide +kernel
theorem dX5_back_11 : decode cX5_back 11 = .ok (.aload_n 0, 1) := by decide +kernel
theorem dX5_back_12 : decode cX5_back 12 = .ok (.getfield 43, 3) := by decide +kernel
theorem dX5_back_15 : decode cX5_back 15 = .ok (.aload_n 0, 1) := by decide +kernel
theorem dX5_back_16 : decode cX5_back 16 = .ok (.invokevirtual 249, 3) := by decide +kernel
theorem dX5_back_19 : decode cX5_back 19 = .ok (.invokevirtual 253, 3) := by decide +kernel
theorem dX5_back_22 : decode cX5_back 22 = .ok (.aload_n 0, 1) := by decide +kernel
theorem dX5_back_23 : decode cX5_back 23 = .ok (.dup, 1) := by decide +kernel
theorem dX5_back_24 : decode cX5_back 24 = .ok (.getfield 99, 3) := by decide +kernel
theorem dX5_back_27 : decode cX5_back 27 = .ok (.iconst 1, 1) := by decide +kernel
theorem dX5_back_28 : decode cX5_back 28 = .ok (.isub, 1) := by decide +kernel
theorem dX5_back_29 : decode cX5_back 29 = .ok (.putfield 99, 3) := by decide +kernel
theorem dX5_back_32 : decode cX5_back 32 = .ok (.aload_n 0, 1) := by decide +kernel
theorem dX5_back_33 : decode cX5_back 33 = .ok (.aload_n 0, 1) := by decide +kernel
theorem dX5_back_34 : decode cX5_back 34 = .ok (.getfield 31, 3) := by decide +kernel
theorem dX5_back_37 : decode cX5_back 37 = .ok (.iconst (-1), 1) := by decide +kernel
theorem dX5_back_38 : decode cX5_back 38 = .ok (.invokevirtual 165, 3) := by decide +kernel
theorem dX5_back_41 : decode cX5_back 41 = .ok (.aload_n 0, 1) := by decide +kernel
theorem dX5_back_42 : decode cX5_back 42 = .ok (.getfield 99, 3) := by decide +kernel
theorem dX5_back_45 : decode cX5_back 45 = .ok (.ireturn, 1) := by decide +kernel
set_option maxRecDepth 20000 in
theorem ggX5_count_X4_persons : GoodIn wsX5_count wsX4_persons := goodIn_r _ [10, 11, 59, 60, 61, 62, 63, 64, 65, 66] (by decide +kernel) (by decide +kernel)
set_option maxRecDepth 20000 in
theorem gX5_count_X4_persons : GoodIn wsX5_count (wsV RX5 88 RX4 yX4_persons wsX4_persons) := goodIn_app (goodIn_of _ (by decide +kernel)) ggX5_count_X4_persons
set_option maxRecDepth 20000 in
theorem ggX5_count_X4_aliveBits : GoodIn wsX5_count wsX4_aliveBits := goodIn_r _ [15, 16, 59, 60, 61, 62, 63, 64, 65, 66] (by decide +kernel) (by decide +kernel)
set_option maxRecDepth 20000 in
theorem gX5_count_X4_aliveBits : GoodIn wsX5_count (wsV RX5 148 RX4 yX4_aliveBits wsX4_aliveBits) := goodIn_app (goodIn_of _ (by decide +kernel)) ggX5_count_X4_aliveBits
set_option maxRecDepth 20000 in
theorem ggX5_count_J6_bitCount_0f7a4 : GoodIn wsX5_count wsJ6_bitCount_0f7a4 := goodIn_r _ [20, 21, 22, 23] (by decide +kernel) (by decide +kernel)
set_option maxRecDepth 20000 in
theorem gX5_count_J6_bitCount_0f7a4 : GoodIn wsX5_count (va_wsS RX5 151 yJ6_bitCount_0f7a4 wsJ6_bitCount_0f7a4) := goodIn_app (goodIn_of _ (by decide +kernel)) ggX5_count_J6_bitCount_0f7a4
set_option maxRecDepth 20000 in
theorem ggX5_count_X4_day : GoodIn wsX5_count wsX4_day := goodIn_r _ [27, 28, 59, 60, 61, 62, 63, 64, 65, 66] (by decide +kernel) (by decide +kernel)
set_option maxRecDepth 20000 in
theorem gX5_count_X4_day : GoodIn wsX5_count (wsV RX5 156 RX4 yX4_day wsX4_day) := goodIn_app (goodIn_of _ (by decide +kernel)) ggX5_count_X4_day
set_option maxRecDepth 20000 in
theorem ggX5_count_X4_allOwed : GoodIn wsX5_count wsX4_allOwed := goodIn_r _ [32, 11, 33, 59, 60, 61, 62, 63, 64, 65, 66] (by decide +kernel) (by decide +kernel)
set_option maxRecDepth 20000 in
theorem gX5_count_X4_allOwed : GoodIn wsX5_count (wsV RX5 172 RX4 yX4_allOwed wsX4_allOwed) := goodIn_app (goodIn_of _ (by decide +kernel)) ggX5_count_X4_allOwed
set_option maxRecDepth 20000 in
theorem ggX5_count_X0_size : GoodIn wsX5_count wsX0_size := goodIn_r _ [38, 39, 67, 68, 69, 70] (by decide +kernel) (by decide +kernel)
set_option maxRecDepth 20000 in
theorem gX5_count_X0_size : GoodIn wsX5_count (wsV RX5 159 RX0 yX0_size wsX0_size) := goodIn_app (goodIn_of _ (by decide +kernel)) ggX5_count_X0_size
set_option maxRecDepth 20000 in
theorem ggX5_count_X1_length : GoodIn wsX5_count wsX1_length := goodIn_r _ [44, 45, 71, 72] (by decide +kernel) (by decide +kernel)
set_option maxRecDepth 20000 in
theorem gX5_count_X1_length : GoodIn wsX5_count (wsV RX5 84 RX1 yX1_length wsX1_length) := goodIn_app (goodIn_of _ (by decide +kernel)) ggX5_count_X1_length
theorem dX5_count_0 : decode cX5_count 0 = .ok (.iload_n 1, 1) := by decide +kernel
theorem dX5_count_1 : decode cX5_count 1 = .ok (.tableswitch 108 0 7 #[47, 55, 66, 74, 82, 90, 95, 100], 47) := by decide +kernel
theorem dX5_count_48 : decode cX5_count 48 = .ok (.aload_n 0, 1) := by decide +kernel
theorem dX5_count_49 : decode cX5_count 49 = .ok (.getfield 31, 3) := by decide +kernel
theorem dX5_count_52 : decode cX5_count 52 = .ok (.invokevirtual 88, 3) := by decide +kernel
theorem dX5_count_55 : decode cX5_count 55 = .ok (.ireturn, 1) := by decide +kernel
theorem dX5_count_56 : decode cX5_count 56 = .ok (.aload_n 0, 1) := by decide +kernel
theorem dX5_count_57 : decode cX5_count 57 = .ok (.getfield 31, 3) := by decide +kernel
theorem dX5_count_60 : decode cX5_count 60 = .ok (.invokevirtual 148, 3) := by decide +kernel
theorem dX5_count_63 : decode cX5_count 63 = .ok (.invokestatic 151, 3) := by decide +kernel
theorem dX5_count_66 : decode cX5_count 66 = .ok (.ireturn, 1) := by decide +kernel
theorem dX5_count_67 : decode cX5_count 67 = .ok (.aload_n 0, 1) := by decide +kernel
theorem dX5_count_68 : decode cX5_count 68 = .ok (.getfield 31, 3) := by decide +kernel
theorem dX5_count_71 : decode cX5_count 71 = .ok (.invokevirtual 156, 3) := by decide +kernel
theorem dX5_count_74 : decode cX5_count 74 = .ok (.ireturn, 1) := by decide +kernel
theorem dX5_count_75 : decode cX5_count 75 = .ok (.aload_n 0, 1) := by decide +kernel
theorem dX5_count_76 : decode cX5_count 76 = .ok (.getfield 31, 3) := by decide +kernel
theorem dX5_count_79 : decode cX5_count 79 = .ok (.invokevirtual 172, 3) := by decide +kernel
theorem dX5_count_82 : decode cX5_count 82 = .ok (.ireturn, 1) := by decide +kernel
theorem dX5_count_83 : decode cX5_count 83 = .ok (.aload_n 0, 1) := by decide +kernel
theorem dX5_count_84 : decode cX5_count 84 = .ok (.getfield 43, 3) := by decide +kernel
theorem dX5_count_87 : decode cX5_count 87 = .ok (.invokevirtual 159, 3) := by decide +kernel
theorem dX5_count_90 : decode cX5_count 90 = .ok (.ireturn, 1) := by decide +kernel
theorem dX5_count_91 : decode cX5_count 91 = .ok (.aload_n 0, 1) := by decide +kernel
theorem dX5_count_92 : decode cX5_count 92 = .ok (.getfield 234, 3) := by decide +kernel
theorem dX5_count_95 : decode cX5_count 95 = .ok (.ireturn, 1) := by decide +kernel
theorem dX5_count_96 : decode cX5_count 96 = .ok (.aload_n 0, 1) := by decide +kernel
theorem dX5_count_97 : decode cX5_count 97 = .ok (.getfield 99, 3) := by decide +kernel
theorem dX5_count_100 : decode cX5_count 100 = .ok (.ireturn, 1) := by decide +kernel
theorem dX5_count_101 : decode cX5_count 101 = .ok (.aload_n 0, 1) := by decide +kernel
theorem dX5_count_102 : decode cX5_count 102 = .ok (.getfield 12, 3) := by decide +kernel
theorem dX5_count_105 : decode cX5_count 105 = .ok (.invokevirtual 84, 3) := by decide +kernel
theorem dX5_count_108 : decode cX5_count 108 = .ok (.ireturn, 1) := by decide +kernel
theorem dX5_count_109 : decode cX5_count 109 = .ok (.iconst (-1), 1) := by decide +kernel
theorem dX5_count_110 : decode cX5_count 110 = .ok (.ireturn, 1) := by decide +kernel
set_option maxRecDepth 20000 in
theorem ggX5_isPerson_X4_persons : GoodIn wsX5_isPerson wsX4_persons := goodIn_r _ [6, 7, 21, 22, 23, 24, 25, 26, 27, 28] (by decide +kernel) (by decide +kernel)
set_option maxRecDepth 20000 in
theorem gX5_isPerson_X4_persons : GoodIn wsX5_isPerson (wsV RX5 88 RX4 yX4_persons wsX4_persons) := goodIn_app (goodIn_of _ (by decide +kernel)) ggX5_isPerson_X4_persons
theorem dX5_isPerson_0 : decode cX5_isPerson 0 = .ok (.iload_n 1, 1) := by decide +kernel
theorem dX5_isPerson_1 : decode cX5_isPerson 1 = .ok (.ifCond .lt 18, 3) := by decide +kernel
theorem dX5_isPerson_4 : decode cX5_isPerson 4 = .ok (.iload_n 1, 1) := by decide +kernel
theorem dX5_isPerson_5 : decode cX5_isPerson 5 = .ok (.aload_n 0, 1) := by decide +kernel
theorem dX5_isPerson_6 : decode cX5_isPerson 6 = .ok (.getfield 31, 3) := by decide +kernel
theorem dX5_isPerson_9 : decode cX5_isPerson 9 = .ok (.invokevirtual 88, 3) := by decide +kernel
theorem dX5_isPerson_12 : decode cX5_isPerson 12 = .ok (.if_icmp .ge 7, 3) := by decide +kernel
theorem dX5_isPerson_15 : decode cX5_isPerson 15 = .ok (.iconst 1, 1) := by decide +kernel
theorem dX5_isPerson_16 : decode cX5_isPerson 16 = .ok (.goto 4, 3) := by decide +kernel
theorem dX5_isPerson_19 : decode cX5_isPerson 19 = .ok (.iconst 0, 1) := by decide +kernel
theorem dX5_isPerson_20 : decode cX5_isPerson 20 = .ok (.ireturn, 1) := by decide +kernel
set_option maxRecDepth 20000 in
theorem ggX5_areTwo_X5_isPerson : GoodIn wsX5_areTwo wsX5_isPerson := goodIn_r _ [5, 6, 7, 8, 9, 10, 11, 12, 13, 14, 15, 16, 17, 18, 19, 20, 21, 22, 23, 24, 25, 26, 27, 28, 29, 30, 31, 32, 33] (by decide +kernel) (by decide +kernel)
set_option maxRecDepth 20000 in
theorem gX5_areTwo_X5_isPerson : GoodIn wsX5_areTwo (wsV RX5 103 RX5 yX5_isPerson wsX5_isPerson) := goodIn_app (goodIn_of _ (by decide +kernel)) ggX5_areTwo_X5_isPerson
theorem dX5_areTwo_0 : decode cX5_areTwo 0 = .ok (.aload_n 0, 1) := by decide +kernel
theorem dX5_areTwo_1 : decode cX5_areTwo 1 = .ok (.iload_n 1, 1) := by decide +kernel
theorem dX5_areTwo_2 : decode cX5_areTwo 2 = .ok (.invokevirtual 103, 3) := by decide +kernel
theorem dX5_areTwo_5 : decode cX5_areTwo 5 = .ok (.ifCond .eq 20, 3) := by decide +kernel
theorem dX5_areTwo_8 : decode cX5_areTwo 8 = .ok (.aload_n 0, 1) := by decide +kernel
theorem dX5_areTwo_9 : decode cX5_areTwo 9 = .ok (.iload_n 2, 1) := by decide +kernel
theorem dX5_areTwo_10 : decode cX5_areTwo 10 = .ok (.invokevirtual 103, 3) := by decide +kernel
theorem dX5_areTwo_13 : decode cX5_areTwo 13 = .ok (.ifCond .eq 12, 3) := by decide +kernel
theorem dX5_areTwo_16 : decode cX5_areTwo 16 = .ok (.iload_n 1, 1) := by decide +kernel
theorem dX5_areTwo_17 : decode cX5_areTwo 17 = .ok (.iload_n 2, 1) := by decide +kernel
theorem dX5_areTwo_18 : decode cX5_areTwo 18 = .ok (.if_icmp .eq 7, 3) := by decide +kernel
theorem dX5_areTwo_21 : decode cX5_areTwo 21 = .ok (.iconst 1, 1) := by decide +kernel
theorem dX5_areTwo_22 : decode cX5_areTwo 22 = .ok (.goto 4, 3) := by decide +kernel
theorem dX5_areTwo_25 : decode cX5_areTwo 25 = .ok (.iconst 0, 1) := by decide +kernel
theorem dX5_areTwo_26 : decode cX5_areTwo 26 = .ok (.ireturn, 1) := by decide +kernel
theorem dX5_isZeroOrOne_0 : decode cX5_isZeroOrOne 0 = .ok (.iload_n 0, 1) := by decide +kernel
theorem dX5_isZeroOrOne_1 : decode cX5_isZeroOrOne 1 = .ok (.ifCond .eq 8, 3) := by decide +kernel
theorem dX5_isZeroOrOne_4 : decode cX5_isZeroOrOne 4 = .ok (.iload_n 0, 1) := by decide +kernel
theorem dX5_isZeroOrOne_5 : decode cX5_isZeroOrOne 5 = .ok (.iconst 1, 1) := by decide +kernel
theorem dX5_isZeroOrOne_6 : decode cX5_isZeroOrOne 6 = .ok (.if_icmp .ne 7, 3) := by decide +kernel
theorem dX5_isZeroOrOne_9 : decode cX5_isZeroOrOne 9 = .ok (.iconst 1, 1) := by decide +kernel
theorem dX5_isZeroOrOne_10 : decode cX5_isZeroOrOne 10 = .ok (.goto 4, 3) := by decide +kernel
theorem dX5_isZeroOrOne_13 : decode cX5_isZeroOrOne 13 = .ok (.iconst 0, 1) := by decide +kernel
theorem dX5_isZeroOrOne_14 : decode cX5_isZeroOrOne 14 = .ok (.ireturn, 1) := by decide +kernel
theorem dX5_asNumber_0 : decode cX5_asNumber 0 = .ok (.iload_n 0, 1) := by decide +kernel
theorem dX5_asNumber_1 : decode cX5_asNumber 1 = .ok (.ifCond .eq 7, 3) := by decide +kernel
theorem dX5_asNumber_4 : decode cX5_asNumber 4 = .ok (.iconst 1, 1) := by decide +kernel
theorem dX5_asNumber_5 : decode cX5_asNumber 5 = .ok (.goto 4, 3) := by decide +kernel
theorem dX5_asNumber_8 : decode cX5_asNumber 8 = .ok (.iconst 0, 1) := by decide +kernel
theorem dX5_asNumber_9 : decode cX5_asNumber 9 = .ok (.ireturn, 1) := by decide +kernel
theorem dX5_twoAsNumber_0 : decode cX5_twoAsNumber 0 = .ok (.bipush 8, 2) := by decide +kernel
theorem dX5_twoAsNumber_2 : decode cX5_twoAsNumber 2 = .ok (.iload_n 0, 1) := by decide +kernel
theorem dX5_twoAsNumber_3 : decode cX5_twoAsNumber 3 = .ok (.imul, 1) := by decide +kernel
theorem dX5_twoAsNumber_4 : decode cX5_twoAsNumber 4 = .ok (.iload_n 1, 1) := by decide +kernel
theorem dX5_twoAsNumber_5 : decode cX5_twoAsNumber 5 = .ok (.iadd, 1) := by decide +kernel
theorem dX5_twoAsNumber_6 : decode cX5_twoAsNumber 6 = .ok (.ireturn, 1) := by decide +kernel
set_option maxRecDepth 20000 in
theorem ggX5_actOfTwo_X5_areTwo : GoodIn wsX5_actOfTwo wsX5_areTwo := goodIn_r _ [6, 7, 8, 9, 5, 10, 1, 11, 12, 13, 14, 15, 16, 101, 102, 103, 104, 105, 106, 107, 108, 109, 110, 111, 112, 113, 114, 115, 116, 117, 118, 119, 120, 121] (by decide +kernel) (by decide +kernel)
set_option maxRecDepth 20000 in
theorem gX5_actOfTwo_X5_areTwo : GoodIn wsX5_actOfTwo (wsV RX5 130 RX5 yX5_areTwo wsX5_areTwo) := goodIn_app (goodIn_of _ (by decide +kernel)) ggX5_actOfTwo_X5_areTwo
set_option maxRecDepth 20000 in
theorem ggX5_actOfTwo_X5_act : GoodIn wsX5_actOfTwo wsX5_act := goodIn_r _ [20, 1, 21, 22, 23, 24, 14, 25, 26, 27, 28, 29, 30, 31, 32, 33, 34, 35, 36, 37, 38, 39, 40, 41, 42, 43, 44, 45, 46, 47, 48, 49, 50, 51, 52, 53, 54, 55, 56, 57, 58, 59, 60, 61, 62, 63, 64, 65, 66, 67, 68, 69, 70, 71, 72, 73, 74, 75, 76, 77, 78, 79, 80, 81, 82, 83, 84, 85, 86, 87, 88, 89, 90, 91, 16, 92, 93, 94, 95, 96, 97, 98, 99, 101, 102, 103, 104, 105, 106, 107, 108, 109, 110, 111, 112, 113, 114, 115, 116, 117, 118, 119, 120, 121, 122, 123, 124, 125] (by decide +kernel) (by decide +kernel)
set_option maxRecDepth 20000 in
theorem gX5_actOfTwo_X5_act : GoodIn wsX5_actOfTwo (wsV RX5 145 RX5 yX5_act wsX5_act) := goodIn_app (goodIn_of _ (by decide +kernel)) ggX5_actOfTwo_X5_act
set_option maxRecDepth 20000 in
theorem ggX5_actOfTwo_X4_debt : GoodIn wsX5_actOfTwo wsX4_debt := goodIn_r _ [34, 35, 114, 115, 116, 117, 118, 119, 120, 121] (by decide +kernel) (by decide +kernel)
set_option maxRecDepth 20000 in
theorem gX5_actOfTwo_X4_debt : GoodIn wsX5_actOfTwo (wsV RX5 134 RX4 yX4_debt wsX4_debt) := goodIn_app (goodIn_of _ (by decide +kernel)) ggX5_actOfTwo_X4_debt
theorem dX5_actOfTwo_0 : decode cX5_actOfTwo 0 = .ok (.aload_n 0, 1) := by decide +kernel
theorem dX5_actOfTwo_1 : decode cX5_actOfTwo 1 = .ok (.iload_n 2, 1) := by decide +kernel
theorem dX5_actOfTwo_2 : decode cX5_actOfTwo 2 = .ok (.iload_n 3, 1) := by decide +kernel
theorem dX5_actOfTwo_3 : decode cX5_actOfTwo 3 = .ok (.invokevirtual 130, 3) := by decide +kernel
theorem dX5_actOfTwo_6 : decode cX5_actOfTwo 6 = .ok (.ifCond .ne 5, 3) := by decide +kernel
theorem dX5_actOfTwo_9 : decode cX5_actOfTwo 9 = .ok (.iconst (-1), 1) := by decide +kernel
theorem dX5_actOfTwo_10 : decode cX5_actOfTwo 10 = .ok (.ireturn, 1) := by decide +kernel
theorem dX5_actOfTwo_11 : decode cX5_actOfTwo 11 = .ok (.aload_n 0, 1) := by decide +kernel
theorem dX5_actOfTwo_12 : decode cX5_actOfTwo 12 = .ok (.iload_n 1, 1) := by decide +kernel
theorem dX5_actOfTwo_13 : decode cX5_actOfTwo 13 = .ok (.iload_n 2, 1) := by decide +kernel
theorem dX5_actOfTwo_14 : decode cX5_actOfTwo 14 = .ok (.iload_n 3, 1) := by decide +kernel
theorem dX5_actOfTwo_15 : decode cX5_actOfTwo 15 = .ok (.invokevirtual 145, 3) := by decide +kernel
theorem dX5_actOfTwo_18 : decode cX5_actOfTwo 18 = .ok (.istore 4, 2) := by decide +kernel
theorem dX5_actOfTwo_20 : decode cX5_actOfTwo 20 = .ok (.iload 4, 2) := by decide +kernel
theorem dX5_actOfTwo_22 : decode cX5_actOfTwo 22 = .ok (.ifCond .ge 8, 3) := by decide +kernel
theorem dX5_actOfTwo_25 : decode cX5_actOfTwo 25 = .ok (.iload 4, 2) := by decide +kernel
theorem dX5_actOfTwo_27 : decode cX5_actOfTwo 27 = .ok (.goto 12, 3) := by decide +kernel
theorem dX5_actOfTwo_30 : decode cX5_actOfTwo 30 = .ok (.aload_n 0, 1) := by decide +kernel
theorem dX5_actOfTwo_31 : decode cX5_actOfTwo 31 = .ok (.getfield 31, 3) := by decide +kernel
theorem dX5_actOfTwo_34 : decode cX5_actOfTwo 34 = .ok (.iload_n 2, 1) := by decide +kernel
theorem dX5_actOfTwo_35 : decode cX5_actOfTwo 35 = .ok (.iload_n 3, 1) := by decide +kernel
theorem dX5_actOfTwo_36 : decode cX5_actOfTwo 36 = .ok (.invokevirtual 134, 3) := by decide +kernel
theorem dX5_actOfTwo_39 : decode cX5_actOfTwo 39 = .ok (.ireturn, 1) := by decide +kernel
set_option maxRecDepth 20000 in
theorem ggX5_act_X4_canBeDone : GoodIn wsX5_act wsX4_canBeDone := goodIn_r _ [7, 8, 9, 10, 6, 11, 12, 13, 14, 15, 16, 17, 18, 19, 20, 21, 22, 23, 24, 25, 26, 27, 28, 29, 30, 31, 96, 97, 98, 99, 100, 101, 102, 103] (by decide +kernel) (by decide +kernel)
set_option maxRecDepth 20000 in
theorem gX5_act_X4_canBeDone : GoodIn wsX5_act (wsV RX5 197 RX4 yX4_canBeDone wsX4_canBeDone) := goodIn_app (goodIn_of _ (by decide +kernel)) ggX5_act_X4_canBeDone
set_option maxRecDepth 20000 in
theorem ggX5_act_X0_size : GoodIn wsX5_act wsX0_size := goodIn_r _ [36, 37, 104, 105, 106, 107] (by decide +kernel) (by decide +kernel)
set_option maxRecDepth 20000 in
theorem gX5_act_X0_size : GoodIn wsX5_act (wsV RX5 159 RX0 yX0_size wsX0_size) := goodIn_app (goodIn_of _ (by decide +kernel)) ggX5_act_X0_size
set_option maxRecDepth 20000 in
theorem ggX5_act_X0_add : GoodIn wsX5_act wsX0_add := goodIn_r _ [41, 37, 42, 43, 44, 104, 105, 106, 107] (by decide +kernel) (by decide +kernel)
set_option maxRecDepth 20000 in
theorem gX5_act_X0_add : GoodIn wsX5_act (wsV RX5 256 RX0 yX0_add wsX0_add) := goodIn_app (goodIn_of _ (by decide +kernel)) ggX5_act_X0_add
set_option maxRecDepth 20000 in
theorem ggX5_act_X4_perform : GoodIn wsX5_act wsX4_perform := goodIn_r _ [48, 49, 50, 51, 6, 52, 53, 54, 55, 56, 13, 14, 15, 16, 17, 57, 58, 59, 60, 27, 61, 62, 63, 64, 26, 65, 66, 67, 68, 69, 70, 71, 72, 73, 12, 74, 75, 76, 77, 78, 79, 80, 81, 82, 8, 9, 10, 11, 96, 97, 98, 99, 100, 101, 102, 103] (by decide +kernel) (by decide +kernel)
set_option maxRecDepth 20000 in
theorem gX5_act_X4_perform : GoodIn wsX5_act (wsV RX5 259 RX4 yX4_perform wsX4_perform) := goodIn_app (goodIn_of _ (by decide +kernel)) ggX5_act_X4_perform
theorem dX5_act_0 : decode cX5_act 0 = .ok (.aload_n 0, 1) := by decide +kernel
theorem dX5_act_1 : decode cX5_act 1 = .ok (.getfield 31, 3) := by decide +kernel
theorem dX5_act_4 : decode cX5_act 4 = .ok (.iload_n 1, 1) := by decide +kernel
theorem dX5_act_5 : decode cX5_act 5 = .ok (.iload_n 2, 1) := by decide +kernel
theorem dX5_act_6 : decode cX5_act 6 = .ok (.iload_n 3, 1) := by decide +kernel
theorem dX5_act_7 : decode cX5_act 7 = .ok (.invokevirtual 197, 3) := by decide +kernel
theorem dX5_act_10 : decode cX5_act 10 = .ok (.ifCond .ne 6, 3) := by decide +kernel
theorem dX5_act_13 : decode cX5_act 13 = .ok (.bipush (-2), 2) := by decide +kernel
theorem dX5_act_15 : decode cX5_act 15 = .ok (.ireturn, 1) := by decide +kernel
theorem dX5_act_16 : decode cX5_act 16 = .ok (.aload_n 0, 1) := by decide +kernel
theorem dX5_act_17 : decode cX5_act 17 = .ok (.getfield 43, 3) := by decide +kernel
theorem dX5_act_20 : decode cX5_act 20 = .ok (.invokevirtual 159, 3) := by decide +kernel
theorem dX5_act_23 : decode cX5_act 23 = .ok (.bipush 40, 2) := by decide +kernel
theorem dX5_act_25 : decode cX5_act 25 = .ok (.if_icmp .lt 6, 3) := by decide +kernel
theorem dX5_act_28 : decode cX5_act 28 = .ok (.bipush (-3), 2) := by decide +kernel
theorem dX5_act_30 : decode cX5_act 30 = .ok (.ireturn, 1) := by decide +kernel
theorem dX5_act_31 : decode cX5_act 31 = .ok (.aload_n 0, 1) := by decide +kernel
theorem dX5_act_32 : decode cX5_act 32 = .ok (.getfield 43, 3) := by decide +kernel
theorem dX5_act_35 : decode cX5_act 35 = .ok (.iload_n 1, 1) := by decide +kernel
theorem dX5_act_36 : decode cX5_act 36 = .ok (.iload_n 2, 1) := by decide +kernel
theorem dX5_act_37 : decode cX5_act 37 = .ok (.iload_n 3, 1) := by decide +kernel
theorem dX5_act_38 : decode cX5_act 38 = .ok (.invokevirtual 256, 3) := by decide +kernel
theorem dX5_act_41 : decode cX5_act 41 = .ok (.aload_n 0, 1) := by decide +kernel
theorem dX5_act_42 : decode cX5_act 42 = .ok (.getfield 31, 3) := by decide +kernel
theorem dX5_act_45 : decode cX5_act 45 = .ok (.iload_n 1, 1) := by decide +kernel
theorem dX5_act_46 : decode cX5_act 46 = .ok (.iload_n 2, 1) := by decide +kernel
theorem dX5_act_47 : decode cX5_act 47 = .ok (.iload_n 3, 1) := by decide +kernel
theorem dX5_act_48 : decode cX5_act 48 = .ok (.invokevirtual 259, 3) := by decide +kernel
theorem dX5_act_51 : decode cX5_act 51 = .ok (.iconst 0, 1) := by decide +kernel
theorem dX5_act_52 : decode cX5_act 52 = .ok (.ireturn, 1) := by decide +kernel
set_option maxRecDepth 20000 in
theorem ggX5_doAgain_X4_copyFrom : GoodIn wsX5_doAgain wsX4_copyFrom := goodIn_r _ [7, 8, 9, 10, 11, 12, 13, 14, 15, 16, 17, 18, 19, 114, 115, 116, 117, 118, 119, 120, 121] (by decide +kernel) (by decide +kernel)
set_option maxRecDepth 20000 in
theorem gX5_doAgain_X4_copyFrom : GoodIn wsX5_doAgain (wsV RX5 91 RX4 yX4_copyFrom wsX4_copyFrom) := goodIn_app (goodIn_of _ (by decide +kernel)) ggX5_doAgain_X4_copyFrom
set_option maxRecDepth 20000 in
theorem ggX5_doAgain_X0_size : GoodIn wsX5_doAgain wsX0_size := goodIn_r _ [24, 25, 122, 123, 124, 125] (by decide +kernel) (by decide +kernel)
set_option maxRecDepth 20000 in
theorem gX5_doAgain_X0_size : GoodIn wsX5_doAgain (wsV RX5 159 RX0 yX0_size wsX0_size) := goodIn_app (goodIn_of _ (by decide +kernel)) ggX5_doAgain_X0_size
set_option maxRecDepth 20000 in
theorem ggX5_doAgain_X0_kindAt : GoodIn wsX5_doAgain wsX0_kindAt := goodIn_r _ [29, 30, 122, 123, 124, 125] (by decide +kernel) (by decide +kernel)
set_option maxRecDepth 20000 in
theorem gX5_doAgain_X0_kindAt : GoodIn wsX5_doAgain (wsV RX5 262 RX0 yX0_kindAt wsX0_kindAt) := goodIn_app (goodIn_of _ (by decide +kernel)) ggX5_doAgain_X0_kindAt
set_option maxRecDepth 20000 in
theorem ggX5_doAgain_X0_firstAt : GoodIn wsX5_doAgain wsX0_firstAt := goodIn_r _ [34, 35, 122, 123, 124, 125] (by decide +kernel) (by decide +kernel)
set_option maxRecDepth 20000 in
theorem gX5_doAgain_X0_firstAt : GoodIn wsX5_doAgain (wsV RX5 265 RX0 yX0_firstAt wsX0_firstAt) := goodIn_app (goodIn_of _ (by decide +kernel)) ggX5_doAgain_X0_firstAt
set_option maxRecDepth 20000 in
theorem ggX5_doAgain_X0_secondAt : GoodIn wsX5_doAgain wsX0_secondAt := goodIn_r _ [39, 40, 122, 123, 124, 125] (by decide +kernel) (by decide +kernel)
set_option maxRecDepth 20000 in
theorem gX5_doAgain_X0_secondAt : GoodIn wsX5_doAgain (wsV RX5 268 RX0 yX0_secondAt wsX0_secondAt) := goodIn_app (goodIn_of _ (by decide +kernel)) ggX5_doAgain_X0_secondAt
set_option maxRecDepth 20000 in
theorem ggX5_doAgain_X4_canBeDone : GoodIn wsX5_doAgain wsX4_canBeDone := goodIn_r _ [44, 45, 46, 47, 6, 48, 11, 49, 50, 51, 52, 18, 53, 54, 55, 56, 57, 58, 59, 60, 12, 19, 61, 62, 63, 64, 114, 115, 116, 117, 118, 119, 120, 121] (by decide +kernel) (by decide +kernel)
set_option maxRecDepth 20000 in
theorem gX5_doAgain_X4_canBeDone : GoodIn wsX5_doAgain (wsV RX5 197 RX4 yX4_canBeDone wsX4_canBeDone) := goodIn_app (goodIn_of _ (by decide +kernel)) ggX5_doAgain_X4_canBeDone
set_option maxRecDepth 20000 in
theorem ggX5_doAgain_X4_perform : GoodIn wsX5_doAgain wsX4_perform := goodIn_r _ [68, 69, 70, 71, 6, 72, 73, 74, 75, 76, 49, 50, 51, 52, 18, 77, 78, 79, 80, 19, 81, 82, 83, 84, 12, 85, 86, 87, 88, 9, 89, 90, 91, 92, 11, 8, 93, 94, 95, 96, 97, 98, 99, 100, 45, 46, 47, 48, 114, 115, 116, 117, 118, 119, 120, 121] (by decide +kernel) (by decide +kernel)
set_option maxRecDepth 20000 in
theorem gX5_doAgain_X4_perform : GoodIn wsX5_doAgain (wsV RX5 259 RX4 yX4_perform wsX4_perform) := goodIn_app (goodIn_of _ (by decide +kernel)) ggX5_doAgain_X4_perform
theorem dX5_doAgain_0 : decode cX5_doAgain 0 = .ok (.aload_n 1, 1) := by decide +kernel
theorem dX5_doAgain_1 : decode cX5_doAgain 1 = .ok (.aload_n 0, 1) := by decide +kernel
theorem dX5_doAgain_2 : decode cX5_doAgain 2 = .ok (.getfield 27, 3) := by decide +kernel
theorem dX5_doAgain_5 : decode cX5_doAgain 5 = .ok (.invokevirtual 91, 3) := by decide +kernel
theorem dX5_doAgain_8 : decode cX5_doAgain 8 = .ok (.iconst 0, 1) := by decide +kernel
theorem dX5_doAgain_9 : decode cX5_doAgain 9 = .ok (.istore_n 3, 1) := by decide +kernel
theorem dX5_doAgain_10 : decode cX5_doAgain 10 = .ok (.iload_n 3, 1) := by decide +kernel
theorem dX5_doAgain_11 : decode cX5_doAgain 11 = .ok (.aload_n 0, 1) := by decide +kernel
theorem dX5_doAgain_12 : decode cX5_doAgain 12 = .ok (.getfield 43, 3) := by decide +kernel
theorem dX5_doAgain_15 : decode cX5_doAgain 15 = .ok (.invokevirtual 159, 3) := by decide +kernel
theorem dX5_doAgain_18 : decode cX5_doAgain 18 = .ok (.if_icmp .ge 67, 3) := by decide +kernel
theorem dX5_doAgain_21 : decode cX5_doAgain 21 = .ok (.aload_n 0, 1) := by decide +kernel
theorem dX5_doAgain_22 : decode cX5_doAgain 22 = .ok (.getfield 43, 3) := by decide +kernel
theorem dX5_doAgain_25 : decode cX5_doAgain 25 = .ok (.iload_n 3, 1) := by decide +kernel
theorem dX5_doAgain_26 : decode cX5_doAgain 26 = .ok (.invokevirtual 262, 3) := by decide +kernel
theorem dX5_doAgain_29 : decode cX5_doAgain 29 = .ok (.istore 4, 2) := by decide +kernel
theorem dX5_doAgain_31 : decode cX5_doAgain 31 = .ok (.aload_n 0, 1) := by decide +kernel
theorem dX5_doAgain_32 : decode cX5_doAgain 32 = .ok (.getfield 43, 3) := by decide +kernel
theorem dX5_doAgain_35 : decode cX5_doAgain 35 = .ok (.iload_n 3, 1) := by decide +kernel
theorem dX5_doAgain_36 : decode cX5_doAgain 36 = .ok (.invokevirtual 265, 3) := by decide +kernel
theorem dX5_doAgain_39 : decode cX5_doAgain 39 = .ok (.istore 5, 2) := by decide +kernel
theorem dX5_doAgain_41 : decode cX5_doAgain 41 = .ok (.aload_n 0, 1) := by decide +kernel
theorem dX5_doAgain_42 : decode cX5_doAgain 42 = .ok (.getfield 43, 3) := by decide +kernel
theorem dX5_doAgain_45 : decode cX5_doAgain 45 = .ok (.iload_n 3, 1) := by decide +kernel
theorem dX5_doAgain_46 : decode cX5_doAgain 46 = .ok (.invokevirtual 268, 3) := by decide +kernel
theorem dX5_doAgain_49 : decode cX5_doAgain 49 = .ok (.istore 6, 2) := by decide +kernel
theorem dX5_doAgain_51 : decode cX5_doAgain 51 = .ok (.iload_n 3, 1) := by decide +kernel
theorem dX5_doAgain_52 : decode cX5_doAgain 52 = .ok (.iload_n 2, 1) := by decide +kernel
theorem dX5_doAgain_53 : decode cX5_doAgain 53 = .ok (.if_icmp .eq 26, 3) := by decide +kernel
theorem dX5_doAgain_56 : decode cX5_doAgain 56 = .ok (.aload_n 1, 1) := by decide +kernel
theorem dX5_doAgain_57 : decode cX5_doAgain 57 = .ok (.iload 4, 2) := by decide +kernel
theorem dX5_doAgain_59 : decode cX5_doAgain 59 = .ok (.iload 5, 2) := by decide +kernel
theorem dX5_doAgain_61 : decode cX5_doAgain 61 = .ok (.iload 6, 2) := by decide +kernel
theorem dX5_doAgain_63 : decode cX5_doAgain 63 = .ok (.invokevirtual 197, 3) := by decide +kernel
theorem dX5_doAgain_66 : decode cX5_doAgain 66 = .ok (.ifCond .eq 13, 3) := by decide +kernel
theorem dX5_doAgain_69 : decode cX5_doAgain 69 = .ok (.aload_n 1, 1) := by decide +kernel
theorem dX5_doAgain_70 : decode cX5_doAgain 70 = .ok (.iload 4, 2) := by decide +kernel
theorem dX5_doAgain_72 : decode cX5_doAgain 72 = .ok (.iload 5, 2) := by decide +kernel
theorem dX5_doAgain_74 : decode cX5_doAgain 74 = .ok (.iload 6, 2) := by decide +kernel
theorem dX5_doAgain_76 : decode cX5_doAgain 76 = .ok (.invokevirtual 259, 3) := by decide +kernel
theorem dX5_doAgain_79 : decode cX5_doAgain 79 = .ok (.iinc 3 1, 3) := by decide +kernel
theorem dX5_doAgain_82 : decode cX5_doAgain 82 = .ok (.goto (-72), 3) := by decide +kernel
theorem dX5_doAgain_85 : decode cX5_doAgain 85 = .ok (.return_, 1) := by decide +kernel
theorem dX5_latestKept_0 : decode cX5_latestKept 0 = .ok (.aload_n 0, 1) := by decide +kernel
theorem dX5_latestKept_1 : decode cX5_latestKept 1 = .ok (.getfield 99, 3) := by decide +kernel
theorem dX5_latestKept_4 : decode cX5_latestKept 4 = .ok (.iconst 1, 1) := by decide +kernel
theorem dX5_latestKept_5 : decode cX5_latestKept 5 = .ok (.if_icmp .ne 10, 3) := by decide +kernel
theorem dX5_latestKept_8 : decode cX5_latestKept 8 = .ok (.aload_n 0, 1) := by decide +kernel
theorem dX5_latestKept_9 : decode cX5_latestKept 9 = .ok (.getfield 47, 3) := by decide +kernel
theorem dX5_latestKept_12 : decode cX5_latestKept 12 = .ok (.goto 7, 3) := by decide +kernel
theorem dX5_latestKept_15 : decode cX5_latestKept 15 = .ok (.aload_n 0, 1) := by decide +kernel
theorem dX5_latestKept_16 : decode cX5_latestKept 16 = .ok (.getfield 50, 3) := by decide +kernel
theorem dX5_latestKept_19 : decode cX5_latestKept 19 = .ok (.areturn, 1) := by decide +kernel
theorem dX5_forgetSilence_0 : decode cX5_forgetSilence 0 = .ok (.aload_n 0, 1) := by decide +kernel
theorem dX5_forgetSilence_1 : decode cX5_forgetSilence 1 = .ok (.iconst 0, 1) := by decide +kernel
theorem dX5_forgetSilence_2 : decode cX5_forgetSilence 2 = .ok (.putfield 234, 3) := by decide +kernel
theorem dX5_forgetSilence_5 : decode cX5_forgetSilence 5 = .ok (.aload_n 0, 1) := by decide +kernel
theorem dX5_forgetSilence_6 : decode cX5_forgetSilence 6 = .ok (.iconst 0, 1) := by decide +kernel
theorem dX5_forgetSilence_7 : decode cX5_forgetSilence 7 = .ok (.putfield 237, 3) := by decide +kernel
theorem dX5_forgetSilence_10 : decode cX5_forgetSilence 10 = .ok (.return_, 1) := by decide +kernel
set_option maxRecDepth 20000 in
theorem ggX5_listDebts_X4_persons : GoodIn wsX5_listDebts wsX4_persons := goodIn_r _ [7, 8, 31, 32, 33, 34, 35, 36, 37, 38] (by decide +kernel) (by decide +kernel)
set_option maxRecDepth 20000 in
theorem gX5_listDebts_X4_persons : GoodIn wsX5_listDebts (wsV RX5 88 RX4 yX4_persons wsX4_persons) := goodIn_app (goodIn_of _ (by decide +kernel)) ggX5_listDebts_X4_persons
set_option maxRecDepth 20000 in
theorem ggX5_listDebts_X4_debt : GoodIn wsX5_listDebts wsX4_debt := goodIn_r _ [12, 13, 31, 32, 33, 34, 35, 36, 37, 38] (by decide +kernel) (by decide +kernel)
set_option maxRecDepth 20000 in
theorem gX5_listDebts_X4_debt : GoodIn wsX5_listDebts (wsV RX5 134 RX4 yX4_debt wsX4_debt) := goodIn_app (goodIn_of _ (by decide +kernel)) ggX5_listDebts_X4_debt
set_option maxRecDepth 20000 in
theorem ggX5_listDebts_X5_twoAsNumber : GoodIn wsX5_listDebts wsX5_twoAsNumber := goodIn_r _ [17] (by decide +kernel) (by decide +kernel)
set_option maxRecDepth 20000 in
theorem gX5_listDebts_X5_twoAsNumber : GoodIn wsX5_listDebts (va_wsS RX5 243 yX5_twoAsNumber wsX5_twoAsNumber) := goodIn_app (goodIn_of _ (by decide +kernel)) ggX5_listDebts_X5_twoAsNumber
theorem dX5_listDebts_0 : decode cX5_listDebts 0 = .ok (.iconst 0, 1) := by decide +kernel
theorem dX5_listDebts_1 : decode cX5_listDebts 1 = .ok (.istore_n 1, 1) := by decide +kernel
theorem dX5_listDebts_2 : decode cX5_listDebts 2 = .ok (.iconst 0, 1) := by decide +kernel
theorem dX5_listDebts_3 : decode cX5_listDebts 3 = .ok (.istore_n 2, 1) := by decide +kernel
theorem dX5_listDebts_4 : decode cX5_listDebts 4 = .ok (.iload_n 2, 1) := by decide +kernel
theorem dX5_listDebts_5 : decode cX5_listDebts 5 = .ok (.aload_n 0, 1) := by decide +kernel
theorem dX5_listDebts_6 : decode cX5_listDebts 6 = .ok (.getfield 31, 3) := by decide +kernel
theorem dX5_listDebts_9 : decode cX5_listDebts 9 = .ok (.invokevirtual 88, 3) := by decide +kernel
theorem dX5_listDebts_12 : decode cX5_listDebts 12 = .ok (.if_icmp .ge 54, 3) := by decide +kernel
theorem dX5_listDebts_15 : decode cX5_listDebts 15 = .ok (.iconst 0, 1) := by decide +kernel
theorem dX5_listDebts_16 : decode cX5_listDebts 16 = .ok (.istore_n 3, 1) := by decide +kernel
theorem dX5_listDebts_17 : decode cX5_listDebts 17 = .ok (.iload_n 3, 1) := by decide +kernel
theorem dX5_listDebts_18 : decode cX5_listDebts 18 = .ok (.aload_n 0, 1) := by decide +kernel
theorem dX5_listDebts_19 : decode cX5_listDebts 19 = .ok (.getfield 31, 3) := by decide +kernel
theorem dX5_listDebts_22 : decode cX5_listDebts 22 = .ok (.invokevirtual 88, 3) := by decide +kernel
theorem dX5_listDebts_25 : decode cX5_listDebts 25 = .ok (.if_icmp .ge 35, 3) := by decide +kernel
theorem dX5_listDebts_28 : decode cX5_listDebts 28 = .ok (.aload_n 0, 1) := by decide +kernel
theorem dX5_listDebts_29 : decode cX5_listDebts 29 = .ok (.getfield 31, 3) := by decide +kernel
theorem dX5_listDebts_32 : decode cX5_listDebts 32 = .ok (.iload_n 2, 1) := by decide +kernel
theorem dX5_listDebts_33 : decode cX5_listDebts 33 = .ok (.iload_n 3, 1) := by decide +kernel
theorem dX5_listDebts_34 : decode cX5_listDebts 34 = .ok (.invokevirtual 134, 3) := by decide +kernel
theorem dX5_listDebts_37 : decode cX5_listDebts 37 = .ok (.ifCond .le 17, 3) := by decide +kernel
theorem dX5_listDebts_40 : decode cX5_listDebts 40 = .ok (.aload_n 0, 1) := by decide +kernel
theorem dX5_listDebts_41 : decode cX5_listDebts 41 = .ok (.getfield 60, 3) := by decide +kernel
theorem dX5_listDebts_44 : decode cX5_listDebts 44 = .ok (.iload_n 1, 1) := by decide +kernel
theorem dX5_listDebts_45 : decode cX5_listDebts 45 = .ok (.iload_n 2, 1) := by decide +kernel
theorem dX5_listDebts_46 : decode cX5_listDebts 46 = .ok (.iload_n 3, 1) := by decide +kernel
theorem dX5_listDebts_47 : decode cX5_listDebts 47 = .ok (.invokestatic 243, 3) := by decide +kernel
theorem dX5_listDebts_50 : decode cX5_listDebts 50 = .ok (.iastore, 1) := by decide +kernel
theorem dX5_listDebts_51 : decode cX5_listDebts 51 = .ok (.iinc 1 1, 3) := by decide +kernel
theorem dX5_listDebts_54 : decode cX5_listDebts 54 = .ok (.iinc 3 1, 3) := by decide +kernel
theorem dX5_listDebts_57 : decode cX5_listDebts 57 = .ok (.goto (-40), 3) := by decide +kernel
theorem dX5_listDebts_60 : decode cX5_listDebts 60 = .ok (.iinc 2 1, 3) := by decide +kernel
theorem dX5_listDebts_63 : decode cX5_listDebts 63 = .ok (.goto (-59), 3) := by decide +kernel
theorem dX5_listDebts_66 : decode cX5_listDebts 66 = .ok (.iload_n 1, 1) := by decide +kernel
theorem dX5_listDebts_67 : decode cX5_listDebts 67 = .ok (.ireturn, 1) := by decide +kernel
set_option maxRecDepth 20000 in
theorem ggX5_owedWithout_X4_copyFrom : GoodIn wsX5_owedWithout wsX4_copyFrom := goodIn_r _ [7, 8, 9, 10, 11, 12, 13, 14, 15, 16, 17, 18, 19, 84, 85, 86, 87, 88, 89, 90, 91] (by decide +kernel) (by decide +kernel)
set_option maxRecDepth 20000 in
theorem gX5_owedWithout_X4_copyFrom : GoodIn wsX5_owedWithout (wsV RX5 91 RX4 yX4_copyFrom wsX4_copyFrom) := goodIn_app (goodIn_of _ (by decide +kernel)) ggX5_owedWithout_X4_copyFrom
set_option maxRecDepth 20000 in
theorem ggX5_owedWithout_X5_forgiveInTrial : GoodIn wsX5_owedWithout wsX5_forgiveInTrial := goodIn_r _ [24, 25, 1, 26, 27, 28, 6, 29, 19, 18, 71, 72, 73, 74, 75, 76, 77, 78, 79, 80, 81, 82, 83, 84, 85, 86, 87, 88, 89, 90, 91] (by decide +kernel) (by decide +kernel)
set_option maxRecDepth 20000 in
theorem gX5_owedWithout_X5_forgiveInTrial : GoodIn wsX5_owedWithout (wsV RX5 271 RX5 yX5_forgiveInTrial wsX5_forgiveInTrial) := goodIn_app (goodIn_of _ (by decide +kernel)) ggX5_owedWithout_X5_forgiveInTrial
set_option maxRecDepth 20000 in
theorem ggX5_owedWithout_X4_makePeace : GoodIn wsX5_owedWithout wsX4_makePeace := goodIn_r _ [33, 34, 35, 36, 6, 37, 8, 19, 12, 38, 39, 40, 41, 42, 43, 44, 45, 18, 46, 47, 48, 49, 50, 51, 52, 53, 9, 54, 27, 28, 29, 55, 56, 57, 58, 59, 60, 61, 62, 63, 64, 65, 66, 84, 85, 86, 87, 88, 89, 90, 91] (by decide +kernel) (by decide +kernel)
set_option maxRecDepth 20000 in
theorem gX5_owedWithout_X4_makePeace : GoodIn wsX5_owedWithout (wsV RX5 169 RX4 yX4_makePeace wsX4_makePeace) := goodIn_app (goodIn_of _ (by decide +kernel)) ggX5_owedWithout_X4_makePeace
set_option maxRecDepth 20000 in
theorem ggX5_owedWithout_X4_allOwed : GoodIn wsX5_owedWithout wsX4_allOwed := goodIn_r _ [70, 8, 19, 84, 85, 86, 87, 88, 89, 90, 91] (by decide +kernel) (by decide +kernel)
set_option maxRecDepth 20000 in
theorem gX5_owedWithout_X4_allOwed : GoodIn wsX5_owedWithout (wsV RX5 172 RX4 yX4_allOwed wsX4_allOwed) := goodIn_app (goodIn_of _ (by decide +kernel)) ggX5_owedWithout_X4_allOwed
theorem dX5_owedWithout_0 : decode cX5_owedWithout 0 = .ok (.aload_n 0, 1) := by decide +kernel
theorem dX5_owedWithout_1 : decode cX5_owedWithout 1 = .ok (.getfield 37, 3) := by decide +kernel
theorem dX5_owedWithout_4 : decode cX5_owedWithout 4 = .ok (.aload_n 0, 1) := by decide +kernel
theorem dX5_owedWithout_5 : decode cX5_owedWithout 5 = .ok (.getfield 31, 3) := by decide +kernel
theorem dX5_owedWithout_8 : decode cX5_owedWithout 8 = .ok (.invokevirtual 91, 3) := by decide +kernel
theorem dX5_owedWithout_11 : decode cX5_owedWithout 11 = .ok (.aload_n 0, 1) := by decide +kernel
theorem dX5_owedWithout_12 : decode cX5_owedWithout 12 = .ok (.iload_n 1, 1) := by decide +kernel
theorem dX5_owedWithout_13 : decode cX5_owedWithout 13 = .ok (.invokevirtual 271, 3) := by decide +kernel
theorem dX5_owedWithout_16 : decode cX5_owedWithout 16 = .ok (.aload_n 0, 1) := by decide +kernel
theorem dX5_owedWithout_17 : decode cX5_owedWithout 17 = .ok (.iload_n 2, 1) := by decide +kernel
theorem dX5_owedWithout_18 : decode cX5_owedWithout 18 = .ok (.invokevirtual 271, 3) := by decide +kernel
theorem dX5_owedWithout_21 : decode cX5_owedWithout 21 = .ok (.aload_n 0, 1) := by decide +kernel
theorem dX5_owedWithout_22 : decode cX5_owedWithout 22 = .ok (.getfield 37, 3) := by decide +kernel
theorem dX5_owedWithout_25 : decode cX5_owedWithout 25 = .ok (.invokevirtual 169, 3) := by decide +kernel
theorem dX5_owedWithout_28 : decode cX5_owedWithout 28 = .ok (.pop, 1) := by decide +kernel
theorem dX5_owedWithout_29 : decode cX5_owedWithout 29 = .ok (.aload_n 0, 1) := by decide +kernel
theorem dX5_owedWithout_30 : decode cX5_owedWithout 30 = .ok (.getfield 37, 3) := by decide +kernel
theorem dX5_owedWithout_33 : decode cX5_owedWithout 33 = .ok (.invokevirtual 172, 3) := by decide +kernel
theorem dX5_owedWithout_36 : decode cX5_owedWithout 36 = .ok (.ireturn, 1) := by decide +kernel
set_option maxRecDepth 20000 in
theorem ggX5_forgiveInTrial_X4_setDebt : GoodIn wsX5_forgiveInTrial wsX4_setDebt := goodIn_r _ [7, 8, 9, 23, 24, 25, 26, 27, 28, 29, 30] (by decide +kernel) (by decide +kernel)
set_option maxRecDepth 20000 in
theorem gX5_forgiveInTrial_X4_setDebt : GoodIn wsX5_forgiveInTrial (wsV RX5 274 RX4 yX4_setDebt wsX4_setDebt) := goodIn_app (goodIn_of _ (by decide +kernel)) ggX5_forgiveInTrial_X4_setDebt
theorem dX5_forgiveInTrial_0 : decode cX5_forgiveInTrial 0 = .ok (.iload_n 1, 1) := by decide +kernel
theorem dX5_forgiveInTrial_1 : decode cX5_forgiveInTrial 1 = .ok (.iconst (-1), 1) := by decide +kernel
theorem dX5_forgiveInTrial_2 : decode cX5_forgiveInTrial 2 = .ok (.if_icmp .eq 26, 3) := by decide +kernel
theorem dX5_forgiveInTrial_5 : decode cX5_forgiveInTrial 5 = .ok (.aload_n 0, 1) := by decide +kernel
theorem dX5_forgiveInTrial_6 : decode cX5_forgiveInTrial 6 = .ok (.getfield 60, 3) := by decide +kernel
theorem dX5_forgiveInTrial_9 : decode cX5_forgiveInTrial 9 = .ok (.iload_n 1, 1) := by decide +kernel
theorem dX5_forgiveInTrial_10 : decode cX5_forgiveInTrial 10 = .ok (.iaload, 1) := by decide +kernel
theorem dX5_forgiveInTrial_11 : decode cX5_forgiveInTrial 11 = .ok (.istore_n 2, 1) := by decide +kernel
theorem dX5_forgiveInTrial_12 : decode cX5_forgiveInTrial 12 = .ok (.aload_n 0, 1) := by decide +kernel
theorem dX5_forgiveInTrial_13 : decode cX5_forgiveInTrial 13 = .ok (.getfield 37, 3) := by decide +kernel
theorem dX5_forgiveInTrial_16 : decode cX5_forgiveInTrial 16 = .ok (.iload_n 2, 1) := by decide +kernel
theorem dX5_forgiveInTrial_17 : decode cX5_forgiveInTrial 17 = .ok (.bipush 8, 2) := by decide +kernel
theorem dX5_forgiveInTrial_19 : decode cX5_forgiveInTrial 19 = .ok (.idiv, 1) := by decide +kernel
theorem dX5_forgiveInTrial_20 : decode cX5_forgiveInTrial 20 = .ok (.iload_n 2, 1) := by decide +kernel
theorem dX5_forgiveInTrial_21 : decode cX5_forgiveInTrial 21 = .ok (.bipush 8, 2) := by decide +kernel
theorem dX5_forgiveInTrial_23 : decode cX5_forgiveInTrial 23 = .ok (.irem, 1) := by decide +kernel
theorem dX5_forgiveInTrial_24 : decode cX5_forgiveInTrial 24 = .ok (.iconst 0, 1) := by decide +kernel
theorem dX5_forgiveInTrial_25 : decode cX5_forgiveInTrial 25 = .ok (.invokevirtual 274, 3) := by decide +kernel
theorem dX5_forgiveInTrial_28 : decode cX5_forgiveInTrial 28 = .ok (.return_, 1) := by decide +kernel
set_option maxRecDepth 20000 in
theorem ggX5_owedBehindWrong_X4_copyFrom : GoodIn wsX5_owedBehindWrong wsX4_copyFrom := goodIn_r _ [7, 8, 9, 10, 11, 12, 13, 14, 15, 16, 17, 18, 19, 105, 106, 107, 108, 109, 110, 111, 112] (by decide +kernel) (by decide +kernel)
set_option maxRecDepth 20000 in
theorem gX5_owedBehindWrong_X4_copyFrom : GoodIn wsX5_owedBehindWrong (wsV RX5 91 RX4 yX4_copyFrom wsX4_copyFrom) := goodIn_app (goodIn_of _ (by decide +kernel)) ggX5_owedBehindWrong_X4_copyFrom
set_option maxRecDepth 20000 in
theorem ggX5_owedBehindWrong_X4_perform : GoodIn wsX5_owedBehindWrong wsX4_perform := goodIn_r _ [23, 24, 25, 26, 6, 27, 28, 29, 30, 31, 32, 33, 34, 35, 18, 36, 37, 38, 39, 19, 40, 41, 42, 43, 12, 44, 45, 46, 47, 9, 48, 49, 50, 51, 11, 8, 52, 53, 54, 55, 56, 57, 58, 59, 60, 61, 62, 63, 105, 106, 107, 108, 109, 110, 111, 112] (by decide +kernel) (by decide +kernel)
set_option maxRecDepth 20000 in
theorem gX5_owedBehindWrong_X4_perform : GoodIn wsX5_owedBehindWrong (wsV RX5 259 RX4 yX4_perform wsX4_perform) := goodIn_app (goodIn_of _ (by decide +kernel)) ggX5_owedBehindWrong_X4_perform
set_option maxRecDepth 20000 in
theorem ggX5_owedBehindWrong_X4_makePeace : GoodIn wsX5_owedBehindWrong wsX4_makePeace := goodIn_r _ [67, 68, 69, 70, 6, 71, 8, 19, 12, 72, 73, 74, 75, 32, 33, 34, 35, 18, 76, 77, 78, 79, 44, 45, 46, 47, 9, 36, 37, 38, 39, 80, 81, 82, 83, 84, 85, 86, 87, 40, 41, 42, 43, 105, 106, 107, 108, 109, 110, 111, 112] (by decide +kernel) (by decide +kernel)
set_option maxRecDepth 20000 in
theorem gX5_owedBehindWrong_X4_makePeace : GoodIn wsX5_owedBehindWrong (wsV RX5 169 RX4 yX4_makePeace wsX4_makePeace) := goodIn_app (goodIn_of _ (by decide +kernel)) ggX5_owedBehindWrong_X4_makePeace
set_option maxRecDepth 20000 in
theorem ggX5_owedBehindWrong_X4_allOwed : GoodIn wsX5_owedBehindWrong wsX4_allOwed := goodIn_r _ [91, 8, 19, 105, 106, 107, 108, 109, 110, 111, 112] (by decide +kernel) (by decide +kernel)
set_option maxRecDepth 20000 in
theorem gX5_owedBehindWrong_X4_allOwed : GoodIn wsX5_owedBehindWrong (wsV RX5 172 RX4 yX4_allOwed wsX4_allOwed) := goodIn_app (goodIn_of _ (by decide +kernel)) ggX5_owedBehindWrong_X4_allOwed
theorem dX5_owedBehindWrong_0 : decode cX5_owedBehindWrong 0 = .ok (.aload_n 0, 1) := by decide +kernel
theorem dX5_owedBehindWrong_1 : decode cX5_owedBehindWrong 1 = .ok (.getfield 37, 3) := by decide +kernel
theorem dX5_owedBehindWrong_4 : decode cX5_owedBehindWrong 4 = .ok (.aload_n 0, 1) := by decide +kernel
theorem dX5_owedBehindWrong_5 : decode cX5_owedBehindWrong 5 = .ok (.getfield 31, 3) := by decide +kernel
theorem dX5_owedBehindWrong_8 : decode cX5_owedBehindWrong 8 = .ok (.invokevirtual 91, 3) := by decide +kernel
theorem dX5_owedBehindWrong_11 : decode cX5_owedBehindWrong 11 = .ok (.aload_n 0, 1) := by decide +kernel
theorem dX5_owedBehindWrong_12 : decode cX5_owedBehindWrong 12 = .ok (.getfield 37, 3) := by decide +kernel
theorem dX5_owedBehindWrong_15 : decode cX5_owedBehindWrong 15 = .ok (.iconst 0, 1) := by decide +kernel
theorem dX5_owedBehindWrong_16 : decode cX5_owedBehindWrong 16 = .ok (.iload_n 1, 1) := by decide +kernel
theorem dX5_owedBehindWrong_17 : decode cX5_owedBehindWrong 17 = .ok (.iload_n 2, 1) := by decide +kernel
theorem dX5_owedBehindWrong_18 : decode cX5_owedBehindWrong 18 = .ok (.invokevirtual 259, 3) := by decide +kernel
theorem dX5_owedBehindWrong_21 : decode cX5_owedBehindWrong 21 = .ok (.aload_n 0, 1) := by decide +kernel
theorem dX5_owedBehindWrong_22 : decode cX5_owedBehindWrong 22 = .ok (.getfield 37, 3) := by decide +kernel
theorem dX5_owedBehindWrong_25 : decode cX5_owedBehindWrong 25 = .ok (.invokevirtual 169, 3) := by decide +kernel
theorem dX5_owedBehindWrong_28 : decode cX5_owedBehindWrong 28 = .ok (.pop, 1) := by decide +kernel
theorem dX5_owedBehindWrong_29 : decode cX5_owedBehindWrong 29 = .ok (.aload_n 0, 1) := by decide +kernel
theorem dX5_owedBehindWrong_30 : decode cX5_owedBehindWrong 30 = .ok (.getfield 37, 3) := by decide +kernel
theorem dX5_owedBehindWrong_33 : decode cX5_owedBehindWrong 33 = .ok (.invokevirtual 172, 3) := by decide +kernel
theorem dX5_owedBehindWrong_36 : decode cX5_owedBehindWrong 36 = .ok (.ireturn, 1) := by decide +kernel
set_option maxRecDepth 20000 in
theorem ggX5_lotsThatFree_X5_owedWithout : GoodIn wsX5_lotsThatFree wsX5_owedWithout := goodIn_r _ [5, 6, 7, 8, 9, 10, 11, 12, 13, 14, 15, 16, 17, 18, 19, 20, 21, 22, 23, 24, 25, 26, 27, 4, 28, 29, 30, 31, 32, 33, 34, 35, 36, 37, 38, 39, 40, 41, 42, 43, 44, 45, 46, 47, 48, 49, 50, 51, 52, 53, 54, 55, 56, 57, 58, 59, 60, 61, 62, 63, 64, 65, 66, 67, 68, 69, 70, 71, 72, 73, 74, 78, 79, 80, 81, 82, 83, 84, 85, 86, 87, 88, 89, 90, 91, 92, 93, 94, 95, 96, 97, 98] (by decide +kernel) (by decide +kernel)
set_option maxRecDepth 20000 in
theorem gX5_lotsThatFree_X5_owedWithout : GoodIn wsX5_lotsThatFree (wsV RX5 194 RX5 yX5_owedWithout wsX5_owedWithout) := goodIn_app (goodIn_of _ (by decide +kernel)) ggX5_lotsThatFree_X5_owedWithout
set_option maxRecDepth 20000 in
theorem ggX5_lotsThatFree_X5_asNumber : GoodIn wsX5_lotsThatFree wsX5_asNumber := goodIn_r _ [77] (by decide +kernel) (by decide +kernel)
set_option maxRecDepth 20000 in
theorem gX5_lotsThatFree_X5_asNumber : GoodIn wsX5_lotsThatFree (va_wsS RX5 117 yX5_asNumber wsX5_asNumber) := goodIn_app (goodIn_of _ (by decide +kernel)) ggX5_lotsThatFree_X5_asNumber
theorem dX5_lotsThatFree_0 : decode cX5_lotsThatFree 0 = .ok (.iload_n 1, 1) := by decide +kernel
theorem dX5_lotsThatFree_1 : decode cX5_lotsThatFree 1 = .ok (.ifCond .ne 21, 3) := by decide +kernel
theorem dX5_lotsThatFree_4 : decode cX5_lotsThatFree 4 = .ok (.aload_n 0, 1) := by decide +kernel
theorem dX5_lotsThatFree_5 : decode cX5_lotsThatFree 5 = .ok (.iconst (-1), 1) := by decide +kernel
theorem dX5_lotsThatFree_6 : decode cX5_lotsThatFree 6 = .ok (.iconst (-1), 1) := by decide +kernel
theorem dX5_lotsThatFree_7 : decode cX5_lotsThatFree 7 = .ok (.invokevirtual 194, 3) := by decide +kernel
theorem dX5_lotsThatFree_10 : decode cX5_lotsThatFree 10 = .ok (.ifCond .ne 7, 3) := by decide +kernel
theorem dX5_lotsThatFree_13 : decode cX5_lotsThatFree 13 = .ok (.iconst 1, 1) := by decide +kernel
theorem dX5_lotsThatFree_14 : decode cX5_lotsThatFree 14 = .ok (.goto 4, 3) := by decide +kernel
theorem dX5_lotsThatFree_17 : decode cX5_lotsThatFree 17 = .ok (.iconst 0, 1) := by decide +kernel
theorem dX5_lotsThatFree_18 : decode cX5_lotsThatFree 18 = .ok (.invokestatic 117, 3) := by decide +kernel
theorem dX5_lotsThatFree_21 : decode cX5_lotsThatFree 21 = .ok (.ireturn, 1) := by decide +kernel
theorem dX5_lotsThatFree_22 : decode cX5_lotsThatFree 22 = .ok (.iconst 0, 1) := by decide +kernel
theorem dX5_lotsThatFree_23 : decode cX5_lotsThatFree 23 = .ok (.istore_n 3, 1) := by decide +kernel
theorem dX5_lotsThatFree_24 : decode cX5_lotsThatFree 24 = .ok (.iconst 0, 1) := by decide +kernel
theorem dX5_lotsThatFree_25 : decode cX5_lotsThatFree 25 = .ok (.istore 4, 2) := by decide +kernel
theorem dX5_lotsThatFree_27 : decode cX5_lotsThatFree 27 = .ok (.iload 4, 2) := by decide +kernel
theorem dX5_lotsThatFree_29 : decode cX5_lotsThatFree 29 = .ok (.iload_n 2, 1) := by decide +kernel
theorem dX5_lotsThatFree_30 : decode cX5_lotsThatFree 30 = .ok (.if_icmp .ge 80, 3) := by decide +kernel
theorem dX5_lotsThatFree_33 : decode cX5_lotsThatFree 33 = .ok (.iload_n 1, 1) := by decide +kernel
theorem dX5_lotsThatFree_34 : decode cX5_lotsThatFree 34 = .ok (.iconst 1, 1) := by decide +kernel
theorem dX5_lotsThatFree_35 : decode cX5_lotsThatFree 35 = .ok (.if_icmp .ne 24, 3) := by decide +kernel
theorem dX5_lotsThatFree_38 : decode cX5_lotsThatFree 38 = .ok (.iload_n 3, 1) := by decide +kernel
theorem dX5_lotsThatFree_39 : decode cX5_lotsThatFree 39 = .ok (.aload_n 0, 1) := by decide +kernel
theorem dX5_lotsThatFree_40 : decode cX5_lotsThatFree 40 = .ok (.iload 4, 2) := by decide +kernel
theorem dX5_lotsThatFree_42 : decode cX5_lotsThatFree 42 = .ok (.iconst (-1), 1) := by decide +kernel
theorem dX5_lotsThatFree_43 : decode cX5_lotsThatFree 43 = .ok (.invokevirtual 194, 3) := by decide +kernel
theorem dX5_lotsThatFree_46 : decode cX5_lotsThatFree 46 = .ok (.ifCond .ne 7, 3) := by decide +kernel
theorem dX5_lotsThatFree_49 : decode cX5_lotsThatFree 49 = .ok (.iconst 1, 1) := by decide +kernel
theorem dX5_lotsThatFree_50 : decode cX5_lotsThatFree 50 = .ok (.goto 4, 3) := by decide +kernel
theorem dX5_lotsThatFree_53 : decode cX5_lotsThatFree 53 = .ok (.iconst 0, 1) := by decide +kernel
theorem dX5_lotsThatFree_54 : decode cX5_lotsThatFree 54 = .ok (.invokestatic 117, 3) := by decide +kernel
theorem dX5_lotsThatFree_57 : decode cX5_lotsThatFree 57 = .ok (.iadd, 1) := by decide +kernel
theorem dX5_lotsThatFree_58 : decode cX5_lotsThatFree 58 = .ok (.istore_n 3, 1) := by decide +kernel
theorem dX5_lotsThatFree_59 : decode cX5_lotsThatFree 59 = .ok (.iload 4, 2) := by decide +kernel
theorem dX5_lotsThatFree_61 : decode cX5_lotsThatFree 61 = .ok (.iconst 1, 1) := by decide +kernel
theorem dX5_lotsThatFree_62 : decode cX5_lotsThatFree 62 = .ok (.iadd, 1) := by decide +kernel
theorem dX5_lotsThatFree_63 : decode cX5_lotsThatFree 63 = .ok (.istore 5, 2) := by decide +kernel
theorem dX5_lotsThatFree_65 : decode cX5_lotsThatFree 65 = .ok (.iload 5, 2) := by decide +kernel
theorem dX5_lotsThatFree_67 : decode cX5_lotsThatFree 67 = .ok (.iload_n 2, 1) := by decide +kernel
theorem dX5_lotsThatFree_68 : decode cX5_lotsThatFree 68 = .ok (.if_icmp .ge 36, 3) := by decide +kernel
theorem dX5_lotsThatFree_71 : decode cX5_lotsThatFree 71 = .ok (.iload_n 1, 1) := by decide +kernel
theorem dX5_lotsThatFree_72 : decode cX5_lotsThatFree 72 = .ok (.iconst 2, 1) := by decide +kernel
theorem dX5_lotsThatFree_73 : decode cX5_lotsThatFree 73 = .ok (.if_icmp .ne 31, 3) := by decide +kernel
theorem dX5_lotsThatFree_76 : decode cX5_lotsThatFree 76 = .ok (.iload_n 3, 1) := by decide +kernel
theorem dX5_lotsThatFree_77 : decode cX5_lotsThatFree 77 = .ok (.aload_n 0, 1) := by decide +kernel
theorem dX5_lotsThatFree_78 : decode cX5_lotsThatFree 78 = .ok (.iload 4, 2) := by decide +kernel
theorem dX5_lotsThatFree_80 : decode cX5_lotsThatFree 80 = .ok (.iload 5, 2) := by decide +kernel
theorem dX5_lotsThatFree_82 : decode cX5_lotsThatFree 82 = .ok (.invokevirtual 194, 3) := by decide +kernel
theorem dX5_lotsThatFree_85 : decode cX5_lotsThatFree 85 = .ok (.ifCond .ne 7, 3) := by decide +kernel
theorem dX5_lotsThatFree_88 : decode cX5_lotsThatFree 88 = .ok (.iconst 1, 1) := by decide +kernel
theorem dX5_lotsThatFree_89 : decode cX5_lotsThatFree 89 = .ok (.goto 4, 3) := by decide +kernel
theorem dX5_lotsThatFree_92 : decode cX5_lotsThatFree 92 = .ok (.iconst 0, 1) := by decide +kernel
theorem dX5_lotsThatFree_93 : decode cX5_lotsThatFree 93 = .ok (.invokestatic 117, 3) := by decide +kernel
theorem dX5_lotsThatFree_96 : decode cX5_lotsThatFree 96 = .ok (.iadd, 1) := by decide +kernel
theorem dX5_lotsThatFree_97 : decode cX5_lotsThatFree 97 = .ok (.istore_n 3, 1) := by decide +kernel
theorem dX5_lotsThatFree_98 : decode cX5_lotsThatFree 98 = .ok (.iinc 5 1, 3) := by decide +kernel
theorem dX5_lotsThatFree_101 : decode cX5_lotsThatFree 101 = .ok (.goto (-36), 3) := by decide +kernel
theorem dX5_lotsThatFree_104 : decode cX5_lotsThatFree 104 = .ok (.iinc 4 1, 3) := by decide +kernel
theorem dX5_lotsThatFree_107 : decode cX5_lotsThatFree 107 = .ok (.goto (-80), 3) := by decide +kernel
