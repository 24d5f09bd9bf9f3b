theorem dX2_takeOutSuspects_5 : decode cX2_takeOutSuspects 5 = .ok (.if_icmp .ge 38, 3) := by decide +kernel
theorem dX2_takeOutSuspects_8 : decode cX2_takeOutSuspects 8 = .ok (.aload_n 0, 1) := by decide +kernel
theorem dX2_takeOutSuspects_9 : decode cX2_takeOutSuspects 9 = .ok (.getfield 10, 3) := by decide +kernel
theorem dX2_takeOutSuspects_12 : decode cX2_takeOutSuspects 12 = .ok (.iload_n 2, 1) := by decide +kernel
theorem dX2_takeOutSuspects_13 : decode cX2_takeOutSuspects 13 = .ok (.invokevirtual 138, 3) := by decide +kernel
theorem dX2_takeOutSuspects_16 : decode cX2_takeOutSuspects 16 = .ok (.iload_n 1, 1) := by decide +kernel
theorem dX2_takeOutSuspects_17 : decode cX2_takeOutSuspects 17 = .ok (.if_icmp .ne 20, 3) := by decide +kernel
theorem dX2_takeOutSuspects_20 : decode cX2_takeOutSuspects 20 = .ok (.aload_n 0, 1) := by decide +kernel
theorem dX2_takeOutSuspects_21 : decode cX2_takeOutSuspects 21 = .ok (.getfield 16, 3) := by decide +kernel
theorem dX2_takeOutSuspects_24 : decode cX2_takeOutSuspects 24 = .ok (.iload_n 2, 1) := by decide +kernel
theorem dX2_takeOutSuspects_25 : decode cX2_takeOutSuspects 25 = .ok (.dup2, 1) := by decide +kernel
theorem dX2_takeOutSuspects_26 : decode cX2_takeOutSuspects 26 = .ok (.iaload, 1) := by decide +kernel
theorem dX2_takeOutSuspects_27 : decode cX2_takeOutSuspects 27 = .ok (.aload_n 0, 1) := by decide +kernel
theorem dX2_takeOutSuspects_28 : decode cX2_takeOutSuspects 28 = .ok (.getfield 23, 3) := by decide +kernel
theorem dX2_takeOutSuspects_31 : decode cX2_takeOutSuspects 31 = .ok (.iload_n 2, 1) := by decide +kernel
theorem dX2_takeOutSuspects_32 : decode cX2_takeOutSuspects 32 = .ok (.iaload, 1) := by decide +kernel
theorem dX2_takeOutSuspects_33 : decode cX2_takeOutSuspects 33 = .ok (.iconst (-1), 1) := by decide +kernel
theorem dX2_takeOutSuspects_34 : decode cX2_takeOutSuspects 34 = .ok (.ixor, 1) := by decide +kernel
theorem dX2_takeOutSuspects_35 : decode cX2_takeOutSuspects 35 = .ok (.iand, 1) := by decide +kernel
theorem dX2_takeOutSuspects_36 : decode cX2_takeOutSuspects 36 = .ok (.iastore, 1) := by decide +kernel
theorem dX2_takeOutSuspects_37 : decode cX2_takeOutSuspects 37 = .ok (.iinc 2 1, 3) := by decide +kernel
theorem dX2_takeOutSuspects_40 : decode cX2_takeOutSuspects 40 = .ok (.goto (-38), 3) := by decide +kernel
theorem dX2_takeOutSuspects_43 : decode cX2_takeOutSuspects 43 = .ok (.return_, 1) := by decide +kernel
set_option maxRecDepth 20000 in
theorem ggX2_fill_X2_fillOnce : GoodIn wsX2_fill wsX2_fillOnce := goodIn_r _ [5, 6, 7, 8, 9, 10, 11, 12, 13, 14, 15, 16, 17, 18, 19, 20, 21, 22, 23, 24, 25, 26, 27, 28, 29, 30, 31, 32, 33, 34, 4, 35, 36, 37, 38, 39, 40, 41, 42, 43, 44, 45, 46, 47, 48, 49, 50, 51, 52, 53, 54, 55, 56, 57, 58, 59, 60] (by decide +kernel) (by decide +kernel)
set_option maxRecDepth 20000 in
theorem gX2_fill_X2_fillOnce : GoodIn wsX2_fill (wsV RX2 178 RX2 yX2_fillOnce wsX2_fillOnce) := goodIn_app (goodIn_of _ (by decide +kernel)) ggX2_fill_X2_fillOnce
theorem dX2_fill_0 : decode cX2_fill 0 = .ok (.iconst 1, 1) := by decide +kernel
theorem dX2_fill_1 : decode cX2_fill 1 = .ok (.istore_n 2, 1) := by decide +kernel
theorem dX2_fill_2 : decode cX2_fill 2 = .ok (.iconst 0, 1) := by decide +kernel
theorem dX2_fill_3 : decode cX2_fill 3 = .ok (.istore_n 3, 1) := by decide +kernel
theorem dX2_fill_4 : decode cX2_fill 4 = .ok (.iload_n 2, 1) := by decide +kernel
theorem dX2_fill_5 : decode cX2_fill 5 = .ok (.ifCond .eq 21, 3) := by decide +kernel
theorem dX2_fill_8 : decode cX2_fill 8 = .ok (.iload_n 3, 1) := by decide +kernel
theorem dX2_fill_9 : decode cX2_fill 9 = .ok (.bipush 126, 2) := by decide +kernel
theorem dX2_fill_11 : decode cX2_fill 11 = .ok (.if_icmp .ge 15, 3) := by decide +kernel
theorem dX2_fill_14 : decode cX2_fill 14 = .ok (.aload_n 0, 1) := by decide +kernel
theorem dX2_fill_15 : decode cX2_fill 15 = .ok (.iload_n 1, 1) := by decide +kernel
theorem dX2_fill_16 : decode cX2_fill 16 = .ok (.invokevirtual 178, 3) := by decide +kernel
theorem dX2_fill_19 : decode cX2_fill 19 = .ok (.istore_n 2, 1) := by decide +kernel
theorem dX2_fill_20 : decode cX2_fill 20 = .ok (.iinc 3 1, 3) := by decide +kernel
theorem dX2_fill_23 : decode cX2_fill 23 = .ok (.goto (-19), 3) := by decide +kernel
theorem dX2_fill_26 : decode cX2_fill 26 = .ok (.return_, 1) := by decide +kernel
set_option maxRecDepth 20000 in
theorem ggX2_fillOnce_X1_layerOf : GoodIn wsX2_fillOnce wsX1_layerOf := goodIn_r _ [6, 7, 8, 9, 10, 11, 12, 13, 14, 50, 51, 52] (by decide +kernel) (by decide +kernel)
set_option maxRecDepth 20000 in
theorem gX2_fillOnce_X1_layerOf_n138 : GoodIn wsX2_fillOnce (wsX1_layerOf) := ggX2_fillOnce_X1_layerOf
set_option maxRecDepth 20000 in
theorem ggX2_fillOnce_X1_leadsBack : GoodIn wsX2_fillOnce wsX1_leadsBack := goodIn_r _ [17, 18, 19, 20, 4, 21, 7, 50, 51, 52] (by decide +kernel) (by decide +kernel)
set_option maxRecDepth 20000 in
theorem gX2_fillOnce_X1_leadsBack_n95 : GoodIn wsX2_fillOnce (wsX1_leadsBack) := ggX2_fillOnce_X1_leadsBack
set_option maxRecDepth 20000 in
theorem ggX2_fillOnce_X0_given : GoodIn wsX2_fillOnce wsX0_given := goodIn_r _ [25, 26, 27, 28, 29, 30, 31, 32, 33, 34, 35, 36, 37, 38, 39, 40, 41, 42, 53, 54, 55, 56] (by decide +kernel) (by decide +kernel)
set_option maxRecDepth 20000 in
theorem gX2_fillOnce_X0_given_n181 : GoodIn wsX2_fillOnce (wsX0_given) := ggX2_fillOnce_X0_given
theorem dX2_fillOnce_0 : decode cX2_fillOnce 0 = .ok (.iconst 0, 1) := by decide +kernel
theorem dX2_fillOnce_1 : decode cX2_fillOnce 1 = .ok (.istore_n 2, 1) := by decide +kernel
theorem dX2_fillOnce_2 : decode cX2_fillOnce 2 = .ok (.iconst 0, 1) := by decide +kernel
theorem dX2_fillOnce_3 : decode cX2_fillOnce 3 = .ok (.istore_n 3, 1) := by decide +kernel
theorem dX2_fillOnce_4 : decode cX2_fillOnce 4 = .ok (.iload_n 3, 1) := by decide +kernel
theorem dX2_fillOnce_5 : decode cX2_fillOnce 5 = .ok (.aload_n 0, 1) := by decide +kernel
theorem dX2_fillOnce_6 : decode cX2_fillOnce 6 = .ok (.getfield 10, 3) := by decide +kernel
theorem dX2_fillOnce_9 : decode cX2_fillOnce 9 = .ok (.getfield 42, 3) := by decide +kernel
theorem dX2_fillOnce_12 : decode cX2_fillOnce 12 = .ok (.if_icmp .ge 105, 3) := by decide +kernel
theorem dX2_fillOnce_15 : decode cX2_fillOnce 15 = .ok (.aload_n 0, 1) := by decide +kernel
theorem dX2_fillOnce_16 : decode cX2_fillOnce 16 = .ok (.getfield 10, 3) := by decide +kernel
theorem dX2_fillOnce_19 : decode cX2_fillOnce 19 = .ok (.getfield 129, 3) := by decide +kernel
theorem dX2_fillOnce_22 : decode cX2_fillOnce 22 = .ok (.iload_n 3, 1) := by decide +kernel
theorem dX2_fillOnce_23 : decode cX2_fillOnce 23 = .ok (.aaload, 1) := by decide +kernel
theorem dX2_fillOnce_24 : decode cX2_fillOnce 24 = .ok (.astore 4, 2) := by decide +kernel
theorem dX2_fillOnce_26 : decode cX2_fillOnce 26 = .ok (.aload_n 0, 1) := by decide +kernel
theorem dX2_fillOnce_27 : decode cX2_fillOnce 27 = .ok (.getfield 10, 3) := by decide +kernel
theorem dX2_fillOnce_30 : decode cX2_fillOnce 30 = .ok (.aload 4, 2) := by decide +kernel
theorem dX2_fillOnce_32 : decode cX2_fillOnce 32 = .ok (.getfield 133, 3) := by decide +kernel
theorem dX2_fillOnce_35 : decode cX2_fillOnce 35 = .ok (.invokevirtual 138, 3) := by decide +kernel
theorem dX2_fillOnce_38 : decode cX2_fillOnce 38 = .ok (.iload_n 1, 1) := by decide +kernel
theorem dX2_fillOnce_39 : decode cX2_fillOnce 39 = .ok (.if_icmp .ne 72, 3) := by decide +kernel
theorem dX2_fillOnce_42 : decode cX2_fillOnce 42 = .ok (.aload_n 0, 1) := by decide +kernel
theorem dX2_fillOnce_43 : decode cX2_fillOnce 43 = .ok (.getfield 10, 3) := by decide +kernel
theorem dX2_fillOnce_46 : decode cX2_fillOnce 46 = .ok (.aload 4, 2) := by decide +kernel
theorem dX2_fillOnce_48 : decode cX2_fillOnce 48 = .ok (.getfield 133, 3) := by decide +kernel
theorem dX2_fillOnce_51 : decode cX2_fillOnce 51 = .ok (.invokevirtual 95, 3) := by decide +kernel
theorem dX2_fillOnce_54 : decode cX2_fillOnce 54 = .ok (.ifCond .eq 57, 3) := by decide +kernel
theorem dX2_fillOnce_57 : decode cX2_fillOnce 57 = .ok (.aload 4, 2) := by decide +kernel
theorem dX2_fillOnce_59 : decode cX2_fillOnce 59 = .ok (.aload_n 0, 1) := by decide +kernel
theorem dX2_fillOnce_60 : decode cX2_fillOnce 60 = .ok (.getfield 16, 3) := by decide +kernel
theorem dX2_fillOnce_63 : decode cX2_fillOnce 63 = .ok (.invokevirtual 181, 3) := by decide +kernel
theorem dX2_fillOnce_66 : decode cX2_fillOnce 66 = .ok (.aload_n 0, 1) := by decide +kernel
theorem dX2_fillOnce_67 : decode cX2_fillOnce 67 = .ok (.getfield 16, 3) := by decide +kernel
theorem dX2_fillOnce_70 : decode cX2_fillOnce 70 = .ok (.aload 4, 2) := by decide +kernel
theorem dX2_fillOnce_72 : decode cX2_fillOnce 72 = .ok (.getfield 133, 3) := by decide +kernel
theorem dX2_fillOnce_75 : decode cX2_fillOnce 75 = .ok (.iaload, 1) := by decide +kernel
theorem dX2_fillOnce_76 : decode cX2_fillOnce 76 = .ok (.iconst (-1), 1) := by decide +kernel
theorem dX2_fillOnce_77 : decode cX2_fillOnce 77 = .ok (.ixor, 1) := by decide +kernel
theorem dX2_fillOnce_78 : decode cX2_fillOnce 78 = .ok (.iand, 1) := by decide +kernel
theorem dX2_fillOnce_79 : decode cX2_fillOnce 79 = .ok (.istore 5, 2) := by decide +kernel
theorem dX2_fillOnce_81 : decode cX2_fillOnce 81 = .ok (.aload_n 0, 1) := by decide +kernel
theorem dX2_fillOnce_82 : decode cX2_fillOnce 82 = .ok (.getfield 16, 3) := by decide +kernel
theorem dX2_fillOnce_85 : decode cX2_fillOnce 85 = .ok (.aload 4, 2) := by decide +kernel
theorem dX2_fillOnce_87 : decode cX2_fillOnce 87 = .ok (.getfield 133, 3) := by decide +kernel
theorem dX2_fillOnce_90 : decode cX2_fillOnce 90 = .ok (.dup2, 1) := by decide +kernel
theorem dX2_fillOnce_91 : decode cX2_fillOnce 91 = .ok (.iaload, 1) := by decide +kernel
theorem dX2_fillOnce_92 : decode cX2_fillOnce 92 = .ok (.iload 5, 2) := by decide +kernel
theorem dX2_fillOnce_94 : decode cX2_fillOnce 94 = .ok (.ior, 1) := by decide +kernel
theorem dX2_fillOnce_95 : decode cX2_fillOnce 95 = .ok (.iastore, 1) := by decide +kernel
theorem dX2_fillOnce_96 : decode cX2_fillOnce 96 = .ok (.iload_n 2, 1) := by decide +kernel
theorem dX2_fillOnce_97 : decode cX2_fillOnce 97 = .ok (.ifCond .ne 8, 3) := by decide +kernel
theorem dX2_fillOnce_100 : decode cX2_fillOnce 100 = .ok (.iload 5, 2) := by decide +kernel
theorem dX2_fillOnce_102 : decode cX2_fillOnce 102 = .ok (.ifCond .eq 7, 3) := by decide +kernel
theorem dX2_fillOnce_105 : decode cX2_fillOnce 105 = .ok (.iconst 1, 1) := by decide +kernel
theorem dX2_fillOnce_106 : decode cX2_fillOnce 106 = .ok (.goto 4, 3) := by decide +kernel
theorem dX2_fillOnce_109 : decode cX2_fillOnce 109 = .ok (.iconst 0, 1) := by decide +kernel
theorem dX2_fillOnce_110 : decode cX2_fillOnce 110 = .ok (.istore_n 2, 1) := by decide +kernel
theorem dX2_fillOnce_111 : decode cX2_fillOnce 111 = .ok (.iinc 3 1, 3) := by decide +kernel
theorem dX2_fillOnce_114 : decode cX2_fillOnce 114 = .ok (.goto (-110), 3) := by decide +kernel
theorem dX2_fillOnce_117 : decode cX2_fillOnce 117 = .ok (.iload_n 2, 1) := by decide +kernel
theorem dX2_fillOnce_118 : decode cX2_fillOnce 118 = .ok (.ireturn, 1) := by decide +kernel
