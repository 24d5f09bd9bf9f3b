theorem dX0_init_0 : decode cX0_init 0 = .ok (.aload_n 0, 1) := by decide +kernel
theorem dX0_init_1 : decode cX0_init 1 = .ok (.invokespecial 3, 3) := by decide +kernel
theorem dX0_init_4 : decode cX0_init 4 = .ok (.return_, 1) := by decide +kernel
theorem dX0_body_0 : decode cX0_body 0 = .ok (.aload_n 0, 1) := by decide +kernel
theorem dX0_body_1 : decode cX0_body 1 = .ok (.getfield 9, 3) := by decide +kernel
theorem dX0_body_4 : decode cX0_body 4 = .ok (.ifCond .eq 11, 3) := by decide +kernel
theorem dX0_body_7 : decode cX0_body 7 = .ok (.aload_n 0, 1) := by decide +kernel
theorem dX0_body_8 : decode cX0_body 8 = .ok (.getfield 9, 3) := by decide +kernel
theorem dX0_body_11 : decode cX0_body 11 = .ok (.iconst 1, 1) := by decide +kernel
theorem dX0_body_12 : decode cX0_body 12 = .ok (.if_icmp .ne 12, 3) := by decide +kernel
theorem dX0_body_15 : decode cX0_body 15 = .ok (.iconst 1, 1) := by decide +kernel
theorem dX0_body_16 : decode cX0_body 16 = .ok (.aload_n 0, 1) := by decide +kernel
theorem dX0_body_17 : decode cX0_body 17 = .ok (.getfield 15, 3) := by decide +kernel
theorem dX0_body_20 : decode cX0_body 20 = .ok (.ishl, 1) := by decide +kernel
theorem dX0_body_21 : decode cX0_body 21 = .ok (.goto 16, 3) := by decide +kernel
theorem dX0_body_24 : decode cX0_body 24 = .ok (.iconst 1, 1) := by decide +kernel
theorem dX0_body_25 : decode cX0_body 25 = .ok (.aload_n 0, 1) := by decide +kernel
theorem dX0_body_26 : decode cX0_body 26 = .ok (.getfield 15, 3) := by decide +kernel
theorem dX0_body_29 : decode cX0_body 29 = .ok (.ishl, 1) := by decide +kernel
theorem dX0_body_30 : decode cX0_body 30 = .ok (.iconst 1, 1) := by decide +kernel
theorem dX0_body_31 : decode cX0_body 31 = .ok (.aload_n 0, 1) := by decide +kernel
theorem dX0_body_32 : decode cX0_body 32 = .ok (.getfield 18, 3) := by decide +kernel
theorem dX0_body_35 : decode cX0_body 35 = .ok (.ishl, 1) := by decide +kernel
theorem dX0_body_36 : decode cX0_body 36 = .ok (.ior, 1) := by decide +kernel
theorem dX0_body_37 : decode cX0_body 37 = .ok (.ireturn, 1) := by decide +kernel
set_option maxRecDepth 20000 in
theorem ggX0_given_X2_turned : GoodIn wsX0_given wsX2_turned := goodIn_r _ [6, 7, 8, 5, 9, 10, 11, 12] (by decide +kernel) (by decide +kernel)
set_option maxRecDepth 20000 in
theorem gX0_given_X2_turned_n21 : GoodIn wsX0_given (wsX2_turned) := ggX0_given_X2_turned
set_option maxRecDepth 20000 in
theorem ggX0_given_X2_joined : GoodIn wsX0_given wsX2_joined := goodIn_r _ [14, 7, 8, 5, 9, 15, 16, 17] (by decide +kernel) (by decide +kernel)
set_option maxRecDepth 20000 in
theorem gX0_given_X2_joined_n25 : GoodIn wsX0_given (wsX2_joined) := ggX0_given_X2_joined
theorem dX0_given_0 : decode cX0_given 0 = .ok (.aload_n 0, 1) := by decide +kernel
theorem dX0_given_1 : decode cX0_given 1 = .ok (.getfield 9, 3) := by decide +kernel
theorem dX0_given_4 : decode cX0_given 4 = .ok (.tableswitch 79 0 3 #[32, 39, 49, 65], 32) := by decide +kernel
theorem dX0_given_36 : decode cX0_given 36 = .ok (.aload_n 1, 1) := by decide +kernel
theorem dX0_given_37 : decode cX0_given 37 = .ok (.aload_n 0, 1) := by decide +kernel
theorem dX0_given_38 : decode cX0_given 38 = .ok (.getfield 15, 3) := by decide +kernel
theorem dX0_given_41 : decode cX0_given 41 = .ok (.iaload, 1) := by decide +kernel
theorem dX0_given_42 : decode cX0_given 42 = .ok (.ireturn, 1) := by decide +kernel
theorem dX0_given_43 : decode cX0_given 43 = .ok (.aload_n 1, 1) := by decide +kernel
theorem dX0_given_44 : decode cX0_given 44 = .ok (.aload_n 0, 1) := by decide +kernel
theorem dX0_given_45 : decode cX0_given 45 = .ok (.getfield 15, 3) := by decide +kernel
theorem dX0_given_48 : decode cX0_given 48 = .ok (.iaload, 1) := by decide +kernel
theorem dX0_given_49 : decode cX0_given 49 = .ok (.invokestatic 21, 3) := by decide +kernel
theorem dX0_given_52 : decode cX0_given 52 = .ok (.ireturn, 1) := by decide +kernel
theorem dX0_given_53 : decode cX0_given 53 = .ok (.aload_n 1, 1) := by decide +kernel
theorem dX0_given_54 : decode cX0_given 54 = .ok (.aload_n 0, 1) := by decide +kernel
theorem dX0_given_55 : decode cX0_given 55 = .ok (.getfield 15, 3) := by decide +kernel
theorem dX0_given_58 : decode cX0_given 58 = .ok (.iaload, 1) := by decide +kernel
theorem dX0_given_59 : decode cX0_given 59 = .ok (.aload_n 1, 1) := by decide +kernel
theorem dX0_given_60 : decode cX0_given 60 = .ok (.aload_n 0, 1) := by decide +kernel
theorem dX0_given_61 : decode cX0_given 61 = .ok (.getfield 18, 3) := by decide +kernel
theorem dX0_given_64 : decode cX0_given 64 = .ok (.iaload, 1) := by decide +kernel
theorem dX0_given_65 : decode cX0_given 65 = .ok (.invokestatic 25, 3) := by decide +kernel
theorem dX0_given_68 : decode cX0_given 68 = .ok (.ireturn, 1) := by decide +kernel
theorem dX0_given_69 : decode cX0_given 69 = .ok (.aload_n 1, 1) := by decide +kernel
theorem dX0_given_70 : decode cX0_given 70 = .ok (.aload_n 0, 1) := by decide +kernel
theorem dX0_given_71 : decode cX0_given 71 = .ok (.getfield 15, 3) := by decide +kernel
theorem dX0_given_74 : decode cX0_given 74 = .ok (.iaload, 1) := by decide +kernel
theorem dX0_given_75 : decode cX0_given 75 = .ok (.aload_n 1, 1) := by decide +kernel
theorem dX0_given_76 : decode cX0_given 76 = .ok (.aload_n 0, 1) := by decide +kernel
theorem dX0_given_77 : decode cX0_given 77 = .ok (.getfield 18, 3) := by decide +kernel
theorem dX0_given_80 : decode cX0_given 80 = .ok (.iaload, 1) := by decide +kernel
theorem dX0_given_81 : decode cX0_given 81 = .ok (.iand, 1) := by decide +kernel
theorem dX0_given_82 : decode cX0_given 82 = .ok (.ireturn, 1) := by decide +kernel
theorem dX0_given_83 : decode cX0_given 83 = .ok (.aload_n 1, 1) := by decide +kernel
theorem dX0_given_84 : decode cX0_given 84 = .ok (.aload_n 0, 1) := by decide +kernel
theorem dX0_given_85 : decode cX0_given 85 = .ok (.getfield 15, 3) := by decide +kernel
theorem dX0_given_88 : decode cX0_given 88 = .ok (.iaload, 1) := by decide +kernel
theorem dX0_given_89 : decode cX0_given 89 = .ok (.aload_n 1, 1) := by decide +kernel
theorem dX0_given_90 : decode cX0_given 90 = .ok (.aload_n 0, 1) := by decide +kernel
theorem dX0_given_91 : decode cX0_given 91 = .ok (.getfield 18, 3) := by decide +kernel
theorem dX0_given_94 : decode cX0_given 94 = .ok (.iaload, 1) := by decide +kernel
theorem dX0_given_95 : decode cX0_given 95 = .ok (.iconst (-1), 1) := by decide +kernel
theorem dX0_given_96 : decode cX0_given 96 = .ok (.ixor, 1) := by decide +kernel
theorem dX0_given_97 : decode cX0_given 97 = .ok (.iand, 1) := by decide +kernel
theorem dX0_given_98 : decode cX0_given 98 = .ok (.ireturn, 1) := by decide +kernel
theorem dX0_ways_0 : decode cX0_ways 0 = .ok (.aload_n 0, 1) := by decide +kernel
theorem dX0_ways_1 : decode cX0_ways 1 = .ok (.getfield 9, 3) := by decide +kernel
theorem dX0_ways_4 : decode cX0_ways 4 = .ok (.iconst 2, 1) := by decide +kernel
theorem dX0_ways_5 : decode cX0_ways 5 = .ok (.if_icmp .ne 7, 3) := by decide +kernel
theorem dX0_ways_8 : decode cX0_ways 8 = .ok (.iconst 5, 1) := by decide +kernel
theorem dX0_ways_9 : decode cX0_ways 9 = .ok (.goto 4, 3) := by decide +kernel
theorem dX0_ways_12 : decode cX0_ways 12 = .ok (.iconst 1, 1) := by decide +kernel
theorem dX0_ways_13 : decode cX0_ways 13 = .ok (.ireturn, 1) := by decide +kernel
set_option maxRecDepth 20000 in
theorem ggX0_givenBy_X2_joined : GoodIn wsX0_givenBy wsX2_joined := goodIn_r _ [7, 8, 9, 6, 10, 11, 12, 13] (by decide +kernel) (by decide +kernel)
set_option maxRecDepth 20000 in
theorem gX0_givenBy_X2_joined_n25 : GoodIn wsX0_givenBy (wsX2_joined) := ggX0_givenBy_X2_joined
set_option maxRecDepth 20000 in
theorem ggX0_givenBy_X0_given : GoodIn wsX0_givenBy wsX0_given := goodIn_r _ [18, 1, 2, 4, 19, 6, 20, 8, 9, 10, 21, 22, 23, 5, 7, 11, 12, 13, 24, 25, 26, 27] (by decide +kernel) (by decide +kernel)
set_option maxRecDepth 20000 in
theorem gX0_givenBy_X0_given : GoodIn wsX0_givenBy (wsV RX0 30 RX0 yX0_given wsX0_given) := goodIn_app (goodIn_of _ (by decide +kernel)) ggX0_givenBy_X0_given
theorem dX0_givenBy_0 : decode cX0_givenBy 0 = .ok (.aload_n 0, 1) := by decide +kernel
theorem dX0_givenBy_1 : decode cX0_givenBy 1 = .ok (.getfield 9, 3) := by decide +kernel
theorem dX0_givenBy_4 : decode cX0_givenBy 4 = .ok (.iconst 2, 1) := by decide +kernel
theorem dX0_givenBy_5 : decode cX0_givenBy 5 = .ok (.if_icmp .ne 26, 3) := by decide +kernel
theorem dX0_givenBy_8 : decode cX0_givenBy 8 = .ok (.aload_n 2, 1) := by decide +kernel
theorem dX0_givenBy_9 : decode cX0_givenBy 9 = .ok (.aload_n 0, 1) := by decide +kernel
theorem dX0_givenBy_10 : decode cX0_givenBy 10 = .ok (.getfield 15, 3) := by decide +kernel
theorem dX0_givenBy_13 : decode cX0_givenBy 13 = .ok (.iaload, 1) := by decide +kernel
theorem dX0_givenBy_14 : decode cX0_givenBy 14 = .ok (.ldc 29, 2) := by decide +kernel
theorem dX0_givenBy_16 : decode cX0_givenBy 16 = .ok (.iload_n 1, 1) := by decide +kernel
theorem dX0_givenBy_17 : decode cX0_givenBy 17 = .ok (.ishl, 1) := by decide +kernel
theorem dX0_givenBy_18 : decode cX0_givenBy 18 = .ok (.iand, 1) := by decide +kernel
theorem dX0_givenBy_19 : decode cX0_givenBy 19 = .ok (.aload_n 2, 1) := by decide +kernel
theorem dX0_givenBy_20 : decode cX0_givenBy 20 = .ok (.aload_n 0, 1) := by decide +kernel
theorem dX0_givenBy_21 : decode cX0_givenBy 21 = .ok (.getfield 18, 3) := by decide +kernel
theorem dX0_givenBy_24 : decode cX0_givenBy 24 = .ok (.iaload, 1) := by decide +kernel
theorem dX0_givenBy_25 : decode cX0_givenBy 25 = .ok (.invokestatic 25, 3) := by decide +kernel
theorem dX0_givenBy_28 : decode cX0_givenBy 28 = .ok (.goto 8, 3) := by decide +kernel
theorem dX0_givenBy_31 : decode cX0_givenBy 31 = .ok (.aload_n 0, 1) := by decide +kernel
theorem dX0_givenBy_32 : decode cX0_givenBy 32 = .ok (.aload_n 2, 1) := by decide +kernel
theorem dX0_givenBy_33 : decode cX0_givenBy 33 = .ok (.invokevirtual 30, 3) := by decide +kernel
theorem dX0_givenBy_36 : decode cX0_givenBy 36 = .ok (.ireturn, 1) := by decide +kernel
set_option maxRecDepth 20000 in
theorem ggX1_init_X0_init : GoodIn wsX1_init wsX0_init := goodIn_r _ [12, 13, 2, 3] (by decide +kernel) (by decide +kernel)
set_option maxRecDepth 20000 in
theorem gX1_init_X0_init_n17 : GoodIn wsX1_init (wsX0_init) := ggX1_init_X0_init
theorem dX1_init_0 : decode cX1_init 0 = .ok (.aload_n 0, 1) := by decide +kernel
theorem dX1_init_1 : decode cX1_init 1 = .ok (.invokespecial 3, 3) := by decide +kernel
theorem dX1_init_4 : decode cX1_init 4 = .ok (.aload_n 0, 1) := by decide +kernel
theorem dX1_init_5 : decode cX1_init 5 = .ok (.bipush 12, 2) := by decide +kernel
theorem dX1_init_7 : decode cX1_init 7 = .ok (.anewarray 9, 3) := by decide +kernel
theorem dX1_init_10 : decode cX1_init 10 = .ok (.putfield 11, 3) := by decide +kernel
theorem dX1_init_13 : decode cX1_init 13 = .ok (.iconst 0, 1) := by decide +kernel
theorem dX1_init_14 : decode cX1_init 14 = .ok (.istore_n 1, 1) := by decide +kernel
theorem dX1_init_15 : decode cX1_init 15 = .ok (.iload_n 1, 1) := by decide +kernel
theorem dX1_init_16 : decode cX1_init 16 = .ok (.bipush 12, 2) := by decide +kernel
theorem dX1_init_18 : decode cX1_init 18 = .ok (.if_icmp .ge 22, 3) := by decide +kernel
theorem dX1_init_21 : decode cX1_init 21 = .ok (.aload_n 0, 1) := by decide +kernel
theorem dX1_init_22 : decode cX1_init 22 = .ok (.getfield 11, 3) := by decide +kernel
theorem dX1_init_25 : decode cX1_init 25 = .ok (.iload_n 1, 1) := by decide +kernel
theorem dX1_init_26 : decode cX1_init 26 = .ok (.new 9, 3) := by decide +kernel
theorem dX1_init_29 : decode cX1_init 29 = .ok (.dup, 1) := by decide +kernel
theorem dX1_init_30 : decode cX1_init 30 = .ok (.invokespecial 17, 3) := by decide +kernel
theorem dX1_init_33 : decode cX1_init 33 = .ok (.aastore, 1) := by decide +kernel
theorem dX1_init_34 : decode cX1_init 34 = .ok (.iinc 1 1, 3) := by decide +kernel
theorem dX1_init_37 : decode cX1_init 37 = .ok (.goto (-22), 3) := by decide +kernel
theorem dX1_init_40 : decode cX1_init 40 = .ok (.aload_n 0, 1) := by decide +kernel
theorem dX1_init_41 : decode cX1_init 41 = .ok (.bipush 7, 2) := by decide +kernel
theorem dX1_init_43 : decode cX1_init 43 = .ok (.newarray .int, 2) := by decide +kernel
theorem dX1_init_45 : decode cX1_init 45 = .ok (.putfield 18, 3) := by decide +kernel
theorem dX1_init_48 : decode cX1_init 48 = .ok (.aload_n 0, 1) := by decide +kernel
theorem dX1_init_49 : decode cX1_init 49 = .ok (.iconst 0, 1) := by decide +kernel
theorem dX1_init_50 : decode cX1_init 50 = .ok (.putfield 22, 3) := by decide +kernel
theorem dX1_init_53 : decode cX1_init 53 = .ok (.return_, 1) := by decide +kernel
set_option maxRecDepth 20000 in
theorem ggX1_write_X1_findNeeded : GoodIn wsX1_write wsX1_findNeeded := goodIn_r _ [7, 8, 2, 1, 9, 10, 11, 12, 13, 14, 15, 16, 17, 18, 19, 20, 21, 22, 6, 23, 24, 25, 26, 27, 28, 29, 30] (by decide +kernel) (by decide +kernel)
set_option maxRecDepth 20000 in
theorem gX1_write_X1_findNeeded : GoodIn wsX1_write (wsV RX1 38 RX1 yX1_findNeeded wsX1_findNeeded) := goodIn_app (goodIn_of _ (by decide +kernel)) ggX1_write_X1_findNeeded
theorem dX1_write_0 : decode cX1_write 0 = .ok (.aload_n 0, 1) := by decide +kernel
theorem dX1_write_1 : decode cX1_write 1 = .ok (.getfield 11, 3) := by decide +kernel
theorem dX1_write_4 : decode cX1_write 4 = .ok (.aload_n 0, 1) := by decide +kernel
theorem dX1_write_5 : decode cX1_write 5 = .ok (.getfield 22, 3) := by decide +kernel
theorem dX1_write_8 : decode cX1_write 8 = .ok (.aaload, 1) := by decide +kernel
theorem dX1_write_9 : decode cX1_write 9 = .ok (.astore 5, 2) := by decide +kernel
theorem dX1_write_11 : decode cX1_write 11 = .ok (.aload 5, 2) := by decide +kernel
theorem dX1_write_13 : decode cX1_write 13 = .ok (.iload_n 1, 1) := by decide +kernel
theorem dX1_write_14 : decode cX1_write 14 = .ok (.putfield 26, 3) := by decide +kernel
theorem dX1_write_17 : decode cX1_write 17 = .ok (.aload 5, 2) := by decide +kernel
theorem dX1_write_19 : decode cX1_write 19 = .ok (.iload_n 2, 1) := by decide +kernel
theorem dX1_write_20 : decode cX1_write 20 = .ok (.putfield 29, 3) := by decide +kernel
theorem dX1_write_23 : decode cX1_write 23 = .ok (.aload 5, 2) := by decide +kernel
theorem dX1_write_25 : decode cX1_write 25 = .ok (.iload_n 3, 1) := by decide +kernel
theorem dX1_write_26 : decode cX1_write 26 = .ok (.putfield 32, 3) := by decide +kernel
theorem dX1_write_29 : decode cX1_write 29 = .ok (.aload 5, 2) := by decide +kernel
theorem dX1_write_31 : decode cX1_write 31 = .ok (.iload 4, 2) := by decide +kernel
theorem dX1_write_33 : decode cX1_write 33 = .ok (.putfield 35, 3) := by decide +kernel
theorem dX1_write_36 : decode cX1_write 36 = .ok (.aload_n 0, 1) := by decide +kernel
theorem dX1_write_37 : decode cX1_write 37 = .ok (.dup, 1) := by decide +kernel
theorem dX1_write_38 : decode cX1_write 38 = .ok (.getfield 22, 3) := by decide +kernel
theorem dX1_write_41 : decode cX1_write 41 = .ok (.iconst 1, 1) := by decide +kernel
theorem dX1_write_42 : decode cX1_write 42 = .ok (.iadd, 1) := by decide +kernel
theorem dX1_write_43 : decode cX1_write 43 = .ok (.putfield 22, 3) := by decide +kernel
theorem dX1_write_46 : decode cX1_write 46 = .ok (.aload_n 0, 1) := by decide +kernel
theorem dX1_write_47 : decode cX1_write 47 = .ok (.invokevirtual 38, 3) := by decide +kernel
theorem dX1_write_50 : decode cX1_write 50 = .ok (.return_, 1) := by decide +kernel
set_option maxRecDepth 20000 in
theorem ggX1_strikeLast_X1_findNeeded : GoodIn wsX1_strikeLast wsX1_findNeeded := goodIn_r _ [6, 7, 1, 8, 9, 10, 11, 12, 13, 14, 15, 16, 17, 18, 19, 20, 21, 22, 5, 23, 24, 25, 26, 27, 28, 29, 30] (by decide +kernel) (by decide +kernel)
set_option maxRecDepth 20000 in
theorem gX1_strikeLast_X1_findNeeded : GoodIn wsX1_strikeLast (wsV RX1 38 RX1 yX1_findNeeded wsX1_findNeeded) := goodIn_app (goodIn_of _ (by decide +kernel)) ggX1_strikeLast_X1_findNeeded
theorem dX1_strikeLast_0 : decode cX1_strikeLast 0 = .ok (.aload_n 0, 1) := by decide +kernel
theorem dX1_strikeLast_1 : decode cX1_strikeLast 1 = .ok (.dup, 1) := by decide +kernel
theorem dX1_strikeLast_2 : decode cX1_strikeLast 2 = .ok (.getfield 22, 3) := by decide +kernel
theorem dX1_strikeLast_5 : decode cX1_strikeLast 5 = .ok (.iconst 1, 1) := by decide +kernel
theorem dX1_strikeLast_6 : decode cX1_strikeLast 6 = .ok (.isub, 1) := by decide +kernel
theorem dX1_strikeLast_7 : decode cX1_strikeLast 7 = .ok (.putfield 22, 3) := by decide +kernel
theorem dX1_strikeLast_10 : decode cX1_strikeLast 10 = .ok (.aload_n 0, 1) := by decide +kernel
theorem dX1_strikeLast_11 : decode cX1_strikeLast 11 = .ok (.invokevirtual 38, 3) := by decide +kernel
theorem dX1_strikeLast_14 : decode cX1_strikeLast 14 = .ok (.return_, 1) := by decide +kernel
set_option maxRecDepth 20000 in
theorem ggX1_findNeeded_J7_fill_53178 : GoodIn wsX1_findNeeded wsJ7_fill_53178 := goodIn_r _ [7] (by decide +kernel) (by decide +kernel)
set_option maxRecDepth 20000 in
theorem gX1_findNeeded_J7_fill_53178 : GoodIn wsX1_findNeeded (va_wsS RX1 41 yJ7_fill_53178 wsJ7_fill_53178) := goodIn_app (goodIn_of _ (by decide +kernel)) ggX1_findNeeded_J7_fill_53178
set_option maxRecDepth 20000 in
theorem ggX1_findNeeded_X0_body : GoodIn wsX1_findNeeded wsX0_body := goodIn_r _ [11, 12, 13, 14, 23, 24, 25, 26] (by decide +kernel) (by decide +kernel)
set_option maxRecDepth 20000 in
theorem gX1_findNeeded_X0_body_n47 : GoodIn wsX1_findNeeded (wsX0_body) := ggX1_findNeeded_X0_body
set_option maxRecDepth 20000 in
theorem ggX1_findNeeded_X1_leadsTo : GoodIn wsX1_findNeeded wsX1_leadsTo := goodIn_r _ [19, 1, 20, 21, 22] (by decide +kernel) (by decide +kernel)
set_option maxRecDepth 20000 in
theorem gX1_findNeeded_X1_leadsTo : GoodIn wsX1_findNeeded (wsV RX1 51 RX1 yX1_leadsTo wsX1_leadsTo) := goodIn_app (goodIn_of _ (by decide +kernel)) ggX1_findNeeded_X1_leadsTo
theorem dX1_findNeeded_0 : decode cX1_findNeeded 0 = .ok (.aload_n 0, 1) := by decide +kernel
theorem dX1_findNeeded_1 : decode cX1_findNeeded 1 = .ok (.getfield 18, 3) := by decide +kernel
theorem dX1_findNeeded_4 : decode cX1_findNeeded 4 = .ok (.iconst 0, 1) := by decide +kernel
theorem dX1_findNeeded_5 : decode cX1_findNeeded 5 = .ok (.invokestatic 41, 3) := by decide +kernel
theorem dX1_findNeeded_8 : decode cX1_findNeeded 8 = .ok (.iconst 0, 1) := by decide +kernel
theorem dX1_findNeeded_9 : decode cX1_findNeeded 9 = .ok (.istore_n 1, 1) := by decide +kernel
theorem dX1_findNeeded_10 : decode cX1_findNeeded 10 = .ok (.iload_n 1, 1) := by decide +kernel
theorem dX1_findNeeded_11 : decode cX1_findNeeded 11 = .ok (.aload_n 0, 1) := by decide +kernel
theorem dX1_findNeeded_12 : decode cX1_findNeeded 12 = .ok (.getfield 22, 3) := by decide +kernel
theorem dX1_findNeeded_15 : decode cX1_findNeeded 15 = .ok (.if_icmp .ge 35, 3) := by decide +kernel
theorem dX1_findNeeded_18 : decode cX1_findNeeded 18 = .ok (.aload_n 0, 1) := by decide +kernel
theorem dX1_findNeeded_19 : decode cX1_findNeeded 19 = .ok (.getfield 18, 3) := by decide +kernel
theorem dX1_findNeeded_22 : decode cX1_findNeeded 22 = .ok (.aload_n 0, 1) := by decide +kernel
theorem dX1_findNeeded_23 : decode cX1_findNeeded 23 = .ok (.getfield 11, 3) := by decide +kernel
theorem dX1_findNeeded_26 : decode cX1_findNeeded 26 = .ok (.iload_n 1, 1) := by decide +kernel
theorem dX1_findNeeded_27 : decode cX1_findNeeded 27 = .ok (.aaload, 1) := by decide +kernel
theorem dX1_findNeeded_28 : decode cX1_findNeeded 28 = .ok (.getfield 26, 3) := by decide +kernel
theorem dX1_findNeeded_31 : decode cX1_findNeeded 31 = .ok (.dup2, 1) := by decide +kernel
theorem dX1_findNeeded_32 : decode cX1_findNeeded 32 = .ok (.iaload, 1) := by decide +kernel
theorem dX1_findNeeded_33 : decode cX1_findNeeded 33 = .ok (.aload_n 0, 1) := by decide +kernel
theorem dX1_findNeeded_34 : decode cX1_findNeeded 34 = .ok (.getfield 11, 3) := by decide +kernel
theorem dX1_findNeeded_37 : decode cX1_findNeeded 37 = .ok (.iload_n 1, 1) := by decide +kernel
theorem dX1_findNeeded_38 : decode cX1_findNeeded 38 = .ok (.aaload, 1) := by decide +kernel
theorem dX1_findNeeded_39 : decode cX1_findNeeded 39 = .ok (.invokevirtual 47, 3) := by decide +kernel
theorem dX1_findNeeded_42 : decode cX1_findNeeded 42 = .ok (.ior, 1) := by decide +kernel
theorem dX1_findNeeded_43 : decode cX1_findNeeded 43 = .ok (.iastore, 1) := by decide +kernel
theorem dX1_findNeeded_44 : decode cX1_findNeeded 44 = .ok (.iinc 1 1, 3) := by decide +kernel
theorem dX1_findNeeded_47 : decode cX1_findNeeded 47 = .ok (.goto (-37), 3) := by decide +kernel
theorem dX1_findNeeded_50 : decode cX1_findNeeded 50 = .ok (.iconst 2, 1) := by decide +kernel
theorem dX1_findNeeded_51 : decode cX1_findNeeded 51 = .ok (.istore_n 1, 1) := by decide +kernel
theorem dX1_findNeeded_52 : decode cX1_findNeeded 52 = .ok (.iload_n 1, 1) := by decide +kernel
theorem dX1_findNeeded_53 : decode cX1_findNeeded 53 = .ok (.bipush 7, 2) := by decide +kernel
theorem dX1_findNeeded_55 : decode cX1_findNeeded 55 = .ok (.if_icmp .ge 47, 3) := by decide +kernel
theorem dX1_findNeeded_58 : decode cX1_findNeeded 58 = .ok (.iconst 2, 1) := by decide +kernel
theorem dX1_findNeeded_59 : decode cX1_findNeeded 59 = .ok (.istore_n 2, 1) := by decide +kernel
theorem dX1_findNeeded_60 : decode cX1_findNeeded 60 = .ok (.iload_n 2, 1) := by decide +kernel
theorem dX1_findNeeded_61 : decode cX1_findNeeded 61 = .ok (.bipush 7, 2) := by decide +kernel
theorem dX1_findNeeded_63 : decode cX1_findNeeded 63 = .ok (.if_icmp .ge 33, 3) := by decide +kernel
theorem dX1_findNeeded_66 : decode cX1_findNeeded 66 = .ok (.aload_n 0, 1) := by decide +kernel
theorem dX1_findNeeded_67 : decode cX1_findNeeded 67 = .ok (.iload_n 2, 1) := by decide +kernel
theorem dX1_findNeeded_68 : decode cX1_findNeeded 68 = .ok (.iload_n 1, 1) := by decide +kernel
theorem dX1_findNeeded_69 : decode cX1_findNeeded 69 = .ok (.invokevirtual 51, 3) := by decide +kernel
theorem dX1_findNeeded_72 : decode cX1_findNeeded 72 = .ok (.ifCond .eq 18, 3) := by decide +kernel
theorem dX1_findNeeded_75 : decode cX1_findNeeded 75 = .ok (.aload_n 0, 1) := by decide +kernel
theorem dX1_findNeeded_76 : decode cX1_findNeeded 76 = .ok (.getfield 18, 3) := by decide +kernel
theorem dX1_findNeeded_79 : decode cX1_findNeeded 79 = .ok (.iload_n 2, 1) := by decide +kernel
theorem dX1_findNeeded_80 : decode cX1_findNeeded 80 = .ok (.dup2, 1) := by decide +kernel
theorem dX1_findNeeded_81 : decode cX1_findNeeded 81 = .ok (.iaload, 1) := by decide +kernel
theorem dX1_findNeeded_82 : decode cX1_findNeeded 82 = .ok (.aload_n 0, 1) := by decide +kernel
theorem dX1_findNeeded_83 : decode cX1_findNeeded 83 = .ok (.getfield 18, 3) := by decide +kernel
theorem dX1_findNeeded_86 : decode cX1_findNeeded 86 = .ok (.iload_n 1, 1) := by decide +kernel
theorem dX1_findNeeded_87 : decode cX1_findNeeded 87 = .ok (.iaload, 1) := by decide +kernel
theorem dX1_findNeeded_88 : decode cX1_findNeeded 88 = .ok (.ior, 1) := by decide +kernel
theorem dX1_findNeeded_89 : decode cX1_findNeeded 89 = .ok (.iastore, 1) := by decide +kernel
theorem dX1_findNeeded_90 : decode cX1_findNeeded 90 = .ok (.iinc 2 1, 3) := by decide +kernel
theorem dX1_findNeeded_93 : decode cX1_findNeeded 93 = .ok (.goto (-33), 3) := by decide +kernel
theorem dX1_findNeeded_96 : decode cX1_findNeeded 96 = .ok (.iinc 1 1, 3) := by decide +kernel
theorem dX1_findNeeded_99 : decode cX1_findNeeded 99 = .ok (.goto (-47), 3) := by decide +kernel
theorem dX1_findNeeded_102 : decode cX1_findNeeded 102 = .ok (.return_, 1) := by decide +kernel
theorem dX1_leadsTo_0 : decode cX1_leadsTo 0 = .ok (.aload_n 0, 1) := by decide +kernel
theorem dX1_leadsTo_1 : decode cX1_leadsTo 1 = .ok (.getfield 18, 3) := by decide +kernel
theorem dX1_leadsTo_4 : decode cX1_leadsTo 4 = .ok (.iload_n 1, 1) := by decide +kernel
theorem dX1_leadsTo_5 : decode cX1_leadsTo 5 = .ok (.iaload, 1) := by decide +kernel
theorem dX1_leadsTo_6 : decode cX1_leadsTo 6 = .ok (.iconst 1, 1) := by decide +kernel
theorem dX1_leadsTo_7 : decode cX1_leadsTo 7 = .ok (.iload_n 2, 1) := by decide +kernel
theorem dX1_leadsTo_8 : decode cX1_leadsTo 8 = .ok (.ishl, 1) := by decide +kernel
theorem dX1_leadsTo_9 : decode cX1_leadsTo 9 = .ok (.iand, 1) := by decide +kernel
theorem dX1_leadsTo_10 : decode cX1_leadsTo 10 = .ok (.ifCond .eq 7, 3) := by decide +kernel
theorem dX1_leadsTo_13 : decode cX1_leadsTo 13 = .ok (.iconst 1, 1) := by decide +kernel
theorem dX1_leadsTo_14 : decode cX1_leadsTo 14 = .ok (.goto 4, 3) := by decide +kernel
theorem dX1_leadsTo_17 : decode cX1_leadsTo 17 = .ok (.iconst 0, 1) := by decide +kernel
theorem dX1_leadsTo_18 : decode cX1_leadsTo 18 = .ok (.ireturn, 1) := by decide +kernel
set_option maxRecDepth 20000 in
theorem ggX1_leadsBack_X1_leadsTo : GoodIn wsX1_leadsBack wsX1_leadsTo := goodIn_r _ [5, 6, 7, 8, 9] (by decide +kernel) (by decide +kernel)
set_option maxRecDepth 20000 in
theorem gX1_leadsBack_X1_leadsTo : GoodIn wsX1_leadsBack (wsV RX1 51 RX1 yX1_leadsTo wsX1_leadsTo) := goodIn_app (goodIn_of _ (by decide +kernel)) ggX1_leadsBack_X1_leadsTo
theorem dX1_leadsBack_0 : decode cX1_leadsBack 0 = .ok (.aload_n 0, 1) := by decide +kernel
theorem dX1_leadsBack_1 : decode cX1_leadsBack 1 = .ok (.iload_n 1, 1) := by decide +kernel
theorem dX1_leadsBack_2 : decode cX1_leadsBack 2 = .ok (.iload_n 1, 1) := by decide +kernel
theorem dX1_leadsBack_3 : decode cX1_leadsBack 3 = .ok (.invokevirtual 51, 3) := by decide +kernel
theorem dX1_leadsBack_6 : decode cX1_leadsBack 6 = .ok (.ireturn, 1) := by decide +kernel
set_option maxRecDepth 20000 in
theorem ggX1_hasCycle_X1_leadsTo : GoodIn wsX1_hasCycle wsX1_leadsTo := goodIn_r _ [7, 8, 9, 10, 11] (by decide +kernel) (by decide +kernel)
set_option maxRecDepth 20000 in
theorem gX1_hasCycle_X1_leadsTo : GoodIn wsX1_hasCycle (wsV RX1 51 RX1 yX1_leadsTo wsX1_leadsTo) := goodIn_app (goodIn_of _ (by decide +kernel)) ggX1_hasCycle_X1_leadsTo
theorem dX1_hasCycle_0 : decode cX1_hasCycle 0 = .ok (.iconst 0, 1) := by decide +kernel
theorem dX1_hasCycle_1 : decode cX1_hasCycle 1 = .ok (.istore_n 1, 1) := by decide +kernel
theorem dX1_hasCycle_2 : decode cX1_hasCycle 2 = .ok (.iload_n 1, 1) := by decide +kernel
theorem dX1_hasCycle_3 : decode cX1_hasCycle 3 = .ok (.aload_n 0, 1) := by decide +kernel
theorem dX1_hasCycle_4 : decode cX1_hasCycle 4 = .ok (.getfield 22, 3) := by decide +kernel
theorem dX1_hasCycle_7 : decode cX1_hasCycle 7 = .ok (.if_icmp .ge 52, 3) := by decide +kernel
theorem dX1_hasCycle_10 : decode cX1_hasCycle 10 = .ok (.aload_n 0, 1) := by decide +kernel
theorem dX1_hasCycle_11 : decode cX1_hasCycle 11 = .ok (.getfield 11, 3) := by decide +kernel
theorem dX1_hasCycle_14 : decode cX1_hasCycle 14 = .ok (.iload_n 1, 1) := by decide +kernel
theorem dX1_hasCycle_15 : decode cX1_hasCycle 15 = .ok (.aaload, 1) := by decide +kernel
theorem dX1_hasCycle_16 : decode cX1_hasCycle 16 = .ok (.astore_n 2, 1) := by decide +kernel
theorem dX1_hasCycle_17 : decode cX1_hasCycle 17 = .ok (.aload_n 2, 1) := by decide +kernel
theorem dX1_hasCycle_18 : decode cX1_hasCycle 18 = .ok (.getfield 29, 3) := by decide +kernel
theorem dX1_hasCycle_21 : decode cX1_hasCycle 21 = .ok (.iconst 4, 1) := by decide +kernel
theorem dX1_hasCycle_22 : decode cX1_hasCycle 22 = .ok (.if_icmp .ne 31, 3) := by decide +kernel
theorem dX1_hasCycle_25 : decode cX1_hasCycle 25 = .ok (.aload_n 2, 1) := by decide +kernel
theorem dX1_hasCycle_26 : decode cX1_hasCycle 26 = .ok (.getfield 35, 3) := by decide +kernel
theorem dX1_hasCycle_29 : decode cX1_hasCycle 29 = .ok (.aload_n 2, 1) := by decide +kernel
theorem dX1_hasCycle_30 : decode cX1_hasCycle 30 = .ok (.getfield 26, 3) := by decide +kernel
theorem dX1_hasCycle_33 : decode cX1_hasCycle 33 = .ok (.if_icmp .eq 18, 3) := by decide +kernel
theorem dX1_hasCycle_36 : decode cX1_hasCycle 36 = .ok (.aload_n 0, 1) := by decide +kernel
theorem dX1_hasCycle_37 : decode cX1_hasCycle 37 = .ok (.aload_n 2, 1) := by decide +kernel
theorem dX1_hasCycle_38 : decode cX1_hasCycle 38 = .ok (.getfield 35, 3) := by decide +kernel
theorem dX1_hasCycle_41 : decode cX1_hasCycle 41 = .ok (.aload_n 2, 1) := by decide +kernel
theorem dX1_hasCycle_42 : decode cX1_hasCycle 42 = .ok (.getfield 26, 3) := by decide +kernel
theorem dX1_hasCycle_45 : decode cX1_hasCycle 45 = .ok (.invokevirtual 51, 3) := by decide +kernel
theorem dX1_hasCycle_48 : decode cX1_hasCycle 48 = .ok (.ifCond .eq 5, 3) := by decide +kernel
theorem dX1_hasCycle_51 : decode cX1_hasCycle 51 = .ok (.iconst 1, 1) := by decide +kernel
theorem dX1_hasCycle_52 : decode cX1_hasCycle 52 = .ok (.ireturn, 1) := by decide +kernel
theorem dX1_hasCycle_53 : decode cX1_hasCycle 53 = .ok (.iinc 1 1, 3) := by decide +kernel
theorem dX1_hasCycle_56 : decode cX1_hasCycle 56 = .ok (.goto (-54), 3) := by decide +kernel
theorem dX1_hasCycle_59 : decode cX1_hasCycle 59 = .ok (.iconst 0, 1) := by decide +kernel
theorem dX1_hasCycle_60 : decode cX1_hasCycle 60 = .ok (.ireturn, 1) := by decide +kernel
set_option maxRecDepth 20000 in
theorem ggX1_layerOf_J6_bitCount_0f7a4 : GoodIn wsX1_layerOf wsJ6_bitCount_0f7a4 := goodIn_r _ [5, 6, 7, 8] (by decide +kernel) (by decide +kernel)
set_option maxRecDepth 20000 in
theorem gX1_layerOf_J6_bitCount_0f7a4 : GoodIn wsX1_layerOf (va_wsS RX1 55 yJ6_bitCount_0f7a4 wsJ6_bitCount_0f7a4) := goodIn_app (goodIn_of _ (by decide +kernel)) ggX1_layerOf_J6_bitCount_0f7a4
theorem dX1_layerOf_0 : decode cX1_layerOf 0 = .ok (.aload_n 0, 1) := by decide +kernel
theorem dX1_layerOf_1 : decode cX1_layerOf 1 = .ok (.getfield 18, 3) := by decide +kernel
theorem dX1_layerOf_4 : decode cX1_layerOf 4 = .ok (.iload_n 1, 1) := by decide +kernel
theorem dX1_layerOf_5 : decode cX1_layerOf 5 = .ok (.iaload, 1) := by decide +kernel
theorem dX1_layerOf_6 : decode cX1_layerOf 6 = .ok (.iconst 1, 1) := by decide +kernel
theorem dX1_layerOf_7 : decode cX1_layerOf 7 = .ok (.iload_n 1, 1) := by decide +kernel
theorem dX1_layerOf_8 : decode cX1_layerOf 8 = .ok (.ishl, 1) := by decide +kernel
theorem dX1_layerOf_9 : decode cX1_layerOf 9 = .ok (.ior, 1) := by decide +kernel
theorem dX1_layerOf_10 : decode cX1_layerOf 10 = .ok (.invokestatic 55, 3) := by decide +kernel
theorem dX1_layerOf_13 : decode cX1_layerOf 13 = .ok (.ireturn, 1) := by decide +kernel
