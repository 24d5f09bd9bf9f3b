theorem dX2_isThing_14 : decode cX2_isThing 14 = .ok (.ireturn, 1) := by decide +kernel
theorem dX2_bit_0 : decode cX2_bit 0 = .ok (.iconst 1, 1) := by decide +kernel
theorem dX2_bit_1 : decode cX2_bit 1 = .ok (.iconst 5, 1) := by decide +kernel
theorem dX2_bit_2 : decode cX2_bit 2 = .ok (.iload_n 0, 1) := by decide +kernel
theorem dX2_bit_3 : decode cX2_bit 3 = .ok (.imul, 1) := by decide +kernel
theorem dX2_bit_4 : decode cX2_bit 4 = .ok (.iload_n 1, 1) := by decide +kernel
theorem dX2_bit_5 : decode cX2_bit 5 = .ok (.iadd, 1) := by decide +kernel
theorem dX2_bit_6 : decode cX2_bit 6 = .ok (.ishl, 1) := by decide +kernel
theorem dX2_bit_7 : decode cX2_bit 7 = .ok (.ireturn, 1) := by decide +kernel
theorem dX2_holds_0 : decode cX2_holds 0 = .ok (.iload_n 0, 1) := by decide +kernel
theorem dX2_holds_1 : decode cX2_holds 1 = .ok (.iconst 5, 1) := by decide +kernel
theorem dX2_holds_2 : decode cX2_holds 2 = .ok (.iload_n 1, 1) := by decide +kernel
theorem dX2_holds_3 : decode cX2_holds 3 = .ok (.imul, 1) := by decide +kernel
theorem dX2_holds_4 : decode cX2_holds 4 = .ok (.iload_n 2, 1) := by decide +kernel
theorem dX2_holds_5 : decode cX2_holds 5 = .ok (.iadd, 1) := by decide +kernel
theorem dX2_holds_6 : decode cX2_holds 6 = .ok (.ishr, 1) := by decide +kernel
theorem dX2_holds_7 : decode cX2_holds 7 = .ok (.iconst 1, 1) := by decide +kernel
theorem dX2_holds_8 : decode cX2_holds 8 = .ok (.iand, 1) := by decide +kernel
theorem dX2_holds_9 : decode cX2_holds 9 = .ok (.ifCond .eq 7, 3) := by decide +kernel
theorem dX2_holds_12 : decode cX2_holds 12 = .ok (.iconst 1, 1) := by decide +kernel
theorem dX2_holds_13 : decode cX2_holds 13 = .ok (.goto 4, 3) := by decide +kernel
theorem dX2_holds_16 : decode cX2_holds 16 = .ok (.iconst 0, 1) := by decide +kernel
theorem dX2_holds_17 : decode cX2_holds 17 = .ok (.ireturn, 1) := by decide +kernel
theorem dX2_row_0 : decode cX2_row 0 = .ok (.iload_n 0, 1) := by decide +kernel
theorem dX2_row_1 : decode cX2_row 1 = .ok (.iconst 5, 1) := by decide +kernel
theorem dX2_row_2 : decode cX2_row 2 = .ok (.iload_n 1, 1) := by decide +kernel
theorem dX2_row_3 : decode cX2_row 3 = .ok (.imul, 1) := by decide +kernel
theorem dX2_row_4 : decode cX2_row 4 = .ok (.ishr, 1) := by decide +kernel
theorem dX2_row_5 : decode cX2_row 5 = .ok (.bipush 31, 2) := by decide +kernel
theorem dX2_row_7 : decode cX2_row 7 = .ok (.iand, 1) := by decide +kernel
theorem dX2_row_8 : decode cX2_row 8 = .ok (.ireturn, 1) := by decide +kernel
set_option maxRecDepth 20000 in
theorem ggX2_turned_X2_holds : GoodIn wsX2_turned wsX2_holds := goodIn_r _ [4] (by decide +kernel) (by decide +kernel)
set_option maxRecDepth 20000 in
theorem gX2_turned_X2_holds : GoodIn wsX2_turned (va_wsS RX2 91 yX2_holds wsX2_holds) := goodIn_app (goodIn_of _ (by decide +kernel)) ggX2_turned_X2_holds
set_option maxRecDepth 20000 in
theorem ggX2_turned_X2_bit : GoodIn wsX2_turned wsX2_bit := goodIn_r _ [7] (by decide +kernel) (by decide +kernel)
set_option maxRecDepth 20000 in
theorem gX2_turned_X2_bit : GoodIn wsX2_turned (va_wsS RX2 69 yX2_bit wsX2_bit) := goodIn_app (goodIn_of _ (by decide +kernel)) ggX2_turned_X2_bit
theorem dX2_turned_0 : decode cX2_turned 0 = .ok (.iconst 0, 1) := by decide +kernel
theorem dX2_turned_1 : decode cX2_turned 1 = .ok (.istore_n 1, 1) := by decide +kernel
theorem dX2_turned_2 : decode cX2_turned 2 = .ok (.iconst 0, 1) := by decide +kernel
theorem dX2_turned_3 : decode cX2_turned 3 = .ok (.istore_n 2, 1) := by decide +kernel
theorem dX2_turned_4 : decode cX2_turned 4 = .ok (.iload_n 2, 1) := by decide +kernel
theorem dX2_turned_5 : decode cX2_turned 5 = .ok (.iconst 5, 1) := by decide +kernel
theorem dX2_turned_6 : decode cX2_turned 6 = .ok (.if_icmp .ge 39, 3) := by decide +kernel
theorem dX2_turned_9 : decode cX2_turned 9 = .ok (.iconst 0, 1) := by decide +kernel
theorem dX2_turned_10 : decode cX2_turned 10 = .ok (.istore_n 3, 1) := by decide +kernel
theorem dX2_turned_11 : decode cX2_turned 11 = .ok (.iload_n 3, 1) := by decide +kernel
theorem dX2_turned_12 : decode cX2_turned 12 = .ok (.iconst 5, 1) := by decide +kernel
theorem dX2_turned_13 : decode cX2_turned 13 = .ok (.if_icmp .ge 26, 3) := by decide +kernel
theorem dX2_turned_16 : decode cX2_turned 16 = .ok (.iload_n 0, 1) := by decide +kernel
theorem dX2_turned_17 : decode cX2_turned 17 = .ok (.iload_n 3, 1) := by decide +kernel
theorem dX2_turned_18 : decode cX2_turned 18 = .ok (.iload_n 2, 1) := by decide +kernel
theorem dX2_turned_19 : decode cX2_turned 19 = .ok (.invokestatic 91, 3) := by decide +kernel
theorem dX2_turned_22 : decode cX2_turned 22 = .ok (.ifCond .eq 11, 3) := by decide +kernel
theorem dX2_turned_25 : decode cX2_turned 25 = .ok (.iload_n 1, 1) := by decide +kernel
theorem dX2_turned_26 : decode cX2_turned 26 = .ok (.iload_n 2, 1) := by decide +kernel
theorem dX2_turned_27 : decode cX2_turned 27 = .ok (.iload_n 3, 1) := by decide +kernel
theorem dX2_turned_28 : decode cX2_turned 28 = .ok (.invokestatic 69, 3) := by decide +kernel
theorem dX2_turned_31 : decode cX2_turned 31 = .ok (.ior, 1) := by decide +kernel
theorem dX2_turned_32 : decode cX2_turned 32 = .ok (.istore_n 1, 1) := by decide +kernel
theorem dX2_turned_33 : decode cX2_turned 33 = .ok (.iinc 3 1, 3) := by decide +kernel
theorem dX2_turned_36 : decode cX2_turned 36 = .ok (.goto (-25), 3) := by decide +kernel
theorem dX2_turned_39 : decode cX2_turned 39 = .ok (.iinc 2 1, 3) := by decide +kernel
theorem dX2_turned_42 : decode cX2_turned 42 = .ok (.goto (-38), 3) := by decide +kernel
theorem dX2_turned_45 : decode cX2_turned 45 = .ok (.iload_n 1, 1) := by decide +kernel
theorem dX2_turned_46 : decode cX2_turned 46 = .ok (.ireturn, 1) := by decide +kernel
set_option maxRecDepth 20000 in
theorem ggX2_joined_X2_holds : GoodIn wsX2_joined wsX2_holds := goodIn_r _ [4] (by decide +kernel) (by decide +kernel)
set_option maxRecDepth 20000 in
theorem gX2_joined_X2_holds : GoodIn wsX2_joined (va_wsS RX2 91 yX2_holds wsX2_holds) := goodIn_app (goodIn_of _ (by decide +kernel)) ggX2_joined_X2_holds
set_option maxRecDepth 20000 in
theorem ggX2_joined_X2_row : GoodIn wsX2_joined wsX2_row := goodIn_r _ [7] (by decide +kernel) (by decide +kernel)
set_option maxRecDepth 20000 in
theorem gX2_joined_X2_row : GoodIn wsX2_joined (va_wsS RX2 102 yX2_row wsX2_row) := goodIn_app (goodIn_of _ (by decide +kernel)) ggX2_joined_X2_row
theorem dX2_joined_0 : decode cX2_joined 0 = .ok (.iconst 0, 1) := by decide +kernel
theorem dX2_joined_1 : decode cX2_joined 1 = .ok (.istore_n 2, 1) := by decide +kernel
theorem dX2_joined_2 : decode cX2_joined 2 = .ok (.iconst 0, 1) := by decide +kernel
theorem dX2_joined_3 : decode cX2_joined 3 = .ok (.istore_n 3, 1) := by decide +kernel
theorem dX2_joined_4 : decode cX2_joined 4 = .ok (.iload_n 3, 1) := by decide +kernel
theorem dX2_joined_5 : decode cX2_joined 5 = .ok (.iconst 5, 1) := by decide +kernel
theorem dX2_joined_6 : decode cX2_joined 6 = .ok (.if_icmp .ge 47, 3) := by decide +kernel
theorem dX2_joined_9 : decode cX2_joined 9 = .ok (.iconst 0, 1) := by decide +kernel
theorem dX2_joined_10 : decode cX2_joined 10 = .ok (.istore 4, 2) := by decide +kernel
theorem dX2_joined_12 : decode cX2_joined 12 = .ok (.iload 4, 2) := by decide +kernel
theorem dX2_joined_14 : decode cX2_joined 14 = .ok (.iconst 5, 1) := by decide +kernel
theorem dX2_joined_15 : decode cX2_joined 15 = .ok (.if_icmp .ge 32, 3) := by decide +kernel
theorem dX2_joined_18 : decode cX2_joined 18 = .ok (.iload_n 0, 1) := by decide +kernel
theorem dX2_joined_19 : decode cX2_joined 19 = .ok (.iload_n 3, 1) := by decide +kernel
theorem dX2_joined_20 : decode cX2_joined 20 = .ok (.iload 4, 2) := by decide +kernel
theorem dX2_joined_22 : decode cX2_joined 22 = .ok (.invokestatic 91, 3) := by decide +kernel
theorem dX2_joined_25 : decode cX2_joined 25 = .ok (.ifCond .eq 16, 3) := by decide +kernel
theorem dX2_joined_28 : decode cX2_joined 28 = .ok (.iload_n 2, 1) := by decide +kernel
theorem dX2_joined_29 : decode cX2_joined 29 = .ok (.iload_n 1, 1) := by decide +kernel
theorem dX2_joined_30 : decode cX2_joined 30 = .ok (.iload 4, 2) := by decide +kernel
theorem dX2_joined_32 : decode cX2_joined 32 = .ok (.invokestatic 102, 3) := by decide +kernel
theorem dX2_joined_35 : decode cX2_joined 35 = .ok (.iconst 5, 1) := by decide +kernel
theorem dX2_joined_36 : decode cX2_joined 36 = .ok (.iload_n 3, 1) := by decide +kernel
theorem dX2_joined_37 : decode cX2_joined 37 = .ok (.imul, 1) := by decide +kernel
theorem dX2_joined_38 : decode cX2_joined 38 = .ok (.ishl, 1) := by decide +kernel
theorem dX2_joined_39 : decode cX2_joined 39 = .ok (.ior, 1) := by decide +kernel
theorem dX2_joined_40 : decode cX2_joined 40 = .ok (.istore_n 2, 1) := by decide +kernel
theorem dX2_joined_41 : decode cX2_joined 41 = .ok (.iinc 4 1, 3) := by decide +kernel
theorem dX2_joined_44 : decode cX2_joined 44 = .ok (.goto (-32), 3) := by decide +kernel
theorem dX2_joined_47 : decode cX2_joined 47 = .ok (.iinc 3 1, 3) := by decide +kernel
theorem dX2_joined_50 : decode cX2_joined 50 = .ok (.goto (-46), 3) := by decide +kernel
theorem dX2_joined_53 : decode cX2_joined 53 = .ok (.iload_n 2, 1) := by decide +kernel
theorem dX2_joined_54 : decode cX2_joined 54 = .ok (.ireturn, 1) := by decide +kernel
set_option maxRecDepth 20000 in
theorem ggX2_startFromNothing_J7_fill_53178 : GoodIn wsX2_startFromNothing wsJ7_fill_53178 := goodIn_r _ [8] (by decide +kernel) (by decide +kernel)
set_option maxRecDepth 20000 in
theorem gX2_startFromNothing_J7_fill_53178 : GoodIn wsX2_startFromNothing (va_wsS RX2 105 yJ7_fill_53178 wsJ7_fill_53178) := goodIn_app (goodIn_of _ (by decide +kernel)) ggX2_startFromNothing_J7_fill_53178
theorem dX2_startFromNothing_0 : decode cX2_startFromNothing 0 = .ok (.aload_n 0, 1) := by decide +kernel
theorem dX2_startFromNothing_1 : decode cX2_startFromNothing 1 = .ok (.getfield 20, 3) := by decide +kernel
theorem dX2_startFromNothing_4 : decode cX2_startFromNothing 4 = .ok (.iconst 0, 1) := by decide +kernel
theorem dX2_startFromNothing_5 : decode cX2_startFromNothing 5 = .ok (.invokestatic 105, 3) := by decide +kernel
theorem dX2_startFromNothing_8 : decode cX2_startFromNothing 8 = .ok (.aload_n 0, 1) := by decide +kernel
theorem dX2_startFromNothing_9 : decode cX2_startFromNothing 9 = .ok (.getfield 23, 3) := by decide +kernel
theorem dX2_startFromNothing_12 : decode cX2_startFromNothing 12 = .ok (.iconst 0, 1) := by decide +kernel
theorem dX2_startFromNothing_13 : decode cX2_startFromNothing 13 = .ok (.invokestatic 105, 3) := by decide +kernel
theorem dX2_startFromNothing_16 : decode cX2_startFromNothing 16 = .ok (.aload_n 0, 1) := by decide +kernel
theorem dX2_startFromNothing_17 : decode cX2_startFromNothing 17 = .ok (.getfield 26, 3) := by decide +kernel
theorem dX2_startFromNothing_20 : decode cX2_startFromNothing 20 = .ok (.iconst 0, 1) := by decide +kernel
theorem dX2_startFromNothing_21 : decode cX2_startFromNothing 21 = .ok (.invokestatic 105, 3) := by decide +kernel
theorem dX2_startFromNothing_24 : decode cX2_startFromNothing 24 = .ok (.iconst 2, 1) := by decide +kernel
theorem dX2_startFromNothing_25 : decode cX2_startFromNothing 25 = .ok (.istore_n 1, 1) := by decide +kernel
theorem dX2_startFromNothing_26 : decode cX2_startFromNothing 26 = .ok (.iload_n 1, 1) := by decide +kernel
theorem dX2_startFromNothing_27 : decode cX2_startFromNothing 27 = .ok (.bipush 7, 2) := by decide +kernel
theorem dX2_startFromNothing_29 : decode cX2_startFromNothing 29 = .ok (.if_icmp .ge 16, 3) := by decide +kernel
theorem dX2_startFromNothing_32 : decode cX2_startFromNothing 32 = .ok (.aload_n 0, 1) := by decide +kernel
theorem dX2_startFromNothing_33 : decode cX2_startFromNothing 33 = .ok (.getfield 16, 3) := by decide +kernel
theorem dX2_startFromNothing_36 : decode cX2_startFromNothing 36 = .ok (.iload_n 1, 1) := by decide +kernel
theorem dX2_startFromNothing_37 : decode cX2_startFromNothing 37 = .ok (.iconst 0, 1) := by decide +kernel
theorem dX2_startFromNothing_38 : decode cX2_startFromNothing 38 = .ok (.iastore, 1) := by decide +kernel
theorem dX2_startFromNothing_39 : decode cX2_startFromNothing 39 = .ok (.iinc 1 1, 3) := by decide +kernel
theorem dX2_startFromNothing_42 : decode cX2_startFromNothing 42 = .ok (.goto (-16), 3) := by decide +kernel
theorem dX2_startFromNothing_45 : decode cX2_startFromNothing 45 = .ok (.return_, 1) := by decide +kernel
set_option maxRecDepth 20000 in
theorem ggX2_bringUpToDate_X2_recount : GoodIn wsX2_bringUpToDate wsX2_recount := goodIn_r _ [5, 6, 7, 8, 9, 10, 11, 12, 13, 14, 15, 16, 17, 18, 19, 20, 21, 22, 23, 24, 25, 26, 27, 28, 29, 30, 31, 32, 33, 34, 35, 36, 37, 38, 39, 4, 40, 41, 42, 43, 44, 45, 46, 47, 48, 49, 50, 51, 52, 53, 54, 55, 56, 57, 58, 59, 60, 100, 101, 102, 103, 104, 105, 106, 107, 108, 109, 110, 111, 112, 113] (by decide +kernel) (by decide +kernel)
set_option maxRecDepth 20000 in
theorem gX2_bringUpToDate_X2_recount : GoodIn wsX2_bringUpToDate (wsV RX2 111 RX2 yX2_recount wsX2_recount) := goodIn_app (goodIn_of _ (by decide +kernel)) ggX2_bringUpToDate_X2_recount
set_option maxRecDepth 20000 in
theorem ggX2_bringUpToDate_X2_findSuspects : GoodIn wsX2_bringUpToDate wsX2_findSuspects := goodIn_r _ [64, 65, 66, 67, 4, 68, 6, 69, 9, 10, 11, 12, 13, 14, 15, 16, 17, 18, 19, 20, 21, 22, 23, 24, 25, 26, 27, 70, 71, 72, 73, 7, 74, 75, 76, 77, 78, 79, 80, 81, 8, 82, 51, 52, 41, 42, 43, 53, 54, 55, 83, 39, 40, 44, 45, 46, 84, 85, 86, 87, 100, 101, 102, 103, 104, 105, 106, 107, 108, 109, 110, 111, 112, 113] (by decide +kernel) (by decide +kernel)
set_option maxRecDepth 20000 in
theorem gX2_bringUpToDate_X2_findSuspects : GoodIn wsX2_bringUpToDate (wsV RX2 115 RX2 yX2_findSuspects wsX2_findSuspects) := goodIn_app (goodIn_of _ (by decide +kernel)) ggX2_bringUpToDate_X2_findSuspects
set_option maxRecDepth 20000 in
theorem ggX2_bringUpToDate_X2_takeOutSuspects : GoodIn wsX2_bringUpToDate wsX2_takeOutSuspects := goodIn_r _ [91, 6, 8, 69, 9, 10, 11, 12, 13, 14, 15, 16, 17, 18, 19, 20, 100, 101, 102, 103, 104, 105, 106, 107, 108, 109] (by decide +kernel) (by decide +kernel)
set_option maxRecDepth 20000 in
theorem gX2_bringUpToDate_X2_takeOutSuspects : GoodIn wsX2_bringUpToDate (wsV RX2 118 RX2 yX2_takeOutSuspects wsX2_takeOutSuspects) := goodIn_app (goodIn_of _ (by decide +kernel)) ggX2_bringUpToDate_X2_takeOutSuspects
set_option maxRecDepth 20000 in
theorem ggX2_bringUpToDate_X2_fill : GoodIn wsX2_bringUpToDate wsX2_fill := goodIn_r _ [95, 96, 97, 98, 4, 99, 6, 8, 9, 10, 11, 12, 13, 14, 15, 16, 17, 18, 19, 20, 21, 22, 23, 24, 25, 26, 27, 48, 29, 49, 50, 32, 36, 38, 51, 52, 41, 42, 43, 53, 54, 55, 39, 40, 44, 45, 46, 100, 101, 102, 103, 104, 105, 106, 107, 108, 109, 110, 111, 112, 113] (by decide +kernel) (by decide +kernel)
set_option maxRecDepth 20000 in
theorem gX2_bringUpToDate_X2_fill : GoodIn wsX2_bringUpToDate (wsV RX2 121 RX2 yX2_fill wsX2_fill) := goodIn_app (goodIn_of _ (by decide +kernel)) ggX2_bringUpToDate_X2_fill
theorem dX2_bringUpToDate_0 : decode cX2_bringUpToDate 0 = .ok (.iconst 1, 1) := by decide +kernel
theorem dX2_bringUpToDate_1 : decode cX2_bringUpToDate 1 = .ok (.istore_n 1, 1) := by decide +kernel
theorem dX2_bringUpToDate_2 : decode cX2_bringUpToDate 2 = .ok (.iload_n 1, 1) := by decide +kernel
theorem dX2_bringUpToDate_3 : decode cX2_bringUpToDate 3 = .ok (.bipush 7, 2) := by decide +kernel
theorem dX2_bringUpToDate_5 : decode cX2_bringUpToDate 5 = .ok (.if_icmp .gt 29, 3) := by decide +kernel
theorem dX2_bringUpToDate_8 : decode cX2_bringUpToDate 8 = .ok (.aload_n 0, 1) := by decide +kernel
theorem dX2_bringUpToDate_9 : decode cX2_bringUpToDate 9 = .ok (.iload_n 1, 1) := by decide +kernel
theorem dX2_bringUpToDate_10 : decode cX2_bringUpToDate 10 = .ok (.invokevirtual 111, 3) := by decide +kernel
theorem dX2_bringUpToDate_13 : decode cX2_bringUpToDate 13 = .ok (.aload_n 0, 1) := by decide +kernel
theorem dX2_bringUpToDate_14 : decode cX2_bringUpToDate 14 = .ok (.iload_n 1, 1) := by decide +kernel
theorem dX2_bringUpToDate_15 : decode cX2_bringUpToDate 15 = .ok (.invokevirtual 115, 3) := by decide +kernel
theorem dX2_bringUpToDate_18 : decode cX2_bringUpToDate 18 = .ok (.aload_n 0, 1) := by decide +kernel
theorem dX2_bringUpToDate_19 : decode cX2_bringUpToDate 19 = .ok (.iload_n 1, 1) := by decide +kernel
theorem dX2_bringUpToDate_20 : decode cX2_bringUpToDate 20 = .ok (.invokevirtual 118, 3) := by decide +kernel
theorem dX2_bringUpToDate_23 : decode cX2_bringUpToDate 23 = .ok (.aload_n 0, 1) := by decide +kernel
theorem dX2_bringUpToDate_24 : decode cX2_bringUpToDate 24 = .ok (.iload_n 1, 1) := by decide +kernel
theorem dX2_bringUpToDate_25 : decode cX2_bringUpToDate 25 = .ok (.invokevirtual 121, 3) := by decide +kernel
theorem dX2_bringUpToDate_28 : decode cX2_bringUpToDate 28 = .ok (.iinc 1 1, 3) := by decide +kernel
theorem dX2_bringUpToDate_31 : decode cX2_bringUpToDate 31 = .ok (.goto (-29), 3) := by decide +kernel
theorem dX2_bringUpToDate_34 : decode cX2_bringUpToDate 34 = .ok (.return_, 1) := by decide +kernel
set_option maxRecDepth 20000 in
theorem ggX2_forgetChanges_J7_fill_53178 : GoodIn wsX2_forgetChanges wsJ7_fill_53178 := goodIn_r _ [11] (by decide +kernel) (by decide +kernel)
set_option maxRecDepth 20000 in
theorem gX2_forgetChanges_J7_fill_53178 : GoodIn wsX2_forgetChanges (va_wsS RX2 105 yJ7_fill_53178 wsJ7_fill_53178) := goodIn_app (goodIn_of _ (by decide +kernel)) ggX2_forgetChanges_J7_fill_53178
theorem dX2_forgetChanges_0 : decode cX2_forgetChanges 0 = .ok (.aload_n 0, 1) := by decide +kernel
theorem dX2_forgetChanges_1 : decode cX2_forgetChanges 1 = .ok (.getfield 16, 3) := by decide +kernel
theorem dX2_forgetChanges_4 : decode cX2_forgetChanges 4 = .ok (.iconst 0, 1) := by decide +kernel
theorem dX2_forgetChanges_5 : decode cX2_forgetChanges 5 = .ok (.aload_n 0, 1) := by decide +kernel
theorem dX2_forgetChanges_6 : decode cX2_forgetChanges 6 = .ok (.getfield 20, 3) := by decide +kernel
theorem dX2_forgetChanges_9 : decode cX2_forgetChanges 9 = .ok (.iconst 0, 1) := by decide +kernel
theorem dX2_forgetChanges_10 : decode cX2_forgetChanges 10 = .ok (.bipush 7, 2) := by decide +kernel
theorem dX2_forgetChanges_12 : decode cX2_forgetChanges 12 = .ok (.invokestatic 123, 3) := by decide +kernel
theorem dX2_forgetChanges_15 : decode cX2_forgetChanges 15 = .ok (.aload_n 0, 1) := by decide +kernel
theorem dX2_forgetChanges_16 : decode cX2_forgetChanges 16 = .ok (.getfield 23, 3) := by decide +kernel
theorem dX2_forgetChanges_19 : decode cX2_forgetChanges 19 = .ok (.iconst 0, 1) := by decide +kernel
theorem dX2_forgetChanges_20 : decode cX2_forgetChanges 20 = .ok (.invokestatic 105, 3) := by decide +kernel
theorem dX2_forgetChanges_23 : decode cX2_forgetChanges 23 = .ok (.return_, 1) := by decide +kernel
set_option maxRecDepth 20000 in
theorem ggX2_doStaged_X2_clearStaged : GoodIn wsX2_doStaged wsX2_clearStaged := goodIn_r _ [8, 2, 3, 9, 10, 11, 12, 13, 14, 15, 16, 17, 18, 19] (by decide +kernel) (by decide +kernel)
set_option maxRecDepth 20000 in
theorem gX2_doStaged_X2_clearStaged : GoodIn wsX2_doStaged (wsV RX2 88 RX2 yX2_clearStaged wsX2_clearStaged) := goodIn_app (goodIn_of _ (by decide +kernel)) ggX2_doStaged_X2_clearStaged
theorem dX2_doStaged_0 : decode cX2_doStaged 0 = .ok (.iconst 0, 1) := by decide +kernel
theorem dX2_doStaged_1 : decode cX2_doStaged 1 = .ok (.istore_n 1, 1) := by decide +kernel
theorem dX2_doStaged_2 : decode cX2_doStaged 2 = .ok (.iload_n 1, 1) := by decide +kernel
theorem dX2_doStaged_3 : decode cX2_doStaged 3 = .ok (.iconst 2, 1) := by decide +kernel
theorem dX2_doStaged_4 : decode cX2_doStaged 4 = .ok (.if_icmp .ge 37, 3) := by decide +kernel
theorem dX2_doStaged_7 : decode cX2_doStaged 7 = .ok (.aload_n 0, 1) := by decide +kernel
theorem dX2_doStaged_8 : decode cX2_doStaged 8 = .ok (.getfield 16, 3) := by decide +kernel
theorem dX2_doStaged_11 : decode cX2_doStaged 11 = .ok (.iload_n 1, 1) := by decide +kernel
theorem dX2_doStaged_12 : decode cX2_doStaged 12 = .ok (.aload_n 0, 1) := by decide +kernel
theorem dX2_doStaged_13 : decode cX2_doStaged 13 = .ok (.getfield 16, 3) := by decide +kernel
theorem dX2_doStaged_16 : decode cX2_doStaged 16 = .ok (.iload_n 1, 1) := by decide +kernel
theorem dX2_doStaged_17 : decode cX2_doStaged 17 = .ok (.iaload, 1) := by decide +kernel
theorem dX2_doStaged_18 : decode cX2_doStaged 18 = .ok (.aload_n 0, 1) := by decide +kernel
theorem dX2_doStaged_19 : decode cX2_doStaged 19 = .ok (.getfield 29, 3) := by decide +kernel
theorem dX2_doStaged_22 : decode cX2_doStaged 22 = .ok (.iload_n 1, 1) := by decide +kernel
theorem dX2_doStaged_23 : decode cX2_doStaged 23 = .ok (.iaload, 1) := by decide +kernel
theorem dX2_doStaged_24 : decode cX2_doStaged 24 = .ok (.ior, 1) := by decide +kernel
theorem dX2_doStaged_25 : decode cX2_doStaged 25 = .ok (.aload_n 0, 1) := by decide +kernel
theorem dX2_doStaged_26 : decode cX2_doStaged 26 = .ok (.getfield 32, 3) := by decide +kernel
theorem dX2_doStaged_29 : decode cX2_doStaged 29 = .ok (.iload_n 1, 1) := by decide +kernel
theorem dX2_doStaged_30 : decode cX2_doStaged 30 = .ok (.iaload, 1) := by decide +kernel
theorem dX2_doStaged_31 : decode cX2_doStaged 31 = .ok (.iconst (-1), 1) := by decide +kernel
theorem dX2_doStaged_32 : decode cX2_doStaged 32 = .ok (.ixor, 1) := by decide +kernel
theorem dX2_doStaged_33 : decode cX2_doStaged 33 = .ok (.iand, 1) := by decide +kernel
theorem dX2_doStaged_34 : decode cX2_doStaged 34 = .ok (.iastore, 1) := by decide +kernel
theorem dX2_doStaged_35 : decode cX2_doStaged 35 = .ok (.iinc 1 1, 3) := by decide +kernel
theorem dX2_doStaged_38 : decode cX2_doStaged 38 = .ok (.goto (-36), 3) := by decide +kernel
theorem dX2_doStaged_41 : decode cX2_doStaged 41 = .ok (.aload_n 0, 1) := by decide +kernel
theorem dX2_doStaged_42 : decode cX2_doStaged 42 = .ok (.invokevirtual 88, 3) := by decide +kernel
theorem dX2_doStaged_45 : decode cX2_doStaged 45 = .ok (.return_, 1) := by decide +kernel
set_option maxRecDepth 20000 in
theorem ggX2_clearStaged_J7_fill_53178 : GoodIn wsX2_clearStaged wsJ7_fill_53178 := goodIn_r _ [6] (by decide +kernel) (by decide +kernel)
set_option maxRecDepth 20000 in
theorem gX2_clearStaged_J7_fill_53178 : GoodIn wsX2_clearStaged (va_wsS RX2 105 yJ7_fill_53178 wsJ7_fill_53178) := goodIn_app (goodIn_of _ (by decide +kernel)) ggX2_clearStaged_J7_fill_53178
theorem dX2_clearStaged_0 : decode cX2_clearStaged 0 = .ok (.aload_n 0, 1) := by decide +kernel
theorem dX2_clearStaged_1 : decode cX2_clearStaged 1 = .ok (.getfield 29, 3) := by decide +kernel
theorem dX2_clearStaged_4 : decode cX2_clearStaged 4 = .ok (.iconst 0, 1) := by decide +kernel
theorem dX2_clearStaged_5 : decode cX2_clearStaged 5 = .ok (.invokestatic 105, 3) := by decide +kernel
theorem dX2_clearStaged_8 : decode cX2_clearStaged 8 = .ok (.aload_n 0, 1) := by decide +kernel
theorem dX2_clearStaged_9 : decode cX2_clearStaged 9 = .ok (.getfield 32, 3) := by decide +kernel
theorem dX2_clearStaged_12 : decode cX2_clearStaged 12 = .ok (.iconst 0, 1) := by decide +kernel
theorem dX2_clearStaged_13 : decode cX2_clearStaged 13 = .ok (.invokestatic 105, 3) := by decide +kernel
theorem dX2_clearStaged_16 : decode cX2_clearStaged 16 = .ok (.return_, 1) := by decide +kernel
theorem dX2_putInto_0 : decode cX2_putInto 0 = .ok (.aload_n 0, 1) := by decide +kernel
theorem dX2_putInto_1 : decode cX2_putInto 1 = .ok (.getfield 16, 3) := by decide +kernel
theorem dX2_putInto_4 : decode cX2_putInto 4 = .ok (.iload_n 1, 1) := by decide +kernel
theorem dX2_putInto_5 : decode cX2_putInto 5 = .ok (.iaload, 1) := by decide +kernel
theorem dX2_putInto_6 : decode cX2_putInto 6 = .ok (.aload_n 0, 1) := by decide +kernel
theorem dX2_putInto_7 : decode cX2_putInto 7 = .ok (.getfield 20, 3) := by decide +kernel
theorem dX2_putInto_10 : decode cX2_putInto 10 = .ok (.iload_n 1, 1) := by decide +kernel
theorem dX2_putInto_11 : decode cX2_putInto 11 = .ok (.iaload, 1) := by decide +kernel
theorem dX2_putInto_12 : decode cX2_putInto 12 = .ok (.iconst (-1), 1) := by decide +kernel
theorem dX2_putInto_13 : decode cX2_putInto 13 = .ok (.ixor, 1) := by decide +kernel
theorem dX2_putInto_14 : decode cX2_putInto 14 = .ok (.iand, 1) := by decide +kernel
theorem dX2_putInto_15 : decode cX2_putInto 15 = .ok (.ireturn, 1) := by decide +kernel
theorem dX2_takenOutOf_0 : decode cX2_takenOutOf 0 = .ok (.aload_n 0, 1) := by decide +kernel
theorem dX2_takenOutOf_1 : decode cX2_takenOutOf 1 = .ok (.getfield 20, 3) := by decide +kernel
theorem dX2_takenOutOf_4 : decode cX2_takenOutOf 4 = .ok (.iload_n 1, 1) := by decide +kernel
theorem dX2_takenOutOf_5 : decode cX2_takenOutOf 5 = .ok (.iaload, 1) := by decide +kernel
theorem dX2_takenOutOf_6 : decode cX2_takenOutOf 6 = .ok (.aload_n 0, 1) := by decide +kernel
theorem dX2_takenOutOf_7 : decode cX2_takenOutOf 7 = .ok (.getfield 16, 3) := by decide +kernel
theorem dX2_takenOutOf_10 : decode cX2_takenOutOf 10 = .ok (.iload_n 1, 1) := by decide +kernel
theorem dX2_takenOutOf_11 : decode cX2_takenOutOf 11 = .ok (.iaload, 1) := by decide +kernel
theorem dX2_takenOutOf_12 : decode cX2_takenOutOf 12 = .ok (.iconst (-1), 1) := by decide +kernel
theorem dX2_takenOutOf_13 : decode cX2_takenOutOf 13 = .ok (.ixor, 1) := by decide +kernel
theorem dX2_takenOutOf_14 : decode cX2_takenOutOf 14 = .ok (.iand, 1) := by decide +kernel
theorem dX2_takenOutOf_15 : decode cX2_takenOutOf 15 = .ok (.ireturn, 1) := by decide +kernel
set_option maxRecDepth 20000 in
theorem ggX2_recount_X1_layerOf : GoodIn wsX2_recount wsX1_layerOf := goodIn_r _ [7, 8, 9, 10, 11, 12, 13, 14, 15, 64, 65, 66] (by decide +kernel) (by decide +kernel)
set_option maxRecDepth 20000 in
theorem gX2_recount_X1_layerOf_n138 : GoodIn wsX2_recount (wsX1_layerOf) := ggX2_recount_X1_layerOf
set_option maxRecDepth 20000 in
theorem ggX2_recount_X1_leadsBack : GoodIn wsX2_recount wsX1_leadsBack := goodIn_r _ [18, 19, 20, 21, 5, 22, 8, 64, 65, 66] (by decide +kernel) (by decide +kernel)
set_option maxRecDepth 20000 in
theorem gX2_recount_X1_leadsBack_n95 : GoodIn wsX2_recount (wsX1_leadsBack) := ggX2_recount_X1_leadsBack
set_option maxRecDepth 20000 in
theorem ggX2_recount_X0_ways : GoodIn wsX2_recount wsX0_ways := goodIn_r _ [26, 27, 67, 68, 69, 70] (by decide +kernel) (by decide +kernel)
set_option maxRecDepth 20000 in
theorem gX2_recount_X0_ways_n141 : GoodIn wsX2_recount (wsX0_ways) := ggX2_recount_X0_ways
set_option maxRecDepth 20000 in
theorem ggX2_recount_X0_givenBy : GoodIn wsX2_recount wsX0_givenBy := goodIn_r _ [30, 27, 31, 32, 33, 34, 35, 36, 37, 38, 39, 40, 41, 42, 43, 44, 45, 24, 46, 47, 48, 49, 50, 51, 67, 68, 69, 70] (by decide +kernel) (by decide +kernel)
set_option maxRecDepth 20000 in
theorem gX2_recount_X0_givenBy_n145 : GoodIn wsX2_recount (wsX0_givenBy) := ggX2_recount_X0_givenBy
set_option maxRecDepth 20000 in
theorem ggX2_recount_X2_recountPairs : GoodIn wsX2_recount wsX2_recountPairs := goodIn_r _ [55, 56, 3, 57, 58, 59, 60, 61, 62, 63] (by decide +kernel) (by decide +kernel)
set_option maxRecDepth 20000 in
theorem gX2_recount_X2_recountPairs : GoodIn wsX2_recount (wsV RX2 149 RX2 yX2_recountPairs wsX2_recountPairs) := goodIn_app (goodIn_of _ (by decide +kernel)) ggX2_recount_X2_recountPairs
theorem dX2_recount_0 : decode cX2_recount 0 = .ok (.iconst 0, 1) := by decide +kernel
theorem dX2_recount_1 : decode cX2_recount 1 = .ok (.istore_n 2, 1) := by decide +kernel
theorem dX2_recount_2 : decode cX2_recount 2 = .ok (.iload_n 2, 1) := by decide +kernel
theorem dX2_recount_3 : decode cX2_recount 3 = .ok (.aload_n 0, 1) := by decide +kernel
theorem dX2_recount_4 : decode cX2_recount 4 = .ok (.getfield 10, 3) := by decide +kernel
theorem dX2_recount_7 : decode cX2_recount 7 = .ok (.getfield 42, 3) := by decide +kernel
theorem dX2_recount_10 : decode cX2_recount 10 = .ok (.if_icmp .ge 94, 3) := by decide +kernel
theorem dX2_recount_13 : decode cX2_recount 13 = .ok (.aload_n 0, 1) := by decide +kernel
theorem dX2_recount_14 : decode cX2_recount 14 = .ok (.getfield 10, 3) := by decide +kernel
theorem dX2_recount_17 : decode cX2_recount 17 = .ok (.getfield 129, 3) := by decide +kernel
theorem dX2_recount_20 : decode cX2_recount 20 = .ok (.iload_n 2, 1) := by decide +kernel
theorem dX2_recount_21 : decode cX2_recount 21 = .ok (.aaload, 1) := by decide +kernel
theorem dX2_recount_22 : decode cX2_recount 22 = .ok (.astore_n 3, 1) := by decide +kernel
theorem dX2_recount_23 : decode cX2_recount 23 = .ok (.aload_n 0, 1) := by decide +kernel
theorem dX2_recount_24 : decode cX2_recount 24 = .ok (.getfield 10, 3) := by decide +kernel
theorem dX2_recount_27 : decode cX2_recount 27 = .ok (.aload_n 3, 1) := by decide +kernel
theorem dX2_recount_28 : decode cX2_recount 28 = .ok (.getfield 133, 3) := by decide +kernel
theorem dX2_recount_31 : decode cX2_recount 31 = .ok (.invokevirtual 138, 3) := by decide +kernel
theorem dX2_recount_34 : decode cX2_recount 34 = .ok (.iload_n 1, 1) := by decide +kernel
theorem dX2_recount_35 : decode cX2_recount 35 = .ok (.if_icmp .ne 63, 3) := by decide +kernel
theorem dX2_recount_38 : decode cX2_recount 38 = .ok (.aload_n 0, 1) := by decide +kernel
theorem dX2_recount_39 : decode cX2_recount 39 = .ok (.getfield 10, 3) := by decide +kernel
theorem dX2_recount_42 : decode cX2_recount 42 = .ok (.aload_n 3, 1) := by decide +kernel
theorem dX2_recount_43 : decode cX2_recount 43 = .ok (.getfield 133, 3) := by decide +kernel
theorem dX2_recount_46 : decode cX2_recount 46 = .ok (.invokevirtual 95, 3) := by decide +kernel
theorem dX2_recount_49 : decode cX2_recount 49 = .ok (.ifCond .ne 49, 3) := by decide +kernel
theorem dX2_recount_52 : decode cX2_recount 52 = .ok (.iconst 0, 1) := by decide +kernel
theorem dX2_recount_53 : decode cX2_recount 53 = .ok (.istore 4, 2) := by decide +kernel
theorem dX2_recount_55 : decode cX2_recount 55 = .ok (.iload 4, 2) := by decide +kernel
theorem dX2_recount_57 : decode cX2_recount 57 = .ok (.aload_n 3, 1) := by decide +kernel
theorem dX2_recount_58 : decode cX2_recount 58 = .ok (.invokevirtual 141, 3) := by decide +kernel
theorem dX2_recount_61 : decode cX2_recount 61 = .ok (.if_icmp .ge 37, 3) := by decide +kernel
theorem dX2_recount_64 : decode cX2_recount 64 = .ok (.aload_n 0, 1) := by decide +kernel
theorem dX2_recount_65 : decode cX2_recount 65 = .ok (.aload_n 3, 1) := by decide +kernel
theorem dX2_recount_66 : decode cX2_recount 66 = .ok (.getfield 133, 3) := by decide +kernel
theorem dX2_recount_69 : decode cX2_recount 69 = .ok (.aload_n 3, 1) := by decide +kernel
theorem dX2_recount_70 : decode cX2_recount 70 = .ok (.iload 4, 2) := by decide +kernel
theorem dX2_recount_72 : decode cX2_recount 72 = .ok (.aload_n 0, 1) := by decide +kernel
theorem dX2_recount_73 : decode cX2_recount 73 = .ok (.getfield 20, 3) := by decide +kernel
theorem dX2_recount_76 : decode cX2_recount 76 = .ok (.invokevirtual 145, 3) := by decide +kernel
theorem dX2_recount_79 : decode cX2_recount 79 = .ok (.aload_n 3, 1) := by decide +kernel
theorem dX2_recount_80 : decode cX2_recount 80 = .ok (.iload 4, 2) := by decide +kernel
theorem dX2_recount_82 : decode cX2_recount 82 = .ok (.aload_n 0, 1) := by decide +kernel
theorem dX2_recount_83 : decode cX2_recount 83 = .ok (.getfield 16, 3) := by decide +kernel
theorem dX2_recount_86 : decode cX2_recount 86 = .ok (.invokevirtual 145, 3) := by decide +kernel
theorem dX2_recount_89 : decode cX2_recount 89 = .ok (.invokevirtual 149, 3) := by decide +kernel
theorem dX2_recount_92 : decode cX2_recount 92 = .ok (.iinc 4 1, 3) := by decide +kernel
theorem dX2_recount_95 : decode cX2_recount 95 = .ok (.goto (-40), 3) := by decide +kernel
theorem dX2_recount_98 : decode cX2_recount 98 = .ok (.iinc 2 1, 3) := by decide +kernel
theorem dX2_recount_101 : decode cX2_recount 101 = .ok (.goto (-99), 3) := by decide +kernel
theorem dX2_recount_104 : decode cX2_recount 104 = .ok (.return_, 1) := by decide +kernel
theorem dX2_recountPairs_0 : decode cX2_recountPairs 0 = .ok (.iload_n 2, 1) := by decide +kernel
theorem dX2_recountPairs_1 : decode cX2_recountPairs 1 = .ok (.iload_n 3, 1) := by decide +kernel
theorem dX2_recountPairs_2 : decode cX2_recountPairs 2 = .ok (.ixor, 1) := by decide +kernel
theorem dX2_recountPairs_3 : decode cX2_recountPairs 3 = .ok (.istore 4, 2) := by decide +kernel
theorem dX2_recountPairs_5 : decode cX2_recountPairs 5 = .ok (.iconst 0, 1) := by decide +kernel
theorem dX2_recountPairs_6 : decode cX2_recountPairs 6 = .ok (.istore 5, 2) := by decide +kernel
theorem dX2_recountPairs_8 : decode cX2_recountPairs 8 = .ok (.iload 5, 2) := by decide +kernel
theorem dX2_recountPairs_10 : decode cX2_recountPairs 10 = .ok (.bipush 25, 2) := by decide +kernel
theorem dX2_recountPairs_12 : decode cX2_recountPairs 12 = .ok (.if_icmp .ge 93, 3) := by decide +kernel
theorem dX2_recountPairs_15 : decode cX2_recountPairs 15 = .ok (.iconst 1, 1) := by decide +kernel
theorem dX2_recountPairs_16 : decode cX2_recountPairs 16 = .ok (.iload 5, 2) := by decide +kernel
theorem dX2_recountPairs_18 : decode cX2_recountPairs 18 = .ok (.ishl, 1) := by decide +kernel
theorem dX2_recountPairs_19 : decode cX2_recountPairs 19 = .ok (.istore 6, 2) := by decide +kernel
theorem dX2_recountPairs_21 : decode cX2_recountPairs 21 = .ok (.iload 4, 2) := by decide +kernel
theorem dX2_recountPairs_23 : decode cX2_recountPairs 23 = .ok (.iload 6, 2) := by decide +kernel
theorem dX2_recountPairs_25 : decode cX2_recountPairs 25 = .ok (.iand, 1) := by decide +kernel
theorem dX2_recountPairs_26 : decode cX2_recountPairs 26 = .ok (.ifCond .eq 73, 3) := by decide +kernel
theorem dX2_recountPairs_29 : decode cX2_recountPairs 29 = .ok (.bipush 25, 2) := by decide +kernel
theorem dX2_recountPairs_31 : decode cX2_recountPairs 31 = .ok (.iload_n 1, 1) := by decide +kernel
theorem dX2_recountPairs_32 : decode cX2_recountPairs 32 = .ok (.imul, 1) := by decide +kernel
theorem dX2_recountPairs_33 : decode cX2_recountPairs 33 = .ok (.iload 5, 2) := by decide +kernel
theorem dX2_recountPairs_35 : decode cX2_recountPairs 35 = .ok (.iadd, 1) := by decide +kernel
theorem dX2_recountPairs_36 : decode cX2_recountPairs 36 = .ok (.istore 7, 2) := by decide +kernel
theorem dX2_recountPairs_38 : decode cX2_recountPairs 38 = .ok (.aload_n 0, 1) := by decide +kernel
theorem dX2_recountPairs_39 : decode cX2_recountPairs 39 = .ok (.getfield 26, 3) := by decide +kernel
theorem dX2_recountPairs_42 : decode cX2_recountPairs 42 = .ok (.iload 7, 2) := by decide +kernel
theorem dX2_recountPairs_44 : decode cX2_recountPairs 44 = .ok (.dup2, 1) := by decide +kernel
theorem dX2_recountPairs_45 : decode cX2_recountPairs 45 = .ok (.iaload, 1) := by decide +kernel
theorem dX2_recountPairs_46 : decode cX2_recountPairs 46 = .ok (.iload_n 3, 1) := by decide +kernel
theorem dX2_recountPairs_47 : decode cX2_recountPairs 47 = .ok (.iload 6, 2) := by decide +kernel
theorem dX2_recountPairs_49 : decode cX2_recountPairs 49 = .ok (.iand, 1) := by decide +kernel
theorem dX2_recountPairs_50 : decode cX2_recountPairs 50 = .ok (.ifCond .eq 7, 3) := by decide +kernel
theorem dX2_recountPairs_53 : decode cX2_recountPairs 53 = .ok (.iconst 1, 1) := by decide +kernel
theorem dX2_recountPairs_54 : decode cX2_recountPairs 54 = .ok (.goto 4, 3) := by decide +kernel
theorem dX2_recountPairs_57 : decode cX2_recountPairs 57 = .ok (.iconst (-1), 1) := by decide +kernel
theorem dX2_recountPairs_58 : decode cX2_recountPairs 58 = .ok (.iadd, 1) := by decide +kernel
theorem dX2_recountPairs_59 : decode cX2_recountPairs 59 = .ok (.iastore, 1) := by decide +kernel
theorem dX2_recountPairs_60 : decode cX2_recountPairs 60 = .ok (.aload_n 0, 1) := by decide +kernel
theorem dX2_recountPairs_61 : decode cX2_recountPairs 61 = .ok (.getfield 16, 3) := by decide +kernel
theorem dX2_recountPairs_64 : decode cX2_recountPairs 64 = .ok (.iload_n 1, 1) := by decide +kernel
theorem dX2_recountPairs_65 : decode cX2_recountPairs 65 = .ok (.aload_n 0, 1) := by decide +kernel
theorem dX2_recountPairs_66 : decode cX2_recountPairs 66 = .ok (.getfield 26, 3) := by decide +kernel
theorem dX2_recountPairs_69 : decode cX2_recountPairs 69 = .ok (.iload 7, 2) := by decide +kernel
theorem dX2_recountPairs_71 : decode cX2_recountPairs 71 = .ok (.iaload, 1) := by decide +kernel
theorem dX2_recountPairs_72 : decode cX2_recountPairs 72 = .ok (.ifCond .le 15, 3) := by decide +kernel
theorem dX2_recountPairs_75 : decode cX2_recountPairs 75 = .ok (.aload_n 0, 1) := by decide +kernel
theorem dX2_recountPairs_76 : decode cX2_recountPairs 76 = .ok (.getfield 16, 3) := by decide +kernel
theorem dX2_recountPairs_79 : decode cX2_recountPairs 79 = .ok (.iload_n 1, 1) := by decide +kernel
theorem dX2_recountPairs_80 : decode cX2_recountPairs 80 = .ok (.iaload, 1) := by decide +kernel
theorem dX2_recountPairs_81 : decode cX2_recountPairs 81 = .ok (.iload 6, 2) := by decide +kernel
theorem dX2_recountPairs_83 : decode cX2_recountPairs 83 = .ok (.ior, 1) := by decide +kernel
theorem dX2_recountPairs_84 : decode cX2_recountPairs 84 = .ok (.goto 14, 3) := by decide +kernel
theorem dX2_recountPairs_87 : decode cX2_recountPairs 87 = .ok (.aload_n 0, 1) := by decide +kernel
theorem dX2_recountPairs_88 : decode cX2_recountPairs 88 = .ok (.getfield 16, 3) := by decide +kernel
theorem dX2_recountPairs_91 : decode cX2_recountPairs 91 = .ok (.iload_n 1, 1) := by decide +kernel
theorem dX2_recountPairs_92 : decode cX2_recountPairs 92 = .ok (.iaload, 1) := by decide +kernel
theorem dX2_recountPairs_93 : decode cX2_recountPairs 93 = .ok (.iload 6, 2) := by decide +kernel
theorem dX2_recountPairs_95 : decode cX2_recountPairs 95 = .ok (.iconst (-1), 1) := by decide +kernel
theorem dX2_recountPairs_96 : decode cX2_recountPairs 96 = .ok (.ixor, 1) := by decide +kernel
theorem dX2_recountPairs_97 : decode cX2_recountPairs 97 = .ok (.iand, 1) := by decide +kernel
theorem dX2_recountPairs_98 : decode cX2_recountPairs 98 = .ok (.iastore, 1) := by decide +kernel
theorem dX2_recountPairs_99 : decode cX2_recountPairs 99 = .ok (.iinc 5 1, 3) := by decide +kernel
theorem dX2_recountPairs_102 : decode cX2_recountPairs 102 = .ok (.goto (-94), 3) := by decide +kernel
theorem dX2_recountPairs_105 : decode cX2_recountPairs 105 = .ok (.return_, 1) := by decide +kernel
set_option maxRecDepth 20000 in
theorem ggX2_findSuspects_X2_suspectOnce : GoodIn wsX2_findSuspects wsX2_suspectOnce := goodIn_r _ [5, 6, 7, 8, 9, 10, 11, 12, 13, 14, 15, 16, 17, 18, 19, 20, 21, 22, 23, 24, 25, 26, 27, 28, 29, 4, 30, 31, 32, 33, 34, 35, 36, 37, 38, 39, 40, 41, 42, 43, 44, 45, 46, 47, 48, 49, 50, 51, 52, 53, 54, 55, 56, 57, 58, 59, 60, 61, 62, 63, 64, 65, 66, 67, 68, 69, 70, 71, 72, 73] (by decide +kernel) (by decide +kernel)
set_option maxRecDepth 20000 in
theorem gX2_findSuspects_X2_suspectOnce : GoodIn wsX2_findSuspects (wsV RX2 153 RX2 yX2_suspectOnce wsX2_suspectOnce) := goodIn_app (goodIn_of _ (by decide +kernel)) ggX2_findSuspects_X2_suspectOnce
theorem dX2_findSuspects_0 : decode cX2_findSuspects 0 = .ok (.iconst 1, 1) := by decide +kernel
theorem dX2_findSuspects_1 : decode cX2_findSuspects 1 = .ok (.istore_n 2, 1) := by decide +kernel
theorem dX2_findSuspects_2 : decode cX2_findSuspects 2 = .ok (.iconst 0, 1) := by decide +kernel
theorem dX2_findSuspects_3 : decode cX2_findSuspects 3 = .ok (.istore_n 3, 1) := by decide +kernel
theorem dX2_findSuspects_4 : decode cX2_findSuspects 4 = .ok (.iload_n 2, 1) := by decide +kernel
theorem dX2_findSuspects_5 : decode cX2_findSuspects 5 = .ok (.ifCond .eq 21, 3) := by decide +kernel
theorem dX2_findSuspects_8 : decode cX2_findSuspects 8 = .ok (.iload_n 3, 1) := by decide +kernel
theorem dX2_findSuspects_9 : decode cX2_findSuspects 9 = .ok (.bipush 126, 2) := by decide +kernel
theorem dX2_findSuspects_11 : decode cX2_findSuspects 11 = .ok (.if_icmp .ge 15, 3) := by decide +kernel
theorem dX2_findSuspects_14 : decode cX2_findSuspects 14 = .ok (.aload_n 0, 1) := by decide +kernel
theorem dX2_findSuspects_15 : decode cX2_findSuspects 15 = .ok (.iload_n 1, 1) := by decide +kernel
theorem dX2_findSuspects_16 : decode cX2_findSuspects 16 = .ok (.invokevirtual 153, 3) := by decide +kernel
theorem dX2_findSuspects_19 : decode cX2_findSuspects 19 = .ok (.istore_n 2, 1) := by decide +kernel
theorem dX2_findSuspects_20 : decode cX2_findSuspects 20 = .ok (.iinc 3 1, 3) := by decide +kernel
theorem dX2_findSuspects_23 : decode cX2_findSuspects 23 = .ok (.goto (-19), 3) := by decide +kernel
theorem dX2_findSuspects_26 : decode cX2_findSuspects 26 = .ok (.return_, 1) := by decide +kernel
set_option maxRecDepth 20000 in
theorem ggX2_suspectOnce_X1_layerOf : GoodIn wsX2_suspectOnce wsX1_layerOf := goodIn_r _ [6, 7, 8, 9, 10, 11, 12, 13, 14, 63, 64, 65] (by decide +kernel) (by decide +kernel)
set_option maxRecDepth 20000 in
theorem gX2_suspectOnce_X1_layerOf_n138 : GoodIn wsX2_suspectOnce (wsX1_layerOf) := ggX2_suspectOnce_X1_layerOf
set_option maxRecDepth 20000 in
theorem ggX2_suspectOnce_X1_leadsBack : GoodIn wsX2_suspectOnce wsX1_leadsBack := goodIn_r _ [17, 18, 19, 20, 4, 21, 7, 63, 64, 65] (by decide +kernel) (by decide +kernel)
set_option maxRecDepth 20000 in
theorem gX2_suspectOnce_X1_leadsBack_n95 : GoodIn wsX2_suspectOnce (wsX1_leadsBack) := ggX2_suspectOnce_X1_leadsBack
set_option maxRecDepth 20000 in
theorem ggX2_suspectOnce_X2_suspectsBy : GoodIn wsX2_suspectOnce wsX2_suspectsBy := goodIn_r _ [26, 27, 28, 29, 30, 25, 31, 1, 2, 19, 4, 20, 21, 7, 32, 33, 34, 35, 36, 37, 38, 39, 40, 41, 42, 43, 44, 45, 46, 47, 48, 49, 50, 51, 52, 53, 54, 55, 56, 57, 58, 59, 60, 61, 62, 66, 67, 68, 69, 63, 64, 65] (by decide +kernel) (by decide +kernel)
set_option maxRecDepth 20000 in
theorem gX2_suspectOnce_X2_suspectsBy : GoodIn wsX2_suspectOnce (wsV RX2 156 RX2 yX2_suspectsBy wsX2_suspectsBy) := goodIn_app (goodIn_of _ (by decide +kernel)) ggX2_suspectOnce_X2_suspectsBy
theorem dX2_suspectOnce_0 : decode cX2_suspectOnce 0 = .ok (.iconst 0, 1) := by decide +kernel
theorem dX2_suspectOnce_1 : decode cX2_suspectOnce 1 = .ok (.istore_n 2, 1) := by decide +kernel
theorem dX2_suspectOnce_2 : decode cX2_suspectOnce 2 = .ok (.iconst 0, 1) := by decide +kernel
theorem dX2_suspectOnce_3 : decode cX2_suspectOnce 3 = .ok (.istore_n 3, 1) := by decide +kernel
theorem dX2_suspectOnce_4 : decode cX2_suspectOnce 4 = .ok (.iload_n 3, 1) := by decide +kernel
theorem dX2_suspectOnce_5 : decode cX2_suspectOnce 5 = .ok (.aload_n 0, 1) := by decide +kernel
theorem dX2_suspectOnce_6 : decode cX2_suspectOnce 6 = .ok (.getfield 10, 3) := by decide +kernel
theorem dX2_suspectOnce_9 : decode cX2_suspectOnce 9 = .ok (.getfield 42, 3) := by decide +kernel
theorem dX2_suspectOnce_12 : decode cX2_suspectOnce 12 = .ok (.if_icmp .ge 102, 3) := by decide +kernel
theorem dX2_suspectOnce_15 : decode cX2_suspectOnce 15 = .ok (.aload_n 0, 1) := by decide +kernel
theorem dX2_suspectOnce_16 : decode cX2_suspectOnce 16 = .ok (.getfield 10, 3) := by decide +kernel
theorem dX2_suspectOnce_19 : decode cX2_suspectOnce 19 = .ok (.getfield 129, 3) := by decide +kernel
theorem dX2_suspectOnce_22 : decode cX2_suspectOnce 22 = .ok (.iload_n 3, 1) := by decide +kernel
theorem dX2_suspectOnce_23 : decode cX2_suspectOnce 23 = .ok (.aaload, 1) := by decide +kernel
theorem dX2_suspectOnce_24 : decode cX2_suspectOnce 24 = .ok (.astore 4, 2) := by decide +kernel
theorem dX2_suspectOnce_26 : decode cX2_suspectOnce 26 = .ok (.aload_n 0, 1) := by decide +kernel
theorem dX2_suspectOnce_27 : decode cX2_suspectOnce 27 = .ok (.getfield 10, 3) := by decide +kernel
theorem dX2_suspectOnce_30 : decode cX2_suspectOnce 30 = .ok (.aload 4, 2) := by decide +kernel
theorem dX2_suspectOnce_32 : decode cX2_suspectOnce 32 = .ok (.getfield 133, 3) := by decide +kernel
theorem dX2_suspectOnce_35 : decode cX2_suspectOnce 35 = .ok (.invokevirtual 138, 3) := by decide +kernel
theorem dX2_suspectOnce_38 : decode cX2_suspectOnce 38 = .ok (.iload_n 1, 1) := by decide +kernel
theorem dX2_suspectOnce_39 : decode cX2_suspectOnce 39 = .ok (.if_icmp .ne 69, 3) := by decide +kernel
theorem dX2_suspectOnce_42 : decode cX2_suspectOnce 42 = .ok (.aload_n 0, 1) := by decide +kernel
theorem dX2_suspectOnce_43 : decode cX2_suspectOnce 43 = .ok (.getfield 10, 3) := by decide +kernel
theorem dX2_suspectOnce_46 : decode cX2_suspectOnce 46 = .ok (.aload 4, 2) := by decide +kernel
theorem dX2_suspectOnce_48 : decode cX2_suspectOnce 48 = .ok (.getfield 133, 3) := by decide +kernel
theorem dX2_suspectOnce_51 : decode cX2_suspectOnce 51 = .ok (.invokevirtual 95, 3) := by decide +kernel
theorem dX2_suspectOnce_54 : decode cX2_suspectOnce 54 = .ok (.ifCond .eq 54, 3) := by decide +kernel
theorem dX2_suspectOnce_57 : decode cX2_suspectOnce 57 = .ok (.aload_n 0, 1) := by decide +kernel
theorem dX2_suspectOnce_58 : decode cX2_suspectOnce 58 = .ok (.aload 4, 2) := by decide +kernel
theorem dX2_suspectOnce_60 : decode cX2_suspectOnce 60 = .ok (.invokevirtual 156, 3) := by decide +kernel
theorem dX2_suspectOnce_63 : decode cX2_suspectOnce 63 = .ok (.aload_n 0, 1) := by decide +kernel
theorem dX2_suspectOnce_64 : decode cX2_suspectOnce 64 = .ok (.getfield 23, 3) := by decide +kernel
theorem dX2_suspectOnce_67 : decode cX2_suspectOnce 67 = .ok (.aload 4, 2) := by decide +kernel
theorem dX2_suspectOnce_69 : decode cX2_suspectOnce 69 = .ok (.getfield 133, 3) := by decide +kernel
theorem dX2_suspectOnce_72 : decode cX2_suspectOnce 72 = .ok (.iaload, 1) := by decide +kernel
theorem dX2_suspectOnce_73 : decode cX2_suspectOnce 73 = .ok (.iconst (-1), 1) := by decide +kernel
theorem dX2_suspectOnce_74 : decode cX2_suspectOnce 74 = .ok (.ixor, 1) := by decide +kernel
theorem dX2_suspectOnce_75 : decode cX2_suspectOnce 75 = .ok (.iand, 1) := by decide +kernel
theorem dX2_suspectOnce_76 : decode cX2_suspectOnce 76 = .ok (.istore 5, 2) := by decide +kernel
theorem dX2_suspectOnce_78 : decode cX2_suspectOnce 78 = .ok (.aload_n 0, 1) := by decide +kernel
theorem dX2_suspectOnce_79 : decode cX2_suspectOnce 79 = .ok (.getfield 23, 3) := by decide +kernel
theorem dX2_suspectOnce_82 : decode cX2_suspectOnce 82 = .ok (.aload 4, 2) := by decide +kernel
theorem dX2_suspectOnce_84 : decode cX2_suspectOnce 84 = .ok (.getfield 133, 3) := by decide +kernel
theorem dX2_suspectOnce_87 : decode cX2_suspectOnce 87 = .ok (.dup2, 1) := by decide +kernel
theorem dX2_suspectOnce_88 : decode cX2_suspectOnce 88 = .ok (.iaload, 1) := by decide +kernel
theorem dX2_suspectOnce_89 : decode cX2_suspectOnce 89 = .ok (.iload 5, 2) := by decide +kernel
theorem dX2_suspectOnce_91 : decode cX2_suspectOnce 91 = .ok (.ior, 1) := by decide +kernel
theorem dX2_suspectOnce_92 : decode cX2_suspectOnce 92 = .ok (.iastore, 1) := by decide +kernel
theorem dX2_suspectOnce_93 : decode cX2_suspectOnce 93 = .ok (.iload_n 2, 1) := by decide +kernel
theorem dX2_suspectOnce_94 : decode cX2_suspectOnce 94 = .ok (.ifCond .ne 8, 3) := by decide +kernel
theorem dX2_suspectOnce_97 : decode cX2_suspectOnce 97 = .ok (.iload 5, 2) := by decide +kernel
theorem dX2_suspectOnce_99 : decode cX2_suspectOnce 99 = .ok (.ifCond .eq 7, 3) := by decide +kernel
theorem dX2_suspectOnce_102 : decode cX2_suspectOnce 102 = .ok (.iconst 1, 1) := by decide +kernel
theorem dX2_suspectOnce_103 : decode cX2_suspectOnce 103 = .ok (.goto 4, 3) := by decide +kernel
theorem dX2_suspectOnce_106 : decode cX2_suspectOnce 106 = .ok (.iconst 0, 1) := by decide +kernel
theorem dX2_suspectOnce_107 : decode cX2_suspectOnce 107 = .ok (.istore_n 2, 1) := by decide +kernel
theorem dX2_suspectOnce_108 : decode cX2_suspectOnce 108 = .ok (.iinc 3 1, 3) := by decide +kernel
theorem dX2_suspectOnce_111 : decode cX2_suspectOnce 111 = .ok (.goto (-107), 3) := by decide +kernel
theorem dX2_suspectOnce_114 : decode cX2_suspectOnce 114 = .ok (.iload_n 2, 1) := by decide +kernel
theorem dX2_suspectOnce_115 : decode cX2_suspectOnce 115 = .ok (.ireturn, 1) := by decide +kernel
set_option maxRecDepth 20000 in
theorem ggX2_suspectsBy_X2_lostFor : GoodIn wsX2_suspectsBy wsX2_lostFor := goodIn_r _ [6, 7, 8, 9, 10, 11, 12, 13, 14, 15, 16, 5, 17, 1, 18, 38, 39, 40, 41, 42, 43, 44, 49, 50, 51] (by decide +kernel) (by decide +kernel)
set_option maxRecDepth 20000 in
theorem gX2_suspectsBy_X2_lostFor : GoodIn wsX2_suspectsBy (wsV RX2 166 RX2 yX2_lostFor wsX2_lostFor) := goodIn_app (goodIn_of _ (by decide +kernel)) ggX2_suspectsBy_X2_lostFor
set_option maxRecDepth 20000 in
theorem ggX2_suspectsBy_X2_turned : GoodIn wsX2_suspectsBy wsX2_turned := goodIn_r _ [21, 22, 23, 5, 24, 25, 26, 27] (by decide +kernel) (by decide +kernel)
set_option maxRecDepth 20000 in
theorem gX2_suspectsBy_X2_turned : GoodIn wsX2_suspectsBy (va_wsS RX2 172 yX2_turned wsX2_turned) := goodIn_app (goodIn_of _ (by decide +kernel)) ggX2_suspectsBy_X2_turned
set_option maxRecDepth 20000 in
theorem ggX2_suspectsBy_X2_joined : GoodIn wsX2_suspectsBy wsX2_joined := goodIn_r _ [30, 22, 23, 5, 24, 31, 32, 33] (by decide +kernel) (by decide +kernel)
set_option maxRecDepth 20000 in
theorem gX2_suspectsBy_X2_joined : GoodIn wsX2_suspectsBy (va_wsS RX2 175 yX2_joined wsX2_joined) := goodIn_app (goodIn_of _ (by decide +kernel)) ggX2_suspectsBy_X2_joined
set_option maxRecDepth 20000 in
theorem ggX2_suspectsBy_X2_putInto : GoodIn wsX2_suspectsBy wsX2_putInto := goodIn_r _ [37, 18, 1, 38, 39, 40, 41, 42, 43, 44] (by decide +kernel) (by decide +kernel)
set_option maxRecDepth 20000 in
theorem gX2_suspectsBy_X2_putInto : GoodIn wsX2_suspectsBy (wsV RX2 76 RX2 yX2_putInto wsX2_putInto) := goodIn_app (goodIn_of _ (by decide +kernel)) ggX2_suspectsBy_X2_putInto
theorem dX2_suspectsBy_0 : decode cX2_suspectsBy 0 = .ok (.aload_n 0, 1) := by decide +kernel
theorem dX2_suspectsBy_1 : decode cX2_suspectsBy 1 = .ok (.getfield 20, 3) := by decide +kernel
theorem dX2_suspectsBy_4 : decode cX2_suspectsBy 4 = .ok (.aload_n 1, 1) := by decide +kernel
theorem dX2_suspectsBy_5 : decode cX2_suspectsBy 5 = .ok (.getfield 160, 3) := by decide +kernel
theorem dX2_suspectsBy_8 : decode cX2_suspectsBy 8 = .ok (.iaload, 1) := by decide +kernel
theorem dX2_suspectsBy_9 : decode cX2_suspectsBy 9 = .ok (.istore_n 2, 1) := by decide +kernel
theorem dX2_suspectsBy_10 : decode cX2_suspectsBy 10 = .ok (.aload_n 0, 1) := by decide +kernel
theorem dX2_suspectsBy_11 : decode cX2_suspectsBy 11 = .ok (.getfield 20, 3) := by decide +kernel
theorem dX2_suspectsBy_14 : decode cX2_suspectsBy 14 = .ok (.aload_n 1, 1) := by decide +kernel
theorem dX2_suspectsBy_15 : decode cX2_suspectsBy 15 = .ok (.getfield 163, 3) := by decide +kernel
theorem dX2_suspectsBy_18 : decode cX2_suspectsBy 18 = .ok (.iaload, 1) := by decide +kernel
theorem dX2_suspectsBy_19 : decode cX2_suspectsBy 19 = .ok (.istore_n 3, 1) := by decide +kernel
theorem dX2_suspectsBy_20 : decode cX2_suspectsBy 20 = .ok (.aload_n 0, 1) := by decide +kernel
theorem dX2_suspectsBy_21 : decode cX2_suspectsBy 21 = .ok (.aload_n 1, 1) := by decide +kernel
theorem dX2_suspectsBy_22 : decode cX2_suspectsBy 22 = .ok (.getfield 133, 3) := by decide +kernel
theorem dX2_suspectsBy_25 : decode cX2_suspectsBy 25 = .ok (.aload_n 1, 1) := by decide +kernel
theorem dX2_suspectsBy_26 : decode cX2_suspectsBy 26 = .ok (.getfield 160, 3) := by decide +kernel
theorem dX2_suspectsBy_29 : decode cX2_suspectsBy 29 = .ok (.invokevirtual 166, 3) := by decide +kernel
theorem dX2_suspectsBy_32 : decode cX2_suspectsBy 32 = .ok (.istore 4, 2) := by decide +kernel
theorem dX2_suspectsBy_34 : decode cX2_suspectsBy 34 = .ok (.aload_n 0, 1) := by decide +kernel
theorem dX2_suspectsBy_35 : decode cX2_suspectsBy 35 = .ok (.aload_n 1, 1) := by decide +kernel
theorem dX2_suspectsBy_36 : decode cX2_suspectsBy 36 = .ok (.getfield 133, 3) := by decide +kernel
theorem dX2_suspectsBy_39 : decode cX2_suspectsBy 39 = .ok (.aload_n 1, 1) := by decide +kernel
theorem dX2_suspectsBy_40 : decode cX2_suspectsBy 40 = .ok (.getfield 163, 3) := by decide +kernel
theorem dX2_suspectsBy_43 : decode cX2_suspectsBy 43 = .ok (.invokevirtual 166, 3) := by decide +kernel
theorem dX2_suspectsBy_46 : decode cX2_suspectsBy 46 = .ok (.istore 5, 2) := by decide +kernel
theorem dX2_suspectsBy_48 : decode cX2_suspectsBy 48 = .ok (.aload_n 1, 1) := by decide +kernel
theorem dX2_suspectsBy_49 : decode cX2_suspectsBy 49 = .ok (.getfield 169, 3) := by decide +kernel
theorem dX2_suspectsBy_52 : decode cX2_suspectsBy 52 = .ok (.tableswitch 65 0 3 #[32, 35, 41, 55], 32) := by decide +kernel
theorem dX2_suspectsBy_84 : decode cX2_suspectsBy 84 = .ok (.iload 4, 2) := by decide +kernel
theorem dX2_suspectsBy_86 : decode cX2_suspectsBy 86 = .ok (.ireturn, 1) := by decide +kernel
theorem dX2_suspectsBy_87 : decode cX2_suspectsBy 87 = .ok (.iload 4, 2) := by decide +kernel
theorem dX2_suspectsBy_89 : decode cX2_suspectsBy 89 = .ok (.invokestatic 172, 3) := by decide +kernel
theorem dX2_suspectsBy_92 : decode cX2_suspectsBy 92 = .ok (.ireturn, 1) := by decide +kernel
theorem dX2_suspectsBy_93 : decode cX2_suspectsBy 93 = .ok (.iload 4, 2) := by decide +kernel
theorem dX2_suspectsBy_95 : decode cX2_suspectsBy 95 = .ok (.iload_n 3, 1) := by decide +kernel
theorem dX2_suspectsBy_96 : decode cX2_suspectsBy 96 = .ok (.invokestatic 175, 3) := by decide +kernel
theorem dX2_suspectsBy_99 : decode cX2_suspectsBy 99 = .ok (.iload_n 2, 1) := by decide +kernel
theorem dX2_suspectsBy_100 : decode cX2_suspectsBy 100 = .ok (.iload 5, 2) := by decide +kernel
theorem dX2_suspectsBy_102 : decode cX2_suspectsBy 102 = .ok (.invokestatic 175, 3) := by decide +kernel
theorem dX2_suspectsBy_105 : decode cX2_suspectsBy 105 = .ok (.ior, 1) := by decide +kernel
theorem dX2_suspectsBy_106 : decode cX2_suspectsBy 106 = .ok (.ireturn, 1) := by decide +kernel
theorem dX2_suspectsBy_107 : decode cX2_suspectsBy 107 = .ok (.iload 4, 2) := by decide +kernel
theorem dX2_suspectsBy_109 : decode cX2_suspectsBy 109 = .ok (.iload_n 3, 1) := by decide +kernel
theorem dX2_suspectsBy_110 : decode cX2_suspectsBy 110 = .ok (.iand, 1) := by decide +kernel
theorem dX2_suspectsBy_111 : decode cX2_suspectsBy 111 = .ok (.iload_n 2, 1) := by decide +kernel
theorem dX2_suspectsBy_112 : decode cX2_suspectsBy 112 = .ok (.iload 5, 2) := by decide +kernel
theorem dX2_suspectsBy_114 : decode cX2_suspectsBy 114 = .ok (.iand, 1) := by decide +kernel
theorem dX2_suspectsBy_115 : decode cX2_suspectsBy 115 = .ok (.ior, 1) := by decide +kernel
theorem dX2_suspectsBy_116 : decode cX2_suspectsBy 116 = .ok (.ireturn, 1) := by decide +kernel
theorem dX2_suspectsBy_117 : decode cX2_suspectsBy 117 = .ok (.iload_n 2, 1) := by decide +kernel
theorem dX2_suspectsBy_118 : decode cX2_suspectsBy 118 = .ok (.iload_n 3, 1) := by decide +kernel
theorem dX2_suspectsBy_119 : decode cX2_suspectsBy 119 = .ok (.iconst (-1), 1) := by decide +kernel
theorem dX2_suspectsBy_120 : decode cX2_suspectsBy 120 = .ok (.ixor, 1) := by decide +kernel
theorem dX2_suspectsBy_121 : decode cX2_suspectsBy 121 = .ok (.iand, 1) := by decide +kernel
theorem dX2_suspectsBy_122 : decode cX2_suspectsBy 122 = .ok (.iload 4, 2) := by decide +kernel
theorem dX2_suspectsBy_124 : decode cX2_suspectsBy 124 = .ok (.aload_n 0, 1) := by decide +kernel
theorem dX2_suspectsBy_125 : decode cX2_suspectsBy 125 = .ok (.aload_n 1, 1) := by decide +kernel
theorem dX2_suspectsBy_126 : decode cX2_suspectsBy 126 = .ok (.getfield 163, 3) := by decide +kernel
theorem dX2_suspectsBy_129 : decode cX2_suspectsBy 129 = .ok (.invokevirtual 76, 3) := by decide +kernel
theorem dX2_suspectsBy_132 : decode cX2_suspectsBy 132 = .ok (.ior, 1) := by decide +kernel
theorem dX2_suspectsBy_133 : decode cX2_suspectsBy 133 = .ok (.iand, 1) := by decide +kernel
theorem dX2_suspectsBy_134 : decode cX2_suspectsBy 134 = .ok (.ireturn, 1) := by decide +kernel
set_option maxRecDepth 20000 in
theorem ggX2_lostFor_X1_leadsTo : GoodIn wsX2_lostFor wsX1_leadsTo := goodIn_r _ [6, 7, 22, 23, 24] (by decide +kernel) (by decide +kernel)
set_option maxRecDepth 20000 in
theorem gX2_lostFor_X1_leadsTo_n98 : GoodIn wsX2_lostFor (wsX1_leadsTo) := ggX2_lostFor_X1_leadsTo
set_option maxRecDepth 20000 in
theorem ggX2_lostFor_X2_takenOutOf : GoodIn wsX2_lostFor wsX2_takenOutOf := goodIn_r _ [12, 13, 14, 15, 16, 17, 18, 19, 20, 21] (by decide +kernel) (by decide +kernel)
set_option maxRecDepth 20000 in
theorem gX2_lostFor_X2_takenOutOf : GoodIn wsX2_lostFor (wsV RX2 85 RX2 yX2_takenOutOf wsX2_takenOutOf) := goodIn_app (goodIn_of _ (by decide +kernel)) ggX2_lostFor_X2_takenOutOf
theorem dX2_lostFor_0 : decode cX2_lostFor 0 = .ok (.aload_n 0, 1) := by decide +kernel
theorem dX2_lostFor_1 : decode cX2_lostFor 1 = .ok (.getfield 10, 3) := by decide +kernel
theorem dX2_lostFor_4 : decode cX2_lostFor 4 = .ok (.iload_n 2, 1) := by decide +kernel
theorem dX2_lostFor_5 : decode cX2_lostFor 5 = .ok (.iload_n 1, 1) := by decide +kernel
theorem dX2_lostFor_6 : decode cX2_lostFor 6 = .ok (.invokevirtual 98, 3) := by decide +kernel
theorem dX2_lostFor_9 : decode cX2_lostFor 9 = .ok (.ifCond .eq 12, 3) := by decide +kernel
theorem dX2_lostFor_12 : decode cX2_lostFor 12 = .ok (.aload_n 0, 1) := by decide +kernel
theorem dX2_lostFor_13 : decode cX2_lostFor 13 = .ok (.getfield 23, 3) := by decide +kernel
theorem dX2_lostFor_16 : decode cX2_lostFor 16 = .ok (.iload_n 2, 1) := by decide +kernel
theorem dX2_lostFor_17 : decode cX2_lostFor 17 = .ok (.iaload, 1) := by decide +kernel
theorem dX2_lostFor_18 : decode cX2_lostFor 18 = .ok (.goto 8, 3) := by decide +kernel
theorem dX2_lostFor_21 : decode cX2_lostFor 21 = .ok (.aload_n 0, 1) := by decide +kernel
theorem dX2_lostFor_22 : decode cX2_lostFor 22 = .ok (.iload_n 2, 1) := by decide +kernel
theorem dX2_lostFor_23 : decode cX2_lostFor 23 = .ok (.invokevirtual 85, 3) := by decide +kernel
theorem dX2_lostFor_26 : decode cX2_lostFor 26 = .ok (.ireturn, 1) := by decide +kernel
set_option maxRecDepth 20000 in
theorem ggX2_takeOutSuspects_X1_layerOf : GoodIn wsX2_takeOutSuspects wsX1_layerOf := goodIn_r _ [7, 8, 9, 10, 11, 12, 13, 14, 15, 23, 24, 25] (by decide +kernel) (by decide +kernel)
set_option maxRecDepth 20000 in
theorem gX2_takeOutSuspects_X1_layerOf_n138 : GoodIn wsX2_takeOutSuspects (wsX1_layerOf) := ggX2_takeOutSuspects_X1_layerOf
theorem dX2_takeOutSuspects_0 : decode cX2_takeOutSuspects 0 = .ok (.iconst 2, 1) := by decide +kernel
theorem dX2_takeOutSuspects_1 : decode cX2_takeOutSuspects 1 = .ok (.istore_n 2, 1) := by decide +kernel
theorem dX2_takeOutSuspects_2 : decode cX2_takeOutSuspects 2 = .ok (.iload_n 2, 1) := by decide +kernel
theorem dX2_takeOutSuspects_3 : decode cX2_takeOutSuspects 3 = .ok (.bipush 7, 2) := by decide +kernel
