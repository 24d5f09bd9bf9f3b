theorem dX2_isRelation_11 : decode cX2_isRelation 11 = .ok (.goto 4, 3) := by decide +kernel
theorem dX2_isRelation_14 : decode cX2_isRelation 14 = .ok (.iconst 0, 1) := by decide +kernel
theorem dX2_isRelation_15 : decode cX2_isRelation 15 = .ok (.ireturn, 1) := by decide +kernel
theorem dX2_isView_0 : decode cX2_isView 0 = .ok (.iload_n 0, 1) := by decide +kernel
theorem dX2_isView_1 : decode cX2_isView 1 = .ok (.iconst 2, 1) := by decide +kernel
theorem dX2_isView_2 : decode cX2_isView 2 = .ok (.if_icmp .lt 13, 3) := by decide +kernel
theorem dX2_isView_5 : decode cX2_isView 5 = .ok (.iload_n 0, 1) := by decide +kernel
theorem dX2_isView_6 : decode cX2_isView 6 = .ok (.bipush 7, 2) := by decide +kernel
theorem dX2_isView_8 : decode cX2_isView 8 = .ok (.if_icmp .ge 7, 3) := by decide +kernel
theorem dX2_isView_11 : decode cX2_isView 11 = .ok (.iconst 1, 1) := by decide +kernel
theorem dX2_isView_12 : decode cX2_isView 12 = .ok (.goto 4, 3) := by decide +kernel
theorem dX2_isView_15 : decode cX2_isView 15 = .ok (.iconst 0, 1) := by decide +kernel
theorem dX2_isView_16 : decode cX2_isView 16 = .ok (.ireturn, 1) := by decide +kernel
theorem dX2_isThing_0 : decode cX2_isThing 0 = .ok (.iload_n 0, 1) := by decide +kernel
theorem dX2_isThing_1 : decode cX2_isThing 1 = .ok (.ifCond .lt 12, 3) := by decide +kernel
theorem dX2_isThing_4 : decode cX2_isThing 4 = .ok (.iload_n 0, 1) := by decide +kernel
theorem dX2_isThing_5 : decode cX2_isThing 5 = .ok (.iconst 5, 1) := by decide +kernel
theorem dX2_isThing_6 : decode cX2_isThing 6 = .ok (.if_icmp .ge 7, 3) := by decide +kernel
theorem dX2_isThing_9 : decode cX2_isThing 9 = .ok (.iconst 1, 1) := by decide +kernel
theorem dX2_isThing_10 : decode cX2_isThing 10 = .ok (.goto 4, 3) := by decide +kernel
theorem dX2_isThing_13 : decode cX2_isThing 13 = .ok (.iconst 0, 1) := by decide +kernel
theorem dX2_isThing_14 : decode cX2_isThing 14 = .ok (.ireturn, 1) := by decide +kernel
theorem dX2_bit_0 : decode cX2_bit 0 = .ok (.iconst 1, 1) := by decide +kernel
theorem dX2_bit_1 : decode cX2_bit 1 = .ok (.iconst 5, 1) := by decide +kernel
theorem dX2_bit_2 : decode cX2_bit 2 = .ok (.iload_n 0, 1) := by decide +kernel
theorem dX2_bit_3 : decode cX2_bit 3 = .ok (.imul, 1) := by decide +kernel
theorem dX2_bit_4 : decode cX2_bit 4 = .ok (.iload_n 1, 1) := by decide +kernel
theorem dX2_bit_5 : decode cX2_bit 5 = .ok (.iadd, 1) := by decide +kernel
theorem dX2_bit_6 : decode cX2_bit 6 = .ok (.ishl, 1) := by decide +kernel
theorem dX2_bit_7 : decode cX2_bit 7 = .ok (.ireturn, 1) := by decide +kernel
theorem dX2_holds_0 : decode cX2_holds 0 = .ok (.iload_n 0, 1) := by decide +kernel
theorem dX2_holds_1 : decode cX2_holds 1 = .ok (.iconst 5, 1) := by decide +kernel
theorem dX2_holds_2 : decode cX2_holds 2 = .ok (.iload_n 1, 1) := by decide +kernel
theorem dX2_holds_3 : decode cX2_holds 3 = .ok (.imul, 1) := by decide +kernel
theorem dX2_holds_4 : decode cX2_holds 4 = .ok (.iload_n 2, 1) := by decide +kernel
theorem dX2_holds_5 : decode cX2_holds 5 = .ok (.iadd, 1) := by decide +kernel
theorem dX2_holds_6 : decode cX2_holds 6 = .ok (.ishr, 1) := by decide +kernel
theorem dX2_holds_7 : decode cX2_holds 7 = .ok (.iconst 1, 1) := by decide +kernel
theorem dX2_holds_8 : decode cX2_holds 8 = .ok (.iand, 1) := by decide +kernel
theorem dX2_holds_9 : decode cX2_holds 9 = .ok (.ifCond .eq 7, 3) := by decide +kernel
theorem dX2_holds_12 : decode cX2_holds 12 = .ok (.iconst 1, 1) := by decide +kernel
theorem dX2_holds_13 : decode cX2_holds 13 = .ok (.goto 4, 3) := by decide +kernel
theorem dX2_holds_16 : decode cX2_holds 16 = .ok (.iconst 0, 1) := by decide +kernel
theorem dX2_holds_17 : decode cX2_holds 17 = .ok (.ireturn, 1) := by decide +kernel
theorem dX2_row_0 : decode cX2_row 0 = .ok (.iload_n 0, 1) := by decide +kernel
theorem dX2_row_1 : decode cX2_row 1 = .ok (.iconst 5, 1) := by decide +kernel
theorem dX2_row_2 : decode cX2_row 2 = .ok (.iload_n 1, 1) := by decide +kernel
theorem dX2_row_3 : decode cX2_row 3 = .ok (.imul, 1) := by decide +kernel
theorem dX2_row_4 : decode cX2_row 4 = .ok (.ishr, 1) := by decide +kernel
theorem dX2_row_5 : decode cX2_row 5 = .ok (.bipush 31, 2) := by decide +kernel
theorem dX2_row_7 : decode cX2_row 7 = .ok (.iand, 1) := by decide +kernel
theorem dX2_row_8 : decode cX2_row 8 = .ok (.ireturn, 1) := by decide +kernel
set_option maxRecDepth 20000 in
theorem ggX2_turned_X2_holds : GoodIn wsX2_turned wsX2_holds := goodIn_r _ [4] (by decide +kernel) (by decide +kernel)
set_option maxRecDepth 20000 in
theorem gX2_turned_X2_holds : GoodIn wsX2_turned (va_wsS RX2 95 yX2_holds wsX2_holds) := goodIn_app (goodIn_of _ (by decide +kernel)) ggX2_turned_X2_holds
set_option maxRecDepth 20000 in
theorem ggX2_turned_X2_bit : GoodIn wsX2_turned wsX2_bit := goodIn_r _ [7] (by decide +kernel) (by decide +kernel)
set_option maxRecDepth 20000 in
theorem gX2_turned_X2_bit : GoodIn wsX2_turned (va_wsS RX2 60 yX2_bit wsX2_bit) := goodIn_app (goodIn_of _ (by decide +kernel)) ggX2_turned_X2_bit
theorem dX2_turned_0 : decode cX2_turned 0 = .ok (.iconst 0, 1) := by decide +kernel
theorem dX2_turned_1 : decode cX2_turned 1 = .ok (.istore_n 1, 1) := by decide +kernel
theorem dX2_turned_2 : decode cX2_turned 2 = .ok (.iconst 0, 1) := by decide +kernel
theorem dX2_turned_3 : decode cX2_turned 3 = .ok (.istore_n 2, 1) := by decide +kernel
theorem dX2_turned_4 : decode cX2_turned 4 = .ok (.iload_n 2, 1) := by decide +kernel
theorem dX2_turned_5 : decode cX2_turned 5 = .ok (.iconst 5, 1) := by decide +kernel
theorem dX2_turned_6 : decode cX2_turned 6 = .ok (.if_icmp .ge 39, 3) := by decide +kernel
theorem dX2_turned_9 : decode cX2_turned 9 = .ok (.iconst 0, 1) := by decide +kernel
theorem dX2_turned_10 : decode cX2_turned 10 = .ok (.istore_n 3, 1) := by decide +kernel
theorem dX2_turned_11 : decode cX2_turned 11 = .ok (.iload_n 3, 1) := by decide +kernel
theorem dX2_turned_12 : decode cX2_turned 12 = .ok (.iconst 5, 1) := by decide +kernel
theorem dX2_turned_13 : decode cX2_turned 13 = .ok (.if_icmp .ge 26, 3) := by decide +kernel
theorem dX2_turned_16 : decode cX2_turned 16 = .ok (.iload_n 0, 1) := by decide +kernel
theorem dX2_turned_17 : decode cX2_turned 17 = .ok (.iload_n 3, 1) := by decide +kernel
theorem dX2_turned_18 : decode cX2_turned 18 = .ok (.iload_n 2, 1) := by decide +kernel
theorem dX2_turned_19 : decode cX2_turned 19 = .ok (.invokestatic 95, 3) := by decide +kernel
theorem dX2_turned_22 : decode cX2_turned 22 = .ok (.ifCond .eq 11, 3) := by decide +kernel
theorem dX2_turned_25 : decode cX2_turned 25 = .ok (.iload_n 1, 1) := by decide +kernel
theorem dX2_turned_26 : decode cX2_turned 26 = .ok (.iload_n 2, 1) := by decide +kernel
theorem dX2_turned_27 : decode cX2_turned 27 = .ok (.iload_n 3, 1) := by decide +kernel
theorem dX2_turned_28 : decode cX2_turned 28 = .ok (.invokestatic 60, 3) := by decide +kernel
theorem dX2_turned_31 : decode cX2_turned 31 = .ok (.ior, 1) := by decide +kernel
theorem dX2_turned_32 : decode cX2_turned 32 = .ok (.istore_n 1, 1) := by decide +kernel
theorem dX2_turned_33 : decode cX2_turned 33 = .ok (.iinc 3 1, 3) := by decide +kernel
theorem dX2_turned_36 : decode cX2_turned 36 = .ok (.goto (-25), 3) := by decide +kernel
theorem dX2_turned_39 : decode cX2_turned 39 = .ok (.iinc 2 1, 3) := by decide +kernel
theorem dX2_turned_42 : decode cX2_turned 42 = .ok (.goto (-38), 3) := by decide +kernel
theorem dX2_turned_45 : decode cX2_turned 45 = .ok (.iload_n 1, 1) := by decide +kernel
theorem dX2_turned_46 : decode cX2_turned 46 = .ok (.ireturn, 1) := by decide +kernel
set_option maxRecDepth 20000 in
theorem ggX2_joined_X2_holds : GoodIn wsX2_joined wsX2_holds := goodIn_r _ [4] (by decide +kernel) (by decide +kernel)
set_option maxRecDepth 20000 in
theorem gX2_joined_X2_holds : GoodIn wsX2_joined (va_wsS RX2 95 yX2_holds wsX2_holds) := goodIn_app (goodIn_of _ (by decide +kernel)) ggX2_joined_X2_holds
set_option maxRecDepth 20000 in
theorem ggX2_joined_X2_row : GoodIn wsX2_joined wsX2_row := goodIn_r _ [7] (by decide +kernel) (by decide +kernel)
set_option maxRecDepth 20000 in
theorem gX2_joined_X2_row : GoodIn wsX2_joined (va_wsS RX2 116 yX2_row wsX2_row) := goodIn_app (goodIn_of _ (by decide +kernel)) ggX2_joined_X2_row
theorem dX2_joined_0 : decode cX2_joined 0 = .ok (.iconst 0, 1) := by decide +kernel
theorem dX2_joined_1 : decode cX2_joined 1 = .ok (.istore_n 2, 1) := by decide +kernel
theorem dX2_joined_2 : decode cX2_joined 2 = .ok (.iconst 0, 1) := by decide +kernel
theorem dX2_joined_3 : decode cX2_joined 3 = .ok (.istore_n 3, 1) := by decide +kernel
theorem dX2_joined_4 : decode cX2_joined 4 = .ok (.iload_n 3, 1) := by decide +kernel
theorem dX2_joined_5 : decode cX2_joined 5 = .ok (.iconst 5, 1) := by decide +kernel
theorem dX2_joined_6 : decode cX2_joined 6 = .ok (.if_icmp .ge 47, 3) := by decide +kernel
theorem dX2_joined_9 : decode cX2_joined 9 = .ok (.iconst 0, 1) := by decide +kernel
theorem dX2_joined_10 : decode cX2_joined 10 = .ok (.istore 4, 2) := by decide +kernel
theorem dX2_joined_12 : decode cX2_joined 12 = .ok (.iload 4, 2) := by decide +kernel
theorem dX2_joined_14 : decode cX2_joined 14 = .ok (.iconst 5, 1) := by decide +kernel
theorem dX2_joined_15 : decode cX2_joined 15 = .ok (.if_icmp .ge 32, 3) := by decide +kernel
theorem dX2_joined_18 : decode cX2_joined 18 = .ok (.iload_n 0, 1) := by decide +kernel
theorem dX2_joined_19 : decode cX2_joined 19 = .ok (.iload_n 3, 1) := by decide +kernel
theorem dX2_joined_20 : decode cX2_joined 20 = .ok (.iload 4, 2) := by decide +kernel
theorem dX2_joined_22 : decode cX2_joined 22 = .ok (.invokestatic 95, 3) := by decide +kernel
theorem dX2_joined_25 : decode cX2_joined 25 = .ok (.ifCond .eq 16, 3) := by decide +kernel
theorem dX2_joined_28 : decode cX2_joined 28 = .ok (.iload_n 2, 1) := by decide +kernel
theorem dX2_joined_29 : decode cX2_joined 29 = .ok (.iload_n 1, 1) := by decide +kernel
theorem dX2_joined_30 : decode cX2_joined 30 = .ok (.iload 4, 2) := by decide +kernel
theorem dX2_joined_32 : decode cX2_joined 32 = .ok (.invokestatic 116, 3) := by decide +kernel
theorem dX2_joined_35 : decode cX2_joined 35 = .ok (.iconst 5, 1) := by decide +kernel
theorem dX2_joined_36 : decode cX2_joined 36 = .ok (.iload_n 3, 1) := by decide +kernel
theorem dX2_joined_37 : decode cX2_joined 37 = .ok (.imul, 1) := by decide +kernel
theorem dX2_joined_38 : decode cX2_joined 38 = .ok (.ishl, 1) := by decide +kernel
theorem dX2_joined_39 : decode cX2_joined 39 = .ok (.ior, 1) := by decide +kernel
theorem dX2_joined_40 : decode cX2_joined 40 = .ok (.istore_n 2, 1) := by decide +kernel
theorem dX2_joined_41 : decode cX2_joined 41 = .ok (.iinc 4 1, 3) := by decide +kernel
theorem dX2_joined_44 : decode cX2_joined 44 = .ok (.goto (-32), 3) := by decide +kernel
theorem dX2_joined_47 : decode cX2_joined 47 = .ok (.iinc 3 1, 3) := by decide +kernel
theorem dX2_joined_50 : decode cX2_joined 50 = .ok (.goto (-46), 3) := by decide +kernel
theorem dX2_joined_53 : decode cX2_joined 53 = .ok (.iload_n 2, 1) := by decide +kernel
theorem dX2_joined_54 : decode cX2_joined 54 = .ok (.ireturn, 1) := by decide +kernel
set_option maxRecDepth 20000 in
theorem ggX2_remakeViews_X2_fill : GoodIn wsX2_remakeViews wsX2_fill := goodIn_r _ [6, 7, 8, 9, 5, 10, 11, 1, 12, 13, 14, 15, 16, 17, 18, 19, 20, 21, 22, 23, 24, 25, 26, 27, 28, 29, 30, 31, 32, 33, 34, 35, 36, 37, 38, 39, 40, 41, 42, 43, 58, 59, 60, 61, 62, 63, 64, 65, 66, 67, 68, 69, 70] (by decide +kernel) (by decide +kernel)
set_option maxRecDepth 20000 in
theorem gX2_remakeViews_X2_fill : GoodIn wsX2_remakeViews (wsV RX2 77 RX2 yX2_fill wsX2_fill) := goodIn_app (goodIn_of _ (by decide +kernel)) ggX2_remakeViews_X2_fill
set_option maxRecDepth 20000 in
theorem ggX2_remakeViews_X2_forgetChanges : GoodIn wsX2_remakeViews wsX2_forgetChanges := goodIn_r _ [47, 1, 48, 49, 50, 51, 52, 53, 54, 55, 56, 57, 58, 59, 60, 61, 62, 63] (by decide +kernel) (by decide +kernel)
set_option maxRecDepth 20000 in
theorem gX2_remakeViews_X2_forgetChanges : GoodIn wsX2_remakeViews (wsV RX2 64 RX2 yX2_forgetChanges wsX2_forgetChanges) := goodIn_app (goodIn_of _ (by decide +kernel)) ggX2_remakeViews_X2_forgetChanges
theorem dX2_remakeViews_0 : decode cX2_remakeViews 0 = .ok (.iconst 2, 1) := by decide +kernel
theorem dX2_remakeViews_1 : decode cX2_remakeViews 1 = .ok (.istore_n 1, 1) := by decide +kernel
theorem dX2_remakeViews_2 : decode cX2_remakeViews 2 = .ok (.iload_n 1, 1) := by decide +kernel
theorem dX2_remakeViews_3 : decode cX2_remakeViews 3 = .ok (.bipush 7, 2) := by decide +kernel
theorem dX2_remakeViews_5 : decode cX2_remakeViews 5 = .ok (.if_icmp .ge 16, 3) := by decide +kernel
theorem dX2_remakeViews_8 : decode cX2_remakeViews 8 = .ok (.aload_n 0, 1) := by decide +kernel
theorem dX2_remakeViews_9 : decode cX2_remakeViews 9 = .ok (.getfield 16, 3) := by decide +kernel
theorem dX2_remakeViews_12 : decode cX2_remakeViews 12 = .ok (.iload_n 1, 1) := by decide +kernel
theorem dX2_remakeViews_13 : decode cX2_remakeViews 13 = .ok (.iconst 0, 1) := by decide +kernel
theorem dX2_remakeViews_14 : decode cX2_remakeViews 14 = .ok (.iastore, 1) := by decide +kernel
theorem dX2_remakeViews_15 : decode cX2_remakeViews 15 = .ok (.iinc 1 1, 3) := by decide +kernel
theorem dX2_remakeViews_18 : decode cX2_remakeViews 18 = .ok (.goto (-16), 3) := by decide +kernel
theorem dX2_remakeViews_21 : decode cX2_remakeViews 21 = .ok (.iconst 1, 1) := by decide +kernel
theorem dX2_remakeViews_22 : decode cX2_remakeViews 22 = .ok (.istore_n 1, 1) := by decide +kernel
theorem dX2_remakeViews_23 : decode cX2_remakeViews 23 = .ok (.iload_n 1, 1) := by decide +kernel
theorem dX2_remakeViews_24 : decode cX2_remakeViews 24 = .ok (.bipush 7, 2) := by decide +kernel
theorem dX2_remakeViews_26 : decode cX2_remakeViews 26 = .ok (.if_icmp .gt 14, 3) := by decide +kernel
theorem dX2_remakeViews_29 : decode cX2_remakeViews 29 = .ok (.aload_n 0, 1) := by decide +kernel
theorem dX2_remakeViews_30 : decode cX2_remakeViews 30 = .ok (.iload_n 1, 1) := by decide +kernel
theorem dX2_remakeViews_31 : decode cX2_remakeViews 31 = .ok (.invokevirtual 77, 3) := by decide +kernel
theorem dX2_remakeViews_34 : decode cX2_remakeViews 34 = .ok (.iinc 1 1, 3) := by decide +kernel
theorem dX2_remakeViews_37 : decode cX2_remakeViews 37 = .ok (.goto (-14), 3) := by decide +kernel
theorem dX2_remakeViews_40 : decode cX2_remakeViews 40 = .ok (.aload_n 0, 1) := by decide +kernel
theorem dX2_remakeViews_41 : decode cX2_remakeViews 41 = .ok (.invokevirtual 64, 3) := by decide +kernel
theorem dX2_remakeViews_44 : decode cX2_remakeViews 44 = .ok (.return_, 1) := by decide +kernel
set_option maxRecDepth 20000 in
theorem ggX2_forgetChanges_J7_fill_53178 : GoodIn wsX2_forgetChanges wsJ7_fill_53178 := goodIn_r _ [11] (by decide +kernel) (by decide +kernel)
set_option maxRecDepth 20000 in
theorem gX2_forgetChanges_J7_fill_53178 : GoodIn wsX2_forgetChanges (va_wsS RX2 125 yJ7_fill_53178 wsJ7_fill_53178) := goodIn_app (goodIn_of _ (by decide +kernel)) ggX2_forgetChanges_J7_fill_53178
theorem dX2_forgetChanges_0 : decode cX2_forgetChanges 0 = .ok (.aload_n 0, 1) := by decide +kernel
theorem dX2_forgetChanges_1 : decode cX2_forgetChanges 1 = .ok (.getfield 16, 3) := by decide +kernel
theorem dX2_forgetChanges_4 : decode cX2_forgetChanges 4 = .ok (.iconst 0, 1) := by decide +kernel
theorem dX2_forgetChanges_5 : decode cX2_forgetChanges 5 = .ok (.aload_n 0, 1) := by decide +kernel
theorem dX2_forgetChanges_6 : decode cX2_forgetChanges 6 = .ok (.getfield 20, 3) := by decide +kernel
theorem dX2_forgetChanges_9 : decode cX2_forgetChanges 9 = .ok (.iconst 0, 1) := by decide +kernel
theorem dX2_forgetChanges_10 : decode cX2_forgetChanges 10 = .ok (.bipush 7, 2) := by decide +kernel
theorem dX2_forgetChanges_12 : decode cX2_forgetChanges 12 = .ok (.invokestatic 119, 3) := by decide +kernel
theorem dX2_forgetChanges_15 : decode cX2_forgetChanges 15 = .ok (.aload_n 0, 1) := by decide +kernel
theorem dX2_forgetChanges_16 : decode cX2_forgetChanges 16 = .ok (.getfield 23, 3) := by decide +kernel
theorem dX2_forgetChanges_19 : decode cX2_forgetChanges 19 = .ok (.iconst 0, 1) := by decide +kernel
theorem dX2_forgetChanges_20 : decode cX2_forgetChanges 20 = .ok (.invokestatic 125, 3) := by decide +kernel
theorem dX2_forgetChanges_23 : decode cX2_forgetChanges 23 = .ok (.return_, 1) := by decide +kernel
set_option maxRecDepth 20000 in
theorem ggX2_doStaged_X2_clearStaged : GoodIn wsX2_doStaged wsX2_clearStaged := goodIn_r _ [8, 2, 3, 9, 10, 11, 12, 13, 14, 15, 16, 17, 18] (by decide +kernel) (by decide +kernel)
set_option maxRecDepth 20000 in
theorem gX2_doStaged_X2_clearStaged : GoodIn wsX2_doStaged (wsV RX2 92 RX2 yX2_clearStaged wsX2_clearStaged) := goodIn_app (goodIn_of _ (by decide +kernel)) ggX2_doStaged_X2_clearStaged
theorem dX2_doStaged_0 : decode cX2_doStaged 0 = .ok (.iconst 0, 1) := by decide +kernel
theorem dX2_doStaged_1 : decode cX2_doStaged 1 = .ok (.istore_n 1, 1) := by decide +kernel
theorem dX2_doStaged_2 : decode cX2_doStaged 2 = .ok (.iload_n 1, 1) := by decide +kernel
theorem dX2_doStaged_3 : decode cX2_doStaged 3 = .ok (.iconst 2, 1) := by decide +kernel
theorem dX2_doStaged_4 : decode cX2_doStaged 4 = .ok (.if_icmp .ge 37, 3) := by decide +kernel
theorem dX2_doStaged_7 : decode cX2_doStaged 7 = .ok (.aload_n 0, 1) := by decide +kernel
theorem dX2_doStaged_8 : decode cX2_doStaged 8 = .ok (.getfield 16, 3) := by decide +kernel
theorem dX2_doStaged_11 : decode cX2_doStaged 11 = .ok (.iload_n 1, 1) := by decide +kernel
theorem dX2_doStaged_12 : decode cX2_doStaged 12 = .ok (.aload_n 0, 1) := by decide +kernel
theorem dX2_doStaged_13 : decode cX2_doStaged 13 = .ok (.getfield 16, 3) := by decide +kernel
theorem dX2_doStaged_16 : decode cX2_doStaged 16 = .ok (.iload_n 1, 1) := by decide +kernel
theorem dX2_doStaged_17 : decode cX2_doStaged 17 = .ok (.iaload, 1) := by decide +kernel
theorem dX2_doStaged_18 : decode cX2_doStaged 18 = .ok (.aload_n 0, 1) := by decide +kernel
theorem dX2_doStaged_19 : decode cX2_doStaged 19 = .ok (.getfield 26, 3) := by decide +kernel
theorem dX2_doStaged_22 : decode cX2_doStaged 22 = .ok (.iload_n 1, 1) := by decide +kernel
theorem dX2_doStaged_23 : decode cX2_doStaged 23 = .ok (.iaload, 1) := by decide +kernel
theorem dX2_doStaged_24 : decode cX2_doStaged 24 = .ok (.ior, 1) := by decide +kernel
theorem dX2_doStaged_25 : decode cX2_doStaged 25 = .ok (.aload_n 0, 1) := by decide +kernel
theorem dX2_doStaged_26 : decode cX2_doStaged 26 = .ok (.getfield 29, 3) := by decide +kernel
theorem dX2_doStaged_29 : decode cX2_doStaged 29 = .ok (.iload_n 1, 1) := by decide +kernel
theorem dX2_doStaged_30 : decode cX2_doStaged 30 = .ok (.iaload, 1) := by decide +kernel
theorem dX2_doStaged_31 : decode cX2_doStaged 31 = .ok (.iconst (-1), 1) := by decide +kernel
theorem dX2_doStaged_32 : decode cX2_doStaged 32 = .ok (.ixor, 1) := by decide +kernel
theorem dX2_doStaged_33 : decode cX2_doStaged 33 = .ok (.iand, 1) := by decide +kernel
theorem dX2_doStaged_34 : decode cX2_doStaged 34 = .ok (.iastore, 1) := by decide +kernel
theorem dX2_doStaged_35 : decode cX2_doStaged 35 = .ok (.iinc 1 1, 3) := by decide +kernel
theorem dX2_doStaged_38 : decode cX2_doStaged 38 = .ok (.goto (-36), 3) := by decide +kernel
theorem dX2_doStaged_41 : decode cX2_doStaged 41 = .ok (.aload_n 0, 1) := by decide +kernel
theorem dX2_doStaged_42 : decode cX2_doStaged 42 = .ok (.invokevirtual 92, 3) := by decide +kernel
theorem dX2_doStaged_45 : decode cX2_doStaged 45 = .ok (.return_, 1) := by decide +kernel
set_option maxRecDepth 20000 in
theorem ggX2_clearStaged_J7_fill_53178 : GoodIn wsX2_clearStaged wsJ7_fill_53178 := goodIn_r _ [6] (by decide +kernel) (by decide +kernel)
set_option maxRecDepth 20000 in
theorem gX2_clearStaged_J7_fill_53178 : GoodIn wsX2_clearStaged (va_wsS RX2 125 yJ7_fill_53178 wsJ7_fill_53178) := goodIn_app (goodIn_of _ (by decide +kernel)) ggX2_clearStaged_J7_fill_53178
theorem dX2_clearStaged_0 : decode cX2_clearStaged 0 = .ok (.aload_n 0, 1) := by decide +kernel
theorem dX2_clearStaged_1 : decode cX2_clearStaged 1 = .ok (.getfield 26, 3) := by decide +kernel
theorem dX2_clearStaged_4 : decode cX2_clearStaged 4 = .ok (.iconst 0, 1) := by decide +kernel
theorem dX2_clearStaged_5 : decode cX2_clearStaged 5 = .ok (.invokestatic 125, 3) := by decide +kernel
theorem dX2_clearStaged_8 : decode cX2_clearStaged 8 = .ok (.aload_n 0, 1) := by decide +kernel
theorem dX2_clearStaged_9 : decode cX2_clearStaged 9 = .ok (.getfield 29, 3) := by decide +kernel
theorem dX2_clearStaged_12 : decode cX2_clearStaged 12 = .ok (.iconst 0, 1) := by decide +kernel
theorem dX2_clearStaged_13 : decode cX2_clearStaged 13 = .ok (.invokestatic 125, 3) := by decide +kernel
theorem dX2_clearStaged_16 : decode cX2_clearStaged 16 = .ok (.return_, 1) := by decide +kernel
theorem dX2_putInto_0 : decode cX2_putInto 0 = .ok (.aload_n 0, 1) := by decide +kernel
theorem dX2_putInto_1 : decode cX2_putInto 1 = .ok (.getfield 16, 3) := by decide +kernel
theorem dX2_putInto_4 : decode cX2_putInto 4 = .ok (.iload_n 1, 1) := by decide +kernel
theorem dX2_putInto_5 : decode cX2_putInto 5 = .ok (.iaload, 1) := by decide +kernel
theorem dX2_putInto_6 : decode cX2_putInto 6 = .ok (.aload_n 0, 1) := by decide +kernel
theorem dX2_putInto_7 : decode cX2_putInto 7 = .ok (.getfield 20, 3) := by decide +kernel
theorem dX2_putInto_10 : decode cX2_putInto 10 = .ok (.iload_n 1, 1) := by decide +kernel
theorem dX2_putInto_11 : decode cX2_putInto 11 = .ok (.iaload, 1) := by decide +kernel
theorem dX2_putInto_12 : decode cX2_putInto 12 = .ok (.iconst (-1), 1) := by decide +kernel
theorem dX2_putInto_13 : decode cX2_putInto 13 = .ok (.ixor, 1) := by decide +kernel
theorem dX2_putInto_14 : decode cX2_putInto 14 = .ok (.iand, 1) := by decide +kernel
theorem dX2_putInto_15 : decode cX2_putInto 15 = .ok (.ireturn, 1) := by decide +kernel
theorem dX2_takenOutOf_0 : decode cX2_takenOutOf 0 = .ok (.aload_n 0, 1) := by decide +kernel
theorem dX2_takenOutOf_1 : decode cX2_takenOutOf 1 = .ok (.getfield 20, 3) := by decide +kernel
theorem dX2_takenOutOf_4 : decode cX2_takenOutOf 4 = .ok (.iload_n 1, 1) := by decide +kernel
theorem dX2_takenOutOf_5 : decode cX2_takenOutOf 5 = .ok (.iaload, 1) := by decide +kernel
theorem dX2_takenOutOf_6 : decode cX2_takenOutOf 6 = .ok (.aload_n 0, 1) := by decide +kernel
theorem dX2_takenOutOf_7 : decode cX2_takenOutOf 7 = .ok (.getfield 16, 3) := by decide +kernel
theorem dX2_takenOutOf_10 : decode cX2_takenOutOf 10 = .ok (.iload_n 1, 1) := by decide +kernel
theorem dX2_takenOutOf_11 : decode cX2_takenOutOf 11 = .ok (.iaload, 1) := by decide +kernel
theorem dX2_takenOutOf_12 : decode cX2_takenOutOf 12 = .ok (.iconst (-1), 1) := by decide +kernel
theorem dX2_takenOutOf_13 : decode cX2_takenOutOf 13 = .ok (.ixor, 1) := by decide +kernel
theorem dX2_takenOutOf_14 : decode cX2_takenOutOf 14 = .ok (.iand, 1) := by decide +kernel
theorem dX2_takenOutOf_15 : decode cX2_takenOutOf 15 = .ok (.ireturn, 1) := by decide +kernel
set_option maxRecDepth 20000 in
theorem ggX2_findSuspects_X2_suspectOnce : GoodIn wsX2_findSuspects wsX2_suspectOnce := goodIn_r _ [5, 6, 7, 8, 9, 10, 11, 12, 13, 14, 15, 16, 17, 18, 19, 20, 21, 22, 23, 24, 25, 4, 26, 27, 28, 29, 30, 31, 32, 33, 34, 35, 36, 37, 38, 39, 40, 41, 42, 43, 44, 45, 46, 47, 48, 49, 50, 51, 52, 53, 54, 55, 56, 57, 58, 59, 60, 61, 62, 63, 64, 65, 66, 67, 68] (by decide +kernel) (by decide +kernel)
set_option maxRecDepth 20000 in
theorem gX2_findSuspects_X2_suspectOnce : GoodIn wsX2_findSuspects (wsV RX2 130 RX2 yX2_suspectOnce wsX2_suspectOnce) := goodIn_app (goodIn_of _ (by decide +kernel)) ggX2_findSuspects_X2_suspectOnce
theorem dX2_findSuspects_0 : decode cX2_findSuspects 0 = .ok (.iconst 1, 1) := by decide +kernel
theorem dX2_findSuspects_1 : decode cX2_findSuspects 1 = .ok (.istore_n 2, 1) := by decide +kernel
theorem dX2_findSuspects_2 : decode cX2_findSuspects 2 = .ok (.iconst 0, 1) := by decide +kernel
theorem dX2_findSuspects_3 : decode cX2_findSuspects 3 = .ok (.istore_n 3, 1) := by decide +kernel
theorem dX2_findSuspects_4 : decode cX2_findSuspects 4 = .ok (.iload_n 2, 1) := by decide +kernel
theorem dX2_findSuspects_5 : decode cX2_findSuspects 5 = .ok (.ifCond .eq 21, 3) := by decide +kernel
theorem dX2_findSuspects_8 : decode cX2_findSuspects 8 = .ok (.iload_n 3, 1) := by decide +kernel
theorem dX2_findSuspects_9 : decode cX2_findSuspects 9 = .ok (.bipush 126, 2) := by decide +kernel
theorem dX2_findSuspects_11 : decode cX2_findSuspects 11 = .ok (.if_icmp .ge 15, 3) := by decide +kernel
theorem dX2_findSuspects_14 : decode cX2_findSuspects 14 = .ok (.aload_n 0, 1) := by decide +kernel
theorem dX2_findSuspects_15 : decode cX2_findSuspects 15 = .ok (.iload_n 1, 1) := by decide +kernel
theorem dX2_findSuspects_16 : decode cX2_findSuspects 16 = .ok (.invokevirtual 130, 3) := by decide +kernel
theorem dX2_findSuspects_19 : decode cX2_findSuspects 19 = .ok (.istore_n 2, 1) := by decide +kernel
theorem dX2_findSuspects_20 : decode cX2_findSuspects 20 = .ok (.iinc 3 1, 3) := by decide +kernel
theorem dX2_findSuspects_23 : decode cX2_findSuspects 23 = .ok (.goto (-19), 3) := by decide +kernel
theorem dX2_findSuspects_26 : decode cX2_findSuspects 26 = .ok (.return_, 1) := by decide +kernel
set_option maxRecDepth 20000 in
theorem ggX2_suspectOnce_X1_layerOf : GoodIn wsX2_suspectOnce wsX1_layerOf := goodIn_r _ [6, 7, 8, 9, 10, 11, 12, 13, 14, 58, 59, 60] (by decide +kernel) (by decide +kernel)
set_option maxRecDepth 20000 in
theorem gX2_suspectOnce_X1_layerOf_n133 : GoodIn wsX2_suspectOnce (wsX1_layerOf) := ggX2_suspectOnce_X1_layerOf
set_option maxRecDepth 20000 in
theorem ggX2_suspectOnce_X1_leadsTo : GoodIn wsX2_suspectOnce wsX1_leadsTo := goodIn_r _ [17, 7, 58, 59, 60] (by decide +kernel) (by decide +kernel)
set_option maxRecDepth 20000 in
theorem gX2_suspectOnce_X1_leadsTo_n99 : GoodIn wsX2_suspectOnce (wsX1_leadsTo) := ggX2_suspectOnce_X1_leadsTo
set_option maxRecDepth 20000 in
theorem ggX2_suspectOnce_X2_suspectsBy : GoodIn wsX2_suspectOnce wsX2_suspectsBy := goodIn_r _ [22, 23, 24, 25, 26, 21, 27, 1, 2, 15, 4, 16, 17, 7, 28, 29, 30, 31, 32, 33, 34, 35, 36, 37, 38, 39, 40, 41, 42, 43, 44, 45, 46, 47, 48, 49, 50, 51, 52, 53, 54, 55, 56, 57, 61, 62, 63, 64, 58, 59, 60] (by decide +kernel) (by decide +kernel)
set_option maxRecDepth 20000 in
theorem gX2_suspectOnce_X2_suspectsBy : GoodIn wsX2_suspectOnce (wsV RX2 136 RX2 yX2_suspectsBy wsX2_suspectsBy) := goodIn_app (goodIn_of _ (by decide +kernel)) ggX2_suspectOnce_X2_suspectsBy
theorem dX2_suspectOnce_0 : decode cX2_suspectOnce 0 = .ok (.iconst 0, 1) := by decide +kernel
theorem dX2_suspectOnce_1 : decode cX2_suspectOnce 1 = .ok (.istore_n 2, 1) := by decide +kernel
theorem dX2_suspectOnce_2 : decode cX2_suspectOnce 2 = .ok (.iconst 0, 1) := by decide +kernel
theorem dX2_suspectOnce_3 : decode cX2_suspectOnce 3 = .ok (.istore_n 3, 1) := by decide +kernel
theorem dX2_suspectOnce_4 : decode cX2_suspectOnce 4 = .ok (.iload_n 3, 1) := by decide +kernel
theorem dX2_suspectOnce_5 : decode cX2_suspectOnce 5 = .ok (.aload_n 0, 1) := by decide +kernel
theorem dX2_suspectOnce_6 : decode cX2_suspectOnce 6 = .ok (.getfield 10, 3) := by decide +kernel
theorem dX2_suspectOnce_9 : decode cX2_suspectOnce 9 = .ok (.getfield 39, 3) := by decide +kernel
theorem dX2_suspectOnce_12 : decode cX2_suspectOnce 12 = .ok (.if_icmp .ge 107, 3) := by decide +kernel
theorem dX2_suspectOnce_15 : decode cX2_suspectOnce 15 = .ok (.aload_n 0, 1) := by decide +kernel
theorem dX2_suspectOnce_16 : decode cX2_suspectOnce 16 = .ok (.getfield 10, 3) := by decide +kernel
theorem dX2_suspectOnce_19 : decode cX2_suspectOnce 19 = .ok (.getfield 103, 3) := by decide +kernel
theorem dX2_suspectOnce_22 : decode cX2_suspectOnce 22 = .ok (.iload_n 3, 1) := by decide +kernel
theorem dX2_suspectOnce_23 : decode cX2_suspectOnce 23 = .ok (.aaload, 1) := by decide +kernel
theorem dX2_suspectOnce_24 : decode cX2_suspectOnce 24 = .ok (.astore 4, 2) := by decide +kernel
theorem dX2_suspectOnce_26 : decode cX2_suspectOnce 26 = .ok (.aload_n 0, 1) := by decide +kernel
theorem dX2_suspectOnce_27 : decode cX2_suspectOnce 27 = .ok (.getfield 10, 3) := by decide +kernel
theorem dX2_suspectOnce_30 : decode cX2_suspectOnce 30 = .ok (.aload 4, 2) := by decide +kernel
theorem dX2_suspectOnce_32 : decode cX2_suspectOnce 32 = .ok (.getfield 107, 3) := by decide +kernel
theorem dX2_suspectOnce_35 : decode cX2_suspectOnce 35 = .ok (.invokevirtual 133, 3) := by decide +kernel
theorem dX2_suspectOnce_38 : decode cX2_suspectOnce 38 = .ok (.iload_n 1, 1) := by decide +kernel
theorem dX2_suspectOnce_39 : decode cX2_suspectOnce 39 = .ok (.if_icmp .ne 74, 3) := by decide +kernel
theorem dX2_suspectOnce_42 : decode cX2_suspectOnce 42 = .ok (.aload_n 0, 1) := by decide +kernel
theorem dX2_suspectOnce_43 : decode cX2_suspectOnce 43 = .ok (.getfield 10, 3) := by decide +kernel
theorem dX2_suspectOnce_46 : decode cX2_suspectOnce 46 = .ok (.aload 4, 2) := by decide +kernel
theorem dX2_suspectOnce_48 : decode cX2_suspectOnce 48 = .ok (.getfield 107, 3) := by decide +kernel
theorem dX2_suspectOnce_51 : decode cX2_suspectOnce 51 = .ok (.aload 4, 2) := by decide +kernel
theorem dX2_suspectOnce_53 : decode cX2_suspectOnce 53 = .ok (.getfield 107, 3) := by decide +kernel
theorem dX2_suspectOnce_56 : decode cX2_suspectOnce 56 = .ok (.invokevirtual 99, 3) := by decide +kernel
theorem dX2_suspectOnce_59 : decode cX2_suspectOnce 59 = .ok (.ifCond .eq 54, 3) := by decide +kernel
theorem dX2_suspectOnce_62 : decode cX2_suspectOnce 62 = .ok (.aload_n 0, 1) := by decide +kernel
theorem dX2_suspectOnce_63 : decode cX2_suspectOnce 63 = .ok (.aload 4, 2) := by decide +kernel
theorem dX2_suspectOnce_65 : decode cX2_suspectOnce 65 = .ok (.invokevirtual 136, 3) := by decide +kernel
theorem dX2_suspectOnce_68 : decode cX2_suspectOnce 68 = .ok (.aload_n 0, 1) := by decide +kernel
theorem dX2_suspectOnce_69 : decode cX2_suspectOnce 69 = .ok (.getfield 23, 3) := by decide +kernel
theorem dX2_suspectOnce_72 : decode cX2_suspectOnce 72 = .ok (.aload 4, 2) := by decide +kernel
theorem dX2_suspectOnce_74 : decode cX2_suspectOnce 74 = .ok (.getfield 107, 3) := by decide +kernel
theorem dX2_suspectOnce_77 : decode cX2_suspectOnce 77 = .ok (.iaload, 1) := by decide +kernel
theorem dX2_suspectOnce_78 : decode cX2_suspectOnce 78 = .ok (.iconst (-1), 1) := by decide +kernel
theorem dX2_suspectOnce_79 : decode cX2_suspectOnce 79 = .ok (.ixor, 1) := by decide +kernel
theorem dX2_suspectOnce_80 : decode cX2_suspectOnce 80 = .ok (.iand, 1) := by decide +kernel
theorem dX2_suspectOnce_81 : decode cX2_suspectOnce 81 = .ok (.istore 5, 2) := by decide +kernel
theorem dX2_suspectOnce_83 : decode cX2_suspectOnce 83 = .ok (.aload_n 0, 1) := by decide +kernel
theorem dX2_suspectOnce_84 : decode cX2_suspectOnce 84 = .ok (.getfield 23, 3) := by decide +kernel
theorem dX2_suspectOnce_87 : decode cX2_suspectOnce 87 = .ok (.aload 4, 2) := by decide +kernel
theorem dX2_suspectOnce_89 : decode cX2_suspectOnce 89 = .ok (.getfield 107, 3) := by decide +kernel
theorem dX2_suspectOnce_92 : decode cX2_suspectOnce 92 = .ok (.dup2, 1) := by decide +kernel
theorem dX2_suspectOnce_93 : decode cX2_suspectOnce 93 = .ok (.iaload, 1) := by decide +kernel
theorem dX2_suspectOnce_94 : decode cX2_suspectOnce 94 = .ok (.iload 5, 2) := by decide +kernel
theorem dX2_suspectOnce_96 : decode cX2_suspectOnce 96 = .ok (.ior, 1) := by decide +kernel
theorem dX2_suspectOnce_97 : decode cX2_suspectOnce 97 = .ok (.iastore, 1) := by decide +kernel
theorem dX2_suspectOnce_98 : decode cX2_suspectOnce 98 = .ok (.iload_n 2, 1) := by decide +kernel
theorem dX2_suspectOnce_99 : decode cX2_suspectOnce 99 = .ok (.ifCond .ne 8, 3) := by decide +kernel
theorem dX2_suspectOnce_102 : decode cX2_suspectOnce 102 = .ok (.iload 5, 2) := by decide +kernel
theorem dX2_suspectOnce_104 : decode cX2_suspectOnce 104 = .ok (.ifCond .eq 7, 3) := by decide +kernel
theorem dX2_suspectOnce_107 : decode cX2_suspectOnce 107 = .ok (.iconst 1, 1) := by decide +kernel
theorem dX2_suspectOnce_108 : decode cX2_suspectOnce 108 = .ok (.goto 4, 3) := by decide +kernel
theorem dX2_suspectOnce_111 : decode cX2_suspectOnce 111 = .ok (.iconst 0, 1) := by decide +kernel
theorem dX2_suspectOnce_112 : decode cX2_suspectOnce 112 = .ok (.istore_n 2, 1) := by decide +kernel
theorem dX2_suspectOnce_113 : decode cX2_suspectOnce 113 = .ok (.iinc 3 1, 3) := by decide +kernel
theorem dX2_suspectOnce_116 : decode cX2_suspectOnce 116 = .ok (.goto (-112), 3) := by decide +kernel
theorem dX2_suspectOnce_119 : decode cX2_suspectOnce 119 = .ok (.iload_n 2, 1) := by decide +kernel
theorem dX2_suspectOnce_120 : decode cX2_suspectOnce 120 = .ok (.ireturn, 1) := by decide +kernel
set_option maxRecDepth 20000 in
theorem ggX2_suspectsBy_X2_lostFor : GoodIn wsX2_suspectsBy wsX2_lostFor := goodIn_r _ [6, 7, 8, 9, 10, 11, 12, 13, 14, 15, 16, 5, 17, 1, 18, 38, 39, 40, 41, 42, 43, 48, 49, 50] (by decide +kernel) (by decide +kernel)
set_option maxRecDepth 20000 in
theorem gX2_suspectsBy_X2_lostFor : GoodIn wsX2_suspectsBy (wsV RX2 146 RX2 yX2_lostFor wsX2_lostFor) := goodIn_app (goodIn_of _ (by decide +kernel)) ggX2_suspectsBy_X2_lostFor
set_option maxRecDepth 20000 in
theorem ggX2_suspectsBy_X2_turned : GoodIn wsX2_suspectsBy wsX2_turned := goodIn_r _ [21, 22, 23, 5, 24, 25, 26, 27] (by decide +kernel) (by decide +kernel)
set_option maxRecDepth 20000 in
theorem gX2_suspectsBy_X2_turned : GoodIn wsX2_suspectsBy (va_wsS RX2 152 yX2_turned wsX2_turned) := goodIn_app (goodIn_of _ (by decide +kernel)) ggX2_suspectsBy_X2_turned
set_option maxRecDepth 20000 in
theorem ggX2_suspectsBy_X2_joined : GoodIn wsX2_suspectsBy wsX2_joined := goodIn_r _ [30, 22, 23, 5, 24, 31, 32, 33] (by decide +kernel) (by decide +kernel)
set_option maxRecDepth 20000 in
theorem gX2_suspectsBy_X2_joined : GoodIn wsX2_suspectsBy (va_wsS RX2 155 yX2_joined wsX2_joined) := goodIn_app (goodIn_of _ (by decide +kernel)) ggX2_suspectsBy_X2_joined
set_option maxRecDepth 20000 in
theorem ggX2_suspectsBy_X2_putInto : GoodIn wsX2_suspectsBy wsX2_putInto := goodIn_r _ [37, 18, 1, 38, 39, 40, 41, 42, 43] (by decide +kernel) (by decide +kernel)
set_option maxRecDepth 20000 in
theorem gX2_suspectsBy_X2_putInto : GoodIn wsX2_suspectsBy (wsV RX2 80 RX2 yX2_putInto wsX2_putInto) := goodIn_app (goodIn_of _ (by decide +kernel)) ggX2_suspectsBy_X2_putInto
theorem dX2_suspectsBy_0 : decode cX2_suspectsBy 0 = .ok (.aload_n 0, 1) := by decide +kernel
theorem dX2_suspectsBy_1 : decode cX2_suspectsBy 1 = .ok (.getfield 20, 3) := by decide +kernel
theorem dX2_suspectsBy_4 : decode cX2_suspectsBy 4 = .ok (.aload_n 1, 1) := by decide +kernel
theorem dX2_suspectsBy_5 : decode cX2_suspectsBy 5 = .ok (.getfield 140, 3) := by decide +kernel
theorem dX2_suspectsBy_8 : decode cX2_suspectsBy 8 = .ok (.iaload, 1) := by decide +kernel
theorem dX2_suspectsBy_9 : decode cX2_suspectsBy 9 = .ok (.istore_n 2, 1) := by decide +kernel
theorem dX2_suspectsBy_10 : decode cX2_suspectsBy 10 = .ok (.aload_n 0, 1) := by decide +kernel
theorem dX2_suspectsBy_11 : decode cX2_suspectsBy 11 = .ok (.getfield 20, 3) := by decide +kernel
theorem dX2_suspectsBy_14 : decode cX2_suspectsBy 14 = .ok (.aload_n 1, 1) := by decide +kernel
theorem dX2_suspectsBy_15 : decode cX2_suspectsBy 15 = .ok (.getfield 143, 3) := by decide +kernel
theorem dX2_suspectsBy_18 : decode cX2_suspectsBy 18 = .ok (.iaload, 1) := by decide +kernel
theorem dX2_suspectsBy_19 : decode cX2_suspectsBy 19 = .ok (.istore_n 3, 1) := by decide +kernel
theorem dX2_suspectsBy_20 : decode cX2_suspectsBy 20 = .ok (.aload_n 0, 1) := by decide +kernel
theorem dX2_suspectsBy_21 : decode cX2_suspectsBy 21 = .ok (.aload_n 1, 1) := by decide +kernel
theorem dX2_suspectsBy_22 : decode cX2_suspectsBy 22 = .ok (.getfield 107, 3) := by decide +kernel
theorem dX2_suspectsBy_25 : decode cX2_suspectsBy 25 = .ok (.aload_n 1, 1) := by decide +kernel
theorem dX2_suspectsBy_26 : decode cX2_suspectsBy 26 = .ok (.getfield 140, 3) := by decide +kernel
theorem dX2_suspectsBy_29 : decode cX2_suspectsBy 29 = .ok (.invokevirtual 146, 3) := by decide +kernel
theorem dX2_suspectsBy_32 : decode cX2_suspectsBy 32 = .ok (.istore 4, 2) := by decide +kernel
theorem dX2_suspectsBy_34 : decode cX2_suspectsBy 34 = .ok (.aload_n 0, 1) := by decide +kernel
theorem dX2_suspectsBy_35 : decode cX2_suspectsBy 35 = .ok (.aload_n 1, 1) := by decide +kernel
theorem dX2_suspectsBy_36 : decode cX2_suspectsBy 36 = .ok (.getfield 107, 3) := by decide +kernel
theorem dX2_suspectsBy_39 : decode cX2_suspectsBy 39 = .ok (.aload_n 1, 1) := by decide +kernel
theorem dX2_suspectsBy_40 : decode cX2_suspectsBy 40 = .ok (.getfield 143, 3) := by decide +kernel
theorem dX2_suspectsBy_43 : decode cX2_suspectsBy 43 = .ok (.invokevirtual 146, 3) := by decide +kernel
theorem dX2_suspectsBy_46 : decode cX2_suspectsBy 46 = .ok (.istore 5, 2) := by decide +kernel
theorem dX2_suspectsBy_48 : decode cX2_suspectsBy 48 = .ok (.aload_n 1, 1) := by decide +kernel
theorem dX2_suspectsBy_49 : decode cX2_suspectsBy 49 = .ok (.getfield 149, 3) := by decide +kernel
theorem dX2_suspectsBy_52 : decode cX2_suspectsBy 52 = .ok (.tableswitch 65 0 3 #[32, 35, 41, 55], 32) := by decide +kernel
theorem dX2_suspectsBy_84 : decode cX2_suspectsBy 84 = .ok (.iload 4, 2) := by decide +kernel
theorem dX2_suspectsBy_86 : decode cX2_suspectsBy 86 = .ok (.ireturn, 1) := by decide +kernel
theorem dX2_suspectsBy_87 : decode cX2_suspectsBy 87 = .ok (.iload 4, 2) := by decide +kernel
theorem dX2_suspectsBy_89 : decode cX2_suspectsBy 89 = .ok (.invokestatic 152, 3) := by decide +kernel
theorem dX2_suspectsBy_92 : decode cX2_suspectsBy 92 = .ok (.ireturn, 1) := by decide +kernel
theorem dX2_suspectsBy_93 : decode cX2_suspectsBy 93 = .ok (.iload 4, 2) := by decide +kernel
theorem dX2_suspectsBy_95 : decode cX2_suspectsBy 95 = .ok (.iload_n 3, 1) := by decide +kernel
theorem dX2_suspectsBy_96 : decode cX2_suspectsBy 96 = .ok (.invokestatic 155, 3) := by decide +kernel
theorem dX2_suspectsBy_99 : decode cX2_suspectsBy 99 = .ok (.iload_n 2, 1) := by decide +kernel
theorem dX2_suspectsBy_100 : decode cX2_suspectsBy 100 = .ok (.iload 5, 2) := by decide +kernel
theorem dX2_suspectsBy_102 : decode cX2_suspectsBy 102 = .ok (.invokestatic 155, 3) := by decide +kernel
theorem dX2_suspectsBy_105 : decode cX2_suspectsBy 105 = .ok (.ior, 1) := by decide +kernel
theorem dX2_suspectsBy_106 : decode cX2_suspectsBy 106 = .ok (.ireturn, 1) := by decide +kernel
theorem dX2_suspectsBy_107 : decode cX2_suspectsBy 107 = .ok (.iload 4, 2) := by decide +kernel
theorem dX2_suspectsBy_109 : decode cX2_suspectsBy 109 = .ok (.iload_n 3, 1) := by decide +kernel
theorem dX2_suspectsBy_110 : decode cX2_suspectsBy 110 = .ok (.iand, 1) := by decide +kernel
theorem dX2_suspectsBy_111 : decode cX2_suspectsBy 111 = .ok (.iload_n 2, 1) := by decide +kernel
theorem dX2_suspectsBy_112 : decode cX2_suspectsBy 112 = .ok (.iload 5, 2) := by decide +kernel
theorem dX2_suspectsBy_114 : decode cX2_suspectsBy 114 = .ok (.iand, 1) := by decide +kernel
theorem dX2_suspectsBy_115 : decode cX2_suspectsBy 115 = .ok (.ior, 1) := by decide +kernel
theorem dX2_suspectsBy_116 : decode cX2_suspectsBy 116 = .ok (.ireturn, 1) := by decide +kernel
theorem dX2_suspectsBy_117 : decode cX2_suspectsBy 117 = .ok (.iload_n 2, 1) := by decide +kernel
theorem dX2_suspectsBy_118 : decode cX2_suspectsBy 118 = .ok (.iload_n 3, 1) := by decide +kernel
theorem dX2_suspectsBy_119 : decode cX2_suspectsBy 119 = .ok (.iconst (-1), 1) := by decide +kernel
theorem dX2_suspectsBy_120 : decode cX2_suspectsBy 120 = .ok (.ixor, 1) := by decide +kernel
theorem dX2_suspectsBy_121 : decode cX2_suspectsBy 121 = .ok (.iand, 1) := by decide +kernel
theorem dX2_suspectsBy_122 : decode cX2_suspectsBy 122 = .ok (.iload 4, 2) := by decide +kernel
theorem dX2_suspectsBy_124 : decode cX2_suspectsBy 124 = .ok (.aload_n 0, 1) := by decide +kernel
theorem dX2_suspectsBy_125 : decode cX2_suspectsBy 125 = .ok (.aload_n 1, 1) := by decide +kernel
theorem dX2_suspectsBy_126 : decode cX2_suspectsBy 126 = .ok (.getfield 143, 3) := by decide +kernel
theorem dX2_suspectsBy_129 : decode cX2_suspectsBy 129 = .ok (.invokevirtual 80, 3) := by decide +kernel
theorem dX2_suspectsBy_132 : decode cX2_suspectsBy 132 = .ok (.ior, 1) := by decide +kernel
theorem dX2_suspectsBy_133 : decode cX2_suspectsBy 133 = .ok (.iand, 1) := by decide +kernel
theorem dX2_suspectsBy_134 : decode cX2_suspectsBy 134 = .ok (.ireturn, 1) := by decide +kernel
set_option maxRecDepth 20000 in
theorem ggX2_lostFor_X1_leadsTo : GoodIn wsX2_lostFor wsX1_leadsTo := goodIn_r _ [6, 7, 21, 22, 23] (by decide +kernel) (by decide +kernel)
set_option maxRecDepth 20000 in
theorem gX2_lostFor_X1_leadsTo_n99 : GoodIn wsX2_lostFor (wsX1_leadsTo) := ggX2_lostFor_X1_leadsTo
set_option maxRecDepth 20000 in
theorem ggX2_lostFor_X2_takenOutOf : GoodIn wsX2_lostFor wsX2_takenOutOf := goodIn_r _ [12, 13, 14, 15, 16, 17, 18, 19, 20] (by decide +kernel) (by decide +kernel)
set_option maxRecDepth 20000 in
theorem gX2_lostFor_X2_takenOutOf : GoodIn wsX2_lostFor (wsV RX2 89 RX2 yX2_takenOutOf wsX2_takenOutOf) := goodIn_app (goodIn_of _ (by decide +kernel)) ggX2_lostFor_X2_takenOutOf
theorem dX2_lostFor_0 : decode cX2_lostFor 0 = .ok (.aload_n 0, 1) := by decide +kernel
theorem dX2_lostFor_1 : decode cX2_lostFor 1 = .ok (.getfield 10, 3) := by decide +kernel
theorem dX2_lostFor_4 : decode cX2_lostFor 4 = .ok (.iload_n 2, 1) := by decide +kernel
theorem dX2_lostFor_5 : decode cX2_lostFor 5 = .ok (.iload_n 1, 1) := by decide +kernel
theorem dX2_lostFor_6 : decode cX2_lostFor 6 = .ok (.invokevirtual 99, 3) := by decide +kernel
theorem dX2_lostFor_9 : decode cX2_lostFor 9 = .ok (.ifCond .eq 12, 3) := by decide +kernel
theorem dX2_lostFor_12 : decode cX2_lostFor 12 = .ok (.aload_n 0, 1) := by decide +kernel
theorem dX2_lostFor_13 : decode cX2_lostFor 13 = .ok (.getfield 23, 3) := by decide +kernel
theorem dX2_lostFor_16 : decode cX2_lostFor 16 = .ok (.iload_n 2, 1) := by decide +kernel
theorem dX2_lostFor_17 : decode cX2_lostFor 17 = .ok (.iaload, 1) := by decide +kernel
theorem dX2_lostFor_18 : decode cX2_lostFor 18 = .ok (.goto 8, 3) := by decide +kernel
theorem dX2_lostFor_21 : decode cX2_lostFor 21 = .ok (.aload_n 0, 1) := by decide +kernel
theorem dX2_lostFor_22 : decode cX2_lostFor 22 = .ok (.iload_n 2, 1) := by decide +kernel
theorem dX2_lostFor_23 : decode cX2_lostFor 23 = .ok (.invokevirtual 89, 3) := by decide +kernel
theorem dX2_lostFor_26 : decode cX2_lostFor 26 = .ok (.ireturn, 1) := by decide +kernel
set_option maxRecDepth 20000 in
theorem ggX2_takeOutDoubtful_X1_layerOf : GoodIn wsX2_takeOutDoubtful wsX1_layerOf := goodIn_r _ [7, 8, 9, 10, 11, 12, 13, 14, 15, 25, 26, 27] (by decide +kernel) (by decide +kernel)
set_option maxRecDepth 20000 in
theorem gX2_takeOutDoubtful_X1_layerOf_n133 : GoodIn wsX2_takeOutDoubtful (wsX1_layerOf) := ggX2_takeOutDoubtful_X1_layerOf
set_option maxRecDepth 20000 in
theorem ggX2_takeOutDoubtful_X1_leadsTo : GoodIn wsX2_takeOutDoubtful wsX1_leadsTo := goodIn_r _ [18, 8, 25, 26, 27] (by decide +kernel) (by decide +kernel)
set_option maxRecDepth 20000 in
theorem gX2_takeOutDoubtful_X1_leadsTo_n99 : GoodIn wsX2_takeOutDoubtful (wsX1_leadsTo) := ggX2_takeOutDoubtful_X1_leadsTo
theorem dX2_takeOutDoubtful_0 : decode cX2_takeOutDoubtful 0 = .ok (.iconst 2, 1) := by decide +kernel
theorem dX2_takeOutDoubtful_1 : decode cX2_takeOutDoubtful 1 = .ok (.istore_n 2, 1) := by decide +kernel
theorem dX2_takeOutDoubtful_2 : decode cX2_takeOutDoubtful 2 = .ok (.iload_n 2, 1) := by decide +kernel
theorem dX2_takeOutDoubtful_3 : decode cX2_takeOutDoubtful 3 = .ok (.bipush 7, 2) := by decide +kernel
theorem dX2_takeOutDoubtful_5 : decode cX2_takeOutDoubtful 5 = .ok (.if_icmp .ge 58, 3) := by decide +kernel
theorem dX2_takeOutDoubtful_8 : decode cX2_takeOutDoubtful 8 = .ok (.aload_n 0, 1) := by decide +kernel
theorem dX2_takeOutDoubtful_9 : decode cX2_takeOutDoubtful 9 = .ok (.getfield 10, 3) := by decide +kernel
theorem dX2_takeOutDoubtful_12 : decode cX2_takeOutDoubtful 12 = .ok (.iload_n 2, 1) := by decide +kernel
theorem dX2_takeOutDoubtful_13 : decode cX2_takeOutDoubtful 13 = .ok (.invokevirtual 133, 3) := by decide +kernel
theorem dX2_takeOutDoubtful_16 : decode cX2_takeOutDoubtful 16 = .ok (.iload_n 1, 1) := by decide +kernel
theorem dX2_takeOutDoubtful_17 : decode cX2_takeOutDoubtful 17 = .ok (.if_icmp .ne 40, 3) := by decide +kernel
theorem dX2_takeOutDoubtful_20 : decode cX2_takeOutDoubtful 20 = .ok (.aload_n 0, 1) := by decide +kernel
theorem dX2_takeOutDoubtful_21 : decode cX2_takeOutDoubtful 21 = .ok (.getfield 16, 3) := by decide +kernel
theorem dX2_takeOutDoubtful_24 : decode cX2_takeOutDoubtful 24 = .ok (.iload_n 2, 1) := by decide +kernel
theorem dX2_takeOutDoubtful_25 : decode cX2_takeOutDoubtful 25 = .ok (.aload_n 0, 1) := by decide +kernel
theorem dX2_takeOutDoubtful_26 : decode cX2_takeOutDoubtful 26 = .ok (.getfield 10, 3) := by decide +kernel
theorem dX2_takeOutDoubtful_29 : decode cX2_takeOutDoubtful 29 = .ok (.iload_n 2, 1) := by decide +kernel
theorem dX2_takeOutDoubtful_30 : decode cX2_takeOutDoubtful 30 = .ok (.iload_n 2, 1) := by decide +kernel
theorem dX2_takeOutDoubtful_31 : decode cX2_takeOutDoubtful 31 = .ok (.invokevirtual 99, 3) := by decide +kernel
theorem dX2_takeOutDoubtful_34 : decode cX2_takeOutDoubtful 34 = .ok (.ifCond .eq 21, 3) := by decide +kernel
theorem dX2_takeOutDoubtful_37 : decode cX2_takeOutDoubtful 37 = .ok (.aload_n 0, 1) := by decide +kernel
theorem dX2_takeOutDoubtful_38 : decode cX2_takeOutDoubtful 38 = .ok (.getfield 16, 3) := by decide +kernel
theorem dX2_takeOutDoubtful_41 : decode cX2_takeOutDoubtful 41 = .ok (.iload_n 2, 1) := by decide +kernel
theorem dX2_takeOutDoubtful_42 : decode cX2_takeOutDoubtful 42 = .ok (.iaload, 1) := by decide +kernel
theorem dX2_takeOutDoubtful_43 : decode cX2_takeOutDoubtful 43 = .ok (.aload_n 0, 1) := by decide +kernel
theorem dX2_takeOutDoubtful_44 : decode cX2_takeOutDoubtful 44 = .ok (.getfield 23, 3) := by decide +kernel
theorem dX2_takeOutDoubtful_47 : decode cX2_takeOutDoubtful 47 = .ok (.iload_n 2, 1) := by decide +kernel
theorem dX2_takeOutDoubtful_48 : decode cX2_takeOutDoubtful 48 = .ok (.iaload, 1) := by decide +kernel
theorem dX2_takeOutDoubtful_49 : decode cX2_takeOutDoubtful 49 = .ok (.iconst (-1), 1) := by decide +kernel
theorem dX2_takeOutDoubtful_50 : decode cX2_takeOutDoubtful 50 = .ok (.ixor, 1) := by decide +kernel
theorem dX2_takeOutDoubtful_51 : decode cX2_takeOutDoubtful 51 = .ok (.iand, 1) := by decide +kernel
theorem dX2_takeOutDoubtful_52 : decode cX2_takeOutDoubtful 52 = .ok (.goto 4, 3) := by decide +kernel
theorem dX2_takeOutDoubtful_55 : decode cX2_takeOutDoubtful 55 = .ok (.iconst 0, 1) := by decide +kernel
theorem dX2_takeOutDoubtful_56 : decode cX2_takeOutDoubtful 56 = .ok (.iastore, 1) := by decide +kernel
theorem dX2_takeOutDoubtful_57 : decode cX2_takeOutDoubtful 57 = .ok (.iinc 2 1, 3) := by decide +kernel
theorem dX2_takeOutDoubtful_60 : decode cX2_takeOutDoubtful 60 = .ok (.goto (-58), 3) := by decide +kernel
theorem dX2_takeOutDoubtful_63 : decode cX2_takeOutDoubtful 63 = .ok (.return_, 1) := by decide +kernel
set_option maxRecDepth 20000 in
theorem ggX2_fill_X2_fillOnce : GoodIn wsX2_fill wsX2_fillOnce := goodIn_r _ [5, 6, 7, 8, 9, 10, 11, 12, 13, 14, 15, 16, 17, 18, 19, 20, 21, 22, 23, 24, 25, 26, 27, 4, 28, 29, 30, 31, 32, 33, 34, 35, 36, 37, 38, 39, 40, 41, 42, 43, 44, 45, 46, 47, 48, 49, 50, 51, 52] (by decide +kernel) (by decide +kernel)
set_option maxRecDepth 20000 in
theorem gX2_fill_X2_fillOnce : GoodIn wsX2_fill (wsV RX2 158 RX2 yX2_fillOnce wsX2_fillOnce) := goodIn_app (goodIn_of _ (by decide +kernel)) ggX2_fill_X2_fillOnce
theorem dX2_fill_0 : decode cX2_fill 0 = .ok (.iconst 1, 1) := by decide +kernel
theorem dX2_fill_1 : decode cX2_fill 1 = .ok (.istore_n 2, 1) := by decide +kernel
theorem dX2_fill_2 : decode cX2_fill 2 = .ok (.iconst 0, 1) := by decide +kernel
theorem dX2_fill_3 : decode cX2_fill 3 = .ok (.istore_n 3, 1) := by decide +kernel
theorem dX2_fill_4 : decode cX2_fill 4 = .ok (.iload_n 2, 1) := by decide +kernel
theorem dX2_fill_5 : decode cX2_fill 5 = .ok (.ifCond .eq 21, 3) := by decide +kernel
theorem dX2_fill_8 : decode cX2_fill 8 = .ok (.iload_n 3, 1) := by decide +kernel
theorem dX2_fill_9 : decode cX2_fill 9 = .ok (.bipush 126, 2) := by decide +kernel
theorem dX2_fill_11 : decode cX2_fill 11 = .ok (.if_icmp .ge 15, 3) := by decide +kernel
theorem dX2_fill_14 : decode cX2_fill 14 = .ok (.aload_n 0, 1) := by decide +kernel
theorem dX2_fill_15 : decode cX2_fill 15 = .ok (.iload_n 1, 1) := by decide +kernel
theorem dX2_fill_16 : decode cX2_fill 16 = .ok (.invokevirtual 158, 3) := by decide +kernel
theorem dX2_fill_19 : decode cX2_fill 19 = .ok (.istore_n 2, 1) := by decide +kernel
theorem dX2_fill_20 : decode cX2_fill 20 = .ok (.iinc 3 1, 3) := by decide +kernel
theorem dX2_fill_23 : decode cX2_fill 23 = .ok (.goto (-19), 3) := by decide +kernel
theorem dX2_fill_26 : decode cX2_fill 26 = .ok (.return_, 1) := by decide +kernel
set_option maxRecDepth 20000 in
theorem ggX2_fillOnce_X1_layerOf : GoodIn wsX2_fillOnce wsX1_layerOf := goodIn_r _ [6, 7, 8, 9, 10, 11, 12, 13, 14, 42, 43, 44] (by decide +kernel) (by decide +kernel)
set_option maxRecDepth 20000 in
theorem gX2_fillOnce_X1_layerOf_n133 : GoodIn wsX2_fillOnce (wsX1_layerOf) := ggX2_fillOnce_X1_layerOf
set_option maxRecDepth 20000 in
theorem ggX2_fillOnce_X0_given : GoodIn wsX2_fillOnce wsX0_given := goodIn_r _ [18, 19, 20, 21, 22, 23, 24, 25, 26, 27, 28, 29, 30, 31, 32, 33, 34, 35, 45, 46, 47, 48] (by decide +kernel) (by decide +kernel)
set_option maxRecDepth 20000 in
theorem gX2_fillOnce_X0_given_n161 : GoodIn wsX2_fillOnce (wsX0_given) := ggX2_fillOnce_X0_given
theorem dX2_fillOnce_0 : decode cX2_fillOnce 0 = .ok (.iconst 0, 1) := by decide +kernel
theorem dX2_fillOnce_1 : decode cX2_fillOnce 1 = .ok (.istore_n 2, 1) := by decide +kernel
theorem dX2_fillOnce_2 : decode cX2_fillOnce 2 = .ok (.iconst 0, 1) := by decide +kernel
theorem dX2_fillOnce_3 : decode cX2_fillOnce 3 = .ok (.istore_n 3, 1) := by decide +kernel
theorem dX2_fillOnce_4 : decode cX2_fillOnce 4 = .ok (.iload_n 3, 1) := by decide +kernel
theorem dX2_fillOnce_5 : decode cX2_fillOnce 5 = .ok (.aload_n 0, 1) := by decide +kernel
theorem dX2_fillOnce_6 : decode cX2_fillOnce 6 = .ok (.getfield 10, 3) := by decide +kernel
theorem dX2_fillOnce_9 : decode cX2_fillOnce 9 = .ok (.getfield 39, 3) := by decide +kernel
theorem dX2_fillOnce_12 : decode cX2_fillOnce 12 = .ok (.if_icmp .ge 90, 3) := by decide +kernel
theorem dX2_fillOnce_15 : decode cX2_fillOnce 15 = .ok (.aload_n 0, 1) := by decide +kernel
theorem dX2_fillOnce_16 : decode cX2_fillOnce 16 = .ok (.getfield 10, 3) := by decide +kernel
theorem dX2_fillOnce_19 : decode cX2_fillOnce 19 = .ok (.getfield 103, 3) := by decide +kernel
theorem dX2_fillOnce_22 : decode cX2_fillOnce 22 = .ok (.iload_n 3, 1) := by decide +kernel
theorem dX2_fillOnce_23 : decode cX2_fillOnce 23 = .ok (.aaload, 1) := by decide +kernel
theorem dX2_fillOnce_24 : decode cX2_fillOnce 24 = .ok (.astore 4, 2) := by decide +kernel
theorem dX2_fillOnce_26 : decode cX2_fillOnce 26 = .ok (.aload_n 0, 1) := by decide +kernel
theorem dX2_fillOnce_27 : decode cX2_fillOnce 27 = .ok (.getfield 10, 3) := by decide +kernel
theorem dX2_fillOnce_30 : decode cX2_fillOnce 30 = .ok (.aload 4, 2) := by decide +kernel
theorem dX2_fillOnce_32 : decode cX2_fillOnce 32 = .ok (.getfield 107, 3) := by decide +kernel
theorem dX2_fillOnce_35 : decode cX2_fillOnce 35 = .ok (.invokevirtual 133, 3) := by decide +kernel
theorem dX2_fillOnce_38 : decode cX2_fillOnce 38 = .ok (.iload_n 1, 1) := by decide +kernel
theorem dX2_fillOnce_39 : decode cX2_fillOnce 39 = .ok (.if_icmp .ne 57, 3) := by decide +kernel
theorem dX2_fillOnce_42 : decode cX2_fillOnce 42 = .ok (.aload 4, 2) := by decide +kernel
theorem dX2_fillOnce_44 : decode cX2_fillOnce 44 = .ok (.aload_n 0, 1) := by decide +kernel
theorem dX2_fillOnce_45 : decode cX2_fillOnce 45 = .ok (.getfield 16, 3) := by decide +kernel
theorem dX2_fillOnce_48 : decode cX2_fillOnce 48 = .ok (.invokevirtual 161, 3) := by decide +kernel
theorem dX2_fillOnce_51 : decode cX2_fillOnce 51 = .ok (.aload_n 0, 1) := by decide +kernel
theorem dX2_fillOnce_52 : decode cX2_fillOnce 52 = .ok (.getfield 16, 3) := by decide +kernel
theorem dX2_fillOnce_55 : decode cX2_fillOnce 55 = .ok (.aload 4, 2) := by decide +kernel
theorem dX2_fillOnce_57 : decode cX2_fillOnce 57 = .ok (.getfield 107, 3) := by decide +kernel
theorem dX2_fillOnce_60 : decode cX2_fillOnce 60 = .ok (.iaload, 1) := by decide +kernel
theorem dX2_fillOnce_61 : decode cX2_fillOnce 61 = .ok (.iconst (-1), 1) := by decide +kernel
theorem dX2_fillOnce_62 : decode cX2_fillOnce 62 = .ok (.ixor, 1) := by decide +kernel
theorem dX2_fillOnce_63 : decode cX2_fillOnce 63 = .ok (.iand, 1) := by decide +kernel
theorem dX2_fillOnce_64 : decode cX2_fillOnce 64 = .ok (.istore 5, 2) := by decide +kernel
theorem dX2_fillOnce_66 : decode cX2_fillOnce 66 = .ok (.aload_n 0, 1) := by decide +kernel
theorem dX2_fillOnce_67 : decode cX2_fillOnce 67 = .ok (.getfield 16, 3) := by decide +kernel
theorem dX2_fillOnce_70 : decode cX2_fillOnce 70 = .ok (.aload 4, 2) := by decide +kernel
theorem dX2_fillOnce_72 : decode cX2_fillOnce 72 = .ok (.getfield 107, 3) := by decide +kernel
theorem dX2_fillOnce_75 : decode cX2_fillOnce 75 = .ok (.dup2, 1) := by decide +kernel
theorem dX2_fillOnce_76 : decode cX2_fillOnce 76 = .ok (.iaload, 1) := by decide +kernel
theorem dX2_fillOnce_77 : decode cX2_fillOnce 77 = .ok (.iload 5, 2) := by decide +kernel
theorem dX2_fillOnce_79 : decode cX2_fillOnce 79 = .ok (.ior, 1) := by decide +kernel
theorem dX2_fillOnce_80 : decode cX2_fillOnce 80 = .ok (.iastore, 1) := by decide +kernel
theorem dX2_fillOnce_81 : decode cX2_fillOnce 81 = .ok (.iload_n 2, 1) := by decide +kernel
theorem dX2_fillOnce_82 : decode cX2_fillOnce 82 = .ok (.ifCond .ne 8, 3) := by decide +kernel
theorem dX2_fillOnce_85 : decode cX2_fillOnce 85 = .ok (.iload 5, 2) := by decide +kernel
theorem dX2_fillOnce_87 : decode cX2_fillOnce 87 = .ok (.ifCond .eq 7, 3) := by decide +kernel
theorem dX2_fillOnce_90 : decode cX2_fillOnce 90 = .ok (.iconst 1, 1) := by decide +kernel
theorem dX2_fillOnce_91 : decode cX2_fillOnce 91 = .ok (.goto 4, 3) := by decide +kernel
theorem dX2_fillOnce_94 : decode cX2_fillOnce 94 = .ok (.iconst 0, 1) := by decide +kernel
theorem dX2_fillOnce_95 : decode cX2_fillOnce 95 = .ok (.istore_n 2, 1) := by decide +kernel
theorem dX2_fillOnce_96 : decode cX2_fillOnce 96 = .ok (.iinc 3 1, 3) := by decide +kernel
theorem dX2_fillOnce_99 : decode cX2_fillOnce 99 = .ok (.goto (-95), 3) := by decide +kernel
theorem dX2_fillOnce_102 : decode cX2_fillOnce 102 = .ok (.iload_n 2, 1) := by decide +kernel
theorem dX2_fillOnce_103 : decode cX2_fillOnce 103 = .ok (.ireturn, 1) := by decide +kernel
