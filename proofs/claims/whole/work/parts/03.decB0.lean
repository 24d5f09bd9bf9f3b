set_option maxRecDepth 20000 in
theorem ggX2_init_X1_init : GoodIn wsX2_init wsX1_init := goodIn_r _ [16, 17, 2, 3, 18, 19, 20, 21, 8, 22, 23, 24, 25, 26, 27, 28, 29, 37, 38, 39, 40] (by decide +kernel) (by decide +kernel)
set_option maxRecDepth 20000 in
theorem gX2_init_X1_init_n9 : GoodIn wsX2_init (wsX1_init) := ggX2_init_X1_init
theorem dX2_init_0 : decode cX2_init 0 = .ok (.aload_n 0, 1) := by decide +kernel
theorem dX2_init_1 : decode cX2_init 1 = .ok (.invokespecial 1, 3) := by decide +kernel
theorem dX2_init_4 : decode cX2_init 4 = .ok (.aload_n 0, 1) := by decide +kernel
theorem dX2_init_5 : decode cX2_init 5 = .ok (.new 7, 3) := by decide +kernel
theorem dX2_init_8 : decode cX2_init 8 = .ok (.dup, 1) := by decide +kernel
theorem dX2_init_9 : decode cX2_init 9 = .ok (.invokespecial 9, 3) := by decide +kernel
theorem dX2_init_12 : decode cX2_init 12 = .ok (.putfield 10, 3) := by decide +kernel
theorem dX2_init_15 : decode cX2_init 15 = .ok (.aload_n 0, 1) := by decide +kernel
theorem dX2_init_16 : decode cX2_init 16 = .ok (.bipush 7, 2) := by decide +kernel
theorem dX2_init_18 : decode cX2_init 18 = .ok (.newarray .int, 2) := by decide +kernel
theorem dX2_init_20 : decode cX2_init 20 = .ok (.putfield 16, 3) := by decide +kernel
theorem dX2_init_23 : decode cX2_init 23 = .ok (.aload_n 0, 1) := by decide +kernel
theorem dX2_init_24 : decode cX2_init 24 = .ok (.bipush 7, 2) := by decide +kernel
theorem dX2_init_26 : decode cX2_init 26 = .ok (.newarray .int, 2) := by decide +kernel
theorem dX2_init_28 : decode cX2_init 28 = .ok (.putfield 20, 3) := by decide +kernel
theorem dX2_init_31 : decode cX2_init 31 = .ok (.aload_n 0, 1) := by decide +kernel
theorem dX2_init_32 : decode cX2_init 32 = .ok (.bipush 7, 2) := by decide +kernel
theorem dX2_init_34 : decode cX2_init 34 = .ok (.newarray .int, 2) := by decide +kernel
theorem dX2_init_36 : decode cX2_init 36 = .ok (.putfield 23, 3) := by decide +kernel
theorem dX2_init_39 : decode cX2_init 39 = .ok (.aload_n 0, 1) := by decide +kernel
theorem dX2_init_40 : decode cX2_init 40 = .ok (.sipush 175, 3) := by decide +kernel
theorem dX2_init_43 : decode cX2_init 43 = .ok (.newarray .int, 2) := by decide +kernel
theorem dX2_init_45 : decode cX2_init 45 = .ok (.putfield 26, 3) := by decide +kernel
theorem dX2_init_48 : decode cX2_init 48 = .ok (.aload_n 0, 1) := by decide +kernel
theorem dX2_init_49 : decode cX2_init 49 = .ok (.iconst 2, 1) := by decide +kernel
theorem dX2_init_50 : decode cX2_init 50 = .ok (.newarray .int, 2) := by decide +kernel
theorem dX2_init_52 : decode cX2_init 52 = .ok (.putfield 29, 3) := by decide +kernel
theorem dX2_init_55 : decode cX2_init 55 = .ok (.aload_n 0, 1) := by decide +kernel
theorem dX2_init_56 : decode cX2_init 56 = .ok (.iconst 2, 1) := by decide +kernel
theorem dX2_init_57 : decode cX2_init 57 = .ok (.newarray .int, 2) := by decide +kernel
theorem dX2_init_59 : decode cX2_init 59 = .ok (.putfield 32, 3) := by decide +kernel
theorem dX2_init_62 : decode cX2_init 62 = .ok (.return_, 1) := by decide +kernel
set_option maxRecDepth 20000 in
theorem ggX2_rule_X2_isView : GoodIn wsX2_rule wsX2_isView := goodIn_r _ [5] (by decide +kernel) (by decide +kernel)
set_option maxRecDepth 20000 in
theorem gX2_rule_X2_isView : GoodIn wsX2_rule (va_wsS RX2 35 yX2_isView wsX2_isView) := goodIn_app (goodIn_of _ (by decide +kernel)) ggX2_rule_X2_isView
set_option maxRecDepth 20000 in
theorem ggX2_rule_X2_isRelation : GoodIn wsX2_rule wsX2_isRelation := goodIn_r _ [8] (by decide +kernel) (by decide +kernel)
set_option maxRecDepth 20000 in
theorem gX2_rule_X2_isRelation : GoodIn wsX2_rule (va_wsS RX2 39 yX2_isRelation wsX2_isRelation) := goodIn_app (goodIn_of _ (by decide +kernel)) ggX2_rule_X2_isRelation
set_option maxRecDepth 20000 in
theorem ggX2_rule_X1_write : GoodIn wsX2_rule wsX1_write := goodIn_r _ [12, 13, 14, 15, 16, 17, 10, 18, 19, 20, 21, 22, 23, 24, 25, 26, 27, 28, 29, 30, 31, 32, 33, 34, 152, 153, 154, 155, 156, 157, 158] (by decide +kernel) (by decide +kernel)
set_option maxRecDepth 20000 in
theorem gX2_rule_X1_write_n46 : GoodIn wsX2_rule (wsX1_write) := ggX2_rule_X1_write
set_option maxRecDepth 20000 in
theorem ggX2_rule_X1_hasCycle : GoodIn wsX2_rule wsX1_hasCycle := goodIn_r _ [37, 14, 13, 31, 32, 33, 10, 34, 19, 152, 153, 154, 155, 156, 157, 158] (by decide +kernel) (by decide +kernel)
set_option maxRecDepth 20000 in
theorem gX2_rule_X1_hasCycle_n50 : GoodIn wsX2_rule (wsX1_hasCycle) := ggX2_rule_X1_hasCycle
set_option maxRecDepth 20000 in
theorem ggX2_rule_X1_strikeLast : GoodIn wsX2_rule wsX1_strikeLast := goodIn_r _ [40, 14, 15, 16, 17, 10, 18, 19, 13, 20, 21, 22, 23, 24, 25, 26, 27, 28, 29, 30, 31, 32, 33, 34, 152, 153, 154, 155, 156, 157, 158] (by decide +kernel) (by decide +kernel)
set_option maxRecDepth 20000 in
theorem gX2_rule_X1_strikeLast_n54 : GoodIn wsX2_rule (wsX1_strikeLast) := ggX2_rule_X1_strikeLast
set_option maxRecDepth 20000 in
theorem ggX2_rule_X2_startFromNothing : GoodIn wsX2_rule wsX2_startFromNothing := goodIn_r _ [44, 45, 46, 47, 48, 49, 21, 22, 23, 145, 146, 147, 148, 149, 150, 151] (by decide +kernel) (by decide +kernel)
set_option maxRecDepth 20000 in
theorem gX2_rule_X2_startFromNothing : GoodIn wsX2_rule (wsV RX2 57 RX2 yX2_startFromNothing wsX2_startFromNothing) := goodIn_app (goodIn_of _ (by decide +kernel)) ggX2_rule_X2_startFromNothing
set_option maxRecDepth 20000 in
theorem ggX2_rule_X2_bringUpToDate : GoodIn wsX2_rule wsX2_bringUpToDate := goodIn_r _ [53, 54, 55, 56, 4, 57, 1, 45, 48, 58, 10, 59, 60, 19, 61, 62, 63, 64, 65, 66, 67, 68, 69, 70, 31, 32, 33, 34, 71, 25, 72, 73, 28, 74, 75, 76, 29, 77, 30, 78, 79, 80, 81, 82, 83, 84, 85, 86, 87, 88, 89, 90, 91, 92, 93, 94, 95, 96, 97, 98, 47, 99, 100, 101, 102, 103, 104, 105, 106, 46, 107, 108, 109, 110, 111, 112, 113, 114, 115, 116, 117, 118, 119, 120, 121, 122, 123, 124, 125, 126, 127, 128, 129, 130, 131, 132, 133, 134, 135, 136, 145, 146, 147, 148, 149, 150, 151, 152, 153, 154, 155, 156, 157, 158] (by decide +kernel) (by decide +kernel)
set_option maxRecDepth 20000 in
theorem gX2_rule_X2_bringUpToDate : GoodIn wsX2_rule (wsV RX2 60 RX2 yX2_bringUpToDate wsX2_bringUpToDate) := goodIn_app (goodIn_of _ (by decide +kernel)) ggX2_rule_X2_bringUpToDate
set_option maxRecDepth 20000 in
theorem ggX2_rule_X2_forgetChanges : GoodIn wsX2_rule wsX2_forgetChanges := goodIn_r _ [140, 48, 45, 141, 142, 143, 144, 46, 49, 21, 22, 23, 145, 146, 147, 148, 149, 150, 151] (by decide +kernel) (by decide +kernel)
set_option maxRecDepth 20000 in
theorem gX2_rule_X2_forgetChanges : GoodIn wsX2_rule (wsV RX2 63 RX2 yX2_forgetChanges wsX2_forgetChanges) := goodIn_app (goodIn_of _ (by decide +kernel)) ggX2_rule_X2_forgetChanges
theorem dX2_rule_0 : decode cX2_rule 0 = .ok (.iload_n 1, 1) := by decide +kernel
theorem dX2_rule_1 : decode cX2_rule 1 = .ok (.invokestatic 35, 3) := by decide +kernel
theorem dX2_rule_4 : decode cX2_rule 4 = .ok (.ifCond .eq 27, 3) := by decide +kernel
theorem dX2_rule_7 : decode cX2_rule 7 = .ok (.iload_n 2, 1) := by decide +kernel
theorem dX2_rule_8 : decode cX2_rule 8 = .ok (.ifCond .lt 23, 3) := by decide +kernel
theorem dX2_rule_11 : decode cX2_rule 11 = .ok (.iload_n 2, 1) := by decide +kernel
theorem dX2_rule_12 : decode cX2_rule 12 = .ok (.iconst 4, 1) := by decide +kernel
theorem dX2_rule_13 : decode cX2_rule 13 = .ok (.if_icmp .gt 18, 3) := by decide +kernel
theorem dX2_rule_16 : decode cX2_rule 16 = .ok (.iload_n 3, 1) := by decide +kernel
theorem dX2_rule_17 : decode cX2_rule 17 = .ok (.invokestatic 39, 3) := by decide +kernel
theorem dX2_rule_20 : decode cX2_rule 20 = .ok (.ifCond .eq 11, 3) := by decide +kernel
theorem dX2_rule_23 : decode cX2_rule 23 = .ok (.iload 4, 2) := by decide +kernel
theorem dX2_rule_25 : decode cX2_rule 25 = .ok (.invokestatic 39, 3) := by decide +kernel
theorem dX2_rule_28 : decode cX2_rule 28 = .ok (.ifCond .ne 5, 3) := by decide +kernel
theorem dX2_rule_31 : decode cX2_rule 31 = .ok (.iconst (-1), 1) := by decide +kernel
theorem dX2_rule_32 : decode cX2_rule 32 = .ok (.ireturn, 1) := by decide +kernel
theorem dX2_rule_33 : decode cX2_rule 33 = .ok (.aload_n 0, 1) := by decide +kernel
theorem dX2_rule_34 : decode cX2_rule 34 = .ok (.getfield 10, 3) := by decide +kernel
theorem dX2_rule_37 : decode cX2_rule 37 = .ok (.getfield 42, 3) := by decide +kernel
theorem dX2_rule_40 : decode cX2_rule 40 = .ok (.bipush 12, 2) := by decide +kernel
theorem dX2_rule_42 : decode cX2_rule 42 = .ok (.if_icmp .lt 6, 3) := by decide +kernel
theorem dX2_rule_45 : decode cX2_rule 45 = .ok (.bipush (-2), 2) := by decide +kernel
theorem dX2_rule_47 : decode cX2_rule 47 = .ok (.ireturn, 1) := by decide +kernel
theorem dX2_rule_48 : decode cX2_rule 48 = .ok (.aload_n 0, 1) := by decide +kernel
theorem dX2_rule_49 : decode cX2_rule 49 = .ok (.getfield 10, 3) := by decide +kernel
theorem dX2_rule_52 : decode cX2_rule 52 = .ok (.iload_n 1, 1) := by decide +kernel
theorem dX2_rule_53 : decode cX2_rule 53 = .ok (.iload_n 2, 1) := by decide +kernel
theorem dX2_rule_54 : decode cX2_rule 54 = .ok (.iload_n 3, 1) := by decide +kernel
theorem dX2_rule_55 : decode cX2_rule 55 = .ok (.iload 4, 2) := by decide +kernel
theorem dX2_rule_57 : decode cX2_rule 57 = .ok (.invokevirtual 46, 3) := by decide +kernel
theorem dX2_rule_60 : decode cX2_rule 60 = .ok (.aload_n 0, 1) := by decide +kernel
theorem dX2_rule_61 : decode cX2_rule 61 = .ok (.getfield 10, 3) := by decide +kernel
theorem dX2_rule_64 : decode cX2_rule 64 = .ok (.invokevirtual 50, 3) := by decide +kernel
theorem dX2_rule_67 : decode cX2_rule 67 = .ok (.ifCond .eq 13, 3) := by decide +kernel
theorem dX2_rule_70 : decode cX2_rule 70 = .ok (.aload_n 0, 1) := by decide +kernel
theorem dX2_rule_71 : decode cX2_rule 71 = .ok (.getfield 10, 3) := by decide +kernel
theorem dX2_rule_74 : decode cX2_rule 74 = .ok (.invokevirtual 54, 3) := by decide +kernel
theorem dX2_rule_77 : decode cX2_rule 77 = .ok (.bipush (-3), 2) := by decide +kernel
theorem dX2_rule_79 : decode cX2_rule 79 = .ok (.ireturn, 1) := by decide +kernel
theorem dX2_rule_80 : decode cX2_rule 80 = .ok (.aload_n 0, 1) := by decide +kernel
theorem dX2_rule_81 : decode cX2_rule 81 = .ok (.invokevirtual 57, 3) := by decide +kernel
theorem dX2_rule_84 : decode cX2_rule 84 = .ok (.aload_n 0, 1) := by decide +kernel
theorem dX2_rule_85 : decode cX2_rule 85 = .ok (.invokevirtual 60, 3) := by decide +kernel
theorem dX2_rule_88 : decode cX2_rule 88 = .ok (.aload_n 0, 1) := by decide +kernel
theorem dX2_rule_89 : decode cX2_rule 89 = .ok (.invokevirtual 63, 3) := by decide +kernel
theorem dX2_rule_92 : decode cX2_rule 92 = .ok (.aload_n 0, 1) := by decide +kernel
theorem dX2_rule_93 : decode cX2_rule 93 = .ok (.getfield 10, 3) := by decide +kernel
theorem dX2_rule_96 : decode cX2_rule 96 = .ok (.getfield 42, 3) := by decide +kernel
theorem dX2_rule_99 : decode cX2_rule 99 = .ok (.iconst 1, 1) := by decide +kernel
theorem dX2_rule_100 : decode cX2_rule 100 = .ok (.isub, 1) := by decide +kernel
theorem dX2_rule_101 : decode cX2_rule 101 = .ok (.ireturn, 1) := by decide +kernel
set_option maxRecDepth 20000 in
theorem ggX2_undo_X1_strikeLast : GoodIn wsX2_undo wsX1_strikeLast := goodIn_r _ [5, 6, 7, 8, 9, 3, 10, 11, 12, 13, 14, 15, 16, 17, 18, 19, 20, 21, 22, 23, 24, 25, 26, 27, 140, 141, 142, 143, 144, 145, 146] (by decide +kernel) (by decide +kernel)
set_option maxRecDepth 20000 in
theorem gX2_undo_X1_strikeLast_n54 : GoodIn wsX2_undo (wsX1_strikeLast) := ggX2_undo_X1_strikeLast
set_option maxRecDepth 20000 in
theorem ggX2_undo_X2_startFromNothing : GoodIn wsX2_undo wsX2_startFromNothing := goodIn_r _ [32, 33, 34, 35, 36, 37, 14, 15, 16, 133, 134, 135, 136, 137, 138, 139] (by decide +kernel) (by decide +kernel)
set_option maxRecDepth 20000 in
theorem gX2_undo_X2_startFromNothing : GoodIn wsX2_undo (wsV RX2 57 RX2 yX2_startFromNothing wsX2_startFromNothing) := goodIn_app (goodIn_of _ (by decide +kernel)) ggX2_undo_X2_startFromNothing
set_option maxRecDepth 20000 in
theorem ggX2_undo_X2_bringUpToDate : GoodIn wsX2_undo wsX2_bringUpToDate := goodIn_r _ [41, 42, 43, 44, 31, 45, 1, 33, 36, 46, 3, 47, 48, 11, 49, 50, 51, 52, 53, 54, 55, 56, 57, 58, 24, 25, 26, 27, 59, 18, 60, 61, 21, 62, 63, 64, 22, 65, 23, 66, 67, 68, 69, 70, 71, 72, 73, 74, 75, 76, 77, 78, 79, 80, 81, 82, 83, 84, 85, 86, 35, 87, 88, 89, 90, 91, 92, 93, 94, 34, 95, 96, 97, 98, 99, 100, 101, 102, 103, 104, 105, 106, 107, 108, 109, 110, 111, 112, 113, 114, 115, 116, 117, 118, 119, 120, 121, 122, 123, 124, 133, 134, 135, 136, 137, 138, 139, 140, 141, 142, 143, 144, 145, 146] (by decide +kernel) (by decide +kernel)
set_option maxRecDepth 20000 in
theorem gX2_undo_X2_bringUpToDate : GoodIn wsX2_undo (wsV RX2 60 RX2 yX2_bringUpToDate wsX2_bringUpToDate) := goodIn_app (goodIn_of _ (by decide +kernel)) ggX2_undo_X2_bringUpToDate
set_option maxRecDepth 20000 in
theorem ggX2_undo_X2_forgetChanges : GoodIn wsX2_undo wsX2_forgetChanges := goodIn_r _ [128, 36, 33, 129, 130, 131, 132, 34, 37, 14, 15, 16, 133, 134, 135, 136, 137, 138, 139] (by decide +kernel) (by decide +kernel)
set_option maxRecDepth 20000 in
theorem gX2_undo_X2_forgetChanges : GoodIn wsX2_undo (wsV RX2 63 RX2 yX2_forgetChanges wsX2_forgetChanges) := goodIn_app (goodIn_of _ (by decide +kernel)) ggX2_undo_X2_forgetChanges
theorem dX2_undo_0 : decode cX2_undo 0 = .ok (.aload_n 0, 1) := by decide +kernel
theorem dX2_undo_1 : decode cX2_undo 1 = .ok (.getfield 10, 3) := by decide +kernel
theorem dX2_undo_4 : decode cX2_undo 4 = .ok (.getfield 42, 3) := by decide +kernel
theorem dX2_undo_7 : decode cX2_undo 7 = .ok (.ifCond .ne 5, 3) := by decide +kernel
theorem dX2_undo_10 : decode cX2_undo 10 = .ok (.iconst (-1), 1) := by decide +kernel
theorem dX2_undo_11 : decode cX2_undo 11 = .ok (.ireturn, 1) := by decide +kernel
theorem dX2_undo_12 : decode cX2_undo 12 = .ok (.aload_n 0, 1) := by decide +kernel
theorem dX2_undo_13 : decode cX2_undo 13 = .ok (.getfield 10, 3) := by decide +kernel
theorem dX2_undo_16 : decode cX2_undo 16 = .ok (.invokevirtual 54, 3) := by decide +kernel
theorem dX2_undo_19 : decode cX2_undo 19 = .ok (.aload_n 0, 1) := by decide +kernel
theorem dX2_undo_20 : decode cX2_undo 20 = .ok (.invokevirtual 57, 3) := by decide +kernel
theorem dX2_undo_23 : decode cX2_undo 23 = .ok (.aload_n 0, 1) := by decide +kernel
theorem dX2_undo_24 : decode cX2_undo 24 = .ok (.invokevirtual 60, 3) := by decide +kernel
theorem dX2_undo_27 : decode cX2_undo 27 = .ok (.aload_n 0, 1) := by decide +kernel
theorem dX2_undo_28 : decode cX2_undo 28 = .ok (.invokevirtual 63, 3) := by decide +kernel
theorem dX2_undo_31 : decode cX2_undo 31 = .ok (.aload_n 0, 1) := by decide +kernel
theorem dX2_undo_32 : decode cX2_undo 32 = .ok (.getfield 10, 3) := by decide +kernel
theorem dX2_undo_35 : decode cX2_undo 35 = .ok (.getfield 42, 3) := by decide +kernel
theorem dX2_undo_38 : decode cX2_undo 38 = .ok (.ireturn, 1) := by decide +kernel
set_option maxRecDepth 20000 in
theorem ggX2_stage_X2_isRelation : GoodIn wsX2_stage wsX2_isRelation := goodIn_r _ [6] (by decide +kernel) (by decide +kernel)
set_option maxRecDepth 20000 in
theorem gX2_stage_X2_isRelation : GoodIn wsX2_stage (va_wsS RX2 39 yX2_isRelation wsX2_isRelation) := goodIn_app (goodIn_of _ (by decide +kernel)) ggX2_stage_X2_isRelation
set_option maxRecDepth 20000 in
theorem ggX2_stage_X2_isView : GoodIn wsX2_stage wsX2_isView := goodIn_r _ [9] (by decide +kernel) (by decide +kernel)
set_option maxRecDepth 20000 in
theorem gX2_stage_X2_isView : GoodIn wsX2_stage (va_wsS RX2 35 yX2_isView wsX2_isView) := goodIn_app (goodIn_of _ (by decide +kernel)) ggX2_stage_X2_isView
set_option maxRecDepth 20000 in
theorem ggX2_stage_X2_isThing : GoodIn wsX2_stage wsX2_isThing := goodIn_r _ [12] (by decide +kernel) (by decide +kernel)
set_option maxRecDepth 20000 in
theorem gX2_stage_X2_isThing : GoodIn wsX2_stage (va_wsS RX2 66 yX2_isThing wsX2_isThing) := goodIn_app (goodIn_of _ (by decide +kernel)) ggX2_stage_X2_isThing
set_option maxRecDepth 20000 in
theorem ggX2_stage_X2_bit : GoodIn wsX2_stage wsX2_bit := goodIn_r _ [15] (by decide +kernel) (by decide +kernel)
set_option maxRecDepth 20000 in
theorem gX2_stage_X2_bit : GoodIn wsX2_stage (va_wsS RX2 69 yX2_bit wsX2_bit) := goodIn_app (goodIn_of _ (by decide +kernel)) ggX2_stage_X2_bit
theorem dX2_stage_0 : decode cX2_stage 0 = .ok (.iload_n 1, 1) := by decide +kernel
theorem dX2_stage_1 : decode cX2_stage 1 = .ok (.invokestatic 39, 3) := by decide +kernel
theorem dX2_stage_4 : decode cX2_stage 4 = .ok (.ifCond .eq 24, 3) := by decide +kernel
theorem dX2_stage_7 : decode cX2_stage 7 = .ok (.iload_n 1, 1) := by decide +kernel
theorem dX2_stage_8 : decode cX2_stage 8 = .ok (.invokestatic 35, 3) := by decide +kernel
theorem dX2_stage_11 : decode cX2_stage 11 = .ok (.ifCond .ne 17, 3) := by decide +kernel
theorem dX2_stage_14 : decode cX2_stage 14 = .ok (.iload_n 2, 1) := by decide +kernel
theorem dX2_stage_15 : decode cX2_stage 15 = .ok (.invokestatic 66, 3) := by decide +kernel
theorem dX2_stage_18 : decode cX2_stage 18 = .ok (.ifCond .eq 10, 3) := by decide +kernel
theorem dX2_stage_21 : decode cX2_stage 21 = .ok (.iload_n 3, 1) := by decide +kernel
theorem dX2_stage_22 : decode cX2_stage 22 = .ok (.invokestatic 66, 3) := by decide +kernel
theorem dX2_stage_25 : decode cX2_stage 25 = .ok (.ifCond .ne 5, 3) := by decide +kernel
theorem dX2_stage_28 : decode cX2_stage 28 = .ok (.iconst 0, 1) := by decide +kernel
theorem dX2_stage_29 : decode cX2_stage 29 = .ok (.ireturn, 1) := by decide +kernel
theorem dX2_stage_30 : decode cX2_stage 30 = .ok (.iload_n 2, 1) := by decide +kernel
theorem dX2_stage_31 : decode cX2_stage 31 = .ok (.iload_n 3, 1) := by decide +kernel
theorem dX2_stage_32 : decode cX2_stage 32 = .ok (.invokestatic 69, 3) := by decide +kernel
theorem dX2_stage_35 : decode cX2_stage 35 = .ok (.istore 5, 2) := by decide +kernel
theorem dX2_stage_37 : decode cX2_stage 37 = .ok (.aload_n 0, 1) := by decide +kernel
theorem dX2_stage_38 : decode cX2_stage 38 = .ok (.getfield 29, 3) := by decide +kernel
theorem dX2_stage_41 : decode cX2_stage 41 = .ok (.iload_n 1, 1) := by decide +kernel
theorem dX2_stage_42 : decode cX2_stage 42 = .ok (.iload 4, 2) := by decide +kernel
theorem dX2_stage_44 : decode cX2_stage 44 = .ok (.ifCond .eq 15, 3) := by decide +kernel
theorem dX2_stage_47 : decode cX2_stage 47 = .ok (.aload_n 0, 1) := by decide +kernel
theorem dX2_stage_48 : decode cX2_stage 48 = .ok (.getfield 29, 3) := by decide +kernel
theorem dX2_stage_51 : decode cX2_stage 51 = .ok (.iload_n 1, 1) := by decide +kernel
theorem dX2_stage_52 : decode cX2_stage 52 = .ok (.iaload, 1) := by decide +kernel
theorem dX2_stage_53 : decode cX2_stage 53 = .ok (.iload 5, 2) := by decide +kernel
theorem dX2_stage_55 : decode cX2_stage 55 = .ok (.ior, 1) := by decide +kernel
theorem dX2_stage_56 : decode cX2_stage 56 = .ok (.goto 14, 3) := by decide +kernel
theorem dX2_stage_59 : decode cX2_stage 59 = .ok (.aload_n 0, 1) := by decide +kernel
theorem dX2_stage_60 : decode cX2_stage 60 = .ok (.getfield 29, 3) := by decide +kernel
theorem dX2_stage_63 : decode cX2_stage 63 = .ok (.iload_n 1, 1) := by decide +kernel
theorem dX2_stage_64 : decode cX2_stage 64 = .ok (.iaload, 1) := by decide +kernel
theorem dX2_stage_65 : decode cX2_stage 65 = .ok (.iload 5, 2) := by decide +kernel
theorem dX2_stage_67 : decode cX2_stage 67 = .ok (.iconst (-1), 1) := by decide +kernel
theorem dX2_stage_68 : decode cX2_stage 68 = .ok (.ixor, 1) := by decide +kernel
theorem dX2_stage_69 : decode cX2_stage 69 = .ok (.iand, 1) := by decide +kernel
theorem dX2_stage_70 : decode cX2_stage 70 = .ok (.iastore, 1) := by decide +kernel
theorem dX2_stage_71 : decode cX2_stage 71 = .ok (.aload_n 0, 1) := by decide +kernel
theorem dX2_stage_72 : decode cX2_stage 72 = .ok (.getfield 32, 3) := by decide +kernel
theorem dX2_stage_75 : decode cX2_stage 75 = .ok (.iload_n 1, 1) := by decide +kernel
theorem dX2_stage_76 : decode cX2_stage 76 = .ok (.iload 4, 2) := by decide +kernel
theorem dX2_stage_78 : decode cX2_stage 78 = .ok (.ifCond .eq 17, 3) := by decide +kernel
theorem dX2_stage_81 : decode cX2_stage 81 = .ok (.aload_n 0, 1) := by decide +kernel
theorem dX2_stage_82 : decode cX2_stage 82 = .ok (.getfield 32, 3) := by decide +kernel
theorem dX2_stage_85 : decode cX2_stage 85 = .ok (.iload_n 1, 1) := by decide +kernel
theorem dX2_stage_86 : decode cX2_stage 86 = .ok (.iaload, 1) := by decide +kernel
theorem dX2_stage_87 : decode cX2_stage 87 = .ok (.iload 5, 2) := by decide +kernel
theorem dX2_stage_89 : decode cX2_stage 89 = .ok (.iconst (-1), 1) := by decide +kernel
theorem dX2_stage_90 : decode cX2_stage 90 = .ok (.ixor, 1) := by decide +kernel
theorem dX2_stage_91 : decode cX2_stage 91 = .ok (.iand, 1) := by decide +kernel
theorem dX2_stage_92 : decode cX2_stage 92 = .ok (.goto 12, 3) := by decide +kernel
theorem dX2_stage_95 : decode cX2_stage 95 = .ok (.aload_n 0, 1) := by decide +kernel
theorem dX2_stage_96 : decode cX2_stage 96 = .ok (.getfield 32, 3) := by decide +kernel
theorem dX2_stage_99 : decode cX2_stage 99 = .ok (.iload_n 1, 1) := by decide +kernel
theorem dX2_stage_100 : decode cX2_stage 100 = .ok (.iaload, 1) := by decide +kernel
theorem dX2_stage_101 : decode cX2_stage 101 = .ok (.iload 5, 2) := by decide +kernel
theorem dX2_stage_103 : decode cX2_stage 103 = .ok (.ior, 1) := by decide +kernel
theorem dX2_stage_104 : decode cX2_stage 104 = .ok (.iastore, 1) := by decide +kernel
theorem dX2_stage_105 : decode cX2_stage 105 = .ok (.iconst 1, 1) := by decide +kernel
theorem dX2_stage_106 : decode cX2_stage 106 = .ok (.ireturn, 1) := by decide +kernel
set_option maxRecDepth 20000 in
theorem ggX2_commit_X2_forgetChanges : GoodIn wsX2_commit wsX2_forgetChanges := goodIn_r _ [5, 6, 7, 8, 9, 10, 11, 12, 13, 14, 15, 16, 127, 128, 129, 130, 131, 132, 133] (by decide +kernel) (by decide +kernel)
set_option maxRecDepth 20000 in
theorem gX2_commit_X2_forgetChanges : GoodIn wsX2_commit (wsV RX2 63 RX2 yX2_forgetChanges wsX2_forgetChanges) := goodIn_app (goodIn_of _ (by decide +kernel)) ggX2_commit_X2_forgetChanges
set_option maxRecDepth 20000 in
theorem ggX2_commit_X2_doStaged : GoodIn wsX2_commit wsX2_doStaged := goodIn_r _ [20, 6, 21, 22, 23, 24, 25, 4, 26, 13, 14, 15, 16, 127, 128, 129, 130, 131, 132, 133] (by decide +kernel) (by decide +kernel)
set_option maxRecDepth 20000 in
theorem gX2_commit_X2_doStaged : GoodIn wsX2_commit (wsV RX2 73 RX2 yX2_doStaged wsX2_doStaged) := goodIn_app (goodIn_of _ (by decide +kernel)) ggX2_commit_X2_doStaged
set_option maxRecDepth 20000 in
theorem ggX2_commit_X2_bringUpToDate : GoodIn wsX2_commit wsX2_bringUpToDate := goodIn_r _ [30, 31, 32, 33, 4, 34, 35, 7, 6, 36, 37, 38, 39, 40, 41, 42, 43, 44, 45, 46, 47, 48, 49, 50, 51, 52, 53, 54, 55, 56, 57, 58, 59, 60, 61, 62, 63, 64, 65, 66, 67, 68, 69, 70, 71, 72, 73, 74, 75, 76, 77, 78, 79, 80, 81, 82, 83, 84, 85, 86, 87, 88, 89, 90, 91, 92, 93, 94, 95, 12, 96, 97, 98, 99, 100, 101, 102, 103, 104, 105, 106, 107, 108, 109, 110, 111, 112, 113, 114, 115, 116, 117, 118, 119, 120, 121, 122, 123, 124, 125, 127, 128, 129, 130, 131, 132, 133, 134, 135, 136, 137, 138, 139, 140] (by decide +kernel) (by decide +kernel)
set_option maxRecDepth 20000 in
theorem gX2_commit_X2_bringUpToDate : GoodIn wsX2_commit (wsV RX2 60 RX2 yX2_bringUpToDate wsX2_bringUpToDate) := goodIn_app (goodIn_of _ (by decide +kernel)) ggX2_commit_X2_bringUpToDate
set_option maxRecDepth 20000 in
theorem ggX2_commit_X2_putInto : GoodIn wsX2_commit wsX2_putInto := goodIn_r _ [113, 6, 7, 127, 128, 129, 130, 131, 132, 133] (by decide +kernel) (by decide +kernel)
set_option maxRecDepth 20000 in
theorem gX2_commit_X2_putInto : GoodIn wsX2_commit (wsV RX2 76 RX2 yX2_putInto wsX2_putInto) := goodIn_app (goodIn_of _ (by decide +kernel)) ggX2_commit_X2_putInto
set_option maxRecDepth 20000 in
theorem ggX2_commit_J6_bitCount_0f7a4 : GoodIn wsX2_commit wsJ6_bitCount_0f7a4 := goodIn_r _ [44, 45, 46, 47] (by decide +kernel) (by decide +kernel)
set_option maxRecDepth 20000 in
theorem gX2_commit_J6_bitCount_0f7a4 : GoodIn wsX2_commit (va_wsS RX2 80 yJ6_bitCount_0f7a4 wsJ6_bitCount_0f7a4) := goodIn_app (goodIn_of _ (by decide +kernel)) ggX2_commit_J6_bitCount_0f7a4
set_option maxRecDepth 20000 in
theorem ggX2_commit_X2_takenOutOf : GoodIn wsX2_commit wsX2_takenOutOf := goodIn_r _ [107, 7, 6, 127, 128, 129, 130, 131, 132, 133] (by decide +kernel) (by decide +kernel)
set_option maxRecDepth 20000 in
theorem gX2_commit_X2_takenOutOf : GoodIn wsX2_commit (wsV RX2 85 RX2 yX2_takenOutOf wsX2_takenOutOf) := goodIn_app (goodIn_of _ (by decide +kernel)) ggX2_commit_X2_takenOutOf
theorem dX2_commit_0 : decode cX2_commit 0 = .ok (.aload_n 0, 1) := by decide +kernel
theorem dX2_commit_1 : decode cX2_commit 1 = .ok (.invokevirtual 63, 3) := by decide +kernel
theorem dX2_commit_4 : decode cX2_commit 4 = .ok (.aload_n 0, 1) := by decide +kernel
theorem dX2_commit_5 : decode cX2_commit 5 = .ok (.invokevirtual 73, 3) := by decide +kernel
theorem dX2_commit_8 : decode cX2_commit 8 = .ok (.aload_n 0, 1) := by decide +kernel
theorem dX2_commit_9 : decode cX2_commit 9 = .ok (.invokevirtual 60, 3) := by decide +kernel
theorem dX2_commit_12 : decode cX2_commit 12 = .ok (.iconst 0, 1) := by decide +kernel
theorem dX2_commit_13 : decode cX2_commit 13 = .ok (.istore_n 1, 1) := by decide +kernel
theorem dX2_commit_14 : decode cX2_commit 14 = .ok (.iconst 0, 1) := by decide +kernel
theorem dX2_commit_15 : decode cX2_commit 15 = .ok (.istore_n 2, 1) := by decide +kernel
theorem dX2_commit_16 : decode cX2_commit 16 = .ok (.iload_n 2, 1) := by decide +kernel
theorem dX2_commit_17 : decode cX2_commit 17 = .ok (.bipush 7, 2) := by decide +kernel
theorem dX2_commit_19 : decode cX2_commit 19 = .ok (.if_icmp .ge 29, 3) := by decide +kernel
theorem dX2_commit_22 : decode cX2_commit 22 = .ok (.iload_n 1, 1) := by decide +kernel
theorem dX2_commit_23 : decode cX2_commit 23 = .ok (.aload_n 0, 1) := by decide +kernel
theorem dX2_commit_24 : decode cX2_commit 24 = .ok (.iload_n 2, 1) := by decide +kernel
theorem dX2_commit_25 : decode cX2_commit 25 = .ok (.invokevirtual 76, 3) := by decide +kernel
theorem dX2_commit_28 : decode cX2_commit 28 = .ok (.invokestatic 80, 3) := by decide +kernel
theorem dX2_commit_31 : decode cX2_commit 31 = .ok (.aload_n 0, 1) := by decide +kernel
theorem dX2_commit_32 : decode cX2_commit 32 = .ok (.iload_n 2, 1) := by decide +kernel
theorem dX2_commit_33 : decode cX2_commit 33 = .ok (.invokevirtual 85, 3) := by decide +kernel
theorem dX2_commit_36 : decode cX2_commit 36 = .ok (.invokestatic 80, 3) := by decide +kernel
theorem dX2_commit_39 : decode cX2_commit 39 = .ok (.iadd, 1) := by decide +kernel
theorem dX2_commit_40 : decode cX2_commit 40 = .ok (.iadd, 1) := by decide +kernel
theorem dX2_commit_41 : decode cX2_commit 41 = .ok (.istore_n 1, 1) := by decide +kernel
theorem dX2_commit_42 : decode cX2_commit 42 = .ok (.iinc 2 1, 3) := by decide +kernel
theorem dX2_commit_45 : decode cX2_commit 45 = .ok (.goto (-29), 3) := by decide +kernel
theorem dX2_commit_48 : decode cX2_commit 48 = .ok (.iload_n 1, 1) := by decide +kernel
theorem dX2_commit_49 : decode cX2_commit 49 = .ok (.ireturn, 1) := by decide +kernel
set_option maxRecDepth 20000 in
theorem ggX2_abort_J6_bitCount_0f7a4 : GoodIn wsX2_abort wsJ6_bitCount_0f7a4 := goodIn_r _ [6, 7, 8, 9] (by decide +kernel) (by decide +kernel)
set_option maxRecDepth 20000 in
theorem gX2_abort_J6_bitCount_0f7a4 : GoodIn wsX2_abort (va_wsS RX2 80 yJ6_bitCount_0f7a4 wsJ6_bitCount_0f7a4) := goodIn_app (goodIn_of _ (by decide +kernel)) ggX2_abort_J6_bitCount_0f7a4
set_option maxRecDepth 20000 in
theorem ggX2_abort_X2_clearStaged : GoodIn wsX2_abort wsX2_clearStaged := goodIn_r _ [14, 1, 2, 15, 16, 17, 18, 19, 20, 21, 22, 23, 24, 25] (by decide +kernel) (by decide +kernel)
set_option maxRecDepth 20000 in
theorem gX2_abort_X2_clearStaged : GoodIn wsX2_abort (wsV RX2 88 RX2 yX2_clearStaged wsX2_clearStaged) := goodIn_app (goodIn_of _ (by decide +kernel)) ggX2_abort_X2_clearStaged
theorem dX2_abort_0 : decode cX2_abort 0 = .ok (.iconst 0, 1) := by decide +kernel
theorem dX2_abort_1 : decode cX2_abort 1 = .ok (.istore_n 1, 1) := by decide +kernel
theorem dX2_abort_2 : decode cX2_abort 2 = .ok (.iconst 0, 1) := by decide +kernel
theorem dX2_abort_3 : decode cX2_abort 3 = .ok (.istore_n 2, 1) := by decide +kernel
theorem dX2_abort_4 : decode cX2_abort 4 = .ok (.iload_n 2, 1) := by decide +kernel
theorem dX2_abort_5 : decode cX2_abort 5 = .ok (.iconst 2, 1) := by decide +kernel
theorem dX2_abort_6 : decode cX2_abort 6 = .ok (.if_icmp .ge 31, 3) := by decide +kernel
theorem dX2_abort_9 : decode cX2_abort 9 = .ok (.iload_n 1, 1) := by decide +kernel
theorem dX2_abort_10 : decode cX2_abort 10 = .ok (.aload_n 0, 1) := by decide +kernel
theorem dX2_abort_11 : decode cX2_abort 11 = .ok (.getfield 29, 3) := by decide +kernel
theorem dX2_abort_14 : decode cX2_abort 14 = .ok (.iload_n 2, 1) := by decide +kernel
theorem dX2_abort_15 : decode cX2_abort 15 = .ok (.iaload, 1) := by decide +kernel
theorem dX2_abort_16 : decode cX2_abort 16 = .ok (.invokestatic 80, 3) := by decide +kernel
theorem dX2_abort_19 : decode cX2_abort 19 = .ok (.aload_n 0, 1) := by decide +kernel
theorem dX2_abort_20 : decode cX2_abort 20 = .ok (.getfield 32, 3) := by decide +kernel
theorem dX2_abort_23 : decode cX2_abort 23 = .ok (.iload_n 2, 1) := by decide +kernel
theorem dX2_abort_24 : decode cX2_abort 24 = .ok (.iaload, 1) := by decide +kernel
theorem dX2_abort_25 : decode cX2_abort 25 = .ok (.invokestatic 80, 3) := by decide +kernel
theorem dX2_abort_28 : decode cX2_abort 28 = .ok (.iadd, 1) := by decide +kernel
theorem dX2_abort_29 : decode cX2_abort 29 = .ok (.iadd, 1) := by decide +kernel
theorem dX2_abort_30 : decode cX2_abort 30 = .ok (.istore_n 1, 1) := by decide +kernel
theorem dX2_abort_31 : decode cX2_abort 31 = .ok (.iinc 2 1, 3) := by decide +kernel
theorem dX2_abort_34 : decode cX2_abort 34 = .ok (.goto (-30), 3) := by decide +kernel
theorem dX2_abort_37 : decode cX2_abort 37 = .ok (.aload_n 0, 1) := by decide +kernel
theorem dX2_abort_38 : decode cX2_abort 38 = .ok (.invokevirtual 88, 3) := by decide +kernel
theorem dX2_abort_41 : decode cX2_abort 41 = .ok (.iload_n 1, 1) := by decide +kernel
theorem dX2_abort_42 : decode cX2_abort 42 = .ok (.ireturn, 1) := by decide +kernel
set_option maxRecDepth 20000 in
theorem ggX2_has_X2_isRelation : GoodIn wsX2_has wsX2_isRelation := goodIn_r _ [5] (by decide +kernel) (by decide +kernel)
set_option maxRecDepth 20000 in
theorem gX2_has_X2_isRelation : GoodIn wsX2_has (va_wsS RX2 39 yX2_isRelation wsX2_isRelation) := goodIn_app (goodIn_of _ (by decide +kernel)) ggX2_has_X2_isRelation
set_option maxRecDepth 20000 in
theorem ggX2_has_X2_isThing : GoodIn wsX2_has wsX2_isThing := goodIn_r _ [8] (by decide +kernel) (by decide +kernel)
set_option maxRecDepth 20000 in
theorem gX2_has_X2_isThing : GoodIn wsX2_has (va_wsS RX2 66 yX2_isThing wsX2_isThing) := goodIn_app (goodIn_of _ (by decide +kernel)) ggX2_has_X2_isThing
set_option maxRecDepth 20000 in
theorem ggX2_has_X2_holds : GoodIn wsX2_has wsX2_holds := goodIn_r _ [11] (by decide +kernel) (by decide +kernel)
set_option maxRecDepth 20000 in
theorem gX2_has_X2_holds : GoodIn wsX2_has (va_wsS RX2 91 yX2_holds wsX2_holds) := goodIn_app (goodIn_of _ (by decide +kernel)) ggX2_has_X2_holds
theorem dX2_has_0 : decode cX2_has 0 = .ok (.iload_n 1, 1) := by decide +kernel
theorem dX2_has_1 : decode cX2_has 1 = .ok (.invokestatic 39, 3) := by decide +kernel
theorem dX2_has_4 : decode cX2_has 4 = .ok (.ifCond .eq 35, 3) := by decide +kernel
theorem dX2_has_7 : decode cX2_has 7 = .ok (.iload_n 2, 1) := by decide +kernel
theorem dX2_has_8 : decode cX2_has 8 = .ok (.invokestatic 66, 3) := by decide +kernel
theorem dX2_has_11 : decode cX2_has 11 = .ok (.ifCond .eq 28, 3) := by decide +kernel
theorem dX2_has_14 : decode cX2_has 14 = .ok (.iload_n 3, 1) := by decide +kernel
theorem dX2_has_15 : decode cX2_has 15 = .ok (.invokestatic 66, 3) := by decide +kernel
theorem dX2_has_18 : decode cX2_has 18 = .ok (.ifCond .eq 21, 3) := by decide +kernel
theorem dX2_has_21 : decode cX2_has 21 = .ok (.aload_n 0, 1) := by decide +kernel
theorem dX2_has_22 : decode cX2_has 22 = .ok (.getfield 16, 3) := by decide +kernel
theorem dX2_has_25 : decode cX2_has 25 = .ok (.iload_n 1, 1) := by decide +kernel
theorem dX2_has_26 : decode cX2_has 26 = .ok (.iaload, 1) := by decide +kernel
theorem dX2_has_27 : decode cX2_has 27 = .ok (.iload_n 2, 1) := by decide +kernel
theorem dX2_has_28 : decode cX2_has 28 = .ok (.iload_n 3, 1) := by decide +kernel
theorem dX2_has_29 : decode cX2_has 29 = .ok (.invokestatic 91, 3) := by decide +kernel
theorem dX2_has_32 : decode cX2_has 32 = .ok (.ifCond .eq 7, 3) := by decide +kernel
theorem dX2_has_35 : decode cX2_has 35 = .ok (.iconst 1, 1) := by decide +kernel
theorem dX2_has_36 : decode cX2_has 36 = .ok (.goto 4, 3) := by decide +kernel
theorem dX2_has_39 : decode cX2_has 39 = .ok (.iconst 0, 1) := by decide +kernel
theorem dX2_has_40 : decode cX2_has 40 = .ok (.ireturn, 1) := by decide +kernel
set_option maxRecDepth 20000 in
theorem ggX2_count_X2_isRelation : GoodIn wsX2_count wsX2_isRelation := goodIn_r _ [7] (by decide +kernel) (by decide +kernel)
set_option maxRecDepth 20000 in
theorem gX2_count_X2_isRelation : GoodIn wsX2_count (va_wsS RX2 39 yX2_isRelation wsX2_isRelation) := goodIn_app (goodIn_of _ (by decide +kernel)) ggX2_count_X2_isRelation
set_option maxRecDepth 20000 in
theorem ggX2_count_X2_isThing : GoodIn wsX2_count wsX2_isThing := goodIn_r _ [10] (by decide +kernel) (by decide +kernel)
set_option maxRecDepth 20000 in
theorem gX2_count_X2_isThing : GoodIn wsX2_count (va_wsS RX2 66 yX2_isThing wsX2_isThing) := goodIn_app (goodIn_of _ (by decide +kernel)) ggX2_count_X2_isThing
set_option maxRecDepth 20000 in
theorem ggX2_count_X1_leadsBack : GoodIn wsX2_count wsX1_leadsBack := goodIn_r _ [14, 15, 16, 17, 12, 18, 19, 33, 34, 35] (by decide +kernel) (by decide +kernel)
set_option maxRecDepth 20000 in
theorem gX2_count_X1_leadsBack_n95 : GoodIn wsX2_count (wsX1_leadsBack) := ggX2_count_X1_leadsBack
set_option maxRecDepth 20000 in
theorem ggX2_count_X2_isView : GoodIn wsX2_count wsX2_isView := goodIn_r _ [22] (by decide +kernel) (by decide +kernel)
set_option maxRecDepth 20000 in
theorem gX2_count_X2_isView : GoodIn wsX2_count (va_wsS RX2 35 yX2_isView wsX2_isView) := goodIn_app (goodIn_of _ (by decide +kernel)) ggX2_count_X2_isView
set_option maxRecDepth 20000 in
theorem ggX2_count_X2_holds : GoodIn wsX2_count wsX2_holds := goodIn_r _ [25] (by decide +kernel) (by decide +kernel)
set_option maxRecDepth 20000 in
theorem gX2_count_X2_holds : GoodIn wsX2_count (va_wsS RX2 91 yX2_holds wsX2_holds) := goodIn_app (goodIn_of _ (by decide +kernel)) ggX2_count_X2_holds
theorem dX2_count_0 : decode cX2_count 0 = .ok (.iload_n 1, 1) := by decide +kernel
theorem dX2_count_1 : decode cX2_count 1 = .ok (.invokestatic 39, 3) := by decide +kernel
theorem dX2_count_4 : decode cX2_count 4 = .ok (.ifCond .eq 28, 3) := by decide +kernel
theorem dX2_count_7 : decode cX2_count 7 = .ok (.iload_n 2, 1) := by decide +kernel
theorem dX2_count_8 : decode cX2_count 8 = .ok (.invokestatic 66, 3) := by decide +kernel
theorem dX2_count_11 : decode cX2_count 11 = .ok (.ifCond .eq 21, 3) := by decide +kernel
theorem dX2_count_14 : decode cX2_count 14 = .ok (.iload_n 3, 1) := by decide +kernel
theorem dX2_count_15 : decode cX2_count 15 = .ok (.invokestatic 66, 3) := by decide +kernel
theorem dX2_count_18 : decode cX2_count 18 = .ok (.ifCond .eq 14, 3) := by decide +kernel
theorem dX2_count_21 : decode cX2_count 21 = .ok (.aload_n 0, 1) := by decide +kernel
theorem dX2_count_22 : decode cX2_count 22 = .ok (.getfield 10, 3) := by decide +kernel
theorem dX2_count_25 : decode cX2_count 25 = .ok (.iload_n 1, 1) := by decide +kernel
theorem dX2_count_26 : decode cX2_count 26 = .ok (.invokevirtual 95, 3) := by decide +kernel
theorem dX2_count_29 : decode cX2_count 29 = .ok (.ifCond .eq 5, 3) := by decide +kernel
theorem dX2_count_32 : decode cX2_count 32 = .ok (.iconst (-1), 1) := by decide +kernel
theorem dX2_count_33 : decode cX2_count 33 = .ok (.ireturn, 1) := by decide +kernel
theorem dX2_count_34 : decode cX2_count 34 = .ok (.iload_n 1, 1) := by decide +kernel
theorem dX2_count_35 : decode cX2_count 35 = .ok (.invokestatic 35, 3) := by decide +kernel
theorem dX2_count_38 : decode cX2_count 38 = .ok (.ifCond .eq 19, 3) := by decide +kernel
theorem dX2_count_41 : decode cX2_count 41 = .ok (.aload_n 0, 1) := by decide +kernel
theorem dX2_count_42 : decode cX2_count 42 = .ok (.getfield 26, 3) := by decide +kernel
theorem dX2_count_45 : decode cX2_count 45 = .ok (.bipush 25, 2) := by decide +kernel
theorem dX2_count_47 : decode cX2_count 47 = .ok (.iload_n 1, 1) := by decide +kernel
theorem dX2_count_48 : decode cX2_count 48 = .ok (.imul, 1) := by decide +kernel
theorem dX2_count_49 : decode cX2_count 49 = .ok (.iconst 5, 1) := by decide +kernel
theorem dX2_count_50 : decode cX2_count 50 = .ok (.iload_n 2, 1) := by decide +kernel
theorem dX2_count_51 : decode cX2_count 51 = .ok (.imul, 1) := by decide +kernel
theorem dX2_count_52 : decode cX2_count 52 = .ok (.iadd, 1) := by decide +kernel
theorem dX2_count_53 : decode cX2_count 53 = .ok (.iload_n 3, 1) := by decide +kernel
theorem dX2_count_54 : decode cX2_count 54 = .ok (.iadd, 1) := by decide +kernel
theorem dX2_count_55 : decode cX2_count 55 = .ok (.iaload, 1) := by decide +kernel
theorem dX2_count_56 : decode cX2_count 56 = .ok (.ireturn, 1) := by decide +kernel
theorem dX2_count_57 : decode cX2_count 57 = .ok (.aload_n 0, 1) := by decide +kernel
theorem dX2_count_58 : decode cX2_count 58 = .ok (.getfield 16, 3) := by decide +kernel
theorem dX2_count_61 : decode cX2_count 61 = .ok (.iload_n 1, 1) := by decide +kernel
theorem dX2_count_62 : decode cX2_count 62 = .ok (.iaload, 1) := by decide +kernel
theorem dX2_count_63 : decode cX2_count 63 = .ok (.iload_n 2, 1) := by decide +kernel
theorem dX2_count_64 : decode cX2_count 64 = .ok (.iload_n 3, 1) := by decide +kernel
theorem dX2_count_65 : decode cX2_count 65 = .ok (.invokestatic 91, 3) := by decide +kernel
theorem dX2_count_68 : decode cX2_count 68 = .ok (.ifCond .eq 7, 3) := by decide +kernel
theorem dX2_count_71 : decode cX2_count 71 = .ok (.iconst 1, 1) := by decide +kernel
theorem dX2_count_72 : decode cX2_count 72 = .ok (.goto 4, 3) := by decide +kernel
theorem dX2_count_75 : decode cX2_count 75 = .ok (.iconst 0, 1) := by decide +kernel
theorem dX2_count_76 : decode cX2_count 76 = .ok (.ireturn, 1) := by decide +kernel
set_option maxRecDepth 20000 in
theorem ggX2_size_X2_isRelation : GoodIn wsX2_size wsX2_isRelation := goodIn_r _ [5] (by decide +kernel) (by decide +kernel)
set_option maxRecDepth 20000 in
theorem gX2_size_X2_isRelation : GoodIn wsX2_size (va_wsS RX2 39 yX2_isRelation wsX2_isRelation) := goodIn_app (goodIn_of _ (by decide +kernel)) ggX2_size_X2_isRelation
set_option maxRecDepth 20000 in
theorem ggX2_size_J6_bitCount_0f7a4 : GoodIn wsX2_size wsJ6_bitCount_0f7a4 := goodIn_r _ [9, 10, 11, 12] (by decide +kernel) (by decide +kernel)
set_option maxRecDepth 20000 in
theorem gX2_size_J6_bitCount_0f7a4 : GoodIn wsX2_size (va_wsS RX2 80 yJ6_bitCount_0f7a4 wsJ6_bitCount_0f7a4) := goodIn_app (goodIn_of _ (by decide +kernel)) ggX2_size_J6_bitCount_0f7a4
theorem dX2_size_0 : decode cX2_size 0 = .ok (.iload_n 1, 1) := by decide +kernel
theorem dX2_size_1 : decode cX2_size 1 = .ok (.invokestatic 39, 3) := by decide +kernel
theorem dX2_size_4 : decode cX2_size 4 = .ok (.ifCond .eq 15, 3) := by decide +kernel
theorem dX2_size_7 : decode cX2_size 7 = .ok (.aload_n 0, 1) := by decide +kernel
theorem dX2_size_8 : decode cX2_size 8 = .ok (.getfield 16, 3) := by decide +kernel
theorem dX2_size_11 : decode cX2_size 11 = .ok (.iload_n 1, 1) := by decide +kernel
theorem dX2_size_12 : decode cX2_size 12 = .ok (.iaload, 1) := by decide +kernel
theorem dX2_size_13 : decode cX2_size 13 = .ok (.invokestatic 80, 3) := by decide +kernel
theorem dX2_size_16 : decode cX2_size 16 = .ok (.goto 4, 3) := by decide +kernel
theorem dX2_size_19 : decode cX2_size 19 = .ok (.iconst (-1), 1) := by decide +kernel
theorem dX2_size_20 : decode cX2_size 20 = .ok (.ireturn, 1) := by decide +kernel
set_option maxRecDepth 20000 in
theorem ggX2_recursive_X2_isRelation : GoodIn wsX2_recursive wsX2_isRelation := goodIn_r _ [5] (by decide +kernel) (by decide +kernel)
set_option maxRecDepth 20000 in
theorem gX2_recursive_X2_isRelation : GoodIn wsX2_recursive (va_wsS RX2 39 yX2_isRelation wsX2_isRelation) := goodIn_app (goodIn_of _ (by decide +kernel)) ggX2_recursive_X2_isRelation
set_option maxRecDepth 20000 in
theorem ggX2_recursive_X1_leadsBack : GoodIn wsX2_recursive wsX1_leadsBack := goodIn_r _ [9, 10, 11, 12, 7, 13, 14, 22, 23, 24] (by decide +kernel) (by decide +kernel)
set_option maxRecDepth 20000 in
theorem gX2_recursive_X1_leadsBack_n95 : GoodIn wsX2_recursive (wsX1_leadsBack) := ggX2_recursive_X1_leadsBack
theorem dX2_recursive_0 : decode cX2_recursive 0 = .ok (.iload_n 1, 1) := by decide +kernel
theorem dX2_recursive_1 : decode cX2_recursive 1 = .ok (.invokestatic 39, 3) := by decide +kernel
theorem dX2_recursive_4 : decode cX2_recursive 4 = .ok (.ifCond .eq 18, 3) := by decide +kernel
theorem dX2_recursive_7 : decode cX2_recursive 7 = .ok (.aload_n 0, 1) := by decide +kernel
theorem dX2_recursive_8 : decode cX2_recursive 8 = .ok (.getfield 10, 3) := by decide +kernel
theorem dX2_recursive_11 : decode cX2_recursive 11 = .ok (.iload_n 1, 1) := by decide +kernel
theorem dX2_recursive_12 : decode cX2_recursive 12 = .ok (.invokevirtual 95, 3) := by decide +kernel
theorem dX2_recursive_15 : decode cX2_recursive 15 = .ok (.ifCond .eq 7, 3) := by decide +kernel
theorem dX2_recursive_18 : decode cX2_recursive 18 = .ok (.iconst 1, 1) := by decide +kernel
theorem dX2_recursive_19 : decode cX2_recursive 19 = .ok (.goto 4, 3) := by decide +kernel
theorem dX2_recursive_22 : decode cX2_recursive 22 = .ok (.iconst 0, 1) := by decide +kernel
theorem dX2_recursive_23 : decode cX2_recursive 23 = .ok (.ireturn, 1) := by decide +kernel
set_option maxRecDepth 20000 in
theorem ggX2_needs_X2_isView : GoodIn wsX2_needs wsX2_isView := goodIn_r _ [5] (by decide +kernel) (by decide +kernel)
set_option maxRecDepth 20000 in
theorem gX2_needs_X2_isView : GoodIn wsX2_needs (va_wsS RX2 35 yX2_isView wsX2_isView) := goodIn_app (goodIn_of _ (by decide +kernel)) ggX2_needs_X2_isView
set_option maxRecDepth 20000 in
theorem ggX2_needs_X2_isRelation : GoodIn wsX2_needs wsX2_isRelation := goodIn_r _ [8] (by decide +kernel) (by decide +kernel)
set_option maxRecDepth 20000 in
theorem gX2_needs_X2_isRelation : GoodIn wsX2_needs (va_wsS RX2 39 yX2_isRelation wsX2_isRelation) := goodIn_app (goodIn_of _ (by decide +kernel)) ggX2_needs_X2_isRelation
set_option maxRecDepth 20000 in
theorem ggX2_needs_X1_leadsTo : GoodIn wsX2_needs wsX1_leadsTo := goodIn_r _ [12, 13, 21, 22, 23] (by decide +kernel) (by decide +kernel)
set_option maxRecDepth 20000 in
theorem gX2_needs_X1_leadsTo_n98 : GoodIn wsX2_needs (wsX1_leadsTo) := ggX2_needs_X1_leadsTo
theorem dX2_needs_0 : decode cX2_needs 0 = .ok (.iload_n 1, 1) := by decide +kernel
theorem dX2_needs_1 : decode cX2_needs 1 = .ok (.invokestatic 35, 3) := by decide +kernel
theorem dX2_needs_4 : decode cX2_needs 4 = .ok (.ifCond .eq 26, 3) := by decide +kernel
theorem dX2_needs_7 : decode cX2_needs 7 = .ok (.iload_n 2, 1) := by decide +kernel
theorem dX2_needs_8 : decode cX2_needs 8 = .ok (.invokestatic 39, 3) := by decide +kernel
theorem dX2_needs_11 : decode cX2_needs 11 = .ok (.ifCond .eq 19, 3) := by decide +kernel
theorem dX2_needs_14 : decode cX2_needs 14 = .ok (.aload_n 0, 1) := by decide +kernel
theorem dX2_needs_15 : decode cX2_needs 15 = .ok (.getfield 10, 3) := by decide +kernel
theorem dX2_needs_18 : decode cX2_needs 18 = .ok (.iload_n 1, 1) := by decide +kernel
theorem dX2_needs_19 : decode cX2_needs 19 = .ok (.iload_n 2, 1) := by decide +kernel
theorem dX2_needs_20 : decode cX2_needs 20 = .ok (.invokevirtual 98, 3) := by decide +kernel
theorem dX2_needs_23 : decode cX2_needs 23 = .ok (.ifCond .eq 7, 3) := by decide +kernel
theorem dX2_needs_26 : decode cX2_needs 26 = .ok (.iconst 1, 1) := by decide +kernel
theorem dX2_needs_27 : decode cX2_needs 27 = .ok (.goto 4, 3) := by decide +kernel
theorem dX2_needs_30 : decode cX2_needs 30 = .ok (.iconst 0, 1) := by decide +kernel
theorem dX2_needs_31 : decode cX2_needs 31 = .ok (.ireturn, 1) := by decide +kernel
theorem dX2_rules_0 : decode cX2_rules 0 = .ok (.aload_n 0, 1) := by decide +kernel
theorem dX2_rules_1 : decode cX2_rules 1 = .ok (.getfield 10, 3) := by decide +kernel
theorem dX2_rules_4 : decode cX2_rules 4 = .ok (.getfield 42, 3) := by decide +kernel
theorem dX2_rules_7 : decode cX2_rules 7 = .ok (.ireturn, 1) := by decide +kernel
set_option maxRecDepth 20000 in
theorem ggX2_changed_X2_isRelation : GoodIn wsX2_changed wsX2_isRelation := goodIn_r _ [6] (by decide +kernel) (by decide +kernel)
set_option maxRecDepth 20000 in
theorem gX2_changed_X2_isRelation : GoodIn wsX2_changed (va_wsS RX2 39 yX2_isRelation wsX2_isRelation) := goodIn_app (goodIn_of _ (by decide +kernel)) ggX2_changed_X2_isRelation
set_option maxRecDepth 20000 in
theorem ggX2_changed_X2_putInto : GoodIn wsX2_changed wsX2_putInto := goodIn_r _ [10, 2, 11, 23, 24, 25, 26, 27, 28, 29] (by decide +kernel) (by decide +kernel)
set_option maxRecDepth 20000 in
theorem gX2_changed_X2_putInto : GoodIn wsX2_changed (wsV RX2 76 RX2 yX2_putInto wsX2_putInto) := goodIn_app (goodIn_of _ (by decide +kernel)) ggX2_changed_X2_putInto
set_option maxRecDepth 20000 in
theorem ggX2_changed_J6_bitCount_0f7a4 : GoodIn wsX2_changed wsJ6_bitCount_0f7a4 := goodIn_r _ [15, 16, 17, 18] (by decide +kernel) (by decide +kernel)
set_option maxRecDepth 20000 in
theorem gX2_changed_J6_bitCount_0f7a4 : GoodIn wsX2_changed (va_wsS RX2 80 yJ6_bitCount_0f7a4 wsJ6_bitCount_0f7a4) := goodIn_app (goodIn_of _ (by decide +kernel)) ggX2_changed_J6_bitCount_0f7a4
set_option maxRecDepth 20000 in
theorem ggX2_changed_X2_takenOutOf : GoodIn wsX2_changed wsX2_takenOutOf := goodIn_r _ [22, 11, 2, 23, 24, 25, 26, 27, 28, 29] (by decide +kernel) (by decide +kernel)
set_option maxRecDepth 20000 in
theorem gX2_changed_X2_takenOutOf : GoodIn wsX2_changed (wsV RX2 85 RX2 yX2_takenOutOf wsX2_takenOutOf) := goodIn_app (goodIn_of _ (by decide +kernel)) ggX2_changed_X2_takenOutOf
theorem dX2_changed_0 : decode cX2_changed 0 = .ok (.iload_n 1, 1) := by decide +kernel
theorem dX2_changed_1 : decode cX2_changed 1 = .ok (.invokestatic 39, 3) := by decide +kernel
theorem dX2_changed_4 : decode cX2_changed 4 = .ok (.ifCond .ne 5, 3) := by decide +kernel
theorem dX2_changed_7 : decode cX2_changed 7 = .ok (.iconst (-1), 1) := by decide +kernel
theorem dX2_changed_8 : decode cX2_changed 8 = .ok (.ireturn, 1) := by decide +kernel
theorem dX2_changed_9 : decode cX2_changed 9 = .ok (.iload_n 2, 1) := by decide +kernel
theorem dX2_changed_10 : decode cX2_changed 10 = .ok (.tableswitch 75 0 3 #[30, 39, 48, 58], 30) := by decide +kernel
theorem dX2_changed_40 : decode cX2_changed 40 = .ok (.aload_n 0, 1) := by decide +kernel
theorem dX2_changed_41 : decode cX2_changed 41 = .ok (.iload_n 1, 1) := by decide +kernel
theorem dX2_changed_42 : decode cX2_changed 42 = .ok (.invokevirtual 76, 3) := by decide +kernel
theorem dX2_changed_45 : decode cX2_changed 45 = .ok (.invokestatic 80, 3) := by decide +kernel
theorem dX2_changed_48 : decode cX2_changed 48 = .ok (.ireturn, 1) := by decide +kernel
theorem dX2_changed_49 : decode cX2_changed 49 = .ok (.aload_n 0, 1) := by decide +kernel
theorem dX2_changed_50 : decode cX2_changed 50 = .ok (.iload_n 1, 1) := by decide +kernel
theorem dX2_changed_51 : decode cX2_changed 51 = .ok (.invokevirtual 85, 3) := by decide +kernel
theorem dX2_changed_54 : decode cX2_changed 54 = .ok (.invokestatic 80, 3) := by decide +kernel
theorem dX2_changed_57 : decode cX2_changed 57 = .ok (.ireturn, 1) := by decide +kernel
theorem dX2_changed_58 : decode cX2_changed 58 = .ok (.aload_n 0, 1) := by decide +kernel
theorem dX2_changed_59 : decode cX2_changed 59 = .ok (.getfield 23, 3) := by decide +kernel
theorem dX2_changed_62 : decode cX2_changed 62 = .ok (.iload_n 1, 1) := by decide +kernel
theorem dX2_changed_63 : decode cX2_changed 63 = .ok (.iaload, 1) := by decide +kernel
theorem dX2_changed_64 : decode cX2_changed 64 = .ok (.invokestatic 80, 3) := by decide +kernel
theorem dX2_changed_67 : decode cX2_changed 67 = .ok (.ireturn, 1) := by decide +kernel
theorem dX2_changed_68 : decode cX2_changed 68 = .ok (.aload_n 0, 1) := by decide +kernel
theorem dX2_changed_69 : decode cX2_changed 69 = .ok (.getfield 23, 3) := by decide +kernel
theorem dX2_changed_72 : decode cX2_changed 72 = .ok (.iload_n 1, 1) := by decide +kernel
theorem dX2_changed_73 : decode cX2_changed 73 = .ok (.iaload, 1) := by decide +kernel
theorem dX2_changed_74 : decode cX2_changed 74 = .ok (.aload_n 0, 1) := by decide +kernel
theorem dX2_changed_75 : decode cX2_changed 75 = .ok (.getfield 16, 3) := by decide +kernel
theorem dX2_changed_78 : decode cX2_changed 78 = .ok (.iload_n 1, 1) := by decide +kernel
theorem dX2_changed_79 : decode cX2_changed 79 = .ok (.iaload, 1) := by decide +kernel
theorem dX2_changed_80 : decode cX2_changed 80 = .ok (.iand, 1) := by decide +kernel
theorem dX2_changed_81 : decode cX2_changed 81 = .ok (.invokestatic 80, 3) := by decide +kernel
theorem dX2_changed_84 : decode cX2_changed 84 = .ok (.ireturn, 1) := by decide +kernel
theorem dX2_changed_85 : decode cX2_changed 85 = .ok (.iconst (-1), 1) := by decide +kernel
theorem dX2_changed_86 : decode cX2_changed 86 = .ok (.ireturn, 1) := by decide +kernel
set_option maxRecDepth 20000 in
theorem ggX2_suspect_X2_isRelation : GoodIn wsX2_suspect wsX2_isRelation := goodIn_r _ [5] (by decide +kernel) (by decide +kernel)
set_option maxRecDepth 20000 in
theorem gX2_suspect_X2_isRelation : GoodIn wsX2_suspect (va_wsS RX2 39 yX2_isRelation wsX2_isRelation) := goodIn_app (goodIn_of _ (by decide +kernel)) ggX2_suspect_X2_isRelation
set_option maxRecDepth 20000 in
theorem ggX2_suspect_X2_isThing : GoodIn wsX2_suspect wsX2_isThing := goodIn_r _ [8] (by decide +kernel) (by decide +kernel)
set_option maxRecDepth 20000 in
theorem gX2_suspect_X2_isThing : GoodIn wsX2_suspect (va_wsS RX2 66 yX2_isThing wsX2_isThing) := goodIn_app (goodIn_of _ (by decide +kernel)) ggX2_suspect_X2_isThing
set_option maxRecDepth 20000 in
theorem ggX2_suspect_X2_holds : GoodIn wsX2_suspect wsX2_holds := goodIn_r _ [11] (by decide +kernel) (by decide +kernel)
set_option maxRecDepth 20000 in
theorem gX2_suspect_X2_holds : GoodIn wsX2_suspect (va_wsS RX2 91 yX2_holds wsX2_holds) := goodIn_app (goodIn_of _ (by decide +kernel)) ggX2_suspect_X2_holds
theorem dX2_suspect_0 : decode cX2_suspect 0 = .ok (.iload_n 1, 1) := by decide +kernel
theorem dX2_suspect_1 : decode cX2_suspect 1 = .ok (.invokestatic 39, 3) := by decide +kernel
theorem dX2_suspect_4 : decode cX2_suspect 4 = .ok (.ifCond .eq 35, 3) := by decide +kernel
theorem dX2_suspect_7 : decode cX2_suspect 7 = .ok (.iload_n 2, 1) := by decide +kernel
theorem dX2_suspect_8 : decode cX2_suspect 8 = .ok (.invokestatic 66, 3) := by decide +kernel
theorem dX2_suspect_11 : decode cX2_suspect 11 = .ok (.ifCond .eq 28, 3) := by decide +kernel
theorem dX2_suspect_14 : decode cX2_suspect 14 = .ok (.iload_n 3, 1) := by decide +kernel
theorem dX2_suspect_15 : decode cX2_suspect 15 = .ok (.invokestatic 66, 3) := by decide +kernel
theorem dX2_suspect_18 : decode cX2_suspect 18 = .ok (.ifCond .eq 21, 3) := by decide +kernel
theorem dX2_suspect_21 : decode cX2_suspect 21 = .ok (.aload_n 0, 1) := by decide +kernel
theorem dX2_suspect_22 : decode cX2_suspect 22 = .ok (.getfield 23, 3) := by decide +kernel
theorem dX2_suspect_25 : decode cX2_suspect 25 = .ok (.iload_n 1, 1) := by decide +kernel
theorem dX2_suspect_26 : decode cX2_suspect 26 = .ok (.iaload, 1) := by decide +kernel
theorem dX2_suspect_27 : decode cX2_suspect 27 = .ok (.iload_n 2, 1) := by decide +kernel
theorem dX2_suspect_28 : decode cX2_suspect 28 = .ok (.iload_n 3, 1) := by decide +kernel
theorem dX2_suspect_29 : decode cX2_suspect 29 = .ok (.invokestatic 91, 3) := by decide +kernel
theorem dX2_suspect_32 : decode cX2_suspect 32 = .ok (.ifCond .eq 7, 3) := by decide +kernel
theorem dX2_suspect_35 : decode cX2_suspect 35 = .ok (.iconst 1, 1) := by decide +kernel
theorem dX2_suspect_36 : decode cX2_suspect 36 = .ok (.goto 4, 3) := by decide +kernel
theorem dX2_suspect_39 : decode cX2_suspect 39 = .ok (.iconst 0, 1) := by decide +kernel
theorem dX2_suspect_40 : decode cX2_suspect 40 = .ok (.ireturn, 1) := by decide +kernel
theorem dX2_isRelation_0 : decode cX2_isRelation 0 = .ok (.iload_n 0, 1) := by decide +kernel
theorem dX2_isRelation_1 : decode cX2_isRelation 1 = .ok (.ifCond .lt 13, 3) := by decide +kernel
theorem dX2_isRelation_4 : decode cX2_isRelation 4 = .ok (.iload_n 0, 1) := by decide +kernel
theorem dX2_isRelation_5 : decode cX2_isRelation 5 = .ok (.bipush 7, 2) := by decide +kernel
theorem dX2_isRelation_7 : decode cX2_isRelation 7 = .ok (.if_icmp .ge 7, 3) := by decide +kernel
theorem dX2_isRelation_10 : decode cX2_isRelation 10 = .ok (.iconst 1, 1) := by decide +kernel
theorem dX2_isRelation_11 : decode cX2_isRelation 11 = .ok (.goto 4, 3) := by decide +kernel
theorem dX2_isRelation_14 : decode cX2_isRelation 14 = .ok (.iconst 0, 1) := by decide +kernel
theorem dX2_isRelation_15 : decode cX2_isRelation 15 = .ok (.ireturn, 1) := by decide +kernel
theorem dX2_isView_0 : decode cX2_isView 0 = .ok (.iload_n 0, 1) := by decide +kernel
theorem dX2_isView_1 : decode cX2_isView 1 = .ok (.iconst 2, 1) := by decide +kernel
theorem dX2_isView_2 : decode cX2_isView 2 = .ok (.if_icmp .lt 13, 3) := by decide +kernel
theorem dX2_isView_5 : decode cX2_isView 5 = .ok (.iload_n 0, 1) := by decide +kernel
theorem dX2_isView_6 : decode cX2_isView 6 = .ok (.bipush 7, 2) := by decide +kernel
theorem dX2_isView_8 : decode cX2_isView 8 = .ok (.if_icmp .ge 7, 3) := by decide +kernel
theorem dX2_isView_11 : decode cX2_isView 11 = .ok (.iconst 1, 1) := by decide +kernel
theorem dX2_isView_12 : decode cX2_isView 12 = .ok (.goto 4, 3) := by decide +kernel
theorem dX2_isView_15 : decode cX2_isView 15 = .ok (.iconst 0, 1) := by decide +kernel
theorem dX2_isView_16 : decode cX2_isView 16 = .ok (.ireturn, 1) := by decide +kernel
theorem dX2_isThing_0 : decode cX2_isThing 0 = .ok (.iload_n 0, 1) := by decide +kernel
theorem dX2_isThing_1 : decode cX2_isThing 1 = .ok (.ifCond .lt 12, 3) := by decide +kernel
theorem dX2_isThing_4 : decode cX2_isThing 4 = .ok (.iload_n 0, 1) := by decide +kernel
theorem dX2_isThing_5 : decode cX2_isThing 5 = .ok (.iconst 5, 1) := by decide +kernel
theorem dX2_isThing_6 : decode cX2_isThing 6 = .ok (.if_icmp .ge 7, 3) := by decide +kernel
theorem dX2_isThing_9 : decode cX2_isThing 9 = .ok (.iconst 1, 1) := by decide +kernel
theorem dX2_isThing_10 : decode cX2_isThing 10 = .ok (.goto 4, 3) := by decide +kernel
theorem dX2_isThing_13 : decode cX2_isThing 13 = .ok (.iconst 0, 1) := by decide +kernel
