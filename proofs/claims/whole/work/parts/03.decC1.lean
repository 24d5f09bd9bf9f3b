theorem dX3_stage_24 : decode cX3_stage 24 = .ok (.ifCond .ne 5, 3) := by decide +kernel
theorem dX3_stage_27 : decode cX3_stage 27 = .ok (.iconst 0, 1) := by decide +kernel
theorem dX3_stage_28 : decode cX3_stage 28 = .ok (.ireturn, 1) := by decide +kernel
theorem dX3_stage_29 : decode cX3_stage 29 = .ok (.aload_n 0, 1) := by decide +kernel
theorem dX3_stage_30 : decode cX3_stage 30 = .ok (.getfield 31, 3) := by decide +kernel
theorem dX3_stage_33 : decode cX3_stage 33 = .ok (.iload_n 1, 1) := by decide +kernel
theorem dX3_stage_34 : decode cX3_stage 34 = .ok (.aload_n 0, 1) := by decide +kernel
theorem dX3_stage_35 : decode cX3_stage 35 = .ok (.getfield 31, 3) := by decide +kernel
theorem dX3_stage_38 : decode cX3_stage 38 = .ok (.iload_n 1, 1) := by decide +kernel
theorem dX3_stage_39 : decode cX3_stage 39 = .ok (.iaload, 1) := by decide +kernel
theorem dX3_stage_40 : decode cX3_stage 40 = .ok (.iload_n 2, 1) := by decide +kernel
theorem dX3_stage_41 : decode cX3_stage 41 = .ok (.iload_n 3, 1) := by decide +kernel
theorem dX3_stage_42 : decode cX3_stage 42 = .ok (.invokestatic 59, 3) := by decide +kernel
theorem dX3_stage_45 : decode cX3_stage 45 = .ok (.ior, 1) := by decide +kernel
theorem dX3_stage_46 : decode cX3_stage 46 = .ok (.iastore, 1) := by decide +kernel
theorem dX3_stage_47 : decode cX3_stage 47 = .ok (.aload_n 0, 1) := by decide +kernel
theorem dX3_stage_48 : decode cX3_stage 48 = .ok (.getfield 34, 3) := by decide +kernel
theorem dX3_stage_51 : decode cX3_stage 51 = .ok (.iload_n 1, 1) := by decide +kernel
theorem dX3_stage_52 : decode cX3_stage 52 = .ok (.iload 4, 2) := by decide +kernel
theorem dX3_stage_54 : decode cX3_stage 54 = .ok (.ifCond .eq 18, 3) := by decide +kernel
theorem dX3_stage_57 : decode cX3_stage 57 = .ok (.aload_n 0, 1) := by decide +kernel
theorem dX3_stage_58 : decode cX3_stage 58 = .ok (.getfield 34, 3) := by decide +kernel
theorem dX3_stage_61 : decode cX3_stage 61 = .ok (.iload_n 1, 1) := by decide +kernel
theorem dX3_stage_62 : decode cX3_stage 62 = .ok (.iaload, 1) := by decide +kernel
theorem dX3_stage_63 : decode cX3_stage 63 = .ok (.iload_n 2, 1) := by decide +kernel
theorem dX3_stage_64 : decode cX3_stage 64 = .ok (.iload_n 3, 1) := by decide +kernel
theorem dX3_stage_65 : decode cX3_stage 65 = .ok (.invokestatic 59, 3) := by decide +kernel
theorem dX3_stage_68 : decode cX3_stage 68 = .ok (.ior, 1) := by decide +kernel
theorem dX3_stage_69 : decode cX3_stage 69 = .ok (.goto 17, 3) := by decide +kernel
theorem dX3_stage_72 : decode cX3_stage 72 = .ok (.aload_n 0, 1) := by decide +kernel
theorem dX3_stage_73 : decode cX3_stage 73 = .ok (.getfield 34, 3) := by decide +kernel
theorem dX3_stage_76 : decode cX3_stage 76 = .ok (.iload_n 1, 1) := by decide +kernel
theorem dX3_stage_77 : decode cX3_stage 77 = .ok (.iaload, 1) := by decide +kernel
theorem dX3_stage_78 : decode cX3_stage 78 = .ok (.iload_n 2, 1) := by decide +kernel
theorem dX3_stage_79 : decode cX3_stage 79 = .ok (.iload_n 3, 1) := by decide +kernel
theorem dX3_stage_80 : decode cX3_stage 80 = .ok (.invokestatic 59, 3) := by decide +kernel
theorem dX3_stage_83 : decode cX3_stage 83 = .ok (.iconst (-1), 1) := by decide +kernel
theorem dX3_stage_84 : decode cX3_stage 84 = .ok (.ixor, 1) := by decide +kernel
theorem dX3_stage_85 : decode cX3_stage 85 = .ok (.iand, 1) := by decide +kernel
theorem dX3_stage_86 : decode cX3_stage 86 = .ok (.iastore, 1) := by decide +kernel
theorem dX3_stage_87 : decode cX3_stage 87 = .ok (.iconst 1, 1) := by decide +kernel
theorem dX3_stage_88 : decode cX3_stage 88 = .ok (.ireturn, 1) := by decide +kernel
theorem dX3_taken_0 : decode cX3_taken 0 = .ok (.aload_n 0, 1) := by decide +kernel
theorem dX3_taken_1 : decode cX3_taken 1 = .ok (.getfield 25, 3) := by decide +kernel
theorem dX3_taken_4 : decode cX3_taken 4 = .ok (.iload_n 1, 1) := by decide +kernel
theorem dX3_taken_5 : decode cX3_taken 5 = .ok (.iaload, 1) := by decide +kernel
theorem dX3_taken_6 : decode cX3_taken 6 = .ok (.aload_n 0, 1) := by decide +kernel
theorem dX3_taken_7 : decode cX3_taken 7 = .ok (.getfield 22, 3) := by decide +kernel
theorem dX3_taken_10 : decode cX3_taken 10 = .ok (.iload_n 1, 1) := by decide +kernel
theorem dX3_taken_11 : decode cX3_taken 11 = .ok (.iaload, 1) := by decide +kernel
theorem dX3_taken_12 : decode cX3_taken 12 = .ok (.iconst (-1), 1) := by decide +kernel
theorem dX3_taken_13 : decode cX3_taken 13 = .ok (.ixor, 1) := by decide +kernel
theorem dX3_taken_14 : decode cX3_taken 14 = .ok (.iand, 1) := by decide +kernel
theorem dX3_taken_15 : decode cX3_taken 15 = .ok (.ireturn, 1) := by decide +kernel
theorem dX3_added_0 : decode cX3_added 0 = .ok (.aload_n 0, 1) := by decide +kernel
theorem dX3_added_1 : decode cX3_added 1 = .ok (.getfield 22, 3) := by decide +kernel
theorem dX3_added_4 : decode cX3_added 4 = .ok (.iload_n 1, 1) := by decide +kernel
theorem dX3_added_5 : decode cX3_added 5 = .ok (.iaload, 1) := by decide +kernel
theorem dX3_added_6 : decode cX3_added 6 = .ok (.aload_n 0, 1) := by decide +kernel
theorem dX3_added_7 : decode cX3_added 7 = .ok (.getfield 25, 3) := by decide +kernel
theorem dX3_added_10 : decode cX3_added 10 = .ok (.iload_n 1, 1) := by decide +kernel
theorem dX3_added_11 : decode cX3_added 11 = .ok (.iaload, 1) := by decide +kernel
theorem dX3_added_12 : decode cX3_added 12 = .ok (.iconst (-1), 1) := by decide +kernel
theorem dX3_added_13 : decode cX3_added 13 = .ok (.ixor, 1) := by decide +kernel
theorem dX3_added_14 : decode cX3_added 14 = .ok (.iand, 1) := by decide +kernel
theorem dX3_added_15 : decode cX3_added 15 = .ok (.ireturn, 1) := by decide +kernel
set_option maxRecDepth 20000 in
theorem ggX3_lost_X3_taken : GoodIn wsX3_lost wsX3_taken := goodIn_r _ [7, 8, 9, 13, 14, 15, 16, 17, 18, 19, 20, 21, 22, 23, 24] (by decide +kernel) (by decide +kernel)
set_option maxRecDepth 20000 in
theorem gX3_lost_X3_taken : GoodIn wsX3_lost (wsV RX3 94 RX3 yX3_taken wsX3_taken) := goodIn_app (goodIn_of _ (by decide +kernel)) ggX3_lost_X3_taken
set_option maxRecDepth 20000 in
theorem ggX3_lost_X3_in : GoodIn wsX3_lost wsX3_in := goodIn_r _ [12] (by decide +kernel) (by decide +kernel)
set_option maxRecDepth 20000 in
theorem gX3_lost_X3_in : GoodIn wsX3_lost (va_wsS RX3 48 yX3_in wsX3_in) := goodIn_app (goodIn_of _ (by decide +kernel)) ggX3_lost_X3_in
theorem dX3_lost_0 : decode cX3_lost 0 = .ok (.iload_n 2, 1) := by decide +kernel
theorem dX3_lost_1 : decode cX3_lost 1 = .ok (.iconst 2, 1) := by decide +kernel
theorem dX3_lost_2 : decode cX3_lost 2 = .ok (.if_icmp .lt 21, 3) := by decide +kernel
theorem dX3_lost_5 : decode cX3_lost 5 = .ok (.aload_n 0, 1) := by decide +kernel
theorem dX3_lost_6 : decode cX3_lost 6 = .ok (.getfield 37, 3) := by decide +kernel
theorem dX3_lost_9 : decode cX3_lost 9 = .ok (.bipush 7, 2) := by decide +kernel
theorem dX3_lost_11 : decode cX3_lost 11 = .ok (.iload_n 2, 1) := by decide +kernel
theorem dX3_lost_12 : decode cX3_lost 12 = .ok (.imul, 1) := by decide +kernel
theorem dX3_lost_13 : decode cX3_lost 13 = .ok (.iload_n 1, 1) := by decide +kernel
theorem dX3_lost_14 : decode cX3_lost 14 = .ok (.iadd, 1) := by decide +kernel
theorem dX3_lost_15 : decode cX3_lost 15 = .ok (.baload, 1) := by decide +kernel
theorem dX3_lost_16 : decode cX3_lost 16 = .ok (.ifCond .eq 7, 3) := by decide +kernel
theorem dX3_lost_19 : decode cX3_lost 19 = .ok (.iconst 1, 1) := by decide +kernel
theorem dX3_lost_20 : decode cX3_lost 20 = .ok (.goto 4, 3) := by decide +kernel
theorem dX3_lost_23 : decode cX3_lost 23 = .ok (.iconst 0, 1) := by decide +kernel
theorem dX3_lost_24 : decode cX3_lost 24 = .ok (.istore 5, 2) := by decide +kernel
theorem dX3_lost_26 : decode cX3_lost 26 = .ok (.iload 5, 2) := by decide +kernel
theorem dX3_lost_28 : decode cX3_lost 28 = .ok (.ifCond .eq 12, 3) := by decide +kernel
theorem dX3_lost_31 : decode cX3_lost 31 = .ok (.aload_n 0, 1) := by decide +kernel
theorem dX3_lost_32 : decode cX3_lost 32 = .ok (.getfield 28, 3) := by decide +kernel
theorem dX3_lost_35 : decode cX3_lost 35 = .ok (.iload_n 2, 1) := by decide +kernel
theorem dX3_lost_36 : decode cX3_lost 36 = .ok (.iaload, 1) := by decide +kernel
theorem dX3_lost_37 : decode cX3_lost 37 = .ok (.goto 8, 3) := by decide +kernel
theorem dX3_lost_40 : decode cX3_lost 40 = .ok (.aload_n 0, 1) := by decide +kernel
theorem dX3_lost_41 : decode cX3_lost 41 = .ok (.iload_n 2, 1) := by decide +kernel
theorem dX3_lost_42 : decode cX3_lost 42 = .ok (.invokevirtual 94, 3) := by decide +kernel
theorem dX3_lost_45 : decode cX3_lost 45 = .ok (.iload_n 3, 1) := by decide +kernel
theorem dX3_lost_46 : decode cX3_lost 46 = .ok (.iload 4, 2) := by decide +kernel
theorem dX3_lost_48 : decode cX3_lost 48 = .ok (.invokestatic 48, 3) := by decide +kernel
theorem dX3_lost_51 : decode cX3_lost 51 = .ok (.ireturn, 1) := by decide +kernel
set_option maxRecDepth 20000 in
theorem ggX3_doubtful_X3_in : GoodIn wsX3_doubtful wsX3_in := goodIn_r _ [9] (by decide +kernel) (by decide +kernel)
set_option maxRecDepth 20000 in
theorem gX3_doubtful_X3_in : GoodIn wsX3_doubtful (va_wsS RX3 48 yX3_in wsX3_in) := goodIn_app (goodIn_of _ (by decide +kernel)) ggX3_doubtful_X3_in
set_option maxRecDepth 20000 in
theorem ggX3_doubtful_X3_lost : GoodIn wsX3_doubtful wsX3_lost := goodIn_r _ [13, 14, 15, 16, 17, 18, 8, 19, 5, 20, 6, 7, 9, 25, 26, 27, 28, 29, 30, 31, 32, 33, 34, 35, 36] (by decide +kernel) (by decide +kernel)
set_option maxRecDepth 20000 in
theorem gX3_doubtful_X3_lost : GoodIn wsX3_doubtful (wsV RX3 98 RX3 yX3_lost wsX3_lost) := goodIn_app (goodIn_of _ (by decide +kernel)) ggX3_doubtful_X3_lost
set_option maxRecDepth 20000 in
theorem ggX3_doubtful_X3_added : GoodIn wsX3_doubtful wsX3_added := goodIn_r _ [24, 20, 5, 25, 26, 27, 28, 29, 30, 31, 32, 33, 34, 35, 36] (by decide +kernel) (by decide +kernel)
set_option maxRecDepth 20000 in
theorem gX3_doubtful_X3_added : GoodIn wsX3_doubtful (wsV RX3 102 RX3 yX3_added wsX3_added) := goodIn_app (goodIn_of _ (by decide +kernel)) ggX3_doubtful_X3_added
theorem dX3_doubtful_0 : decode cX3_doubtful 0 = .ok (.aload_n 0, 1) := by decide +kernel
theorem dX3_doubtful_1 : decode cX3_doubtful 1 = .ok (.getfield 7, 3) := by decide +kernel
theorem dX3_doubtful_4 : decode cX3_doubtful 4 = .ok (.iload_n 1, 1) := by decide +kernel
theorem dX3_doubtful_5 : decode cX3_doubtful 5 = .ok (.iaload, 1) := by decide +kernel
theorem dX3_doubtful_6 : decode cX3_doubtful 6 = .ok (.istore 4, 2) := by decide +kernel
theorem dX3_doubtful_8 : decode cX3_doubtful 8 = .ok (.aload_n 0, 1) := by decide +kernel
theorem dX3_doubtful_9 : decode cX3_doubtful 9 = .ok (.getfield 16, 3) := by decide +kernel
theorem dX3_doubtful_12 : decode cX3_doubtful 12 = .ok (.iload_n 1, 1) := by decide +kernel
theorem dX3_doubtful_13 : decode cX3_doubtful 13 = .ok (.iaload, 1) := by decide +kernel
theorem dX3_doubtful_14 : decode cX3_doubtful 14 = .ok (.istore 5, 2) := by decide +kernel
theorem dX3_doubtful_16 : decode cX3_doubtful 16 = .ok (.aload_n 0, 1) := by decide +kernel
theorem dX3_doubtful_17 : decode cX3_doubtful 17 = .ok (.getfield 19, 3) := by decide +kernel
theorem dX3_doubtful_20 : decode cX3_doubtful 20 = .ok (.iload_n 1, 1) := by decide +kernel
theorem dX3_doubtful_21 : decode cX3_doubtful 21 = .ok (.iaload, 1) := by decide +kernel
theorem dX3_doubtful_22 : decode cX3_doubtful 22 = .ok (.istore 6, 2) := by decide +kernel
theorem dX3_doubtful_24 : decode cX3_doubtful 24 = .ok (.aload_n 0, 1) := by decide +kernel
theorem dX3_doubtful_25 : decode cX3_doubtful 25 = .ok (.getfield 13, 3) := by decide +kernel
theorem dX3_doubtful_28 : decode cX3_doubtful 28 = .ok (.iload_n 1, 1) := by decide +kernel
theorem dX3_doubtful_29 : decode cX3_doubtful 29 = .ok (.iaload, 1) := by decide +kernel
theorem dX3_doubtful_30 : decode cX3_doubtful 30 = .ok (.ifCond .ne 37, 3) := by decide +kernel
theorem dX3_doubtful_33 : decode cX3_doubtful 33 = .ok (.aload_n 0, 1) := by decide +kernel
theorem dX3_doubtful_34 : decode cX3_doubtful 34 = .ok (.getfield 25, 3) := by decide +kernel
theorem dX3_doubtful_37 : decode cX3_doubtful 37 = .ok (.iload 5, 2) := by decide +kernel
theorem dX3_doubtful_39 : decode cX3_doubtful 39 = .ok (.iaload, 1) := by decide +kernel
theorem dX3_doubtful_40 : decode cX3_doubtful 40 = .ok (.iload_n 2, 1) := by decide +kernel
theorem dX3_doubtful_41 : decode cX3_doubtful 41 = .ok (.iload_n 3, 1) := by decide +kernel
theorem dX3_doubtful_42 : decode cX3_doubtful 42 = .ok (.invokestatic 48, 3) := by decide +kernel
theorem dX3_doubtful_45 : decode cX3_doubtful 45 = .ok (.ifCond .eq 20, 3) := by decide +kernel
theorem dX3_doubtful_48 : decode cX3_doubtful 48 = .ok (.aload_n 0, 1) := by decide +kernel
theorem dX3_doubtful_49 : decode cX3_doubtful 49 = .ok (.iload 4, 2) := by decide +kernel
theorem dX3_doubtful_51 : decode cX3_doubtful 51 = .ok (.iload 5, 2) := by decide +kernel
theorem dX3_doubtful_53 : decode cX3_doubtful 53 = .ok (.iload_n 2, 1) := by decide +kernel
theorem dX3_doubtful_54 : decode cX3_doubtful 54 = .ok (.iload_n 3, 1) := by decide +kernel
theorem dX3_doubtful_55 : decode cX3_doubtful 55 = .ok (.invokevirtual 98, 3) := by decide +kernel
theorem dX3_doubtful_58 : decode cX3_doubtful 58 = .ok (.ifCond .eq 7, 3) := by decide +kernel
theorem dX3_doubtful_61 : decode cX3_doubtful 61 = .ok (.iconst 1, 1) := by decide +kernel
theorem dX3_doubtful_62 : decode cX3_doubtful 62 = .ok (.goto 4, 3) := by decide +kernel
theorem dX3_doubtful_65 : decode cX3_doubtful 65 = .ok (.iconst 0, 1) := by decide +kernel
theorem dX3_doubtful_66 : decode cX3_doubtful 66 = .ok (.ireturn, 1) := by decide +kernel
theorem dX3_doubtful_67 : decode cX3_doubtful 67 = .ok (.aload_n 0, 1) := by decide +kernel
theorem dX3_doubtful_68 : decode cX3_doubtful 68 = .ok (.getfield 13, 3) := by decide +kernel
theorem dX3_doubtful_71 : decode cX3_doubtful 71 = .ok (.iload_n 1, 1) := by decide +kernel
theorem dX3_doubtful_72 : decode cX3_doubtful 72 = .ok (.iaload, 1) := by decide +kernel
theorem dX3_doubtful_73 : decode cX3_doubtful 73 = .ok (.iconst 1, 1) := by decide +kernel
theorem dX3_doubtful_74 : decode cX3_doubtful 74 = .ok (.if_icmp .ne 37, 3) := by decide +kernel
theorem dX3_doubtful_77 : decode cX3_doubtful 77 = .ok (.aload_n 0, 1) := by decide +kernel
theorem dX3_doubtful_78 : decode cX3_doubtful 78 = .ok (.getfield 25, 3) := by decide +kernel
theorem dX3_doubtful_81 : decode cX3_doubtful 81 = .ok (.iload 5, 2) := by decide +kernel
theorem dX3_doubtful_83 : decode cX3_doubtful 83 = .ok (.iaload, 1) := by decide +kernel
theorem dX3_doubtful_84 : decode cX3_doubtful 84 = .ok (.iload_n 3, 1) := by decide +kernel
theorem dX3_doubtful_85 : decode cX3_doubtful 85 = .ok (.iload_n 2, 1) := by decide +kernel
theorem dX3_doubtful_86 : decode cX3_doubtful 86 = .ok (.invokestatic 48, 3) := by decide +kernel
theorem dX3_doubtful_89 : decode cX3_doubtful 89 = .ok (.ifCond .eq 20, 3) := by decide +kernel
theorem dX3_doubtful_92 : decode cX3_doubtful 92 = .ok (.aload_n 0, 1) := by decide +kernel
theorem dX3_doubtful_93 : decode cX3_doubtful 93 = .ok (.iload 4, 2) := by decide +kernel
theorem dX3_doubtful_95 : decode cX3_doubtful 95 = .ok (.iload 5, 2) := by decide +kernel
theorem dX3_doubtful_97 : decode cX3_doubtful 97 = .ok (.iload_n 3, 1) := by decide +kernel
theorem dX3_doubtful_98 : decode cX3_doubtful 98 = .ok (.iload_n 2, 1) := by decide +kernel
theorem dX3_doubtful_99 : decode cX3_doubtful 99 = .ok (.invokevirtual 98, 3) := by decide +kernel
theorem dX3_doubtful_102 : decode cX3_doubtful 102 = .ok (.ifCond .eq 7, 3) := by decide +kernel
theorem dX3_doubtful_105 : decode cX3_doubtful 105 = .ok (.iconst 1, 1) := by decide +kernel
theorem dX3_doubtful_106 : decode cX3_doubtful 106 = .ok (.goto 4, 3) := by decide +kernel
theorem dX3_doubtful_109 : decode cX3_doubtful 109 = .ok (.iconst 0, 1) := by decide +kernel
theorem dX3_doubtful_110 : decode cX3_doubtful 110 = .ok (.ireturn, 1) := by decide +kernel
theorem dX3_doubtful_111 : decode cX3_doubtful 111 = .ok (.aload_n 0, 1) := by decide +kernel
theorem dX3_doubtful_112 : decode cX3_doubtful 112 = .ok (.getfield 13, 3) := by decide +kernel
theorem dX3_doubtful_115 : decode cX3_doubtful 115 = .ok (.iload_n 1, 1) := by decide +kernel
theorem dX3_doubtful_116 : decode cX3_doubtful 116 = .ok (.iaload, 1) := by decide +kernel
theorem dX3_doubtful_117 : decode cX3_doubtful 117 = .ok (.iconst 2, 1) := by decide +kernel
theorem dX3_doubtful_118 : decode cX3_doubtful 118 = .ok (.if_icmp .ne 108, 3) := by decide +kernel
theorem dX3_doubtful_121 : decode cX3_doubtful 121 = .ok (.iconst 0, 1) := by decide +kernel
theorem dX3_doubtful_122 : decode cX3_doubtful 122 = .ok (.istore 7, 2) := by decide +kernel
theorem dX3_doubtful_124 : decode cX3_doubtful 124 = .ok (.iconst 0, 1) := by decide +kernel
theorem dX3_doubtful_125 : decode cX3_doubtful 125 = .ok (.istore 8, 2) := by decide +kernel
theorem dX3_doubtful_127 : decode cX3_doubtful 127 = .ok (.iload 8, 2) := by decide +kernel
theorem dX3_doubtful_129 : decode cX3_doubtful 129 = .ok (.iconst 5, 1) := by decide +kernel
theorem dX3_doubtful_130 : decode cX3_doubtful 130 = .ok (.if_icmp .ge 93, 3) := by decide +kernel
theorem dX3_doubtful_133 : decode cX3_doubtful 133 = .ok (.aload_n 0, 1) := by decide +kernel
theorem dX3_doubtful_134 : decode cX3_doubtful 134 = .ok (.getfield 25, 3) := by decide +kernel
theorem dX3_doubtful_137 : decode cX3_doubtful 137 = .ok (.iload 5, 2) := by decide +kernel
theorem dX3_doubtful_139 : decode cX3_doubtful 139 = .ok (.iaload, 1) := by decide +kernel
theorem dX3_doubtful_140 : decode cX3_doubtful 140 = .ok (.iload_n 2, 1) := by decide +kernel
theorem dX3_doubtful_141 : decode cX3_doubtful 141 = .ok (.iload 8, 2) := by decide +kernel
theorem dX3_doubtful_143 : decode cX3_doubtful 143 = .ok (.invokestatic 48, 3) := by decide +kernel
theorem dX3_doubtful_146 : decode cX3_doubtful 146 = .ok (.ifCond .eq 23, 3) := by decide +kernel
theorem dX3_doubtful_149 : decode cX3_doubtful 149 = .ok (.aload_n 0, 1) := by decide +kernel
theorem dX3_doubtful_150 : decode cX3_doubtful 150 = .ok (.getfield 25, 3) := by decide +kernel
theorem dX3_doubtful_153 : decode cX3_doubtful 153 = .ok (.iload 6, 2) := by decide +kernel
theorem dX3_doubtful_155 : decode cX3_doubtful 155 = .ok (.iaload, 1) := by decide +kernel
theorem dX3_doubtful_156 : decode cX3_doubtful 156 = .ok (.iload 8, 2) := by decide +kernel
theorem dX3_doubtful_158 : decode cX3_doubtful 158 = .ok (.iload_n 3, 1) := by decide +kernel
theorem dX3_doubtful_159 : decode cX3_doubtful 159 = .ok (.invokestatic 48, 3) := by decide +kernel
theorem dX3_doubtful_162 : decode cX3_doubtful 162 = .ok (.ifCond .eq 7, 3) := by decide +kernel
theorem dX3_doubtful_165 : decode cX3_doubtful 165 = .ok (.iconst 1, 1) := by decide +kernel
theorem dX3_doubtful_166 : decode cX3_doubtful 166 = .ok (.goto 4, 3) := by decide +kernel
theorem dX3_doubtful_169 : decode cX3_doubtful 169 = .ok (.iconst 0, 1) := by decide +kernel
theorem dX3_doubtful_170 : decode cX3_doubtful 170 = .ok (.istore 9, 2) := by decide +kernel
theorem dX3_doubtful_172 : decode cX3_doubtful 172 = .ok (.iload 7, 2) := by decide +kernel
theorem dX3_doubtful_174 : decode cX3_doubtful 174 = .ok (.ifCond .ne 36, 3) := by decide +kernel
theorem dX3_doubtful_177 : decode cX3_doubtful 177 = .ok (.iload 9, 2) := by decide +kernel
theorem dX3_doubtful_179 : decode cX3_doubtful 179 = .ok (.ifCond .eq 35, 3) := by decide +kernel
theorem dX3_doubtful_182 : decode cX3_doubtful 182 = .ok (.aload_n 0, 1) := by decide +kernel
theorem dX3_doubtful_183 : decode cX3_doubtful 183 = .ok (.iload 4, 2) := by decide +kernel
theorem dX3_doubtful_185 : decode cX3_doubtful 185 = .ok (.iload 5, 2) := by decide +kernel
theorem dX3_doubtful_187 : decode cX3_doubtful 187 = .ok (.iload_n 2, 1) := by decide +kernel
theorem dX3_doubtful_188 : decode cX3_doubtful 188 = .ok (.iload 8, 2) := by decide +kernel
theorem dX3_doubtful_190 : decode cX3_doubtful 190 = .ok (.invokevirtual 98, 3) := by decide +kernel
theorem dX3_doubtful_193 : decode cX3_doubtful 193 = .ok (.ifCond .ne 17, 3) := by decide +kernel
theorem dX3_doubtful_196 : decode cX3_doubtful 196 = .ok (.aload_n 0, 1) := by decide +kernel
theorem dX3_doubtful_197 : decode cX3_doubtful 197 = .ok (.iload 4, 2) := by decide +kernel
theorem dX3_doubtful_199 : decode cX3_doubtful 199 = .ok (.iload 6, 2) := by decide +kernel
theorem dX3_doubtful_201 : decode cX3_doubtful 201 = .ok (.iload 8, 2) := by decide +kernel
theorem dX3_doubtful_203 : decode cX3_doubtful 203 = .ok (.iload_n 3, 1) := by decide +kernel
theorem dX3_doubtful_204 : decode cX3_doubtful 204 = .ok (.invokevirtual 98, 3) := by decide +kernel
theorem dX3_doubtful_207 : decode cX3_doubtful 207 = .ok (.ifCond .eq 7, 3) := by decide +kernel
theorem dX3_doubtful_210 : decode cX3_doubtful 210 = .ok (.iconst 1, 1) := by decide +kernel
theorem dX3_doubtful_211 : decode cX3_doubtful 211 = .ok (.goto 4, 3) := by decide +kernel
theorem dX3_doubtful_214 : decode cX3_doubtful 214 = .ok (.iconst 0, 1) := by decide +kernel
theorem dX3_doubtful_215 : decode cX3_doubtful 215 = .ok (.istore 7, 2) := by decide +kernel
theorem dX3_doubtful_217 : decode cX3_doubtful 217 = .ok (.iinc 8 1, 3) := by decide +kernel
theorem dX3_doubtful_220 : decode cX3_doubtful 220 = .ok (.goto (-93), 3) := by decide +kernel
theorem dX3_doubtful_223 : decode cX3_doubtful 223 = .ok (.iload 7, 2) := by decide +kernel
theorem dX3_doubtful_225 : decode cX3_doubtful 225 = .ok (.ireturn, 1) := by decide +kernel
theorem dX3_doubtful_226 : decode cX3_doubtful 226 = .ok (.aload_n 0, 1) := by decide +kernel
theorem dX3_doubtful_227 : decode cX3_doubtful 227 = .ok (.getfield 13, 3) := by decide +kernel
theorem dX3_doubtful_230 : decode cX3_doubtful 230 = .ok (.iload_n 1, 1) := by decide +kernel
theorem dX3_doubtful_231 : decode cX3_doubtful 231 = .ok (.iaload, 1) := by decide +kernel
theorem dX3_doubtful_232 : decode cX3_doubtful 232 = .ok (.iconst 3, 1) := by decide +kernel
theorem dX3_doubtful_233 : decode cX3_doubtful 233 = .ok (.if_icmp .ne 65, 3) := by decide +kernel
theorem dX3_doubtful_236 : decode cX3_doubtful 236 = .ok (.aload_n 0, 1) := by decide +kernel
theorem dX3_doubtful_237 : decode cX3_doubtful 237 = .ok (.getfield 25, 3) := by decide +kernel
theorem dX3_doubtful_240 : decode cX3_doubtful 240 = .ok (.iload 5, 2) := by decide +kernel
theorem dX3_doubtful_242 : decode cX3_doubtful 242 = .ok (.iaload, 1) := by decide +kernel
theorem dX3_doubtful_243 : decode cX3_doubtful 243 = .ok (.iload_n 2, 1) := by decide +kernel
theorem dX3_doubtful_244 : decode cX3_doubtful 244 = .ok (.iload_n 3, 1) := by decide +kernel
theorem dX3_doubtful_245 : decode cX3_doubtful 245 = .ok (.invokestatic 48, 3) := by decide +kernel
theorem dX3_doubtful_248 : decode cX3_doubtful 248 = .ok (.ifCond .eq 48, 3) := by decide +kernel
theorem dX3_doubtful_251 : decode cX3_doubtful 251 = .ok (.aload_n 0, 1) := by decide +kernel
theorem dX3_doubtful_252 : decode cX3_doubtful 252 = .ok (.getfield 25, 3) := by decide +kernel
theorem dX3_doubtful_255 : decode cX3_doubtful 255 = .ok (.iload 6, 2) := by decide +kernel
theorem dX3_doubtful_257 : decode cX3_doubtful 257 = .ok (.iaload, 1) := by decide +kernel
theorem dX3_doubtful_258 : decode cX3_doubtful 258 = .ok (.iload_n 2, 1) := by decide +kernel
theorem dX3_doubtful_259 : decode cX3_doubtful 259 = .ok (.iload_n 3, 1) := by decide +kernel
theorem dX3_doubtful_260 : decode cX3_doubtful 260 = .ok (.invokestatic 48, 3) := by decide +kernel
theorem dX3_doubtful_263 : decode cX3_doubtful 263 = .ok (.ifCond .eq 33, 3) := by decide +kernel
theorem dX3_doubtful_266 : decode cX3_doubtful 266 = .ok (.aload_n 0, 1) := by decide +kernel
theorem dX3_doubtful_267 : decode cX3_doubtful 267 = .ok (.iload 4, 2) := by decide +kernel
theorem dX3_doubtful_269 : decode cX3_doubtful 269 = .ok (.iload 5, 2) := by decide +kernel
theorem dX3_doubtful_271 : decode cX3_doubtful 271 = .ok (.iload_n 2, 1) := by decide +kernel
theorem dX3_doubtful_272 : decode cX3_doubtful 272 = .ok (.iload_n 3, 1) := by decide +kernel
theorem dX3_doubtful_273 : decode cX3_doubtful 273 = .ok (.invokevirtual 98, 3) := by decide +kernel
theorem dX3_doubtful_276 : decode cX3_doubtful 276 = .ok (.ifCond .ne 16, 3) := by decide +kernel
theorem dX3_doubtful_279 : decode cX3_doubtful 279 = .ok (.aload_n 0, 1) := by decide +kernel
theorem dX3_doubtful_280 : decode cX3_doubtful 280 = .ok (.iload 4, 2) := by decide +kernel
theorem dX3_doubtful_282 : decode cX3_doubtful 282 = .ok (.iload 6, 2) := by decide +kernel
theorem dX3_doubtful_284 : decode cX3_doubtful 284 = .ok (.iload_n 2, 1) := by decide +kernel
theorem dX3_doubtful_285 : decode cX3_doubtful 285 = .ok (.iload_n 3, 1) := by decide +kernel
theorem dX3_doubtful_286 : decode cX3_doubtful 286 = .ok (.invokevirtual 98, 3) := by decide +kernel
theorem dX3_doubtful_289 : decode cX3_doubtful 289 = .ok (.ifCond .eq 7, 3) := by decide +kernel
theorem dX3_doubtful_292 : decode cX3_doubtful 292 = .ok (.iconst 1, 1) := by decide +kernel
theorem dX3_doubtful_293 : decode cX3_doubtful 293 = .ok (.goto 4, 3) := by decide +kernel
theorem dX3_doubtful_296 : decode cX3_doubtful 296 = .ok (.iconst 0, 1) := by decide +kernel
theorem dX3_doubtful_297 : decode cX3_doubtful 297 = .ok (.ireturn, 1) := by decide +kernel
theorem dX3_doubtful_298 : decode cX3_doubtful 298 = .ok (.aload_n 0, 1) := by decide +kernel
theorem dX3_doubtful_299 : decode cX3_doubtful 299 = .ok (.getfield 25, 3) := by decide +kernel
theorem dX3_doubtful_302 : decode cX3_doubtful 302 = .ok (.iload 5, 2) := by decide +kernel
theorem dX3_doubtful_304 : decode cX3_doubtful 304 = .ok (.iaload, 1) := by decide +kernel
theorem dX3_doubtful_305 : decode cX3_doubtful 305 = .ok (.iload_n 2, 1) := by decide +kernel
theorem dX3_doubtful_306 : decode cX3_doubtful 306 = .ok (.iload_n 3, 1) := by decide +kernel
theorem dX3_doubtful_307 : decode cX3_doubtful 307 = .ok (.invokestatic 48, 3) := by decide +kernel
theorem dX3_doubtful_310 : decode cX3_doubtful 310 = .ok (.ifCond .eq 49, 3) := by decide +kernel
theorem dX3_doubtful_313 : decode cX3_doubtful 313 = .ok (.aload_n 0, 1) := by decide +kernel
theorem dX3_doubtful_314 : decode cX3_doubtful 314 = .ok (.getfield 25, 3) := by decide +kernel
theorem dX3_doubtful_317 : decode cX3_doubtful 317 = .ok (.iload 6, 2) := by decide +kernel
theorem dX3_doubtful_319 : decode cX3_doubtful 319 = .ok (.iaload, 1) := by decide +kernel
theorem dX3_doubtful_320 : decode cX3_doubtful 320 = .ok (.iload_n 2, 1) := by decide +kernel
theorem dX3_doubtful_321 : decode cX3_doubtful 321 = .ok (.iload_n 3, 1) := by decide +kernel
theorem dX3_doubtful_322 : decode cX3_doubtful 322 = .ok (.invokestatic 48, 3) := by decide +kernel
theorem dX3_doubtful_325 : decode cX3_doubtful 325 = .ok (.ifCond .ne 34, 3) := by decide +kernel
theorem dX3_doubtful_328 : decode cX3_doubtful 328 = .ok (.aload_n 0, 1) := by decide +kernel
theorem dX3_doubtful_329 : decode cX3_doubtful 329 = .ok (.iload 4, 2) := by decide +kernel
theorem dX3_doubtful_331 : decode cX3_doubtful 331 = .ok (.iload 5, 2) := by decide +kernel
theorem dX3_doubtful_333 : decode cX3_doubtful 333 = .ok (.iload_n 2, 1) := by decide +kernel
theorem dX3_doubtful_334 : decode cX3_doubtful 334 = .ok (.iload_n 3, 1) := by decide +kernel
theorem dX3_doubtful_335 : decode cX3_doubtful 335 = .ok (.invokevirtual 98, 3) := by decide +kernel
theorem dX3_doubtful_338 : decode cX3_doubtful 338 = .ok (.ifCond .ne 17, 3) := by decide +kernel
theorem dX3_doubtful_341 : decode cX3_doubtful 341 = .ok (.aload_n 0, 1) := by decide +kernel
theorem dX3_doubtful_342 : decode cX3_doubtful 342 = .ok (.iload 6, 2) := by decide +kernel
theorem dX3_doubtful_344 : decode cX3_doubtful 344 = .ok (.invokevirtual 102, 3) := by decide +kernel
theorem dX3_doubtful_347 : decode cX3_doubtful 347 = .ok (.iload_n 2, 1) := by decide +kernel
theorem dX3_doubtful_348 : decode cX3_doubtful 348 = .ok (.iload_n 3, 1) := by decide +kernel
theorem dX3_doubtful_349 : decode cX3_doubtful 349 = .ok (.invokestatic 48, 3) := by decide +kernel
theorem dX3_doubtful_352 : decode cX3_doubtful 352 = .ok (.ifCond .eq 7, 3) := by decide +kernel
theorem dX3_doubtful_355 : decode cX3_doubtful 355 = .ok (.iconst 1, 1) := by decide +kernel
theorem dX3_doubtful_356 : decode cX3_doubtful 356 = .ok (.goto 4, 3) := by decide +kernel
theorem dX3_doubtful_359 : decode cX3_doubtful 359 = .ok (.iconst 0, 1) := by decide +kernel
theorem dX3_doubtful_360 : decode cX3_doubtful 360 = .ok (.ireturn, 1) := by decide +kernel
set_option maxRecDepth 20000 in
theorem ggX3_suspectMore_X3_in : GoodIn wsX3_suspectMore wsX3_in := goodIn_r _ [8] (by decide +kernel) (by decide +kernel)
set_option maxRecDepth 20000 in
theorem gX3_suspectMore_X3_in : GoodIn wsX3_suspectMore (va_wsS RX3 48 yX3_in wsX3_in) := goodIn_app (goodIn_of _ (by decide +kernel)) ggX3_suspectMore_X3_in
set_option maxRecDepth 20000 in
theorem ggX3_suspectMore_X3_doubtful : GoodIn wsX3_suspectMore wsX3_doubtful := goodIn_r _ [12, 2, 13, 14, 15, 16, 5, 6, 7, 8, 17, 18, 19, 20, 3, 4, 21, 22, 23, 24, 25, 26, 27, 28, 29, 33, 34, 35, 36, 37, 38, 39, 40, 41, 42, 43, 44] (by decide +kernel) (by decide +kernel)
set_option maxRecDepth 20000 in
theorem gX3_suspectMore_X3_doubtful : GoodIn wsX3_suspectMore (wsV RX3 105 RX3 yX3_doubtful wsX3_doubtful) := goodIn_app (goodIn_of _ (by decide +kernel)) ggX3_suspectMore_X3_doubtful
set_option maxRecDepth 20000 in
theorem ggX3_suspectMore_X3_bit : GoodIn wsX3_suspectMore wsX3_bit := goodIn_r _ [32] (by decide +kernel) (by decide +kernel)
set_option maxRecDepth 20000 in
theorem gX3_suspectMore_X3_bit : GoodIn wsX3_suspectMore (va_wsS RX3 59 yX3_bit wsX3_bit) := goodIn_app (goodIn_of _ (by decide +kernel)) ggX3_suspectMore_X3_bit
theorem dX3_suspectMore_0 : decode cX3_suspectMore 0 = .ok (.iconst 0, 1) := by decide +kernel
theorem dX3_suspectMore_1 : decode cX3_suspectMore 1 = .ok (.istore_n 1, 1) := by decide +kernel
theorem dX3_suspectMore_2 : decode cX3_suspectMore 2 = .ok (.iconst 0, 1) := by decide +kernel
theorem dX3_suspectMore_3 : decode cX3_suspectMore 3 = .ok (.istore_n 2, 1) := by decide +kernel
theorem dX3_suspectMore_4 : decode cX3_suspectMore 4 = .ok (.iload_n 2, 1) := by decide +kernel
theorem dX3_suspectMore_5 : decode cX3_suspectMore 5 = .ok (.aload_n 0, 1) := by decide +kernel
theorem dX3_suspectMore_6 : decode cX3_suspectMore 6 = .ok (.getfield 44, 3) := by decide +kernel
theorem dX3_suspectMore_9 : decode cX3_suspectMore 9 = .ok (.if_icmp .ge 108, 3) := by decide +kernel
theorem dX3_suspectMore_12 : decode cX3_suspectMore 12 = .ok (.aload_n 0, 1) := by decide +kernel
theorem dX3_suspectMore_13 : decode cX3_suspectMore 13 = .ok (.getfield 7, 3) := by decide +kernel
theorem dX3_suspectMore_16 : decode cX3_suspectMore 16 = .ok (.iload_n 2, 1) := by decide +kernel
theorem dX3_suspectMore_17 : decode cX3_suspectMore 17 = .ok (.iaload, 1) := by decide +kernel
theorem dX3_suspectMore_18 : decode cX3_suspectMore 18 = .ok (.istore_n 3, 1) := by decide +kernel
theorem dX3_suspectMore_19 : decode cX3_suspectMore 19 = .ok (.iconst 0, 1) := by decide +kernel
theorem dX3_suspectMore_20 : decode cX3_suspectMore 20 = .ok (.istore 4, 2) := by decide +kernel
theorem dX3_suspectMore_22 : decode cX3_suspectMore 22 = .ok (.iload 4, 2) := by decide +kernel
theorem dX3_suspectMore_24 : decode cX3_suspectMore 24 = .ok (.iconst 5, 1) := by decide +kernel
theorem dX3_suspectMore_25 : decode cX3_suspectMore 25 = .ok (.if_icmp .ge 86, 3) := by decide +kernel
theorem dX3_suspectMore_28 : decode cX3_suspectMore 28 = .ok (.aload_n 0, 1) := by decide +kernel
theorem dX3_suspectMore_29 : decode cX3_suspectMore 29 = .ok (.getfield 37, 3) := by decide +kernel
theorem dX3_suspectMore_32 : decode cX3_suspectMore 32 = .ok (.bipush 8, 2) := by decide +kernel
theorem dX3_suspectMore_34 : decode cX3_suspectMore 34 = .ok (.iload_n 3, 1) := by decide +kernel
theorem dX3_suspectMore_35 : decode cX3_suspectMore 35 = .ok (.imul, 1) := by decide +kernel
theorem dX3_suspectMore_36 : decode cX3_suspectMore 36 = .ok (.baload, 1) := by decide +kernel
theorem dX3_suspectMore_37 : decode cX3_suspectMore 37 = .ok (.ifCond .eq 74, 3) := by decide +kernel
theorem dX3_suspectMore_40 : decode cX3_suspectMore 40 = .ok (.iconst 0, 1) := by decide +kernel
theorem dX3_suspectMore_41 : decode cX3_suspectMore 41 = .ok (.istore 5, 2) := by decide +kernel
theorem dX3_suspectMore_43 : decode cX3_suspectMore 43 = .ok (.iload 5, 2) := by decide +kernel
theorem dX3_suspectMore_45 : decode cX3_suspectMore 45 = .ok (.iconst 5, 1) := by decide +kernel
theorem dX3_suspectMore_46 : decode cX3_suspectMore 46 = .ok (.if_icmp .ge 59, 3) := by decide +kernel
theorem dX3_suspectMore_49 : decode cX3_suspectMore 49 = .ok (.aload_n 0, 1) := by decide +kernel
theorem dX3_suspectMore_50 : decode cX3_suspectMore 50 = .ok (.getfield 28, 3) := by decide +kernel
theorem dX3_suspectMore_53 : decode cX3_suspectMore 53 = .ok (.iload_n 3, 1) := by decide +kernel
theorem dX3_suspectMore_54 : decode cX3_suspectMore 54 = .ok (.iaload, 1) := by decide +kernel
theorem dX3_suspectMore_55 : decode cX3_suspectMore 55 = .ok (.iload 4, 2) := by decide +kernel
theorem dX3_suspectMore_57 : decode cX3_suspectMore 57 = .ok (.iload 5, 2) := by decide +kernel
theorem dX3_suspectMore_59 : decode cX3_suspectMore 59 = .ok (.invokestatic 48, 3) := by decide +kernel
theorem dX3_suspectMore_62 : decode cX3_suspectMore 62 = .ok (.ifCond .ne 37, 3) := by decide +kernel
theorem dX3_suspectMore_65 : decode cX3_suspectMore 65 = .ok (.aload_n 0, 1) := by decide +kernel
theorem dX3_suspectMore_66 : decode cX3_suspectMore 66 = .ok (.iload_n 2, 1) := by decide +kernel
theorem dX3_suspectMore_67 : decode cX3_suspectMore 67 = .ok (.iload 4, 2) := by decide +kernel
theorem dX3_suspectMore_69 : decode cX3_suspectMore 69 = .ok (.iload 5, 2) := by decide +kernel
theorem dX3_suspectMore_71 : decode cX3_suspectMore 71 = .ok (.invokevirtual 105, 3) := by decide +kernel
theorem dX3_suspectMore_74 : decode cX3_suspectMore 74 = .ok (.ifCond .eq 25, 3) := by decide +kernel
theorem dX3_suspectMore_77 : decode cX3_suspectMore 77 = .ok (.aload_n 0, 1) := by decide +kernel
theorem dX3_suspectMore_78 : decode cX3_suspectMore 78 = .ok (.getfield 28, 3) := by decide +kernel
theorem dX3_suspectMore_81 : decode cX3_suspectMore 81 = .ok (.iload_n 3, 1) := by decide +kernel
theorem dX3_suspectMore_82 : decode cX3_suspectMore 82 = .ok (.aload_n 0, 1) := by decide +kernel
theorem dX3_suspectMore_83 : decode cX3_suspectMore 83 = .ok (.getfield 28, 3) := by decide +kernel
theorem dX3_suspectMore_86 : decode cX3_suspectMore 86 = .ok (.iload_n 3, 1) := by decide +kernel
theorem dX3_suspectMore_87 : decode cX3_suspectMore 87 = .ok (.iaload, 1) := by decide +kernel
theorem dX3_suspectMore_88 : decode cX3_suspectMore 88 = .ok (.iload 4, 2) := by decide +kernel
theorem dX3_suspectMore_90 : decode cX3_suspectMore 90 = .ok (.iload 5, 2) := by decide +kernel
theorem dX3_suspectMore_92 : decode cX3_suspectMore 92 = .ok (.invokestatic 59, 3) := by decide +kernel
theorem dX3_suspectMore_95 : decode cX3_suspectMore 95 = .ok (.ior, 1) := by decide +kernel
theorem dX3_suspectMore_96 : decode cX3_suspectMore 96 = .ok (.iastore, 1) := by decide +kernel
theorem dX3_suspectMore_97 : decode cX3_suspectMore 97 = .ok (.iconst 1, 1) := by decide +kernel
theorem dX3_suspectMore_98 : decode cX3_suspectMore 98 = .ok (.istore_n 1, 1) := by decide +kernel
theorem dX3_suspectMore_99 : decode cX3_suspectMore 99 = .ok (.iinc 5 1, 3) := by decide +kernel
theorem dX3_suspectMore_102 : decode cX3_suspectMore 102 = .ok (.goto (-59), 3) := by decide +kernel
theorem dX3_suspectMore_105 : decode cX3_suspectMore 105 = .ok (.iinc 4 1, 3) := by decide +kernel
theorem dX3_suspectMore_108 : decode cX3_suspectMore 108 = .ok (.goto (-86), 3) := by decide +kernel
theorem dX3_suspectMore_111 : decode cX3_suspectMore 111 = .ok (.iinc 2 1, 3) := by decide +kernel
theorem dX3_suspectMore_114 : decode cX3_suspectMore 114 = .ok (.goto (-110), 3) := by decide +kernel
theorem dX3_suspectMore_117 : decode cX3_suspectMore 117 = .ok (.iload_n 1, 1) := by decide +kernel
theorem dX3_suspectMore_118 : decode cX3_suspectMore 118 = .ok (.ireturn, 1) := by decide +kernel
set_option maxRecDepth 20000 in
theorem ggX3_commit_X3_makeAll : GoodIn wsX3_commit wsX3_makeAll := goodIn_r _ [10, 2, 11, 12, 13, 14, 9, 15, 16, 17, 18, 19, 20, 21, 22, 23, 24, 25, 26, 27, 28, 29, 30, 31, 32, 33, 34, 35, 36, 37, 38, 39, 40, 41, 42, 43, 44, 45, 46, 47, 71, 72, 73, 74, 75, 76, 77, 78, 79, 80, 81, 82] (by decide +kernel) (by decide +kernel)
set_option maxRecDepth 20000 in
theorem gX3_commit_X3_makeAll : GoodIn wsX3_commit (wsV RX3 78 RX3 yX3_makeAll wsX3_makeAll) := goodIn_app (goodIn_of _ (by decide +kernel)) ggX3_commit_X3_makeAll
set_option maxRecDepth 20000 in
theorem ggX3_commit_X3_suspectMore : GoodIn wsX3_commit wsX3_suspectMore := goodIn_r _ [51, 33, 34, 16, 3, 42, 43, 9, 44, 52, 53, 54, 55, 39, 40, 41, 1, 56, 57, 58, 59, 60, 61, 62, 63, 2, 64, 65, 66, 67, 45, 46, 47, 71, 72, 73, 74, 75, 76, 77, 78, 79, 80, 81, 82] (by decide +kernel) (by decide +kernel)
set_option maxRecDepth 20000 in
theorem gX3_commit_X3_suspectMore : GoodIn wsX3_commit (wsV RX3 108 RX3 yX3_suspectMore wsX3_suspectMore) := goodIn_app (goodIn_of _ (by decide +kernel)) ggX3_commit_X3_suspectMore
set_option maxRecDepth 20000 in
theorem ggX3_commit_X3_taken : GoodIn wsX3_commit wsX3_taken := goodIn_r _ [63, 1, 2, 71, 72, 73, 74, 75, 76, 77, 78, 79, 80, 81, 82] (by decide +kernel) (by decide +kernel)
set_option maxRecDepth 20000 in
theorem gX3_commit_X3_taken : GoodIn wsX3_commit (wsV RX3 94 RX3 yX3_taken wsX3_taken) := goodIn_app (goodIn_of _ (by decide +kernel)) ggX3_commit_X3_taken
set_option maxRecDepth 20000 in
theorem ggX3_commit_X3_ones : GoodIn wsX3_commit wsX3_ones := goodIn_r _ [70] (by decide +kernel) (by decide +kernel)
set_option maxRecDepth 20000 in
theorem gX3_commit_X3_ones : GoodIn wsX3_commit (va_wsS RX3 111 yX3_ones wsX3_ones) := goodIn_app (goodIn_of _ (by decide +kernel)) ggX3_commit_X3_ones
set_option maxRecDepth 20000 in
theorem ggX3_commit_X3_added : GoodIn wsX3_commit wsX3_added := goodIn_r _ [67, 2, 1, 71, 72, 73, 74, 75, 76, 77, 78, 79, 80, 81, 82] (by decide +kernel) (by decide +kernel)
set_option maxRecDepth 20000 in
theorem gX3_commit_X3_added : GoodIn wsX3_commit (wsV RX3 102 RX3 yX3_added wsX3_added) := goodIn_app (goodIn_of _ (by decide +kernel)) ggX3_commit_X3_added
theorem dX3_commit_0 : decode cX3_commit 0 = .ok (.iconst 0, 1) := by decide +kernel
theorem dX3_commit_1 : decode cX3_commit 1 = .ok (.istore_n 1, 1) := by decide +kernel
theorem dX3_commit_2 : decode cX3_commit 2 = .ok (.iload_n 1, 1) := by decide +kernel
theorem dX3_commit_3 : decode cX3_commit 3 = .ok (.bipush 7, 2) := by decide +kernel
theorem dX3_commit_5 : decode cX3_commit 5 = .ok (.if_icmp .ge 28, 3) := by decide +kernel
theorem dX3_commit_8 : decode cX3_commit 8 = .ok (.aload_n 0, 1) := by decide +kernel
theorem dX3_commit_9 : decode cX3_commit 9 = .ok (.getfield 25, 3) := by decide +kernel
theorem dX3_commit_12 : decode cX3_commit 12 = .ok (.iload_n 1, 1) := by decide +kernel
theorem dX3_commit_13 : decode cX3_commit 13 = .ok (.aload_n 0, 1) := by decide +kernel
theorem dX3_commit_14 : decode cX3_commit 14 = .ok (.getfield 22, 3) := by decide +kernel
theorem dX3_commit_17 : decode cX3_commit 17 = .ok (.iload_n 1, 1) := by decide +kernel
theorem dX3_commit_18 : decode cX3_commit 18 = .ok (.iaload, 1) := by decide +kernel
theorem dX3_commit_19 : decode cX3_commit 19 = .ok (.iastore, 1) := by decide +kernel
theorem dX3_commit_20 : decode cX3_commit 20 = .ok (.aload_n 0, 1) := by decide +kernel
theorem dX3_commit_21 : decode cX3_commit 21 = .ok (.getfield 28, 3) := by decide +kernel
theorem dX3_commit_24 : decode cX3_commit 24 = .ok (.iload_n 1, 1) := by decide +kernel
theorem dX3_commit_25 : decode cX3_commit 25 = .ok (.iconst 0, 1) := by decide +kernel
theorem dX3_commit_26 : decode cX3_commit 26 = .ok (.iastore, 1) := by decide +kernel
theorem dX3_commit_27 : decode cX3_commit 27 = .ok (.iinc 1 1, 3) := by decide +kernel
theorem dX3_commit_30 : decode cX3_commit 30 = .ok (.goto (-28), 3) := by decide +kernel
theorem dX3_commit_33 : decode cX3_commit 33 = .ok (.iconst 0, 1) := by decide +kernel
theorem dX3_commit_34 : decode cX3_commit 34 = .ok (.istore_n 1, 1) := by decide +kernel
theorem dX3_commit_35 : decode cX3_commit 35 = .ok (.iload_n 1, 1) := by decide +kernel
theorem dX3_commit_36 : decode cX3_commit 36 = .ok (.iconst 2, 1) := by decide +kernel
theorem dX3_commit_37 : decode cX3_commit 37 = .ok (.if_icmp .ge 58, 3) := by decide +kernel
theorem dX3_commit_40 : decode cX3_commit 40 = .ok (.aload_n 0, 1) := by decide +kernel
theorem dX3_commit_41 : decode cX3_commit 41 = .ok (.getfield 22, 3) := by decide +kernel
theorem dX3_commit_44 : decode cX3_commit 44 = .ok (.iload_n 1, 1) := by decide +kernel
theorem dX3_commit_45 : decode cX3_commit 45 = .ok (.aload_n 0, 1) := by decide +kernel
theorem dX3_commit_46 : decode cX3_commit 46 = .ok (.getfield 22, 3) := by decide +kernel
theorem dX3_commit_49 : decode cX3_commit 49 = .ok (.iload_n 1, 1) := by decide +kernel
theorem dX3_commit_50 : decode cX3_commit 50 = .ok (.iaload, 1) := by decide +kernel
theorem dX3_commit_51 : decode cX3_commit 51 = .ok (.aload_n 0, 1) := by decide +kernel
theorem dX3_commit_52 : decode cX3_commit 52 = .ok (.getfield 31, 3) := by decide +kernel
theorem dX3_commit_55 : decode cX3_commit 55 = .ok (.iload_n 1, 1) := by decide +kernel
theorem dX3_commit_56 : decode cX3_commit 56 = .ok (.iaload, 1) := by decide +kernel
theorem dX3_commit_57 : decode cX3_commit 57 = .ok (.iconst (-1), 1) := by decide +kernel
theorem dX3_commit_58 : decode cX3_commit 58 = .ok (.ixor, 1) := by decide +kernel
theorem dX3_commit_59 : decode cX3_commit 59 = .ok (.iand, 1) := by decide +kernel
theorem dX3_commit_60 : decode cX3_commit 60 = .ok (.aload_n 0, 1) := by decide +kernel
theorem dX3_commit_61 : decode cX3_commit 61 = .ok (.getfield 34, 3) := by decide +kernel
theorem dX3_commit_64 : decode cX3_commit 64 = .ok (.iload_n 1, 1) := by decide +kernel
theorem dX3_commit_65 : decode cX3_commit 65 = .ok (.iaload, 1) := by decide +kernel
theorem dX3_commit_66 : decode cX3_commit 66 = .ok (.aload_n 0, 1) := by decide +kernel
theorem dX3_commit_67 : decode cX3_commit 67 = .ok (.getfield 31, 3) := by decide +kernel
theorem dX3_commit_70 : decode cX3_commit 70 = .ok (.iload_n 1, 1) := by decide +kernel
theorem dX3_commit_71 : decode cX3_commit 71 = .ok (.iaload, 1) := by decide +kernel
theorem dX3_commit_72 : decode cX3_commit 72 = .ok (.iand, 1) := by decide +kernel
theorem dX3_commit_73 : decode cX3_commit 73 = .ok (.ior, 1) := by decide +kernel
theorem dX3_commit_74 : decode cX3_commit 74 = .ok (.iastore, 1) := by decide +kernel
theorem dX3_commit_75 : decode cX3_commit 75 = .ok (.aload_n 0, 1) := by decide +kernel
theorem dX3_commit_76 : decode cX3_commit 76 = .ok (.getfield 31, 3) := by decide +kernel
theorem dX3_commit_79 : decode cX3_commit 79 = .ok (.iload_n 1, 1) := by decide +kernel
theorem dX3_commit_80 : decode cX3_commit 80 = .ok (.iconst 0, 1) := by decide +kernel
theorem dX3_commit_81 : decode cX3_commit 81 = .ok (.iastore, 1) := by decide +kernel
theorem dX3_commit_82 : decode cX3_commit 82 = .ok (.aload_n 0, 1) := by decide +kernel
theorem dX3_commit_83 : decode cX3_commit 83 = .ok (.getfield 34, 3) := by decide +kernel
theorem dX3_commit_86 : decode cX3_commit 86 = .ok (.iload_n 1, 1) := by decide +kernel
theorem dX3_commit_87 : decode cX3_commit 87 = .ok (.iconst 0, 1) := by decide +kernel
theorem dX3_commit_88 : decode cX3_commit 88 = .ok (.iastore, 1) := by decide +kernel
theorem dX3_commit_89 : decode cX3_commit 89 = .ok (.iinc 1 1, 3) := by decide +kernel
theorem dX3_commit_92 : decode cX3_commit 92 = .ok (.goto (-57), 3) := by decide +kernel
theorem dX3_commit_95 : decode cX3_commit 95 = .ok (.aload_n 0, 1) := by decide +kernel
theorem dX3_commit_96 : decode cX3_commit 96 = .ok (.invokevirtual 78, 3) := by decide +kernel
theorem dX3_commit_99 : decode cX3_commit 99 = .ok (.iconst 1, 1) := by decide +kernel
theorem dX3_commit_100 : decode cX3_commit 100 = .ok (.istore_n 1, 1) := by decide +kernel
theorem dX3_commit_101 : decode cX3_commit 101 = .ok (.iload_n 1, 1) := by decide +kernel
theorem dX3_commit_102 : decode cX3_commit 102 = .ok (.ifCond .eq 11, 3) := by decide +kernel
theorem dX3_commit_105 : decode cX3_commit 105 = .ok (.aload_n 0, 1) := by decide +kernel
theorem dX3_commit_106 : decode cX3_commit 106 = .ok (.invokevirtual 108, 3) := by decide +kernel
theorem dX3_commit_109 : decode cX3_commit 109 = .ok (.istore_n 1, 1) := by decide +kernel
theorem dX3_commit_110 : decode cX3_commit 110 = .ok (.goto (-9), 3) := by decide +kernel
theorem dX3_commit_113 : decode cX3_commit 113 = .ok (.iconst 0, 1) := by decide +kernel
theorem dX3_commit_114 : decode cX3_commit 114 = .ok (.istore_n 2, 1) := by decide +kernel
theorem dX3_commit_115 : decode cX3_commit 115 = .ok (.iconst 0, 1) := by decide +kernel
theorem dX3_commit_116 : decode cX3_commit 116 = .ok (.istore_n 3, 1) := by decide +kernel
theorem dX3_commit_117 : decode cX3_commit 117 = .ok (.iload_n 3, 1) := by decide +kernel
theorem dX3_commit_118 : decode cX3_commit 118 = .ok (.bipush 7, 2) := by decide +kernel
theorem dX3_commit_120 : decode cX3_commit 120 = .ok (.if_icmp .ge 29, 3) := by decide +kernel
theorem dX3_commit_123 : decode cX3_commit 123 = .ok (.iload_n 2, 1) := by decide +kernel
theorem dX3_commit_124 : decode cX3_commit 124 = .ok (.aload_n 0, 1) := by decide +kernel
theorem dX3_commit_125 : decode cX3_commit 125 = .ok (.iload_n 3, 1) := by decide +kernel
theorem dX3_commit_126 : decode cX3_commit 126 = .ok (.invokevirtual 94, 3) := by decide +kernel
theorem dX3_commit_129 : decode cX3_commit 129 = .ok (.invokestatic 111, 3) := by decide +kernel
theorem dX3_commit_132 : decode cX3_commit 132 = .ok (.iadd, 1) := by decide +kernel
theorem dX3_commit_133 : decode cX3_commit 133 = .ok (.aload_n 0, 1) := by decide +kernel
theorem dX3_commit_134 : decode cX3_commit 134 = .ok (.iload_n 3, 1) := by decide +kernel
theorem dX3_commit_135 : decode cX3_commit 135 = .ok (.invokevirtual 102, 3) := by decide +kernel
theorem dX3_commit_138 : decode cX3_commit 138 = .ok (.invokestatic 111, 3) := by decide +kernel
theorem dX3_commit_141 : decode cX3_commit 141 = .ok (.iadd, 1) := by decide +kernel
theorem dX3_commit_142 : decode cX3_commit 142 = .ok (.istore_n 2, 1) := by decide +kernel
theorem dX3_commit_143 : decode cX3_commit 143 = .ok (.iinc 3 1, 3) := by decide +kernel
theorem dX3_commit_146 : decode cX3_commit 146 = .ok (.goto (-29), 3) := by decide +kernel
theorem dX3_commit_149 : decode cX3_commit 149 = .ok (.iload_n 2, 1) := by decide +kernel
theorem dX3_commit_150 : decode cX3_commit 150 = .ok (.ireturn, 1) := by decide +kernel
set_option maxRecDepth 20000 in
theorem ggX3_abort_X3_ones : GoodIn wsX3_abort wsX3_ones := goodIn_r _ [6] (by decide +kernel) (by decide +kernel)
set_option maxRecDepth 20000 in
theorem gX3_abort_X3_ones : GoodIn wsX3_abort (va_wsS RX3 111 yX3_ones wsX3_ones) := goodIn_app (goodIn_of _ (by decide +kernel)) ggX3_abort_X3_ones
theorem dX3_abort_0 : decode cX3_abort 0 = .ok (.aload_n 0, 1) := by decide +kernel
theorem dX3_abort_1 : decode cX3_abort 1 = .ok (.getfield 31, 3) := by decide +kernel
theorem dX3_abort_4 : decode cX3_abort 4 = .ok (.iconst 0, 1) := by decide +kernel
theorem dX3_abort_5 : decode cX3_abort 5 = .ok (.iaload, 1) := by decide +kernel
theorem dX3_abort_6 : decode cX3_abort 6 = .ok (.invokestatic 111, 3) := by decide +kernel
theorem dX3_abort_9 : decode cX3_abort 9 = .ok (.aload_n 0, 1) := by decide +kernel
theorem dX3_abort_10 : decode cX3_abort 10 = .ok (.getfield 31, 3) := by decide +kernel
theorem dX3_abort_13 : decode cX3_abort 13 = .ok (.iconst 1, 1) := by decide +kernel
theorem dX3_abort_14 : decode cX3_abort 14 = .ok (.iaload, 1) := by decide +kernel
theorem dX3_abort_15 : decode cX3_abort 15 = .ok (.invokestatic 111, 3) := by decide +kernel
theorem dX3_abort_18 : decode cX3_abort 18 = .ok (.iadd, 1) := by decide +kernel
theorem dX3_abort_19 : decode cX3_abort 19 = .ok (.istore_n 1, 1) := by decide +kernel
theorem dX3_abort_20 : decode cX3_abort 20 = .ok (.iconst 0, 1) := by decide +kernel
theorem dX3_abort_21 : decode cX3_abort 21 = .ok (.istore_n 2, 1) := by decide +kernel
theorem dX3_abort_22 : decode cX3_abort 22 = .ok (.iload_n 2, 1) := by decide +kernel
theorem dX3_abort_23 : decode cX3_abort 23 = .ok (.iconst 2, 1) := by decide +kernel
theorem dX3_abort_24 : decode cX3_abort 24 = .ok (.if_icmp .ge 23, 3) := by decide +kernel
theorem dX3_abort_27 : decode cX3_abort 27 = .ok (.aload_n 0, 1) := by decide +kernel
theorem dX3_abort_28 : decode cX3_abort 28 = .ok (.getfield 31, 3) := by decide +kernel
theorem dX3_abort_31 : decode cX3_abort 31 = .ok (.iload_n 2, 1) := by decide +kernel
theorem dX3_abort_32 : decode cX3_abort 32 = .ok (.iconst 0, 1) := by decide +kernel
theorem dX3_abort_33 : decode cX3_abort 33 = .ok (.iastore, 1) := by decide +kernel
theorem dX3_abort_34 : decode cX3_abort 34 = .ok (.aload_n 0, 1) := by decide +kernel
theorem dX3_abort_35 : decode cX3_abort 35 = .ok (.getfield 34, 3) := by decide +kernel
theorem dX3_abort_38 : decode cX3_abort 38 = .ok (.iload_n 2, 1) := by decide +kernel
theorem dX3_abort_39 : decode cX3_abort 39 = .ok (.iconst 0, 1) := by decide +kernel
theorem dX3_abort_40 : decode cX3_abort 40 = .ok (.iastore, 1) := by decide +kernel
theorem dX3_abort_41 : decode cX3_abort 41 = .ok (.iinc 2 1, 3) := by decide +kernel
theorem dX3_abort_44 : decode cX3_abort 44 = .ok (.goto (-22), 3) := by decide +kernel
theorem dX3_abort_47 : decode cX3_abort 47 = .ok (.iload_n 1, 1) := by decide +kernel
theorem dX3_abort_48 : decode cX3_abort 48 = .ok (.ireturn, 1) := by decide +kernel
set_option maxRecDepth 20000 in
theorem ggX3_isPair_X3_within : GoodIn wsX3_isPair wsX3_within := goodIn_r _ [4] (by decide +kernel) (by decide +kernel)
set_option maxRecDepth 20000 in
theorem gX3_isPair_X3_within : GoodIn wsX3_isPair (va_wsS RX3 81 yX3_within wsX3_within) := goodIn_app (goodIn_of _ (by decide +kernel)) ggX3_isPair_X3_within
theorem dX3_isPair_0 : decode cX3_isPair 0 = .ok (.iload_n 0, 1) := by decide +kernel
theorem dX3_isPair_1 : decode cX3_isPair 1 = .ok (.iconst 0, 1) := by decide +kernel
theorem dX3_isPair_2 : decode cX3_isPair 2 = .ok (.bipush 6, 2) := by decide +kernel
theorem dX3_isPair_4 : decode cX3_isPair 4 = .ok (.invokestatic 81, 3) := by decide +kernel
theorem dX3_isPair_7 : decode cX3_isPair 7 = .ok (.ifCond .eq 25, 3) := by decide +kernel
theorem dX3_isPair_10 : decode cX3_isPair 10 = .ok (.iload_n 1, 1) := by decide +kernel
theorem dX3_isPair_11 : decode cX3_isPair 11 = .ok (.iconst 0, 1) := by decide +kernel
theorem dX3_isPair_12 : decode cX3_isPair 12 = .ok (.iconst 4, 1) := by decide +kernel
theorem dX3_isPair_13 : decode cX3_isPair 13 = .ok (.invokestatic 81, 3) := by decide +kernel
theorem dX3_isPair_16 : decode cX3_isPair 16 = .ok (.ifCond .eq 16, 3) := by decide +kernel
theorem dX3_isPair_19 : decode cX3_isPair 19 = .ok (.iload_n 2, 1) := by decide +kernel
theorem dX3_isPair_20 : decode cX3_isPair 20 = .ok (.iconst 0, 1) := by decide +kernel
theorem dX3_isPair_21 : decode cX3_isPair 21 = .ok (.iconst 4, 1) := by decide +kernel
theorem dX3_isPair_22 : decode cX3_isPair 22 = .ok (.invokestatic 81, 3) := by decide +kernel
theorem dX3_isPair_25 : decode cX3_isPair 25 = .ok (.ifCond .eq 7, 3) := by decide +kernel
theorem dX3_isPair_28 : decode cX3_isPair 28 = .ok (.iconst 1, 1) := by decide +kernel
theorem dX3_isPair_29 : decode cX3_isPair 29 = .ok (.goto 4, 3) := by decide +kernel
theorem dX3_isPair_32 : decode cX3_isPair 32 = .ok (.iconst 0, 1) := by decide +kernel
theorem dX3_isPair_33 : decode cX3_isPair 33 = .ok (.ireturn, 1) := by decide +kernel
set_option maxRecDepth 20000 in
theorem ggX3_has_X3_isPair : GoodIn wsX3_has wsX3_isPair := goodIn_r _ [5, 6, 7, 4, 8] (by decide +kernel) (by decide +kernel)
set_option maxRecDepth 20000 in
theorem gX3_has_X3_isPair : GoodIn wsX3_has (va_wsS RX3 114 yX3_isPair wsX3_isPair) := goodIn_app (goodIn_of _ (by decide +kernel)) ggX3_has_X3_isPair
set_option maxRecDepth 20000 in
theorem ggX3_has_X3_in : GoodIn wsX3_has wsX3_in := goodIn_r _ [11] (by decide +kernel) (by decide +kernel)
set_option maxRecDepth 20000 in
theorem gX3_has_X3_in : GoodIn wsX3_has (va_wsS RX3 48 yX3_in wsX3_in) := goodIn_app (goodIn_of _ (by decide +kernel)) ggX3_has_X3_in
theorem dX3_has_0 : decode cX3_has 0 = .ok (.iload_n 1, 1) := by decide +kernel
theorem dX3_has_1 : decode cX3_has 1 = .ok (.iload_n 2, 1) := by decide +kernel
theorem dX3_has_2 : decode cX3_has 2 = .ok (.iload_n 3, 1) := by decide +kernel
theorem dX3_has_3 : decode cX3_has 3 = .ok (.invokestatic 114, 3) := by decide +kernel
theorem dX3_has_6 : decode cX3_has 6 = .ok (.ifCond .eq 21, 3) := by decide +kernel
theorem dX3_has_9 : decode cX3_has 9 = .ok (.aload_n 0, 1) := by decide +kernel
theorem dX3_has_10 : decode cX3_has 10 = .ok (.getfield 22, 3) := by decide +kernel
theorem dX3_has_13 : decode cX3_has 13 = .ok (.iload_n 1, 1) := by decide +kernel
theorem dX3_has_14 : decode cX3_has 14 = .ok (.iaload, 1) := by decide +kernel
theorem dX3_has_15 : decode cX3_has 15 = .ok (.iload_n 2, 1) := by decide +kernel
theorem dX3_has_16 : decode cX3_has 16 = .ok (.iload_n 3, 1) := by decide +kernel
theorem dX3_has_17 : decode cX3_has 17 = .ok (.invokestatic 48, 3) := by decide +kernel
theorem dX3_has_20 : decode cX3_has 20 = .ok (.ifCond .eq 7, 3) := by decide +kernel
theorem dX3_has_23 : decode cX3_has 23 = .ok (.iconst 1, 1) := by decide +kernel
theorem dX3_has_24 : decode cX3_has 24 = .ok (.goto 4, 3) := by decide +kernel
theorem dX3_has_27 : decode cX3_has 27 = .ok (.iconst 0, 1) := by decide +kernel
theorem dX3_has_28 : decode cX3_has 28 = .ok (.ireturn, 1) := by decide +kernel
set_option maxRecDepth 20000 in
theorem ggX3_count_X3_isPair : GoodIn wsX3_count wsX3_isPair := goodIn_r _ [6, 7, 8, 5, 9] (by decide +kernel) (by decide +kernel)
set_option maxRecDepth 20000 in
theorem gX3_count_X3_isPair : GoodIn wsX3_count (va_wsS RX3 114 yX3_isPair wsX3_isPair) := goodIn_app (goodIn_of _ (by decide +kernel)) ggX3_count_X3_isPair
set_option maxRecDepth 20000 in
theorem ggX3_count_X3_instancesOf : GoodIn wsX3_count wsX3_instancesOf := goodIn_r _ [13, 14, 15, 16, 17, 18, 5, 19, 2, 20, 21, 22, 23, 24, 25, 26, 27, 28, 29, 30, 31, 32, 33, 34, 35, 36, 37] (by decide +kernel) (by decide +kernel)
set_option maxRecDepth 20000 in
theorem gX3_count_X3_instancesOf : GoodIn wsX3_count (wsV RX3 56 RX3 yX3_instancesOf wsX3_instancesOf) := goodIn_app (goodIn_of _ (by decide +kernel)) ggX3_count_X3_instancesOf
set_option maxRecDepth 20000 in
theorem ggX3_count_X3_in : GoodIn wsX3_count wsX3_in := goodIn_r _ [25] (by decide +kernel) (by decide +kernel)
set_option maxRecDepth 20000 in
theorem gX3_count_X3_in : GoodIn wsX3_count (va_wsS RX3 48 yX3_in wsX3_in) := goodIn_app (goodIn_of _ (by decide +kernel)) ggX3_count_X3_in
theorem dX3_count_0 : decode cX3_count 0 = .ok (.iload_n 1, 1) := by decide +kernel
theorem dX3_count_1 : decode cX3_count 1 = .ok (.iload_n 2, 1) := by decide +kernel
theorem dX3_count_2 : decode cX3_count 2 = .ok (.iload_n 3, 1) := by decide +kernel
theorem dX3_count_3 : decode cX3_count 3 = .ok (.invokestatic 114, 3) := by decide +kernel
theorem dX3_count_6 : decode cX3_count 6 = .ok (.ifCond .eq 15, 3) := by decide +kernel
theorem dX3_count_9 : decode cX3_count 9 = .ok (.aload_n 0, 1) := by decide +kernel
theorem dX3_count_10 : decode cX3_count 10 = .ok (.getfield 37, 3) := by decide +kernel
theorem dX3_count_13 : decode cX3_count 13 = .ok (.bipush 8, 2) := by decide +kernel
theorem dX3_count_15 : decode cX3_count 15 = .ok (.iload_n 1, 1) := by decide +kernel
theorem dX3_count_16 : decode cX3_count 16 = .ok (.imul, 1) := by decide +kernel
theorem dX3_count_17 : decode cX3_count 17 = .ok (.baload, 1) := by decide +kernel
theorem dX3_count_18 : decode cX3_count 18 = .ok (.ifCond .eq 5, 3) := by decide +kernel
theorem dX3_count_21 : decode cX3_count 21 = .ok (.iconst (-1), 1) := by decide +kernel
theorem dX3_count_22 : decode cX3_count 22 = .ok (.ireturn, 1) := by decide +kernel
theorem dX3_count_23 : decode cX3_count 23 = .ok (.iload_n 1, 1) := by decide +kernel
theorem dX3_count_24 : decode cX3_count 24 = .ok (.iconst 1, 1) := by decide +kernel
theorem dX3_count_25 : decode cX3_count 25 = .ok (.if_icmp .le 13, 3) := by decide +kernel
theorem dX3_count_28 : decode cX3_count 28 = .ok (.aload_n 0, 1) := by decide +kernel
theorem dX3_count_29 : decode cX3_count 29 = .ok (.iload_n 1, 1) := by decide +kernel
theorem dX3_count_30 : decode cX3_count 30 = .ok (.iload_n 2, 1) := by decide +kernel
theorem dX3_count_31 : decode cX3_count 31 = .ok (.iload_n 3, 1) := by decide +kernel
theorem dX3_count_32 : decode cX3_count 32 = .ok (.invokevirtual 56, 3) := by decide +kernel
theorem dX3_count_35 : decode cX3_count 35 = .ok (.goto 22, 3) := by decide +kernel
theorem dX3_count_38 : decode cX3_count 38 = .ok (.aload_n 0, 1) := by decide +kernel
theorem dX3_count_39 : decode cX3_count 39 = .ok (.getfield 22, 3) := by decide +kernel
theorem dX3_count_42 : decode cX3_count 42 = .ok (.iload_n 1, 1) := by decide +kernel
theorem dX3_count_43 : decode cX3_count 43 = .ok (.iaload, 1) := by decide +kernel
theorem dX3_count_44 : decode cX3_count 44 = .ok (.iload_n 2, 1) := by decide +kernel
theorem dX3_count_45 : decode cX3_count 45 = .ok (.iload_n 3, 1) := by decide +kernel
theorem dX3_count_46 : decode cX3_count 46 = .ok (.invokestatic 48, 3) := by decide +kernel
theorem dX3_count_49 : decode cX3_count 49 = .ok (.ifCond .eq 7, 3) := by decide +kernel
theorem dX3_count_52 : decode cX3_count 52 = .ok (.iconst 1, 1) := by decide +kernel
theorem dX3_count_53 : decode cX3_count 53 = .ok (.goto 4, 3) := by decide +kernel
theorem dX3_count_56 : decode cX3_count 56 = .ok (.iconst 0, 1) := by decide +kernel
theorem dX3_count_57 : decode cX3_count 57 = .ok (.ireturn, 1) := by decide +kernel
set_option maxRecDepth 20000 in
theorem ggX3_size_X3_within : GoodIn wsX3_size wsX3_within := goodIn_r _ [5] (by decide +kernel) (by decide +kernel)
set_option maxRecDepth 20000 in
theorem gX3_size_X3_within : GoodIn wsX3_size (va_wsS RX3 81 yX3_within wsX3_within) := goodIn_app (goodIn_of _ (by decide +kernel)) ggX3_size_X3_within
set_option maxRecDepth 20000 in
theorem ggX3_size_X3_ones : GoodIn wsX3_size wsX3_ones := goodIn_r _ [8] (by decide +kernel) (by decide +kernel)
set_option maxRecDepth 20000 in
theorem gX3_size_X3_ones : GoodIn wsX3_size (va_wsS RX3 111 yX3_ones wsX3_ones) := goodIn_app (goodIn_of _ (by decide +kernel)) ggX3_size_X3_ones
theorem dX3_size_0 : decode cX3_size 0 = .ok (.iload_n 1, 1) := by decide +kernel
theorem dX3_size_1 : decode cX3_size 1 = .ok (.iconst 0, 1) := by decide +kernel
theorem dX3_size_2 : decode cX3_size 2 = .ok (.bipush 6, 2) := by decide +kernel
theorem dX3_size_4 : decode cX3_size 4 = .ok (.invokestatic 81, 3) := by decide +kernel
theorem dX3_size_7 : decode cX3_size 7 = .ok (.ifCond .eq 15, 3) := by decide +kernel
theorem dX3_size_10 : decode cX3_size 10 = .ok (.aload_n 0, 1) := by decide +kernel
theorem dX3_size_11 : decode cX3_size 11 = .ok (.getfield 22, 3) := by decide +kernel
theorem dX3_size_14 : decode cX3_size 14 = .ok (.iload_n 1, 1) := by decide +kernel
theorem dX3_size_15 : decode cX3_size 15 = .ok (.iaload, 1) := by decide +kernel
theorem dX3_size_16 : decode cX3_size 16 = .ok (.invokestatic 111, 3) := by decide +kernel
theorem dX3_size_19 : decode cX3_size 19 = .ok (.goto 4, 3) := by decide +kernel
theorem dX3_size_22 : decode cX3_size 22 = .ok (.iconst (-1), 1) := by decide +kernel
theorem dX3_size_23 : decode cX3_size 23 = .ok (.ireturn, 1) := by decide +kernel
set_option maxRecDepth 20000 in
theorem ggX3_recursive_X3_within : GoodIn wsX3_recursive wsX3_within := goodIn_r _ [5] (by decide +kernel) (by decide +kernel)
set_option maxRecDepth 20000 in
theorem gX3_recursive_X3_within : GoodIn wsX3_recursive (va_wsS RX3 81 yX3_within wsX3_within) := goodIn_app (goodIn_of _ (by decide +kernel)) ggX3_recursive_X3_within
theorem dX3_recursive_0 : decode cX3_recursive 0 = .ok (.iload_n 1, 1) := by decide +kernel
theorem dX3_recursive_1 : decode cX3_recursive 1 = .ok (.iconst 2, 1) := by decide +kernel
theorem dX3_recursive_2 : decode cX3_recursive 2 = .ok (.bipush 6, 2) := by decide +kernel
theorem dX3_recursive_4 : decode cX3_recursive 4 = .ok (.invokestatic 81, 3) := by decide +kernel
theorem dX3_recursive_7 : decode cX3_recursive 7 = .ok (.ifCond .eq 19, 3) := by decide +kernel
theorem dX3_recursive_10 : decode cX3_recursive 10 = .ok (.aload_n 0, 1) := by decide +kernel
theorem dX3_recursive_11 : decode cX3_recursive 11 = .ok (.getfield 37, 3) := by decide +kernel
theorem dX3_recursive_14 : decode cX3_recursive 14 = .ok (.bipush 8, 2) := by decide +kernel
theorem dX3_recursive_16 : decode cX3_recursive 16 = .ok (.iload_n 1, 1) := by decide +kernel
theorem dX3_recursive_17 : decode cX3_recursive 17 = .ok (.imul, 1) := by decide +kernel
theorem dX3_recursive_18 : decode cX3_recursive 18 = .ok (.baload, 1) := by decide +kernel
theorem dX3_recursive_19 : decode cX3_recursive 19 = .ok (.ifCond .eq 7, 3) := by decide +kernel
theorem dX3_recursive_22 : decode cX3_recursive 22 = .ok (.iconst 1, 1) := by decide +kernel
theorem dX3_recursive_23 : decode cX3_recursive 23 = .ok (.goto 4, 3) := by decide +kernel
theorem dX3_recursive_26 : decode cX3_recursive 26 = .ok (.iconst 0, 1) := by decide +kernel
theorem dX3_recursive_27 : decode cX3_recursive 27 = .ok (.ireturn, 1) := by decide +kernel
set_option maxRecDepth 20000 in
theorem ggX3_needs_X3_within : GoodIn wsX3_needs wsX3_within := goodIn_r _ [5] (by decide +kernel) (by decide +kernel)
set_option maxRecDepth 20000 in
theorem gX3_needs_X3_within : GoodIn wsX3_needs (va_wsS RX3 81 yX3_within wsX3_within) := goodIn_app (goodIn_of _ (by decide +kernel)) ggX3_needs_X3_within
theorem dX3_needs_0 : decode cX3_needs 0 = .ok (.iload_n 1, 1) := by decide +kernel
theorem dX3_needs_1 : decode cX3_needs 1 = .ok (.iconst 2, 1) := by decide +kernel
theorem dX3_needs_2 : decode cX3_needs 2 = .ok (.bipush 6, 2) := by decide +kernel
theorem dX3_needs_4 : decode cX3_needs 4 = .ok (.invokestatic 81, 3) := by decide +kernel
theorem dX3_needs_7 : decode cX3_needs 7 = .ok (.ifCond .eq 31, 3) := by decide +kernel
theorem dX3_needs_10 : decode cX3_needs 10 = .ok (.iload_n 2, 1) := by decide +kernel
theorem dX3_needs_11 : decode cX3_needs 11 = .ok (.iconst 0, 1) := by decide +kernel
theorem dX3_needs_12 : decode cX3_needs 12 = .ok (.bipush 6, 2) := by decide +kernel
theorem dX3_needs_14 : decode cX3_needs 14 = .ok (.invokestatic 81, 3) := by decide +kernel
theorem dX3_needs_17 : decode cX3_needs 17 = .ok (.ifCond .eq 21, 3) := by decide +kernel
theorem dX3_needs_20 : decode cX3_needs 20 = .ok (.aload_n 0, 1) := by decide +kernel
theorem dX3_needs_21 : decode cX3_needs 21 = .ok (.getfield 37, 3) := by decide +kernel
theorem dX3_needs_24 : decode cX3_needs 24 = .ok (.bipush 7, 2) := by decide +kernel
theorem dX3_needs_26 : decode cX3_needs 26 = .ok (.iload_n 1, 1) := by decide +kernel
theorem dX3_needs_27 : decode cX3_needs 27 = .ok (.imul, 1) := by decide +kernel
theorem dX3_needs_28 : decode cX3_needs 28 = .ok (.iload_n 2, 1) := by decide +kernel
theorem dX3_needs_29 : decode cX3_needs 29 = .ok (.iadd, 1) := by decide +kernel
theorem dX3_needs_30 : decode cX3_needs 30 = .ok (.baload, 1) := by decide +kernel
theorem dX3_needs_31 : decode cX3_needs 31 = .ok (.ifCond .eq 7, 3) := by decide +kernel
theorem dX3_needs_34 : decode cX3_needs 34 = .ok (.iconst 1, 1) := by decide +kernel
theorem dX3_needs_35 : decode cX3_needs 35 = .ok (.goto 4, 3) := by decide +kernel
theorem dX3_needs_38 : decode cX3_needs 38 = .ok (.iconst 0, 1) := by decide +kernel
theorem dX3_needs_39 : decode cX3_needs 39 = .ok (.ireturn, 1) := by decide +kernel
theorem dX3_rules_0 : decode cX3_rules 0 = .ok (.aload_n 0, 1) := by decide +kernel
theorem dX3_rules_1 : decode cX3_rules 1 = .ok (.getfield 44, 3) := by decide +kernel
theorem dX3_rules_4 : decode cX3_rules 4 = .ok (.ireturn, 1) := by decide +kernel
set_option maxRecDepth 20000 in
theorem ggX3_changed_X3_within : GoodIn wsX3_changed wsX3_within := goodIn_r _ [6] (by decide +kernel) (by decide +kernel)
set_option maxRecDepth 20000 in
theorem gX3_changed_X3_within : GoodIn wsX3_changed (va_wsS RX3 81 yX3_within wsX3_within) := goodIn_app (goodIn_of _ (by decide +kernel)) ggX3_changed_X3_within
set_option maxRecDepth 20000 in
theorem ggX3_changed_X3_added : GoodIn wsX3_changed wsX3_added := goodIn_r _ [10, 2, 11, 19, 20, 21, 22, 23, 24, 25, 26, 27, 28, 29, 30] (by decide +kernel) (by decide +kernel)
set_option maxRecDepth 20000 in
theorem gX3_changed_X3_added : GoodIn wsX3_changed (wsV RX3 102 RX3 yX3_added wsX3_added) := goodIn_app (goodIn_of _ (by decide +kernel)) ggX3_changed_X3_added
set_option maxRecDepth 20000 in
theorem ggX3_changed_X3_taken : GoodIn wsX3_changed wsX3_taken := goodIn_r _ [15, 11, 2, 19, 20, 21, 22, 23, 24, 25, 26, 27, 28, 29, 30] (by decide +kernel) (by decide +kernel)
set_option maxRecDepth 20000 in
theorem gX3_changed_X3_taken : GoodIn wsX3_changed (wsV RX3 94 RX3 yX3_taken wsX3_taken) := goodIn_app (goodIn_of _ (by decide +kernel)) ggX3_changed_X3_taken
set_option maxRecDepth 20000 in
theorem ggX3_changed_X3_ones : GoodIn wsX3_changed wsX3_ones := goodIn_r _ [18] (by decide +kernel) (by decide +kernel)
set_option maxRecDepth 20000 in
theorem gX3_changed_X3_ones : GoodIn wsX3_changed (va_wsS RX3 111 yX3_ones wsX3_ones) := goodIn_app (goodIn_of _ (by decide +kernel)) ggX3_changed_X3_ones
theorem dX3_changed_0 : decode cX3_changed 0 = .ok (.iload_n 1, 1) := by decide +kernel
theorem dX3_changed_1 : decode cX3_changed 1 = .ok (.iconst 0, 1) := by decide +kernel
theorem dX3_changed_2 : decode cX3_changed 2 = .ok (.bipush 6, 2) := by decide +kernel
theorem dX3_changed_4 : decode cX3_changed 4 = .ok (.invokestatic 81, 3) := by decide +kernel
theorem dX3_changed_7 : decode cX3_changed 7 = .ok (.ifCond .eq 12, 3) := by decide +kernel
theorem dX3_changed_10 : decode cX3_changed 10 = .ok (.iload_n 2, 1) := by decide +kernel
theorem dX3_changed_11 : decode cX3_changed 11 = .ok (.iconst 0, 1) := by decide +kernel
theorem dX3_changed_12 : decode cX3_changed 12 = .ok (.iconst 3, 1) := by decide +kernel
theorem dX3_changed_13 : decode cX3_changed 13 = .ok (.invokestatic 81, 3) := by decide +kernel
theorem dX3_changed_16 : decode cX3_changed 16 = .ok (.ifCond .ne 5, 3) := by decide +kernel
theorem dX3_changed_19 : decode cX3_changed 19 = .ok (.iconst (-1), 1) := by decide +kernel
theorem dX3_changed_20 : decode cX3_changed 20 = .ok (.ireturn, 1) := by decide +kernel
theorem dX3_changed_21 : decode cX3_changed 21 = .ok (.iload_n 2, 1) := by decide +kernel
theorem dX3_changed_22 : decode cX3_changed 22 = .ok (.ifCond .ne 11, 3) := by decide +kernel
theorem dX3_changed_25 : decode cX3_changed 25 = .ok (.aload_n 0, 1) := by decide +kernel
theorem dX3_changed_26 : decode cX3_changed 26 = .ok (.iload_n 1, 1) := by decide +kernel
theorem dX3_changed_27 : decode cX3_changed 27 = .ok (.invokevirtual 102, 3) := by decide +kernel
theorem dX3_changed_30 : decode cX3_changed 30 = .ok (.goto 43, 3) := by decide +kernel
theorem dX3_changed_33 : decode cX3_changed 33 = .ok (.iload_n 2, 1) := by decide +kernel
theorem dX3_changed_34 : decode cX3_changed 34 = .ok (.iconst 1, 1) := by decide +kernel
theorem dX3_changed_35 : decode cX3_changed 35 = .ok (.if_icmp .ne 11, 3) := by decide +kernel
theorem dX3_changed_38 : decode cX3_changed 38 = .ok (.aload_n 0, 1) := by decide +kernel
theorem dX3_changed_39 : decode cX3_changed 39 = .ok (.iload_n 1, 1) := by decide +kernel
theorem dX3_changed_40 : decode cX3_changed 40 = .ok (.invokevirtual 94, 3) := by decide +kernel
theorem dX3_changed_43 : decode cX3_changed 43 = .ok (.goto 30, 3) := by decide +kernel
theorem dX3_changed_46 : decode cX3_changed 46 = .ok (.iload_n 2, 1) := by decide +kernel
theorem dX3_changed_47 : decode cX3_changed 47 = .ok (.iconst 2, 1) := by decide +kernel
theorem dX3_changed_48 : decode cX3_changed 48 = .ok (.if_icmp .ne 12, 3) := by decide +kernel
theorem dX3_changed_51 : decode cX3_changed 51 = .ok (.aload_n 0, 1) := by decide +kernel
theorem dX3_changed_52 : decode cX3_changed 52 = .ok (.getfield 28, 3) := by decide +kernel
theorem dX3_changed_55 : decode cX3_changed 55 = .ok (.iload_n 1, 1) := by decide +kernel
theorem dX3_changed_56 : decode cX3_changed 56 = .ok (.iaload, 1) := by decide +kernel
theorem dX3_changed_57 : decode cX3_changed 57 = .ok (.goto 16, 3) := by decide +kernel
theorem dX3_changed_60 : decode cX3_changed 60 = .ok (.aload_n 0, 1) := by decide +kernel
theorem dX3_changed_61 : decode cX3_changed 61 = .ok (.getfield 28, 3) := by decide +kernel
theorem dX3_changed_64 : decode cX3_changed 64 = .ok (.iload_n 1, 1) := by decide +kernel
theorem dX3_changed_65 : decode cX3_changed 65 = .ok (.iaload, 1) := by decide +kernel
theorem dX3_changed_66 : decode cX3_changed 66 = .ok (.aload_n 0, 1) := by decide +kernel
theorem dX3_changed_67 : decode cX3_changed 67 = .ok (.getfield 22, 3) := by decide +kernel
theorem dX3_changed_70 : decode cX3_changed 70 = .ok (.iload_n 1, 1) := by decide +kernel
theorem dX3_changed_71 : decode cX3_changed 71 = .ok (.iaload, 1) := by decide +kernel
theorem dX3_changed_72 : decode cX3_changed 72 = .ok (.iand, 1) := by decide +kernel
theorem dX3_changed_73 : decode cX3_changed 73 = .ok (.invokestatic 111, 3) := by decide +kernel
theorem dX3_changed_76 : decode cX3_changed 76 = .ok (.ireturn, 1) := by decide +kernel
set_option maxRecDepth 20000 in
theorem ggX3_suspect_X3_isPair : GoodIn wsX3_suspect wsX3_isPair := goodIn_r _ [5, 6, 7, 4, 8] (by decide +kernel) (by decide +kernel)
set_option maxRecDepth 20000 in
theorem gX3_suspect_X3_isPair : GoodIn wsX3_suspect (va_wsS RX3 114 yX3_isPair wsX3_isPair) := goodIn_app (goodIn_of _ (by decide +kernel)) ggX3_suspect_X3_isPair
set_option maxRecDepth 20000 in
theorem ggX3_suspect_X3_in : GoodIn wsX3_suspect wsX3_in := goodIn_r _ [11] (by decide +kernel) (by decide +kernel)
set_option maxRecDepth 20000 in
theorem gX3_suspect_X3_in : GoodIn wsX3_suspect (va_wsS RX3 48 yX3_in wsX3_in) := goodIn_app (goodIn_of _ (by decide +kernel)) ggX3_suspect_X3_in
theorem dX3_suspect_0 : decode cX3_suspect 0 = .ok (.iload_n 1, 1) := by decide +kernel
theorem dX3_suspect_1 : decode cX3_suspect 1 = .ok (.iload_n 2, 1) := by decide +kernel
theorem dX3_suspect_2 : decode cX3_suspect 2 = .ok (.iload_n 3, 1) := by decide +kernel
theorem dX3_suspect_3 : decode cX3_suspect 3 = .ok (.invokestatic 114, 3) := by decide +kernel
theorem dX3_suspect_6 : decode cX3_suspect 6 = .ok (.ifCond .eq 21, 3) := by decide +kernel
theorem dX3_suspect_9 : decode cX3_suspect 9 = .ok (.aload_n 0, 1) := by decide +kernel
theorem dX3_suspect_10 : decode cX3_suspect 10 = .ok (.getfield 28, 3) := by decide +kernel
theorem dX3_suspect_13 : decode cX3_suspect 13 = .ok (.iload_n 1, 1) := by decide +kernel
theorem dX3_suspect_14 : decode cX3_suspect 14 = .ok (.iaload, 1) := by decide +kernel
theorem dX3_suspect_15 : decode cX3_suspect 15 = .ok (.iload_n 2, 1) := by decide +kernel
theorem dX3_suspect_16 : decode cX3_suspect 16 = .ok (.iload_n 3, 1) := by decide +kernel
theorem dX3_suspect_17 : decode cX3_suspect 17 = .ok (.invokestatic 48, 3) := by decide +kernel
theorem dX3_suspect_20 : decode cX3_suspect 20 = .ok (.ifCond .eq 7, 3) := by decide +kernel
theorem dX3_suspect_23 : decode cX3_suspect 23 = .ok (.iconst 1, 1) := by decide +kernel
theorem dX3_suspect_24 : decode cX3_suspect 24 = .ok (.goto 4, 3) := by decide +kernel
theorem dX3_suspect_27 : decode cX3_suspect 27 = .ok (.iconst 0, 1) := by decide +kernel
theorem dX3_suspect_28 : decode cX3_suspect 28 = .ok (.ireturn, 1) := by decide +kernel
