theorem dX3_init_0 : decode cX3_init 0 = .ok (.aload_n 0, 1) := by decide +kernel
theorem dX3_init_1 : decode cX3_init 1 = .ok (.invokespecial 1, 3) := by decide +kernel
theorem dX3_init_4 : decode cX3_init 4 = .ok (.aload_n 0, 1) := by decide +kernel
theorem dX3_init_5 : decode cX3_init 5 = .ok (.bipush 13, 2) := by decide +kernel
theorem dX3_init_7 : decode cX3_init 7 = .ok (.newarray .int, 2) := by decide +kernel
theorem dX3_init_9 : decode cX3_init 9 = .ok (.putfield 7, 3) := by decide +kernel
theorem dX3_init_12 : decode cX3_init 12 = .ok (.aload_n 0, 1) := by decide +kernel
theorem dX3_init_13 : decode cX3_init 13 = .ok (.bipush 13, 2) := by decide +kernel
theorem dX3_init_15 : decode cX3_init 15 = .ok (.newarray .int, 2) := by decide +kernel
theorem dX3_init_17 : decode cX3_init 17 = .ok (.putfield 13, 3) := by decide +kernel
theorem dX3_init_20 : decode cX3_init 20 = .ok (.aload_n 0, 1) := by decide +kernel
theorem dX3_init_21 : decode cX3_init 21 = .ok (.bipush 13, 2) := by decide +kernel
theorem dX3_init_23 : decode cX3_init 23 = .ok (.newarray .int, 2) := by decide +kernel
theorem dX3_init_25 : decode cX3_init 25 = .ok (.putfield 16, 3) := by decide +kernel
theorem dX3_init_28 : decode cX3_init 28 = .ok (.aload_n 0, 1) := by decide +kernel
theorem dX3_init_29 : decode cX3_init 29 = .ok (.bipush 13, 2) := by decide +kernel
theorem dX3_init_31 : decode cX3_init 31 = .ok (.newarray .int, 2) := by decide +kernel
theorem dX3_init_33 : decode cX3_init 33 = .ok (.putfield 19, 3) := by decide +kernel
theorem dX3_init_36 : decode cX3_init 36 = .ok (.aload_n 0, 1) := by decide +kernel
theorem dX3_init_37 : decode cX3_init 37 = .ok (.bipush 7, 2) := by decide +kernel
theorem dX3_init_39 : decode cX3_init 39 = .ok (.newarray .int, 2) := by decide +kernel
theorem dX3_init_41 : decode cX3_init 41 = .ok (.putfield 22, 3) := by decide +kernel
theorem dX3_init_44 : decode cX3_init 44 = .ok (.aload_n 0, 1) := by decide +kernel
theorem dX3_init_45 : decode cX3_init 45 = .ok (.bipush 7, 2) := by decide +kernel
theorem dX3_init_47 : decode cX3_init 47 = .ok (.newarray .int, 2) := by decide +kernel
theorem dX3_init_49 : decode cX3_init 49 = .ok (.putfield 25, 3) := by decide +kernel
theorem dX3_init_52 : decode cX3_init 52 = .ok (.aload_n 0, 1) := by decide +kernel
theorem dX3_init_53 : decode cX3_init 53 = .ok (.bipush 7, 2) := by decide +kernel
theorem dX3_init_55 : decode cX3_init 55 = .ok (.newarray .int, 2) := by decide +kernel
theorem dX3_init_57 : decode cX3_init 57 = .ok (.putfield 28, 3) := by decide +kernel
theorem dX3_init_60 : decode cX3_init 60 = .ok (.aload_n 0, 1) := by decide +kernel
theorem dX3_init_61 : decode cX3_init 61 = .ok (.iconst 2, 1) := by decide +kernel
theorem dX3_init_62 : decode cX3_init 62 = .ok (.newarray .int, 2) := by decide +kernel
theorem dX3_init_64 : decode cX3_init 64 = .ok (.putfield 31, 3) := by decide +kernel
theorem dX3_init_67 : decode cX3_init 67 = .ok (.aload_n 0, 1) := by decide +kernel
theorem dX3_init_68 : decode cX3_init 68 = .ok (.iconst 2, 1) := by decide +kernel
theorem dX3_init_69 : decode cX3_init 69 = .ok (.newarray .int, 2) := by decide +kernel
theorem dX3_init_71 : decode cX3_init 71 = .ok (.putfield 34, 3) := by decide +kernel
theorem dX3_init_74 : decode cX3_init 74 = .ok (.aload_n 0, 1) := by decide +kernel
theorem dX3_init_75 : decode cX3_init 75 = .ok (.bipush 49, 2) := by decide +kernel
theorem dX3_init_77 : decode cX3_init 77 = .ok (.newarray .boolean, 2) := by decide +kernel
theorem dX3_init_79 : decode cX3_init 79 = .ok (.putfield 37, 3) := by decide +kernel
theorem dX3_init_82 : decode cX3_init 82 = .ok (.aload_n 0, 1) := by decide +kernel
theorem dX3_init_83 : decode cX3_init 83 = .ok (.bipush 7, 2) := by decide +kernel
theorem dX3_init_85 : decode cX3_init 85 = .ok (.newarray .boolean, 2) := by decide +kernel
theorem dX3_init_87 : decode cX3_init 87 = .ok (.putfield 41, 3) := by decide +kernel
theorem dX3_init_90 : decode cX3_init 90 = .ok (.return_, 1) := by decide +kernel
theorem dX3_within_0 : decode cX3_within 0 = .ok (.iload_n 0, 1) := by decide +kernel
theorem dX3_within_1 : decode cX3_within 1 = .ok (.iload_n 1, 1) := by decide +kernel
theorem dX3_within_2 : decode cX3_within 2 = .ok (.if_icmp .lt 12, 3) := by decide +kernel
theorem dX3_within_5 : decode cX3_within 5 = .ok (.iload_n 0, 1) := by decide +kernel
theorem dX3_within_6 : decode cX3_within 6 = .ok (.iload_n 2, 1) := by decide +kernel
theorem dX3_within_7 : decode cX3_within 7 = .ok (.if_icmp .gt 7, 3) := by decide +kernel
theorem dX3_within_10 : decode cX3_within 10 = .ok (.iconst 1, 1) := by decide +kernel
theorem dX3_within_11 : decode cX3_within 11 = .ok (.goto 4, 3) := by decide +kernel
theorem dX3_within_14 : decode cX3_within 14 = .ok (.iconst 0, 1) := by decide +kernel
theorem dX3_within_15 : decode cX3_within 15 = .ok (.ireturn, 1) := by decide +kernel
theorem dX3_bit_0 : decode cX3_bit 0 = .ok (.iconst 1, 1) := by decide +kernel
theorem dX3_bit_1 : decode cX3_bit 1 = .ok (.iconst 5, 1) := by decide +kernel
theorem dX3_bit_2 : decode cX3_bit 2 = .ok (.iload_n 0, 1) := by decide +kernel
theorem dX3_bit_3 : decode cX3_bit 3 = .ok (.imul, 1) := by decide +kernel
theorem dX3_bit_4 : decode cX3_bit 4 = .ok (.iload_n 1, 1) := by decide +kernel
theorem dX3_bit_5 : decode cX3_bit 5 = .ok (.iadd, 1) := by decide +kernel
theorem dX3_bit_6 : decode cX3_bit 6 = .ok (.ishl, 1) := by decide +kernel
theorem dX3_bit_7 : decode cX3_bit 7 = .ok (.ireturn, 1) := by decide +kernel
theorem dX3_ones_0 : decode cX3_ones 0 = .ok (.iconst 0, 1) := by decide +kernel
theorem dX3_ones_1 : decode cX3_ones 1 = .ok (.istore_n 1, 1) := by decide +kernel
theorem dX3_ones_2 : decode cX3_ones 2 = .ok (.iconst 0, 1) := by decide +kernel
theorem dX3_ones_3 : decode cX3_ones 3 = .ok (.istore_n 2, 1) := by decide +kernel
theorem dX3_ones_4 : decode cX3_ones 4 = .ok (.iload_n 2, 1) := by decide +kernel
theorem dX3_ones_5 : decode cX3_ones 5 = .ok (.bipush 25, 2) := by decide +kernel
theorem dX3_ones_7 : decode cX3_ones 7 = .ok (.if_icmp .ge 17, 3) := by decide +kernel
theorem dX3_ones_10 : decode cX3_ones 10 = .ok (.iload_n 1, 1) := by decide +kernel
theorem dX3_ones_11 : decode cX3_ones 11 = .ok (.iload_n 0, 1) := by decide +kernel
theorem dX3_ones_12 : decode cX3_ones 12 = .ok (.iload_n 2, 1) := by decide +kernel
theorem dX3_ones_13 : decode cX3_ones 13 = .ok (.ishr, 1) := by decide +kernel
theorem dX3_ones_14 : decode cX3_ones 14 = .ok (.iconst 1, 1) := by decide +kernel
theorem dX3_ones_15 : decode cX3_ones 15 = .ok (.iand, 1) := by decide +kernel
theorem dX3_ones_16 : decode cX3_ones 16 = .ok (.iadd, 1) := by decide +kernel
theorem dX3_ones_17 : decode cX3_ones 17 = .ok (.istore_n 1, 1) := by decide +kernel
theorem dX3_ones_18 : decode cX3_ones 18 = .ok (.iinc 2 1, 3) := by decide +kernel
theorem dX3_ones_21 : decode cX3_ones 21 = .ok (.goto (-17), 3) := by decide +kernel
theorem dX3_ones_24 : decode cX3_ones 24 = .ok (.iload_n 1, 1) := by decide +kernel
theorem dX3_ones_25 : decode cX3_ones 25 = .ok (.ireturn, 1) := by decide +kernel
theorem dX3_in_0 : decode cX3_in 0 = .ok (.iload_n 0, 1) := by decide +kernel
theorem dX3_in_1 : decode cX3_in 1 = .ok (.iconst 5, 1) := by decide +kernel
theorem dX3_in_2 : decode cX3_in 2 = .ok (.iload_n 1, 1) := by decide +kernel
theorem dX3_in_3 : decode cX3_in 3 = .ok (.imul, 1) := by decide +kernel
theorem dX3_in_4 : decode cX3_in 4 = .ok (.iload_n 2, 1) := by decide +kernel
theorem dX3_in_5 : decode cX3_in 5 = .ok (.iadd, 1) := by decide +kernel
theorem dX3_in_6 : decode cX3_in 6 = .ok (.ishr, 1) := by decide +kernel
theorem dX3_in_7 : decode cX3_in 7 = .ok (.iconst 1, 1) := by decide +kernel
theorem dX3_in_8 : decode cX3_in 8 = .ok (.iand, 1) := by decide +kernel
theorem dX3_in_9 : decode cX3_in 9 = .ok (.iconst 1, 1) := by decide +kernel
theorem dX3_in_10 : decode cX3_in 10 = .ok (.if_icmp .ne 7, 3) := by decide +kernel
theorem dX3_in_13 : decode cX3_in 13 = .ok (.iconst 1, 1) := by decide +kernel
theorem dX3_in_14 : decode cX3_in 14 = .ok (.goto 4, 3) := by decide +kernel
theorem dX3_in_17 : decode cX3_in 17 = .ok (.iconst 0, 1) := by decide +kernel
theorem dX3_in_18 : decode cX3_in 18 = .ok (.ireturn, 1) := by decide +kernel
theorem dX3_findNeeds_0 : decode cX3_findNeeds 0 = .ok (.iconst 0, 1) := by decide +kernel
theorem dX3_findNeeds_1 : decode cX3_findNeeds 1 = .ok (.istore_n 1, 1) := by decide +kernel
theorem dX3_findNeeds_2 : decode cX3_findNeeds 2 = .ok (.iload_n 1, 1) := by decide +kernel
theorem dX3_findNeeds_3 : decode cX3_findNeeds 3 = .ok (.bipush 49, 2) := by decide +kernel
theorem dX3_findNeeds_5 : decode cX3_findNeeds 5 = .ok (.if_icmp .ge 16, 3) := by decide +kernel
theorem dX3_findNeeds_8 : decode cX3_findNeeds 8 = .ok (.aload_n 0, 1) := by decide +kernel
theorem dX3_findNeeds_9 : decode cX3_findNeeds 9 = .ok (.getfield 37, 3) := by decide +kernel
theorem dX3_findNeeds_12 : decode cX3_findNeeds 12 = .ok (.iload_n 1, 1) := by decide +kernel
theorem dX3_findNeeds_13 : decode cX3_findNeeds 13 = .ok (.iconst 0, 1) := by decide +kernel
theorem dX3_findNeeds_14 : decode cX3_findNeeds 14 = .ok (.bastore, 1) := by decide +kernel
theorem dX3_findNeeds_15 : decode cX3_findNeeds 15 = .ok (.iinc 1 1, 3) := by decide +kernel
theorem dX3_findNeeds_18 : decode cX3_findNeeds 18 = .ok (.goto (-16), 3) := by decide +kernel
theorem dX3_findNeeds_21 : decode cX3_findNeeds 21 = .ok (.iconst 0, 1) := by decide +kernel
theorem dX3_findNeeds_22 : decode cX3_findNeeds 22 = .ok (.istore_n 1, 1) := by decide +kernel
theorem dX3_findNeeds_23 : decode cX3_findNeeds 23 = .ok (.iload_n 1, 1) := by decide +kernel
theorem dX3_findNeeds_24 : decode cX3_findNeeds 24 = .ok (.aload_n 0, 1) := by decide +kernel
theorem dX3_findNeeds_25 : decode cX3_findNeeds 25 = .ok (.getfield 44, 3) := by decide +kernel
theorem dX3_findNeeds_28 : decode cX3_findNeeds 28 = .ok (.if_icmp .ge 91, 3) := by decide +kernel
theorem dX3_findNeeds_31 : decode cX3_findNeeds 31 = .ok (.aload_n 0, 1) := by decide +kernel
theorem dX3_findNeeds_32 : decode cX3_findNeeds 32 = .ok (.getfield 37, 3) := by decide +kernel
theorem dX3_findNeeds_35 : decode cX3_findNeeds 35 = .ok (.bipush 7, 2) := by decide +kernel
theorem dX3_findNeeds_37 : decode cX3_findNeeds 37 = .ok (.aload_n 0, 1) := by decide +kernel
theorem dX3_findNeeds_38 : decode cX3_findNeeds 38 = .ok (.getfield 7, 3) := by decide +kernel
theorem dX3_findNeeds_41 : decode cX3_findNeeds 41 = .ok (.iload_n 1, 1) := by decide +kernel
theorem dX3_findNeeds_42 : decode cX3_findNeeds 42 = .ok (.iaload, 1) := by decide +kernel
theorem dX3_findNeeds_43 : decode cX3_findNeeds 43 = .ok (.imul, 1) := by decide +kernel
theorem dX3_findNeeds_44 : decode cX3_findNeeds 44 = .ok (.aload_n 0, 1) := by decide +kernel
theorem dX3_findNeeds_45 : decode cX3_findNeeds 45 = .ok (.getfield 16, 3) := by decide +kernel
theorem dX3_findNeeds_48 : decode cX3_findNeeds 48 = .ok (.iload_n 1, 1) := by decide +kernel
theorem dX3_findNeeds_49 : decode cX3_findNeeds 49 = .ok (.iaload, 1) := by decide +kernel
theorem dX3_findNeeds_50 : decode cX3_findNeeds 50 = .ok (.iadd, 1) := by decide +kernel
theorem dX3_findNeeds_51 : decode cX3_findNeeds 51 = .ok (.iconst 1, 1) := by decide +kernel
theorem dX3_findNeeds_52 : decode cX3_findNeeds 52 = .ok (.bastore, 1) := by decide +kernel
theorem dX3_findNeeds_53 : decode cX3_findNeeds 53 = .ok (.aload_n 0, 1) := by decide +kernel
theorem dX3_findNeeds_54 : decode cX3_findNeeds 54 = .ok (.getfield 37, 3) := by decide +kernel
theorem dX3_findNeeds_57 : decode cX3_findNeeds 57 = .ok (.bipush 7, 2) := by decide +kernel
theorem dX3_findNeeds_59 : decode cX3_findNeeds 59 = .ok (.aload_n 0, 1) := by decide +kernel
theorem dX3_findNeeds_60 : decode cX3_findNeeds 60 = .ok (.getfield 7, 3) := by decide +kernel
theorem dX3_findNeeds_63 : decode cX3_findNeeds 63 = .ok (.iload_n 1, 1) := by decide +kernel
theorem dX3_findNeeds_64 : decode cX3_findNeeds 64 = .ok (.iaload, 1) := by decide +kernel
theorem dX3_findNeeds_65 : decode cX3_findNeeds 65 = .ok (.imul, 1) := by decide +kernel
theorem dX3_findNeeds_66 : decode cX3_findNeeds 66 = .ok (.aload_n 0, 1) := by decide +kernel
theorem dX3_findNeeds_67 : decode cX3_findNeeds 67 = .ok (.getfield 19, 3) := by decide +kernel
theorem dX3_findNeeds_70 : decode cX3_findNeeds 70 = .ok (.iload_n 1, 1) := by decide +kernel
theorem dX3_findNeeds_71 : decode cX3_findNeeds 71 = .ok (.iaload, 1) := by decide +kernel
theorem dX3_findNeeds_72 : decode cX3_findNeeds 72 = .ok (.iadd, 1) := by decide +kernel
theorem dX3_findNeeds_73 : decode cX3_findNeeds 73 = .ok (.aload_n 0, 1) := by decide +kernel
theorem dX3_findNeeds_74 : decode cX3_findNeeds 74 = .ok (.getfield 37, 3) := by decide +kernel
theorem dX3_findNeeds_77 : decode cX3_findNeeds 77 = .ok (.bipush 7, 2) := by decide +kernel
theorem dX3_findNeeds_79 : decode cX3_findNeeds 79 = .ok (.aload_n 0, 1) := by decide +kernel
theorem dX3_findNeeds_80 : decode cX3_findNeeds 80 = .ok (.getfield 7, 3) := by decide +kernel
theorem dX3_findNeeds_83 : decode cX3_findNeeds 83 = .ok (.iload_n 1, 1) := by decide +kernel
theorem dX3_findNeeds_84 : decode cX3_findNeeds 84 = .ok (.iaload, 1) := by decide +kernel
theorem dX3_findNeeds_85 : decode cX3_findNeeds 85 = .ok (.imul, 1) := by decide +kernel
theorem dX3_findNeeds_86 : decode cX3_findNeeds 86 = .ok (.aload_n 0, 1) := by decide +kernel
theorem dX3_findNeeds_87 : decode cX3_findNeeds 87 = .ok (.getfield 19, 3) := by decide +kernel
theorem dX3_findNeeds_90 : decode cX3_findNeeds 90 = .ok (.iload_n 1, 1) := by decide +kernel
theorem dX3_findNeeds_91 : decode cX3_findNeeds 91 = .ok (.iaload, 1) := by decide +kernel
theorem dX3_findNeeds_92 : decode cX3_findNeeds 92 = .ok (.iadd, 1) := by decide +kernel
theorem dX3_findNeeds_93 : decode cX3_findNeeds 93 = .ok (.baload, 1) := by decide +kernel
theorem dX3_findNeeds_94 : decode cX3_findNeeds 94 = .ok (.ifCond .ne 13, 3) := by decide +kernel
theorem dX3_findNeeds_97 : decode cX3_findNeeds 97 = .ok (.aload_n 0, 1) := by decide +kernel
theorem dX3_findNeeds_98 : decode cX3_findNeeds 98 = .ok (.getfield 13, 3) := by decide +kernel
theorem dX3_findNeeds_101 : decode cX3_findNeeds 101 = .ok (.iload_n 1, 1) := by decide +kernel
theorem dX3_findNeeds_102 : decode cX3_findNeeds 102 = .ok (.iaload, 1) := by decide +kernel
theorem dX3_findNeeds_103 : decode cX3_findNeeds 103 = .ok (.iconst 1, 1) := by decide +kernel
theorem dX3_findNeeds_104 : decode cX3_findNeeds 104 = .ok (.if_icmp .le 7, 3) := by decide +kernel
theorem dX3_findNeeds_107 : decode cX3_findNeeds 107 = .ok (.iconst 1, 1) := by decide +kernel
theorem dX3_findNeeds_108 : decode cX3_findNeeds 108 = .ok (.goto 4, 3) := by decide +kernel
theorem dX3_findNeeds_111 : decode cX3_findNeeds 111 = .ok (.iconst 0, 1) := by decide +kernel
theorem dX3_findNeeds_112 : decode cX3_findNeeds 112 = .ok (.bastore, 1) := by decide +kernel
theorem dX3_findNeeds_113 : decode cX3_findNeeds 113 = .ok (.iinc 1 1, 3) := by decide +kernel
theorem dX3_findNeeds_116 : decode cX3_findNeeds 116 = .ok (.goto (-93), 3) := by decide +kernel
theorem dX3_findNeeds_119 : decode cX3_findNeeds 119 = .ok (.iconst 0, 1) := by decide +kernel
theorem dX3_findNeeds_120 : decode cX3_findNeeds 120 = .ok (.istore_n 1, 1) := by decide +kernel
theorem dX3_findNeeds_121 : decode cX3_findNeeds 121 = .ok (.iload_n 1, 1) := by decide +kernel
theorem dX3_findNeeds_122 : decode cX3_findNeeds 122 = .ok (.bipush 7, 2) := by decide +kernel
theorem dX3_findNeeds_124 : decode cX3_findNeeds 124 = .ok (.if_icmp .ge 95, 3) := by decide +kernel
theorem dX3_findNeeds_127 : decode cX3_findNeeds 127 = .ok (.iconst 0, 1) := by decide +kernel
theorem dX3_findNeeds_128 : decode cX3_findNeeds 128 = .ok (.istore_n 2, 1) := by decide +kernel
theorem dX3_findNeeds_129 : decode cX3_findNeeds 129 = .ok (.iload_n 2, 1) := by decide +kernel
theorem dX3_findNeeds_130 : decode cX3_findNeeds 130 = .ok (.bipush 7, 2) := by decide +kernel
theorem dX3_findNeeds_132 : decode cX3_findNeeds 132 = .ok (.if_icmp .ge 81, 3) := by decide +kernel
theorem dX3_findNeeds_135 : decode cX3_findNeeds 135 = .ok (.iconst 0, 1) := by decide +kernel
theorem dX3_findNeeds_136 : decode cX3_findNeeds 136 = .ok (.istore_n 3, 1) := by decide +kernel
theorem dX3_findNeeds_137 : decode cX3_findNeeds 137 = .ok (.iload_n 3, 1) := by decide +kernel
theorem dX3_findNeeds_138 : decode cX3_findNeeds 138 = .ok (.bipush 7, 2) := by decide +kernel
theorem dX3_findNeeds_140 : decode cX3_findNeeds 140 = .ok (.if_icmp .ge 67, 3) := by decide +kernel
theorem dX3_findNeeds_143 : decode cX3_findNeeds 143 = .ok (.aload_n 0, 1) := by decide +kernel
theorem dX3_findNeeds_144 : decode cX3_findNeeds 144 = .ok (.getfield 37, 3) := by decide +kernel
theorem dX3_findNeeds_147 : decode cX3_findNeeds 147 = .ok (.bipush 7, 2) := by decide +kernel
theorem dX3_findNeeds_149 : decode cX3_findNeeds 149 = .ok (.iload_n 2, 1) := by decide +kernel
theorem dX3_findNeeds_150 : decode cX3_findNeeds 150 = .ok (.imul, 1) := by decide +kernel
theorem dX3_findNeeds_151 : decode cX3_findNeeds 151 = .ok (.iload_n 3, 1) := by decide +kernel
theorem dX3_findNeeds_152 : decode cX3_findNeeds 152 = .ok (.iadd, 1) := by decide +kernel
theorem dX3_findNeeds_153 : decode cX3_findNeeds 153 = .ok (.aload_n 0, 1) := by decide +kernel
theorem dX3_findNeeds_154 : decode cX3_findNeeds 154 = .ok (.getfield 37, 3) := by decide +kernel
theorem dX3_findNeeds_157 : decode cX3_findNeeds 157 = .ok (.bipush 7, 2) := by decide +kernel
theorem dX3_findNeeds_159 : decode cX3_findNeeds 159 = .ok (.iload_n 2, 1) := by decide +kernel
theorem dX3_findNeeds_160 : decode cX3_findNeeds 160 = .ok (.imul, 1) := by decide +kernel
theorem dX3_findNeeds_161 : decode cX3_findNeeds 161 = .ok (.iload_n 3, 1) := by decide +kernel
theorem dX3_findNeeds_162 : decode cX3_findNeeds 162 = .ok (.iadd, 1) := by decide +kernel
theorem dX3_findNeeds_163 : decode cX3_findNeeds 163 = .ok (.baload, 1) := by decide +kernel
theorem dX3_findNeeds_164 : decode cX3_findNeeds 164 = .ok (.ifCond .ne 31, 3) := by decide +kernel
theorem dX3_findNeeds_167 : decode cX3_findNeeds 167 = .ok (.aload_n 0, 1) := by decide +kernel
theorem dX3_findNeeds_168 : decode cX3_findNeeds 168 = .ok (.getfield 37, 3) := by decide +kernel
theorem dX3_findNeeds_171 : decode cX3_findNeeds 171 = .ok (.bipush 7, 2) := by decide +kernel
theorem dX3_findNeeds_173 : decode cX3_findNeeds 173 = .ok (.iload_n 2, 1) := by decide +kernel
theorem dX3_findNeeds_174 : decode cX3_findNeeds 174 = .ok (.imul, 1) := by decide +kernel
theorem dX3_findNeeds_175 : decode cX3_findNeeds 175 = .ok (.iload_n 1, 1) := by decide +kernel
theorem dX3_findNeeds_176 : decode cX3_findNeeds 176 = .ok (.iadd, 1) := by decide +kernel
theorem dX3_findNeeds_177 : decode cX3_findNeeds 177 = .ok (.baload, 1) := by decide +kernel
theorem dX3_findNeeds_178 : decode cX3_findNeeds 178 = .ok (.ifCond .eq 21, 3) := by decide +kernel
theorem dX3_findNeeds_181 : decode cX3_findNeeds 181 = .ok (.aload_n 0, 1) := by decide +kernel
theorem dX3_findNeeds_182 : decode cX3_findNeeds 182 = .ok (.getfield 37, 3) := by decide +kernel
theorem dX3_findNeeds_185 : decode cX3_findNeeds 185 = .ok (.bipush 7, 2) := by decide +kernel
theorem dX3_findNeeds_187 : decode cX3_findNeeds 187 = .ok (.iload_n 1, 1) := by decide +kernel
theorem dX3_findNeeds_188 : decode cX3_findNeeds 188 = .ok (.imul, 1) := by decide +kernel
theorem dX3_findNeeds_189 : decode cX3_findNeeds 189 = .ok (.iload_n 3, 1) := by decide +kernel
theorem dX3_findNeeds_190 : decode cX3_findNeeds 190 = .ok (.iadd, 1) := by decide +kernel
theorem dX3_findNeeds_191 : decode cX3_findNeeds 191 = .ok (.baload, 1) := by decide +kernel
theorem dX3_findNeeds_192 : decode cX3_findNeeds 192 = .ok (.ifCond .eq 7, 3) := by decide +kernel
theorem dX3_findNeeds_195 : decode cX3_findNeeds 195 = .ok (.iconst 1, 1) := by decide +kernel
theorem dX3_findNeeds_196 : decode cX3_findNeeds 196 = .ok (.goto 4, 3) := by decide +kernel
theorem dX3_findNeeds_199 : decode cX3_findNeeds 199 = .ok (.iconst 0, 1) := by decide +kernel
theorem dX3_findNeeds_200 : decode cX3_findNeeds 200 = .ok (.bastore, 1) := by decide +kernel
theorem dX3_findNeeds_201 : decode cX3_findNeeds 201 = .ok (.iinc 3 1, 3) := by decide +kernel
theorem dX3_findNeeds_204 : decode cX3_findNeeds 204 = .ok (.goto (-67), 3) := by decide +kernel
theorem dX3_findNeeds_207 : decode cX3_findNeeds 207 = .ok (.iinc 2 1, 3) := by decide +kernel
theorem dX3_findNeeds_210 : decode cX3_findNeeds 210 = .ok (.goto (-81), 3) := by decide +kernel
theorem dX3_findNeeds_213 : decode cX3_findNeeds 213 = .ok (.iinc 1 1, 3) := by decide +kernel
theorem dX3_findNeeds_216 : decode cX3_findNeeds 216 = .ok (.goto (-95), 3) := by decide +kernel
theorem dX3_findNeeds_219 : decode cX3_findNeeds 219 = .ok (.return_, 1) := by decide +kernel
theorem dX3_cyclic_0 : decode cX3_cyclic 0 = .ok (.iconst 0, 1) := by decide +kernel
theorem dX3_cyclic_1 : decode cX3_cyclic 1 = .ok (.istore_n 1, 1) := by decide +kernel
theorem dX3_cyclic_2 : decode cX3_cyclic 2 = .ok (.iconst 0, 1) := by decide +kernel
theorem dX3_cyclic_3 : decode cX3_cyclic 3 = .ok (.istore_n 2, 1) := by decide +kernel
theorem dX3_cyclic_4 : decode cX3_cyclic 4 = .ok (.iload_n 2, 1) := by decide +kernel
theorem dX3_cyclic_5 : decode cX3_cyclic 5 = .ok (.aload_n 0, 1) := by decide +kernel
theorem dX3_cyclic_6 : decode cX3_cyclic 6 = .ok (.getfield 44, 3) := by decide +kernel
theorem dX3_cyclic_9 : decode cX3_cyclic 9 = .ok (.if_icmp .ge 68, 3) := by decide +kernel
theorem dX3_cyclic_12 : decode cX3_cyclic 12 = .ok (.iload_n 1, 1) := by decide +kernel
theorem dX3_cyclic_13 : decode cX3_cyclic 13 = .ok (.ifCond .ne 52, 3) := by decide +kernel
theorem dX3_cyclic_16 : decode cX3_cyclic 16 = .ok (.aload_n 0, 1) := by decide +kernel
theorem dX3_cyclic_17 : decode cX3_cyclic 17 = .ok (.getfield 13, 3) := by decide +kernel
theorem dX3_cyclic_20 : decode cX3_cyclic 20 = .ok (.iload_n 2, 1) := by decide +kernel
theorem dX3_cyclic_21 : decode cX3_cyclic 21 = .ok (.iaload, 1) := by decide +kernel
theorem dX3_cyclic_22 : decode cX3_cyclic 22 = .ok (.iconst 4, 1) := by decide +kernel
theorem dX3_cyclic_23 : decode cX3_cyclic 23 = .ok (.if_icmp .ne 46, 3) := by decide +kernel
theorem dX3_cyclic_26 : decode cX3_cyclic 26 = .ok (.aload_n 0, 1) := by decide +kernel
theorem dX3_cyclic_27 : decode cX3_cyclic 27 = .ok (.getfield 19, 3) := by decide +kernel
theorem dX3_cyclic_30 : decode cX3_cyclic 30 = .ok (.iload_n 2, 1) := by decide +kernel
theorem dX3_cyclic_31 : decode cX3_cyclic 31 = .ok (.iaload, 1) := by decide +kernel
theorem dX3_cyclic_32 : decode cX3_cyclic 32 = .ok (.aload_n 0, 1) := by decide +kernel
theorem dX3_cyclic_33 : decode cX3_cyclic 33 = .ok (.getfield 7, 3) := by decide +kernel
theorem dX3_cyclic_36 : decode cX3_cyclic 36 = .ok (.iload_n 2, 1) := by decide +kernel
theorem dX3_cyclic_37 : decode cX3_cyclic 37 = .ok (.iaload, 1) := by decide +kernel
theorem dX3_cyclic_38 : decode cX3_cyclic 38 = .ok (.if_icmp .eq 27, 3) := by decide +kernel
theorem dX3_cyclic_41 : decode cX3_cyclic 41 = .ok (.aload_n 0, 1) := by decide +kernel
theorem dX3_cyclic_42 : decode cX3_cyclic 42 = .ok (.getfield 37, 3) := by decide +kernel
theorem dX3_cyclic_45 : decode cX3_cyclic 45 = .ok (.bipush 7, 2) := by decide +kernel
theorem dX3_cyclic_47 : decode cX3_cyclic 47 = .ok (.aload_n 0, 1) := by decide +kernel
theorem dX3_cyclic_48 : decode cX3_cyclic 48 = .ok (.getfield 19, 3) := by decide +kernel
theorem dX3_cyclic_51 : decode cX3_cyclic 51 = .ok (.iload_n 2, 1) := by decide +kernel
theorem dX3_cyclic_52 : decode cX3_cyclic 52 = .ok (.iaload, 1) := by decide +kernel
theorem dX3_cyclic_53 : decode cX3_cyclic 53 = .ok (.imul, 1) := by decide +kernel
theorem dX3_cyclic_54 : decode cX3_cyclic 54 = .ok (.aload_n 0, 1) := by decide +kernel
theorem dX3_cyclic_55 : decode cX3_cyclic 55 = .ok (.getfield 7, 3) := by decide +kernel
theorem dX3_cyclic_58 : decode cX3_cyclic 58 = .ok (.iload_n 2, 1) := by decide +kernel
theorem dX3_cyclic_59 : decode cX3_cyclic 59 = .ok (.iaload, 1) := by decide +kernel
theorem dX3_cyclic_60 : decode cX3_cyclic 60 = .ok (.iadd, 1) := by decide +kernel
theorem dX3_cyclic_61 : decode cX3_cyclic 61 = .ok (.baload, 1) := by decide +kernel
theorem dX3_cyclic_62 : decode cX3_cyclic 62 = .ok (.ifCond .eq 7, 3) := by decide +kernel
theorem dX3_cyclic_65 : decode cX3_cyclic 65 = .ok (.iconst 1, 1) := by decide +kernel
theorem dX3_cyclic_66 : decode cX3_cyclic 66 = .ok (.goto 4, 3) := by decide +kernel
theorem dX3_cyclic_69 : decode cX3_cyclic 69 = .ok (.iconst 0, 1) := by decide +kernel
theorem dX3_cyclic_70 : decode cX3_cyclic 70 = .ok (.istore_n 1, 1) := by decide +kernel
theorem dX3_cyclic_71 : decode cX3_cyclic 71 = .ok (.iinc 2 1, 3) := by decide +kernel
theorem dX3_cyclic_74 : decode cX3_cyclic 74 = .ok (.goto (-70), 3) := by decide +kernel
theorem dX3_cyclic_77 : decode cX3_cyclic 77 = .ok (.iload_n 1, 1) := by decide +kernel
theorem dX3_cyclic_78 : decode cX3_cyclic 78 = .ok (.ireturn, 1) := by decide +kernel
set_option maxRecDepth 20000 in
theorem ggX3_instances_X3_in : GoodIn wsX3_instances wsX3_in := goodIn_r _ [8] (by decide +kernel) (by decide +kernel)
set_option maxRecDepth 20000 in
theorem gX3_instances_X3_in : GoodIn wsX3_instances (va_wsS RX3 48 yX3_in wsX3_in) := goodIn_app (goodIn_of _ (by decide +kernel)) ggX3_instances_X3_in
theorem dX3_instances_0 : decode cX3_instances 0 = .ok (.aload_n 0, 1) := by decide +kernel
theorem dX3_instances_1 : decode cX3_instances 1 = .ok (.getfield 22, 3) := by decide +kernel
theorem dX3_instances_4 : decode cX3_instances 4 = .ok (.aload_n 0, 1) := by decide +kernel
theorem dX3_instances_5 : decode cX3_instances 5 = .ok (.getfield 16, 3) := by decide +kernel
theorem dX3_instances_8 : decode cX3_instances 8 = .ok (.iload_n 1, 1) := by decide +kernel
theorem dX3_instances_9 : decode cX3_instances 9 = .ok (.iaload, 1) := by decide +kernel
theorem dX3_instances_10 : decode cX3_instances 10 = .ok (.iaload, 1) := by decide +kernel
theorem dX3_instances_11 : decode cX3_instances 11 = .ok (.istore 4, 2) := by decide +kernel
theorem dX3_instances_13 : decode cX3_instances 13 = .ok (.aload_n 0, 1) := by decide +kernel
theorem dX3_instances_14 : decode cX3_instances 14 = .ok (.getfield 22, 3) := by decide +kernel
theorem dX3_instances_17 : decode cX3_instances 17 = .ok (.aload_n 0, 1) := by decide +kernel
theorem dX3_instances_18 : decode cX3_instances 18 = .ok (.getfield 19, 3) := by decide +kernel
theorem dX3_instances_21 : decode cX3_instances 21 = .ok (.iload_n 1, 1) := by decide +kernel
theorem dX3_instances_22 : decode cX3_instances 22 = .ok (.iaload, 1) := by decide +kernel
theorem dX3_instances_23 : decode cX3_instances 23 = .ok (.iaload, 1) := by decide +kernel
theorem dX3_instances_24 : decode cX3_instances 24 = .ok (.istore 5, 2) := by decide +kernel
theorem dX3_instances_26 : decode cX3_instances 26 = .ok (.aload_n 0, 1) := by decide +kernel
theorem dX3_instances_27 : decode cX3_instances 27 = .ok (.getfield 13, 3) := by decide +kernel
theorem dX3_instances_30 : decode cX3_instances 30 = .ok (.iload_n 1, 1) := by decide +kernel
theorem dX3_instances_31 : decode cX3_instances 31 = .ok (.iaload, 1) := by decide +kernel
theorem dX3_instances_32 : decode cX3_instances 32 = .ok (.tableswitch 144 0 3 #[32, 48, 64, 118], 32) := by decide +kernel
theorem dX3_instances_64 : decode cX3_instances 64 = .ok (.iload 4, 2) := by decide +kernel
theorem dX3_instances_66 : decode cX3_instances 66 = .ok (.iload_n 2, 1) := by decide +kernel
theorem dX3_instances_67 : decode cX3_instances 67 = .ok (.iload_n 3, 1) := by decide +kernel
theorem dX3_instances_68 : decode cX3_instances 68 = .ok (.invokestatic 48, 3) := by decide +kernel
theorem dX3_instances_71 : decode cX3_instances 71 = .ok (.ifCond .eq 7, 3) := by decide +kernel
theorem dX3_instances_74 : decode cX3_instances 74 = .ok (.iconst 1, 1) := by decide +kernel
theorem dX3_instances_75 : decode cX3_instances 75 = .ok (.goto 4, 3) := by decide +kernel
theorem dX3_instances_78 : decode cX3_instances 78 = .ok (.iconst 0, 1) := by decide +kernel
theorem dX3_instances_79 : decode cX3_instances 79 = .ok (.ireturn, 1) := by decide +kernel
theorem dX3_instances_80 : decode cX3_instances 80 = .ok (.iload 4, 2) := by decide +kernel
theorem dX3_instances_82 : decode cX3_instances 82 = .ok (.iload_n 3, 1) := by decide +kernel
theorem dX3_instances_83 : decode cX3_instances 83 = .ok (.iload_n 2, 1) := by decide +kernel
theorem dX3_instances_84 : decode cX3_instances 84 = .ok (.invokestatic 48, 3) := by decide +kernel
theorem dX3_instances_87 : decode cX3_instances 87 = .ok (.ifCond .eq 7, 3) := by decide +kernel
theorem dX3_instances_90 : decode cX3_instances 90 = .ok (.iconst 1, 1) := by decide +kernel
theorem dX3_instances_91 : decode cX3_instances 91 = .ok (.goto 4, 3) := by decide +kernel
theorem dX3_instances_94 : decode cX3_instances 94 = .ok (.iconst 0, 1) := by decide +kernel
theorem dX3_instances_95 : decode cX3_instances 95 = .ok (.ireturn, 1) := by decide +kernel
theorem dX3_instances_96 : decode cX3_instances 96 = .ok (.iconst 0, 1) := by decide +kernel
theorem dX3_instances_97 : decode cX3_instances 97 = .ok (.istore 6, 2) := by decide +kernel
theorem dX3_instances_99 : decode cX3_instances 99 = .ok (.iconst 0, 1) := by decide +kernel
theorem dX3_instances_100 : decode cX3_instances 100 = .ok (.istore 7, 2) := by decide +kernel
theorem dX3_instances_102 : decode cX3_instances 102 = .ok (.iload 7, 2) := by decide +kernel
theorem dX3_instances_104 : decode cX3_instances 104 = .ok (.iconst 5, 1) := by decide +kernel
theorem dX3_instances_105 : decode cX3_instances 105 = .ok (.if_icmp .ge 42, 3) := by decide +kernel
theorem dX3_instances_108 : decode cX3_instances 108 = .ok (.iload 4, 2) := by decide +kernel
theorem dX3_instances_110 : decode cX3_instances 110 = .ok (.iload_n 2, 1) := by decide +kernel
theorem dX3_instances_111 : decode cX3_instances 111 = .ok (.iload 7, 2) := by decide +kernel
theorem dX3_instances_113 : decode cX3_instances 113 = .ok (.invokestatic 48, 3) := by decide +kernel
theorem dX3_instances_116 : decode cX3_instances 116 = .ok (.ifCond .eq 21, 3) := by decide +kernel
theorem dX3_instances_119 : decode cX3_instances 119 = .ok (.iload 5, 2) := by decide +kernel
theorem dX3_instances_121 : decode cX3_instances 121 = .ok (.iload 7, 2) := by decide +kernel
theorem dX3_instances_123 : decode cX3_instances 123 = .ok (.iload_n 3, 1) := by decide +kernel
theorem dX3_instances_124 : decode cX3_instances 124 = .ok (.invokestatic 48, 3) := by decide +kernel
theorem dX3_instances_127 : decode cX3_instances 127 = .ok (.ifCond .eq 10, 3) := by decide +kernel
theorem dX3_instances_130 : decode cX3_instances 130 = .ok (.iload 6, 2) := by decide +kernel
theorem dX3_instances_132 : decode cX3_instances 132 = .ok (.iconst 1, 1) := by decide +kernel
theorem dX3_instances_133 : decode cX3_instances 133 = .ok (.iadd, 1) := by decide +kernel
theorem dX3_instances_134 : decode cX3_instances 134 = .ok (.goto 5, 3) := by decide +kernel
theorem dX3_instances_137 : decode cX3_instances 137 = .ok (.iload 6, 2) := by decide +kernel
theorem dX3_instances_139 : decode cX3_instances 139 = .ok (.istore 6, 2) := by decide +kernel
theorem dX3_instances_141 : decode cX3_instances 141 = .ok (.iinc 7 1, 3) := by decide +kernel
theorem dX3_instances_144 : decode cX3_instances 144 = .ok (.goto (-42), 3) := by decide +kernel
theorem dX3_instances_147 : decode cX3_instances 147 = .ok (.iload 6, 2) := by decide +kernel
theorem dX3_instances_149 : decode cX3_instances 149 = .ok (.ireturn, 1) := by decide +kernel
theorem dX3_instances_150 : decode cX3_instances 150 = .ok (.iload 4, 2) := by decide +kernel
theorem dX3_instances_152 : decode cX3_instances 152 = .ok (.iload_n 2, 1) := by decide +kernel
theorem dX3_instances_153 : decode cX3_instances 153 = .ok (.iload_n 3, 1) := by decide +kernel
theorem dX3_instances_154 : decode cX3_instances 154 = .ok (.invokestatic 48, 3) := by decide +kernel
theorem dX3_instances_157 : decode cX3_instances 157 = .ok (.ifCond .eq 17, 3) := by decide +kernel
theorem dX3_instances_160 : decode cX3_instances 160 = .ok (.iload 5, 2) := by decide +kernel
theorem dX3_instances_162 : decode cX3_instances 162 = .ok (.iload_n 2, 1) := by decide +kernel
theorem dX3_instances_163 : decode cX3_instances 163 = .ok (.iload_n 3, 1) := by decide +kernel
theorem dX3_instances_164 : decode cX3_instances 164 = .ok (.invokestatic 48, 3) := by decide +kernel
theorem dX3_instances_167 : decode cX3_instances 167 = .ok (.ifCond .eq 7, 3) := by decide +kernel
theorem dX3_instances_170 : decode cX3_instances 170 = .ok (.iconst 1, 1) := by decide +kernel
theorem dX3_instances_171 : decode cX3_instances 171 = .ok (.goto 4, 3) := by decide +kernel
theorem dX3_instances_174 : decode cX3_instances 174 = .ok (.iconst 0, 1) := by decide +kernel
theorem dX3_instances_175 : decode cX3_instances 175 = .ok (.ireturn, 1) := by decide +kernel
theorem dX3_instances_176 : decode cX3_instances 176 = .ok (.iload 4, 2) := by decide +kernel
theorem dX3_instances_178 : decode cX3_instances 178 = .ok (.iload_n 2, 1) := by decide +kernel
theorem dX3_instances_179 : decode cX3_instances 179 = .ok (.iload_n 3, 1) := by decide +kernel
theorem dX3_instances_180 : decode cX3_instances 180 = .ok (.invokestatic 48, 3) := by decide +kernel
theorem dX3_instances_183 : decode cX3_instances 183 = .ok (.ifCond .eq 17, 3) := by decide +kernel
theorem dX3_instances_186 : decode cX3_instances 186 = .ok (.iload 5, 2) := by decide +kernel
theorem dX3_instances_188 : decode cX3_instances 188 = .ok (.iload_n 2, 1) := by decide +kernel
theorem dX3_instances_189 : decode cX3_instances 189 = .ok (.iload_n 3, 1) := by decide +kernel
theorem dX3_instances_190 : decode cX3_instances 190 = .ok (.invokestatic 48, 3) := by decide +kernel
theorem dX3_instances_193 : decode cX3_instances 193 = .ok (.ifCond .ne 7, 3) := by decide +kernel
theorem dX3_instances_196 : decode cX3_instances 196 = .ok (.iconst 1, 1) := by decide +kernel
theorem dX3_instances_197 : decode cX3_instances 197 = .ok (.goto 4, 3) := by decide +kernel
theorem dX3_instances_200 : decode cX3_instances 200 = .ok (.iconst 0, 1) := by decide +kernel
theorem dX3_instances_201 : decode cX3_instances 201 = .ok (.ireturn, 1) := by decide +kernel
set_option maxRecDepth 20000 in
theorem ggX3_instancesOf_X3_instances : GoodIn wsX3_instancesOf wsX3_instances := goodIn_r _ [7, 8, 9, 10, 11, 12, 13, 6, 14, 15, 16, 17, 18, 19, 20, 21, 22, 23, 24, 25, 26] (by decide +kernel) (by decide +kernel)
set_option maxRecDepth 20000 in
theorem gX3_instancesOf_X3_instances : GoodIn wsX3_instancesOf (wsV RX3 52 RX3 yX3_instances wsX3_instances) := goodIn_app (goodIn_of _ (by decide +kernel)) ggX3_instancesOf_X3_instances
theorem dX3_instancesOf_0 : decode cX3_instancesOf 0 = .ok (.iconst 0, 1) := by decide +kernel
theorem dX3_instancesOf_1 : decode cX3_instancesOf 1 = .ok (.istore 4, 2) := by decide +kernel
theorem dX3_instancesOf_3 : decode cX3_instancesOf 3 = .ok (.iconst 0, 1) := by decide +kernel
theorem dX3_instancesOf_4 : decode cX3_instancesOf 4 = .ok (.istore 5, 2) := by decide +kernel
theorem dX3_instancesOf_6 : decode cX3_instancesOf 6 = .ok (.iload 5, 2) := by decide +kernel
theorem dX3_instancesOf_8 : decode cX3_instancesOf 8 = .ok (.aload_n 0, 1) := by decide +kernel
theorem dX3_instancesOf_9 : decode cX3_instancesOf 9 = .ok (.getfield 44, 3) := by decide +kernel
theorem dX3_instancesOf_12 : decode cX3_instancesOf 12 = .ok (.if_icmp .ge 38, 3) := by decide +kernel
theorem dX3_instancesOf_15 : decode cX3_instancesOf 15 = .ok (.aload_n 0, 1) := by decide +kernel
theorem dX3_instancesOf_16 : decode cX3_instancesOf 16 = .ok (.getfield 7, 3) := by decide +kernel
theorem dX3_instancesOf_19 : decode cX3_instancesOf 19 = .ok (.iload 5, 2) := by decide +kernel
theorem dX3_instancesOf_21 : decode cX3_instancesOf 21 = .ok (.iaload, 1) := by decide +kernel
theorem dX3_instancesOf_22 : decode cX3_instancesOf 22 = .ok (.iload_n 1, 1) := by decide +kernel
theorem dX3_instancesOf_23 : decode cX3_instancesOf 23 = .ok (.if_icmp .ne 17, 3) := by decide +kernel
theorem dX3_instancesOf_26 : decode cX3_instancesOf 26 = .ok (.iload 4, 2) := by decide +kernel
theorem dX3_instancesOf_28 : decode cX3_instancesOf 28 = .ok (.aload_n 0, 1) := by decide +kernel
theorem dX3_instancesOf_29 : decode cX3_instancesOf 29 = .ok (.iload 5, 2) := by decide +kernel
theorem dX3_instancesOf_31 : decode cX3_instancesOf 31 = .ok (.iload_n 2, 1) := by decide +kernel
theorem dX3_instancesOf_32 : decode cX3_instancesOf 32 = .ok (.iload_n 3, 1) := by decide +kernel
theorem dX3_instancesOf_33 : decode cX3_instancesOf 33 = .ok (.invokevirtual 52, 3) := by decide +kernel
theorem dX3_instancesOf_36 : decode cX3_instancesOf 36 = .ok (.iadd, 1) := by decide +kernel
theorem dX3_instancesOf_37 : decode cX3_instancesOf 37 = .ok (.goto 5, 3) := by decide +kernel
theorem dX3_instancesOf_40 : decode cX3_instancesOf 40 = .ok (.iload 4, 2) := by decide +kernel
theorem dX3_instancesOf_42 : decode cX3_instancesOf 42 = .ok (.istore 4, 2) := by decide +kernel
theorem dX3_instancesOf_44 : decode cX3_instancesOf 44 = .ok (.iinc 5 1, 3) := by decide +kernel
theorem dX3_instancesOf_47 : decode cX3_instancesOf 47 = .ok (.goto (-41), 3) := by decide +kernel
theorem dX3_instancesOf_50 : decode cX3_instancesOf 50 = .ok (.iload 4, 2) := by decide +kernel
theorem dX3_instancesOf_52 : decode cX3_instancesOf 52 = .ok (.ireturn, 1) := by decide +kernel
set_option maxRecDepth 20000 in
theorem ggX3_grow_X3_instancesOf : GoodIn wsX3_grow wsX3_instancesOf := goodIn_r _ [6, 7, 8, 9, 10, 11, 5, 12, 1, 13, 14, 15, 16, 17, 18, 22, 23, 24, 25, 26, 27, 28, 29, 30, 31, 32, 33] (by decide +kernel) (by decide +kernel)
set_option maxRecDepth 20000 in
theorem gX3_grow_X3_instancesOf : GoodIn wsX3_grow (wsV RX3 56 RX3 yX3_instancesOf wsX3_instancesOf) := goodIn_app (goodIn_of _ (by decide +kernel)) ggX3_grow_X3_instancesOf
set_option maxRecDepth 20000 in
theorem ggX3_grow_X3_bit : GoodIn wsX3_grow wsX3_bit := goodIn_r _ [21] (by decide +kernel) (by decide +kernel)
set_option maxRecDepth 20000 in
theorem gX3_grow_X3_bit : GoodIn wsX3_grow (va_wsS RX3 59 yX3_bit wsX3_bit) := goodIn_app (goodIn_of _ (by decide +kernel)) ggX3_grow_X3_bit
theorem dX3_grow_0 : decode cX3_grow 0 = .ok (.aload_n 0, 1) := by decide +kernel
theorem dX3_grow_1 : decode cX3_grow 1 = .ok (.getfield 22, 3) := by decide +kernel
theorem dX3_grow_4 : decode cX3_grow 4 = .ok (.iload_n 1, 1) := by decide +kernel
theorem dX3_grow_5 : decode cX3_grow 5 = .ok (.iaload, 1) := by decide +kernel
theorem dX3_grow_6 : decode cX3_grow 6 = .ok (.istore_n 2, 1) := by decide +kernel
theorem dX3_grow_7 : decode cX3_grow 7 = .ok (.iconst 0, 1) := by decide +kernel
theorem dX3_grow_8 : decode cX3_grow 8 = .ok (.istore_n 3, 1) := by decide +kernel
theorem dX3_grow_9 : decode cX3_grow 9 = .ok (.iload_n 3, 1) := by decide +kernel
theorem dX3_grow_10 : decode cX3_grow 10 = .ok (.iconst 5, 1) := by decide +kernel
theorem dX3_grow_11 : decode cX3_grow 11 = .ok (.if_icmp .ge 48, 3) := by decide +kernel
theorem dX3_grow_14 : decode cX3_grow 14 = .ok (.iconst 0, 1) := by decide +kernel
theorem dX3_grow_15 : decode cX3_grow 15 = .ok (.istore 4, 2) := by decide +kernel
theorem dX3_grow_17 : decode cX3_grow 17 = .ok (.iload 4, 2) := by decide +kernel
theorem dX3_grow_19 : decode cX3_grow 19 = .ok (.iconst 5, 1) := by decide +kernel
theorem dX3_grow_20 : decode cX3_grow 20 = .ok (.if_icmp .ge 33, 3) := by decide +kernel
theorem dX3_grow_23 : decode cX3_grow 23 = .ok (.aload_n 0, 1) := by decide +kernel
theorem dX3_grow_24 : decode cX3_grow 24 = .ok (.iload_n 1, 1) := by decide +kernel
theorem dX3_grow_25 : decode cX3_grow 25 = .ok (.iload_n 3, 1) := by decide +kernel
theorem dX3_grow_26 : decode cX3_grow 26 = .ok (.iload 4, 2) := by decide +kernel
theorem dX3_grow_28 : decode cX3_grow 28 = .ok (.invokevirtual 56, 3) := by decide +kernel
theorem dX3_grow_31 : decode cX3_grow 31 = .ok (.ifCond .le 14, 3) := by decide +kernel
theorem dX3_grow_34 : decode cX3_grow 34 = .ok (.iload_n 2, 1) := by decide +kernel
theorem dX3_grow_35 : decode cX3_grow 35 = .ok (.iload_n 3, 1) := by decide +kernel
theorem dX3_grow_36 : decode cX3_grow 36 = .ok (.iload 4, 2) := by decide +kernel
theorem dX3_grow_38 : decode cX3_grow 38 = .ok (.invokestatic 59, 3) := by decide +kernel
theorem dX3_grow_41 : decode cX3_grow 41 = .ok (.ior, 1) := by decide +kernel
theorem dX3_grow_42 : decode cX3_grow 42 = .ok (.goto 4, 3) := by decide +kernel
theorem dX3_grow_45 : decode cX3_grow 45 = .ok (.iload_n 2, 1) := by decide +kernel
theorem dX3_grow_46 : decode cX3_grow 46 = .ok (.istore_n 2, 1) := by decide +kernel
theorem dX3_grow_47 : decode cX3_grow 47 = .ok (.iinc 4 1, 3) := by decide +kernel
theorem dX3_grow_50 : decode cX3_grow 50 = .ok (.goto (-33), 3) := by decide +kernel
theorem dX3_grow_53 : decode cX3_grow 53 = .ok (.iinc 3 1, 3) := by decide +kernel
theorem dX3_grow_56 : decode cX3_grow 56 = .ok (.goto (-47), 3) := by decide +kernel
theorem dX3_grow_59 : decode cX3_grow 59 = .ok (.iload_n 2, 1) := by decide +kernel
theorem dX3_grow_60 : decode cX3_grow 60 = .ok (.aload_n 0, 1) := by decide +kernel
theorem dX3_grow_61 : decode cX3_grow 61 = .ok (.getfield 22, 3) := by decide +kernel
theorem dX3_grow_64 : decode cX3_grow 64 = .ok (.iload_n 1, 1) := by decide +kernel
theorem dX3_grow_65 : decode cX3_grow 65 = .ok (.iaload, 1) := by decide +kernel
theorem dX3_grow_66 : decode cX3_grow 66 = .ok (.if_icmp .eq 7, 3) := by decide +kernel
theorem dX3_grow_69 : decode cX3_grow 69 = .ok (.iconst 1, 1) := by decide +kernel
theorem dX3_grow_70 : decode cX3_grow 70 = .ok (.goto 4, 3) := by decide +kernel
theorem dX3_grow_73 : decode cX3_grow 73 = .ok (.iconst 0, 1) := by decide +kernel
theorem dX3_grow_74 : decode cX3_grow 74 = .ok (.istore_n 3, 1) := by decide +kernel
theorem dX3_grow_75 : decode cX3_grow 75 = .ok (.aload_n 0, 1) := by decide +kernel
theorem dX3_grow_76 : decode cX3_grow 76 = .ok (.getfield 22, 3) := by decide +kernel
theorem dX3_grow_79 : decode cX3_grow 79 = .ok (.iload_n 1, 1) := by decide +kernel
theorem dX3_grow_80 : decode cX3_grow 80 = .ok (.iload_n 2, 1) := by decide +kernel
theorem dX3_grow_81 : decode cX3_grow 81 = .ok (.iastore, 1) := by decide +kernel
theorem dX3_grow_82 : decode cX3_grow 82 = .ok (.iload_n 3, 1) := by decide +kernel
theorem dX3_grow_83 : decode cX3_grow 83 = .ok (.ireturn, 1) := by decide +kernel
theorem dX3_together_0 : decode cX3_together 0 = .ok (.iload_n 1, 1) := by decide +kernel
theorem dX3_together_1 : decode cX3_together 1 = .ok (.iload_n 2, 1) := by decide +kernel
theorem dX3_together_2 : decode cX3_together 2 = .ok (.if_icmp .eq 31, 3) := by decide +kernel
theorem dX3_together_5 : decode cX3_together 5 = .ok (.aload_n 0, 1) := by decide +kernel
theorem dX3_together_6 : decode cX3_together 6 = .ok (.getfield 37, 3) := by decide +kernel
theorem dX3_together_9 : decode cX3_together 9 = .ok (.bipush 7, 2) := by decide +kernel
theorem dX3_together_11 : decode cX3_together 11 = .ok (.iload_n 1, 1) := by decide +kernel
theorem dX3_together_12 : decode cX3_together 12 = .ok (.imul, 1) := by decide +kernel
theorem dX3_together_13 : decode cX3_together 13 = .ok (.iload_n 2, 1) := by decide +kernel
theorem dX3_together_14 : decode cX3_together 14 = .ok (.iadd, 1) := by decide +kernel
theorem dX3_together_15 : decode cX3_together 15 = .ok (.baload, 1) := by decide +kernel
theorem dX3_together_16 : decode cX3_together 16 = .ok (.ifCond .eq 21, 3) := by decide +kernel
theorem dX3_together_19 : decode cX3_together 19 = .ok (.aload_n 0, 1) := by decide +kernel
theorem dX3_together_20 : decode cX3_together 20 = .ok (.getfield 37, 3) := by decide +kernel
theorem dX3_together_23 : decode cX3_together 23 = .ok (.bipush 7, 2) := by decide +kernel
theorem dX3_together_25 : decode cX3_together 25 = .ok (.iload_n 2, 1) := by decide +kernel
theorem dX3_together_26 : decode cX3_together 26 = .ok (.imul, 1) := by decide +kernel
theorem dX3_together_27 : decode cX3_together 27 = .ok (.iload_n 1, 1) := by decide +kernel
theorem dX3_together_28 : decode cX3_together 28 = .ok (.iadd, 1) := by decide +kernel
theorem dX3_together_29 : decode cX3_together 29 = .ok (.baload, 1) := by decide +kernel
theorem dX3_together_30 : decode cX3_together 30 = .ok (.ifCond .eq 7, 3) := by decide +kernel
theorem dX3_together_33 : decode cX3_together 33 = .ok (.iconst 1, 1) := by decide +kernel
theorem dX3_together_34 : decode cX3_together 34 = .ok (.goto 4, 3) := by decide +kernel
theorem dX3_together_37 : decode cX3_together 37 = .ok (.iconst 0, 1) := by decide +kernel
theorem dX3_together_38 : decode cX3_together 38 = .ok (.ireturn, 1) := by decide +kernel
set_option maxRecDepth 20000 in
theorem ggX3_due_X3_together : GoodIn wsX3_due wsX3_together := goodIn_r _ [7, 2, 8, 9, 10, 11, 12, 13, 14, 15, 16, 17, 18, 19] (by decide +kernel) (by decide +kernel)
set_option maxRecDepth 20000 in
theorem gX3_due_X3_together : GoodIn wsX3_due (wsV RX3 63 RX3 yX3_together wsX3_together) := goodIn_app (goodIn_of _ (by decide +kernel)) ggX3_due_X3_together
theorem dX3_due_0 : decode cX3_due 0 = .ok (.aload_n 0, 1) := by decide +kernel
theorem dX3_due_1 : decode cX3_due 1 = .ok (.getfield 41, 3) := by decide +kernel
theorem dX3_due_4 : decode cX3_due 4 = .ok (.iload_n 1, 1) := by decide +kernel
theorem dX3_due_5 : decode cX3_due 5 = .ok (.baload, 1) := by decide +kernel
theorem dX3_due_6 : decode cX3_due 6 = .ok (.ifCond .ne 7, 3) := by decide +kernel
theorem dX3_due_9 : decode cX3_due 9 = .ok (.iconst 1, 1) := by decide +kernel
theorem dX3_due_10 : decode cX3_due 10 = .ok (.goto 4, 3) := by decide +kernel
theorem dX3_due_13 : decode cX3_due 13 = .ok (.iconst 0, 1) := by decide +kernel
theorem dX3_due_14 : decode cX3_due 14 = .ok (.istore_n 2, 1) := by decide +kernel
theorem dX3_due_15 : decode cX3_due 15 = .ok (.iconst 2, 1) := by decide +kernel
theorem dX3_due_16 : decode cX3_due 16 = .ok (.istore_n 3, 1) := by decide +kernel
theorem dX3_due_17 : decode cX3_due 17 = .ok (.iload_n 3, 1) := by decide +kernel
theorem dX3_due_18 : decode cX3_due 18 = .ok (.bipush 7, 2) := by decide +kernel
theorem dX3_due_20 : decode cX3_due 20 = .ok (.if_icmp .ge 51, 3) := by decide +kernel
theorem dX3_due_23 : decode cX3_due 23 = .ok (.iload_n 2, 1) := by decide +kernel
theorem dX3_due_24 : decode cX3_due 24 = .ok (.ifCond .eq 39, 3) := by decide +kernel
theorem dX3_due_27 : decode cX3_due 27 = .ok (.aload_n 0, 1) := by decide +kernel
theorem dX3_due_28 : decode cX3_due 28 = .ok (.getfield 41, 3) := by decide +kernel
theorem dX3_due_31 : decode cX3_due 31 = .ok (.iload_n 3, 1) := by decide +kernel
theorem dX3_due_32 : decode cX3_due 32 = .ok (.baload, 1) := by decide +kernel
theorem dX3_due_33 : decode cX3_due 33 = .ok (.ifCond .ne 26, 3) := by decide +kernel
theorem dX3_due_36 : decode cX3_due 36 = .ok (.aload_n 0, 1) := by decide +kernel
theorem dX3_due_37 : decode cX3_due 37 = .ok (.getfield 37, 3) := by decide +kernel
theorem dX3_due_40 : decode cX3_due 40 = .ok (.bipush 7, 2) := by decide +kernel
theorem dX3_due_42 : decode cX3_due 42 = .ok (.iload_n 1, 1) := by decide +kernel
theorem dX3_due_43 : decode cX3_due 43 = .ok (.imul, 1) := by decide +kernel
theorem dX3_due_44 : decode cX3_due 44 = .ok (.iload_n 3, 1) := by decide +kernel
theorem dX3_due_45 : decode cX3_due 45 = .ok (.iadd, 1) := by decide +kernel
theorem dX3_due_46 : decode cX3_due 46 = .ok (.baload, 1) := by decide +kernel
theorem dX3_due_47 : decode cX3_due 47 = .ok (.ifCond .eq 12, 3) := by decide +kernel
theorem dX3_due_50 : decode cX3_due 50 = .ok (.aload_n 0, 1) := by decide +kernel
theorem dX3_due_51 : decode cX3_due 51 = .ok (.iload_n 1, 1) := by decide +kernel
theorem dX3_due_52 : decode cX3_due 52 = .ok (.iload_n 3, 1) := by decide +kernel
theorem dX3_due_53 : decode cX3_due 53 = .ok (.invokevirtual 63, 3) := by decide +kernel
theorem dX3_due_56 : decode cX3_due 56 = .ok (.ifCond .eq 7, 3) := by decide +kernel
theorem dX3_due_59 : decode cX3_due 59 = .ok (.iconst 1, 1) := by decide +kernel
theorem dX3_due_60 : decode cX3_due 60 = .ok (.goto 4, 3) := by decide +kernel
theorem dX3_due_63 : decode cX3_due 63 = .ok (.iconst 0, 1) := by decide +kernel
theorem dX3_due_64 : decode cX3_due 64 = .ok (.istore_n 2, 1) := by decide +kernel
theorem dX3_due_65 : decode cX3_due 65 = .ok (.iinc 3 1, 3) := by decide +kernel
theorem dX3_due_68 : decode cX3_due 68 = .ok (.goto (-51), 3) := by decide +kernel
theorem dX3_due_71 : decode cX3_due 71 = .ok (.iload_n 2, 1) := by decide +kernel
theorem dX3_due_72 : decode cX3_due 72 = .ok (.ireturn, 1) := by decide +kernel
set_option maxRecDepth 20000 in
theorem ggX3_make_X3_together : GoodIn wsX3_make wsX3_together := goodIn_r _ [6, 7, 32, 33, 34, 35, 36, 37, 38, 39, 40, 41, 42, 43] (by decide +kernel) (by decide +kernel)
set_option maxRecDepth 20000 in
theorem gX3_make_X3_together : GoodIn wsX3_make (wsV RX3 63 RX3 yX3_together wsX3_together) := goodIn_app (goodIn_of _ (by decide +kernel)) ggX3_make_X3_together
set_option maxRecDepth 20000 in
theorem ggX3_make_X3_grow : GoodIn wsX3_make wsX3_grow := goodIn_r _ [11, 12, 13, 14, 15, 5, 16, 17, 18, 19, 20, 21, 22, 23, 24, 25, 26, 27, 28, 29, 30, 31, 32, 33, 34, 35, 36, 37, 38, 39, 40, 41, 42, 43] (by decide +kernel) (by decide +kernel)
set_option maxRecDepth 20000 in
theorem gX3_make_X3_grow : GoodIn wsX3_make (wsV RX3 67 RX3 yX3_grow wsX3_grow) := goodIn_app (goodIn_of _ (by decide +kernel)) ggX3_make_X3_grow
theorem dX3_make_0 : decode cX3_make 0 = .ok (.iconst 1, 1) := by decide +kernel
theorem dX3_make_1 : decode cX3_make 1 = .ok (.istore_n 2, 1) := by decide +kernel
theorem dX3_make_2 : decode cX3_make 2 = .ok (.iload_n 2, 1) := by decide +kernel
theorem dX3_make_3 : decode cX3_make 3 = .ok (.ifCond .eq 49, 3) := by decide +kernel
theorem dX3_make_6 : decode cX3_make 6 = .ok (.iconst 0, 1) := by decide +kernel
theorem dX3_make_7 : decode cX3_make 7 = .ok (.istore_n 2, 1) := by decide +kernel
theorem dX3_make_8 : decode cX3_make 8 = .ok (.iconst 2, 1) := by decide +kernel
theorem dX3_make_9 : decode cX3_make 9 = .ok (.istore_n 3, 1) := by decide +kernel
theorem dX3_make_10 : decode cX3_make 10 = .ok (.iload_n 3, 1) := by decide +kernel
theorem dX3_make_11 : decode cX3_make 11 = .ok (.bipush 7, 2) := by decide +kernel
theorem dX3_make_13 : decode cX3_make 13 = .ok (.if_icmp .ge 36, 3) := by decide +kernel
theorem dX3_make_16 : decode cX3_make 16 = .ok (.aload_n 0, 1) := by decide +kernel
theorem dX3_make_17 : decode cX3_make 17 = .ok (.iload_n 1, 1) := by decide +kernel
theorem dX3_make_18 : decode cX3_make 18 = .ok (.iload_n 3, 1) := by decide +kernel
theorem dX3_make_19 : decode cX3_make 19 = .ok (.invokevirtual 63, 3) := by decide +kernel
theorem dX3_make_22 : decode cX3_make 22 = .ok (.ifCond .eq 21, 3) := by decide +kernel
theorem dX3_make_25 : decode cX3_make 25 = .ok (.aload_n 0, 1) := by decide +kernel
theorem dX3_make_26 : decode cX3_make 26 = .ok (.iload_n 3, 1) := by decide +kernel
theorem dX3_make_27 : decode cX3_make 27 = .ok (.invokevirtual 67, 3) := by decide +kernel
theorem dX3_make_30 : decode cX3_make 30 = .ok (.ifCond .ne 7, 3) := by decide +kernel
theorem dX3_make_33 : decode cX3_make 33 = .ok (.iload_n 2, 1) := by decide +kernel
theorem dX3_make_34 : decode cX3_make 34 = .ok (.ifCond .eq 7, 3) := by decide +kernel
theorem dX3_make_37 : decode cX3_make 37 = .ok (.iconst 1, 1) := by decide +kernel
theorem dX3_make_38 : decode cX3_make 38 = .ok (.goto 4, 3) := by decide +kernel
theorem dX3_make_41 : decode cX3_make 41 = .ok (.iconst 0, 1) := by decide +kernel
theorem dX3_make_42 : decode cX3_make 42 = .ok (.istore_n 2, 1) := by decide +kernel
theorem dX3_make_43 : decode cX3_make 43 = .ok (.iinc 3 1, 3) := by decide +kernel
theorem dX3_make_46 : decode cX3_make 46 = .ok (.goto (-36), 3) := by decide +kernel
theorem dX3_make_49 : decode cX3_make 49 = .ok (.goto (-47), 3) := by decide +kernel
theorem dX3_make_52 : decode cX3_make 52 = .ok (.iconst 2, 1) := by decide +kernel
theorem dX3_make_53 : decode cX3_make 53 = .ok (.istore_n 3, 1) := by decide +kernel
theorem dX3_make_54 : decode cX3_make 54 = .ok (.iload_n 3, 1) := by decide +kernel
theorem dX3_make_55 : decode cX3_make 55 = .ok (.bipush 7, 2) := by decide +kernel
theorem dX3_make_57 : decode cX3_make 57 = .ok (.if_icmp .ge 38, 3) := by decide +kernel
theorem dX3_make_60 : decode cX3_make 60 = .ok (.aload_n 0, 1) := by decide +kernel
theorem dX3_make_61 : decode cX3_make 61 = .ok (.getfield 41, 3) := by decide +kernel
theorem dX3_make_64 : decode cX3_make 64 = .ok (.iload_n 3, 1) := by decide +kernel
theorem dX3_make_65 : decode cX3_make 65 = .ok (.aload_n 0, 1) := by decide +kernel
theorem dX3_make_66 : decode cX3_make 66 = .ok (.getfield 41, 3) := by decide +kernel
theorem dX3_make_69 : decode cX3_make 69 = .ok (.iload_n 3, 1) := by decide +kernel
theorem dX3_make_70 : decode cX3_make 70 = .ok (.baload, 1) := by decide +kernel
theorem dX3_make_71 : decode cX3_make 71 = .ok (.ifCond .ne 12, 3) := by decide +kernel
theorem dX3_make_74 : decode cX3_make 74 = .ok (.aload_n 0, 1) := by decide +kernel
theorem dX3_make_75 : decode cX3_make 75 = .ok (.iload_n 1, 1) := by decide +kernel
theorem dX3_make_76 : decode cX3_make 76 = .ok (.iload_n 3, 1) := by decide +kernel
theorem dX3_make_77 : decode cX3_make 77 = .ok (.invokevirtual 63, 3) := by decide +kernel
theorem dX3_make_80 : decode cX3_make 80 = .ok (.ifCond .eq 7, 3) := by decide +kernel
theorem dX3_make_83 : decode cX3_make 83 = .ok (.iconst 1, 1) := by decide +kernel
theorem dX3_make_84 : decode cX3_make 84 = .ok (.goto 4, 3) := by decide +kernel
theorem dX3_make_87 : decode cX3_make 87 = .ok (.iconst 0, 1) := by decide +kernel
theorem dX3_make_88 : decode cX3_make 88 = .ok (.bastore, 1) := by decide +kernel
theorem dX3_make_89 : decode cX3_make 89 = .ok (.iinc 3 1, 3) := by decide +kernel
theorem dX3_make_92 : decode cX3_make 92 = .ok (.goto (-38), 3) := by decide +kernel
theorem dX3_make_95 : decode cX3_make 95 = .ok (.return_, 1) := by decide +kernel
set_option maxRecDepth 20000 in
theorem ggX3_makeAll_X3_due : GoodIn wsX3_makeAll wsX3_due := goodIn_r _ [7, 2, 8, 9, 10, 11, 6, 12, 40, 41, 42, 43, 44, 45, 46, 47, 48, 49, 50, 51] (by decide +kernel) (by decide +kernel)
set_option maxRecDepth 20000 in
theorem gX3_makeAll_X3_due : GoodIn wsX3_makeAll (wsV RX3 71 RX3 yX3_due wsX3_due) := goodIn_app (goodIn_of _ (by decide +kernel)) ggX3_makeAll_X3_due
set_option maxRecDepth 20000 in
theorem ggX3_makeAll_X3_make : GoodIn wsX3_makeAll wsX3_make := goodIn_r _ [16, 2, 9, 10, 11, 6, 12, 8, 17, 18, 19, 20, 1, 21, 22, 23, 24, 25, 26, 27, 28, 29, 30, 31, 32, 33, 34, 35, 36, 37, 38, 39, 40, 41, 42, 43, 44, 45, 46, 47, 48, 49, 50, 51] (by decide +kernel) (by decide +kernel)
set_option maxRecDepth 20000 in
theorem gX3_makeAll_X3_make : GoodIn wsX3_makeAll (wsV RX3 74 RX3 yX3_make wsX3_make) := goodIn_app (goodIn_of _ (by decide +kernel)) ggX3_makeAll_X3_make
theorem dX3_makeAll_0 : decode cX3_makeAll 0 = .ok (.iconst 2, 1) := by decide +kernel
theorem dX3_makeAll_1 : decode cX3_makeAll 1 = .ok (.istore_n 1, 1) := by decide +kernel
theorem dX3_makeAll_2 : decode cX3_makeAll 2 = .ok (.iload_n 1, 1) := by decide +kernel
theorem dX3_makeAll_3 : decode cX3_makeAll 3 = .ok (.bipush 7, 2) := by decide +kernel
theorem dX3_makeAll_5 : decode cX3_makeAll 5 = .ok (.if_icmp .ge 23, 3) := by decide +kernel
theorem dX3_makeAll_8 : decode cX3_makeAll 8 = .ok (.aload_n 0, 1) := by decide +kernel
theorem dX3_makeAll_9 : decode cX3_makeAll 9 = .ok (.getfield 22, 3) := by decide +kernel
theorem dX3_makeAll_12 : decode cX3_makeAll 12 = .ok (.iload_n 1, 1) := by decide +kernel
theorem dX3_makeAll_13 : decode cX3_makeAll 13 = .ok (.iconst 0, 1) := by decide +kernel
theorem dX3_makeAll_14 : decode cX3_makeAll 14 = .ok (.iastore, 1) := by decide +kernel
theorem dX3_makeAll_15 : decode cX3_makeAll 15 = .ok (.aload_n 0, 1) := by decide +kernel
theorem dX3_makeAll_16 : decode cX3_makeAll 16 = .ok (.getfield 41, 3) := by decide +kernel
theorem dX3_makeAll_19 : decode cX3_makeAll 19 = .ok (.iload_n 1, 1) := by decide +kernel
theorem dX3_makeAll_20 : decode cX3_makeAll 20 = .ok (.iconst 0, 1) := by decide +kernel
theorem dX3_makeAll_21 : decode cX3_makeAll 21 = .ok (.bastore, 1) := by decide +kernel
theorem dX3_makeAll_22 : decode cX3_makeAll 22 = .ok (.iinc 1 1, 3) := by decide +kernel
theorem dX3_makeAll_25 : decode cX3_makeAll 25 = .ok (.goto (-23), 3) := by decide +kernel
theorem dX3_makeAll_28 : decode cX3_makeAll 28 = .ok (.iconst 0, 1) := by decide +kernel
theorem dX3_makeAll_29 : decode cX3_makeAll 29 = .ok (.istore_n 1, 1) := by decide +kernel
theorem dX3_makeAll_30 : decode cX3_makeAll 30 = .ok (.iload_n 1, 1) := by decide +kernel
theorem dX3_makeAll_31 : decode cX3_makeAll 31 = .ok (.iconst 5, 1) := by decide +kernel
theorem dX3_makeAll_32 : decode cX3_makeAll 32 = .ok (.if_icmp .ge 36, 3) := by decide +kernel
theorem dX3_makeAll_35 : decode cX3_makeAll 35 = .ok (.iconst 2, 1) := by decide +kernel
theorem dX3_makeAll_36 : decode cX3_makeAll 36 = .ok (.istore_n 2, 1) := by decide +kernel
theorem dX3_makeAll_37 : decode cX3_makeAll 37 = .ok (.iload_n 2, 1) := by decide +kernel
theorem dX3_makeAll_38 : decode cX3_makeAll 38 = .ok (.bipush 7, 2) := by decide +kernel
theorem dX3_makeAll_40 : decode cX3_makeAll 40 = .ok (.if_icmp .ge 22, 3) := by decide +kernel
theorem dX3_makeAll_43 : decode cX3_makeAll 43 = .ok (.aload_n 0, 1) := by decide +kernel
theorem dX3_makeAll_44 : decode cX3_makeAll 44 = .ok (.iload_n 2, 1) := by decide +kernel
theorem dX3_makeAll_45 : decode cX3_makeAll 45 = .ok (.invokevirtual 71, 3) := by decide +kernel
theorem dX3_makeAll_48 : decode cX3_makeAll 48 = .ok (.ifCond .eq 8, 3) := by decide +kernel
theorem dX3_makeAll_51 : decode cX3_makeAll 51 = .ok (.aload_n 0, 1) := by decide +kernel
theorem dX3_makeAll_52 : decode cX3_makeAll 52 = .ok (.iload_n 2, 1) := by decide +kernel
theorem dX3_makeAll_53 : decode cX3_makeAll 53 = .ok (.invokevirtual 74, 3) := by decide +kernel
theorem dX3_makeAll_56 : decode cX3_makeAll 56 = .ok (.iinc 2 1, 3) := by decide +kernel
theorem dX3_makeAll_59 : decode cX3_makeAll 59 = .ok (.goto (-22), 3) := by decide +kernel
theorem dX3_makeAll_62 : decode cX3_makeAll 62 = .ok (.iinc 1 1, 3) := by decide +kernel
theorem dX3_makeAll_65 : decode cX3_makeAll 65 = .ok (.goto (-35), 3) := by decide +kernel
theorem dX3_makeAll_68 : decode cX3_makeAll 68 = .ok (.return_, 1) := by decide +kernel
set_option maxRecDepth 20000 in
theorem ggX3_anew_X3_makeAll : GoodIn wsX3_anew wsX3_makeAll := goodIn_r _ [8, 2, 9, 10, 11, 12, 7, 13, 14, 15, 16, 17, 18, 19, 20, 21, 22, 23, 24, 25, 26, 27, 28, 29, 30, 31, 32, 33, 34, 35, 36, 37, 38, 39, 40, 41, 42, 43, 44, 45, 46, 47, 48, 49, 50, 51, 52, 53, 54, 55, 56, 57] (by decide +kernel) (by decide +kernel)
set_option maxRecDepth 20000 in
theorem gX3_anew_X3_makeAll : GoodIn wsX3_anew (wsV RX3 78 RX3 yX3_makeAll wsX3_makeAll) := goodIn_app (goodIn_of _ (by decide +kernel)) ggX3_anew_X3_makeAll
theorem dX3_anew_0 : decode cX3_anew 0 = .ok (.aload_n 0, 1) := by decide +kernel
theorem dX3_anew_1 : decode cX3_anew 1 = .ok (.invokevirtual 78, 3) := by decide +kernel
theorem dX3_anew_4 : decode cX3_anew 4 = .ok (.iconst 0, 1) := by decide +kernel
theorem dX3_anew_5 : decode cX3_anew 5 = .ok (.istore_n 1, 1) := by decide +kernel
theorem dX3_anew_6 : decode cX3_anew 6 = .ok (.iload_n 1, 1) := by decide +kernel
theorem dX3_anew_7 : decode cX3_anew 7 = .ok (.bipush 7, 2) := by decide +kernel
theorem dX3_anew_9 : decode cX3_anew 9 = .ok (.if_icmp .ge 28, 3) := by decide +kernel
theorem dX3_anew_12 : decode cX3_anew 12 = .ok (.aload_n 0, 1) := by decide +kernel
theorem dX3_anew_13 : decode cX3_anew 13 = .ok (.getfield 25, 3) := by decide +kernel
theorem dX3_anew_16 : decode cX3_anew 16 = .ok (.iload_n 1, 1) := by decide +kernel
theorem dX3_anew_17 : decode cX3_anew 17 = .ok (.aload_n 0, 1) := by decide +kernel
theorem dX3_anew_18 : decode cX3_anew 18 = .ok (.getfield 22, 3) := by decide +kernel
theorem dX3_anew_21 : decode cX3_anew 21 = .ok (.iload_n 1, 1) := by decide +kernel
theorem dX3_anew_22 : decode cX3_anew 22 = .ok (.iaload, 1) := by decide +kernel
theorem dX3_anew_23 : decode cX3_anew 23 = .ok (.iastore, 1) := by decide +kernel
theorem dX3_anew_24 : decode cX3_anew 24 = .ok (.aload_n 0, 1) := by decide +kernel
theorem dX3_anew_25 : decode cX3_anew 25 = .ok (.getfield 28, 3) := by decide +kernel
theorem dX3_anew_28 : decode cX3_anew 28 = .ok (.iload_n 1, 1) := by decide +kernel
theorem dX3_anew_29 : decode cX3_anew 29 = .ok (.iconst 0, 1) := by decide +kernel
theorem dX3_anew_30 : decode cX3_anew 30 = .ok (.iastore, 1) := by decide +kernel
theorem dX3_anew_31 : decode cX3_anew 31 = .ok (.iinc 1 1, 3) := by decide +kernel
theorem dX3_anew_34 : decode cX3_anew 34 = .ok (.goto (-28), 3) := by decide +kernel
theorem dX3_anew_37 : decode cX3_anew 37 = .ok (.return_, 1) := by decide +kernel
set_option maxRecDepth 20000 in
theorem ggX3_rule_X3_within : GoodIn wsX3_rule wsX3_within := goodIn_r _ [9] (by decide +kernel) (by decide +kernel)
set_option maxRecDepth 20000 in
theorem gX3_rule_X3_within : GoodIn wsX3_rule (va_wsS RX3 81 yX3_within wsX3_within) := goodIn_app (goodIn_of _ (by decide +kernel)) ggX3_rule_X3_within
set_option maxRecDepth 20000 in
theorem ggX3_rule_X3_findNeeds : GoodIn wsX3_rule wsX3_findNeeds := goodIn_r _ [13, 14, 1, 2, 4, 5, 3, 61, 62, 63, 64, 65, 66, 67, 68, 69, 70, 71, 72] (by decide +kernel) (by decide +kernel)
set_option maxRecDepth 20000 in
theorem gX3_rule_X3_findNeeds : GoodIn wsX3_rule (wsV RX3 84 RX3 yX3_findNeeds wsX3_findNeeds) := goodIn_app (goodIn_of _ (by decide +kernel)) ggX3_rule_X3_findNeeds
set_option maxRecDepth 20000 in
theorem ggX3_rule_X3_cyclic : GoodIn wsX3_rule wsX3_cyclic := goodIn_r _ [18, 1, 3, 5, 2, 14, 61, 62, 63, 64, 65, 66, 67, 68, 69, 70, 71, 72] (by decide +kernel) (by decide +kernel)
set_option maxRecDepth 20000 in
theorem gX3_rule_X3_cyclic : GoodIn wsX3_rule (wsV RX3 87 RX3 yX3_cyclic wsX3_cyclic) := goodIn_app (goodIn_of _ (by decide +kernel)) ggX3_rule_X3_cyclic
set_option maxRecDepth 20000 in
theorem ggX3_rule_X3_anew : GoodIn wsX3_rule wsX3_anew := goodIn_r _ [22, 23, 24, 25, 26, 27, 28, 8, 29, 30, 31, 32, 33, 34, 14, 35, 36, 37, 38, 39, 40, 41, 42, 43, 44, 45, 46, 47, 48, 49, 50, 1, 2, 51, 52, 53, 54, 4, 5, 3, 55, 56, 57, 58, 59, 60, 61, 62, 63, 64, 65, 66, 67, 68, 69, 70, 71, 72] (by decide +kernel) (by decide +kernel)
set_option maxRecDepth 20000 in
theorem gX3_rule_X3_anew : GoodIn wsX3_rule (wsV RX3 91 RX3 yX3_anew wsX3_anew) := goodIn_app (goodIn_of _ (by decide +kernel)) ggX3_rule_X3_anew
theorem dX3_rule_0 : decode cX3_rule 0 = .ok (.iload_n 1, 1) := by decide +kernel
theorem dX3_rule_1 : decode cX3_rule 1 = .ok (.iconst 2, 1) := by decide +kernel
theorem dX3_rule_2 : decode cX3_rule 2 = .ok (.bipush 6, 2) := by decide +kernel
theorem dX3_rule_4 : decode cX3_rule 4 = .ok (.invokestatic 81, 3) := by decide +kernel
theorem dX3_rule_7 : decode cX3_rule 7 = .ok (.ifCond .eq 33, 3) := by decide +kernel
theorem dX3_rule_10 : decode cX3_rule 10 = .ok (.iload_n 2, 1) := by decide +kernel
theorem dX3_rule_11 : decode cX3_rule 11 = .ok (.iconst 0, 1) := by decide +kernel
theorem dX3_rule_12 : decode cX3_rule 12 = .ok (.iconst 4, 1) := by decide +kernel
theorem dX3_rule_13 : decode cX3_rule 13 = .ok (.invokestatic 81, 3) := by decide +kernel
theorem dX3_rule_16 : decode cX3_rule 16 = .ok (.ifCond .eq 24, 3) := by decide +kernel
theorem dX3_rule_19 : decode cX3_rule 19 = .ok (.iload_n 3, 1) := by decide +kernel
theorem dX3_rule_20 : decode cX3_rule 20 = .ok (.iconst 0, 1) := by decide +kernel
theorem dX3_rule_21 : decode cX3_rule 21 = .ok (.bipush 6, 2) := by decide +kernel
theorem dX3_rule_23 : decode cX3_rule 23 = .ok (.invokestatic 81, 3) := by decide +kernel
theorem dX3_rule_26 : decode cX3_rule 26 = .ok (.ifCond .eq 14, 3) := by decide +kernel
theorem dX3_rule_29 : decode cX3_rule 29 = .ok (.iload 4, 2) := by decide +kernel
theorem dX3_rule_31 : decode cX3_rule 31 = .ok (.iconst 0, 1) := by decide +kernel
theorem dX3_rule_32 : decode cX3_rule 32 = .ok (.bipush 6, 2) := by decide +kernel
theorem dX3_rule_34 : decode cX3_rule 34 = .ok (.invokestatic 81, 3) := by decide +kernel
theorem dX3_rule_37 : decode cX3_rule 37 = .ok (.ifCond .ne 5, 3) := by decide +kernel
theorem dX3_rule_40 : decode cX3_rule 40 = .ok (.iconst (-1), 1) := by decide +kernel
theorem dX3_rule_41 : decode cX3_rule 41 = .ok (.ireturn, 1) := by decide +kernel
theorem dX3_rule_42 : decode cX3_rule 42 = .ok (.aload_n 0, 1) := by decide +kernel
theorem dX3_rule_43 : decode cX3_rule 43 = .ok (.getfield 44, 3) := by decide +kernel
theorem dX3_rule_46 : decode cX3_rule 46 = .ok (.bipush 12, 2) := by decide +kernel
theorem dX3_rule_48 : decode cX3_rule 48 = .ok (.if_icmp .ne 6, 3) := by decide +kernel
theorem dX3_rule_51 : decode cX3_rule 51 = .ok (.bipush (-2), 2) := by decide +kernel
theorem dX3_rule_53 : decode cX3_rule 53 = .ok (.ireturn, 1) := by decide +kernel
theorem dX3_rule_54 : decode cX3_rule 54 = .ok (.aload_n 0, 1) := by decide +kernel
theorem dX3_rule_55 : decode cX3_rule 55 = .ok (.getfield 7, 3) := by decide +kernel
theorem dX3_rule_58 : decode cX3_rule 58 = .ok (.aload_n 0, 1) := by decide +kernel
theorem dX3_rule_59 : decode cX3_rule 59 = .ok (.getfield 44, 3) := by decide +kernel
theorem dX3_rule_62 : decode cX3_rule 62 = .ok (.iload_n 1, 1) := by decide +kernel
theorem dX3_rule_63 : decode cX3_rule 63 = .ok (.iastore, 1) := by decide +kernel
theorem dX3_rule_64 : decode cX3_rule 64 = .ok (.aload_n 0, 1) := by decide +kernel
theorem dX3_rule_65 : decode cX3_rule 65 = .ok (.getfield 13, 3) := by decide +kernel
theorem dX3_rule_68 : decode cX3_rule 68 = .ok (.aload_n 0, 1) := by decide +kernel
theorem dX3_rule_69 : decode cX3_rule 69 = .ok (.getfield 44, 3) := by decide +kernel
theorem dX3_rule_72 : decode cX3_rule 72 = .ok (.iload_n 2, 1) := by decide +kernel
theorem dX3_rule_73 : decode cX3_rule 73 = .ok (.iastore, 1) := by decide +kernel
theorem dX3_rule_74 : decode cX3_rule 74 = .ok (.aload_n 0, 1) := by decide +kernel
theorem dX3_rule_75 : decode cX3_rule 75 = .ok (.getfield 16, 3) := by decide +kernel
theorem dX3_rule_78 : decode cX3_rule 78 = .ok (.aload_n 0, 1) := by decide +kernel
theorem dX3_rule_79 : decode cX3_rule 79 = .ok (.getfield 44, 3) := by decide +kernel
theorem dX3_rule_82 : decode cX3_rule 82 = .ok (.iload_n 3, 1) := by decide +kernel
theorem dX3_rule_83 : decode cX3_rule 83 = .ok (.iastore, 1) := by decide +kernel
theorem dX3_rule_84 : decode cX3_rule 84 = .ok (.aload_n 0, 1) := by decide +kernel
theorem dX3_rule_85 : decode cX3_rule 85 = .ok (.getfield 19, 3) := by decide +kernel
theorem dX3_rule_88 : decode cX3_rule 88 = .ok (.aload_n 0, 1) := by decide +kernel
theorem dX3_rule_89 : decode cX3_rule 89 = .ok (.getfield 44, 3) := by decide +kernel
theorem dX3_rule_92 : decode cX3_rule 92 = .ok (.iload 4, 2) := by decide +kernel
theorem dX3_rule_94 : decode cX3_rule 94 = .ok (.iastore, 1) := by decide +kernel
theorem dX3_rule_95 : decode cX3_rule 95 = .ok (.aload_n 0, 1) := by decide +kernel
theorem dX3_rule_96 : decode cX3_rule 96 = .ok (.dup, 1) := by decide +kernel
theorem dX3_rule_97 : decode cX3_rule 97 = .ok (.getfield 44, 3) := by decide +kernel
theorem dX3_rule_100 : decode cX3_rule 100 = .ok (.iconst 1, 1) := by decide +kernel
theorem dX3_rule_101 : decode cX3_rule 101 = .ok (.iadd, 1) := by decide +kernel
theorem dX3_rule_102 : decode cX3_rule 102 = .ok (.putfield 44, 3) := by decide +kernel
theorem dX3_rule_105 : decode cX3_rule 105 = .ok (.aload_n 0, 1) := by decide +kernel
theorem dX3_rule_106 : decode cX3_rule 106 = .ok (.invokevirtual 84, 3) := by decide +kernel
theorem dX3_rule_109 : decode cX3_rule 109 = .ok (.aload_n 0, 1) := by decide +kernel
theorem dX3_rule_110 : decode cX3_rule 110 = .ok (.invokevirtual 87, 3) := by decide +kernel
theorem dX3_rule_113 : decode cX3_rule 113 = .ok (.ifCond .eq 20, 3) := by decide +kernel
theorem dX3_rule_116 : decode cX3_rule 116 = .ok (.aload_n 0, 1) := by decide +kernel
theorem dX3_rule_117 : decode cX3_rule 117 = .ok (.dup, 1) := by decide +kernel
theorem dX3_rule_118 : decode cX3_rule 118 = .ok (.getfield 44, 3) := by decide +kernel
theorem dX3_rule_121 : decode cX3_rule 121 = .ok (.iconst 1, 1) := by decide +kernel
theorem dX3_rule_122 : decode cX3_rule 122 = .ok (.isub, 1) := by decide +kernel
theorem dX3_rule_123 : decode cX3_rule 123 = .ok (.putfield 44, 3) := by decide +kernel
theorem dX3_rule_126 : decode cX3_rule 126 = .ok (.aload_n 0, 1) := by decide +kernel
theorem dX3_rule_127 : decode cX3_rule 127 = .ok (.invokevirtual 84, 3) := by decide +kernel
theorem dX3_rule_130 : decode cX3_rule 130 = .ok (.bipush (-3), 2) := by decide +kernel
theorem dX3_rule_132 : decode cX3_rule 132 = .ok (.ireturn, 1) := by decide +kernel
theorem dX3_rule_133 : decode cX3_rule 133 = .ok (.aload_n 0, 1) := by decide +kernel
theorem dX3_rule_134 : decode cX3_rule 134 = .ok (.invokevirtual 91, 3) := by decide +kernel
theorem dX3_rule_137 : decode cX3_rule 137 = .ok (.aload_n 0, 1) := by decide +kernel
theorem dX3_rule_138 : decode cX3_rule 138 = .ok (.getfield 44, 3) := by decide +kernel
theorem dX3_rule_141 : decode cX3_rule 141 = .ok (.iconst 1, 1) := by decide +kernel
theorem dX3_rule_142 : decode cX3_rule 142 = .ok (.isub, 1) := by decide +kernel
theorem dX3_rule_143 : decode cX3_rule 143 = .ok (.ireturn, 1) := by decide +kernel
set_option maxRecDepth 20000 in
theorem ggX3_undo_X3_findNeeds : GoodIn wsX3_undo wsX3_findNeeds := goodIn_r _ [6, 7, 1, 8, 9, 10, 11, 54, 55, 56, 57, 58, 59, 60, 61, 62, 63, 64, 65] (by decide +kernel) (by decide +kernel)
set_option maxRecDepth 20000 in
theorem gX3_undo_X3_findNeeds : GoodIn wsX3_undo (wsV RX3 84 RX3 yX3_findNeeds wsX3_findNeeds) := goodIn_app (goodIn_of _ (by decide +kernel)) ggX3_undo_X3_findNeeds
set_option maxRecDepth 20000 in
theorem ggX3_undo_X3_anew : GoodIn wsX3_undo wsX3_anew := goodIn_r _ [15, 16, 17, 18, 19, 20, 21, 5, 22, 23, 24, 25, 26, 27, 7, 28, 29, 30, 31, 32, 33, 34, 35, 36, 37, 38, 39, 40, 41, 42, 43, 1, 8, 44, 45, 46, 47, 9, 10, 11, 48, 49, 50, 51, 52, 53, 54, 55, 56, 57, 58, 59, 60, 61, 62, 63, 64, 65] (by decide +kernel) (by decide +kernel)
set_option maxRecDepth 20000 in
theorem gX3_undo_X3_anew : GoodIn wsX3_undo (wsV RX3 91 RX3 yX3_anew wsX3_anew) := goodIn_app (goodIn_of _ (by decide +kernel)) ggX3_undo_X3_anew
theorem dX3_undo_0 : decode cX3_undo 0 = .ok (.aload_n 0, 1) := by decide +kernel
theorem dX3_undo_1 : decode cX3_undo 1 = .ok (.getfield 44, 3) := by decide +kernel
theorem dX3_undo_4 : decode cX3_undo 4 = .ok (.ifCond .ne 5, 3) := by decide +kernel
theorem dX3_undo_7 : decode cX3_undo 7 = .ok (.iconst (-1), 1) := by decide +kernel
theorem dX3_undo_8 : decode cX3_undo 8 = .ok (.ireturn, 1) := by decide +kernel
theorem dX3_undo_9 : decode cX3_undo 9 = .ok (.aload_n 0, 1) := by decide +kernel
theorem dX3_undo_10 : decode cX3_undo 10 = .ok (.dup, 1) := by decide +kernel
theorem dX3_undo_11 : decode cX3_undo 11 = .ok (.getfield 44, 3) := by decide +kernel
theorem dX3_undo_14 : decode cX3_undo 14 = .ok (.iconst 1, 1) := by decide +kernel
theorem dX3_undo_15 : decode cX3_undo 15 = .ok (.isub, 1) := by decide +kernel
theorem dX3_undo_16 : decode cX3_undo 16 = .ok (.putfield 44, 3) := by decide +kernel
theorem dX3_undo_19 : decode cX3_undo 19 = .ok (.aload_n 0, 1) := by decide +kernel
theorem dX3_undo_20 : decode cX3_undo 20 = .ok (.invokevirtual 84, 3) := by decide +kernel
theorem dX3_undo_23 : decode cX3_undo 23 = .ok (.aload_n 0, 1) := by decide +kernel
theorem dX3_undo_24 : decode cX3_undo 24 = .ok (.invokevirtual 91, 3) := by decide +kernel
theorem dX3_undo_27 : decode cX3_undo 27 = .ok (.aload_n 0, 1) := by decide +kernel
theorem dX3_undo_28 : decode cX3_undo 28 = .ok (.getfield 44, 3) := by decide +kernel
theorem dX3_undo_31 : decode cX3_undo 31 = .ok (.ireturn, 1) := by decide +kernel
set_option maxRecDepth 20000 in
theorem ggX3_stage_X3_within : GoodIn wsX3_stage wsX3_within := goodIn_r _ [6] (by decide +kernel) (by decide +kernel)
set_option maxRecDepth 20000 in
theorem gX3_stage_X3_within : GoodIn wsX3_stage (va_wsS RX3 81 yX3_within wsX3_within) := goodIn_app (goodIn_of _ (by decide +kernel)) ggX3_stage_X3_within
set_option maxRecDepth 20000 in
theorem ggX3_stage_X3_bit : GoodIn wsX3_stage wsX3_bit := goodIn_r _ [9] (by decide +kernel) (by decide +kernel)
set_option maxRecDepth 20000 in
theorem gX3_stage_X3_bit : GoodIn wsX3_stage (va_wsS RX3 59 yX3_bit wsX3_bit) := goodIn_app (goodIn_of _ (by decide +kernel)) ggX3_stage_X3_bit
theorem dX3_stage_0 : decode cX3_stage 0 = .ok (.iload_n 1, 1) := by decide +kernel
theorem dX3_stage_1 : decode cX3_stage 1 = .ok (.iconst 0, 1) := by decide +kernel
theorem dX3_stage_2 : decode cX3_stage 2 = .ok (.iconst 1, 1) := by decide +kernel
theorem dX3_stage_3 : decode cX3_stage 3 = .ok (.invokestatic 81, 3) := by decide +kernel
theorem dX3_stage_6 : decode cX3_stage 6 = .ok (.ifCond .eq 21, 3) := by decide +kernel
theorem dX3_stage_9 : decode cX3_stage 9 = .ok (.iload_n 2, 1) := by decide +kernel
theorem dX3_stage_10 : decode cX3_stage 10 = .ok (.iconst 0, 1) := by decide +kernel
theorem dX3_stage_11 : decode cX3_stage 11 = .ok (.iconst 4, 1) := by decide +kernel
theorem dX3_stage_12 : decode cX3_stage 12 = .ok (.invokestatic 81, 3) := by decide +kernel
theorem dX3_stage_15 : decode cX3_stage 15 = .ok (.ifCond .eq 12, 3) := by decide +kernel
theorem dX3_stage_18 : decode cX3_stage 18 = .ok (.iload_n 3, 1) := by decide +kernel
theorem dX3_stage_19 : decode cX3_stage 19 = .ok (.iconst 0, 1) := by decide +kernel
theorem dX3_stage_20 : decode cX3_stage 20 = .ok (.iconst 4, 1) := by decide +kernel
theorem dX3_stage_21 : decode cX3_stage 21 = .ok (.invokestatic 81, 3) := by decide +kernel
