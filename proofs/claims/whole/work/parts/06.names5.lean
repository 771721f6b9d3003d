set_option maxRecDepth 20000 in
theorem ggX9_longest_X9_arrives : GoodIn wsX9_longest wsX9_arrives := goodIn_r _ [46, 1, 47, 35, 58, 59, 60, 61, 62, 63, 64, 65, 66, 67, 68, 69, 70, 71, 72, 73, 74, 75, 76, 77, 78, 79, 80, 81, 82, 83, 84, 85] (by decide +kernel) (by decide +kernel)
set_option maxRecDepth 20000 in
theorem gX9_longest_X9_arrives : GoodIn wsX9_longest (wsV RX9 221 RX9 yX9_arrives wsX9_arrives) := goodIn_app (goodIn_of _ (by decide +kernel)) ggX9_longest_X9_arrives
theorem dX9_longest_0 : decode cX9_longest 0 = .ok (.iconst 0, 1) := by decide +kernel
theorem dX9_longest_1 : decode cX9_longest 1 = .ok (.istore_n 1, 1) := by decide +kernel
theorem dX9_longest_2 : decode cX9_longest 2 = .ok (.iload_n 1, 1) := by decide +kernel
theorem dX9_longest_3 : decode cX9_longest 3 = .ok (.bipush 16, 2) := by decide +kernel
theorem dX9_longest_5 : decode cX9_longest 5 = .ok (.if_icmp .ge 16, 3) := by decide +kernel
theorem dX9_longest_8 : decode cX9_longest 8 = .ok (.aload_n 0, 1) := by decide +kernel
theorem dX9_longest_9 : decode cX9_longest 9 = .ok (.getfield 77, 3) := by decide +kernel
theorem dX9_longest_12 : decode cX9_longest 12 = .ok (.iload_n 1, 1) := by decide +kernel
theorem dX9_longest_13 : decode cX9_longest 13 = .ok (.dconst 0, 1) := by decide +kernel
theorem dX9_longest_14 : decode cX9_longest 14 = .ok (.dastore, 1) := by decide +kernel
theorem dX9_longest_15 : decode cX9_longest 15 = .ok (.iinc 1 1, 3) := by decide +kernel
theorem dX9_longest_18 : decode cX9_longest 18 = .ok (.goto (-16), 3) := by decide +kernel
theorem dX9_longest_21 : decode cX9_longest 21 = .ok (.iconst 1, 1) := by decide +kernel
theorem dX9_longest_22 : decode cX9_longest 22 = .ok (.istore_n 1, 1) := by decide +kernel
theorem dX9_longest_23 : decode cX9_longest 23 = .ok (.iconst 0, 1) := by decide +kernel
theorem dX9_longest_24 : decode cX9_longest 24 = .ok (.istore_n 2, 1) := by decide +kernel
theorem dX9_longest_25 : decode cX9_longest 25 = .ok (.iload_n 2, 1) := by decide +kernel
theorem dX9_longest_26 : decode cX9_longest 26 = .ok (.bipush 18, 2) := by decide +kernel
theorem dX9_longest_28 : decode cX9_longest 28 = .ok (.if_icmp .ge 18, 3) := by decide +kernel
theorem dX9_longest_31 : decode cX9_longest 31 = .ok (.iload_n 1, 1) := by decide +kernel
theorem dX9_longest_32 : decode cX9_longest 32 = .ok (.ifCond .eq 14, 3) := by decide +kernel
theorem dX9_longest_35 : decode cX9_longest 35 = .ok (.aload_n 0, 1) := by decide +kernel
theorem dX9_longest_36 : decode cX9_longest 36 = .ok (.invokevirtual 232, 3) := by decide +kernel
theorem dX9_longest_39 : decode cX9_longest 39 = .ok (.istore_n 1, 1) := by decide +kernel
theorem dX9_longest_40 : decode cX9_longest 40 = .ok (.iinc 2 1, 3) := by decide +kernel
theorem dX9_longest_43 : decode cX9_longest 43 = .ok (.goto (-18), 3) := by decide +kernel
theorem dX9_longest_46 : decode cX9_longest 46 = .ok (.iload_n 1, 1) := by decide +kernel
theorem dX9_longest_47 : decode cX9_longest 47 = .ok (.ifCond .eq 7, 3) := by decide +kernel
theorem dX9_longest_50 : decode cX9_longest 50 = .ok (.ldc2_w 219, 3) := by decide +kernel
theorem dX9_longest_53 : decode cX9_longest 53 = .ok (.dreturn, 1) := by decide +kernel
theorem dX9_longest_54 : decode cX9_longest 54 = .ok (.dconst 0, 1) := by decide +kernel
theorem dX9_longest_55 : decode cX9_longest 55 = .ok (.dstore_n 2, 1) := by decide +kernel
theorem dX9_longest_56 : decode cX9_longest 56 = .ok (.iconst 0, 1) := by decide +kernel
theorem dX9_longest_57 : decode cX9_longest 57 = .ok (.istore 4, 2) := by decide +kernel
theorem dX9_longest_59 : decode cX9_longest 59 = .ok (.iload 4, 2) := by decide +kernel
theorem dX9_longest_61 : decode cX9_longest 61 = .ok (.bipush 16, 2) := by decide +kernel
theorem dX9_longest_63 : decode cX9_longest 63 = .ok (.if_icmp .ge 60, 3) := by decide +kernel
theorem dX9_longest_66 : decode cX9_longest 66 = .ok (.aload_n 0, 1) := by decide +kernel
theorem dX9_longest_67 : decode cX9_longest 67 = .ok (.iload 4, 2) := by decide +kernel
theorem dX9_longest_69 : decode cX9_longest 69 = .ok (.invokevirtual 225, 3) := by decide +kernel
theorem dX9_longest_72 : decode cX9_longest 72 = .ok (.dstore 5, 2) := by decide +kernel
theorem dX9_longest_74 : decode cX9_longest 74 = .ok (.aload_n 0, 1) := by decide +kernel
theorem dX9_longest_75 : decode cX9_longest 75 = .ok (.getfield 13, 3) := by decide +kernel
theorem dX9_longest_78 : decode cX9_longest 78 = .ok (.iload 4, 2) := by decide +kernel
theorem dX9_longest_80 : decode cX9_longest 80 = .ok (.baload, 1) := by decide +kernel
theorem dX9_longest_81 : decode cX9_longest 81 = .ok (.ifCond .eq 36, 3) := by decide +kernel
theorem dX9_longest_84 : decode cX9_longest 84 = .ok (.dload 5, 2) := by decide +kernel
theorem dX9_longest_86 : decode cX9_longest 86 = .ok (.dconst 0, 1) := by decide +kernel
theorem dX9_longest_87 : decode cX9_longest 87 = .ok (.dcmp .l, 1) := by decide +kernel
theorem dX9_longest_88 : decode cX9_longest 88 = .ok (.ifCond .lt 29, 3) := by decide +kernel
theorem dX9_longest_91 : decode cX9_longest 91 = .ok (.dload 5, 2) := by decide +kernel
theorem dX9_longest_93 : decode cX9_longest 93 = .ok (.ldc2_w 230, 3) := by decide +kernel
theorem dX9_longest_96 : decode cX9_longest 96 = .ok (.dadd, 1) := by decide +kernel
theorem dX9_longest_97 : decode cX9_longest 97 = .ok (.ldc2_w 235, 3) := by decide +kernel
theorem dX9_longest_100 : decode cX9_longest 100 = .ok (.dadd, 1) := by decide +kernel
theorem dX9_longest_101 : decode cX9_longest 101 = .ok (.dload_n 2, 1) := by decide +kernel
theorem dX9_longest_102 : decode cX9_longest 102 = .ok (.dcmp .l, 1) := by decide +kernel
theorem dX9_longest_103 : decode cX9_longest 103 = .ok (.ifCond .le 14, 3) := by decide +kernel
theorem dX9_longest_106 : decode cX9_longest 106 = .ok (.dload 5, 2) := by decide +kernel
theorem dX9_longest_108 : decode cX9_longest 108 = .ok (.ldc2_w 230, 3) := by decide +kernel
theorem dX9_longest_111 : decode cX9_longest 111 = .ok (.dadd, 1) := by decide +kernel
theorem dX9_longest_112 : decode cX9_longest 112 = .ok (.ldc2_w 235, 3) := by decide +kernel
theorem dX9_longest_115 : decode cX9_longest 115 = .ok (.dadd, 1) := by decide +kernel
theorem dX9_longest_116 : decode cX9_longest 116 = .ok (.dstore_n 2, 1) := by decide +kernel
theorem dX9_longest_117 : decode cX9_longest 117 = .ok (.iinc 4 1, 3) := by decide +kernel
theorem dX9_longest_120 : decode cX9_longest 120 = .ok (.goto (-61), 3) := by decide +kernel
theorem dX9_longest_123 : decode cX9_longest 123 = .ok (.iconst 0, 1) := by decide +kernel
theorem dX9_longest_124 : decode cX9_longest 124 = .ok (.istore 4, 2) := by decide +kernel
theorem dX9_longest_126 : decode cX9_longest 126 = .ok (.iload 4, 2) := by decide +kernel
theorem dX9_longest_128 : decode cX9_longest 128 = .ok (.iconst 4, 1) := by decide +kernel
theorem dX9_longest_129 : decode cX9_longest 129 = .ok (.if_icmp .ge 44, 3) := by decide +kernel
theorem dX9_longest_132 : decode cX9_longest 132 = .ok (.aload_n 0, 1) := by decide +kernel
theorem dX9_longest_133 : decode cX9_longest 133 = .ok (.iload 4, 2) := by decide +kernel
theorem dX9_longest_135 : decode cX9_longest 135 = .ok (.invokevirtual 237, 3) := by decide +kernel
theorem dX9_longest_138 : decode cX9_longest 138 = .ok (.istore 5, 2) := by decide +kernel
theorem dX9_longest_140 : decode cX9_longest 140 = .ok (.iload 5, 2) := by decide +kernel
theorem dX9_longest_142 : decode cX9_longest 142 = .ok (.ifCond .lt 25, 3) := by decide +kernel
theorem dX9_longest_145 : decode cX9_longest 145 = .ok (.aload_n 0, 1) := by decide +kernel
theorem dX9_longest_146 : decode cX9_longest 146 = .ok (.iload 5, 2) := by decide +kernel
theorem dX9_longest_148 : decode cX9_longest 148 = .ok (.invokevirtual 221, 3) := by decide +kernel
theorem dX9_longest_151 : decode cX9_longest 151 = .ok (.dstore 6, 2) := by decide +kernel
theorem dX9_longest_153 : decode cX9_longest 153 = .ok (.dload 6, 2) := by decide +kernel
theorem dX9_longest_155 : decode cX9_longest 155 = .ok (.dload_n 2, 1) := by decide +kernel
theorem dX9_longest_156 : decode cX9_longest 156 = .ok (.dcmp .l, 1) := by decide +kernel
theorem dX9_longest_157 : decode cX9_longest 157 = .ok (.ifCond .le 8, 3) := by decide +kernel
theorem dX9_longest_160 : decode cX9_longest 160 = .ok (.dload 6, 2) := by decide +kernel
theorem dX9_longest_162 : decode cX9_longest 162 = .ok (.goto 4, 3) := by decide +kernel
theorem dX9_longest_165 : decode cX9_longest 165 = .ok (.dload_n 2, 1) := by decide +kernel
theorem dX9_longest_166 : decode cX9_longest 166 = .ok (.dstore_n 2, 1) := by decide +kernel
theorem dX9_longest_167 : decode cX9_longest 167 = .ok (.iinc 4 1, 3) := by decide +kernel
theorem dX9_longest_170 : decode cX9_longest 170 = .ok (.goto (-44), 3) := by decide +kernel
theorem dX9_longest_173 : decode cX9_longest 173 = .ok (.dload_n 2, 1) := by decide +kernel
theorem dX9_longest_174 : decode cX9_longest 174 = .ok (.dreturn, 1) := by decide +kernel
set_option maxRecDepth 20000 in
theorem ggX9_slack_X9_longest : GoodIn wsX9_slack wsX9_longest := goodIn_r _ [6, 7, 1, 8, 9, 10, 11, 12, 13, 5, 14, 15, 16, 17, 18, 19, 20, 21, 22, 23, 24, 25, 26, 27, 28, 29, 30, 31, 32, 33, 34, 35, 36, 37, 38, 39, 40, 41, 42, 43, 44, 45, 46, 47, 48, 49, 50, 51, 52, 53, 54, 55, 56, 57, 58, 59, 60, 61, 62, 63, 64, 65, 66, 67, 68, 69, 70, 71, 72, 73, 74, 75, 76, 77, 78, 79, 80, 81, 82, 83, 84, 85, 86, 87, 88, 89] (by decide +kernel) (by decide +kernel)
set_option maxRecDepth 20000 in
theorem gX9_slack_X9_longest : GoodIn wsX9_slack (wsV RX9 240 RX9 yX9_longest wsX9_longest) := goodIn_app (goodIn_of _ (by decide +kernel)) ggX9_slack_X9_longest
theorem dX9_slack_0 : decode cX9_slack 0 = .ok (.aload_n 0, 1) := by decide +kernel
theorem dX9_slack_1 : decode cX9_slack 1 = .ok (.invokevirtual 240, 3) := by decide +kernel
theorem dX9_slack_4 : decode cX9_slack 4 = .ok (.dstore_n 3, 1) := by decide +kernel
theorem dX9_slack_5 : decode cX9_slack 5 = .ok (.dload_n 3, 1) := by decide +kernel
theorem dX9_slack_6 : decode cX9_slack 6 = .ok (.dconst 0, 1) := by decide +kernel
theorem dX9_slack_7 : decode cX9_slack 7 = .ok (.dcmp .g, 1) := by decide +kernel
theorem dX9_slack_8 : decode cX9_slack 8 = .ok (.ifCond .lt 9, 3) := by decide +kernel
theorem dX9_slack_11 : decode cX9_slack 11 = .ok (.dload_n 1, 1) := by decide +kernel
theorem dX9_slack_12 : decode cX9_slack 12 = .ok (.dconst 0, 1) := by decide +kernel
theorem dX9_slack_13 : decode cX9_slack 13 = .ok (.dcmp .l, 1) := by decide +kernel
theorem dX9_slack_14 : decode cX9_slack 14 = .ok (.ifCond .gt 9, 3) := by decide +kernel
theorem dX9_slack_17 : decode cX9_slack 17 = .ok (.ldc2_w 219, 3) := by decide +kernel
theorem dX9_slack_20 : decode cX9_slack 20 = .ok (.goto 6, 3) := by decide +kernel
theorem dX9_slack_23 : decode cX9_slack 23 = .ok (.dload_n 1, 1) := by decide +kernel
theorem dX9_slack_24 : decode cX9_slack 24 = .ok (.dload_n 3, 1) := by decide +kernel
theorem dX9_slack_25 : decode cX9_slack 25 = .ok (.dsub, 1) := by decide +kernel
theorem dX9_slack_26 : decode cX9_slack 26 = .ok (.dreturn, 1) := by decide +kernel
theorem dX9_reset_0 : decode cX9_reset 0 = .ok (.iconst 0, 1) := by decide +kernel
theorem dX9_reset_1 : decode cX9_reset 1 = .ok (.istore_n 1, 1) := by decide +kernel
theorem dX9_reset_2 : decode cX9_reset 2 = .ok (.iload_n 1, 1) := by decide +kernel
theorem dX9_reset_3 : decode cX9_reset 3 = .ok (.bipush 16, 2) := by decide +kernel
theorem dX9_reset_5 : decode cX9_reset 5 = .ok (.if_icmp .ge 38, 3) := by decide +kernel
theorem dX9_reset_8 : decode cX9_reset 8 = .ok (.aload_n 0, 1) := by decide +kernel
theorem dX9_reset_9 : decode cX9_reset 9 = .ok (.getfield 26, 3) := by decide +kernel
theorem dX9_reset_12 : decode cX9_reset 12 = .ok (.iload_n 1, 1) := by decide +kernel
theorem dX9_reset_13 : decode cX9_reset 13 = .ok (.aload_n 0, 1) := by decide +kernel
theorem dX9_reset_14 : decode cX9_reset 14 = .ok (.getfield 13, 3) := by decide +kernel
theorem dX9_reset_17 : decode cX9_reset 17 = .ok (.iload_n 1, 1) := by decide +kernel
theorem dX9_reset_18 : decode cX9_reset 18 = .ok (.baload, 1) := by decide +kernel
theorem dX9_reset_19 : decode cX9_reset 19 = .ok (.ifCond .eq 16, 3) := by decide +kernel
theorem dX9_reset_22 : decode cX9_reset 22 = .ok (.aload_n 0, 1) := by decide +kernel
theorem dX9_reset_23 : decode cX9_reset 23 = .ok (.getfield 17, 3) := by decide +kernel
theorem dX9_reset_26 : decode cX9_reset 26 = .ok (.iload_n 1, 1) := by decide +kernel
theorem dX9_reset_27 : decode cX9_reset 27 = .ok (.baload, 1) := by decide +kernel
theorem dX9_reset_28 : decode cX9_reset 28 = .ok (.ifCond .eq 7, 3) := by decide +kernel
theorem dX9_reset_31 : decode cX9_reset 31 = .ok (.iconst 1, 1) := by decide +kernel
theorem dX9_reset_32 : decode cX9_reset 32 = .ok (.goto 4, 3) := by decide +kernel
theorem dX9_reset_35 : decode cX9_reset 35 = .ok (.iconst 0, 1) := by decide +kernel
theorem dX9_reset_36 : decode cX9_reset 36 = .ok (.iastore, 1) := by decide +kernel
theorem dX9_reset_37 : decode cX9_reset 37 = .ok (.iinc 1 1, 3) := by decide +kernel
theorem dX9_reset_40 : decode cX9_reset 40 = .ok (.goto (-38), 3) := by decide +kernel
theorem dX9_reset_43 : decode cX9_reset 43 = .ok (.iconst 0, 1) := by decide +kernel
theorem dX9_reset_44 : decode cX9_reset 44 = .ok (.istore_n 1, 1) := by decide +kernel
theorem dX9_reset_45 : decode cX9_reset 45 = .ok (.iload_n 1, 1) := by decide +kernel
theorem dX9_reset_46 : decode cX9_reset 46 = .ok (.aload_n 0, 1) := by decide +kernel
theorem dX9_reset_47 : decode cX9_reset 47 = .ok (.getfield 91, 3) := by decide +kernel
theorem dX9_reset_50 : decode cX9_reset 50 = .ok (.if_icmp .ge 29, 3) := by decide +kernel
theorem dX9_reset_53 : decode cX9_reset 53 = .ok (.aload_n 0, 1) := by decide +kernel
theorem dX9_reset_54 : decode cX9_reset 54 = .ok (.getfield 38, 3) := by decide +kernel
theorem dX9_reset_57 : decode cX9_reset 57 = .ok (.iload_n 1, 1) := by decide +kernel
theorem dX9_reset_58 : decode cX9_reset 58 = .ok (.aload_n 0, 1) := by decide +kernel
theorem dX9_reset_59 : decode cX9_reset 59 = .ok (.getfield 35, 3) := by decide +kernel
theorem dX9_reset_62 : decode cX9_reset 62 = .ok (.iload_n 1, 1) := by decide +kernel
theorem dX9_reset_63 : decode cX9_reset 63 = .ok (.baload, 1) := by decide +kernel
theorem dX9_reset_64 : decode cX9_reset 64 = .ok (.ifCond .eq 7, 3) := by decide +kernel
theorem dX9_reset_67 : decode cX9_reset 67 = .ok (.iconst 1, 1) := by decide +kernel
theorem dX9_reset_68 : decode cX9_reset 68 = .ok (.goto 4, 3) := by decide +kernel
theorem dX9_reset_71 : decode cX9_reset 71 = .ok (.iconst 0, 1) := by decide +kernel
theorem dX9_reset_72 : decode cX9_reset 72 = .ok (.iastore, 1) := by decide +kernel
theorem dX9_reset_73 : decode cX9_reset 73 = .ok (.iinc 1 1, 3) := by decide +kernel
theorem dX9_reset_76 : decode cX9_reset 76 = .ok (.goto (-31), 3) := by decide +kernel
theorem dX9_reset_79 : decode cX9_reset 79 = .ok (.return_, 1) := by decide +kernel
theorem dX9_given_0 : decode cX9_given 0 = .ok (.iload_n 1, 1) := by decide +kernel
theorem dX9_given_1 : decode cX9_given 1 = .ok (.ifCond .ge 7, 3) := by decide +kernel
theorem dX9_given_4 : decode cX9_given 4 = .ok (.iconst 0, 1) := by decide +kernel
theorem dX9_given_5 : decode cX9_given 5 = .ok (.goto 26, 3) := by decide +kernel
theorem dX9_given_8 : decode cX9_given 8 = .ok (.iload_n 1, 1) := by decide +kernel
theorem dX9_given_9 : decode cX9_given 9 = .ok (.bipush 16, 2) := by decide +kernel
theorem dX9_given_11 : decode cX9_given 11 = .ok (.if_icmp .lt 14, 3) := by decide +kernel
theorem dX9_given_14 : decode cX9_given 14 = .ok (.iload_n 2, 1) := by decide +kernel
theorem dX9_given_15 : decode cX9_given 15 = .ok (.iload_n 1, 1) := by decide +kernel
theorem dX9_given_16 : decode cX9_given 16 = .ok (.bipush 16, 2) := by decide +kernel
theorem dX9_given_18 : decode cX9_given 18 = .ok (.isub, 1) := by decide +kernel
theorem dX9_given_19 : decode cX9_given 19 = .ok (.ishr, 1) := by decide +kernel
theorem dX9_given_20 : decode cX9_given 20 = .ok (.iconst 1, 1) := by decide +kernel
theorem dX9_given_21 : decode cX9_given 21 = .ok (.iand, 1) := by decide +kernel
theorem dX9_given_22 : decode cX9_given 22 = .ok (.goto 9, 3) := by decide +kernel
theorem dX9_given_25 : decode cX9_given 25 = .ok (.aload_n 0, 1) := by decide +kernel
theorem dX9_given_26 : decode cX9_given 26 = .ok (.getfield 26, 3) := by decide +kernel
theorem dX9_given_29 : decode cX9_given 29 = .ok (.iload_n 1, 1) := by decide +kernel
theorem dX9_given_30 : decode cX9_given 30 = .ok (.iaload, 1) := by decide +kernel
theorem dX9_given_31 : decode cX9_given 31 = .ok (.ireturn, 1) := by decide +kernel
set_option maxRecDepth 20000 in
theorem ggX9_looked_X9_gets : GoodIn wsX9_looked wsX9_gets := goodIn_r _ [6, 7, 8, 9, 5, 10, 11, 12, 13, 14, 15, 16, 17, 18, 19, 20, 21, 22, 23, 24, 25, 26, 27, 28, 29, 35, 36, 37, 38, 39, 40, 41, 42, 43, 44, 45, 46, 47, 48, 49, 50, 51, 52, 53, 54, 55, 56, 57, 58, 59, 60, 61, 62] (by decide +kernel) (by decide +kernel)
set_option maxRecDepth 20000 in
theorem gX9_looked_X9_gets : GoodIn wsX9_looked (wsV RX9 211 RX9 yX9_gets wsX9_gets) := goodIn_app (goodIn_of _ (by decide +kernel)) ggX9_looked_X9_gets
set_option maxRecDepth 20000 in
theorem ggX9_looked_X9_given : GoodIn wsX9_looked wsX9_given := goodIn_r _ [33, 34, 35, 36, 37, 38, 39, 40, 41, 42, 43, 44, 45, 46, 47, 48, 49, 50, 51, 52, 53, 54, 55, 56, 57, 58, 59, 60, 61, 62] (by decide +kernel) (by decide +kernel)
set_option maxRecDepth 20000 in
theorem gX9_looked_X9_given : GoodIn wsX9_looked (wsV RX9 244 RX9 yX9_given wsX9_given) := goodIn_app (goodIn_of _ (by decide +kernel)) ggX9_looked_X9_given
theorem dX9_looked_0 : decode cX9_looked 0 = .ok (.iconst 0, 1) := by decide +kernel
theorem dX9_looked_1 : decode cX9_looked 1 = .ok (.istore_n 3, 1) := by decide +kernel
theorem dX9_looked_2 : decode cX9_looked 2 = .ok (.iconst 0, 1) := by decide +kernel
theorem dX9_looked_3 : decode cX9_looked 3 = .ok (.istore 4, 2) := by decide +kernel
theorem dX9_looked_5 : decode cX9_looked 5 = .ok (.iload 4, 2) := by decide +kernel
theorem dX9_looked_7 : decode cX9_looked 7 = .ok (.iconst 3, 1) := by decide +kernel
theorem dX9_looked_8 : decode cX9_looked 8 = .ok (.if_icmp .ge 34, 3) := by decide +kernel
theorem dX9_looked_11 : decode cX9_looked 11 = .ok (.aload_n 0, 1) := by decide +kernel
theorem dX9_looked_12 : decode cX9_looked 12 = .ok (.iconst 3, 1) := by decide +kernel
theorem dX9_looked_13 : decode cX9_looked 13 = .ok (.iload_n 1, 1) := by decide +kernel
theorem dX9_looked_14 : decode cX9_looked 14 = .ok (.imul, 1) := by decide +kernel
theorem dX9_looked_15 : decode cX9_looked 15 = .ok (.iload 4, 2) := by decide +kernel
theorem dX9_looked_17 : decode cX9_looked 17 = .ok (.iadd, 1) := by decide +kernel
theorem dX9_looked_18 : decode cX9_looked 18 = .ok (.invokevirtual 211, 3) := by decide +kernel
theorem dX9_looked_21 : decode cX9_looked 21 = .ok (.istore 5, 2) := by decide +kernel
theorem dX9_looked_23 : decode cX9_looked 23 = .ok (.iload_n 3, 1) := by decide +kernel
theorem dX9_looked_24 : decode cX9_looked 24 = .ok (.aload_n 0, 1) := by decide +kernel
theorem dX9_looked_25 : decode cX9_looked 25 = .ok (.iload 5, 2) := by decide +kernel
theorem dX9_looked_27 : decode cX9_looked 27 = .ok (.iload_n 2, 1) := by decide +kernel
theorem dX9_looked_28 : decode cX9_looked 28 = .ok (.invokevirtual 244, 3) := by decide +kernel
theorem dX9_looked_31 : decode cX9_looked 31 = .ok (.iload 4, 2) := by decide +kernel
theorem dX9_looked_33 : decode cX9_looked 33 = .ok (.ishl, 1) := by decide +kernel
theorem dX9_looked_34 : decode cX9_looked 34 = .ok (.iadd, 1) := by decide +kernel
theorem dX9_looked_35 : decode cX9_looked 35 = .ok (.istore_n 3, 1) := by decide +kernel
theorem dX9_looked_36 : decode cX9_looked 36 = .ok (.iinc 4 1, 3) := by decide +kernel
theorem dX9_looked_39 : decode cX9_looked 39 = .ok (.goto (-34), 3) := by decide +kernel
theorem dX9_looked_42 : decode cX9_looked 42 = .ok (.aload_n 0, 1) := by decide +kernel
theorem dX9_looked_43 : decode cX9_looked 43 = .ok (.getfield 7, 3) := by decide +kernel
theorem dX9_looked_46 : decode cX9_looked 46 = .ok (.iload_n 1, 1) := by decide +kernel
theorem dX9_looked_47 : decode cX9_looked 47 = .ok (.iaload, 1) := by decide +kernel
theorem dX9_looked_48 : decode cX9_looked 48 = .ok (.iload_n 3, 1) := by decide +kernel
theorem dX9_looked_49 : decode cX9_looked 49 = .ok (.ishr, 1) := by decide +kernel
theorem dX9_looked_50 : decode cX9_looked 50 = .ok (.iconst 1, 1) := by decide +kernel
theorem dX9_looked_51 : decode cX9_looked 51 = .ok (.iand, 1) := by decide +kernel
theorem dX9_looked_52 : decode cX9_looked 52 = .ok (.ireturn, 1) := by decide +kernel
set_option maxRecDepth 20000 in
theorem ggX9_clock_X9_looked : GoodIn wsX9_clock wsX9_looked := goodIn_r _ [7, 8, 9, 10, 11, 6, 12, 13, 14, 15, 16, 17, 18, 19, 20, 21, 22, 23, 24, 25, 26, 27, 28, 29, 30, 31, 32, 33, 34, 35, 36, 37, 38, 39, 1, 50, 51, 52, 53, 54, 55, 56, 57, 58, 59, 60, 61, 62, 63, 64, 65, 66, 67, 68, 69, 70, 71, 72, 73, 74, 75, 76, 77] (by decide +kernel) (by decide +kernel)
set_option maxRecDepth 20000 in
theorem gX9_clock_X9_looked : GoodIn wsX9_clock (wsV RX9 247 RX9 yX9_looked wsX9_looked) := goodIn_app (goodIn_of _ (by decide +kernel)) ggX9_clock_X9_looked
set_option maxRecDepth 20000 in
theorem ggX9_clock_X9_outputOf : GoodIn wsX9_clock wsX9_outputOf := goodIn_r _ [43, 44, 45, 6, 46, 47, 48, 49, 20, 21, 22, 23, 24, 25, 26, 27, 28, 29, 30, 31, 32, 33, 34, 35, 17, 18, 19, 50, 51, 52, 53, 54, 55, 56, 57, 58, 59, 60, 61, 62, 63, 64, 65, 66, 67, 68, 69, 70, 71, 72, 73, 74, 75, 76, 77] (by decide +kernel) (by decide +kernel)
set_option maxRecDepth 20000 in
theorem gX9_clock_X9_outputOf : GoodIn wsX9_clock (wsV RX9 237 RX9 yX9_outputOf wsX9_outputOf) := goodIn_app (goodIn_of _ (by decide +kernel)) ggX9_clock_X9_outputOf
set_option maxRecDepth 20000 in
theorem ggX9_clock_X9_given : GoodIn wsX9_clock wsX9_given := goodIn_r _ [39, 1, 50, 51, 52, 53, 54, 55, 56, 57, 58, 59, 60, 61, 62, 63, 64, 65, 66, 67, 68, 69, 70, 71, 72, 73, 74, 75, 76, 77] (by decide +kernel) (by decide +kernel)
set_option maxRecDepth 20000 in
theorem gX9_clock_X9_given : GoodIn wsX9_clock (wsV RX9 244 RX9 yX9_given wsX9_given) := goodIn_app (goodIn_of _ (by decide +kernel)) ggX9_clock_X9_given
theorem dX9_clock_0 : decode cX9_clock 0 = .ok (.iconst 0, 1) := by decide +kernel
theorem dX9_clock_1 : decode cX9_clock 1 = .ok (.istore_n 2, 1) := by decide +kernel
theorem dX9_clock_2 : decode cX9_clock 2 = .ok (.iload_n 2, 1) := by decide +kernel
theorem dX9_clock_3 : decode cX9_clock 3 = .ok (.bipush 16, 2) := by decide +kernel
theorem dX9_clock_5 : decode cX9_clock 5 = .ok (.if_icmp .ge 57, 3) := by decide +kernel
theorem dX9_clock_8 : decode cX9_clock 8 = .ok (.iconst 0, 1) := by decide +kernel
theorem dX9_clock_9 : decode cX9_clock 9 = .ok (.istore_n 3, 1) := by decide +kernel
theorem dX9_clock_10 : decode cX9_clock 10 = .ok (.iload_n 3, 1) := by decide +kernel
theorem dX9_clock_11 : decode cX9_clock 11 = .ok (.bipush 16, 2) := by decide +kernel
theorem dX9_clock_13 : decode cX9_clock 13 = .ok (.if_icmp .ge 43, 3) := by decide +kernel
theorem dX9_clock_16 : decode cX9_clock 16 = .ok (.aload_n 0, 1) := by decide +kernel
theorem dX9_clock_17 : decode cX9_clock 17 = .ok (.iload_n 3, 1) := by decide +kernel
theorem dX9_clock_18 : decode cX9_clock 18 = .ok (.iload_n 1, 1) := by decide +kernel
theorem dX9_clock_19 : decode cX9_clock 19 = .ok (.invokevirtual 247, 3) := by decide +kernel
theorem dX9_clock_22 : decode cX9_clock 22 = .ok (.istore 4, 2) := by decide +kernel
theorem dX9_clock_24 : decode cX9_clock 24 = .ok (.aload_n 0, 1) := by decide +kernel
theorem dX9_clock_25 : decode cX9_clock 25 = .ok (.getfield 26, 3) := by decide +kernel
theorem dX9_clock_28 : decode cX9_clock 28 = .ok (.iload_n 3, 1) := by decide +kernel
theorem dX9_clock_29 : decode cX9_clock 29 = .ok (.aload_n 0, 1) := by decide +kernel
theorem dX9_clock_30 : decode cX9_clock 30 = .ok (.getfield 13, 3) := by decide +kernel
theorem dX9_clock_33 : decode cX9_clock 33 = .ok (.iload_n 3, 1) := by decide +kernel
theorem dX9_clock_34 : decode cX9_clock 34 = .ok (.baload, 1) := by decide +kernel
theorem dX9_clock_35 : decode cX9_clock 35 = .ok (.ifCond .eq 12, 3) := by decide +kernel
theorem dX9_clock_38 : decode cX9_clock 38 = .ok (.aload_n 0, 1) := by decide +kernel
theorem dX9_clock_39 : decode cX9_clock 39 = .ok (.getfield 26, 3) := by decide +kernel
theorem dX9_clock_42 : decode cX9_clock 42 = .ok (.iload_n 3, 1) := by decide +kernel
theorem dX9_clock_43 : decode cX9_clock 43 = .ok (.iaload, 1) := by decide +kernel
theorem dX9_clock_44 : decode cX9_clock 44 = .ok (.goto 5, 3) := by decide +kernel
theorem dX9_clock_47 : decode cX9_clock 47 = .ok (.iload 4, 2) := by decide +kernel
theorem dX9_clock_49 : decode cX9_clock 49 = .ok (.iastore, 1) := by decide +kernel
theorem dX9_clock_50 : decode cX9_clock 50 = .ok (.iinc 3 1, 3) := by decide +kernel
theorem dX9_clock_53 : decode cX9_clock 53 = .ok (.goto (-43), 3) := by decide +kernel
theorem dX9_clock_56 : decode cX9_clock 56 = .ok (.iinc 2 1, 3) := by decide +kernel
theorem dX9_clock_59 : decode cX9_clock 59 = .ok (.goto (-57), 3) := by decide +kernel
theorem dX9_clock_62 : decode cX9_clock 62 = .ok (.iconst 0, 1) := by decide +kernel
theorem dX9_clock_63 : decode cX9_clock 63 = .ok (.istore_n 2, 1) := by decide +kernel
theorem dX9_clock_64 : decode cX9_clock 64 = .ok (.iconst 0, 1) := by decide +kernel
theorem dX9_clock_65 : decode cX9_clock 65 = .ok (.istore_n 3, 1) := by decide +kernel
theorem dX9_clock_66 : decode cX9_clock 66 = .ok (.iload_n 3, 1) := by decide +kernel
theorem dX9_clock_67 : decode cX9_clock 67 = .ok (.iconst 4, 1) := by decide +kernel
theorem dX9_clock_68 : decode cX9_clock 68 = .ok (.if_icmp .ge 28, 3) := by decide +kernel
theorem dX9_clock_71 : decode cX9_clock 71 = .ok (.aload_n 0, 1) := by decide +kernel
theorem dX9_clock_72 : decode cX9_clock 72 = .ok (.iload_n 3, 1) := by decide +kernel
theorem dX9_clock_73 : decode cX9_clock 73 = .ok (.invokevirtual 237, 3) := by decide +kernel
theorem dX9_clock_76 : decode cX9_clock 76 = .ok (.istore 4, 2) := by decide +kernel
theorem dX9_clock_78 : decode cX9_clock 78 = .ok (.iload_n 2, 1) := by decide +kernel
theorem dX9_clock_79 : decode cX9_clock 79 = .ok (.aload_n 0, 1) := by decide +kernel
theorem dX9_clock_80 : decode cX9_clock 80 = .ok (.iload 4, 2) := by decide +kernel
theorem dX9_clock_82 : decode cX9_clock 82 = .ok (.iload_n 1, 1) := by decide +kernel
theorem dX9_clock_83 : decode cX9_clock 83 = .ok (.invokevirtual 244, 3) := by decide +kernel
theorem dX9_clock_86 : decode cX9_clock 86 = .ok (.iload_n 3, 1) := by decide +kernel
theorem dX9_clock_87 : decode cX9_clock 87 = .ok (.ishl, 1) := by decide +kernel
theorem dX9_clock_88 : decode cX9_clock 88 = .ok (.iadd, 1) := by decide +kernel
theorem dX9_clock_89 : decode cX9_clock 89 = .ok (.istore_n 2, 1) := by decide +kernel
theorem dX9_clock_90 : decode cX9_clock 90 = .ok (.iinc 3 1, 3) := by decide +kernel
theorem dX9_clock_93 : decode cX9_clock 93 = .ok (.goto (-27), 3) := by decide +kernel
theorem dX9_clock_96 : decode cX9_clock 96 = .ok (.iconst 0, 1) := by decide +kernel
theorem dX9_clock_97 : decode cX9_clock 97 = .ok (.istore_n 3, 1) := by decide +kernel
theorem dX9_clock_98 : decode cX9_clock 98 = .ok (.iconst 0, 1) := by decide +kernel
theorem dX9_clock_99 : decode cX9_clock 99 = .ok (.istore 4, 2) := by decide +kernel
theorem dX9_clock_101 : decode cX9_clock 101 = .ok (.iload 4, 2) := by decide +kernel
theorem dX9_clock_103 : decode cX9_clock 103 = .ok (.bipush 16, 2) := by decide +kernel
theorem dX9_clock_105 : decode cX9_clock 105 = .ok (.if_icmp .ge 22, 3) := by decide +kernel
theorem dX9_clock_108 : decode cX9_clock 108 = .ok (.iload_n 3, 1) := by decide +kernel
theorem dX9_clock_109 : decode cX9_clock 109 = .ok (.aload_n 0, 1) := by decide +kernel
theorem dX9_clock_110 : decode cX9_clock 110 = .ok (.iload 4, 2) := by decide +kernel
theorem dX9_clock_112 : decode cX9_clock 112 = .ok (.iload_n 1, 1) := by decide +kernel
theorem dX9_clock_113 : decode cX9_clock 113 = .ok (.invokevirtual 247, 3) := by decide +kernel
theorem dX9_clock_116 : decode cX9_clock 116 = .ok (.iload 4, 2) := by decide +kernel
theorem dX9_clock_118 : decode cX9_clock 118 = .ok (.ishl, 1) := by decide +kernel
theorem dX9_clock_119 : decode cX9_clock 119 = .ok (.iadd, 1) := by decide +kernel
theorem dX9_clock_120 : decode cX9_clock 120 = .ok (.istore_n 3, 1) := by decide +kernel
theorem dX9_clock_121 : decode cX9_clock 121 = .ok (.iinc 4 1, 3) := by decide +kernel
theorem dX9_clock_124 : decode cX9_clock 124 = .ok (.goto (-23), 3) := by decide +kernel
theorem dX9_clock_127 : decode cX9_clock 127 = .ok (.iconst 0, 1) := by decide +kernel
theorem dX9_clock_128 : decode cX9_clock 128 = .ok (.istore 4, 2) := by decide +kernel
theorem dX9_clock_130 : decode cX9_clock 130 = .ok (.iload 4, 2) := by decide +kernel
theorem dX9_clock_132 : decode cX9_clock 132 = .ok (.bipush 16, 2) := by decide +kernel
theorem dX9_clock_134 : decode cX9_clock 134 = .ok (.if_icmp .ge 42, 3) := by decide +kernel
theorem dX9_clock_137 : decode cX9_clock 137 = .ok (.aload_n 0, 1) := by decide +kernel
theorem dX9_clock_138 : decode cX9_clock 138 = .ok (.getfield 26, 3) := by decide +kernel
theorem dX9_clock_141 : decode cX9_clock 141 = .ok (.iload 4, 2) := by decide +kernel
theorem dX9_clock_143 : decode cX9_clock 143 = .ok (.aload_n 0, 1) := by decide +kernel
theorem dX9_clock_144 : decode cX9_clock 144 = .ok (.getfield 13, 3) := by decide +kernel
theorem dX9_clock_147 : decode cX9_clock 147 = .ok (.iload 4, 2) := by decide +kernel
theorem dX9_clock_149 : decode cX9_clock 149 = .ok (.baload, 1) := by decide +kernel
theorem dX9_clock_150 : decode cX9_clock 150 = .ok (.ifCond .eq 12, 3) := by decide +kernel
theorem dX9_clock_153 : decode cX9_clock 153 = .ok (.iload_n 3, 1) := by decide +kernel
theorem dX9_clock_154 : decode cX9_clock 154 = .ok (.iload 4, 2) := by decide +kernel
theorem dX9_clock_156 : decode cX9_clock 156 = .ok (.ishr, 1) := by decide +kernel
theorem dX9_clock_157 : decode cX9_clock 157 = .ok (.iconst 1, 1) := by decide +kernel
theorem dX9_clock_158 : decode cX9_clock 158 = .ok (.iand, 1) := by decide +kernel
theorem dX9_clock_159 : decode cX9_clock 159 = .ok (.goto 10, 3) := by decide +kernel
theorem dX9_clock_162 : decode cX9_clock 162 = .ok (.aload_n 0, 1) := by decide +kernel
theorem dX9_clock_163 : decode cX9_clock 163 = .ok (.getfield 26, 3) := by decide +kernel
theorem dX9_clock_166 : decode cX9_clock 166 = .ok (.iload 4, 2) := by decide +kernel
theorem dX9_clock_168 : decode cX9_clock 168 = .ok (.iaload, 1) := by decide +kernel
theorem dX9_clock_169 : decode cX9_clock 169 = .ok (.iastore, 1) := by decide +kernel
theorem dX9_clock_170 : decode cX9_clock 170 = .ok (.iinc 4 1, 3) := by decide +kernel
theorem dX9_clock_173 : decode cX9_clock 173 = .ok (.goto (-43), 3) := by decide +kernel
theorem dX9_clock_176 : decode cX9_clock 176 = .ok (.iload_n 2, 1) := by decide +kernel
theorem dX9_clock_177 : decode cX9_clock 177 = .ok (.ireturn, 1) := by decide +kernel
theorem dX9_sourceValue_0 : decode cX9_sourceValue 0 = .ok (.iload_n 1, 1) := by decide +kernel
theorem dX9_sourceValue_1 : decode cX9_sourceValue 1 = .ok (.ifCond .ge 7, 3) := by decide +kernel
theorem dX9_sourceValue_4 : decode cX9_sourceValue 4 = .ok (.iconst 0, 1) := by decide +kernel
theorem dX9_sourceValue_5 : decode cX9_sourceValue 5 = .ok (.goto 26, 3) := by decide +kernel
theorem dX9_sourceValue_8 : decode cX9_sourceValue 8 = .ok (.iload_n 1, 1) := by decide +kernel
theorem dX9_sourceValue_9 : decode cX9_sourceValue 9 = .ok (.bipush 10, 2) := by decide +kernel
theorem dX9_sourceValue_11 : decode cX9_sourceValue 11 = .ok (.if_icmp .lt 14, 3) := by decide +kernel
theorem dX9_sourceValue_14 : decode cX9_sourceValue 14 = .ok (.iload_n 2, 1) := by decide +kernel
theorem dX9_sourceValue_15 : decode cX9_sourceValue 15 = .ok (.iload_n 1, 1) := by decide +kernel
theorem dX9_sourceValue_16 : decode cX9_sourceValue 16 = .ok (.bipush 10, 2) := by decide +kernel
theorem dX9_sourceValue_18 : decode cX9_sourceValue 18 = .ok (.isub, 1) := by decide +kernel
theorem dX9_sourceValue_19 : decode cX9_sourceValue 19 = .ok (.ishr, 1) := by decide +kernel
theorem dX9_sourceValue_20 : decode cX9_sourceValue 20 = .ok (.iconst 1, 1) := by decide +kernel
theorem dX9_sourceValue_21 : decode cX9_sourceValue 21 = .ok (.iand, 1) := by decide +kernel
theorem dX9_sourceValue_22 : decode cX9_sourceValue 22 = .ok (.goto 9, 3) := by decide +kernel
theorem dX9_sourceValue_25 : decode cX9_sourceValue 25 = .ok (.aload_n 0, 1) := by decide +kernel
theorem dX9_sourceValue_26 : decode cX9_sourceValue 26 = .ok (.getfield 81, 3) := by decide +kernel
theorem dX9_sourceValue_29 : decode cX9_sourceValue 29 = .ok (.iload_n 1, 1) := by decide +kernel
theorem dX9_sourceValue_30 : decode cX9_sourceValue 30 = .ok (.iaload, 1) := by decide +kernel
theorem dX9_sourceValue_31 : decode cX9_sourceValue 31 = .ok (.ireturn, 1) := by decide +kernel
set_option maxRecDepth 20000 in
theorem ggX9_lookedUp_X9_sourceValue : GoodIn wsX9_lookedUp wsX9_sourceValue := goodIn_r _ [7, 8, 9, 10, 11, 12, 13, 14, 15, 16, 17, 18, 19, 20, 21, 22, 23, 24, 25, 26, 27, 28, 29, 30, 31, 32, 33, 34, 35, 36] (by decide +kernel) (by decide +kernel)
set_option maxRecDepth 20000 in
theorem gX9_lookedUp_X9_sourceValue : GoodIn wsX9_lookedUp (wsV RX9 250 RX9 yX9_sourceValue wsX9_sourceValue) := goodIn_app (goodIn_of _ (by decide +kernel)) ggX9_lookedUp_X9_sourceValue
theorem dX9_lookedUp_0 : decode cX9_lookedUp 0 = .ok (.iconst 0, 1) := by decide +kernel
theorem dX9_lookedUp_1 : decode cX9_lookedUp 1 = .ok (.istore_n 3, 1) := by decide +kernel
theorem dX9_lookedUp_2 : decode cX9_lookedUp 2 = .ok (.iconst 0, 1) := by decide +kernel
theorem dX9_lookedUp_3 : decode cX9_lookedUp 3 = .ok (.istore 4, 2) := by decide +kernel
theorem dX9_lookedUp_5 : decode cX9_lookedUp 5 = .ok (.iload 4, 2) := by decide +kernel
theorem dX9_lookedUp_7 : decode cX9_lookedUp 7 = .ok (.iconst 3, 1) := by decide +kernel
theorem dX9_lookedUp_8 : decode cX9_lookedUp 8 = .ok (.if_icmp .ge 31, 3) := by decide +kernel
theorem dX9_lookedUp_11 : decode cX9_lookedUp 11 = .ok (.iload_n 3, 1) := by decide +kernel
theorem dX9_lookedUp_12 : decode cX9_lookedUp 12 = .ok (.aload_n 0, 1) := by decide +kernel
theorem dX9_lookedUp_13 : decode cX9_lookedUp 13 = .ok (.aload_n 0, 1) := by decide +kernel
theorem dX9_lookedUp_14 : decode cX9_lookedUp 14 = .ok (.getfield 44, 3) := by decide +kernel
theorem dX9_lookedUp_17 : decode cX9_lookedUp 17 = .ok (.iconst 3, 1) := by decide +kernel
theorem dX9_lookedUp_18 : decode cX9_lookedUp 18 = .ok (.iload_n 1, 1) := by decide +kernel
theorem dX9_lookedUp_19 : decode cX9_lookedUp 19 = .ok (.imul, 1) := by decide +kernel
theorem dX9_lookedUp_20 : decode cX9_lookedUp 20 = .ok (.iload 4, 2) := by decide +kernel
theorem dX9_lookedUp_22 : decode cX9_lookedUp 22 = .ok (.iadd, 1) := by decide +kernel
theorem dX9_lookedUp_23 : decode cX9_lookedUp 23 = .ok (.iaload, 1) := by decide +kernel
theorem dX9_lookedUp_24 : decode cX9_lookedUp 24 = .ok (.iload_n 2, 1) := by decide +kernel
theorem dX9_lookedUp_25 : decode cX9_lookedUp 25 = .ok (.invokevirtual 250, 3) := by decide +kernel
theorem dX9_lookedUp_28 : decode cX9_lookedUp 28 = .ok (.iload 4, 2) := by decide +kernel
theorem dX9_lookedUp_30 : decode cX9_lookedUp 30 = .ok (.ishl, 1) := by decide +kernel
theorem dX9_lookedUp_31 : decode cX9_lookedUp 31 = .ok (.iadd, 1) := by decide +kernel
theorem dX9_lookedUp_32 : decode cX9_lookedUp 32 = .ok (.istore_n 3, 1) := by decide +kernel
theorem dX9_lookedUp_33 : decode cX9_lookedUp 33 = .ok (.iinc 4 1, 3) := by decide +kernel
theorem dX9_lookedUp_36 : decode cX9_lookedUp 36 = .ok (.goto (-31), 3) := by decide +kernel
theorem dX9_lookedUp_39 : decode cX9_lookedUp 39 = .ok (.aload_n 0, 1) := by decide +kernel
theorem dX9_lookedUp_40 : decode cX9_lookedUp 40 = .ok (.getfield 29, 3) := by decide +kernel
theorem dX9_lookedUp_43 : decode cX9_lookedUp 43 = .ok (.iload_n 1, 1) := by decide +kernel
theorem dX9_lookedUp_44 : decode cX9_lookedUp 44 = .ok (.iaload, 1) := by decide +kernel
theorem dX9_lookedUp_45 : decode cX9_lookedUp 45 = .ok (.iload_n 3, 1) := by decide +kernel
theorem dX9_lookedUp_46 : decode cX9_lookedUp 46 = .ok (.ishr, 1) := by decide +kernel
theorem dX9_lookedUp_47 : decode cX9_lookedUp 47 = .ok (.iconst 1, 1) := by decide +kernel
theorem dX9_lookedUp_48 : decode cX9_lookedUp 48 = .ok (.iand, 1) := by decide +kernel
theorem dX9_lookedUp_49 : decode cX9_lookedUp 49 = .ok (.ireturn, 1) := by decide +kernel
set_option maxRecDepth 20000 in
theorem ggX9_run_X9_ring : GoodIn wsX9_run wsX9_ring := goodIn_r _ [10, 1, 2, 3, 5, 11, 12, 9, 13, 23, 24, 25, 26, 27, 28, 29, 30, 31, 32, 33, 34, 35, 36, 37, 38, 39, 40, 41, 42, 43, 44, 45, 46, 47, 48, 49, 50] (by decide +kernel) (by decide +kernel)
set_option maxRecDepth 20000 in
theorem gX9_run_X9_ring : GoodIn wsX9_run (wsV RX9 174 RX9 yX9_ring wsX9_ring) := goodIn_app (goodIn_of _ (by decide +kernel)) ggX9_run_X9_ring
set_option maxRecDepth 20000 in
theorem ggX9_run_X9_lookedUp : GoodIn wsX9_run wsX9_lookedUp := goodIn_r _ [17, 5, 18, 19, 20, 21, 9, 22, 2, 23, 24, 25, 26, 27, 28, 29, 30, 31, 32, 33, 34, 35, 36, 37, 38, 39, 40, 41, 42, 43, 44, 45, 46, 47, 48, 49, 50] (by decide +kernel) (by decide +kernel)
set_option maxRecDepth 20000 in
theorem gX9_run_X9_lookedUp : GoodIn wsX9_run (wsV RX9 253 RX9 yX9_lookedUp wsX9_lookedUp) := goodIn_app (goodIn_of _ (by decide +kernel)) ggX9_run_X9_lookedUp
set_option maxRecDepth 20000 in
theorem ggX9_run_X9_sourceValue : GoodIn wsX9_run wsX9_sourceValue := goodIn_r _ [22, 2, 23, 24, 25, 26, 27, 28, 29, 30, 31, 32, 33, 34, 35, 36, 37, 38, 39, 40, 41, 42, 43, 44, 45, 46, 47, 48, 49, 50] (by decide +kernel) (by decide +kernel)
set_option maxRecDepth 20000 in
theorem gX9_run_X9_sourceValue : GoodIn wsX9_run (wsV RX9 250 RX9 yX9_sourceValue wsX9_sourceValue) := goodIn_app (goodIn_of _ (by decide +kernel)) ggX9_run_X9_sourceValue
theorem dX9_run_0 : decode cX9_run 0 = .ok (.aload_n 0, 1) := by decide +kernel
theorem dX9_run_1 : decode cX9_run 1 = .ok (.invokevirtual 174, 3) := by decide +kernel
theorem dX9_run_4 : decode cX9_run 4 = .ok (.ifCond .eq 6, 3) := by decide +kernel
theorem dX9_run_7 : decode cX9_run 7 = .ok (.bipush (-2), 2) := by decide +kernel
theorem dX9_run_9 : decode cX9_run 9 = .ok (.ireturn, 1) := by decide +kernel
theorem dX9_run_10 : decode cX9_run 10 = .ok (.iconst 0, 1) := by decide +kernel
theorem dX9_run_11 : decode cX9_run 11 = .ok (.istore_n 2, 1) := by decide +kernel
theorem dX9_run_12 : decode cX9_run 12 = .ok (.iload_n 2, 1) := by decide +kernel
theorem dX9_run_13 : decode cX9_run 13 = .ok (.aload_n 0, 1) := by decide +kernel
theorem dX9_run_14 : decode cX9_run 14 = .ok (.getfield 91, 3) := by decide +kernel
theorem dX9_run_17 : decode cX9_run 17 = .ok (.if_icmp .ge 34, 3) := by decide +kernel
theorem dX9_run_20 : decode cX9_run 20 = .ok (.aload_n 0, 1) := by decide +kernel
theorem dX9_run_21 : decode cX9_run 21 = .ok (.getfield 81, 3) := by decide +kernel
theorem dX9_run_24 : decode cX9_run 24 = .ok (.iload_n 2, 1) := by decide +kernel
theorem dX9_run_25 : decode cX9_run 25 = .ok (.aload_n 0, 1) := by decide +kernel
theorem dX9_run_26 : decode cX9_run 26 = .ok (.getfield 32, 3) := by decide +kernel
theorem dX9_run_29 : decode cX9_run 29 = .ok (.iload_n 2, 1) := by decide +kernel
theorem dX9_run_30 : decode cX9_run 30 = .ok (.baload, 1) := by decide +kernel
theorem dX9_run_31 : decode cX9_run 31 = .ok (.ifCond .eq 12, 3) := by decide +kernel
theorem dX9_run_34 : decode cX9_run 34 = .ok (.aload_n 0, 1) := by decide +kernel
theorem dX9_run_35 : decode cX9_run 35 = .ok (.getfield 38, 3) := by decide +kernel
theorem dX9_run_38 : decode cX9_run 38 = .ok (.iload_n 2, 1) := by decide +kernel
theorem dX9_run_39 : decode cX9_run 39 = .ok (.iaload, 1) := by decide +kernel
theorem dX9_run_40 : decode cX9_run 40 = .ok (.goto 4, 3) := by decide +kernel
theorem dX9_run_43 : decode cX9_run 43 = .ok (.iconst 0, 1) := by decide +kernel
theorem dX9_run_44 : decode cX9_run 44 = .ok (.iastore, 1) := by decide +kernel
theorem dX9_run_45 : decode cX9_run 45 = .ok (.iinc 2 1, 3) := by decide +kernel
theorem dX9_run_48 : decode cX9_run 48 = .ok (.goto (-36), 3) := by decide +kernel
theorem dX9_run_51 : decode cX9_run 51 = .ok (.iconst 0, 1) := by decide +kernel
theorem dX9_run_52 : decode cX9_run 52 = .ok (.istore_n 2, 1) := by decide +kernel
theorem dX9_run_53 : decode cX9_run 53 = .ok (.iload_n 2, 1) := by decide +kernel
theorem dX9_run_54 : decode cX9_run 54 = .ok (.bipush 10, 2) := by decide +kernel
theorem dX9_run_56 : decode cX9_run 56 = .ok (.if_icmp .ge 55, 3) := by decide +kernel
theorem dX9_run_59 : decode cX9_run 59 = .ok (.iconst 0, 1) := by decide +kernel
theorem dX9_run_60 : decode cX9_run 60 = .ok (.istore_n 3, 1) := by decide +kernel
theorem dX9_run_61 : decode cX9_run 61 = .ok (.iload_n 3, 1) := by decide +kernel
theorem dX9_run_62 : decode cX9_run 62 = .ok (.aload_n 0, 1) := by decide +kernel
theorem dX9_run_63 : decode cX9_run 63 = .ok (.getfield 91, 3) := by decide +kernel
theorem dX9_run_66 : decode cX9_run 66 = .ok (.if_icmp .ge 39, 3) := by decide +kernel
theorem dX9_run_69 : decode cX9_run 69 = .ok (.aload_n 0, 1) := by decide +kernel
theorem dX9_run_70 : decode cX9_run 70 = .ok (.getfield 81, 3) := by decide +kernel
theorem dX9_run_73 : decode cX9_run 73 = .ok (.iload_n 3, 1) := by decide +kernel
theorem dX9_run_74 : decode cX9_run 74 = .ok (.aload_n 0, 1) := by decide +kernel
theorem dX9_run_75 : decode cX9_run 75 = .ok (.getfield 32, 3) := by decide +kernel
theorem dX9_run_78 : decode cX9_run 78 = .ok (.iload_n 3, 1) := by decide +kernel
theorem dX9_run_79 : decode cX9_run 79 = .ok (.baload, 1) := by decide +kernel
theorem dX9_run_80 : decode cX9_run 80 = .ok (.ifCond .eq 12, 3) := by decide +kernel
theorem dX9_run_83 : decode cX9_run 83 = .ok (.aload_n 0, 1) := by decide +kernel
theorem dX9_run_84 : decode cX9_run 84 = .ok (.getfield 38, 3) := by decide +kernel
theorem dX9_run_87 : decode cX9_run 87 = .ok (.iload_n 3, 1) := by decide +kernel
theorem dX9_run_88 : decode cX9_run 88 = .ok (.iaload, 1) := by decide +kernel
theorem dX9_run_89 : decode cX9_run 89 = .ok (.goto 9, 3) := by decide +kernel
theorem dX9_run_92 : decode cX9_run 92 = .ok (.aload_n 0, 1) := by decide +kernel
theorem dX9_run_93 : decode cX9_run 93 = .ok (.iload_n 3, 1) := by decide +kernel
theorem dX9_run_94 : decode cX9_run 94 = .ok (.iload_n 1, 1) := by decide +kernel
theorem dX9_run_95 : decode cX9_run 95 = .ok (.invokevirtual 253, 3) := by decide +kernel
theorem dX9_run_98 : decode cX9_run 98 = .ok (.iastore, 1) := by decide +kernel
theorem dX9_run_99 : decode cX9_run 99 = .ok (.iinc 3 1, 3) := by decide +kernel
theorem dX9_run_102 : decode cX9_run 102 = .ok (.goto (-41), 3) := by decide +kernel
theorem dX9_run_105 : decode cX9_run 105 = .ok (.iinc 2 1, 3) := by decide +kernel
theorem dX9_run_108 : decode cX9_run 108 = .ok (.goto (-55), 3) := by decide +kernel
theorem dX9_run_111 : decode cX9_run 111 = .ok (.iconst 0, 1) := by decide +kernel
theorem dX9_run_112 : decode cX9_run 112 = .ok (.istore_n 2, 1) := by decide +kernel
theorem dX9_run_113 : decode cX9_run 113 = .ok (.iconst 0, 1) := by decide +kernel
theorem dX9_run_114 : decode cX9_run 114 = .ok (.istore_n 3, 1) := by decide +kernel
theorem dX9_run_115 : decode cX9_run 115 = .ok (.iload_n 3, 1) := by decide +kernel
theorem dX9_run_116 : decode cX9_run 116 = .ok (.iconst 4, 1) := by decide +kernel
theorem dX9_run_117 : decode cX9_run 117 = .ok (.if_icmp .ge 28, 3) := by decide +kernel
theorem dX9_run_120 : decode cX9_run 120 = .ok (.iload_n 2, 1) := by decide +kernel
theorem dX9_run_121 : decode cX9_run 121 = .ok (.aload_n 0, 1) := by decide +kernel
theorem dX9_run_122 : decode cX9_run 122 = .ok (.aload_n 0, 1) := by decide +kernel
theorem dX9_run_123 : decode cX9_run 123 = .ok (.getfield 44, 3) := by decide +kernel
theorem dX9_run_126 : decode cX9_run 126 = .ok (.bipush 30, 2) := by decide +kernel
theorem dX9_run_128 : decode cX9_run 128 = .ok (.iload_n 3, 1) := by decide +kernel
theorem dX9_run_129 : decode cX9_run 129 = .ok (.iadd, 1) := by decide +kernel
theorem dX9_run_130 : decode cX9_run 130 = .ok (.iaload, 1) := by decide +kernel
theorem dX9_run_131 : decode cX9_run 131 = .ok (.iload_n 1, 1) := by decide +kernel
theorem dX9_run_132 : decode cX9_run 132 = .ok (.invokevirtual 250, 3) := by decide +kernel
theorem dX9_run_135 : decode cX9_run 135 = .ok (.iload_n 3, 1) := by decide +kernel
theorem dX9_run_136 : decode cX9_run 136 = .ok (.ishl, 1) := by decide +kernel
theorem dX9_run_137 : decode cX9_run 137 = .ok (.iadd, 1) := by decide +kernel
theorem dX9_run_138 : decode cX9_run 138 = .ok (.istore_n 2, 1) := by decide +kernel
theorem dX9_run_139 : decode cX9_run 139 = .ok (.iinc 3 1, 3) := by decide +kernel
theorem dX9_run_142 : decode cX9_run 142 = .ok (.goto (-27), 3) := by decide +kernel
theorem dX9_run_145 : decode cX9_run 145 = .ok (.iconst 0, 1) := by decide +kernel
theorem dX9_run_146 : decode cX9_run 146 = .ok (.istore_n 3, 1) := by decide +kernel
theorem dX9_run_147 : decode cX9_run 147 = .ok (.iconst 0, 1) := by decide +kernel
theorem dX9_run_148 : decode cX9_run 148 = .ok (.istore 4, 2) := by decide +kernel
theorem dX9_run_150 : decode cX9_run 150 = .ok (.iload 4, 2) := by decide +kernel
theorem dX9_run_152 : decode cX9_run 152 = .ok (.aload_n 0, 1) := by decide +kernel
theorem dX9_run_153 : decode cX9_run 153 = .ok (.getfield 91, 3) := by decide +kernel
theorem dX9_run_156 : decode cX9_run 156 = .ok (.if_icmp .ge 22, 3) := by decide +kernel
theorem dX9_run_159 : decode cX9_run 159 = .ok (.iload_n 3, 1) := by decide +kernel
theorem dX9_run_160 : decode cX9_run 160 = .ok (.aload_n 0, 1) := by decide +kernel
theorem dX9_run_161 : decode cX9_run 161 = .ok (.iload 4, 2) := by decide +kernel
theorem dX9_run_163 : decode cX9_run 163 = .ok (.iload_n 1, 1) := by decide +kernel
theorem dX9_run_164 : decode cX9_run 164 = .ok (.invokevirtual 253, 3) := by decide +kernel
theorem dX9_run_167 : decode cX9_run 167 = .ok (.iload 4, 2) := by decide +kernel
theorem dX9_run_169 : decode cX9_run 169 = .ok (.ishl, 1) := by decide +kernel
theorem dX9_run_170 : decode cX9_run 170 = .ok (.iadd, 1) := by decide +kernel
theorem dX9_run_171 : decode cX9_run 171 = .ok (.istore_n 3, 1) := by decide +kernel
theorem dX9_run_172 : decode cX9_run 172 = .ok (.iinc 4 1, 3) := by decide +kernel
theorem dX9_run_175 : decode cX9_run 175 = .ok (.goto (-25), 3) := by decide +kernel
theorem dX9_run_178 : decode cX9_run 178 = .ok (.iconst 0, 1) := by decide +kernel
theorem dX9_run_179 : decode cX9_run 179 = .ok (.istore 4, 2) := by decide +kernel
theorem dX9_run_181 : decode cX9_run 181 = .ok (.iload 4, 2) := by decide +kernel
theorem dX9_run_183 : decode cX9_run 183 = .ok (.aload_n 0, 1) := by decide +kernel
theorem dX9_run_184 : decode cX9_run 184 = .ok (.getfield 91, 3) := by decide +kernel
theorem dX9_run_187 : decode cX9_run 187 = .ok (.if_icmp .ge 22, 3) := by decide +kernel
theorem dX9_run_190 : decode cX9_run 190 = .ok (.aload_n 0, 1) := by decide +kernel
theorem dX9_run_191 : decode cX9_run 191 = .ok (.getfield 38, 3) := by decide +kernel
theorem dX9_run_194 : decode cX9_run 194 = .ok (.iload 4, 2) := by decide +kernel
theorem dX9_run_196 : decode cX9_run 196 = .ok (.iload_n 3, 1) := by decide +kernel
theorem dX9_run_197 : decode cX9_run 197 = .ok (.iload 4, 2) := by decide +kernel
theorem dX9_run_199 : decode cX9_run 199 = .ok (.ishr, 1) := by decide +kernel
theorem dX9_run_200 : decode cX9_run 200 = .ok (.iconst 1, 1) := by decide +kernel
theorem dX9_run_201 : decode cX9_run 201 = .ok (.iand, 1) := by decide +kernel
theorem dX9_run_202 : decode cX9_run 202 = .ok (.iastore, 1) := by decide +kernel
theorem dX9_run_203 : decode cX9_run 203 = .ok (.iinc 4 1, 3) := by decide +kernel
theorem dX9_run_206 : decode cX9_run 206 = .ok (.goto (-25), 3) := by decide +kernel
theorem dX9_run_209 : decode cX9_run 209 = .ok (.iload_n 2, 1) := by decide +kernel
theorem dX9_run_210 : decode cX9_run 210 = .ok (.ireturn, 1) := by decide +kernel
theorem dJ9_max_7cf53_0 : decode cJ9_max_7cf53 0 = .ok (.iload_n 0, 1) := by decide +kernel
theorem dJ9_max_7cf53_1 : decode cJ9_max_7cf53 1 = .ok (.iload_n 1, 1) := by decide +kernel
theorem dJ9_max_7cf53_2 : decode cJ9_max_7cf53 2 = .ok (.if_icmp .lt 7, 3) := by decide +kernel
theorem dJ9_max_7cf53_5 : decode cJ9_max_7cf53 5 = .ok (.iload_n 0, 1) := by decide +kernel
theorem dJ9_max_7cf53_6 : decode cJ9_max_7cf53 6 = .ok (.goto 4, 3) := by decide +kernel
theorem dJ9_max_7cf53_9 : decode cJ9_max_7cf53 9 = .ok (.iload_n 1, 1) := by decide +kernel
theorem dJ9_max_7cf53_10 : decode cJ9_max_7cf53 10 = .ok (.ireturn, 1) := by decide +kernel
theorem dJ9_min_7cf53_0 : decode cJ9_min_7cf53 0 = .ok (.iload_n 0, 1) := by decide +kernel
theorem dJ9_min_7cf53_1 : decode cJ9_min_7cf53 1 = .ok (.iload_n 1, 1) := by decide +kernel
theorem dJ9_min_7cf53_2 : decode cJ9_min_7cf53 2 = .ok (.if_icmp .gt 7, 3) := by decide +kernel
theorem dJ9_min_7cf53_5 : decode cJ9_min_7cf53 5 = .ok (.iload_n 0, 1) := by decide +kernel
theorem dJ9_min_7cf53_6 : decode cJ9_min_7cf53 6 = .ok (.goto 4, 3) := by decide +kernel
theorem dJ9_min_7cf53_9 : decode cJ9_min_7cf53 9 = .ok (.iload_n 1, 1) := by decide +kernel
theorem dJ9_min_7cf53_10 : decode cJ9_min_7cf53 10 = .ok (.ireturn, 1) := by decide +kernel
theorem dJ7_fill_53178_0 : decode cJ7_fill_53178 0 = .ok (.iconst 0, 1) := by decide +kernel
theorem dJ7_fill_53178_1 : decode cJ7_fill_53178 1 = .ok (.istore_n 2, 1) := by decide +kernel
theorem dJ7_fill_53178_2 : decode cJ7_fill_53178 2 = .ok (.aload_n 0, 1) := by decide +kernel
theorem dJ7_fill_53178_3 : decode cJ7_fill_53178 3 = .ok (.arraylength, 1) := by decide +kernel
theorem dJ7_fill_53178_4 : decode cJ7_fill_53178 4 = .ok (.istore_n 3, 1) := by decide +kernel
theorem dJ7_fill_53178_5 : decode cJ7_fill_53178 5 = .ok (.iload_n 2, 1) := by decide +kernel
theorem dJ7_fill_53178_6 : decode cJ7_fill_53178 6 = .ok (.iload_n 3, 1) := by decide +kernel
theorem dJ7_fill_53178_7 : decode cJ7_fill_53178 7 = .ok (.if_icmp .ge 13, 3) := by decide +kernel
theorem dJ7_fill_53178_10 : decode cJ7_fill_53178 10 = .ok (.aload_n 0, 1) := by decide +kernel
theorem dJ7_fill_53178_11 : decode cJ7_fill_53178 11 = .ok (.iload_n 2, 1) := by decide +kernel
theorem dJ7_fill_53178_12 : decode cJ7_fill_53178 12 = .ok (.iload_n 1, 1) := by decide +kernel
theorem dJ7_fill_53178_13 : decode cJ7_fill_53178 13 = .ok (.iastore, 1) := by decide +kernel
theorem dJ7_fill_53178_14 : decode cJ7_fill_53178 14 = .ok (.iinc 2 1, 3) := by decide +kernel
theorem dJ7_fill_53178_17 : decode cJ7_fill_53178 17 = .ok (.goto (-12), 3) := by decide +kernel
theorem dJ7_fill_53178_20 : decode cJ7_fill_53178 20 = .ok (.return_, 1) := by decide +kernel
set_option maxRecDepth 20000 in
theorem ggL_law_X8_init : GoodIn wsL_law wsX8_init := goodIn_r _ [10, 11, 12, 13, 14, 15, 16, 17, 18, 19, 20, 21, 22, 23, 24, 25, 26, 27, 28, 29, 30, 31, 32, 33, 34, 35, 36, 37, 38, 39, 40, 41, 42, 43, 44, 45, 46, 47, 48, 49, 50, 51, 52, 53, 54, 55, 56, 57, 58, 59, 60, 61, 62, 63, 64, 65, 66, 67, 68, 69, 70, 71, 72, 73, 74, 75, 76, 77, 78, 79, 80, 81, 82, 83, 84, 85, 86, 87, 88, 89, 90, 91, 92, 93, 94, 95, 96, 97, 98, 99, 100, 101, 102, 103, 104, 105, 106, 107, 108, 109, 110, 111, 112, 113, 114, 115, 116, 117, 118, 119, 120, 121, 122, 123, 124, 125, 126, 127, 128, 129, 130, 131, 132, 133, 134, 135, 136, 137, 138, 139, 140, 141, 142, 143, 144, 145, 146, 147, 148, 149, 150, 151, 861, 862, 863, 864, 865, 866, 867, 868, 869, 870, 871, 872, 873, 874, 875, 825, 826, 827, 828, 829, 830, 831, 832, 876, 877, 878, 879, 880, 881, 882, 883, 884, 885, 886, 887, 888, 889, 890, 891, 892, 893, 894, 895, 896, 897, 898, 899, 900, 901, 902, 903, 904, 905] (by decide +kernel) (by decide +kernel)
set_option maxRecDepth 20000 in
theorem gL_law_X8_init : GoodIn wsL_law (wsX8_init) := ggL_law_X8_init
set_option maxRecDepth 20000 in
theorem ggL_law_X9_init : GoodIn wsL_law wsX9_init := goodIn_r _ [154, 155, 12, 13, 41, 156, 84, 157, 158, 159, 160, 161, 162, 163, 164, 165, 166, 167, 168, 169, 170, 171, 172, 173, 174, 175, 176, 177, 178, 179, 180, 833, 834, 835, 836, 837, 838, 839, 840, 841, 842, 843, 844, 845, 846, 847, 848, 849, 850, 851, 852, 853, 854, 855, 856, 857, 858, 859, 860] (by decide +kernel) (by decide +kernel)
set_option maxRecDepth 20000 in
theorem gL_law_X9_init : GoodIn wsL_law (wsX9_init) := ggL_law_X9_init
set_option maxRecDepth 20000 in
theorem ggL_law_X8_cell : GoodIn wsL_law wsX8_cell := goodIn_r _ [184, 20, 185, 186, 187, 19, 188, 189, 83, 85, 86, 89, 825, 826, 827, 828, 829, 830, 831, 832, 865, 866, 867, 868, 869, 870, 871, 872, 873, 874, 875] (by decide +kernel) (by decide +kernel)
set_option maxRecDepth 20000 in
theorem gL_law_X8_cell : GoodIn wsL_law (wsV RL 13 RX8 yX8_cell wsX8_cell) := goodIn_app (goodIn_of _ (by decide +kernel)) ggL_law_X8_cell
set_option maxRecDepth 20000 in
theorem ggL_law_X9_cell : GoodIn wsL_law wsX9_cell := goodIn_r _ [193, 194, 162, 163, 164, 165, 166, 833, 834, 835, 836, 837, 838, 839, 840, 841, 842, 843, 844, 845, 846, 847, 848, 849, 850, 851, 852, 853, 854, 855, 856, 857, 858, 859, 860] (by decide +kernel) (by decide +kernel)
set_option maxRecDepth 20000 in
theorem gL_law_X9_cell : GoodIn wsL_law (wsV RL 17 RX9 yX9_cell wsX9_cell) := goodIn_app (goodIn_of _ (by decide +kernel)) ggL_law_X9_cell
set_option maxRecDepth 20000 in
theorem ggL_law_X8_connect : GoodIn wsL_law wsX8_connect := goodIn_r _ [198, 20, 199, 200, 201, 19, 202, 189, 203, 204, 205, 206, 88, 207, 208, 209, 210, 825, 826, 827, 828, 829, 830, 831, 832, 865, 866, 867, 868, 869, 870, 871, 872, 873, 874, 875] (by decide +kernel) (by decide +kernel)
set_option maxRecDepth 20000 in
theorem gL_law_X8_connect : GoodIn wsL_law (wsV RL 18 RX8 yX8_connect wsX8_connect) := goodIn_app (goodIn_of _ (by decide +kernel)) ggL_law_X8_connect
set_option maxRecDepth 20000 in
theorem ggL_law_X9_connect : GoodIn wsL_law wsX9_connect := goodIn_r _ [214, 194, 167, 215, 216, 5, 217, 218, 219, 220, 221, 833, 834, 835, 836, 837, 838, 839, 840, 841, 842, 843, 844, 845, 846, 847, 848, 849, 850, 851, 852, 853, 854, 855, 856, 857, 858, 859, 860] (by decide +kernel) (by decide +kernel)
set_option maxRecDepth 20000 in
theorem gL_law_X9_connect : GoodIn wsL_law (wsV RL 22 RX9 yX9_connect wsX9_connect) := goodIn_app (goodIn_of _ (by decide +kernel)) ggL_law_X9_connect
set_option maxRecDepth 20000 in
theorem ggL_law_X8_output : GoodIn wsL_law wsX8_output := goodIn_r _ [225, 20, 203, 204, 205, 19, 206, 88, 207, 200, 201, 202, 189, 208, 209, 210, 825, 826, 827, 828, 829, 830, 831, 832, 865, 866, 867, 868, 869, 870, 871, 872, 873, 874, 875] (by decide +kernel) (by decide +kernel)
set_option maxRecDepth 20000 in
theorem gL_law_X8_output : GoodIn wsL_law (wsV RL 23 RX8 yX8_output wsX8_output) := goodIn_app (goodIn_of _ (by decide +kernel)) ggL_law_X8_output
set_option maxRecDepth 20000 in
theorem ggL_law_X9_output : GoodIn wsL_law wsX9_output := goodIn_r _ [229, 167, 215, 216, 5, 217, 218, 219, 220, 221, 194, 833, 834, 835, 836, 837, 838, 839, 840, 841, 842, 843, 844, 845, 846, 847, 848, 849, 850, 851, 852, 853, 854, 855, 856, 857, 858, 859, 860] (by decide +kernel) (by decide +kernel)
set_option maxRecDepth 20000 in
theorem gL_law_X9_output : GoodIn wsL_law (wsV RL 27 RX9 yX9_output wsX9_output) := goodIn_app (goodIn_of _ (by decide +kernel)) ggL_law_X9_output
set_option maxRecDepth 20000 in
theorem ggL_law_X8_fix : GoodIn wsL_law wsX8_fix := goodIn_r _ [233, 20, 234, 235, 236, 19, 237, 189, 87, 207, 200, 201, 202, 825, 826, 827, 828, 829, 830, 831, 832, 865, 866, 867, 868, 869, 870, 871, 872, 873, 874, 875] (by decide +kernel) (by decide +kernel)
set_option maxRecDepth 20000 in
theorem gL_law_X8_fix : GoodIn wsL_law (wsV RL 28 RX8 yX8_fix wsX8_fix) := goodIn_app (goodIn_of _ (by decide +kernel)) ggL_law_X8_fix
set_option maxRecDepth 20000 in
theorem ggL_law_X9_fix : GoodIn wsL_law wsX9_fix := goodIn_r _ [241, 194, 166, 215, 216, 5, 217, 833, 834, 835, 836, 837, 838, 839, 840, 841, 842, 843, 844, 845, 846, 847, 848, 849, 850, 851, 852, 853, 854, 855, 856, 857, 858, 859, 860] (by decide +kernel) (by decide +kernel)
set_option maxRecDepth 20000 in
theorem gL_law_X9_fix : GoodIn wsL_law (wsV RL 31 RX9 yX9_fix wsX9_fix) := goodIn_app (goodIn_of _ (by decide +kernel)) ggL_law_X9_fix
set_option maxRecDepth 20000 in
theorem ggL_law_X8_build : GoodIn wsL_law wsX8_build := goodIn_r _ [245, 20, 24, 28, 32, 246, 247, 248, 19, 249, 189, 250, 251, 252, 253, 254, 92, 85, 255, 256, 257, 258, 88, 91, 207, 200, 201, 202, 259, 260, 261, 23, 262, 98, 99, 263, 264, 265, 266, 267, 268, 269, 27, 270, 271, 272, 273, 274, 106, 104, 275, 53, 54, 55, 276, 277, 278, 279, 280, 87, 281, 282, 283, 284, 107, 285, 286, 287, 288, 105, 289, 290, 291, 292, 293, 294, 295, 296, 297, 298, 299, 300, 301, 302, 303, 304, 305, 306, 307, 308, 309, 310, 311, 312, 313, 314, 315, 316, 317, 318, 319, 320, 321, 322, 323, 324, 325, 326, 327, 328, 329, 330, 31, 331, 120, 332, 333, 334, 335, 336, 119, 124, 125, 113, 337, 338, 339, 340, 341, 122, 342, 123, 343, 344, 345, 346, 114, 347, 348, 61, 16, 62, 349, 350, 351, 352, 121, 353, 354, 355, 356, 357, 118, 358, 359, 360, 361, 362, 363, 364, 117, 365, 131, 366, 130, 367, 368, 369, 370, 371, 372, 373, 374, 375, 376, 377, 378, 379, 112, 380, 381, 382, 383, 51, 50, 384, 385, 386, 387, 388, 389, 390, 391, 392, 393, 394, 395, 396, 397, 49, 398, 399, 400, 401, 402, 403, 404, 68, 69, 70, 405, 406, 407, 408, 409, 410, 411, 412, 413, 414, 415, 416, 48, 417, 418, 419, 420, 421, 422, 423, 2, 424, 42, 43, 36, 199, 425, 426, 427, 428, 429, 430, 431, 432, 433, 83, 86, 434, 435, 436, 437, 438, 439, 440, 35, 441, 138, 139, 442, 443, 444, 445, 446, 447, 448, 449, 450, 451, 452, 453, 136, 454, 455, 456, 457, 458, 459, 460, 461, 141, 142, 462, 463, 464, 465, 466, 467, 468, 469, 470, 471, 472, 825, 826, 827, 828, 829, 830, 831, 832, 865, 866, 867, 868, 869, 870, 871, 872, 873, 874, 875, 876, 877, 878, 879, 880, 881, 882, 883, 884, 885, 886, 887, 888, 889, 890, 891, 892, 902, 903, 904, 905, 861, 862, 863, 864, 893, 894, 895, 896, 897, 898] (by decide +kernel) (by decide +kernel)
set_option maxRecDepth 20000 in
theorem gL_law_X8_build : GoodIn wsL_law (wsV RL 32 RX8 yX8_build wsX8_build) := goodIn_app (goodIn_of _ (by decide +kernel)) ggL_law_X8_build
set_option maxRecDepth 20000 in
theorem ggL_law_X9_build : GoodIn wsL_law wsX9_build := goodIn_r _ [476, 194, 172, 477, 478, 479, 5, 480, 180, 163, 167, 215, 216, 217, 481, 482, 483, 484, 170, 166, 485, 486, 487, 488, 169, 489, 490, 491, 492, 493, 494, 495, 496, 497, 498, 499, 500, 501, 502, 503, 504, 505, 506, 507, 508, 509, 510, 511, 512, 513, 514, 515, 516, 517, 518, 519, 520, 171, 175, 176, 521, 522, 523, 524, 173, 525, 526, 527, 528, 174, 529, 530, 531, 532, 533, 534, 535, 536, 537, 538, 539, 540, 541, 542, 543, 544, 545, 546, 547, 548, 549, 550, 551, 552, 553, 554, 555, 556, 557, 558, 559, 560, 561, 562, 563, 564, 565, 566, 567, 568, 569, 570, 161, 157, 156, 162, 158, 164, 159, 160, 571, 572, 168, 833, 834, 835, 836, 837, 838, 839, 840, 841, 842, 843, 844, 845, 846, 847, 848, 849, 850, 851, 852, 853, 854, 855, 856, 857, 858, 859, 860] (by decide +kernel) (by decide +kernel)
set_option maxRecDepth 20000 in
theorem gL_law_X9_build : GoodIn wsL_law (wsV RL 36 RX9 yX9_build wsX9_build) := goodIn_app (goodIn_of _ (by decide +kernel)) ggL_law_X9_build
set_option maxRecDepth 20000 in
theorem ggL_law_X8_tileOf : GoodIn wsL_law wsX8_tileOf := goodIn_r _ [576, 42, 825, 826, 827, 828, 829, 830, 831, 832] (by decide +kernel) (by decide +kernel)
set_option maxRecDepth 20000 in
theorem gL_law_X8_tileOf : GoodIn wsL_law (wsV RL 37 RX8 yX8_tileOf wsX8_tileOf) := goodIn_app (goodIn_of _ (by decide +kernel)) ggL_law_X8_tileOf
set_option maxRecDepth 20000 in
theorem ggL_law_X9_tileOf : GoodIn wsL_law wsX9_tileOf := goodIn_r _ [580, 571, 168, 215, 216, 5, 217, 833, 834, 835, 836, 837, 838, 839, 840, 841, 842, 843, 844, 845, 846, 847, 848, 849, 850, 851, 852, 853, 854, 855, 856, 857, 858, 859, 860] (by decide +kernel) (by decide +kernel)
set_option maxRecDepth 20000 in
theorem gL_law_X9_tileOf : GoodIn wsL_law (wsV RL 41 RX9 yX9_tileOf wsX9_tileOf) := goodIn_app (goodIn_of _ (by decide +kernel)) ggL_law_X9_tileOf
set_option maxRecDepth 20000 in
theorem ggL_law_X8_cost : GoodIn wsL_law wsX8_cost := goodIn_r _ [584, 43, 825, 826, 827, 828, 829, 830, 831, 832] (by decide +kernel) (by decide +kernel)
set_option maxRecDepth 20000 in
theorem gL_law_X8_cost : GoodIn wsL_law (wsV RL 42 RX8 yX8_cost wsX8_cost) := goodIn_app (goodIn_of _ (by decide +kernel)) ggL_law_X8_cost
set_option maxRecDepth 20000 in
theorem ggL_law_X9_cost : GoodIn wsL_law wsX9_cost := goodIn_r _ [588, 572, 833, 834, 835, 836, 837, 838, 839, 840, 841, 842, 843, 844, 845, 846, 847, 848, 849, 850, 851, 852, 853, 854, 855, 856, 857, 858, 859, 860] (by decide +kernel) (by decide +kernel)
set_option maxRecDepth 20000 in
theorem gL_law_X9_cost : GoodIn wsL_law (wsV RL 45 RX9 yX9_cost wsX9_cost) := goodIn_app (goodIn_of _ (by decide +kernel)) ggL_law_X9_cost
set_option maxRecDepth 20000 in
theorem ggL_law_X8_bits : GoodIn wsL_law wsX8_bits := goodIn_r _ [592, 36, 593, 447, 448, 35, 449, 138, 825, 826, 827, 828, 829, 830, 831, 832, 893, 894, 895, 896, 897, 898] (by decide +kernel) (by decide +kernel)
set_option maxRecDepth 20000 in
theorem gL_law_X8_bits : GoodIn wsL_law (wsV RL 46 RX8 yX8_bits wsX8_bits) := goodIn_app (goodIn_of _ (by decide +kernel)) ggL_law_X8_bits
set_option maxRecDepth 20000 in
theorem ggL_law_X9_bits : GoodIn wsL_law wsX9_bits := goodIn_r _ [597, 156, 157, 598, 158, 599, 159, 160, 215, 216, 5, 217, 833, 834, 835, 836, 837, 838, 839, 840, 841, 842, 843, 844, 845, 846, 847, 848, 849, 850, 851, 852, 853, 854, 855, 856, 857, 858, 859, 860] (by decide +kernel) (by decide +kernel)
set_option maxRecDepth 20000 in
theorem gL_law_X9_bits : GoodIn wsL_law (wsV RL 50 RX9 yX9_bits wsX9_bits) := goodIn_app (goodIn_of _ (by decide +kernel)) ggL_law_X9_bits
set_option maxRecDepth 20000 in
theorem ggL_law_X8_load : GoodIn wsL_law wsX8_load := goodIn_r _ [603, 36, 604, 605, 35, 606, 607, 454, 455, 456, 465, 466, 467, 438, 439, 440, 441, 138, 139, 442, 443, 444, 445, 446, 447, 448, 449, 450, 451, 452, 453, 136, 457, 395, 396, 16, 397, 49, 458, 459, 460, 461, 141, 142, 462, 463, 464, 468, 414, 415, 416, 48, 469, 470, 471, 472, 403, 404, 68, 69, 70, 825, 826, 827, 828, 829, 830, 831, 832, 893, 894, 895, 896, 897, 898, 861, 862, 863, 864] (by decide +kernel) (by decide +kernel)
set_option maxRecDepth 20000 in
theorem gL_law_X8_load : GoodIn wsL_law (wsV RL 53 RX8 yX8_load wsX8_load) := goodIn_app (goodIn_of _ (by decide +kernel)) ggL_law_X8_load
set_option maxRecDepth 20000 in
theorem ggL_law_X9_load : GoodIn wsL_law wsX9_load := goodIn_r _ [611, 612, 613, 614, 615, 161, 157, 156, 616, 158, 159, 160, 215, 216, 5, 217, 833, 834, 835, 836, 837, 838, 839, 840, 841, 842, 843, 844, 845, 846, 847, 848, 849, 850, 851, 852, 853, 854, 855, 856, 857, 858, 859, 860] (by decide +kernel) (by decide +kernel)
set_option maxRecDepth 20000 in
theorem gL_law_X9_load : GoodIn wsL_law (wsV RL 57 RX9 yX9_load wsX9_load) := goodIn_app (goodIn_of _ (by decide +kernel)) ggL_law_X9_load
set_option maxRecDepth 20000 in
theorem ggL_law_X8_checkSum : GoodIn wsL_law wsX8_checkSum := goodIn_r _ [620, 36, 621, 622, 623, 35, 624, 625, 138, 825, 826, 827, 828, 829, 830, 831, 832, 893, 894, 895, 896, 897, 898] (by decide +kernel) (by decide +kernel)
set_option maxRecDepth 20000 in
theorem gL_law_X8_checkSum : GoodIn wsL_law (wsV RL 58 RX8 yX8_checkSum wsX8_checkSum) := goodIn_app (goodIn_of _ (by decide +kernel)) ggL_law_X8_checkSum
set_option maxRecDepth 20000 in
theorem ggL_law_X9_checkSum : GoodIn wsL_law wsX9_checkSum := goodIn_r _ [629, 630, 631, 595, 596, 5, 597, 156, 157, 598, 158, 599, 159, 160, 215, 216, 217, 833, 834, 835, 836, 837, 838, 839, 840, 841, 842, 843, 844, 845, 846, 847, 848, 849, 850, 851, 852, 853, 854, 855, 856, 857, 858, 859, 860] (by decide +kernel) (by decide +kernel)
set_option maxRecDepth 20000 in
theorem gL_law_X9_checkSum : GoodIn wsL_law (wsV RL 61 RX9 yX9_checkSum wsX9_checkSum) := goodIn_app (goodIn_of _ (by decide +kernel)) ggL_law_X9_checkSum
set_option maxRecDepth 20000 in
theorem ggL_law_X8_pin : GoodIn wsL_law wsX8_pin := goodIn_r _ [635, 36, 636, 637, 2, 638, 639, 640, 641, 35, 642, 141, 825, 826, 827, 828, 829, 830, 831, 832, 893, 894, 895, 896, 897, 898] (by decide +kernel) (by decide +kernel)
set_option maxRecDepth 20000 in
theorem gL_law_X8_pin : GoodIn wsL_law (wsV RL 62 RX8 yX8_pin wsX8_pin) := goodIn_app (goodIn_of _ (by decide +kernel)) ggL_law_X8_pin
set_option maxRecDepth 20000 in
theorem ggL_law_X9_pin : GoodIn wsL_law wsX9_pin := goodIn_r _ [646, 215, 216, 5, 217, 647, 648, 649, 650, 159, 564, 565, 566, 544, 545, 546, 547, 548, 549, 651, 652, 653, 654, 177, 655, 160, 561, 562, 563, 541, 542, 543, 833, 834, 835, 836, 837, 838, 839, 840, 841, 842, 843, 844, 845, 846, 847, 848, 849, 850, 851, 852, 853, 854, 855, 856, 857, 858, 859, 860] (by decide +kernel) (by decide +kernel)
set_option maxRecDepth 20000 in
theorem gL_law_X9_pin : GoodIn wsL_law (wsV RL 66 RX9 yX9_pin wsX9_pin) := goodIn_app (goodIn_of _ (by decide +kernel)) ggL_law_X9_pin
set_option maxRecDepth 20000 in
theorem ggL_law_X8_outputOf : GoodIn wsL_law wsX8_outputOf := goodIn_r _ [659, 36, 639, 640, 641, 35, 642, 141, 825, 826, 827, 828, 829, 830, 831, 832, 893, 894, 895, 896, 897, 898] (by decide +kernel) (by decide +kernel)
set_option maxRecDepth 20000 in
theorem gL_law_X8_outputOf : GoodIn wsL_law (wsV RL 67 RX8 yX8_outputOf wsX8_outputOf) := goodIn_app (goodIn_of _ (by decide +kernel)) ggL_law_X8_outputOf
set_option maxRecDepth 20000 in
theorem ggL_law_X9_outputOf : GoodIn wsL_law wsX9_outputOf := goodIn_r _ [663, 215, 216, 5, 217, 554, 555, 556, 547, 548, 549, 651, 652, 653, 654, 177, 655, 160, 561, 562, 563, 541, 542, 543, 544, 545, 546, 833, 834, 835, 836, 837, 838, 839, 840, 841, 842, 843, 844, 845, 846, 847, 848, 849, 850, 851, 852, 853, 854, 855, 856, 857, 858, 859, 860] (by decide +kernel) (by decide +kernel)
set_option maxRecDepth 20000 in
theorem gL_law_X9_outputOf : GoodIn wsL_law (wsV RL 70 RX9 yX9_outputOf wsX9_outputOf) := goodIn_app (goodIn_of _ (by decide +kernel)) ggL_law_X9_outputOf
set_option maxRecDepth 20000 in
theorem ggL_law_X8_channels : GoodIn wsL_law wsX8_channels := goodIn_r _ [667, 36, 636, 637, 2, 638, 668, 669, 670, 35, 671, 142, 825, 826, 827, 828, 829, 830, 831, 832, 893, 894, 895, 896, 897, 898] (by decide +kernel) (by decide +kernel)
set_option maxRecDepth 20000 in
theorem gL_law_X8_channels : GoodIn wsL_law (wsV RL 71 RX8 yX8_channels wsX8_channels) := goodIn_app (goodIn_of _ (by decide +kernel)) ggL_law_X8_channels
set_option maxRecDepth 20000 in
theorem ggL_law_X9_channels : GoodIn wsL_law wsX9_channels := goodIn_r _ [675, 655, 676, 644, 645, 5, 646, 215, 216, 217, 647, 648, 649, 650, 159, 564, 565, 566, 544, 545, 546, 547, 548, 549, 651, 652, 653, 654, 177, 160, 561, 562, 563, 541, 542, 543, 833, 834, 835, 836, 837, 838, 839, 840, 841, 842, 843, 844, 845, 846, 847, 848, 849, 850, 851, 852, 853, 854, 855, 856, 857, 858, 859, 860] (by decide +kernel) (by decide +kernel)
set_option maxRecDepth 20000 in
theorem gL_law_X9_channels : GoodIn wsL_law (wsV RL 74 RX9 yX9_channels wsX9_channels) := goodIn_app (goodIn_of _ (by decide +kernel)) ggL_law_X9_channels
set_option maxRecDepth 20000 in
theorem ggL_law_X8_longest : GoodIn wsL_law wsX8_longest := goodIn_r _ [680, 40, 681, 682, 683, 39, 684, 685, 148, 686, 302, 299, 303, 687, 688, 689, 690, 691, 150, 149, 692, 443, 444, 35, 445, 446, 447, 448, 449, 138, 693, 694, 695, 696, 697, 640, 641, 642, 141, 698, 699, 700, 701, 702, 703, 704, 705, 706, 669, 670, 671, 142, 825, 826, 827, 828, 829, 830, 831, 832, 899, 900, 901, 893, 894, 895, 896, 897, 898] (by decide +kernel) (by decide +kernel)
set_option maxRecDepth 20000 in
theorem gL_law_X8_longest : GoodIn wsL_law (wsV RL 75 RX8 yX8_longest wsX8_longest) := goodIn_app (goodIn_of _ (by decide +kernel)) ggL_law_X8_longest
set_option maxRecDepth 20000 in
theorem ggL_law_X9_longest : GoodIn wsL_law wsX9_longest := goodIn_r _ [710, 179, 711, 157, 712, 713, 714, 715, 716, 5, 717, 718, 719, 720, 721, 722, 647, 648, 649, 650, 159, 564, 565, 566, 544, 545, 546, 547, 548, 549, 651, 652, 653, 654, 177, 655, 160, 561, 562, 563, 541, 542, 543, 723, 724, 725, 726, 727, 728, 661, 662, 663, 215, 216, 217, 554, 555, 556, 833, 834, 835, 836, 837, 838, 839, 840, 841, 842, 843, 844, 845, 846, 847, 848, 849, 850, 851, 852, 853, 854, 855, 856, 857, 858, 859, 860] (by decide +kernel) (by decide +kernel)
set_option maxRecDepth 20000 in
theorem gL_law_X9_longest : GoodIn wsL_law (wsV RL 79 RX9 yX9_longest wsX9_longest) := goodIn_app (goodIn_of _ (by decide +kernel)) ggL_law_X9_longest
set_option maxRecDepth 20000 in
theorem ggL_law_X8_slack : GoodIn wsL_law wsX8_slack := goodIn_r _ [732, 733, 40, 681, 682, 683, 39, 684, 685, 148, 686, 302, 299, 303, 687, 688, 689, 690, 691, 150, 149, 692, 443, 444, 35, 445, 446, 447, 448, 449, 138, 693, 694, 695, 696, 697, 640, 641, 642, 141, 698, 699, 700, 701, 702, 703, 704, 705, 706, 669, 670, 671, 142, 825, 826, 827, 828, 829, 830, 831, 832, 899, 900, 901, 893, 894, 895, 896, 897, 898] (by decide +kernel) (by decide +kernel)
set_option maxRecDepth 20000 in
theorem gL_law_X8_slack : GoodIn wsL_law (wsV RL 82 RX8 yX8_slack wsX8_slack) := goodIn_app (goodIn_of _ (by decide +kernel)) ggL_law_X8_slack
set_option maxRecDepth 20000 in
theorem ggL_law_X9_slack : GoodIn wsL_law wsX9_slack := goodIn_r _ [737, 711, 738, 708, 709, 5, 710, 179, 157, 712, 713, 714, 715, 716, 717, 718, 719, 720, 721, 722, 647, 648, 649, 650, 159, 564, 565, 566, 544, 545, 546, 547, 548, 549, 651, 652, 653, 654, 177, 655, 160, 561, 562, 563, 541, 542, 543, 723, 724, 725, 726, 727, 728, 661, 662, 663, 215, 216, 217, 554, 555, 556, 833, 834, 835, 836, 837, 838, 839, 840, 841, 842, 843, 844, 845, 846, 847, 848, 849, 850, 851, 852, 853, 854, 855, 856, 857, 858, 859, 860] (by decide +kernel) (by decide +kernel)
set_option maxRecDepth 20000 in
theorem gL_law_X9_slack : GoodIn wsL_law (wsV RL 86 RX9 yX9_slack wsX9_slack) := goodIn_app (goodIn_of _ (by decide +kernel)) ggL_law_X9_slack
set_option maxRecDepth 20000 in
theorem ggL_law_X8_reset : GoodIn wsL_law wsX8_reset := goodIn_r _ [742, 36, 20, 743, 744, 745, 35, 746, 139, 138, 442, 443, 444, 445, 446, 447, 448, 449, 747, 748, 749, 19, 750, 189, 85, 89, 86, 825, 826, 827, 828, 829, 830, 831, 832, 893, 894, 895, 896, 897, 898, 865, 866, 867, 868, 869, 870, 871, 872, 873, 874, 875] (by decide +kernel) (by decide +kernel)
set_option maxRecDepth 20000 in
theorem gL_law_X8_reset : GoodIn wsL_law (wsV RL 87 RX8 yX8_reset wsX8_reset) := goodIn_app (goodIn_of _ (by decide +kernel)) ggL_law_X8_reset
set_option maxRecDepth 20000 in
theorem ggL_law_X9_reset : GoodIn wsL_law wsX9_reset := goodIn_r _ [754, 161, 157, 158, 194, 165, 164, 833, 834, 835, 836, 837, 838, 839, 840, 841, 842, 843, 844, 845, 846, 847, 848, 849, 850, 851, 852, 853, 854, 855, 856, 857, 858, 859, 860] (by decide +kernel) (by decide +kernel)
set_option maxRecDepth 20000 in
theorem gL_law_X9_reset : GoodIn wsL_law (wsV RL 90 RX9 yX9_reset wsX9_reset) := goodIn_app (goodIn_of _ (by decide +kernel)) ggL_law_X9_reset
set_option maxRecDepth 20000 in
theorem ggL_law_X8_clock : GoodIn wsL_law wsX8_clock := goodIn_r _ [758, 36, 759, 760, 761, 35, 762, 139, 442, 443, 444, 445, 446, 447, 448, 449, 138, 763, 764, 765, 766, 767, 768, 769, 770, 771, 640, 641, 642, 141, 772, 773, 774, 775, 140, 776, 777, 778, 779, 825, 826, 827, 828, 829, 830, 831, 832, 893, 894, 895, 896, 897, 898] (by decide +kernel) (by decide +kernel)
set_option maxRecDepth 20000 in
theorem gL_law_X8_clock : GoodIn wsL_law (wsV RL 91 RX8 yX8_clock wsX8_clock) := goodIn_app (goodIn_of _ (by decide +kernel)) ggL_law_X8_clock
set_option maxRecDepth 20000 in
theorem ggL_law_X9_clock : GoodIn wsL_law wsX9_clock := goodIn_r _ [783, 161, 157, 784, 785, 786, 5, 787, 156, 647, 648, 649, 650, 159, 564, 565, 566, 544, 545, 546, 547, 548, 549, 651, 652, 653, 654, 177, 655, 160, 561, 562, 563, 541, 542, 543, 788, 789, 790, 791, 728, 661, 662, 663, 215, 216, 217, 554, 555, 556, 833, 834, 835, 836, 837, 838, 839, 840, 841, 842, 843, 844, 845, 846, 847, 848, 849, 850, 851, 852, 853, 854, 855, 856, 857, 858, 859, 860] (by decide +kernel) (by decide +kernel)
set_option maxRecDepth 20000 in
theorem gL_law_X9_clock : GoodIn wsL_law (wsV RL 94 RX9 yX9_clock wsX9_clock) := goodIn_app (goodIn_of _ (by decide +kernel)) ggL_law_X9_clock
set_option maxRecDepth 20000 in
theorem ggL_law_X8_run : GoodIn wsL_law wsX8_run := goodIn_r _ [795, 20, 250, 251, 252, 19, 253, 254, 189, 92, 85, 255, 256, 257, 258, 88, 91, 207, 200, 201, 202, 796, 797, 798, 799, 89, 800, 801, 802, 803, 83, 804, 805, 806, 807, 808, 809, 810, 811, 90, 812, 777, 778, 779, 825, 826, 827, 828, 829, 830, 831, 832, 865, 866, 867, 868, 869, 870, 871, 872, 873, 874, 875] (by decide +kernel) (by decide +kernel)
set_option maxRecDepth 20000 in
theorem gL_law_X8_run : GoodIn wsL_law (wsV RL 95 RX8 yX8_run wsX8_run) := goodIn_app (goodIn_of _ (by decide +kernel)) ggL_law_X8_run
set_option maxRecDepth 20000 in
theorem ggL_law_X9_run : GoodIn wsL_law wsX9_run := goodIn_r _ [816, 194, 180, 163, 165, 167, 477, 478, 479, 5, 480, 215, 216, 217, 817, 818, 819, 820, 162, 821, 822, 823, 824, 833, 834, 835, 836, 837, 838, 839, 840, 841, 842, 843, 844, 845, 846, 847, 848, 849, 850, 851, 852, 853, 854, 855, 856, 857, 858, 859, 860] (by decide +kernel) (by decide +kernel)
set_option maxRecDepth 20000 in
theorem gL_law_X9_run : GoodIn wsL_law (wsV RL 98 RX9 yX9_run wsX9_run) := goodIn_app (goodIn_of _ (by decide +kernel)) ggL_law_X9_run
theorem dL_law_0 : decode cL_law 0 = .ok (.new 7, 3) := by decide +kernel
theorem dL_law_3 : decode cL_law 3 = .ok (.dup, 1) := by decide +kernel
theorem dL_law_4 : decode cL_law 4 = .ok (.invokespecial 9, 3) := by decide +kernel
theorem dL_law_7 : decode cL_law 7 = .ok (.astore_n 1, 1) := by decide +kernel
theorem dL_law_8 : decode cL_law 8 = .ok (.new 10, 3) := by decide +kernel
theorem dL_law_11 : decode cL_law 11 = .ok (.dup, 1) := by decide +kernel
theorem dL_law_12 : decode cL_law 12 = .ok (.invokespecial 12, 3) := by decide +kernel
theorem dL_law_15 : decode cL_law 15 = .ok (.astore_n 2, 1) := by decide +kernel
theorem dL_law_16 : decode cL_law 16 = .ok (.iconst 0, 1) := by decide +kernel
theorem dL_law_17 : decode cL_law 17 = .ok (.istore_n 3, 1) := by decide +kernel
theorem dL_law_18 : decode cL_law 18 = .ok (.iload_n 3, 1) := by decide +kernel
theorem dL_law_19 : decode cL_law 19 = .ok (.aload_n 0, 1) := by decide +kernel
theorem dL_law_20 : decode cL_law 20 = .ok (.arraylength, 1) := by decide +kernel
theorem dL_law_21 : decode cL_law 21 = .ok (.iconst 4, 1) := by decide +kernel
theorem dL_law_22 : decode cL_law 22 = .ok (.isub, 1) := by decide +kernel
theorem dL_law_23 : decode cL_law 23 = .ok (.if_icmp .gt 684, 3) := by decide +kernel
theorem dL_law_26 : decode cL_law 26 = .ok (.aload_n 0, 1) := by decide +kernel
theorem dL_law_27 : decode cL_law 27 = .ok (.iload_n 3, 1) := by decide +kernel
theorem dL_law_28 : decode cL_law 28 = .ok (.iaload, 1) := by decide +kernel
theorem dL_law_29 : decode cL_law 29 = .ok (.bipush 31, 2) := by decide +kernel
theorem dL_law_31 : decode cL_law 31 = .ok (.iand, 1) := by decide +kernel
theorem dL_law_32 : decode cL_law 32 = .ok (.tableswitch 669 0 17 #[88, 163, 206, 239, 272, 285, 308, 321, 345, 408, 421, 454, 477, 510, 551, 612, 623, 646], 88) := by decide +kernel
theorem dL_law_120 : decode cL_law 120 = .ok (.aload_n 1, 1) := by decide +kernel
theorem dL_law_121 : decode cL_law 121 = .ok (.aload_n 0, 1) := by decide +kernel
theorem dL_law_122 : decode cL_law 122 = .ok (.iload_n 3, 1) := by decide +kernel
theorem dL_law_123 : decode cL_law 123 = .ok (.iconst 1, 1) := by decide +kernel
theorem dL_law_124 : decode cL_law 124 = .ok (.iadd, 1) := by decide +kernel
theorem dL_law_125 : decode cL_law 125 = .ok (.iaload, 1) := by decide +kernel
theorem dL_law_126 : decode cL_law 126 = .ok (.aload_n 0, 1) := by decide +kernel
theorem dL_law_127 : decode cL_law 127 = .ok (.iload_n 3, 1) := by decide +kernel
theorem dL_law_128 : decode cL_law 128 = .ok (.iconst 2, 1) := by decide +kernel
theorem dL_law_129 : decode cL_law 129 = .ok (.iadd, 1) := by decide +kernel
theorem dL_law_130 : decode cL_law 130 = .ok (.iaload, 1) := by decide +kernel
theorem dL_law_131 : decode cL_law 131 = .ok (.ifCond .eq 7, 3) := by decide +kernel
theorem dL_law_134 : decode cL_law 134 = .ok (.iconst 1, 1) := by decide +kernel
theorem dL_law_135 : decode cL_law 135 = .ok (.goto 4, 3) := by decide +kernel
theorem dL_law_138 : decode cL_law 138 = .ok (.iconst 0, 1) := by decide +kernel
theorem dL_law_139 : decode cL_law 139 = .ok (.aload_n 0, 1) := by decide +kernel
theorem dL_law_140 : decode cL_law 140 = .ok (.iload_n 3, 1) := by decide +kernel
theorem dL_law_141 : decode cL_law 141 = .ok (.iconst 3, 1) := by decide +kernel
theorem dL_law_142 : decode cL_law 142 = .ok (.iadd, 1) := by decide +kernel
theorem dL_law_143 : decode cL_law 143 = .ok (.iaload, 1) := by decide +kernel
theorem dL_law_144 : decode cL_law 144 = .ok (.ifCond .eq 7, 3) := by decide +kernel
theorem dL_law_147 : decode cL_law 147 = .ok (.iconst 1, 1) := by decide +kernel
theorem dL_law_148 : decode cL_law 148 = .ok (.goto 4, 3) := by decide +kernel
theorem dL_law_151 : decode cL_law 151 = .ok (.iconst 0, 1) := by decide +kernel
theorem dL_law_152 : decode cL_law 152 = .ok (.invokevirtual 13, 3) := by decide +kernel
theorem dL_law_155 : decode cL_law 155 = .ok (.aload_n 2, 1) := by decide +kernel
theorem dL_law_156 : decode cL_law 156 = .ok (.aload_n 0, 1) := by decide +kernel
theorem dL_law_157 : decode cL_law 157 = .ok (.iload_n 3, 1) := by decide +kernel
theorem dL_law_158 : decode cL_law 158 = .ok (.iconst 1, 1) := by decide +kernel
theorem dL_law_159 : decode cL_law 159 = .ok (.iadd, 1) := by decide +kernel
theorem dL_law_160 : decode cL_law 160 = .ok (.iaload, 1) := by decide +kernel
theorem dL_law_161 : decode cL_law 161 = .ok (.aload_n 0, 1) := by decide +kernel
theorem dL_law_162 : decode cL_law 162 = .ok (.iload_n 3, 1) := by decide +kernel
theorem dL_law_163 : decode cL_law 163 = .ok (.iconst 2, 1) := by decide +kernel
theorem dL_law_164 : decode cL_law 164 = .ok (.iadd, 1) := by decide +kernel
theorem dL_law_165 : decode cL_law 165 = .ok (.iaload, 1) := by decide +kernel
theorem dL_law_166 : decode cL_law 166 = .ok (.ifCond .eq 7, 3) := by decide +kernel
theorem dL_law_169 : decode cL_law 169 = .ok (.iconst 1, 1) := by decide +kernel
theorem dL_law_170 : decode cL_law 170 = .ok (.goto 4, 3) := by decide +kernel
theorem dL_law_173 : decode cL_law 173 = .ok (.iconst 0, 1) := by decide +kernel
theorem dL_law_174 : decode cL_law 174 = .ok (.aload_n 0, 1) := by decide +kernel
theorem dL_law_175 : decode cL_law 175 = .ok (.iload_n 3, 1) := by decide +kernel
theorem dL_law_176 : decode cL_law 176 = .ok (.iconst 3, 1) := by decide +kernel
theorem dL_law_177 : decode cL_law 177 = .ok (.iadd, 1) := by decide +kernel
theorem dL_law_178 : decode cL_law 178 = .ok (.iaload, 1) := by decide +kernel
theorem dL_law_179 : decode cL_law 179 = .ok (.ifCond .eq 7, 3) := by decide +kernel
theorem dL_law_182 : decode cL_law 182 = .ok (.iconst 1, 1) := by decide +kernel
theorem dL_law_183 : decode cL_law 183 = .ok (.goto 4, 3) := by decide +kernel
theorem dL_law_186 : decode cL_law 186 = .ok (.iconst 0, 1) := by decide +kernel
theorem dL_law_187 : decode cL_law 187 = .ok (.invokevirtual 17, 3) := by decide +kernel
theorem dL_law_190 : decode cL_law 190 = .ok (.if_icmp .eq 511, 3) := by decide +kernel
theorem dL_law_193 : decode cL_law 193 = .ok (.iconst 0, 1) := by decide +kernel
theorem dL_law_194 : decode cL_law 194 = .ok (.ireturn, 1) := by decide +kernel
theorem dL_law_195 : decode cL_law 195 = .ok (.aload_n 1, 1) := by decide +kernel
theorem dL_law_196 : decode cL_law 196 = .ok (.aload_n 0, 1) := by decide +kernel
theorem dL_law_197 : decode cL_law 197 = .ok (.iload_n 3, 1) := by decide +kernel
theorem dL_law_198 : decode cL_law 198 = .ok (.iconst 1, 1) := by decide +kernel
theorem dL_law_199 : decode cL_law 199 = .ok (.iadd, 1) := by decide +kernel
theorem dL_law_200 : decode cL_law 200 = .ok (.iaload, 1) := by decide +kernel
theorem dL_law_201 : decode cL_law 201 = .ok (.aload_n 0, 1) := by decide +kernel
theorem dL_law_202 : decode cL_law 202 = .ok (.iload_n 3, 1) := by decide +kernel
theorem dL_law_203 : decode cL_law 203 = .ok (.iconst 2, 1) := by decide +kernel
theorem dL_law_204 : decode cL_law 204 = .ok (.iadd, 1) := by decide +kernel
theorem dL_law_205 : decode cL_law 205 = .ok (.iaload, 1) := by decide +kernel
theorem dL_law_206 : decode cL_law 206 = .ok (.aload_n 0, 1) := by decide +kernel
theorem dL_law_207 : decode cL_law 207 = .ok (.iload_n 3, 1) := by decide +kernel
theorem dL_law_208 : decode cL_law 208 = .ok (.iconst 3, 1) := by decide +kernel
theorem dL_law_209 : decode cL_law 209 = .ok (.iadd, 1) := by decide +kernel
theorem dL_law_210 : decode cL_law 210 = .ok (.iaload, 1) := by decide +kernel
theorem dL_law_211 : decode cL_law 211 = .ok (.invokevirtual 18, 3) := by decide +kernel
theorem dL_law_214 : decode cL_law 214 = .ok (.aload_n 2, 1) := by decide +kernel
theorem dL_law_215 : decode cL_law 215 = .ok (.aload_n 0, 1) := by decide +kernel
theorem dL_law_216 : decode cL_law 216 = .ok (.iload_n 3, 1) := by decide +kernel
theorem dL_law_217 : decode cL_law 217 = .ok (.iconst 1, 1) := by decide +kernel
theorem dL_law_218 : decode cL_law 218 = .ok (.iadd, 1) := by decide +kernel
theorem dL_law_219 : decode cL_law 219 = .ok (.iaload, 1) := by decide +kernel
theorem dL_law_220 : decode cL_law 220 = .ok (.aload_n 0, 1) := by decide +kernel
theorem dL_law_221 : decode cL_law 221 = .ok (.iload_n 3, 1) := by decide +kernel
theorem dL_law_222 : decode cL_law 222 = .ok (.iconst 2, 1) := by decide +kernel
theorem dL_law_223 : decode cL_law 223 = .ok (.iadd, 1) := by decide +kernel
theorem dL_law_224 : decode cL_law 224 = .ok (.iaload, 1) := by decide +kernel
theorem dL_law_225 : decode cL_law 225 = .ok (.aload_n 0, 1) := by decide +kernel
theorem dL_law_226 : decode cL_law 226 = .ok (.iload_n 3, 1) := by decide +kernel
theorem dL_law_227 : decode cL_law 227 = .ok (.iconst 3, 1) := by decide +kernel
theorem dL_law_228 : decode cL_law 228 = .ok (.iadd, 1) := by decide +kernel
theorem dL_law_229 : decode cL_law 229 = .ok (.iaload, 1) := by decide +kernel
theorem dL_law_230 : decode cL_law 230 = .ok (.invokevirtual 22, 3) := by decide +kernel
theorem dL_law_233 : decode cL_law 233 = .ok (.if_icmp .eq 468, 3) := by decide +kernel
theorem dL_law_236 : decode cL_law 236 = .ok (.iconst 0, 1) := by decide +kernel
theorem dL_law_237 : decode cL_law 237 = .ok (.ireturn, 1) := by decide +kernel
theorem dL_law_238 : decode cL_law 238 = .ok (.aload_n 1, 1) := by decide +kernel
theorem dL_law_239 : decode cL_law 239 = .ok (.aload_n 0, 1) := by decide +kernel
theorem dL_law_240 : decode cL_law 240 = .ok (.iload_n 3, 1) := by decide +kernel
theorem dL_law_241 : decode cL_law 241 = .ok (.iconst 1, 1) := by decide +kernel
theorem dL_law_242 : decode cL_law 242 = .ok (.iadd, 1) := by decide +kernel
theorem dL_law_243 : decode cL_law 243 = .ok (.iaload, 1) := by decide +kernel
theorem dL_law_244 : decode cL_law 244 = .ok (.aload_n 0, 1) := by decide +kernel
theorem dL_law_245 : decode cL_law 245 = .ok (.iload_n 3, 1) := by decide +kernel
theorem dL_law_246 : decode cL_law 246 = .ok (.iconst 2, 1) := by decide +kernel
theorem dL_law_247 : decode cL_law 247 = .ok (.iadd, 1) := by decide +kernel
theorem dL_law_248 : decode cL_law 248 = .ok (.iaload, 1) := by decide +kernel
theorem dL_law_249 : decode cL_law 249 = .ok (.invokevirtual 23, 3) := by decide +kernel
theorem dL_law_252 : decode cL_law 252 = .ok (.aload_n 2, 1) := by decide +kernel
theorem dL_law_253 : decode cL_law 253 = .ok (.aload_n 0, 1) := by decide +kernel
theorem dL_law_254 : decode cL_law 254 = .ok (.iload_n 3, 1) := by decide +kernel
theorem dL_law_255 : decode cL_law 255 = .ok (.iconst 1, 1) := by decide +kernel
theorem dL_law_256 : decode cL_law 256 = .ok (.iadd, 1) := by decide +kernel
theorem dL_law_257 : decode cL_law 257 = .ok (.iaload, 1) := by decide +kernel
theorem dL_law_258 : decode cL_law 258 = .ok (.aload_n 0, 1) := by decide +kernel
theorem dL_law_259 : decode cL_law 259 = .ok (.iload_n 3, 1) := by decide +kernel
theorem dL_law_260 : decode cL_law 260 = .ok (.iconst 2, 1) := by decide +kernel
theorem dL_law_261 : decode cL_law 261 = .ok (.iadd, 1) := by decide +kernel
theorem dL_law_262 : decode cL_law 262 = .ok (.iaload, 1) := by decide +kernel
theorem dL_law_263 : decode cL_law 263 = .ok (.invokevirtual 27, 3) := by decide +kernel
theorem dL_law_266 : decode cL_law 266 = .ok (.if_icmp .eq 435, 3) := by decide +kernel
theorem dL_law_269 : decode cL_law 269 = .ok (.iconst 0, 1) := by decide +kernel
theorem dL_law_270 : decode cL_law 270 = .ok (.ireturn, 1) := by decide +kernel
theorem dL_law_271 : decode cL_law 271 = .ok (.aload_n 1, 1) := by decide +kernel
theorem dL_law_272 : decode cL_law 272 = .ok (.aload_n 0, 1) := by decide +kernel
theorem dL_law_273 : decode cL_law 273 = .ok (.iload_n 3, 1) := by decide +kernel
theorem dL_law_274 : decode cL_law 274 = .ok (.iconst 1, 1) := by decide +kernel
theorem dL_law_275 : decode cL_law 275 = .ok (.iadd, 1) := by decide +kernel
theorem dL_law_276 : decode cL_law 276 = .ok (.iaload, 1) := by decide +kernel
theorem dL_law_277 : decode cL_law 277 = .ok (.aload_n 0, 1) := by decide +kernel
theorem dL_law_278 : decode cL_law 278 = .ok (.iload_n 3, 1) := by decide +kernel
theorem dL_law_279 : decode cL_law 279 = .ok (.iconst 2, 1) := by decide +kernel
theorem dL_law_280 : decode cL_law 280 = .ok (.iadd, 1) := by decide +kernel
theorem dL_law_281 : decode cL_law 281 = .ok (.iaload, 1) := by decide +kernel
theorem dL_law_282 : decode cL_law 282 = .ok (.invokevirtual 28, 3) := by decide +kernel
theorem dL_law_285 : decode cL_law 285 = .ok (.aload_n 2, 1) := by decide +kernel
theorem dL_law_286 : decode cL_law 286 = .ok (.aload_n 0, 1) := by decide +kernel
theorem dL_law_287 : decode cL_law 287 = .ok (.iload_n 3, 1) := by decide +kernel
theorem dL_law_288 : decode cL_law 288 = .ok (.iconst 1, 1) := by decide +kernel
theorem dL_law_289 : decode cL_law 289 = .ok (.iadd, 1) := by decide +kernel
theorem dL_law_290 : decode cL_law 290 = .ok (.iaload, 1) := by decide +kernel
theorem dL_law_291 : decode cL_law 291 = .ok (.aload_n 0, 1) := by decide +kernel
theorem dL_law_292 : decode cL_law 292 = .ok (.iload_n 3, 1) := by decide +kernel
theorem dL_law_293 : decode cL_law 293 = .ok (.iconst 2, 1) := by decide +kernel
theorem dL_law_294 : decode cL_law 294 = .ok (.iadd, 1) := by decide +kernel
theorem dL_law_295 : decode cL_law 295 = .ok (.iaload, 1) := by decide +kernel
theorem dL_law_296 : decode cL_law 296 = .ok (.invokevirtual 31, 3) := by decide +kernel
theorem dL_law_299 : decode cL_law 299 = .ok (.if_icmp .eq 402, 3) := by decide +kernel
theorem dL_law_302 : decode cL_law 302 = .ok (.iconst 0, 1) := by decide +kernel
theorem dL_law_303 : decode cL_law 303 = .ok (.ireturn, 1) := by decide +kernel
theorem dL_law_304 : decode cL_law 304 = .ok (.aload_n 1, 1) := by decide +kernel
theorem dL_law_305 : decode cL_law 305 = .ok (.invokevirtual 32, 3) := by decide +kernel
theorem dL_law_308 : decode cL_law 308 = .ok (.aload_n 2, 1) := by decide +kernel
theorem dL_law_309 : decode cL_law 309 = .ok (.invokevirtual 36, 3) := by decide +kernel
theorem dL_law_312 : decode cL_law 312 = .ok (.if_icmp .eq 389, 3) := by decide +kernel
theorem dL_law_315 : decode cL_law 315 = .ok (.iconst 0, 1) := by decide +kernel
theorem dL_law_316 : decode cL_law 316 = .ok (.ireturn, 1) := by decide +kernel
theorem dL_law_317 : decode cL_law 317 = .ok (.aload_n 1, 1) := by decide +kernel
theorem dL_law_318 : decode cL_law 318 = .ok (.aload_n 0, 1) := by decide +kernel
theorem dL_law_319 : decode cL_law 319 = .ok (.iload_n 3, 1) := by decide +kernel
theorem dL_law_320 : decode cL_law 320 = .ok (.iconst 1, 1) := by decide +kernel
theorem dL_law_321 : decode cL_law 321 = .ok (.iadd, 1) := by decide +kernel
theorem dL_law_322 : decode cL_law 322 = .ok (.iaload, 1) := by decide +kernel
theorem dL_law_323 : decode cL_law 323 = .ok (.invokevirtual 37, 3) := by decide +kernel
theorem dL_law_326 : decode cL_law 326 = .ok (.aload_n 2, 1) := by decide +kernel
theorem dL_law_327 : decode cL_law 327 = .ok (.aload_n 0, 1) := by decide +kernel
theorem dL_law_328 : decode cL_law 328 = .ok (.iload_n 3, 1) := by decide +kernel
theorem dL_law_329 : decode cL_law 329 = .ok (.iconst 1, 1) := by decide +kernel
theorem dL_law_330 : decode cL_law 330 = .ok (.iadd, 1) := by decide +kernel
theorem dL_law_331 : decode cL_law 331 = .ok (.iaload, 1) := by decide +kernel
theorem dL_law_332 : decode cL_law 332 = .ok (.invokevirtual 41, 3) := by decide +kernel
theorem dL_law_335 : decode cL_law 335 = .ok (.if_icmp .eq 366, 3) := by decide +kernel
theorem dL_law_338 : decode cL_law 338 = .ok (.iconst 0, 1) := by decide +kernel
theorem dL_law_339 : decode cL_law 339 = .ok (.ireturn, 1) := by decide +kernel
theorem dL_law_340 : decode cL_law 340 = .ok (.aload_n 1, 1) := by decide +kernel
theorem dL_law_341 : decode cL_law 341 = .ok (.invokevirtual 42, 3) := by decide +kernel
theorem dL_law_344 : decode cL_law 344 = .ok (.aload_n 2, 1) := by decide +kernel
theorem dL_law_345 : decode cL_law 345 = .ok (.invokevirtual 45, 3) := by decide +kernel
theorem dL_law_348 : decode cL_law 348 = .ok (.if_icmp .eq 353, 3) := by decide +kernel
theorem dL_law_351 : decode cL_law 351 = .ok (.iconst 0, 1) := by decide +kernel
theorem dL_law_352 : decode cL_law 352 = .ok (.ireturn, 1) := by decide +kernel
theorem dL_law_353 : decode cL_law 353 = .ok (.aload_n 1, 1) := by decide +kernel
theorem dL_law_354 : decode cL_law 354 = .ok (.aload_n 0, 1) := by decide +kernel
theorem dL_law_355 : decode cL_law 355 = .ok (.iload_n 3, 1) := by decide +kernel
theorem dL_law_356 : decode cL_law 356 = .ok (.iconst 1, 1) := by decide +kernel
theorem dL_law_357 : decode cL_law 357 = .ok (.iadd, 1) := by decide +kernel
theorem dL_law_358 : decode cL_law 358 = .ok (.iaload, 1) := by decide +kernel
theorem dL_law_359 : decode cL_law 359 = .ok (.invokevirtual 46, 3) := by decide +kernel
theorem dL_law_362 : decode cL_law 362 = .ok (.aload_n 2, 1) := by decide +kernel
theorem dL_law_363 : decode cL_law 363 = .ok (.aload_n 0, 1) := by decide +kernel
theorem dL_law_364 : decode cL_law 364 = .ok (.iload_n 3, 1) := by decide +kernel
theorem dL_law_365 : decode cL_law 365 = .ok (.iconst 1, 1) := by decide +kernel
theorem dL_law_366 : decode cL_law 366 = .ok (.iadd, 1) := by decide +kernel
theorem dL_law_367 : decode cL_law 367 = .ok (.iaload, 1) := by decide +kernel
theorem dL_law_368 : decode cL_law 368 = .ok (.invokevirtual 50, 3) := by decide +kernel
theorem dL_law_371 : decode cL_law 371 = .ok (.lcmp, 1) := by decide +kernel
theorem dL_law_372 : decode cL_law 372 = .ok (.ifCond .eq 329, 3) := by decide +kernel
theorem dL_law_375 : decode cL_law 375 = .ok (.iconst 0, 1) := by decide +kernel
theorem dL_law_376 : decode cL_law 376 = .ok (.ireturn, 1) := by decide +kernel
theorem dL_law_377 : decode cL_law 377 = .ok (.aload_n 1, 1) := by decide +kernel
theorem dL_law_378 : decode cL_law 378 = .ok (.aload_n 0, 1) := by decide +kernel
theorem dL_law_379 : decode cL_law 379 = .ok (.iload_n 3, 1) := by decide +kernel
theorem dL_law_380 : decode cL_law 380 = .ok (.iconst 1, 1) := by decide +kernel
theorem dL_law_381 : decode cL_law 381 = .ok (.iadd, 1) := by decide +kernel
theorem dL_law_382 : decode cL_law 382 = .ok (.iaload, 1) := by decide +kernel
theorem dL_law_383 : decode cL_law 383 = .ok (.aload_n 0, 1) := by decide +kernel
theorem dL_law_384 : decode cL_law 384 = .ok (.iload_n 3, 1) := by decide +kernel
theorem dL_law_385 : decode cL_law 385 = .ok (.iconst 2, 1) := by decide +kernel
theorem dL_law_386 : decode cL_law 386 = .ok (.iadd, 1) := by decide +kernel
theorem dL_law_387 : decode cL_law 387 = .ok (.iaload, 1) := by decide +kernel
theorem dL_law_388 : decode cL_law 388 = .ok (.i2l, 1) := by decide +kernel
theorem dL_law_389 : decode cL_law 389 = .ok (.bipush 32, 2) := by decide +kernel
theorem dL_law_391 : decode cL_law 391 = .ok (.lshl, 1) := by decide +kernel
theorem dL_law_392 : decode cL_law 392 = .ok (.aload_n 0, 1) := by decide +kernel
theorem dL_law_393 : decode cL_law 393 = .ok (.iload_n 3, 1) := by decide +kernel
theorem dL_law_394 : decode cL_law 394 = .ok (.iconst 3, 1) := by decide +kernel
theorem dL_law_395 : decode cL_law 395 = .ok (.iadd, 1) := by decide +kernel
theorem dL_law_396 : decode cL_law 396 = .ok (.iaload, 1) := by decide +kernel
theorem dL_law_397 : decode cL_law 397 = .ok (.i2l, 1) := by decide +kernel
theorem dL_law_398 : decode cL_law 398 = .ok (.ldc2_w 51, 3) := by decide +kernel
theorem dL_law_401 : decode cL_law 401 = .ok (.land, 1) := by decide +kernel
theorem dL_law_402 : decode cL_law 402 = .ok (.lor, 1) := by decide +kernel
theorem dL_law_403 : decode cL_law 403 = .ok (.invokevirtual 53, 3) := by decide +kernel
theorem dL_law_406 : decode cL_law 406 = .ok (.aload_n 2, 1) := by decide +kernel
theorem dL_law_407 : decode cL_law 407 = .ok (.aload_n 0, 1) := by decide +kernel
theorem dL_law_408 : decode cL_law 408 = .ok (.iload_n 3, 1) := by decide +kernel
theorem dL_law_409 : decode cL_law 409 = .ok (.iconst 1, 1) := by decide +kernel
theorem dL_law_410 : decode cL_law 410 = .ok (.iadd, 1) := by decide +kernel
theorem dL_law_411 : decode cL_law 411 = .ok (.iaload, 1) := by decide +kernel
theorem dL_law_412 : decode cL_law 412 = .ok (.aload_n 0, 1) := by decide +kernel
theorem dL_law_413 : decode cL_law 413 = .ok (.iload_n 3, 1) := by decide +kernel
theorem dL_law_414 : decode cL_law 414 = .ok (.iconst 2, 1) := by decide +kernel
theorem dL_law_415 : decode cL_law 415 = .ok (.iadd, 1) := by decide +kernel
theorem dL_law_416 : decode cL_law 416 = .ok (.iaload, 1) := by decide +kernel
theorem dL_law_417 : decode cL_law 417 = .ok (.i2l, 1) := by decide +kernel
theorem dL_law_418 : decode cL_law 418 = .ok (.bipush 32, 2) := by decide +kernel
theorem dL_law_420 : decode cL_law 420 = .ok (.lshl, 1) := by decide +kernel
theorem dL_law_421 : decode cL_law 421 = .ok (.aload_n 0, 1) := by decide +kernel
theorem dL_law_422 : decode cL_law 422 = .ok (.iload_n 3, 1) := by decide +kernel
theorem dL_law_423 : decode cL_law 423 = .ok (.iconst 3, 1) := by decide +kernel
theorem dL_law_424 : decode cL_law 424 = .ok (.iadd, 1) := by decide +kernel
theorem dL_law_425 : decode cL_law 425 = .ok (.iaload, 1) := by decide +kernel
theorem dL_law_426 : decode cL_law 426 = .ok (.i2l, 1) := by decide +kernel
theorem dL_law_427 : decode cL_law 427 = .ok (.ldc2_w 51, 3) := by decide +kernel
theorem dL_law_430 : decode cL_law 430 = .ok (.land, 1) := by decide +kernel
theorem dL_law_431 : decode cL_law 431 = .ok (.lor, 1) := by decide +kernel
theorem dL_law_432 : decode cL_law 432 = .ok (.invokevirtual 57, 3) := by decide +kernel
theorem dL_law_435 : decode cL_law 435 = .ok (.if_icmp .eq 266, 3) := by decide +kernel
theorem dL_law_438 : decode cL_law 438 = .ok (.iconst 0, 1) := by decide +kernel
theorem dL_law_439 : decode cL_law 439 = .ok (.ireturn, 1) := by decide +kernel
theorem dL_law_440 : decode cL_law 440 = .ok (.aload_n 1, 1) := by decide +kernel
theorem dL_law_441 : decode cL_law 441 = .ok (.invokevirtual 58, 3) := by decide +kernel
theorem dL_law_444 : decode cL_law 444 = .ok (.aload_n 2, 1) := by decide +kernel
theorem dL_law_445 : decode cL_law 445 = .ok (.invokevirtual 61, 3) := by decide +kernel
theorem dL_law_448 : decode cL_law 448 = .ok (.if_icmp .eq 253, 3) := by decide +kernel
theorem dL_law_451 : decode cL_law 451 = .ok (.iconst 0, 1) := by decide +kernel
theorem dL_law_452 : decode cL_law 452 = .ok (.ireturn, 1) := by decide +kernel
theorem dL_law_453 : decode cL_law 453 = .ok (.aload_n 1, 1) := by decide +kernel
theorem dL_law_454 : decode cL_law 454 = .ok (.aload_n 0, 1) := by decide +kernel
theorem dL_law_455 : decode cL_law 455 = .ok (.iload_n 3, 1) := by decide +kernel
theorem dL_law_456 : decode cL_law 456 = .ok (.iconst 1, 1) := by decide +kernel
theorem dL_law_457 : decode cL_law 457 = .ok (.iadd, 1) := by decide +kernel
theorem dL_law_458 : decode cL_law 458 = .ok (.iaload, 1) := by decide +kernel
theorem dL_law_459 : decode cL_law 459 = .ok (.aload_n 0, 1) := by decide +kernel
theorem dL_law_460 : decode cL_law 460 = .ok (.iload_n 3, 1) := by decide +kernel
theorem dL_law_461 : decode cL_law 461 = .ok (.iconst 2, 1) := by decide +kernel
theorem dL_law_462 : decode cL_law 462 = .ok (.iadd, 1) := by decide +kernel
theorem dL_law_463 : decode cL_law 463 = .ok (.iaload, 1) := by decide +kernel
theorem dL_law_464 : decode cL_law 464 = .ok (.invokevirtual 62, 3) := by decide +kernel
theorem dL_law_467 : decode cL_law 467 = .ok (.aload_n 2, 1) := by decide +kernel
theorem dL_law_468 : decode cL_law 468 = .ok (.aload_n 0, 1) := by decide +kernel
theorem dL_law_469 : decode cL_law 469 = .ok (.iload_n 3, 1) := by decide +kernel
theorem dL_law_470 : decode cL_law 470 = .ok (.iconst 1, 1) := by decide +kernel
theorem dL_law_471 : decode cL_law 471 = .ok (.iadd, 1) := by decide +kernel
theorem dL_law_472 : decode cL_law 472 = .ok (.iaload, 1) := by decide +kernel
theorem dL_law_473 : decode cL_law 473 = .ok (.aload_n 0, 1) := by decide +kernel
theorem dL_law_474 : decode cL_law 474 = .ok (.iload_n 3, 1) := by decide +kernel
theorem dL_law_475 : decode cL_law 475 = .ok (.iconst 2, 1) := by decide +kernel
theorem dL_law_476 : decode cL_law 476 = .ok (.iadd, 1) := by decide +kernel
theorem dL_law_477 : decode cL_law 477 = .ok (.iaload, 1) := by decide +kernel
theorem dL_law_478 : decode cL_law 478 = .ok (.invokevirtual 66, 3) := by decide +kernel
theorem dL_law_481 : decode cL_law 481 = .ok (.if_icmp .eq 220, 3) := by decide +kernel
theorem dL_law_484 : decode cL_law 484 = .ok (.iconst 0, 1) := by decide +kernel
theorem dL_law_485 : decode cL_law 485 = .ok (.ireturn, 1) := by decide +kernel
theorem dL_law_486 : decode cL_law 486 = .ok (.aload_n 1, 1) := by decide +kernel
theorem dL_law_487 : decode cL_law 487 = .ok (.aload_n 0, 1) := by decide +kernel
theorem dL_law_488 : decode cL_law 488 = .ok (.iload_n 3, 1) := by decide +kernel
theorem dL_law_489 : decode cL_law 489 = .ok (.iconst 1, 1) := by decide +kernel
theorem dL_law_490 : decode cL_law 490 = .ok (.iadd, 1) := by decide +kernel
theorem dL_law_491 : decode cL_law 491 = .ok (.iaload, 1) := by decide +kernel
theorem dL_law_492 : decode cL_law 492 = .ok (.invokevirtual 67, 3) := by decide +kernel
theorem dL_law_495 : decode cL_law 495 = .ok (.aload_n 2, 1) := by decide +kernel
theorem dL_law_496 : decode cL_law 496 = .ok (.aload_n 0, 1) := by decide +kernel
theorem dL_law_497 : decode cL_law 497 = .ok (.iload_n 3, 1) := by decide +kernel
theorem dL_law_498 : decode cL_law 498 = .ok (.iconst 1, 1) := by decide +kernel
theorem dL_law_499 : decode cL_law 499 = .ok (.iadd, 1) := by decide +kernel
theorem dL_law_500 : decode cL_law 500 = .ok (.iaload, 1) := by decide +kernel
theorem dL_law_501 : decode cL_law 501 = .ok (.invokevirtual 70, 3) := by decide +kernel
theorem dL_law_504 : decode cL_law 504 = .ok (.if_icmp .eq 197, 3) := by decide +kernel
theorem dL_law_507 : decode cL_law 507 = .ok (.iconst 0, 1) := by decide +kernel
theorem dL_law_508 : decode cL_law 508 = .ok (.ireturn, 1) := by decide +kernel
theorem dL_law_509 : decode cL_law 509 = .ok (.aload_n 1, 1) := by decide +kernel
theorem dL_law_510 : decode cL_law 510 = .ok (.aload_n 0, 1) := by decide +kernel
theorem dL_law_511 : decode cL_law 511 = .ok (.iload_n 3, 1) := by decide +kernel
theorem dL_law_512 : decode cL_law 512 = .ok (.iconst 1, 1) := by decide +kernel
theorem dL_law_513 : decode cL_law 513 = .ok (.iadd, 1) := by decide +kernel
theorem dL_law_514 : decode cL_law 514 = .ok (.iaload, 1) := by decide +kernel
theorem dL_law_515 : decode cL_law 515 = .ok (.aload_n 0, 1) := by decide +kernel
theorem dL_law_516 : decode cL_law 516 = .ok (.iload_n 3, 1) := by decide +kernel
theorem dL_law_517 : decode cL_law 517 = .ok (.iconst 2, 1) := by decide +kernel
theorem dL_law_518 : decode cL_law 518 = .ok (.iadd, 1) := by decide +kernel
theorem dL_law_519 : decode cL_law 519 = .ok (.iaload, 1) := by decide +kernel
theorem dL_law_520 : decode cL_law 520 = .ok (.invokevirtual 71, 3) := by decide +kernel
theorem dL_law_523 : decode cL_law 523 = .ok (.aload_n 2, 1) := by decide +kernel
theorem dL_law_524 : decode cL_law 524 = .ok (.aload_n 0, 1) := by decide +kernel
theorem dL_law_525 : decode cL_law 525 = .ok (.iload_n 3, 1) := by decide +kernel
theorem dL_law_526 : decode cL_law 526 = .ok (.iconst 1, 1) := by decide +kernel
theorem dL_law_527 : decode cL_law 527 = .ok (.iadd, 1) := by decide +kernel
theorem dL_law_528 : decode cL_law 528 = .ok (.iaload, 1) := by decide +kernel
theorem dL_law_529 : decode cL_law 529 = .ok (.aload_n 0, 1) := by decide +kernel
theorem dL_law_530 : decode cL_law 530 = .ok (.iload_n 3, 1) := by decide +kernel
theorem dL_law_531 : decode cL_law 531 = .ok (.iconst 2, 1) := by decide +kernel
theorem dL_law_532 : decode cL_law 532 = .ok (.iadd, 1) := by decide +kernel
theorem dL_law_533 : decode cL_law 533 = .ok (.iaload, 1) := by decide +kernel
theorem dL_law_534 : decode cL_law 534 = .ok (.invokevirtual 74, 3) := by decide +kernel
theorem dL_law_537 : decode cL_law 537 = .ok (.if_icmp .eq 164, 3) := by decide +kernel
theorem dL_law_540 : decode cL_law 540 = .ok (.iconst 0, 1) := by decide +kernel
theorem dL_law_541 : decode cL_law 541 = .ok (.ireturn, 1) := by decide +kernel
theorem dL_law_542 : decode cL_law 542 = .ok (.aload_n 1, 1) := by decide +kernel
theorem dL_law_543 : decode cL_law 543 = .ok (.invokevirtual 75, 3) := by decide +kernel
theorem dL_law_546 : decode cL_law 546 = .ok (.dstore 4, 2) := by decide +kernel
theorem dL_law_548 : decode cL_law 548 = .ok (.aload_n 2, 1) := by decide +kernel
theorem dL_law_549 : decode cL_law 549 = .ok (.invokevirtual 79, 3) := by decide +kernel
theorem dL_law_552 : decode cL_law 552 = .ok (.dstore 6, 2) := by decide +kernel
theorem dL_law_554 : decode cL_law 554 = .ok (.dload 4, 2) := by decide +kernel
theorem dL_law_556 : decode cL_law 556 = .ok (.dload 6, 2) := by decide +kernel
theorem dL_law_558 : decode cL_law 558 = .ok (.dcmp .l, 1) := by decide +kernel
theorem dL_law_559 : decode cL_law 559 = .ok (.ifCond .eq 21, 3) := by decide +kernel
theorem dL_law_562 : decode cL_law 562 = .ok (.dload 4, 2) := by decide +kernel
theorem dL_law_564 : decode cL_law 564 = .ok (.dload 4, 2) := by decide +kernel
theorem dL_law_566 : decode cL_law 566 = .ok (.dcmp .l, 1) := by decide +kernel
theorem dL_law_567 : decode cL_law 567 = .ok (.ifCond .eq 11, 3) := by decide +kernel
theorem dL_law_570 : decode cL_law 570 = .ok (.dload 6, 2) := by decide +kernel
theorem dL_law_572 : decode cL_law 572 = .ok (.dload 6, 2) := by decide +kernel
theorem dL_law_574 : decode cL_law 574 = .ok (.dcmp .l, 1) := by decide +kernel
theorem dL_law_575 : decode cL_law 575 = .ok (.ifCond .ne 5, 3) := by decide +kernel
theorem dL_law_578 : decode cL_law 578 = .ok (.iconst 0, 1) := by decide +kernel
theorem dL_law_579 : decode cL_law 579 = .ok (.ireturn, 1) := by decide +kernel
theorem dL_law_580 : decode cL_law 580 = .ok (.goto 121, 3) := by decide +kernel
theorem dL_law_583 : decode cL_law 583 = .ok (.aload_n 1, 1) := by decide +kernel
theorem dL_law_584 : decode cL_law 584 = .ok (.aload_n 0, 1) := by decide +kernel
theorem dL_law_585 : decode cL_law 585 = .ok (.iload_n 3, 1) := by decide +kernel
theorem dL_law_586 : decode cL_law 586 = .ok (.iconst 1, 1) := by decide +kernel
theorem dL_law_587 : decode cL_law 587 = .ok (.iadd, 1) := by decide +kernel
theorem dL_law_588 : decode cL_law 588 = .ok (.iaload, 1) := by decide +kernel
theorem dL_law_589 : decode cL_law 589 = .ok (.i2d, 1) := by decide +kernel
theorem dL_law_590 : decode cL_law 590 = .ok (.ldc2_w 80, 3) := by decide +kernel
theorem dL_law_593 : decode cL_law 593 = .ok (.dmul, 1) := by decide +kernel
theorem dL_law_594 : decode cL_law 594 = .ok (.invokevirtual 82, 3) := by decide +kernel
theorem dL_law_597 : decode cL_law 597 = .ok (.dstore 4, 2) := by decide +kernel
theorem dL_law_599 : decode cL_law 599 = .ok (.aload_n 2, 1) := by decide +kernel
theorem dL_law_600 : decode cL_law 600 = .ok (.aload_n 0, 1) := by decide +kernel
theorem dL_law_601 : decode cL_law 601 = .ok (.iload_n 3, 1) := by decide +kernel
theorem dL_law_602 : decode cL_law 602 = .ok (.iconst 1, 1) := by decide +kernel
theorem dL_law_603 : decode cL_law 603 = .ok (.iadd, 1) := by decide +kernel
theorem dL_law_604 : decode cL_law 604 = .ok (.iaload, 1) := by decide +kernel
theorem dL_law_605 : decode cL_law 605 = .ok (.i2d, 1) := by decide +kernel
theorem dL_law_606 : decode cL_law 606 = .ok (.ldc2_w 80, 3) := by decide +kernel
theorem dL_law_609 : decode cL_law 609 = .ok (.dmul, 1) := by decide +kernel
theorem dL_law_610 : decode cL_law 610 = .ok (.invokevirtual 86, 3) := by decide +kernel
theorem dL_law_613 : decode cL_law 613 = .ok (.dstore 6, 2) := by decide +kernel
theorem dL_law_615 : decode cL_law 615 = .ok (.dload 4, 2) := by decide +kernel
theorem dL_law_617 : decode cL_law 617 = .ok (.dload 6, 2) := by decide +kernel
theorem dL_law_619 : decode cL_law 619 = .ok (.dcmp .l, 1) := by decide +kernel
theorem dL_law_620 : decode cL_law 620 = .ok (.ifCond .eq 21, 3) := by decide +kernel
theorem dL_law_623 : decode cL_law 623 = .ok (.dload 4, 2) := by decide +kernel
theorem dL_law_625 : decode cL_law 625 = .ok (.dload 4, 2) := by decide +kernel
theorem dL_law_627 : decode cL_law 627 = .ok (.dcmp .l, 1) := by decide +kernel
theorem dL_law_628 : decode cL_law 628 = .ok (.ifCond .eq 11, 3) := by decide +kernel
theorem dL_law_631 : decode cL_law 631 = .ok (.dload 6, 2) := by decide +kernel
theorem dL_law_633 : decode cL_law 633 = .ok (.dload 6, 2) := by decide +kernel
theorem dL_law_635 : decode cL_law 635 = .ok (.dcmp .l, 1) := by decide +kernel
theorem dL_law_636 : decode cL_law 636 = .ok (.ifCond .ne 5, 3) := by decide +kernel
theorem dL_law_639 : decode cL_law 639 = .ok (.iconst 0, 1) := by decide +kernel
theorem dL_law_640 : decode cL_law 640 = .ok (.ireturn, 1) := by decide +kernel
theorem dL_law_641 : decode cL_law 641 = .ok (.goto 60, 3) := by decide +kernel
theorem dL_law_644 : decode cL_law 644 = .ok (.aload_n 1, 1) := by decide +kernel
theorem dL_law_645 : decode cL_law 645 = .ok (.invokevirtual 87, 3) := by decide +kernel
theorem dL_law_648 : decode cL_law 648 = .ok (.aload_n 2, 1) := by decide +kernel
theorem dL_law_649 : decode cL_law 649 = .ok (.invokevirtual 90, 3) := by decide +kernel
theorem dL_law_652 : decode cL_law 652 = .ok (.goto 49, 3) := by decide +kernel
theorem dL_law_655 : decode cL_law 655 = .ok (.aload_n 1, 1) := by decide +kernel
theorem dL_law_656 : decode cL_law 656 = .ok (.aload_n 0, 1) := by decide +kernel
theorem dL_law_657 : decode cL_law 657 = .ok (.iload_n 3, 1) := by decide +kernel
theorem dL_law_658 : decode cL_law 658 = .ok (.iconst 1, 1) := by decide +kernel
theorem dL_law_659 : decode cL_law 659 = .ok (.iadd, 1) := by decide +kernel
theorem dL_law_660 : decode cL_law 660 = .ok (.iaload, 1) := by decide +kernel
theorem dL_law_661 : decode cL_law 661 = .ok (.invokevirtual 91, 3) := by decide +kernel
theorem dL_law_664 : decode cL_law 664 = .ok (.aload_n 2, 1) := by decide +kernel
theorem dL_law_665 : decode cL_law 665 = .ok (.aload_n 0, 1) := by decide +kernel
theorem dL_law_666 : decode cL_law 666 = .ok (.iload_n 3, 1) := by decide +kernel
theorem dL_law_667 : decode cL_law 667 = .ok (.iconst 1, 1) := by decide +kernel
theorem dL_law_668 : decode cL_law 668 = .ok (.iadd, 1) := by decide +kernel
theorem dL_law_669 : decode cL_law 669 = .ok (.iaload, 1) := by decide +kernel
theorem dL_law_670 : decode cL_law 670 = .ok (.invokevirtual 94, 3) := by decide +kernel
theorem dL_law_673 : decode cL_law 673 = .ok (.if_icmp .eq 28, 3) := by decide +kernel
theorem dL_law_676 : decode cL_law 676 = .ok (.iconst 0, 1) := by decide +kernel
theorem dL_law_677 : decode cL_law 677 = .ok (.ireturn, 1) := by decide +kernel
theorem dL_law_678 : decode cL_law 678 = .ok (.aload_n 1, 1) := by decide +kernel
theorem dL_law_679 : decode cL_law 679 = .ok (.aload_n 0, 1) := by decide +kernel
theorem dL_law_680 : decode cL_law 680 = .ok (.iload_n 3, 1) := by decide +kernel
theorem dL_law_681 : decode cL_law 681 = .ok (.iconst 1, 1) := by decide +kernel
theorem dL_law_682 : decode cL_law 682 = .ok (.iadd, 1) := by decide +kernel
theorem dL_law_683 : decode cL_law 683 = .ok (.iaload, 1) := by decide +kernel
theorem dL_law_684 : decode cL_law 684 = .ok (.invokevirtual 95, 3) := by decide +kernel
theorem dL_law_687 : decode cL_law 687 = .ok (.aload_n 2, 1) := by decide +kernel
theorem dL_law_688 : decode cL_law 688 = .ok (.aload_n 0, 1) := by decide +kernel
theorem dL_law_689 : decode cL_law 689 = .ok (.iload_n 3, 1) := by decide +kernel
theorem dL_law_690 : decode cL_law 690 = .ok (.iconst 1, 1) := by decide +kernel
theorem dL_law_691 : decode cL_law 691 = .ok (.iadd, 1) := by decide +kernel
theorem dL_law_692 : decode cL_law 692 = .ok (.iaload, 1) := by decide +kernel
theorem dL_law_693 : decode cL_law 693 = .ok (.invokevirtual 98, 3) := by decide +kernel
theorem dL_law_696 : decode cL_law 696 = .ok (.if_icmp .eq 5, 3) := by decide +kernel
theorem dL_law_699 : decode cL_law 699 = .ok (.iconst 0, 1) := by decide +kernel
theorem dL_law_700 : decode cL_law 700 = .ok (.ireturn, 1) := by decide +kernel
theorem dL_law_701 : decode cL_law 701 = .ok (.iinc 3 4, 3) := by decide +kernel
theorem dL_law_704 : decode cL_law 704 = .ok (.goto (-686), 3) := by decide +kernel
theorem dL_law_707 : decode cL_law 707 = .ok (.iconst 1, 1) := by decide +kernel
theorem dL_law_708 : decode cL_law 708 = .ok (.ireturn, 1) := by decide +kernel
