theorem dX9_isFixed_23 : decode cX9_isFixed 23 = .ok (.goto 9, 3) := by decide +kernel
theorem dX9_isFixed_26 : decode cX9_isFixed 26 = .ok (.aload_n 0, 1) := by decide +kernel
theorem dX9_isFixed_27 : decode cX9_isFixed 27 = .ok (.getfield 53, 3) := by decide +kernel
theorem dX9_isFixed_30 : decode cX9_isFixed 30 = .ok (.iload_n 1, 1) := by decide +kernel
theorem dX9_isFixed_31 : decode cX9_isFixed 31 = .ok (.iaload, 1) := by decide +kernel
theorem dX9_isFixed_32 : decode cX9_isFixed 32 = .ok (.iaload, 1) := by decide +kernel
theorem dX9_isFixed_33 : decode cX9_isFixed 33 = .ok (.ifCond .lt 7, 3) := by decide +kernel
theorem dX9_isFixed_36 : decode cX9_isFixed 36 = .ok (.iconst 1, 1) := by decide +kernel
theorem dX9_isFixed_37 : decode cX9_isFixed 37 = .ok (.goto 4, 3) := by decide +kernel
theorem dX9_isFixed_40 : decode cX9_isFixed 40 = .ok (.iconst 0, 1) := by decide +kernel
theorem dX9_isFixed_41 : decode cX9_isFixed 41 = .ok (.ireturn, 1) := by decide +kernel
set_option maxRecDepth 20000 in
theorem ggX9_pass_X9_isFixed : GoodIn wsX9_pass wsX9_isFixed := goodIn_r _ [6, 1, 7, 30, 31, 32, 33, 34, 35, 36, 37, 38, 39, 40, 41, 42, 43, 44, 45, 46, 47, 48, 49, 50, 51, 52, 53, 54, 55, 56, 57] (by decide +kernel) (by decide +kernel)
set_option maxRecDepth 20000 in
theorem gX9_pass_X9_isFixed : GoodIn wsX9_pass (wsV RX9 113 RX9 yX9_isFixed wsX9_isFixed) := goodIn_app (goodIn_of _ (by decide +kernel)) ggX9_pass_X9_isFixed
set_option maxRecDepth 20000 in
theorem ggX9_pass_X9_placeCost : GoodIn wsX9_pass wsX9_placeCost := goodIn_r _ [11, 12, 13, 14, 5, 15, 16, 17, 18, 19, 20, 21, 22, 23, 24, 25, 30, 31, 32, 33, 34, 35, 36, 37, 38, 39, 40, 41, 42, 43, 44, 45, 46, 47, 48, 49, 50, 51, 52, 53, 54, 55, 56, 57] (by decide +kernel) (by decide +kernel)
set_option maxRecDepth 20000 in
theorem gX9_pass_X9_placeCost : GoodIn wsX9_pass (wsV RX9 116 RX9 yX9_placeCost wsX9_placeCost) := goodIn_app (goodIn_of _ (by decide +kernel)) ggX9_pass_X9_placeCost
set_option maxRecDepth 20000 in
theorem ggX9_pass_X9_exchange : GoodIn wsX9_pass wsX9_exchange := goodIn_r _ [29, 1, 25, 30, 31, 32, 33, 34, 35, 36, 37, 38, 39, 40, 41, 42, 43, 44, 45, 46, 47, 48, 49, 50, 51, 52, 53, 54, 55, 56, 57] (by decide +kernel) (by decide +kernel)
set_option maxRecDepth 20000 in
theorem gX9_pass_X9_exchange : GoodIn wsX9_pass (wsV RX9 120 RX9 yX9_exchange wsX9_exchange) := goodIn_app (goodIn_of _ (by decide +kernel)) ggX9_pass_X9_exchange
theorem dX9_pass_0 : decode cX9_pass 0 = .ok (.iconst 0, 1) := by decide +kernel
theorem dX9_pass_1 : decode cX9_pass 1 = .ok (.istore_n 1, 1) := by decide +kernel
theorem dX9_pass_2 : decode cX9_pass 2 = .ok (.iconst 0, 1) := by decide +kernel
theorem dX9_pass_3 : decode cX9_pass 3 = .ok (.istore_n 2, 1) := by decide +kernel
theorem dX9_pass_4 : decode cX9_pass 4 = .ok (.iload_n 2, 1) := by decide +kernel
theorem dX9_pass_5 : decode cX9_pass 5 = .ok (.bipush 16, 2) := by decide +kernel
theorem dX9_pass_7 : decode cX9_pass 7 = .ok (.if_icmp .ge 91, 3) := by decide +kernel
theorem dX9_pass_10 : decode cX9_pass 10 = .ok (.iload_n 2, 1) := by decide +kernel
theorem dX9_pass_11 : decode cX9_pass 11 = .ok (.iconst 1, 1) := by decide +kernel
theorem dX9_pass_12 : decode cX9_pass 12 = .ok (.iadd, 1) := by decide +kernel
theorem dX9_pass_13 : decode cX9_pass 13 = .ok (.istore_n 3, 1) := by decide +kernel
theorem dX9_pass_14 : decode cX9_pass 14 = .ok (.iload_n 3, 1) := by decide +kernel
theorem dX9_pass_15 : decode cX9_pass 15 = .ok (.bipush 16, 2) := by decide +kernel
theorem dX9_pass_17 : decode cX9_pass 17 = .ok (.if_icmp .ge 75, 3) := by decide +kernel
theorem dX9_pass_20 : decode cX9_pass 20 = .ok (.aload_n 0, 1) := by decide +kernel
theorem dX9_pass_21 : decode cX9_pass 21 = .ok (.iload_n 2, 1) := by decide +kernel
theorem dX9_pass_22 : decode cX9_pass 22 = .ok (.invokevirtual 113, 3) := by decide +kernel
theorem dX9_pass_25 : decode cX9_pass 25 = .ok (.ifCond .ne 61, 3) := by decide +kernel
theorem dX9_pass_28 : decode cX9_pass 28 = .ok (.aload_n 0, 1) := by decide +kernel
theorem dX9_pass_29 : decode cX9_pass 29 = .ok (.iload_n 3, 1) := by decide +kernel
theorem dX9_pass_30 : decode cX9_pass 30 = .ok (.invokevirtual 113, 3) := by decide +kernel
theorem dX9_pass_33 : decode cX9_pass 33 = .ok (.ifCond .ne 53, 3) := by decide +kernel
theorem dX9_pass_36 : decode cX9_pass 36 = .ok (.aload_n 0, 1) := by decide +kernel
theorem dX9_pass_37 : decode cX9_pass 37 = .ok (.getfield 53, 3) := by decide +kernel
theorem dX9_pass_40 : decode cX9_pass 40 = .ok (.iload_n 2, 1) := by decide +kernel
theorem dX9_pass_41 : decode cX9_pass 41 = .ok (.iaload, 1) := by decide +kernel
theorem dX9_pass_42 : decode cX9_pass 42 = .ok (.ifCond .ge 12, 3) := by decide +kernel
theorem dX9_pass_45 : decode cX9_pass 45 = .ok (.aload_n 0, 1) := by decide +kernel
theorem dX9_pass_46 : decode cX9_pass 46 = .ok (.getfield 53, 3) := by decide +kernel
theorem dX9_pass_49 : decode cX9_pass 49 = .ok (.iload_n 3, 1) := by decide +kernel
theorem dX9_pass_50 : decode cX9_pass 50 = .ok (.iaload, 1) := by decide +kernel
theorem dX9_pass_51 : decode cX9_pass 51 = .ok (.ifCond .lt 35, 3) := by decide +kernel
theorem dX9_pass_54 : decode cX9_pass 54 = .ok (.aload_n 0, 1) := by decide +kernel
theorem dX9_pass_55 : decode cX9_pass 55 = .ok (.invokevirtual 116, 3) := by decide +kernel
theorem dX9_pass_58 : decode cX9_pass 58 = .ok (.istore 4, 2) := by decide +kernel
theorem dX9_pass_60 : decode cX9_pass 60 = .ok (.aload_n 0, 1) := by decide +kernel
theorem dX9_pass_61 : decode cX9_pass 61 = .ok (.iload_n 2, 1) := by decide +kernel
theorem dX9_pass_62 : decode cX9_pass 62 = .ok (.iload_n 3, 1) := by decide +kernel
theorem dX9_pass_63 : decode cX9_pass 63 = .ok (.invokevirtual 120, 3) := by decide +kernel
theorem dX9_pass_66 : decode cX9_pass 66 = .ok (.aload_n 0, 1) := by decide +kernel
theorem dX9_pass_67 : decode cX9_pass 67 = .ok (.invokevirtual 116, 3) := by decide +kernel
theorem dX9_pass_70 : decode cX9_pass 70 = .ok (.iload 4, 2) := by decide +kernel
theorem dX9_pass_72 : decode cX9_pass 72 = .ok (.if_icmp .ge 8, 3) := by decide +kernel
theorem dX9_pass_75 : decode cX9_pass 75 = .ok (.iconst 1, 1) := by decide +kernel
theorem dX9_pass_76 : decode cX9_pass 76 = .ok (.istore_n 1, 1) := by decide +kernel
theorem dX9_pass_77 : decode cX9_pass 77 = .ok (.goto 9, 3) := by decide +kernel
theorem dX9_pass_80 : decode cX9_pass 80 = .ok (.aload_n 0, 1) := by decide +kernel
theorem dX9_pass_81 : decode cX9_pass 81 = .ok (.iload_n 2, 1) := by decide +kernel
theorem dX9_pass_82 : decode cX9_pass 82 = .ok (.iload_n 3, 1) := by decide +kernel
theorem dX9_pass_83 : decode cX9_pass 83 = .ok (.invokevirtual 120, 3) := by decide +kernel
theorem dX9_pass_86 : decode cX9_pass 86 = .ok (.iinc 3 1, 3) := by decide +kernel
theorem dX9_pass_89 : decode cX9_pass 89 = .ok (.goto (-75), 3) := by decide +kernel
theorem dX9_pass_92 : decode cX9_pass 92 = .ok (.iinc 2 1, 3) := by decide +kernel
theorem dX9_pass_95 : decode cX9_pass 95 = .ok (.goto (-91), 3) := by decide +kernel
theorem dX9_pass_98 : decode cX9_pass 98 = .ok (.iload_n 1, 1) := by decide +kernel
theorem dX9_pass_99 : decode cX9_pass 99 = .ok (.ireturn, 1) := by decide +kernel
set_option maxRecDepth 20000 in
theorem ggX9_place_X9_put : GoodIn wsX9_place wsX9_put := goodIn_r _ [8, 9, 1, 39, 40, 41, 42, 43, 44, 45, 46, 47, 48, 49, 50, 51, 52, 53, 54, 55, 56, 57, 58, 59, 60, 61, 62, 63, 64, 65, 66] (by decide +kernel) (by decide +kernel)
set_option maxRecDepth 20000 in
theorem gX9_place_X9_put : GoodIn wsX9_place (wsV RX9 124 RX9 yX9_put wsX9_put) := goodIn_app (goodIn_of _ (by decide +kernel)) ggX9_place_X9_put
set_option maxRecDepth 20000 in
theorem ggX9_place_X9_pass : GoodIn wsX9_place wsX9_pass := goodIn_r _ [13, 1, 14, 15, 16, 7, 17, 3, 18, 19, 20, 21, 22, 23, 24, 25, 26, 27, 28, 29, 30, 31, 32, 33, 34, 9, 35, 36, 37, 38, 39, 40, 41, 42, 43, 44, 45, 46, 47, 48, 49, 50, 51, 52, 53, 54, 55, 56, 57, 58, 59, 60, 61, 62, 63, 64, 65, 66] (by decide +kernel) (by decide +kernel)
set_option maxRecDepth 20000 in
theorem gX9_place_X9_pass : GoodIn wsX9_place (wsV RX9 127 RX9 yX9_pass wsX9_pass) := goodIn_app (goodIn_of _ (by decide +kernel)) ggX9_place_X9_pass
theorem dX9_place_0 : decode cX9_place 0 = .ok (.iconst 0, 1) := by decide +kernel
theorem dX9_place_1 : decode cX9_place 1 = .ok (.istore_n 1, 1) := by decide +kernel
theorem dX9_place_2 : decode cX9_place 2 = .ok (.iload_n 1, 1) := by decide +kernel
theorem dX9_place_3 : decode cX9_place 3 = .ok (.bipush 16, 2) := by decide +kernel
theorem dX9_place_5 : decode cX9_place 5 = .ok (.if_icmp .ge 16, 3) := by decide +kernel
theorem dX9_place_8 : decode cX9_place 8 = .ok (.aload_n 0, 1) := by decide +kernel
theorem dX9_place_9 : decode cX9_place 9 = .ok (.getfield 53, 3) := by decide +kernel
theorem dX9_place_12 : decode cX9_place 12 = .ok (.iload_n 1, 1) := by decide +kernel
theorem dX9_place_13 : decode cX9_place 13 = .ok (.iconst (-1), 1) := by decide +kernel
theorem dX9_place_14 : decode cX9_place 14 = .ok (.iastore, 1) := by decide +kernel
theorem dX9_place_15 : decode cX9_place 15 = .ok (.iinc 1 1, 3) := by decide +kernel
theorem dX9_place_18 : decode cX9_place 18 = .ok (.goto (-16), 3) := by decide +kernel
theorem dX9_place_21 : decode cX9_place 21 = .ok (.iconst 0, 1) := by decide +kernel
theorem dX9_place_22 : decode cX9_place 22 = .ok (.istore_n 1, 1) := by decide +kernel
theorem dX9_place_23 : decode cX9_place 23 = .ok (.iload_n 1, 1) := by decide +kernel
theorem dX9_place_24 : decode cX9_place 24 = .ok (.aload_n 0, 1) := by decide +kernel
theorem dX9_place_25 : decode cX9_place 25 = .ok (.getfield 91, 3) := by decide +kernel
theorem dX9_place_28 : decode cX9_place 28 = .ok (.if_icmp .ge 29, 3) := by decide +kernel
theorem dX9_place_31 : decode cX9_place 31 = .ok (.aload_n 0, 1) := by decide +kernel
theorem dX9_place_32 : decode cX9_place 32 = .ok (.getfield 41, 3) := by decide +kernel
theorem dX9_place_35 : decode cX9_place 35 = .ok (.iload_n 1, 1) := by decide +kernel
theorem dX9_place_36 : decode cX9_place 36 = .ok (.iaload, 1) := by decide +kernel
theorem dX9_place_37 : decode cX9_place 37 = .ok (.ifCond .lt 14, 3) := by decide +kernel
theorem dX9_place_40 : decode cX9_place 40 = .ok (.aload_n 0, 1) := by decide +kernel
theorem dX9_place_41 : decode cX9_place 41 = .ok (.iload_n 1, 1) := by decide +kernel
theorem dX9_place_42 : decode cX9_place 42 = .ok (.aload_n 0, 1) := by decide +kernel
theorem dX9_place_43 : decode cX9_place 43 = .ok (.getfield 41, 3) := by decide +kernel
theorem dX9_place_46 : decode cX9_place 46 = .ok (.iload_n 1, 1) := by decide +kernel
theorem dX9_place_47 : decode cX9_place 47 = .ok (.iaload, 1) := by decide +kernel
theorem dX9_place_48 : decode cX9_place 48 = .ok (.invokevirtual 124, 3) := by decide +kernel
theorem dX9_place_51 : decode cX9_place 51 = .ok (.iinc 1 1, 3) := by decide +kernel
theorem dX9_place_54 : decode cX9_place 54 = .ok (.goto (-31), 3) := by decide +kernel
theorem dX9_place_57 : decode cX9_place 57 = .ok (.iconst 0, 1) := by decide +kernel
theorem dX9_place_58 : decode cX9_place 58 = .ok (.istore_n 1, 1) := by decide +kernel
theorem dX9_place_59 : decode cX9_place 59 = .ok (.iload_n 1, 1) := by decide +kernel
theorem dX9_place_60 : decode cX9_place 60 = .ok (.aload_n 0, 1) := by decide +kernel
theorem dX9_place_61 : decode cX9_place 61 = .ok (.getfield 91, 3) := by decide +kernel
theorem dX9_place_64 : decode cX9_place 64 = .ok (.if_icmp .ge 47, 3) := by decide +kernel
theorem dX9_place_67 : decode cX9_place 67 = .ok (.iconst 0, 1) := by decide +kernel
theorem dX9_place_68 : decode cX9_place 68 = .ok (.istore_n 2, 1) := by decide +kernel
theorem dX9_place_69 : decode cX9_place 69 = .ok (.iload_n 2, 1) := by decide +kernel
theorem dX9_place_70 : decode cX9_place 70 = .ok (.bipush 15, 2) := by decide +kernel
theorem dX9_place_72 : decode cX9_place 72 = .ok (.if_icmp .ge 18, 3) := by decide +kernel
theorem dX9_place_75 : decode cX9_place 75 = .ok (.aload_n 0, 1) := by decide +kernel
theorem dX9_place_76 : decode cX9_place 76 = .ok (.getfield 53, 3) := by decide +kernel
theorem dX9_place_79 : decode cX9_place 79 = .ok (.iload_n 2, 1) := by decide +kernel
theorem dX9_place_80 : decode cX9_place 80 = .ok (.iaload, 1) := by decide +kernel
theorem dX9_place_81 : decode cX9_place 81 = .ok (.ifCond .lt 9, 3) := by decide +kernel
theorem dX9_place_84 : decode cX9_place 84 = .ok (.iinc 2 1, 3) := by decide +kernel
theorem dX9_place_87 : decode cX9_place 87 = .ok (.goto (-18), 3) := by decide +kernel
theorem dX9_place_90 : decode cX9_place 90 = .ok (.aload_n 0, 1) := by decide +kernel
theorem dX9_place_91 : decode cX9_place 91 = .ok (.getfield 41, 3) := by decide +kernel
theorem dX9_place_94 : decode cX9_place 94 = .ok (.iload_n 1, 1) := by decide +kernel
theorem dX9_place_95 : decode cX9_place 95 = .ok (.iaload, 1) := by decide +kernel
theorem dX9_place_96 : decode cX9_place 96 = .ok (.ifCond .ge 9, 3) := by decide +kernel
theorem dX9_place_99 : decode cX9_place 99 = .ok (.aload_n 0, 1) := by decide +kernel
theorem dX9_place_100 : decode cX9_place 100 = .ok (.iload_n 1, 1) := by decide +kernel
theorem dX9_place_101 : decode cX9_place 101 = .ok (.iload_n 2, 1) := by decide +kernel
theorem dX9_place_102 : decode cX9_place 102 = .ok (.invokevirtual 124, 3) := by decide +kernel
theorem dX9_place_105 : decode cX9_place 105 = .ok (.iinc 1 1, 3) := by decide +kernel
theorem dX9_place_108 : decode cX9_place 108 = .ok (.goto (-49), 3) := by decide +kernel
theorem dX9_place_111 : decode cX9_place 111 = .ok (.iconst 1, 1) := by decide +kernel
theorem dX9_place_112 : decode cX9_place 112 = .ok (.istore_n 1, 1) := by decide +kernel
theorem dX9_place_113 : decode cX9_place 113 = .ok (.iconst 0, 1) := by decide +kernel
theorem dX9_place_114 : decode cX9_place 114 = .ok (.istore_n 2, 1) := by decide +kernel
theorem dX9_place_115 : decode cX9_place 115 = .ok (.iload_n 2, 1) := by decide +kernel
theorem dX9_place_116 : decode cX9_place 116 = .ok (.bipush 20, 2) := by decide +kernel
theorem dX9_place_118 : decode cX9_place 118 = .ok (.if_icmp .ge 18, 3) := by decide +kernel
theorem dX9_place_121 : decode cX9_place 121 = .ok (.iload_n 1, 1) := by decide +kernel
theorem dX9_place_122 : decode cX9_place 122 = .ok (.ifCond .eq 14, 3) := by decide +kernel
theorem dX9_place_125 : decode cX9_place 125 = .ok (.aload_n 0, 1) := by decide +kernel
theorem dX9_place_126 : decode cX9_place 126 = .ok (.invokevirtual 127, 3) := by decide +kernel
theorem dX9_place_129 : decode cX9_place 129 = .ok (.istore_n 1, 1) := by decide +kernel
theorem dX9_place_130 : decode cX9_place 130 = .ok (.iinc 2 1, 3) := by decide +kernel
theorem dX9_place_133 : decode cX9_place 133 = .ok (.goto (-18), 3) := by decide +kernel
theorem dX9_place_136 : decode cX9_place 136 = .ok (.return_, 1) := by decide +kernel
theorem dX9_price_0 : decode cX9_price 0 = .ok (.aload_n 0, 1) := by decide +kernel
theorem dX9_price_1 : decode cX9_price 1 = .ok (.getfield 62, 3) := by decide +kernel
theorem dX9_price_4 : decode cX9_price 4 = .ok (.iload_n 1, 1) := by decide +kernel
theorem dX9_price_5 : decode cX9_price 5 = .ok (.baload, 1) := by decide +kernel
theorem dX9_price_6 : decode cX9_price 6 = .ok (.ifCond .eq 7, 3) := by decide +kernel
theorem dX9_price_9 : decode cX9_price 9 = .ok (.iconst 0, 1) := by decide +kernel
theorem dX9_price_10 : decode cX9_price 10 = .ok (.goto 20, 3) := by decide +kernel
theorem dX9_price_13 : decode cX9_price 13 = .ok (.iconst 1, 1) := by decide +kernel
theorem dX9_price_14 : decode cX9_price 14 = .ok (.iconst 3, 1) := by decide +kernel
theorem dX9_price_15 : decode cX9_price 15 = .ok (.aload_n 0, 1) := by decide +kernel
theorem dX9_price_16 : decode cX9_price 16 = .ok (.getfield 56, 3) := by decide +kernel
theorem dX9_price_19 : decode cX9_price 19 = .ok (.iload_n 1, 1) := by decide +kernel
theorem dX9_price_20 : decode cX9_price 20 = .ok (.iaload, 1) := by decide +kernel
theorem dX9_price_21 : decode cX9_price 21 = .ok (.imul, 1) := by decide +kernel
theorem dX9_price_22 : decode cX9_price 22 = .ok (.iadd, 1) := by decide +kernel
theorem dX9_price_23 : decode cX9_price 23 = .ok (.aload_n 0, 1) := by decide +kernel
theorem dX9_price_24 : decode cX9_price 24 = .ok (.getfield 59, 3) := by decide +kernel
theorem dX9_price_27 : decode cX9_price 27 = .ok (.iload_n 1, 1) := by decide +kernel
theorem dX9_price_28 : decode cX9_price 28 = .ok (.iaload, 1) := by decide +kernel
theorem dX9_price_29 : decode cX9_price 29 = .ok (.iadd, 1) := by decide +kernel
theorem dX9_price_30 : decode cX9_price 30 = .ok (.ireturn, 1) := by decide +kernel
set_option maxRecDepth 20000 in
theorem ggX9_leastBehind_X9_behindChannel : GoodIn wsX9_leastBehind wsX9_behindChannel := goodIn_r _ [6, 7, 8, 5, 9, 10, 11, 12] (by decide +kernel) (by decide +kernel)
set_option maxRecDepth 20000 in
theorem gX9_leastBehind_X9_behindChannel : GoodIn wsX9_leastBehind (va_wsS RX9 132 yX9_behindChannel wsX9_behindChannel) := goodIn_app (goodIn_of _ (by decide +kernel)) ggX9_leastBehind_X9_behindChannel
theorem dX9_leastBehind_0 : decode cX9_leastBehind 0 = .ok (.ldc 131, 2) := by decide +kernel
theorem dX9_leastBehind_2 : decode cX9_leastBehind 2 = .ok (.istore_n 2, 1) := by decide +kernel
theorem dX9_leastBehind_3 : decode cX9_leastBehind 3 = .ok (.iconst 1, 1) := by decide +kernel
theorem dX9_leastBehind_4 : decode cX9_leastBehind 4 = .ok (.istore_n 3, 1) := by decide +kernel
theorem dX9_leastBehind_5 : decode cX9_leastBehind 5 = .ok (.iload_n 3, 1) := by decide +kernel
theorem dX9_leastBehind_6 : decode cX9_leastBehind 6 = .ok (.iconst 5, 1) := by decide +kernel
theorem dX9_leastBehind_7 : decode cX9_leastBehind 7 = .ok (.if_icmp .ge 49, 3) := by decide +kernel
theorem dX9_leastBehind_10 : decode cX9_leastBehind 10 = .ok (.iload_n 1, 1) := by decide +kernel
theorem dX9_leastBehind_11 : decode cX9_leastBehind 11 = .ok (.iload_n 3, 1) := by decide +kernel
theorem dX9_leastBehind_12 : decode cX9_leastBehind 12 = .ok (.invokestatic 132, 3) := by decide +kernel
theorem dX9_leastBehind_15 : decode cX9_leastBehind 15 = .ok (.istore 4, 2) := by decide +kernel
theorem dX9_leastBehind_17 : decode cX9_leastBehind 17 = .ok (.iload 4, 2) := by decide +kernel
theorem dX9_leastBehind_19 : decode cX9_leastBehind 19 = .ok (.ifCond .lt 31, 3) := by decide +kernel
theorem dX9_leastBehind_22 : decode cX9_leastBehind 22 = .ok (.aload_n 0, 1) := by decide +kernel
theorem dX9_leastBehind_23 : decode cX9_leastBehind 23 = .ok (.getfield 65, 3) := by decide +kernel
theorem dX9_leastBehind_26 : decode cX9_leastBehind 26 = .ok (.iload 4, 2) := by decide +kernel
theorem dX9_leastBehind_28 : decode cX9_leastBehind 28 = .ok (.ifCond .ge 7, 3) := by decide +kernel
theorem dX9_leastBehind_31 : decode cX9_leastBehind 31 = .ok (.iconst 0, 1) := by decide +kernel
theorem dX9_leastBehind_32 : decode cX9_leastBehind 32 = .ok (.goto 5, 3) := by decide +kernel
theorem dX9_leastBehind_35 : decode cX9_leastBehind 35 = .ok (.iload 4, 2) := by decide +kernel
theorem dX9_leastBehind_37 : decode cX9_leastBehind 37 = .ok (.iaload, 1) := by decide +kernel
theorem dX9_leastBehind_38 : decode cX9_leastBehind 38 = .ok (.iload_n 2, 1) := by decide +kernel
theorem dX9_leastBehind_39 : decode cX9_leastBehind 39 = .ok (.if_icmp .ge 11, 3) := by decide +kernel
theorem dX9_leastBehind_42 : decode cX9_leastBehind 42 = .ok (.aload_n 0, 1) := by decide +kernel
theorem dX9_leastBehind_43 : decode cX9_leastBehind 43 = .ok (.getfield 65, 3) := by decide +kernel
theorem dX9_leastBehind_46 : decode cX9_leastBehind 46 = .ok (.iload 4, 2) := by decide +kernel
theorem dX9_leastBehind_48 : decode cX9_leastBehind 48 = .ok (.iaload, 1) := by decide +kernel
theorem dX9_leastBehind_49 : decode cX9_leastBehind 49 = .ok (.istore_n 2, 1) := by decide +kernel
theorem dX9_leastBehind_50 : decode cX9_leastBehind 50 = .ok (.iinc 3 1, 3) := by decide +kernel
theorem dX9_leastBehind_53 : decode cX9_leastBehind 53 = .ok (.goto (-48), 3) := by decide +kernel
theorem dX9_leastBehind_56 : decode cX9_leastBehind 56 = .ok (.iload_n 2, 1) := by decide +kernel
theorem dX9_leastBehind_57 : decode cX9_leastBehind 57 = .ok (.ireturn, 1) := by decide +kernel
set_option maxRecDepth 20000 in
theorem ggX9_relax_X9_wireOf : GoodIn wsX9_relax wsX9_wireOf := goodIn_r _ [7] (by decide +kernel) (by decide +kernel)
set_option maxRecDepth 20000 in
theorem gX9_relax_X9_wireOf : GoodIn wsX9_relax (va_wsS RX9 136 yX9_wireOf wsX9_wireOf) := goodIn_app (goodIn_of _ (by decide +kernel)) ggX9_relax_X9_wireOf
set_option maxRecDepth 20000 in
theorem ggX9_relax_X9_leastBehind : GoodIn wsX9_relax wsX9_leastBehind := goodIn_r _ [11, 3, 1, 12, 13, 6, 14, 15, 16, 17, 18, 19, 20, 27, 28, 29, 30, 31, 32, 33, 34, 35, 36, 37, 38, 39, 40, 41, 42, 43, 44, 45, 46, 47, 48, 49, 50, 51, 52, 53, 54] (by decide +kernel) (by decide +kernel)
set_option maxRecDepth 20000 in
theorem gX9_relax_X9_leastBehind : GoodIn wsX9_relax (wsV RX9 140 RX9 yX9_leastBehind wsX9_leastBehind) := goodIn_app (goodIn_of _ (by decide +kernel)) ggX9_relax_X9_leastBehind
set_option maxRecDepth 20000 in
theorem ggX9_relax_X9_price : GoodIn wsX9_relax wsX9_price := goodIn_r _ [24, 2, 25, 26, 27, 28, 29, 30, 31, 32, 33, 34, 35, 36, 37, 38, 39, 40, 41, 42, 43, 44, 45, 46, 47, 48, 49, 50, 51, 52, 53, 54] (by decide +kernel) (by decide +kernel)
set_option maxRecDepth 20000 in
theorem gX9_relax_X9_price : GoodIn wsX9_relax (wsV RX9 143 RX9 yX9_price wsX9_price) := goodIn_app (goodIn_of _ (by decide +kernel)) ggX9_relax_X9_price
theorem dX9_relax_0 : decode cX9_relax 0 = .ok (.iconst 0, 1) := by decide +kernel
theorem dX9_relax_1 : decode cX9_relax 1 = .ok (.istore_n 1, 1) := by decide +kernel
theorem dX9_relax_2 : decode cX9_relax 2 = .ok (.iload_n 1, 1) := by decide +kernel
theorem dX9_relax_3 : decode cX9_relax 3 = .ok (.sipush 148, 3) := by decide +kernel
theorem dX9_relax_6 : decode cX9_relax 6 = .ok (.if_icmp .ge 30, 3) := by decide +kernel
theorem dX9_relax_9 : decode cX9_relax 9 = .ok (.aload_n 0, 1) := by decide +kernel
theorem dX9_relax_10 : decode cX9_relax 10 = .ok (.getfield 65, 3) := by decide +kernel
theorem dX9_relax_13 : decode cX9_relax 13 = .ok (.iload_n 1, 1) := by decide +kernel
theorem dX9_relax_14 : decode cX9_relax 14 = .ok (.aload_n 0, 1) := by decide +kernel
theorem dX9_relax_15 : decode cX9_relax 15 = .ok (.getfield 62, 3) := by decide +kernel
theorem dX9_relax_18 : decode cX9_relax 18 = .ok (.iload_n 1, 1) := by decide +kernel
theorem dX9_relax_19 : decode cX9_relax 19 = .ok (.baload, 1) := by decide +kernel
theorem dX9_relax_20 : decode cX9_relax 20 = .ok (.ifCond .eq 7, 3) := by decide +kernel
theorem dX9_relax_23 : decode cX9_relax 23 = .ok (.iconst 0, 1) := by decide +kernel
theorem dX9_relax_24 : decode cX9_relax 24 = .ok (.goto 5, 3) := by decide +kernel
theorem dX9_relax_27 : decode cX9_relax 27 = .ok (.ldc 131, 2) := by decide +kernel
theorem dX9_relax_29 : decode cX9_relax 29 = .ok (.iastore, 1) := by decide +kernel
theorem dX9_relax_30 : decode cX9_relax 30 = .ok (.iinc 1 1, 3) := by decide +kernel
theorem dX9_relax_33 : decode cX9_relax 33 = .ok (.goto (-31), 3) := by decide +kernel
theorem dX9_relax_36 : decode cX9_relax 36 = .ok (.iconst 1, 1) := by decide +kernel
theorem dX9_relax_37 : decode cX9_relax 37 = .ok (.istore_n 1, 1) := by decide +kernel
theorem dX9_relax_38 : decode cX9_relax 38 = .ok (.iload_n 1, 1) := by decide +kernel
theorem dX9_relax_39 : decode cX9_relax 39 = .ok (.ifCond .eq 62, 3) := by decide +kernel
theorem dX9_relax_42 : decode cX9_relax 42 = .ok (.iconst 0, 1) := by decide +kernel
theorem dX9_relax_43 : decode cX9_relax 43 = .ok (.istore_n 1, 1) := by decide +kernel
theorem dX9_relax_44 : decode cX9_relax 44 = .ok (.iconst 0, 1) := by decide +kernel
theorem dX9_relax_45 : decode cX9_relax 45 = .ok (.istore_n 2, 1) := by decide +kernel
theorem dX9_relax_46 : decode cX9_relax 46 = .ok (.iload_n 2, 1) := by decide +kernel
theorem dX9_relax_47 : decode cX9_relax 47 = .ok (.sipush 128, 3) := by decide +kernel
theorem dX9_relax_50 : decode cX9_relax 50 = .ok (.if_icmp .ge 48, 3) := by decide +kernel
theorem dX9_relax_53 : decode cX9_relax 53 = .ok (.iload_n 2, 1) := by decide +kernel
theorem dX9_relax_54 : decode cX9_relax 54 = .ok (.invokestatic 136, 3) := by decide +kernel
theorem dX9_relax_57 : decode cX9_relax 57 = .ok (.istore_n 3, 1) := by decide +kernel
theorem dX9_relax_58 : decode cX9_relax 58 = .ok (.aload_n 0, 1) := by decide +kernel
theorem dX9_relax_59 : decode cX9_relax 59 = .ok (.iload_n 2, 1) := by decide +kernel
theorem dX9_relax_60 : decode cX9_relax 60 = .ok (.invokevirtual 140, 3) := by decide +kernel
theorem dX9_relax_63 : decode cX9_relax 63 = .ok (.aload_n 0, 1) := by decide +kernel
theorem dX9_relax_64 : decode cX9_relax 64 = .ok (.iload_n 3, 1) := by decide +kernel
theorem dX9_relax_65 : decode cX9_relax 65 = .ok (.invokevirtual 143, 3) := by decide +kernel
theorem dX9_relax_68 : decode cX9_relax 68 = .ok (.iadd, 1) := by decide +kernel
theorem dX9_relax_69 : decode cX9_relax 69 = .ok (.istore 4, 2) := by decide +kernel
theorem dX9_relax_71 : decode cX9_relax 71 = .ok (.iload 4, 2) := by decide +kernel
theorem dX9_relax_73 : decode cX9_relax 73 = .ok (.aload_n 0, 1) := by decide +kernel
theorem dX9_relax_74 : decode cX9_relax 74 = .ok (.getfield 65, 3) := by decide +kernel
theorem dX9_relax_77 : decode cX9_relax 77 = .ok (.iload_n 3, 1) := by decide +kernel
theorem dX9_relax_78 : decode cX9_relax 78 = .ok (.iaload, 1) := by decide +kernel
theorem dX9_relax_79 : decode cX9_relax 79 = .ok (.if_icmp .ge 13, 3) := by decide +kernel
theorem dX9_relax_82 : decode cX9_relax 82 = .ok (.aload_n 0, 1) := by decide +kernel
theorem dX9_relax_83 : decode cX9_relax 83 = .ok (.getfield 65, 3) := by decide +kernel
theorem dX9_relax_86 : decode cX9_relax 86 = .ok (.iload_n 3, 1) := by decide +kernel
theorem dX9_relax_87 : decode cX9_relax 87 = .ok (.iload 4, 2) := by decide +kernel
theorem dX9_relax_89 : decode cX9_relax 89 = .ok (.iastore, 1) := by decide +kernel
theorem dX9_relax_90 : decode cX9_relax 90 = .ok (.iconst 1, 1) := by decide +kernel
theorem dX9_relax_91 : decode cX9_relax 91 = .ok (.istore_n 1, 1) := by decide +kernel
theorem dX9_relax_92 : decode cX9_relax 92 = .ok (.iinc 2 1, 3) := by decide +kernel
theorem dX9_relax_95 : decode cX9_relax 95 = .ok (.goto (-49), 3) := by decide +kernel
theorem dX9_relax_98 : decode cX9_relax 98 = .ok (.goto (-60), 3) := by decide +kernel
theorem dX9_relax_101 : decode cX9_relax 101 = .ok (.return_, 1) := by decide +kernel
set_option maxRecDepth 20000 in
theorem ggX9_follow_X9_channelOf : GoodIn wsX9_follow wsX9_channelOf := goodIn_r _ [7] (by decide +kernel) (by decide +kernel)
set_option maxRecDepth 20000 in
theorem gX9_follow_X9_channelOf : GoodIn wsX9_follow (va_wsS RX9 146 yX9_channelOf wsX9_channelOf) := goodIn_app (goodIn_of _ (by decide +kernel)) ggX9_follow_X9_channelOf
set_option maxRecDepth 20000 in
theorem ggX9_follow_X9_behindChannel : GoodIn wsX9_follow wsX9_behindChannel := goodIn_r _ [10, 11, 12, 6, 13, 14, 15, 16] (by decide +kernel) (by decide +kernel)
set_option maxRecDepth 20000 in
theorem gX9_follow_X9_behindChannel : GoodIn wsX9_follow (va_wsS RX9 132 yX9_behindChannel wsX9_behindChannel) := goodIn_app (goodIn_of _ (by decide +kernel)) ggX9_follow_X9_behindChannel
set_option maxRecDepth 20000 in
theorem ggX9_follow_X9_price : GoodIn wsX9_follow wsX9_price := goodIn_r _ [20, 1, 21, 22, 23, 24, 25, 26, 27, 28, 29, 30, 31, 32, 33, 34, 35, 36, 37, 38, 39, 40, 41, 42, 43, 44, 45, 46, 47, 48, 49, 50] (by decide +kernel) (by decide +kernel)
set_option maxRecDepth 20000 in
theorem gX9_follow_X9_price : GoodIn wsX9_follow (wsV RX9 143 RX9 yX9_price wsX9_price) := goodIn_app (goodIn_of _ (by decide +kernel)) ggX9_follow_X9_price
theorem dX9_follow_0 : decode cX9_follow 0 = .ok (.iload_n 1, 1) := by decide +kernel
theorem dX9_follow_1 : decode cX9_follow 1 = .ok (.istore_n 2, 1) := by decide +kernel
theorem dX9_follow_2 : decode cX9_follow 2 = .ok (.aload_n 0, 1) := by decide +kernel
theorem dX9_follow_3 : decode cX9_follow 3 = .ok (.getfield 62, 3) := by decide +kernel
theorem dX9_follow_6 : decode cX9_follow 6 = .ok (.iload_n 2, 1) := by decide +kernel
theorem dX9_follow_7 : decode cX9_follow 7 = .ok (.baload, 1) := by decide +kernel
theorem dX9_follow_8 : decode cX9_follow 8 = .ok (.ifCond .ne 126, 3) := by decide +kernel
theorem dX9_follow_11 : decode cX9_follow 11 = .ok (.iload_n 2, 1) := by decide +kernel
theorem dX9_follow_12 : decode cX9_follow 12 = .ok (.invokestatic 146, 3) := by decide +kernel
theorem dX9_follow_15 : decode cX9_follow 15 = .ok (.istore_n 3, 1) := by decide +kernel
theorem dX9_follow_16 : decode cX9_follow 16 = .ok (.iconst (-1), 1) := by decide +kernel
theorem dX9_follow_17 : decode cX9_follow 17 = .ok (.istore 4, 2) := by decide +kernel
theorem dX9_follow_19 : decode cX9_follow 19 = .ok (.iconst 0, 1) := by decide +kernel
theorem dX9_follow_20 : decode cX9_follow 20 = .ok (.istore 5, 2) := by decide +kernel
theorem dX9_follow_22 : decode cX9_follow 22 = .ok (.iconst 1, 1) := by decide +kernel
theorem dX9_follow_23 : decode cX9_follow 23 = .ok (.istore 6, 2) := by decide +kernel
theorem dX9_follow_25 : decode cX9_follow 25 = .ok (.iload 6, 2) := by decide +kernel
theorem dX9_follow_27 : decode cX9_follow 27 = .ok (.iconst 5, 1) := by decide +kernel
theorem dX9_follow_28 : decode cX9_follow 28 = .ok (.if_icmp .ge 85, 3) := by decide +kernel
theorem dX9_follow_31 : decode cX9_follow 31 = .ok (.iload_n 3, 1) := by decide +kernel
theorem dX9_follow_32 : decode cX9_follow 32 = .ok (.iload 6, 2) := by decide +kernel
theorem dX9_follow_34 : decode cX9_follow 34 = .ok (.invokestatic 132, 3) := by decide +kernel
theorem dX9_follow_37 : decode cX9_follow 37 = .ok (.istore 7, 2) := by decide +kernel
theorem dX9_follow_39 : decode cX9_follow 39 = .ok (.iload 7, 2) := by decide +kernel
theorem dX9_follow_41 : decode cX9_follow 41 = .ok (.ifCond .lt 38, 3) := by decide +kernel
theorem dX9_follow_44 : decode cX9_follow 44 = .ok (.aload_n 0, 1) := by decide +kernel
theorem dX9_follow_45 : decode cX9_follow 45 = .ok (.getfield 65, 3) := by decide +kernel
theorem dX9_follow_48 : decode cX9_follow 48 = .ok (.iload 7, 2) := by decide +kernel
theorem dX9_follow_50 : decode cX9_follow 50 = .ok (.ifCond .ge 7, 3) := by decide +kernel
theorem dX9_follow_53 : decode cX9_follow 53 = .ok (.iconst 0, 1) := by decide +kernel
theorem dX9_follow_54 : decode cX9_follow 54 = .ok (.goto 5, 3) := by decide +kernel
theorem dX9_follow_57 : decode cX9_follow 57 = .ok (.iload 7, 2) := by decide +kernel
theorem dX9_follow_59 : decode cX9_follow 59 = .ok (.iaload, 1) := by decide +kernel
theorem dX9_follow_60 : decode cX9_follow 60 = .ok (.aload_n 0, 1) := by decide +kernel
theorem dX9_follow_61 : decode cX9_follow 61 = .ok (.iload_n 2, 1) := by decide +kernel
theorem dX9_follow_62 : decode cX9_follow 62 = .ok (.invokevirtual 143, 3) := by decide +kernel
theorem dX9_follow_65 : decode cX9_follow 65 = .ok (.iadd, 1) := by decide +kernel
theorem dX9_follow_66 : decode cX9_follow 66 = .ok (.aload_n 0, 1) := by decide +kernel
theorem dX9_follow_67 : decode cX9_follow 67 = .ok (.getfield 65, 3) := by decide +kernel
theorem dX9_follow_70 : decode cX9_follow 70 = .ok (.iload_n 2, 1) := by decide +kernel
theorem dX9_follow_71 : decode cX9_follow 71 = .ok (.iaload, 1) := by decide +kernel
theorem dX9_follow_72 : decode cX9_follow 72 = .ok (.if_icmp .ne 7, 3) := by decide +kernel
theorem dX9_follow_75 : decode cX9_follow 75 = .ok (.iconst 1, 1) := by decide +kernel
theorem dX9_follow_76 : decode cX9_follow 76 = .ok (.goto 4, 3) := by decide +kernel
theorem dX9_follow_79 : decode cX9_follow 79 = .ok (.iconst 0, 1) := by decide +kernel
theorem dX9_follow_80 : decode cX9_follow 80 = .ok (.istore 8, 2) := by decide +kernel
theorem dX9_follow_82 : decode cX9_follow 82 = .ok (.iload 8, 2) := by decide +kernel
theorem dX9_follow_84 : decode cX9_follow 84 = .ok (.ifCond .eq 23, 3) := by decide +kernel
theorem dX9_follow_87 : decode cX9_follow 87 = .ok (.iload 4, 2) := by decide +kernel
theorem dX9_follow_89 : decode cX9_follow 89 = .ok (.ifCond .lt 10, 3) := by decide +kernel
theorem dX9_follow_92 : decode cX9_follow 92 = .ok (.iload 7, 2) := by decide +kernel
theorem dX9_follow_94 : decode cX9_follow 94 = .ok (.iload 4, 2) := by decide +kernel
theorem dX9_follow_96 : decode cX9_follow 96 = .ok (.if_icmp .ge 11, 3) := by decide +kernel
theorem dX9_follow_99 : decode cX9_follow 99 = .ok (.iload 7, 2) := by decide +kernel
theorem dX9_follow_101 : decode cX9_follow 101 = .ok (.istore 4, 2) := by decide +kernel
theorem dX9_follow_103 : decode cX9_follow 103 = .ok (.iload 6, 2) := by decide +kernel
theorem dX9_follow_105 : decode cX9_follow 105 = .ok (.istore 5, 2) := by decide +kernel
theorem dX9_follow_107 : decode cX9_follow 107 = .ok (.iinc 6 1, 3) := by decide +kernel
theorem dX9_follow_110 : decode cX9_follow 110 = .ok (.goto (-85), 3) := by decide +kernel
theorem dX9_follow_113 : decode cX9_follow 113 = .ok (.aload_n 0, 1) := by decide +kernel
theorem dX9_follow_114 : decode cX9_follow 114 = .ok (.getfield 71, 3) := by decide +kernel
theorem dX9_follow_117 : decode cX9_follow 117 = .ok (.iload_n 3, 1) := by decide +kernel
theorem dX9_follow_118 : decode cX9_follow 118 = .ok (.iload 5, 2) := by decide +kernel
theorem dX9_follow_120 : decode cX9_follow 120 = .ok (.iastore, 1) := by decide +kernel
theorem dX9_follow_121 : decode cX9_follow 121 = .ok (.aload_n 0, 1) := by decide +kernel
theorem dX9_follow_122 : decode cX9_follow 122 = .ok (.getfield 62, 3) := by decide +kernel
theorem dX9_follow_125 : decode cX9_follow 125 = .ok (.iload_n 2, 1) := by decide +kernel
theorem dX9_follow_126 : decode cX9_follow 126 = .ok (.iconst 1, 1) := by decide +kernel
theorem dX9_follow_127 : decode cX9_follow 127 = .ok (.bastore, 1) := by decide +kernel
theorem dX9_follow_128 : decode cX9_follow 128 = .ok (.iload 4, 2) := by decide +kernel
theorem dX9_follow_130 : decode cX9_follow 130 = .ok (.istore_n 2, 1) := by decide +kernel
theorem dX9_follow_131 : decode cX9_follow 131 = .ok (.goto (-129), 3) := by decide +kernel
theorem dX9_follow_134 : decode cX9_follow 134 = .ok (.return_, 1) := by decide +kernel
set_option maxRecDepth 20000 in
theorem ggX9_reach_X9_relax : GoodIn wsX9_reach wsX9_relax := goodIn_r _ [9, 1, 10, 2, 11, 12, 8, 13, 14, 15, 16, 17, 18, 19, 20, 21, 22, 23, 24, 25, 26, 27, 28, 29, 30, 31, 32, 47, 48, 49, 50, 51, 52, 53, 54, 55, 56, 57, 58, 59, 60, 61, 62, 63, 64, 65, 66, 67, 68, 69, 70, 71, 72, 73, 74] (by decide +kernel) (by decide +kernel)
set_option maxRecDepth 20000 in
theorem gX9_reach_X9_relax : GoodIn wsX9_reach (wsV RX9 149 RX9 yX9_relax wsX9_relax) := goodIn_app (goodIn_of _ (by decide +kernel)) ggX9_reach_X9_relax
set_option maxRecDepth 20000 in
theorem ggX9_reach_X9_outputWire : GoodIn wsX9_reach wsX9_outputWire := goodIn_r _ [35, 24, 25, 8, 26] (by decide +kernel) (by decide +kernel)
set_option maxRecDepth 20000 in
theorem gX9_reach_X9_outputWire : GoodIn wsX9_reach (va_wsS RX9 152 yX9_outputWire wsX9_outputWire) := goodIn_app (goodIn_of _ (by decide +kernel)) ggX9_reach_X9_outputWire
set_option maxRecDepth 20000 in
theorem ggX9_reach_X9_follow : GoodIn wsX9_reach wsX9_follow := goodIn_r _ [39, 10, 1, 40, 41, 42, 8, 43, 18, 19, 20, 21, 22, 23, 24, 25, 26, 27, 28, 29, 30, 31, 32, 47, 48, 49, 50, 51, 52, 53, 54, 55, 56, 57, 58, 59, 60, 61, 62, 63, 64, 65, 66, 67, 68, 69, 70, 71, 72, 73, 74] (by decide +kernel) (by decide +kernel)
set_option maxRecDepth 20000 in
theorem gX9_reach_X9_follow : GoodIn wsX9_reach (wsV RX9 155 RX9 yX9_follow wsX9_follow) := goodIn_app (goodIn_of _ (by decide +kernel)) ggX9_reach_X9_follow
set_option maxRecDepth 20000 in
theorem ggX9_reach_X9_behindPin : GoodIn wsX9_reach wsX9_behindPin := goodIn_r _ [46, 21, 22, 8, 23, 24, 25, 26] (by decide +kernel) (by decide +kernel)
set_option maxRecDepth 20000 in
theorem gX9_reach_X9_behindPin : GoodIn wsX9_reach (va_wsS RX9 159 yX9_behindPin wsX9_behindPin) := goodIn_app (goodIn_of _ (by decide +kernel)) ggX9_reach_X9_behindPin
theorem dX9_reach_0 : decode cX9_reach 0 = .ok (.aload_n 0, 1) := by decide +kernel
theorem dX9_reach_1 : decode cX9_reach 1 = .ok (.invokevirtual 149, 3) := by decide +kernel
theorem dX9_reach_4 : decode cX9_reach 4 = .ok (.iload_n 1, 1) := by decide +kernel
theorem dX9_reach_5 : decode cX9_reach 5 = .ok (.bipush 30, 2) := by decide +kernel
theorem dX9_reach_7 : decode cX9_reach 7 = .ok (.if_icmp .lt 31, 3) := by decide +kernel
theorem dX9_reach_10 : decode cX9_reach 10 = .ok (.iload_n 1, 1) := by decide +kernel
theorem dX9_reach_11 : decode cX9_reach 11 = .ok (.bipush 30, 2) := by decide +kernel
theorem dX9_reach_13 : decode cX9_reach 13 = .ok (.isub, 1) := by decide +kernel
theorem dX9_reach_14 : decode cX9_reach 14 = .ok (.invokestatic 152, 3) := by decide +kernel
theorem dX9_reach_17 : decode cX9_reach 17 = .ok (.istore_n 2, 1) := by decide +kernel
theorem dX9_reach_18 : decode cX9_reach 18 = .ok (.aload_n 0, 1) := by decide +kernel
theorem dX9_reach_19 : decode cX9_reach 19 = .ok (.getfield 65, 3) := by decide +kernel
theorem dX9_reach_22 : decode cX9_reach 22 = .ok (.iload_n 2, 1) := by decide +kernel
theorem dX9_reach_23 : decode cX9_reach 23 = .ok (.iaload, 1) := by decide +kernel
theorem dX9_reach_24 : decode cX9_reach 24 = .ok (.ldc 131, 2) := by decide +kernel
theorem dX9_reach_26 : decode cX9_reach 26 = .ok (.if_icmp .lt 5, 3) := by decide +kernel
theorem dX9_reach_29 : decode cX9_reach 29 = .ok (.iconst 0, 1) := by decide +kernel
theorem dX9_reach_30 : decode cX9_reach 30 = .ok (.ireturn, 1) := by decide +kernel
theorem dX9_reach_31 : decode cX9_reach 31 = .ok (.aload_n 0, 1) := by decide +kernel
theorem dX9_reach_32 : decode cX9_reach 32 = .ok (.iload_n 2, 1) := by decide +kernel
theorem dX9_reach_33 : decode cX9_reach 33 = .ok (.invokevirtual 155, 3) := by decide +kernel
theorem dX9_reach_36 : decode cX9_reach 36 = .ok (.iconst 1, 1) := by decide +kernel
theorem dX9_reach_37 : decode cX9_reach 37 = .ok (.ireturn, 1) := by decide +kernel
theorem dX9_reach_38 : decode cX9_reach 38 = .ok (.iconst 3, 1) := by decide +kernel
theorem dX9_reach_39 : decode cX9_reach 39 = .ok (.aload_n 0, 1) := by decide +kernel
theorem dX9_reach_40 : decode cX9_reach 40 = .ok (.getfield 50, 3) := by decide +kernel
theorem dX9_reach_43 : decode cX9_reach 43 = .ok (.iload_n 1, 1) := by decide +kernel
theorem dX9_reach_44 : decode cX9_reach 44 = .ok (.iconst 3, 1) := by decide +kernel
theorem dX9_reach_45 : decode cX9_reach 45 = .ok (.idiv, 1) := by decide +kernel
theorem dX9_reach_46 : decode cX9_reach 46 = .ok (.iaload, 1) := by decide +kernel
theorem dX9_reach_47 : decode cX9_reach 47 = .ok (.imul, 1) := by decide +kernel
theorem dX9_reach_48 : decode cX9_reach 48 = .ok (.iload_n 1, 1) := by decide +kernel
theorem dX9_reach_49 : decode cX9_reach 49 = .ok (.iconst 3, 1) := by decide +kernel
theorem dX9_reach_50 : decode cX9_reach 50 = .ok (.irem, 1) := by decide +kernel
theorem dX9_reach_51 : decode cX9_reach 51 = .ok (.iadd, 1) := by decide +kernel
theorem dX9_reach_52 : decode cX9_reach 52 = .ok (.istore_n 2, 1) := by decide +kernel
theorem dX9_reach_53 : decode cX9_reach 53 = .ok (.iconst (-1), 1) := by decide +kernel
theorem dX9_reach_54 : decode cX9_reach 54 = .ok (.istore_n 3, 1) := by decide +kernel
theorem dX9_reach_55 : decode cX9_reach 55 = .ok (.iconst 0, 1) := by decide +kernel
theorem dX9_reach_56 : decode cX9_reach 56 = .ok (.istore 4, 2) := by decide +kernel
theorem dX9_reach_58 : decode cX9_reach 58 = .ok (.iconst 1, 1) := by decide +kernel
theorem dX9_reach_59 : decode cX9_reach 59 = .ok (.istore 5, 2) := by decide +kernel
theorem dX9_reach_61 : decode cX9_reach 61 = .ok (.iload 5, 2) := by decide +kernel
theorem dX9_reach_63 : decode cX9_reach 63 = .ok (.bipush 10, 2) := by decide +kernel
theorem dX9_reach_65 : decode cX9_reach 65 = .ok (.if_icmp .ge 87, 3) := by decide +kernel
theorem dX9_reach_68 : decode cX9_reach 68 = .ok (.iload_n 2, 1) := by decide +kernel
theorem dX9_reach_69 : decode cX9_reach 69 = .ok (.iload 5, 2) := by decide +kernel
theorem dX9_reach_71 : decode cX9_reach 71 = .ok (.invokestatic 159, 3) := by decide +kernel
theorem dX9_reach_74 : decode cX9_reach 74 = .ok (.istore 6, 2) := by decide +kernel
theorem dX9_reach_76 : decode cX9_reach 76 = .ok (.iload 6, 2) := by decide +kernel
theorem dX9_reach_78 : decode cX9_reach 78 = .ok (.ifCond .ge 8, 3) := by decide +kernel
theorem dX9_reach_81 : decode cX9_reach 81 = .ok (.ldc 131, 2) := by decide +kernel
theorem dX9_reach_83 : decode cX9_reach 83 = .ok (.goto 10, 3) := by decide +kernel
theorem dX9_reach_86 : decode cX9_reach 86 = .ok (.aload_n 0, 1) := by decide +kernel
theorem dX9_reach_87 : decode cX9_reach 87 = .ok (.getfield 65, 3) := by decide +kernel
theorem dX9_reach_90 : decode cX9_reach 90 = .ok (.iload 6, 2) := by decide +kernel
theorem dX9_reach_92 : decode cX9_reach 92 = .ok (.iaload, 1) := by decide +kernel
theorem dX9_reach_93 : decode cX9_reach 93 = .ok (.istore 7, 2) := by decide +kernel
theorem dX9_reach_95 : decode cX9_reach 95 = .ok (.iload_n 3, 1) := by decide +kernel
theorem dX9_reach_96 : decode cX9_reach 96 = .ok (.ifCond .ge 8, 3) := by decide +kernel
theorem dX9_reach_99 : decode cX9_reach 99 = .ok (.ldc 131, 2) := by decide +kernel
theorem dX9_reach_101 : decode cX9_reach 101 = .ok (.goto 9, 3) := by decide +kernel
theorem dX9_reach_104 : decode cX9_reach 104 = .ok (.aload_n 0, 1) := by decide +kernel
theorem dX9_reach_105 : decode cX9_reach 105 = .ok (.getfield 65, 3) := by decide +kernel
theorem dX9_reach_108 : decode cX9_reach 108 = .ok (.iload_n 3, 1) := by decide +kernel
theorem dX9_reach_109 : decode cX9_reach 109 = .ok (.iaload, 1) := by decide +kernel
theorem dX9_reach_110 : decode cX9_reach 110 = .ok (.istore 8, 2) := by decide +kernel
theorem dX9_reach_112 : decode cX9_reach 112 = .ok (.iload 7, 2) := by decide +kernel
theorem dX9_reach_114 : decode cX9_reach 114 = .ok (.iload 8, 2) := by decide +kernel
theorem dX9_reach_116 : decode cX9_reach 116 = .ok (.if_icmp .lt 23, 3) := by decide +kernel
theorem dX9_reach_119 : decode cX9_reach 119 = .ok (.iload 7, 2) := by decide +kernel
theorem dX9_reach_121 : decode cX9_reach 121 = .ok (.iload 8, 2) := by decide +kernel
theorem dX9_reach_123 : decode cX9_reach 123 = .ok (.if_icmp .ne 23, 3) := by decide +kernel
theorem dX9_reach_126 : decode cX9_reach 126 = .ok (.iload 7, 2) := by decide +kernel
theorem dX9_reach_128 : decode cX9_reach 128 = .ok (.ldc 131, 2) := by decide +kernel
theorem dX9_reach_130 : decode cX9_reach 130 = .ok (.if_icmp .ge 16, 3) := by decide +kernel
theorem dX9_reach_133 : decode cX9_reach 133 = .ok (.iload 6, 2) := by decide +kernel
theorem dX9_reach_135 : decode cX9_reach 135 = .ok (.iload_n 3, 1) := by decide +kernel
theorem dX9_reach_136 : decode cX9_reach 136 = .ok (.if_icmp .ge 10, 3) := by decide +kernel
theorem dX9_reach_139 : decode cX9_reach 139 = .ok (.iload 6, 2) := by decide +kernel
theorem dX9_reach_141 : decode cX9_reach 141 = .ok (.istore_n 3, 1) := by decide +kernel
theorem dX9_reach_142 : decode cX9_reach 142 = .ok (.iload 5, 2) := by decide +kernel
theorem dX9_reach_144 : decode cX9_reach 144 = .ok (.istore 4, 2) := by decide +kernel
theorem dX9_reach_146 : decode cX9_reach 146 = .ok (.iinc 5 1, 3) := by decide +kernel
theorem dX9_reach_149 : decode cX9_reach 149 = .ok (.goto (-88), 3) := by decide +kernel
theorem dX9_reach_152 : decode cX9_reach 152 = .ok (.iload_n 3, 1) := by decide +kernel
theorem dX9_reach_153 : decode cX9_reach 153 = .ok (.ifCond .ge 5, 3) := by decide +kernel
theorem dX9_reach_156 : decode cX9_reach 156 = .ok (.iconst 0, 1) := by decide +kernel
theorem dX9_reach_157 : decode cX9_reach 157 = .ok (.ireturn, 1) := by decide +kernel
theorem dX9_reach_158 : decode cX9_reach 158 = .ok (.aload_n 0, 1) := by decide +kernel
theorem dX9_reach_159 : decode cX9_reach 159 = .ok (.getfield 68, 3) := by decide +kernel
theorem dX9_reach_162 : decode cX9_reach 162 = .ok (.iload_n 2, 1) := by decide +kernel
theorem dX9_reach_163 : decode cX9_reach 163 = .ok (.iload 4, 2) := by decide +kernel
theorem dX9_reach_165 : decode cX9_reach 165 = .ok (.iastore, 1) := by decide +kernel
theorem dX9_reach_166 : decode cX9_reach 166 = .ok (.aload_n 0, 1) := by decide +kernel
theorem dX9_reach_167 : decode cX9_reach 167 = .ok (.iload_n 3, 1) := by decide +kernel
theorem dX9_reach_168 : decode cX9_reach 168 = .ok (.invokevirtual 155, 3) := by decide +kernel
theorem dX9_reach_171 : decode cX9_reach 171 = .ok (.iconst 1, 1) := by decide +kernel
theorem dX9_reach_172 : decode cX9_reach 172 = .ok (.ireturn, 1) := by decide +kernel
set_option maxRecDepth 20000 in
theorem ggX9_routeNet_X9_reach : GoodIn wsX9_routeNet wsX9_reach := goodIn_r _ [9, 10, 11, 2, 12, 13, 14, 15, 8, 16, 1, 17, 18, 19, 20, 21, 22, 23, 24, 25, 26, 27, 28, 29, 30, 31, 32, 33, 34, 35, 36, 4, 37, 38, 39, 40, 41, 42, 43, 44, 45, 46, 47, 48, 49, 50, 51, 52, 53, 54, 55, 56, 57, 58, 59, 60, 61, 62, 63, 64, 65, 66, 67, 68, 69, 70, 71, 72, 73, 74, 75, 76, 77, 78, 79] (by decide +kernel) (by decide +kernel)
set_option maxRecDepth 20000 in
theorem gX9_routeNet_X9_reach : GoodIn wsX9_routeNet (wsV RX9 162 RX9 yX9_reach wsX9_reach) := goodIn_app (goodIn_of _ (by decide +kernel)) ggX9_routeNet_X9_reach
theorem dX9_routeNet_0 : decode cX9_routeNet 0 = .ok (.iconst 0, 1) := by decide +kernel
theorem dX9_routeNet_1 : decode cX9_routeNet 1 = .ok (.istore_n 2, 1) := by decide +kernel
theorem dX9_routeNet_2 : decode cX9_routeNet 2 = .ok (.iload_n 2, 1) := by decide +kernel
theorem dX9_routeNet_3 : decode cX9_routeNet 3 = .ok (.sipush 148, 3) := by decide +kernel
theorem dX9_routeNet_6 : decode cX9_routeNet 6 = .ok (.if_icmp .ge 16, 3) := by decide +kernel
theorem dX9_routeNet_9 : decode cX9_routeNet 9 = .ok (.aload_n 0, 1) := by decide +kernel
theorem dX9_routeNet_10 : decode cX9_routeNet 10 = .ok (.getfield 62, 3) := by decide +kernel
theorem dX9_routeNet_13 : decode cX9_routeNet 13 = .ok (.iload_n 2, 1) := by decide +kernel
theorem dX9_routeNet_14 : decode cX9_routeNet 14 = .ok (.iconst 0, 1) := by decide +kernel
theorem dX9_routeNet_15 : decode cX9_routeNet 15 = .ok (.bastore, 1) := by decide +kernel
theorem dX9_routeNet_16 : decode cX9_routeNet 16 = .ok (.iinc 2 1, 3) := by decide +kernel
theorem dX9_routeNet_19 : decode cX9_routeNet 19 = .ok (.goto (-17), 3) := by decide +kernel
theorem dX9_routeNet_22 : decode cX9_routeNet 22 = .ok (.iload_n 1, 1) := by decide +kernel
theorem dX9_routeNet_23 : decode cX9_routeNet 23 = .ok (.bipush 10, 2) := by decide +kernel
theorem dX9_routeNet_25 : decode cX9_routeNet 25 = .ok (.if_icmp .ge 25, 3) := by decide +kernel
theorem dX9_routeNet_28 : decode cX9_routeNet 28 = .ok (.bipush 9, 2) := by decide +kernel
theorem dX9_routeNet_30 : decode cX9_routeNet 30 = .ok (.aload_n 0, 1) := by decide +kernel
theorem dX9_routeNet_31 : decode cX9_routeNet 31 = .ok (.getfield 50, 3) := by decide +kernel
theorem dX9_routeNet_34 : decode cX9_routeNet 34 = .ok (.iload_n 1, 1) := by decide +kernel
theorem dX9_routeNet_35 : decode cX9_routeNet 35 = .ok (.bipush 10, 2) := by decide +kernel
theorem dX9_routeNet_37 : decode cX9_routeNet 37 = .ok (.if_icmp .ge 7, 3) := by decide +kernel
theorem dX9_routeNet_40 : decode cX9_routeNet 40 = .ok (.iload_n 1, 1) := by decide +kernel
theorem dX9_routeNet_41 : decode cX9_routeNet 41 = .ok (.goto 4, 3) := by decide +kernel
theorem dX9_routeNet_44 : decode cX9_routeNet 44 = .ok (.iconst 0, 1) := by decide +kernel
theorem dX9_routeNet_45 : decode cX9_routeNet 45 = .ok (.iaload, 1) := by decide +kernel
theorem dX9_routeNet_46 : decode cX9_routeNet 46 = .ok (.imul, 1) := by decide +kernel
theorem dX9_routeNet_47 : decode cX9_routeNet 47 = .ok (.goto 8, 3) := by decide +kernel
theorem dX9_routeNet_50 : decode cX9_routeNet 50 = .ok (.sipush 134, 3) := by decide +kernel
theorem dX9_routeNet_53 : decode cX9_routeNet 53 = .ok (.iload_n 1, 1) := by decide +kernel
theorem dX9_routeNet_54 : decode cX9_routeNet 54 = .ok (.iadd, 1) := by decide +kernel
theorem dX9_routeNet_55 : decode cX9_routeNet 55 = .ok (.istore_n 2, 1) := by decide +kernel
theorem dX9_routeNet_56 : decode cX9_routeNet 56 = .ok (.aload_n 0, 1) := by decide +kernel
theorem dX9_routeNet_57 : decode cX9_routeNet 57 = .ok (.getfield 62, 3) := by decide +kernel
theorem dX9_routeNet_60 : decode cX9_routeNet 60 = .ok (.iload_n 2, 1) := by decide +kernel
theorem dX9_routeNet_61 : decode cX9_routeNet 61 = .ok (.iconst 1, 1) := by decide +kernel
theorem dX9_routeNet_62 : decode cX9_routeNet 62 = .ok (.bastore, 1) := by decide +kernel
theorem dX9_routeNet_63 : decode cX9_routeNet 63 = .ok (.iconst 0, 1) := by decide +kernel
theorem dX9_routeNet_64 : decode cX9_routeNet 64 = .ok (.istore_n 3, 1) := by decide +kernel
theorem dX9_routeNet_65 : decode cX9_routeNet 65 = .ok (.iload_n 3, 1) := by decide +kernel
theorem dX9_routeNet_66 : decode cX9_routeNet 66 = .ok (.bipush 34, 2) := by decide +kernel
theorem dX9_routeNet_68 : decode cX9_routeNet 68 = .ok (.if_icmp .ge 29, 3) := by decide +kernel
theorem dX9_routeNet_71 : decode cX9_routeNet 71 = .ok (.aload_n 0, 1) := by decide +kernel
theorem dX9_routeNet_72 : decode cX9_routeNet 72 = .ok (.getfield 44, 3) := by decide +kernel
theorem dX9_routeNet_75 : decode cX9_routeNet 75 = .ok (.iload_n 3, 1) := by decide +kernel
theorem dX9_routeNet_76 : decode cX9_routeNet 76 = .ok (.iaload, 1) := by decide +kernel
theorem dX9_routeNet_77 : decode cX9_routeNet 77 = .ok (.iload_n 1, 1) := by decide +kernel
theorem dX9_routeNet_78 : decode cX9_routeNet 78 = .ok (.if_icmp .ne 13, 3) := by decide +kernel
theorem dX9_routeNet_81 : decode cX9_routeNet 81 = .ok (.aload_n 0, 1) := by decide +kernel
theorem dX9_routeNet_82 : decode cX9_routeNet 82 = .ok (.iload_n 3, 1) := by decide +kernel
theorem dX9_routeNet_83 : decode cX9_routeNet 83 = .ok (.invokevirtual 162, 3) := by decide +kernel
theorem dX9_routeNet_86 : decode cX9_routeNet 86 = .ok (.ifCond .ne 5, 3) := by decide +kernel
theorem dX9_routeNet_89 : decode cX9_routeNet 89 = .ok (.iconst 0, 1) := by decide +kernel
theorem dX9_routeNet_90 : decode cX9_routeNet 90 = .ok (.ireturn, 1) := by decide +kernel
theorem dX9_routeNet_91 : decode cX9_routeNet 91 = .ok (.iinc 3 1, 3) := by decide +kernel
theorem dX9_routeNet_94 : decode cX9_routeNet 94 = .ok (.goto (-29), 3) := by decide +kernel
theorem dX9_routeNet_97 : decode cX9_routeNet 97 = .ok (.iconst 0, 1) := by decide +kernel
theorem dX9_routeNet_98 : decode cX9_routeNet 98 = .ok (.istore_n 3, 1) := by decide +kernel
theorem dX9_routeNet_99 : decode cX9_routeNet 99 = .ok (.iload_n 3, 1) := by decide +kernel
theorem dX9_routeNet_100 : decode cX9_routeNet 100 = .ok (.sipush 148, 3) := by decide +kernel
theorem dX9_routeNet_103 : decode cX9_routeNet 103 = .ok (.if_icmp .ge 32, 3) := by decide +kernel
theorem dX9_routeNet_106 : decode cX9_routeNet 106 = .ok (.aload_n 0, 1) := by decide +kernel
theorem dX9_routeNet_107 : decode cX9_routeNet 107 = .ok (.getfield 56, 3) := by decide +kernel
theorem dX9_routeNet_110 : decode cX9_routeNet 110 = .ok (.iload_n 3, 1) := by decide +kernel
theorem dX9_routeNet_111 : decode cX9_routeNet 111 = .ok (.dup2, 1) := by decide +kernel
theorem dX9_routeNet_112 : decode cX9_routeNet 112 = .ok (.iaload, 1) := by decide +kernel
theorem dX9_routeNet_113 : decode cX9_routeNet 113 = .ok (.aload_n 0, 1) := by decide +kernel
theorem dX9_routeNet_114 : decode cX9_routeNet 114 = .ok (.getfield 62, 3) := by decide +kernel
theorem dX9_routeNet_117 : decode cX9_routeNet 117 = .ok (.iload_n 3, 1) := by decide +kernel
theorem dX9_routeNet_118 : decode cX9_routeNet 118 = .ok (.baload, 1) := by decide +kernel
theorem dX9_routeNet_119 : decode cX9_routeNet 119 = .ok (.ifCond .eq 7, 3) := by decide +kernel
theorem dX9_routeNet_122 : decode cX9_routeNet 122 = .ok (.iconst 1, 1) := by decide +kernel
theorem dX9_routeNet_123 : decode cX9_routeNet 123 = .ok (.goto 4, 3) := by decide +kernel
theorem dX9_routeNet_126 : decode cX9_routeNet 126 = .ok (.iconst 0, 1) := by decide +kernel
theorem dX9_routeNet_127 : decode cX9_routeNet 127 = .ok (.iadd, 1) := by decide +kernel
theorem dX9_routeNet_128 : decode cX9_routeNet 128 = .ok (.iastore, 1) := by decide +kernel
theorem dX9_routeNet_129 : decode cX9_routeNet 129 = .ok (.iinc 3 1, 3) := by decide +kernel
theorem dX9_routeNet_132 : decode cX9_routeNet 132 = .ok (.goto (-33), 3) := by decide +kernel
theorem dX9_routeNet_135 : decode cX9_routeNet 135 = .ok (.iconst 1, 1) := by decide +kernel
theorem dX9_routeNet_136 : decode cX9_routeNet 136 = .ok (.ireturn, 1) := by decide +kernel
set_option maxRecDepth 20000 in
theorem ggX9_round_X9_hasSinks : GoodIn wsX9_round wsX9_hasSinks := goodIn_r _ [9, 10, 60, 61, 62, 63, 64, 65, 66, 67, 68, 69, 70, 71, 72, 73, 74, 75, 76, 77, 78, 79, 80, 81, 82, 83, 84, 85, 86, 87] (by decide +kernel) (by decide +kernel)
set_option maxRecDepth 20000 in
theorem gX9_round_X9_hasSinks : GoodIn wsX9_round (wsV RX9 107 RX9 yX9_hasSinks wsX9_hasSinks) := goodIn_app (goodIn_of _ (by decide +kernel)) ggX9_round_X9_hasSinks
set_option maxRecDepth 20000 in
theorem ggX9_round_X9_routeNet : GoodIn wsX9_round wsX9_routeNet := goodIn_r _ [14, 15, 16, 10, 1, 17, 18, 19, 8, 20, 21, 22, 2, 23, 24, 25, 26, 27, 28, 29, 30, 31, 32, 33, 34, 35, 36, 37, 38, 39, 40, 41, 42, 43, 44, 45, 46, 4, 47, 48, 49, 50, 51, 52, 53, 3, 54, 55, 56, 57, 58, 59, 60, 61, 62, 63, 64, 65, 66, 67, 68, 69, 70, 71, 72, 73, 74, 75, 76, 77, 78, 79, 80, 81, 82, 83, 84, 85, 86, 87] (by decide +kernel) (by decide +kernel)
set_option maxRecDepth 20000 in
theorem gX9_round_X9_routeNet : GoodIn wsX9_round (wsV RX9 165 RX9 yX9_routeNet wsX9_routeNet) := goodIn_app (goodIn_of _ (by decide +kernel)) ggX9_round_X9_routeNet
theorem dX9_round_0 : decode cX9_round 0 = .ok (.iconst 0, 1) := by decide +kernel
theorem dX9_round_1 : decode cX9_round 1 = .ok (.istore_n 1, 1) := by decide +kernel
theorem dX9_round_2 : decode cX9_round 2 = .ok (.iload_n 1, 1) := by decide +kernel
theorem dX9_round_3 : decode cX9_round 3 = .ok (.sipush 148, 3) := by decide +kernel
theorem dX9_round_6 : decode cX9_round 6 = .ok (.if_icmp .ge 16, 3) := by decide +kernel
theorem dX9_round_9 : decode cX9_round 9 = .ok (.aload_n 0, 1) := by decide +kernel
theorem dX9_round_10 : decode cX9_round 10 = .ok (.getfield 56, 3) := by decide +kernel
theorem dX9_round_13 : decode cX9_round 13 = .ok (.iload_n 1, 1) := by decide +kernel
theorem dX9_round_14 : decode cX9_round 14 = .ok (.iconst 0, 1) := by decide +kernel
theorem dX9_round_15 : decode cX9_round 15 = .ok (.iastore, 1) := by decide +kernel
theorem dX9_round_16 : decode cX9_round 16 = .ok (.iinc 1 1, 3) := by decide +kernel
theorem dX9_round_19 : decode cX9_round 19 = .ok (.goto (-17), 3) := by decide +kernel
theorem dX9_round_22 : decode cX9_round 22 = .ok (.iconst 0, 1) := by decide +kernel
theorem dX9_round_23 : decode cX9_round 23 = .ok (.istore_n 1, 1) := by decide +kernel
theorem dX9_round_24 : decode cX9_round 24 = .ok (.iload_n 1, 1) := by decide +kernel
theorem dX9_round_25 : decode cX9_round 25 = .ok (.bipush 48, 2) := by decide +kernel
theorem dX9_round_27 : decode cX9_round 27 = .ok (.if_icmp .ge 16, 3) := by decide +kernel
theorem dX9_round_30 : decode cX9_round 30 = .ok (.aload_n 0, 1) := by decide +kernel
theorem dX9_round_31 : decode cX9_round 31 = .ok (.getfield 68, 3) := by decide +kernel
theorem dX9_round_34 : decode cX9_round 34 = .ok (.iload_n 1, 1) := by decide +kernel
theorem dX9_round_35 : decode cX9_round 35 = .ok (.iconst 0, 1) := by decide +kernel
theorem dX9_round_36 : decode cX9_round 36 = .ok (.iastore, 1) := by decide +kernel
theorem dX9_round_37 : decode cX9_round 37 = .ok (.iinc 1 1, 3) := by decide +kernel
theorem dX9_round_40 : decode cX9_round 40 = .ok (.goto (-16), 3) := by decide +kernel
theorem dX9_round_43 : decode cX9_round 43 = .ok (.iconst 0, 1) := by decide +kernel
theorem dX9_round_44 : decode cX9_round 44 = .ok (.istore_n 1, 1) := by decide +kernel
theorem dX9_round_45 : decode cX9_round 45 = .ok (.iload_n 1, 1) := by decide +kernel
theorem dX9_round_46 : decode cX9_round 46 = .ok (.sipush 128, 3) := by decide +kernel
theorem dX9_round_49 : decode cX9_round 49 = .ok (.if_icmp .ge 16, 3) := by decide +kernel
theorem dX9_round_52 : decode cX9_round 52 = .ok (.aload_n 0, 1) := by decide +kernel
theorem dX9_round_53 : decode cX9_round 53 = .ok (.getfield 71, 3) := by decide +kernel
theorem dX9_round_56 : decode cX9_round 56 = .ok (.iload_n 1, 1) := by decide +kernel
theorem dX9_round_57 : decode cX9_round 57 = .ok (.iconst 0, 1) := by decide +kernel
theorem dX9_round_58 : decode cX9_round 58 = .ok (.iastore, 1) := by decide +kernel
theorem dX9_round_59 : decode cX9_round 59 = .ok (.iinc 1 1, 3) := by decide +kernel
theorem dX9_round_62 : decode cX9_round 62 = .ok (.goto (-17), 3) := by decide +kernel
theorem dX9_round_65 : decode cX9_round 65 = .ok (.iconst 0, 1) := by decide +kernel
theorem dX9_round_66 : decode cX9_round 66 = .ok (.istore_n 1, 1) := by decide +kernel
theorem dX9_round_67 : decode cX9_round 67 = .ok (.iload_n 1, 1) := by decide +kernel
theorem dX9_round_68 : decode cX9_round 68 = .ok (.bipush 14, 2) := by decide +kernel
theorem dX9_round_70 : decode cX9_round 70 = .ok (.if_icmp .ge 28, 3) := by decide +kernel
theorem dX9_round_73 : decode cX9_round 73 = .ok (.aload_n 0, 1) := by decide +kernel
theorem dX9_round_74 : decode cX9_round 74 = .ok (.iload_n 1, 1) := by decide +kernel
theorem dX9_round_75 : decode cX9_round 75 = .ok (.invokevirtual 107, 3) := by decide +kernel
theorem dX9_round_78 : decode cX9_round 78 = .ok (.ifCond .eq 14, 3) := by decide +kernel
theorem dX9_round_81 : decode cX9_round 81 = .ok (.aload_n 0, 1) := by decide +kernel
theorem dX9_round_82 : decode cX9_round 82 = .ok (.iload_n 1, 1) := by decide +kernel
theorem dX9_round_83 : decode cX9_round 83 = .ok (.invokevirtual 165, 3) := by decide +kernel
theorem dX9_round_86 : decode cX9_round 86 = .ok (.ifCond .ne 6, 3) := by decide +kernel
theorem dX9_round_89 : decode cX9_round 89 = .ok (.bipush (-3), 2) := by decide +kernel
theorem dX9_round_91 : decode cX9_round 91 = .ok (.ireturn, 1) := by decide +kernel
theorem dX9_round_92 : decode cX9_round 92 = .ok (.iinc 1 1, 3) := by decide +kernel
theorem dX9_round_95 : decode cX9_round 95 = .ok (.goto (-28), 3) := by decide +kernel
theorem dX9_round_98 : decode cX9_round 98 = .ok (.iconst 1, 1) := by decide +kernel
theorem dX9_round_99 : decode cX9_round 99 = .ok (.istore_n 1, 1) := by decide +kernel
theorem dX9_round_100 : decode cX9_round 100 = .ok (.iconst 0, 1) := by decide +kernel
theorem dX9_round_101 : decode cX9_round 101 = .ok (.istore_n 2, 1) := by decide +kernel
theorem dX9_round_102 : decode cX9_round 102 = .ok (.iload_n 2, 1) := by decide +kernel
theorem dX9_round_103 : decode cX9_round 103 = .ok (.sipush 148, 3) := by decide +kernel
theorem dX9_round_106 : decode cX9_round 106 = .ok (.if_icmp .ge 38, 3) := by decide +kernel
theorem dX9_round_109 : decode cX9_round 109 = .ok (.aload_n 0, 1) := by decide +kernel
theorem dX9_round_110 : decode cX9_round 110 = .ok (.getfield 56, 3) := by decide +kernel
theorem dX9_round_113 : decode cX9_round 113 = .ok (.iload_n 2, 1) := by decide +kernel
theorem dX9_round_114 : decode cX9_round 114 = .ok (.iaload, 1) := by decide +kernel
theorem dX9_round_115 : decode cX9_round 115 = .ok (.iconst 1, 1) := by decide +kernel
theorem dX9_round_116 : decode cX9_round 116 = .ok (.if_icmp .le 22, 3) := by decide +kernel
theorem dX9_round_119 : decode cX9_round 119 = .ok (.aload_n 0, 1) := by decide +kernel
theorem dX9_round_120 : decode cX9_round 120 = .ok (.getfield 59, 3) := by decide +kernel
theorem dX9_round_123 : decode cX9_round 123 = .ok (.iload_n 2, 1) := by decide +kernel
theorem dX9_round_124 : decode cX9_round 124 = .ok (.dup2, 1) := by decide +kernel
theorem dX9_round_125 : decode cX9_round 125 = .ok (.iaload, 1) := by decide +kernel
theorem dX9_round_126 : decode cX9_round 126 = .ok (.aload_n 0, 1) := by decide +kernel
theorem dX9_round_127 : decode cX9_round 127 = .ok (.getfield 56, 3) := by decide +kernel
theorem dX9_round_130 : decode cX9_round 130 = .ok (.iload_n 2, 1) := by decide +kernel
theorem dX9_round_131 : decode cX9_round 131 = .ok (.iaload, 1) := by decide +kernel
theorem dX9_round_132 : decode cX9_round 132 = .ok (.iconst 1, 1) := by decide +kernel
theorem dX9_round_133 : decode cX9_round 133 = .ok (.isub, 1) := by decide +kernel
theorem dX9_round_134 : decode cX9_round 134 = .ok (.iadd, 1) := by decide +kernel
theorem dX9_round_135 : decode cX9_round 135 = .ok (.iastore, 1) := by decide +kernel
theorem dX9_round_136 : decode cX9_round 136 = .ok (.iconst 0, 1) := by decide +kernel
theorem dX9_round_137 : decode cX9_round 137 = .ok (.istore_n 1, 1) := by decide +kernel
theorem dX9_round_138 : decode cX9_round 138 = .ok (.iinc 2 1, 3) := by decide +kernel
theorem dX9_round_141 : decode cX9_round 141 = .ok (.goto (-39), 3) := by decide +kernel
theorem dX9_round_144 : decode cX9_round 144 = .ok (.iload_n 1, 1) := by decide +kernel
theorem dX9_round_145 : decode cX9_round 145 = .ok (.ireturn, 1) := by decide +kernel
set_option maxRecDepth 20000 in
theorem ggX9_makeBits_X9_placeCost : GoodIn wsX9_makeBits wsX9_placeCost := goodIn_r _ [22, 23, 24, 25, 21, 26, 27, 28, 29, 30, 31, 32, 33, 34, 35, 17, 36, 37, 38, 39, 40, 41, 42, 43, 44, 45, 46, 47, 48, 49, 50, 51, 52, 53, 54, 55, 56, 57, 58, 59, 60, 61, 62, 63] (by decide +kernel) (by decide +kernel)
set_option maxRecDepth 20000 in
theorem gX9_makeBits_X9_placeCost : GoodIn wsX9_makeBits (wsV RX9 116 RX9 yX9_placeCost wsX9_placeCost) := goodIn_app (goodIn_of _ (by decide +kernel)) ggX9_makeBits_X9_placeCost
theorem dX9_makeBits_0 : decode cX9_makeBits 0 = .ok (.iconst 0, 1) := by decide +kernel
theorem dX9_makeBits_1 : decode cX9_makeBits 1 = .ok (.istore_n 1, 1) := by decide +kernel
theorem dX9_makeBits_2 : decode cX9_makeBits 2 = .ok (.iload_n 1, 1) := by decide +kernel
theorem dX9_makeBits_3 : decode cX9_makeBits 3 = .ok (.bipush 16, 2) := by decide +kernel
theorem dX9_makeBits_5 : decode cX9_makeBits 5 = .ok (.if_icmp .ge 128, 3) := by decide +kernel
theorem dX9_makeBits_8 : decode cX9_makeBits 8 = .ok (.aload_n 0, 1) := by decide +kernel
theorem dX9_makeBits_9 : decode cX9_makeBits 9 = .ok (.getfield 53, 3) := by decide +kernel
theorem dX9_makeBits_12 : decode cX9_makeBits 12 = .ok (.iload_n 1, 1) := by decide +kernel
theorem dX9_makeBits_13 : decode cX9_makeBits 13 = .ok (.iaload, 1) := by decide +kernel
theorem dX9_makeBits_14 : decode cX9_makeBits 14 = .ok (.istore_n 2, 1) := by decide +kernel
theorem dX9_makeBits_15 : decode cX9_makeBits 15 = .ok (.iload_n 2, 1) := by decide +kernel
theorem dX9_makeBits_16 : decode cX9_makeBits 16 = .ok (.ifCond .lt 24, 3) := by decide +kernel
theorem dX9_makeBits_19 : decode cX9_makeBits 19 = .ok (.aload_n 0, 1) := by decide +kernel
theorem dX9_makeBits_20 : decode cX9_makeBits 20 = .ok (.getfield 32, 3) := by decide +kernel
theorem dX9_makeBits_23 : decode cX9_makeBits 23 = .ok (.iload_n 2, 1) := by decide +kernel
theorem dX9_makeBits_24 : decode cX9_makeBits 24 = .ok (.ifCond .ge 7, 3) := by decide +kernel
theorem dX9_makeBits_27 : decode cX9_makeBits 27 = .ok (.iconst 0, 1) := by decide +kernel
theorem dX9_makeBits_28 : decode cX9_makeBits 28 = .ok (.goto 4, 3) := by decide +kernel
theorem dX9_makeBits_31 : decode cX9_makeBits 31 = .ok (.iload_n 2, 1) := by decide +kernel
theorem dX9_makeBits_32 : decode cX9_makeBits 32 = .ok (.baload, 1) := by decide +kernel
theorem dX9_makeBits_33 : decode cX9_makeBits 33 = .ok (.ifCond .eq 7, 3) := by decide +kernel
theorem dX9_makeBits_36 : decode cX9_makeBits 36 = .ok (.iconst 1, 1) := by decide +kernel
theorem dX9_makeBits_37 : decode cX9_makeBits 37 = .ok (.goto 4, 3) := by decide +kernel
theorem dX9_makeBits_40 : decode cX9_makeBits 40 = .ok (.iconst 0, 1) := by decide +kernel
theorem dX9_makeBits_41 : decode cX9_makeBits 41 = .ok (.istore_n 3, 1) := by decide +kernel
theorem dX9_makeBits_42 : decode cX9_makeBits 42 = .ok (.aload_n 0, 1) := by decide +kernel
theorem dX9_makeBits_43 : decode cX9_makeBits 43 = .ok (.getfield 26, 3) := by decide +kernel
theorem dX9_makeBits_46 : decode cX9_makeBits 46 = .ok (.iload_n 1, 1) := by decide +kernel
theorem dX9_makeBits_47 : decode cX9_makeBits 47 = .ok (.iload_n 3, 1) := by decide +kernel
theorem dX9_makeBits_48 : decode cX9_makeBits 48 = .ok (.aload_n 0, 1) := by decide +kernel
theorem dX9_makeBits_49 : decode cX9_makeBits 49 = .ok (.getfield 13, 3) := by decide +kernel
theorem dX9_makeBits_52 : decode cX9_makeBits 52 = .ok (.iload_n 1, 1) := by decide +kernel
theorem dX9_makeBits_53 : decode cX9_makeBits 53 = .ok (.baload, 1) := by decide +kernel
theorem dX9_makeBits_54 : decode cX9_makeBits 54 = .ok (.if_icmp .ne 12, 3) := by decide +kernel
theorem dX9_makeBits_57 : decode cX9_makeBits 57 = .ok (.aload_n 0, 1) := by decide +kernel
theorem dX9_makeBits_58 : decode cX9_makeBits 58 = .ok (.getfield 26, 3) := by decide +kernel
theorem dX9_makeBits_61 : decode cX9_makeBits 61 = .ok (.iload_n 1, 1) := by decide +kernel
theorem dX9_makeBits_62 : decode cX9_makeBits 62 = .ok (.iaload, 1) := by decide +kernel
theorem dX9_makeBits_63 : decode cX9_makeBits 63 = .ok (.goto 4, 3) := by decide +kernel
theorem dX9_makeBits_66 : decode cX9_makeBits 66 = .ok (.iconst 0, 1) := by decide +kernel
theorem dX9_makeBits_67 : decode cX9_makeBits 67 = .ok (.iastore, 1) := by decide +kernel
theorem dX9_makeBits_68 : decode cX9_makeBits 68 = .ok (.aload_n 0, 1) := by decide +kernel
theorem dX9_makeBits_69 : decode cX9_makeBits 69 = .ok (.getfield 7, 3) := by decide +kernel
theorem dX9_makeBits_72 : decode cX9_makeBits 72 = .ok (.iload_n 1, 1) := by decide +kernel
theorem dX9_makeBits_73 : decode cX9_makeBits 73 = .ok (.iload_n 2, 1) := by decide +kernel
theorem dX9_makeBits_74 : decode cX9_makeBits 74 = .ok (.ifCond .ge 7, 3) := by decide +kernel
theorem dX9_makeBits_77 : decode cX9_makeBits 77 = .ok (.iconst 0, 1) := by decide +kernel
theorem dX9_makeBits_78 : decode cX9_makeBits 78 = .ok (.goto 9, 3) := by decide +kernel
theorem dX9_makeBits_81 : decode cX9_makeBits 81 = .ok (.aload_n 0, 1) := by decide +kernel
theorem dX9_makeBits_82 : decode cX9_makeBits 82 = .ok (.getfield 29, 3) := by decide +kernel
theorem dX9_makeBits_85 : decode cX9_makeBits 85 = .ok (.iload_n 2, 1) := by decide +kernel
theorem dX9_makeBits_86 : decode cX9_makeBits 86 = .ok (.iaload, 1) := by decide +kernel
theorem dX9_makeBits_87 : decode cX9_makeBits 87 = .ok (.iastore, 1) := by decide +kernel
theorem dX9_makeBits_88 : decode cX9_makeBits 88 = .ok (.aload_n 0, 1) := by decide +kernel
theorem dX9_makeBits_89 : decode cX9_makeBits 89 = .ok (.getfield 13, 3) := by decide +kernel
theorem dX9_makeBits_92 : decode cX9_makeBits 92 = .ok (.iload_n 1, 1) := by decide +kernel
theorem dX9_makeBits_93 : decode cX9_makeBits 93 = .ok (.iload_n 3, 1) := by decide +kernel
theorem dX9_makeBits_94 : decode cX9_makeBits 94 = .ok (.bastore, 1) := by decide +kernel
theorem dX9_makeBits_95 : decode cX9_makeBits 95 = .ok (.aload_n 0, 1) := by decide +kernel
theorem dX9_makeBits_96 : decode cX9_makeBits 96 = .ok (.getfield 17, 3) := by decide +kernel
theorem dX9_makeBits_99 : decode cX9_makeBits 99 = .ok (.iload_n 1, 1) := by decide +kernel
theorem dX9_makeBits_100 : decode cX9_makeBits 100 = .ok (.iload_n 2, 1) := by decide +kernel
theorem dX9_makeBits_101 : decode cX9_makeBits 101 = .ok (.ifCond .lt 24, 3) := by decide +kernel
theorem dX9_makeBits_104 : decode cX9_makeBits 104 = .ok (.aload_n 0, 1) := by decide +kernel
theorem dX9_makeBits_105 : decode cX9_makeBits 105 = .ok (.getfield 35, 3) := by decide +kernel
theorem dX9_makeBits_108 : decode cX9_makeBits 108 = .ok (.iload_n 2, 1) := by decide +kernel
theorem dX9_makeBits_109 : decode cX9_makeBits 109 = .ok (.ifCond .ge 7, 3) := by decide +kernel
theorem dX9_makeBits_112 : decode cX9_makeBits 112 = .ok (.iconst 0, 1) := by decide +kernel
theorem dX9_makeBits_113 : decode cX9_makeBits 113 = .ok (.goto 4, 3) := by decide +kernel
theorem dX9_makeBits_116 : decode cX9_makeBits 116 = .ok (.iload_n 2, 1) := by decide +kernel
theorem dX9_makeBits_117 : decode cX9_makeBits 117 = .ok (.baload, 1) := by decide +kernel
theorem dX9_makeBits_118 : decode cX9_makeBits 118 = .ok (.ifCond .eq 7, 3) := by decide +kernel
theorem dX9_makeBits_121 : decode cX9_makeBits 121 = .ok (.iconst 1, 1) := by decide +kernel
theorem dX9_makeBits_122 : decode cX9_makeBits 122 = .ok (.goto 4, 3) := by decide +kernel
theorem dX9_makeBits_125 : decode cX9_makeBits 125 = .ok (.iconst 0, 1) := by decide +kernel
theorem dX9_makeBits_126 : decode cX9_makeBits 126 = .ok (.bastore, 1) := by decide +kernel
theorem dX9_makeBits_127 : decode cX9_makeBits 127 = .ok (.iinc 1 1, 3) := by decide +kernel
theorem dX9_makeBits_130 : decode cX9_makeBits 130 = .ok (.goto (-128), 3) := by decide +kernel
theorem dX9_makeBits_133 : decode cX9_makeBits 133 = .ok (.iconst 0, 1) := by decide +kernel
theorem dX9_makeBits_134 : decode cX9_makeBits 134 = .ok (.istore_n 1, 1) := by decide +kernel
theorem dX9_makeBits_135 : decode cX9_makeBits 135 = .ok (.iload_n 1, 1) := by decide +kernel
theorem dX9_makeBits_136 : decode cX9_makeBits 136 = .ok (.bipush 48, 2) := by decide +kernel
theorem dX9_makeBits_138 : decode cX9_makeBits 138 = .ok (.if_icmp .ge 21, 3) := by decide +kernel
theorem dX9_makeBits_141 : decode cX9_makeBits 141 = .ok (.aload_n 0, 1) := by decide +kernel
theorem dX9_makeBits_142 : decode cX9_makeBits 142 = .ok (.getfield 20, 3) := by decide +kernel
theorem dX9_makeBits_145 : decode cX9_makeBits 145 = .ok (.iload_n 1, 1) := by decide +kernel
theorem dX9_makeBits_146 : decode cX9_makeBits 146 = .ok (.aload_n 0, 1) := by decide +kernel
theorem dX9_makeBits_147 : decode cX9_makeBits 147 = .ok (.getfield 68, 3) := by decide +kernel
theorem dX9_makeBits_150 : decode cX9_makeBits 150 = .ok (.iload_n 1, 1) := by decide +kernel
theorem dX9_makeBits_151 : decode cX9_makeBits 151 = .ok (.iaload, 1) := by decide +kernel
theorem dX9_makeBits_152 : decode cX9_makeBits 152 = .ok (.iastore, 1) := by decide +kernel
theorem dX9_makeBits_153 : decode cX9_makeBits 153 = .ok (.iinc 1 1, 3) := by decide +kernel
theorem dX9_makeBits_156 : decode cX9_makeBits 156 = .ok (.goto (-21), 3) := by decide +kernel
theorem dX9_makeBits_159 : decode cX9_makeBits 159 = .ok (.iconst 0, 1) := by decide +kernel
theorem dX9_makeBits_160 : decode cX9_makeBits 160 = .ok (.istore_n 1, 1) := by decide +kernel
theorem dX9_makeBits_161 : decode cX9_makeBits 161 = .ok (.iload_n 1, 1) := by decide +kernel
theorem dX9_makeBits_162 : decode cX9_makeBits 162 = .ok (.sipush 128, 3) := by decide +kernel
theorem dX9_makeBits_165 : decode cX9_makeBits 165 = .ok (.if_icmp .ge 21, 3) := by decide +kernel
theorem dX9_makeBits_168 : decode cX9_makeBits 168 = .ok (.aload_n 0, 1) := by decide +kernel
theorem dX9_makeBits_169 : decode cX9_makeBits 169 = .ok (.getfield 23, 3) := by decide +kernel
theorem dX9_makeBits_172 : decode cX9_makeBits 172 = .ok (.iload_n 1, 1) := by decide +kernel
theorem dX9_makeBits_173 : decode cX9_makeBits 173 = .ok (.aload_n 0, 1) := by decide +kernel
theorem dX9_makeBits_174 : decode cX9_makeBits 174 = .ok (.getfield 71, 3) := by decide +kernel
theorem dX9_makeBits_177 : decode cX9_makeBits 177 = .ok (.iload_n 1, 1) := by decide +kernel
theorem dX9_makeBits_178 : decode cX9_makeBits 178 = .ok (.iaload, 1) := by decide +kernel
theorem dX9_makeBits_179 : decode cX9_makeBits 179 = .ok (.iastore, 1) := by decide +kernel
theorem dX9_makeBits_180 : decode cX9_makeBits 180 = .ok (.iinc 1 1, 3) := by decide +kernel
theorem dX9_makeBits_183 : decode cX9_makeBits 183 = .ok (.goto (-22), 3) := by decide +kernel
theorem dX9_makeBits_186 : decode cX9_makeBits 186 = .ok (.aload_n 0, 1) := by decide +kernel
theorem dX9_makeBits_187 : decode cX9_makeBits 187 = .ok (.aload_n 0, 1) := by decide +kernel
theorem dX9_makeBits_188 : decode cX9_makeBits 188 = .ok (.getfield 91, 3) := by decide +kernel
theorem dX9_makeBits_191 : decode cX9_makeBits 191 = .ok (.putfield 168, 3) := by decide +kernel
theorem dX9_makeBits_194 : decode cX9_makeBits 194 = .ok (.aload_n 0, 1) := by decide +kernel
theorem dX9_makeBits_195 : decode cX9_makeBits 195 = .ok (.aload_n 0, 1) := by decide +kernel
theorem dX9_makeBits_196 : decode cX9_makeBits 196 = .ok (.invokevirtual 116, 3) := by decide +kernel
theorem dX9_makeBits_199 : decode cX9_makeBits 199 = .ok (.putfield 171, 3) := by decide +kernel
theorem dX9_makeBits_202 : decode cX9_makeBits 202 = .ok (.iconst 0, 1) := by decide +kernel
theorem dX9_makeBits_203 : decode cX9_makeBits 203 = .ok (.istore_n 1, 1) := by decide +kernel
theorem dX9_makeBits_204 : decode cX9_makeBits 204 = .ok (.iload_n 1, 1) := by decide +kernel
theorem dX9_makeBits_205 : decode cX9_makeBits 205 = .ok (.aload_n 0, 1) := by decide +kernel
theorem dX9_makeBits_206 : decode cX9_makeBits 206 = .ok (.getfield 91, 3) := by decide +kernel
theorem dX9_makeBits_209 : decode cX9_makeBits 209 = .ok (.if_icmp .ge 21, 3) := by decide +kernel
theorem dX9_makeBits_212 : decode cX9_makeBits 212 = .ok (.aload_n 0, 1) := by decide +kernel
theorem dX9_makeBits_213 : decode cX9_makeBits 213 = .ok (.getfield 47, 3) := by decide +kernel
theorem dX9_makeBits_216 : decode cX9_makeBits 216 = .ok (.iload_n 1, 1) := by decide +kernel
theorem dX9_makeBits_217 : decode cX9_makeBits 217 = .ok (.aload_n 0, 1) := by decide +kernel
theorem dX9_makeBits_218 : decode cX9_makeBits 218 = .ok (.getfield 50, 3) := by decide +kernel
theorem dX9_makeBits_221 : decode cX9_makeBits 221 = .ok (.iload_n 1, 1) := by decide +kernel
theorem dX9_makeBits_222 : decode cX9_makeBits 222 = .ok (.iaload, 1) := by decide +kernel
theorem dX9_makeBits_223 : decode cX9_makeBits 223 = .ok (.iastore, 1) := by decide +kernel
theorem dX9_makeBits_224 : decode cX9_makeBits 224 = .ok (.iinc 1 1, 3) := by decide +kernel
theorem dX9_makeBits_227 : decode cX9_makeBits 227 = .ok (.goto (-23), 3) := by decide +kernel
theorem dX9_makeBits_230 : decode cX9_makeBits 230 = .ok (.return_, 1) := by decide +kernel
set_option maxRecDepth 20000 in
theorem ggX9_build_X9_ring : GoodIn wsX9_build wsX9_ring := goodIn_r _ [7, 1, 8, 9, 10, 11, 12, 6, 13, 123, 124, 125, 126, 127, 128, 129, 130, 131, 132, 133, 134, 135, 136, 137, 138, 139, 140, 141, 142, 143, 144, 145, 146, 147, 148, 149, 150] (by decide +kernel) (by decide +kernel)
set_option maxRecDepth 20000 in
theorem gX9_build_X9_ring : GoodIn wsX9_build (wsV RX9 174 RX9 yX9_ring wsX9_ring) := goodIn_app (goodIn_of _ (by decide +kernel)) ggX9_build_X9_ring
set_option maxRecDepth 20000 in
theorem ggX9_build_X9_place : GoodIn wsX9_build wsX9_place := goodIn_r _ [17, 18, 1, 19, 20, 21, 22, 6, 23, 24, 25, 26, 27, 28, 29, 30, 31, 32, 33, 34, 35, 36, 37, 38, 39, 40, 10, 41, 42, 43, 44, 45, 46, 47, 48, 49, 50, 51, 52, 123, 124, 125, 126, 127, 128, 129, 130, 131, 132, 133, 134, 135, 136, 137, 138, 139, 140, 141, 142, 143, 144, 145, 146, 147, 148, 149, 150] (by decide +kernel) (by decide +kernel)
set_option maxRecDepth 20000 in
theorem gX9_build_X9_place : GoodIn wsX9_build (wsV RX9 177 RX9 yX9_place wsX9_place) := goodIn_app (goodIn_of _ (by decide +kernel)) ggX9_build_X9_place
set_option maxRecDepth 20000 in
theorem ggX9_build_X9_round : GoodIn wsX9_build wsX9_round := goodIn_r _ [56, 57, 58, 59, 2, 37, 38, 39, 6, 40, 10, 60, 61, 62, 63, 64, 24, 65, 66, 67, 68, 69, 70, 71, 72, 73, 74, 75, 76, 77, 78, 79, 80, 81, 82, 83, 84, 85, 86, 87, 88, 89, 90, 91, 92, 93, 94, 95, 96, 97, 98, 99, 100, 101, 102, 103, 104, 105, 106, 107, 123, 124, 125, 126, 127, 128, 129, 130, 131, 132, 133, 134, 135, 136, 137, 138, 139, 140, 141, 142, 143, 144, 145, 146, 147, 148, 149, 150] (by decide +kernel) (by decide +kernel)
set_option maxRecDepth 20000 in
theorem gX9_build_X9_round : GoodIn wsX9_build (wsV RX9 180 RX9 yX9_round wsX9_round) := goodIn_app (goodIn_of _ (by decide +kernel)) ggX9_build_X9_round
set_option maxRecDepth 20000 in
theorem ggX9_build_X9_makeBits : GoodIn wsX9_build wsX9_makeBits := goodIn_r _ [111, 18, 9, 112, 113, 114, 115, 116, 117, 118, 58, 119, 59, 1, 120, 121, 122, 24, 33, 34, 35, 6, 36, 37, 38, 39, 40, 10, 41, 42, 43, 44, 45, 46, 47, 48, 123, 124, 125, 126, 127, 128, 129, 130, 131, 132, 133, 134, 135, 136, 137, 138, 139, 140, 141, 142, 143, 144, 145, 146, 147, 148, 149, 150] (by decide +kernel) (by decide +kernel)
set_option maxRecDepth 20000 in
theorem gX9_build_X9_makeBits : GoodIn wsX9_build (wsV RX9 183 RX9 yX9_makeBits wsX9_makeBits) := goodIn_app (goodIn_of _ (by decide +kernel)) ggX9_build_X9_makeBits
theorem dX9_build_0 : decode cX9_build 0 = .ok (.aload_n 0, 1) := by decide +kernel
theorem dX9_build_1 : decode cX9_build 1 = .ok (.getfield 91, 3) := by decide +kernel
theorem dX9_build_4 : decode cX9_build 4 = .ok (.ifCond .ne 5, 3) := by decide +kernel
theorem dX9_build_7 : decode cX9_build 7 = .ok (.iconst (-1), 1) := by decide +kernel
theorem dX9_build_8 : decode cX9_build 8 = .ok (.ireturn, 1) := by decide +kernel
theorem dX9_build_9 : decode cX9_build 9 = .ok (.aload_n 0, 1) := by decide +kernel
theorem dX9_build_10 : decode cX9_build 10 = .ok (.invokevirtual 174, 3) := by decide +kernel
theorem dX9_build_13 : decode cX9_build 13 = .ok (.ifCond .eq 6, 3) := by decide +kernel
theorem dX9_build_16 : decode cX9_build 16 = .ok (.bipush (-2), 2) := by decide +kernel
theorem dX9_build_18 : decode cX9_build 18 = .ok (.ireturn, 1) := by decide +kernel
theorem dX9_build_19 : decode cX9_build 19 = .ok (.aload_n 0, 1) := by decide +kernel
theorem dX9_build_20 : decode cX9_build 20 = .ok (.invokevirtual 177, 3) := by decide +kernel
theorem dX9_build_23 : decode cX9_build 23 = .ok (.iconst 0, 1) := by decide +kernel
theorem dX9_build_24 : decode cX9_build 24 = .ok (.istore_n 1, 1) := by decide +kernel
theorem dX9_build_25 : decode cX9_build 25 = .ok (.iload_n 1, 1) := by decide +kernel
theorem dX9_build_26 : decode cX9_build 26 = .ok (.sipush 148, 3) := by decide +kernel
theorem dX9_build_29 : decode cX9_build 29 = .ok (.if_icmp .ge 16, 3) := by decide +kernel
theorem dX9_build_32 : decode cX9_build 32 = .ok (.aload_n 0, 1) := by decide +kernel
theorem dX9_build_33 : decode cX9_build 33 = .ok (.getfield 59, 3) := by decide +kernel
theorem dX9_build_36 : decode cX9_build 36 = .ok (.iload_n 1, 1) := by decide +kernel
theorem dX9_build_37 : decode cX9_build 37 = .ok (.iconst 0, 1) := by decide +kernel
theorem dX9_build_38 : decode cX9_build 38 = .ok (.iastore, 1) := by decide +kernel
theorem dX9_build_39 : decode cX9_build 39 = .ok (.iinc 1 1, 3) := by decide +kernel
theorem dX9_build_42 : decode cX9_build 42 = .ok (.goto (-17), 3) := by decide +kernel
theorem dX9_build_45 : decode cX9_build 45 = .ok (.iconst 1, 1) := by decide +kernel
theorem dX9_build_46 : decode cX9_build 46 = .ok (.istore_n 1, 1) := by decide +kernel
theorem dX9_build_47 : decode cX9_build 47 = .ok (.iload_n 1, 1) := by decide +kernel
theorem dX9_build_48 : decode cX9_build 48 = .ok (.bipush 12, 2) := by decide +kernel
theorem dX9_build_50 : decode cX9_build 50 = .ok (.if_icmp .gt 34, 3) := by decide +kernel
theorem dX9_build_53 : decode cX9_build 53 = .ok (.aload_n 0, 1) := by decide +kernel
theorem dX9_build_54 : decode cX9_build 54 = .ok (.invokevirtual 180, 3) := by decide +kernel
theorem dX9_build_57 : decode cX9_build 57 = .ok (.istore_n 2, 1) := by decide +kernel
theorem dX9_build_58 : decode cX9_build 58 = .ok (.iload_n 2, 1) := by decide +kernel
theorem dX9_build_59 : decode cX9_build 59 = .ok (.bipush (-3), 2) := by decide +kernel
theorem dX9_build_61 : decode cX9_build 61 = .ok (.if_icmp .ne 6, 3) := by decide +kernel
theorem dX9_build_64 : decode cX9_build 64 = .ok (.bipush (-3), 2) := by decide +kernel
theorem dX9_build_66 : decode cX9_build 66 = .ok (.ireturn, 1) := by decide +kernel
theorem dX9_build_67 : decode cX9_build 67 = .ok (.iload_n 2, 1) := by decide +kernel
theorem dX9_build_68 : decode cX9_build 68 = .ok (.iconst 1, 1) := by decide +kernel
theorem dX9_build_69 : decode cX9_build 69 = .ok (.if_icmp .ne 9, 3) := by decide +kernel
theorem dX9_build_72 : decode cX9_build 72 = .ok (.aload_n 0, 1) := by decide +kernel
theorem dX9_build_73 : decode cX9_build 73 = .ok (.invokevirtual 183, 3) := by decide +kernel
theorem dX9_build_76 : decode cX9_build 76 = .ok (.iload_n 1, 1) := by decide +kernel
theorem dX9_build_77 : decode cX9_build 77 = .ok (.ireturn, 1) := by decide +kernel
theorem dX9_build_78 : decode cX9_build 78 = .ok (.iinc 1 1, 3) := by decide +kernel
theorem dX9_build_81 : decode cX9_build 81 = .ok (.goto (-34), 3) := by decide +kernel
theorem dX9_build_84 : decode cX9_build 84 = .ok (.bipush (-3), 2) := by decide +kernel
theorem dX9_build_86 : decode cX9_build 86 = .ok (.ireturn, 1) := by decide +kernel
set_option maxRecDepth 20000 in
theorem ggX9_tileOf_X9_in : GoodIn wsX9_tileOf wsX9_in := goodIn_r _ [6] (by decide +kernel) (by decide +kernel)
set_option maxRecDepth 20000 in
theorem gX9_tileOf_X9_in : GoodIn wsX9_tileOf (va_wsS RX9 95 yX9_in wsX9_in) := goodIn_app (goodIn_of _ (by decide +kernel)) ggX9_tileOf_X9_in
theorem dX9_tileOf_0 : decode cX9_tileOf 0 = .ok (.iload_n 1, 1) := by decide +kernel
theorem dX9_tileOf_1 : decode cX9_tileOf 1 = .ok (.iconst 0, 1) := by decide +kernel
theorem dX9_tileOf_2 : decode cX9_tileOf 2 = .ok (.aload_n 0, 1) := by decide +kernel
theorem dX9_tileOf_3 : decode cX9_tileOf 3 = .ok (.getfield 168, 3) := by decide +kernel
theorem dX9_tileOf_6 : decode cX9_tileOf 6 = .ok (.iconst 1, 1) := by decide +kernel
theorem dX9_tileOf_7 : decode cX9_tileOf 7 = .ok (.isub, 1) := by decide +kernel
theorem dX9_tileOf_8 : decode cX9_tileOf 8 = .ok (.invokestatic 95, 3) := by decide +kernel
theorem dX9_tileOf_11 : decode cX9_tileOf 11 = .ok (.ifCond .eq 12, 3) := by decide +kernel
theorem dX9_tileOf_14 : decode cX9_tileOf 14 = .ok (.aload_n 0, 1) := by decide +kernel
theorem dX9_tileOf_15 : decode cX9_tileOf 15 = .ok (.getfield 47, 3) := by decide +kernel
theorem dX9_tileOf_18 : decode cX9_tileOf 18 = .ok (.iload_n 1, 1) := by decide +kernel
theorem dX9_tileOf_19 : decode cX9_tileOf 19 = .ok (.iaload, 1) := by decide +kernel
theorem dX9_tileOf_20 : decode cX9_tileOf 20 = .ok (.goto 4, 3) := by decide +kernel
theorem dX9_tileOf_23 : decode cX9_tileOf 23 = .ok (.iconst (-1), 1) := by decide +kernel
theorem dX9_tileOf_24 : decode cX9_tileOf 24 = .ok (.ireturn, 1) := by decide +kernel
theorem dX9_cost_0 : decode cX9_cost 0 = .ok (.aload_n 0, 1) := by decide +kernel
theorem dX9_cost_1 : decode cX9_cost 1 = .ok (.getfield 171, 3) := by decide +kernel
theorem dX9_cost_4 : decode cX9_cost 4 = .ok (.ireturn, 1) := by decide +kernel
set_option maxRecDepth 20000 in
theorem ggX9_bits_X9_in : GoodIn wsX9_bits wsX9_in := goodIn_r _ [11] (by decide +kernel) (by decide +kernel)
set_option maxRecDepth 20000 in
theorem gX9_bits_X9_in : GoodIn wsX9_bits (va_wsS RX9 95 yX9_in wsX9_in) := goodIn_app (goodIn_of _ (by decide +kernel)) ggX9_bits_X9_in
theorem dX9_bits_0 : decode cX9_bits 0 = .ok (.iload_n 1, 1) := by decide +kernel
theorem dX9_bits_1 : decode cX9_bits 1 = .ok (.iconst 0, 1) := by decide +kernel
theorem dX9_bits_2 : decode cX9_bits 2 = .ok (.bipush 15, 2) := by decide +kernel
theorem dX9_bits_4 : decode cX9_bits 4 = .ok (.invokestatic 95, 3) := by decide +kernel
theorem dX9_bits_7 : decode cX9_bits 7 = .ok (.ifCond .ne 5, 3) := by decide +kernel
theorem dX9_bits_10 : decode cX9_bits 10 = .ok (.lconst 0, 1) := by decide +kernel
theorem dX9_bits_11 : decode cX9_bits 11 = .ok (.lreturn, 1) := by decide +kernel
theorem dX9_bits_12 : decode cX9_bits 12 = .ok (.aload_n 0, 1) := by decide +kernel
theorem dX9_bits_13 : decode cX9_bits 13 = .ok (.getfield 7, 3) := by decide +kernel
theorem dX9_bits_16 : decode cX9_bits 16 = .ok (.iload_n 1, 1) := by decide +kernel
theorem dX9_bits_17 : decode cX9_bits 17 = .ok (.iaload, 1) := by decide +kernel
theorem dX9_bits_18 : decode cX9_bits 18 = .ok (.i2l, 1) := by decide +kernel
theorem dX9_bits_19 : decode cX9_bits 19 = .ok (.lstore_n 2, 1) := by decide +kernel
theorem dX9_bits_20 : decode cX9_bits 20 = .ok (.lload_n 2, 1) := by decide +kernel
theorem dX9_bits_21 : decode cX9_bits 21 = .ok (.aload_n 0, 1) := by decide +kernel
theorem dX9_bits_22 : decode cX9_bits 22 = .ok (.getfield 13, 3) := by decide +kernel
theorem dX9_bits_25 : decode cX9_bits 25 = .ok (.iload_n 1, 1) := by decide +kernel
theorem dX9_bits_26 : decode cX9_bits 26 = .ok (.baload, 1) := by decide +kernel
theorem dX9_bits_27 : decode cX9_bits 27 = .ok (.ifCond .eq 9, 3) := by decide +kernel
theorem dX9_bits_30 : decode cX9_bits 30 = .ok (.ldc2_w 186, 3) := by decide +kernel
theorem dX9_bits_33 : decode cX9_bits 33 = .ok (.goto 4, 3) := by decide +kernel
theorem dX9_bits_36 : decode cX9_bits 36 = .ok (.lconst 0, 1) := by decide +kernel
theorem dX9_bits_37 : decode cX9_bits 37 = .ok (.ladd, 1) := by decide +kernel
theorem dX9_bits_38 : decode cX9_bits 38 = .ok (.lstore_n 2, 1) := by decide +kernel
theorem dX9_bits_39 : decode cX9_bits 39 = .ok (.lload_n 2, 1) := by decide +kernel
theorem dX9_bits_40 : decode cX9_bits 40 = .ok (.aload_n 0, 1) := by decide +kernel
theorem dX9_bits_41 : decode cX9_bits 41 = .ok (.getfield 17, 3) := by decide +kernel
theorem dX9_bits_44 : decode cX9_bits 44 = .ok (.iload_n 1, 1) := by decide +kernel
theorem dX9_bits_45 : decode cX9_bits 45 = .ok (.baload, 1) := by decide +kernel
theorem dX9_bits_46 : decode cX9_bits 46 = .ok (.ifCond .eq 9, 3) := by decide +kernel
theorem dX9_bits_49 : decode cX9_bits 49 = .ok (.ldc2_w 188, 3) := by decide +kernel
theorem dX9_bits_52 : decode cX9_bits 52 = .ok (.goto 4, 3) := by decide +kernel
theorem dX9_bits_55 : decode cX9_bits 55 = .ok (.lconst 0, 1) := by decide +kernel
theorem dX9_bits_56 : decode cX9_bits 56 = .ok (.ladd, 1) := by decide +kernel
theorem dX9_bits_57 : decode cX9_bits 57 = .ok (.lstore_n 2, 1) := by decide +kernel
theorem dX9_bits_58 : decode cX9_bits 58 = .ok (.iconst 0, 1) := by decide +kernel
theorem dX9_bits_59 : decode cX9_bits 59 = .ok (.istore 4, 2) := by decide +kernel
theorem dX9_bits_61 : decode cX9_bits 61 = .ok (.iload 4, 2) := by decide +kernel
theorem dX9_bits_63 : decode cX9_bits 63 = .ok (.iconst 3, 1) := by decide +kernel
theorem dX9_bits_64 : decode cX9_bits 64 = .ok (.if_icmp .ge 32, 3) := by decide +kernel
theorem dX9_bits_67 : decode cX9_bits 67 = .ok (.lload_n 2, 1) := by decide +kernel
theorem dX9_bits_68 : decode cX9_bits 68 = .ok (.aload_n 0, 1) := by decide +kernel
theorem dX9_bits_69 : decode cX9_bits 69 = .ok (.getfield 20, 3) := by decide +kernel
theorem dX9_bits_72 : decode cX9_bits 72 = .ok (.iconst 3, 1) := by decide +kernel
theorem dX9_bits_73 : decode cX9_bits 73 = .ok (.iload_n 1, 1) := by decide +kernel
theorem dX9_bits_74 : decode cX9_bits 74 = .ok (.imul, 1) := by decide +kernel
theorem dX9_bits_75 : decode cX9_bits 75 = .ok (.iload 4, 2) := by decide +kernel
theorem dX9_bits_77 : decode cX9_bits 77 = .ok (.iadd, 1) := by decide +kernel
theorem dX9_bits_78 : decode cX9_bits 78 = .ok (.iaload, 1) := by decide +kernel
theorem dX9_bits_79 : decode cX9_bits 79 = .ok (.i2l, 1) := by decide +kernel
theorem dX9_bits_80 : decode cX9_bits 80 = .ok (.bipush 10, 2) := by decide +kernel
theorem dX9_bits_82 : decode cX9_bits 82 = .ok (.iconst 4, 1) := by decide +kernel
theorem dX9_bits_83 : decode cX9_bits 83 = .ok (.iload 4, 2) := by decide +kernel
theorem dX9_bits_85 : decode cX9_bits 85 = .ok (.imul, 1) := by decide +kernel
theorem dX9_bits_86 : decode cX9_bits 86 = .ok (.iadd, 1) := by decide +kernel
theorem dX9_bits_87 : decode cX9_bits 87 = .ok (.lshl, 1) := by decide +kernel
theorem dX9_bits_88 : decode cX9_bits 88 = .ok (.ladd, 1) := by decide +kernel
theorem dX9_bits_89 : decode cX9_bits 89 = .ok (.lstore_n 2, 1) := by decide +kernel
theorem dX9_bits_90 : decode cX9_bits 90 = .ok (.iinc 4 1, 3) := by decide +kernel
theorem dX9_bits_93 : decode cX9_bits 93 = .ok (.goto (-32), 3) := by decide +kernel
theorem dX9_bits_96 : decode cX9_bits 96 = .ok (.iconst 0, 1) := by decide +kernel
theorem dX9_bits_97 : decode cX9_bits 97 = .ok (.istore 4, 2) := by decide +kernel
theorem dX9_bits_99 : decode cX9_bits 99 = .ok (.iload 4, 2) := by decide +kernel
theorem dX9_bits_101 : decode cX9_bits 101 = .ok (.bipush 8, 2) := by decide +kernel
theorem dX9_bits_103 : decode cX9_bits 103 = .ok (.if_icmp .ge 33, 3) := by decide +kernel
theorem dX9_bits_106 : decode cX9_bits 106 = .ok (.lload_n 2, 1) := by decide +kernel
theorem dX9_bits_107 : decode cX9_bits 107 = .ok (.aload_n 0, 1) := by decide +kernel
theorem dX9_bits_108 : decode cX9_bits 108 = .ok (.getfield 23, 3) := by decide +kernel
theorem dX9_bits_111 : decode cX9_bits 111 = .ok (.bipush 8, 2) := by decide +kernel
theorem dX9_bits_113 : decode cX9_bits 113 = .ok (.iload_n 1, 1) := by decide +kernel
theorem dX9_bits_114 : decode cX9_bits 114 = .ok (.imul, 1) := by decide +kernel
theorem dX9_bits_115 : decode cX9_bits 115 = .ok (.iload 4, 2) := by decide +kernel
theorem dX9_bits_117 : decode cX9_bits 117 = .ok (.iadd, 1) := by decide +kernel
theorem dX9_bits_118 : decode cX9_bits 118 = .ok (.iaload, 1) := by decide +kernel
theorem dX9_bits_119 : decode cX9_bits 119 = .ok (.i2l, 1) := by decide +kernel
theorem dX9_bits_120 : decode cX9_bits 120 = .ok (.bipush 22, 2) := by decide +kernel
theorem dX9_bits_122 : decode cX9_bits 122 = .ok (.iconst 3, 1) := by decide +kernel
theorem dX9_bits_123 : decode cX9_bits 123 = .ok (.iload 4, 2) := by decide +kernel
theorem dX9_bits_125 : decode cX9_bits 125 = .ok (.imul, 1) := by decide +kernel
theorem dX9_bits_126 : decode cX9_bits 126 = .ok (.iadd, 1) := by decide +kernel
theorem dX9_bits_127 : decode cX9_bits 127 = .ok (.lshl, 1) := by decide +kernel
theorem dX9_bits_128 : decode cX9_bits 128 = .ok (.ladd, 1) := by decide +kernel
theorem dX9_bits_129 : decode cX9_bits 129 = .ok (.lstore_n 2, 1) := by decide +kernel
theorem dX9_bits_130 : decode cX9_bits 130 = .ok (.iinc 4 1, 3) := by decide +kernel
theorem dX9_bits_133 : decode cX9_bits 133 = .ok (.goto (-34), 3) := by decide +kernel
theorem dX9_bits_136 : decode cX9_bits 136 = .ok (.lload_n 2, 1) := by decide +kernel
theorem dX9_bits_137 : decode cX9_bits 137 = .ok (.lreturn, 1) := by decide +kernel
set_option maxRecDepth 20000 in
theorem ggX9_load_X9_in : GoodIn wsX9_load wsX9_in := goodIn_r _ [15] (by decide +kernel) (by decide +kernel)
set_option maxRecDepth 20000 in
theorem gX9_load_X9_in : GoodIn wsX9_load (va_wsS RX9 95 yX9_in wsX9_in) := goodIn_app (goodIn_of _ (by decide +kernel)) ggX9_load_X9_in
theorem dX9_load_0 : decode cX9_load 0 = .ok (.iload_n 1, 1) := by decide +kernel
theorem dX9_load_1 : decode cX9_load 1 = .ok (.iconst 0, 1) := by decide +kernel
theorem dX9_load_2 : decode cX9_load 2 = .ok (.bipush 15, 2) := by decide +kernel
theorem dX9_load_4 : decode cX9_load 4 = .ok (.invokestatic 95, 3) := by decide +kernel
theorem dX9_load_7 : decode cX9_load 7 = .ok (.ifCond .eq 18, 3) := by decide +kernel
theorem dX9_load_10 : decode cX9_load 10 = .ok (.lload_n 2, 1) := by decide +kernel
theorem dX9_load_11 : decode cX9_load 11 = .ok (.lconst 0, 1) := by decide +kernel
theorem dX9_load_12 : decode cX9_load 12 = .ok (.lcmp, 1) := by decide +kernel
theorem dX9_load_13 : decode cX9_load 13 = .ok (.ifCond .lt 12, 3) := by decide +kernel
theorem dX9_load_16 : decode cX9_load 16 = .ok (.lload_n 2, 1) := by decide +kernel
theorem dX9_load_17 : decode cX9_load 17 = .ok (.bipush 46, 2) := by decide +kernel
theorem dX9_load_19 : decode cX9_load 19 = .ok (.lshr, 1) := by decide +kernel
theorem dX9_load_20 : decode cX9_load 20 = .ok (.lconst 0, 1) := by decide +kernel
theorem dX9_load_21 : decode cX9_load 21 = .ok (.lcmp, 1) := by decide +kernel
theorem dX9_load_22 : decode cX9_load 22 = .ok (.ifCond .eq 5, 3) := by decide +kernel
theorem dX9_load_25 : decode cX9_load 25 = .ok (.iconst 0, 1) := by decide +kernel
theorem dX9_load_26 : decode cX9_load 26 = .ok (.ireturn, 1) := by decide +kernel
theorem dX9_load_27 : decode cX9_load 27 = .ok (.iconst 1, 1) := by decide +kernel
theorem dX9_load_28 : decode cX9_load 28 = .ok (.istore 4, 2) := by decide +kernel
theorem dX9_load_30 : decode cX9_load 30 = .ok (.iconst 0, 1) := by decide +kernel
theorem dX9_load_31 : decode cX9_load 31 = .ok (.istore 5, 2) := by decide +kernel
theorem dX9_load_33 : decode cX9_load 33 = .ok (.iload 5, 2) := by decide +kernel
theorem dX9_load_35 : decode cX9_load 35 = .ok (.iconst 3, 1) := by decide +kernel
theorem dX9_load_36 : decode cX9_load 36 = .ok (.if_icmp .ge 41, 3) := by decide +kernel
theorem dX9_load_39 : decode cX9_load 39 = .ok (.iload 4, 2) := by decide +kernel
theorem dX9_load_41 : decode cX9_load 41 = .ok (.ifCond .eq 27, 3) := by decide +kernel
theorem dX9_load_44 : decode cX9_load 44 = .ok (.lload_n 2, 1) := by decide +kernel
theorem dX9_load_45 : decode cX9_load 45 = .ok (.bipush 10, 2) := by decide +kernel
theorem dX9_load_47 : decode cX9_load 47 = .ok (.iconst 4, 1) := by decide +kernel
theorem dX9_load_48 : decode cX9_load 48 = .ok (.iload 5, 2) := by decide +kernel
theorem dX9_load_50 : decode cX9_load 50 = .ok (.imul, 1) := by decide +kernel
theorem dX9_load_51 : decode cX9_load 51 = .ok (.iadd, 1) := by decide +kernel
theorem dX9_load_52 : decode cX9_load 52 = .ok (.lshr, 1) := by decide +kernel
theorem dX9_load_53 : decode cX9_load 53 = .ok (.ldc2_w 190, 3) := by decide +kernel
theorem dX9_load_56 : decode cX9_load 56 = .ok (.land, 1) := by decide +kernel
theorem dX9_load_57 : decode cX9_load 57 = .ok (.ldc2_w 192, 3) := by decide +kernel
theorem dX9_load_60 : decode cX9_load 60 = .ok (.lcmp, 1) := by decide +kernel
theorem dX9_load_61 : decode cX9_load 61 = .ok (.ifCond .gt 7, 3) := by decide +kernel
theorem dX9_load_64 : decode cX9_load 64 = .ok (.iconst 1, 1) := by decide +kernel
theorem dX9_load_65 : decode cX9_load 65 = .ok (.goto 4, 3) := by decide +kernel
theorem dX9_load_68 : decode cX9_load 68 = .ok (.iconst 0, 1) := by decide +kernel
theorem dX9_load_69 : decode cX9_load 69 = .ok (.istore 4, 2) := by decide +kernel
theorem dX9_load_71 : decode cX9_load 71 = .ok (.iinc 5 1, 3) := by decide +kernel
theorem dX9_load_74 : decode cX9_load 74 = .ok (.goto (-41), 3) := by decide +kernel
theorem dX9_load_77 : decode cX9_load 77 = .ok (.iconst 0, 1) := by decide +kernel
theorem dX9_load_78 : decode cX9_load 78 = .ok (.istore 5, 2) := by decide +kernel
theorem dX9_load_80 : decode cX9_load 80 = .ok (.iload 5, 2) := by decide +kernel
theorem dX9_load_82 : decode cX9_load 82 = .ok (.bipush 8, 2) := by decide +kernel
theorem dX9_load_84 : decode cX9_load 84 = .ok (.if_icmp .ge 41, 3) := by decide +kernel
theorem dX9_load_87 : decode cX9_load 87 = .ok (.iload 4, 2) := by decide +kernel
theorem dX9_load_89 : decode cX9_load 89 = .ok (.ifCond .eq 27, 3) := by decide +kernel
theorem dX9_load_92 : decode cX9_load 92 = .ok (.lload_n 2, 1) := by decide +kernel
theorem dX9_load_93 : decode cX9_load 93 = .ok (.bipush 22, 2) := by decide +kernel
theorem dX9_load_95 : decode cX9_load 95 = .ok (.iconst 3, 1) := by decide +kernel
theorem dX9_load_96 : decode cX9_load 96 = .ok (.iload 5, 2) := by decide +kernel
theorem dX9_load_98 : decode cX9_load 98 = .ok (.imul, 1) := by decide +kernel
theorem dX9_load_99 : decode cX9_load 99 = .ok (.iadd, 1) := by decide +kernel
theorem dX9_load_100 : decode cX9_load 100 = .ok (.lshr, 1) := by decide +kernel
theorem dX9_load_101 : decode cX9_load 101 = .ok (.ldc2_w 194, 3) := by decide +kernel
theorem dX9_load_104 : decode cX9_load 104 = .ok (.land, 1) := by decide +kernel
theorem dX9_load_105 : decode cX9_load 105 = .ok (.ldc2_w 196, 3) := by decide +kernel
theorem dX9_load_108 : decode cX9_load 108 = .ok (.lcmp, 1) := by decide +kernel
theorem dX9_load_109 : decode cX9_load 109 = .ok (.ifCond .gt 7, 3) := by decide +kernel
theorem dX9_load_112 : decode cX9_load 112 = .ok (.iconst 1, 1) := by decide +kernel
theorem dX9_load_113 : decode cX9_load 113 = .ok (.goto 4, 3) := by decide +kernel
theorem dX9_load_116 : decode cX9_load 116 = .ok (.iconst 0, 1) := by decide +kernel
theorem dX9_load_117 : decode cX9_load 117 = .ok (.istore 4, 2) := by decide +kernel
theorem dX9_load_119 : decode cX9_load 119 = .ok (.iinc 5 1, 3) := by decide +kernel
theorem dX9_load_122 : decode cX9_load 122 = .ok (.goto (-42), 3) := by decide +kernel
theorem dX9_load_125 : decode cX9_load 125 = .ok (.iload 4, 2) := by decide +kernel
theorem dX9_load_127 : decode cX9_load 127 = .ok (.ifCond .ne 5, 3) := by decide +kernel
theorem dX9_load_130 : decode cX9_load 130 = .ok (.iconst 0, 1) := by decide +kernel
theorem dX9_load_131 : decode cX9_load 131 = .ok (.ireturn, 1) := by decide +kernel
theorem dX9_load_132 : decode cX9_load 132 = .ok (.lload_n 2, 1) := by decide +kernel
theorem dX9_load_133 : decode cX9_load 133 = .ok (.bipush 8, 2) := by decide +kernel
theorem dX9_load_135 : decode cX9_load 135 = .ok (.lshr, 1) := by decide +kernel
theorem dX9_load_136 : decode cX9_load 136 = .ok (.lconst 1, 1) := by decide +kernel
theorem dX9_load_137 : decode cX9_load 137 = .ok (.land, 1) := by decide +kernel
theorem dX9_load_138 : decode cX9_load 138 = .ok (.lconst 1, 1) := by decide +kernel
theorem dX9_load_139 : decode cX9_load 139 = .ok (.lcmp, 1) := by decide +kernel
theorem dX9_load_140 : decode cX9_load 140 = .ok (.ifCond .ne 7, 3) := by decide +kernel
theorem dX9_load_143 : decode cX9_load 143 = .ok (.iconst 1, 1) := by decide +kernel
theorem dX9_load_144 : decode cX9_load 144 = .ok (.goto 4, 3) := by decide +kernel
theorem dX9_load_147 : decode cX9_load 147 = .ok (.iconst 0, 1) := by decide +kernel
theorem dX9_load_148 : decode cX9_load 148 = .ok (.istore 5, 2) := by decide +kernel
theorem dX9_load_150 : decode cX9_load 150 = .ok (.aload_n 0, 1) := by decide +kernel
theorem dX9_load_151 : decode cX9_load 151 = .ok (.getfield 26, 3) := by decide +kernel
theorem dX9_load_154 : decode cX9_load 154 = .ok (.iload_n 1, 1) := by decide +kernel
theorem dX9_load_155 : decode cX9_load 155 = .ok (.iload 5, 2) := by decide +kernel
theorem dX9_load_157 : decode cX9_load 157 = .ok (.aload_n 0, 1) := by decide +kernel
theorem dX9_load_158 : decode cX9_load 158 = .ok (.getfield 13, 3) := by decide +kernel
theorem dX9_load_161 : decode cX9_load 161 = .ok (.iload_n 1, 1) := by decide +kernel
theorem dX9_load_162 : decode cX9_load 162 = .ok (.baload, 1) := by decide +kernel
theorem dX9_load_163 : decode cX9_load 163 = .ok (.if_icmp .ne 12, 3) := by decide +kernel
theorem dX9_load_166 : decode cX9_load 166 = .ok (.aload_n 0, 1) := by decide +kernel
theorem dX9_load_167 : decode cX9_load 167 = .ok (.getfield 26, 3) := by decide +kernel
theorem dX9_load_170 : decode cX9_load 170 = .ok (.iload_n 1, 1) := by decide +kernel
theorem dX9_load_171 : decode cX9_load 171 = .ok (.iaload, 1) := by decide +kernel
theorem dX9_load_172 : decode cX9_load 172 = .ok (.goto 4, 3) := by decide +kernel
theorem dX9_load_175 : decode cX9_load 175 = .ok (.iconst 0, 1) := by decide +kernel
theorem dX9_load_176 : decode cX9_load 176 = .ok (.iastore, 1) := by decide +kernel
theorem dX9_load_177 : decode cX9_load 177 = .ok (.aload_n 0, 1) := by decide +kernel
theorem dX9_load_178 : decode cX9_load 178 = .ok (.getfield 7, 3) := by decide +kernel
theorem dX9_load_181 : decode cX9_load 181 = .ok (.iload_n 1, 1) := by decide +kernel
theorem dX9_load_182 : decode cX9_load 182 = .ok (.lload_n 2, 1) := by decide +kernel
theorem dX9_load_183 : decode cX9_load 183 = .ok (.ldc2_w 198, 3) := by decide +kernel
theorem dX9_load_186 : decode cX9_load 186 = .ok (.land, 1) := by decide +kernel
theorem dX9_load_187 : decode cX9_load 187 = .ok (.l2i, 1) := by decide +kernel
theorem dX9_load_188 : decode cX9_load 188 = .ok (.iastore, 1) := by decide +kernel
theorem dX9_load_189 : decode cX9_load 189 = .ok (.aload_n 0, 1) := by decide +kernel
theorem dX9_load_190 : decode cX9_load 190 = .ok (.getfield 13, 3) := by decide +kernel
theorem dX9_load_193 : decode cX9_load 193 = .ok (.iload_n 1, 1) := by decide +kernel
theorem dX9_load_194 : decode cX9_load 194 = .ok (.iload 5, 2) := by decide +kernel
theorem dX9_load_196 : decode cX9_load 196 = .ok (.bastore, 1) := by decide +kernel
theorem dX9_load_197 : decode cX9_load 197 = .ok (.aload_n 0, 1) := by decide +kernel
theorem dX9_load_198 : decode cX9_load 198 = .ok (.getfield 17, 3) := by decide +kernel
theorem dX9_load_201 : decode cX9_load 201 = .ok (.iload_n 1, 1) := by decide +kernel
theorem dX9_load_202 : decode cX9_load 202 = .ok (.lload_n 2, 1) := by decide +kernel
theorem dX9_load_203 : decode cX9_load 203 = .ok (.bipush 9, 2) := by decide +kernel
theorem dX9_load_205 : decode cX9_load 205 = .ok (.lshr, 1) := by decide +kernel
theorem dX9_load_206 : decode cX9_load 206 = .ok (.lconst 1, 1) := by decide +kernel
theorem dX9_load_207 : decode cX9_load 207 = .ok (.land, 1) := by decide +kernel
theorem dX9_load_208 : decode cX9_load 208 = .ok (.lconst 1, 1) := by decide +kernel
theorem dX9_load_209 : decode cX9_load 209 = .ok (.lcmp, 1) := by decide +kernel
theorem dX9_load_210 : decode cX9_load 210 = .ok (.ifCond .ne 7, 3) := by decide +kernel
theorem dX9_load_213 : decode cX9_load 213 = .ok (.iconst 1, 1) := by decide +kernel
theorem dX9_load_214 : decode cX9_load 214 = .ok (.goto 4, 3) := by decide +kernel
theorem dX9_load_217 : decode cX9_load 217 = .ok (.iconst 0, 1) := by decide +kernel
theorem dX9_load_218 : decode cX9_load 218 = .ok (.bastore, 1) := by decide +kernel
theorem dX9_load_219 : decode cX9_load 219 = .ok (.iconst 0, 1) := by decide +kernel
theorem dX9_load_220 : decode cX9_load 220 = .ok (.istore 6, 2) := by decide +kernel
theorem dX9_load_222 : decode cX9_load 222 = .ok (.iload 6, 2) := by decide +kernel
theorem dX9_load_224 : decode cX9_load 224 = .ok (.iconst 3, 1) := by decide +kernel
theorem dX9_load_225 : decode cX9_load 225 = .ok (.if_icmp .ge 34, 3) := by decide +kernel
theorem dX9_load_228 : decode cX9_load 228 = .ok (.aload_n 0, 1) := by decide +kernel
theorem dX9_load_229 : decode cX9_load 229 = .ok (.getfield 20, 3) := by decide +kernel
theorem dX9_load_232 : decode cX9_load 232 = .ok (.iconst 3, 1) := by decide +kernel
theorem dX9_load_233 : decode cX9_load 233 = .ok (.iload_n 1, 1) := by decide +kernel
theorem dX9_load_234 : decode cX9_load 234 = .ok (.imul, 1) := by decide +kernel
theorem dX9_load_235 : decode cX9_load 235 = .ok (.iload 6, 2) := by decide +kernel
theorem dX9_load_237 : decode cX9_load 237 = .ok (.iadd, 1) := by decide +kernel
theorem dX9_load_238 : decode cX9_load 238 = .ok (.lload_n 2, 1) := by decide +kernel
theorem dX9_load_239 : decode cX9_load 239 = .ok (.bipush 10, 2) := by decide +kernel
theorem dX9_load_241 : decode cX9_load 241 = .ok (.iconst 4, 1) := by decide +kernel
theorem dX9_load_242 : decode cX9_load 242 = .ok (.iload 6, 2) := by decide +kernel
theorem dX9_load_244 : decode cX9_load 244 = .ok (.imul, 1) := by decide +kernel
theorem dX9_load_245 : decode cX9_load 245 = .ok (.iadd, 1) := by decide +kernel
theorem dX9_load_246 : decode cX9_load 246 = .ok (.lshr, 1) := by decide +kernel
theorem dX9_load_247 : decode cX9_load 247 = .ok (.ldc2_w 190, 3) := by decide +kernel
theorem dX9_load_250 : decode cX9_load 250 = .ok (.land, 1) := by decide +kernel
theorem dX9_load_251 : decode cX9_load 251 = .ok (.l2i, 1) := by decide +kernel
theorem dX9_load_252 : decode cX9_load 252 = .ok (.iastore, 1) := by decide +kernel
theorem dX9_load_253 : decode cX9_load 253 = .ok (.iinc 6 1, 3) := by decide +kernel
theorem dX9_load_256 : decode cX9_load 256 = .ok (.goto (-34), 3) := by decide +kernel
theorem dX9_load_259 : decode cX9_load 259 = .ok (.iconst 0, 1) := by decide +kernel
theorem dX9_load_260 : decode cX9_load 260 = .ok (.istore 6, 2) := by decide +kernel
theorem dX9_load_262 : decode cX9_load 262 = .ok (.iload 6, 2) := by decide +kernel
theorem dX9_load_264 : decode cX9_load 264 = .ok (.bipush 8, 2) := by decide +kernel
theorem dX9_load_266 : decode cX9_load 266 = .ok (.if_icmp .ge 35, 3) := by decide +kernel
theorem dX9_load_269 : decode cX9_load 269 = .ok (.aload_n 0, 1) := by decide +kernel
theorem dX9_load_270 : decode cX9_load 270 = .ok (.getfield 23, 3) := by decide +kernel
theorem dX9_load_273 : decode cX9_load 273 = .ok (.bipush 8, 2) := by decide +kernel
theorem dX9_load_275 : decode cX9_load 275 = .ok (.iload_n 1, 1) := by decide +kernel
theorem dX9_load_276 : decode cX9_load 276 = .ok (.imul, 1) := by decide +kernel
theorem dX9_load_277 : decode cX9_load 277 = .ok (.iload 6, 2) := by decide +kernel
theorem dX9_load_279 : decode cX9_load 279 = .ok (.iadd, 1) := by decide +kernel
theorem dX9_load_280 : decode cX9_load 280 = .ok (.lload_n 2, 1) := by decide +kernel
theorem dX9_load_281 : decode cX9_load 281 = .ok (.bipush 22, 2) := by decide +kernel
theorem dX9_load_283 : decode cX9_load 283 = .ok (.iconst 3, 1) := by decide +kernel
theorem dX9_load_284 : decode cX9_load 284 = .ok (.iload 6, 2) := by decide +kernel
theorem dX9_load_286 : decode cX9_load 286 = .ok (.imul, 1) := by decide +kernel
theorem dX9_load_287 : decode cX9_load 287 = .ok (.iadd, 1) := by decide +kernel
theorem dX9_load_288 : decode cX9_load 288 = .ok (.lshr, 1) := by decide +kernel
theorem dX9_load_289 : decode cX9_load 289 = .ok (.ldc2_w 194, 3) := by decide +kernel
theorem dX9_load_292 : decode cX9_load 292 = .ok (.land, 1) := by decide +kernel
theorem dX9_load_293 : decode cX9_load 293 = .ok (.l2i, 1) := by decide +kernel
theorem dX9_load_294 : decode cX9_load 294 = .ok (.iastore, 1) := by decide +kernel
theorem dX9_load_295 : decode cX9_load 295 = .ok (.iinc 6 1, 3) := by decide +kernel
theorem dX9_load_298 : decode cX9_load 298 = .ok (.goto (-36), 3) := by decide +kernel
theorem dX9_load_301 : decode cX9_load 301 = .ok (.iconst 1, 1) := by decide +kernel
theorem dX9_load_302 : decode cX9_load 302 = .ok (.ireturn, 1) := by decide +kernel
set_option maxRecDepth 20000 in
theorem ggX9_checkSum_X9_bits : GoodIn wsX9_checkSum wsX9_bits := goodIn_r _ [6, 7, 8, 9, 10, 11, 12, 13, 14, 15, 5, 16, 17, 18, 19, 20, 21, 22, 23, 24, 25, 26, 27, 28, 29, 30, 31, 32, 33, 34, 35, 36, 37, 38, 39, 40, 41, 42, 43, 44] (by decide +kernel) (by decide +kernel)
set_option maxRecDepth 20000 in
theorem gX9_checkSum_X9_bits : GoodIn wsX9_checkSum (wsV RX9 201 RX9 yX9_bits wsX9_bits) := goodIn_app (goodIn_of _ (by decide +kernel)) ggX9_checkSum_X9_bits
theorem dX9_checkSum_0 : decode cX9_checkSum 0 = .ok (.ldc 200, 2) := by decide +kernel
theorem dX9_checkSum_2 : decode cX9_checkSum 2 = .ok (.istore_n 1, 1) := by decide +kernel
theorem dX9_checkSum_3 : decode cX9_checkSum 3 = .ok (.iconst 0, 1) := by decide +kernel
theorem dX9_checkSum_4 : decode cX9_checkSum 4 = .ok (.istore_n 2, 1) := by decide +kernel
theorem dX9_checkSum_5 : decode cX9_checkSum 5 = .ok (.iload_n 2, 1) := by decide +kernel
theorem dX9_checkSum_6 : decode cX9_checkSum 6 = .ok (.bipush 16, 2) := by decide +kernel
theorem dX9_checkSum_8 : decode cX9_checkSum 8 = .ok (.if_icmp .ge 70, 3) := by decide +kernel
theorem dX9_checkSum_11 : decode cX9_checkSum 11 = .ok (.aload_n 0, 1) := by decide +kernel
theorem dX9_checkSum_12 : decode cX9_checkSum 12 = .ok (.iload_n 2, 1) := by decide +kernel
theorem dX9_checkSum_13 : decode cX9_checkSum 13 = .ok (.invokevirtual 201, 3) := by decide +kernel
theorem dX9_checkSum_16 : decode cX9_checkSum 16 = .ok (.lstore_n 3, 1) := by decide +kernel
theorem dX9_checkSum_17 : decode cX9_checkSum 17 = .ok (.iconst 0, 1) := by decide +kernel
theorem dX9_checkSum_18 : decode cX9_checkSum 18 = .ok (.istore 5, 2) := by decide +kernel
theorem dX9_checkSum_20 : decode cX9_checkSum 20 = .ok (.iload 5, 2) := by decide +kernel
theorem dX9_checkSum_22 : decode cX9_checkSum 22 = .ok (.bipush 48, 2) := by decide +kernel
theorem dX9_checkSum_24 : decode cX9_checkSum 24 = .ok (.if_icmp .ge 48, 3) := by decide +kernel
theorem dX9_checkSum_27 : decode cX9_checkSum 27 = .ok (.iload_n 1, 1) := by decide +kernel
theorem dX9_checkSum_28 : decode cX9_checkSum 28 = .ok (.bipush 15, 2) := by decide +kernel
theorem dX9_checkSum_30 : decode cX9_checkSum 30 = .ok (.ishr, 1) := by decide +kernel
theorem dX9_checkSum_31 : decode cX9_checkSum 31 = .ok (.iconst 1, 1) := by decide +kernel
theorem dX9_checkSum_32 : decode cX9_checkSum 32 = .ok (.iand, 1) := by decide +kernel
theorem dX9_checkSum_33 : decode cX9_checkSum 33 = .ok (.lload_n 3, 1) := by decide +kernel
theorem dX9_checkSum_34 : decode cX9_checkSum 34 = .ok (.iload 5, 2) := by decide +kernel
theorem dX9_checkSum_36 : decode cX9_checkSum 36 = .ok (.lshr, 1) := by decide +kernel
theorem dX9_checkSum_37 : decode cX9_checkSum 37 = .ok (.lconst 1, 1) := by decide +kernel
theorem dX9_checkSum_38 : decode cX9_checkSum 38 = .ok (.land, 1) := by decide +kernel
theorem dX9_checkSum_39 : decode cX9_checkSum 39 = .ok (.l2i, 1) := by decide +kernel
theorem dX9_checkSum_40 : decode cX9_checkSum 40 = .ok (.ixor, 1) := by decide +kernel
theorem dX9_checkSum_41 : decode cX9_checkSum 41 = .ok (.istore 6, 2) := by decide +kernel
theorem dX9_checkSum_43 : decode cX9_checkSum 43 = .ok (.iload_n 1, 1) := by decide +kernel
theorem dX9_checkSum_44 : decode cX9_checkSum 44 = .ok (.iconst 1, 1) := by decide +kernel
theorem dX9_checkSum_45 : decode cX9_checkSum 45 = .ok (.ishl, 1) := by decide +kernel
theorem dX9_checkSum_46 : decode cX9_checkSum 46 = .ok (.ldc 200, 2) := by decide +kernel
theorem dX9_checkSum_48 : decode cX9_checkSum 48 = .ok (.iand, 1) := by decide +kernel
theorem dX9_checkSum_49 : decode cX9_checkSum 49 = .ok (.istore_n 1, 1) := by decide +kernel
theorem dX9_checkSum_50 : decode cX9_checkSum 50 = .ok (.iload 6, 2) := by decide +kernel
theorem dX9_checkSum_52 : decode cX9_checkSum 52 = .ok (.iconst 1, 1) := by decide +kernel
theorem dX9_checkSum_53 : decode cX9_checkSum 53 = .ok (.if_icmp .ne 11, 3) := by decide +kernel
theorem dX9_checkSum_56 : decode cX9_checkSum 56 = .ok (.iload_n 1, 1) := by decide +kernel
theorem dX9_checkSum_57 : decode cX9_checkSum 57 = .ok (.sipush 4129, 3) := by decide +kernel
theorem dX9_checkSum_60 : decode cX9_checkSum 60 = .ok (.ixor, 1) := by decide +kernel
theorem dX9_checkSum_61 : decode cX9_checkSum 61 = .ok (.goto 4, 3) := by decide +kernel
theorem dX9_checkSum_64 : decode cX9_checkSum 64 = .ok (.iload_n 1, 1) := by decide +kernel
theorem dX9_checkSum_65 : decode cX9_checkSum 65 = .ok (.istore_n 1, 1) := by decide +kernel
theorem dX9_checkSum_66 : decode cX9_checkSum 66 = .ok (.iinc 5 1, 3) := by decide +kernel
theorem dX9_checkSum_69 : decode cX9_checkSum 69 = .ok (.goto (-49), 3) := by decide +kernel
theorem dX9_checkSum_72 : decode cX9_checkSum 72 = .ok (.iinc 2 1, 3) := by decide +kernel
theorem dX9_checkSum_75 : decode cX9_checkSum 75 = .ok (.goto (-70), 3) := by decide +kernel
theorem dX9_checkSum_78 : decode cX9_checkSum 78 = .ok (.iload_n 1, 1) := by decide +kernel
theorem dX9_checkSum_79 : decode cX9_checkSum 79 = .ok (.ireturn, 1) := by decide +kernel
set_option maxRecDepth 20000 in
theorem ggX9_comesFrom_X9_channelOf : GoodIn wsX9_comesFrom wsX9_channelOf := goodIn_r _ [7] (by decide +kernel) (by decide +kernel)
set_option maxRecDepth 20000 in
theorem gX9_comesFrom_X9_channelOf : GoodIn wsX9_comesFrom (va_wsS RX9 146 yX9_channelOf wsX9_channelOf) := goodIn_app (goodIn_of _ (by decide +kernel)) ggX9_comesFrom_X9_channelOf
set_option maxRecDepth 20000 in
theorem ggX9_comesFrom_X9_behindChannel : GoodIn wsX9_comesFrom wsX9_behindChannel := goodIn_r _ [10, 11, 12, 6, 13, 14, 15, 16] (by decide +kernel) (by decide +kernel)
set_option maxRecDepth 20000 in
theorem gX9_comesFrom_X9_behindChannel : GoodIn wsX9_comesFrom (va_wsS RX9 132 yX9_behindChannel wsX9_behindChannel) := goodIn_app (goodIn_of _ (by decide +kernel)) ggX9_comesFrom_X9_behindChannel
theorem dX9_comesFrom_0 : decode cX9_comesFrom 0 = .ok (.iconst 0, 1) := by decide +kernel
theorem dX9_comesFrom_1 : decode cX9_comesFrom 1 = .ok (.istore_n 2, 1) := by decide +kernel
theorem dX9_comesFrom_2 : decode cX9_comesFrom 2 = .ok (.iload_n 2, 1) := by decide +kernel
theorem dX9_comesFrom_3 : decode cX9_comesFrom 3 = .ok (.sipush 128, 3) := by decide +kernel
theorem dX9_comesFrom_6 : decode cX9_comesFrom 6 = .ok (.if_icmp .ge 16, 3) := by decide +kernel
theorem dX9_comesFrom_9 : decode cX9_comesFrom 9 = .ok (.aload_n 0, 1) := by decide +kernel
theorem dX9_comesFrom_10 : decode cX9_comesFrom 10 = .ok (.getfield 74, 3) := by decide +kernel
theorem dX9_comesFrom_13 : decode cX9_comesFrom 13 = .ok (.iload_n 2, 1) := by decide +kernel
theorem dX9_comesFrom_14 : decode cX9_comesFrom 14 = .ok (.iconst 0, 1) := by decide +kernel
theorem dX9_comesFrom_15 : decode cX9_comesFrom 15 = .ok (.bastore, 1) := by decide +kernel
theorem dX9_comesFrom_16 : decode cX9_comesFrom 16 = .ok (.iinc 2 1, 3) := by decide +kernel
theorem dX9_comesFrom_19 : decode cX9_comesFrom 19 = .ok (.goto (-17), 3) := by decide +kernel
theorem dX9_comesFrom_22 : decode cX9_comesFrom 22 = .ok (.aload_n 0, 1) := by decide +kernel
theorem dX9_comesFrom_23 : decode cX9_comesFrom 23 = .ok (.iconst 0, 1) := by decide +kernel
theorem dX9_comesFrom_24 : decode cX9_comesFrom 24 = .ok (.putfield 205, 3) := by decide +kernel
theorem dX9_comesFrom_27 : decode cX9_comesFrom 27 = .ok (.iload_n 1, 1) := by decide +kernel
theorem dX9_comesFrom_28 : decode cX9_comesFrom 28 = .ok (.istore_n 2, 1) := by decide +kernel
theorem dX9_comesFrom_29 : decode cX9_comesFrom 29 = .ok (.iload_n 2, 1) := by decide +kernel
theorem dX9_comesFrom_30 : decode cX9_comesFrom 30 = .ok (.ifCond .lt 58, 3) := by decide +kernel
theorem dX9_comesFrom_33 : decode cX9_comesFrom 33 = .ok (.iload_n 2, 1) := by decide +kernel
theorem dX9_comesFrom_34 : decode cX9_comesFrom 34 = .ok (.invokestatic 146, 3) := by decide +kernel
theorem dX9_comesFrom_37 : decode cX9_comesFrom 37 = .ok (.ifCond .lt 51, 3) := by decide +kernel
theorem dX9_comesFrom_40 : decode cX9_comesFrom 40 = .ok (.iload_n 2, 1) := by decide +kernel
theorem dX9_comesFrom_41 : decode cX9_comesFrom 41 = .ok (.invokestatic 146, 3) := by decide +kernel
theorem dX9_comesFrom_44 : decode cX9_comesFrom 44 = .ok (.istore_n 3, 1) := by decide +kernel
theorem dX9_comesFrom_45 : decode cX9_comesFrom 45 = .ok (.aload_n 0, 1) := by decide +kernel
theorem dX9_comesFrom_46 : decode cX9_comesFrom 46 = .ok (.getfield 74, 3) := by decide +kernel
theorem dX9_comesFrom_49 : decode cX9_comesFrom 49 = .ok (.iload_n 3, 1) := by decide +kernel
theorem dX9_comesFrom_50 : decode cX9_comesFrom 50 = .ok (.baload, 1) := by decide +kernel
theorem dX9_comesFrom_51 : decode cX9_comesFrom 51 = .ok (.ifCond .eq 6, 3) := by decide +kernel
theorem dX9_comesFrom_54 : decode cX9_comesFrom 54 = .ok (.bipush (-2), 2) := by decide +kernel
theorem dX9_comesFrom_56 : decode cX9_comesFrom 56 = .ok (.ireturn, 1) := by decide +kernel
theorem dX9_comesFrom_57 : decode cX9_comesFrom 57 = .ok (.aload_n 0, 1) := by decide +kernel
theorem dX9_comesFrom_58 : decode cX9_comesFrom 58 = .ok (.getfield 74, 3) := by decide +kernel
theorem dX9_comesFrom_61 : decode cX9_comesFrom 61 = .ok (.iload_n 3, 1) := by decide +kernel
theorem dX9_comesFrom_62 : decode cX9_comesFrom 62 = .ok (.iconst 1, 1) := by decide +kernel
theorem dX9_comesFrom_63 : decode cX9_comesFrom 63 = .ok (.bastore, 1) := by decide +kernel
theorem dX9_comesFrom_64 : decode cX9_comesFrom 64 = .ok (.aload_n 0, 1) := by decide +kernel
theorem dX9_comesFrom_65 : decode cX9_comesFrom 65 = .ok (.dup, 1) := by decide +kernel
theorem dX9_comesFrom_66 : decode cX9_comesFrom 66 = .ok (.getfield 205, 3) := by decide +kernel
theorem dX9_comesFrom_69 : decode cX9_comesFrom 69 = .ok (.iconst 1, 1) := by decide +kernel
theorem dX9_comesFrom_70 : decode cX9_comesFrom 70 = .ok (.iadd, 1) := by decide +kernel
theorem dX9_comesFrom_71 : decode cX9_comesFrom 71 = .ok (.putfield 205, 3) := by decide +kernel
theorem dX9_comesFrom_74 : decode cX9_comesFrom 74 = .ok (.iload_n 3, 1) := by decide +kernel
theorem dX9_comesFrom_75 : decode cX9_comesFrom 75 = .ok (.aload_n 0, 1) := by decide +kernel
theorem dX9_comesFrom_76 : decode cX9_comesFrom 76 = .ok (.getfield 23, 3) := by decide +kernel
theorem dX9_comesFrom_79 : decode cX9_comesFrom 79 = .ok (.iload_n 3, 1) := by decide +kernel
theorem dX9_comesFrom_80 : decode cX9_comesFrom 80 = .ok (.iaload, 1) := by decide +kernel
theorem dX9_comesFrom_81 : decode cX9_comesFrom 81 = .ok (.invokestatic 132, 3) := by decide +kernel
theorem dX9_comesFrom_84 : decode cX9_comesFrom 84 = .ok (.istore_n 2, 1) := by decide +kernel
theorem dX9_comesFrom_85 : decode cX9_comesFrom 85 = .ok (.goto (-56), 3) := by decide +kernel
theorem dX9_comesFrom_88 : decode cX9_comesFrom 88 = .ok (.iload_n 2, 1) := by decide +kernel
theorem dX9_comesFrom_89 : decode cX9_comesFrom 89 = .ok (.ifCond .ge 7, 3) := by decide +kernel
theorem dX9_comesFrom_92 : decode cX9_comesFrom 92 = .ok (.iconst (-1), 1) := by decide +kernel
theorem dX9_comesFrom_93 : decode cX9_comesFrom 93 = .ok (.goto 22, 3) := by decide +kernel
theorem dX9_comesFrom_96 : decode cX9_comesFrom 96 = .ok (.iload_n 2, 1) := by decide +kernel
theorem dX9_comesFrom_97 : decode cX9_comesFrom 97 = .ok (.sipush 144, 3) := by decide +kernel
theorem dX9_comesFrom_100 : decode cX9_comesFrom 100 = .ok (.if_icmp .lt 11, 3) := by decide +kernel
theorem dX9_comesFrom_103 : decode cX9_comesFrom 103 = .ok (.iload_n 2, 1) := by decide +kernel
theorem dX9_comesFrom_104 : decode cX9_comesFrom 104 = .ok (.sipush 128, 3) := by decide +kernel
theorem dX9_comesFrom_107 : decode cX9_comesFrom 107 = .ok (.isub, 1) := by decide +kernel
theorem dX9_comesFrom_108 : decode cX9_comesFrom 108 = .ok (.goto 7, 3) := by decide +kernel
theorem dX9_comesFrom_111 : decode cX9_comesFrom 111 = .ok (.iload_n 2, 1) := by decide +kernel
theorem dX9_comesFrom_112 : decode cX9_comesFrom 112 = .ok (.bipush 9, 2) := by decide +kernel
theorem dX9_comesFrom_114 : decode cX9_comesFrom 114 = .ok (.idiv, 1) := by decide +kernel
theorem dX9_comesFrom_115 : decode cX9_comesFrom 115 = .ok (.ireturn, 1) := by decide +kernel
set_option maxRecDepth 20000 in
theorem ggX9_gets_X9_behindPin : GoodIn wsX9_gets wsX9_behindPin := goodIn_r _ [5, 6, 7, 4, 8, 9, 10, 11] (by decide +kernel) (by decide +kernel)
set_option maxRecDepth 20000 in
theorem gX9_gets_X9_behindPin : GoodIn wsX9_gets (va_wsS RX9 159 yX9_behindPin wsX9_behindPin) := goodIn_app (goodIn_of _ (by decide +kernel)) ggX9_gets_X9_behindPin
set_option maxRecDepth 20000 in
theorem ggX9_gets_X9_comesFrom : GoodIn wsX9_gets wsX9_comesFrom := goodIn_r _ [15, 16, 17, 18, 19, 20, 4, 21, 22, 23, 24, 6, 7, 8, 9, 10, 11, 25, 26, 27, 28, 29, 30, 31, 32, 33, 34, 35, 36, 37, 38, 39, 40, 41, 42, 43, 44, 45, 46, 47, 48, 49, 50, 51, 52] (by decide +kernel) (by decide +kernel)
set_option maxRecDepth 20000 in
theorem gX9_gets_X9_comesFrom : GoodIn wsX9_gets (wsV RX9 208 RX9 yX9_comesFrom wsX9_comesFrom) := goodIn_app (goodIn_of _ (by decide +kernel)) ggX9_gets_X9_comesFrom
theorem dX9_gets_0 : decode cX9_gets 0 = .ok (.aload_n 0, 1) := by decide +kernel
theorem dX9_gets_1 : decode cX9_gets 1 = .ok (.iload_n 1, 1) := by decide +kernel
theorem dX9_gets_2 : decode cX9_gets 2 = .ok (.aload_n 0, 1) := by decide +kernel
theorem dX9_gets_3 : decode cX9_gets 3 = .ok (.getfield 20, 3) := by decide +kernel
theorem dX9_gets_6 : decode cX9_gets 6 = .ok (.iload_n 1, 1) := by decide +kernel
theorem dX9_gets_7 : decode cX9_gets 7 = .ok (.iaload, 1) := by decide +kernel
theorem dX9_gets_8 : decode cX9_gets 8 = .ok (.invokestatic 159, 3) := by decide +kernel
theorem dX9_gets_11 : decode cX9_gets 11 = .ok (.invokevirtual 208, 3) := by decide +kernel
theorem dX9_gets_14 : decode cX9_gets 14 = .ok (.ireturn, 1) := by decide +kernel
set_option maxRecDepth 20000 in
theorem ggX9_pin_X9_in : GoodIn wsX9_pin wsX9_in := goodIn_r _ [4] (by decide +kernel) (by decide +kernel)
set_option maxRecDepth 20000 in
theorem gX9_pin_X9_in : GoodIn wsX9_pin (va_wsS RX9 95 yX9_in wsX9_in) := goodIn_app (goodIn_of _ (by decide +kernel)) ggX9_pin_X9_in
set_option maxRecDepth 20000 in
theorem ggX9_pin_X9_gets : GoodIn wsX9_pin wsX9_gets := goodIn_r _ [8, 9, 10, 11, 3, 12, 13, 14, 15, 16, 17, 18, 19, 20, 21, 22, 23, 24, 25, 26, 27, 28, 29, 30, 31, 32, 33, 34, 35, 36, 37, 38, 39, 40, 41, 42, 43, 44, 45, 46, 47, 48, 49, 50, 51, 52, 53, 54, 55, 56, 57, 58, 59] (by decide +kernel) (by decide +kernel)
set_option maxRecDepth 20000 in
theorem gX9_pin_X9_gets : GoodIn wsX9_pin (wsV RX9 211 RX9 yX9_gets wsX9_gets) := goodIn_app (goodIn_of _ (by decide +kernel)) ggX9_pin_X9_gets
theorem dX9_pin_0 : decode cX9_pin 0 = .ok (.iload_n 1, 1) := by decide +kernel
theorem dX9_pin_1 : decode cX9_pin 1 = .ok (.iconst 0, 1) := by decide +kernel
theorem dX9_pin_2 : decode cX9_pin 2 = .ok (.bipush 15, 2) := by decide +kernel
theorem dX9_pin_4 : decode cX9_pin 4 = .ok (.invokestatic 95, 3) := by decide +kernel
theorem dX9_pin_7 : decode cX9_pin 7 = .ok (.ifCond .eq 24, 3) := by decide +kernel
theorem dX9_pin_10 : decode cX9_pin 10 = .ok (.iload_n 2, 1) := by decide +kernel
theorem dX9_pin_11 : decode cX9_pin 11 = .ok (.iconst 0, 1) := by decide +kernel
theorem dX9_pin_12 : decode cX9_pin 12 = .ok (.iconst 2, 1) := by decide +kernel
theorem dX9_pin_13 : decode cX9_pin 13 = .ok (.invokestatic 95, 3) := by decide +kernel
theorem dX9_pin_16 : decode cX9_pin 16 = .ok (.ifCond .eq 15, 3) := by decide +kernel
theorem dX9_pin_19 : decode cX9_pin 19 = .ok (.aload_n 0, 1) := by decide +kernel
theorem dX9_pin_20 : decode cX9_pin 20 = .ok (.iconst 3, 1) := by decide +kernel
theorem dX9_pin_21 : decode cX9_pin 21 = .ok (.iload_n 1, 1) := by decide +kernel
theorem dX9_pin_22 : decode cX9_pin 22 = .ok (.imul, 1) := by decide +kernel
theorem dX9_pin_23 : decode cX9_pin 23 = .ok (.iload_n 2, 1) := by decide +kernel
theorem dX9_pin_24 : decode cX9_pin 24 = .ok (.iadd, 1) := by decide +kernel
theorem dX9_pin_25 : decode cX9_pin 25 = .ok (.invokevirtual 211, 3) := by decide +kernel
theorem dX9_pin_28 : decode cX9_pin 28 = .ok (.goto 4, 3) := by decide +kernel
theorem dX9_pin_31 : decode cX9_pin 31 = .ok (.iconst (-1), 1) := by decide +kernel
theorem dX9_pin_32 : decode cX9_pin 32 = .ok (.ireturn, 1) := by decide +kernel
set_option maxRecDepth 20000 in
theorem ggX9_outputOf_X9_in : GoodIn wsX9_outputOf wsX9_in := goodIn_r _ [4] (by decide +kernel) (by decide +kernel)
set_option maxRecDepth 20000 in
theorem gX9_outputOf_X9_in : GoodIn wsX9_outputOf (va_wsS RX9 95 yX9_in wsX9_in) := goodIn_app (goodIn_of _ (by decide +kernel)) ggX9_outputOf_X9_in
set_option maxRecDepth 20000 in
theorem ggX9_outputOf_X9_outputWire : GoodIn wsX9_outputOf wsX9_outputWire := goodIn_r _ [7, 8, 9, 3, 10] (by decide +kernel) (by decide +kernel)
set_option maxRecDepth 20000 in
theorem gX9_outputOf_X9_outputWire : GoodIn wsX9_outputOf (va_wsS RX9 152 yX9_outputWire wsX9_outputWire) := goodIn_app (goodIn_of _ (by decide +kernel)) ggX9_outputOf_X9_outputWire
set_option maxRecDepth 20000 in
theorem ggX9_outputOf_X9_comesFrom : GoodIn wsX9_outputOf wsX9_comesFrom := goodIn_r _ [14, 15, 16, 17, 18, 19, 3, 20, 21, 22, 23, 24, 25, 26, 8, 9, 10, 27, 28, 29, 30, 31, 32, 33, 34, 35, 36, 37, 38, 39, 40, 41, 42, 43, 44, 45, 46, 47, 48, 49, 50, 51, 52, 53, 54] (by decide +kernel) (by decide +kernel)
set_option maxRecDepth 20000 in
theorem gX9_outputOf_X9_comesFrom : GoodIn wsX9_outputOf (wsV RX9 208 RX9 yX9_comesFrom wsX9_comesFrom) := goodIn_app (goodIn_of _ (by decide +kernel)) ggX9_outputOf_X9_comesFrom
theorem dX9_outputOf_0 : decode cX9_outputOf 0 = .ok (.iload_n 1, 1) := by decide +kernel
theorem dX9_outputOf_1 : decode cX9_outputOf 1 = .ok (.iconst 0, 1) := by decide +kernel
theorem dX9_outputOf_2 : decode cX9_outputOf 2 = .ok (.iconst 3, 1) := by decide +kernel
theorem dX9_outputOf_3 : decode cX9_outputOf 3 = .ok (.invokestatic 95, 3) := by decide +kernel
theorem dX9_outputOf_6 : decode cX9_outputOf 6 = .ok (.ifCond .eq 14, 3) := by decide +kernel
theorem dX9_outputOf_9 : decode cX9_outputOf 9 = .ok (.aload_n 0, 1) := by decide +kernel
theorem dX9_outputOf_10 : decode cX9_outputOf 10 = .ok (.iload_n 1, 1) := by decide +kernel
theorem dX9_outputOf_11 : decode cX9_outputOf 11 = .ok (.invokestatic 152, 3) := by decide +kernel
theorem dX9_outputOf_14 : decode cX9_outputOf 14 = .ok (.invokevirtual 208, 3) := by decide +kernel
theorem dX9_outputOf_17 : decode cX9_outputOf 17 = .ok (.goto 4, 3) := by decide +kernel
theorem dX9_outputOf_20 : decode cX9_outputOf 20 = .ok (.iconst (-1), 1) := by decide +kernel
theorem dX9_outputOf_21 : decode cX9_outputOf 21 = .ok (.ireturn, 1) := by decide +kernel
set_option maxRecDepth 20000 in
theorem ggX9_channels_X9_pin : GoodIn wsX9_channels wsX9_pin := goodIn_r _ [6, 7, 8, 5, 9, 10, 11, 12, 13, 14, 15, 16, 17, 18, 19, 20, 21, 22, 23, 24, 25, 26, 27, 28, 1, 29, 30, 31, 32, 33, 34, 35, 36, 37, 38, 39, 40, 41, 42, 43, 44, 45, 46, 47, 48, 49, 50, 51, 52, 53, 54, 55, 56, 57, 58, 59, 60, 61, 62, 63] (by decide +kernel) (by decide +kernel)
set_option maxRecDepth 20000 in
theorem gX9_channels_X9_pin : GoodIn wsX9_channels (wsV RX9 214 RX9 yX9_pin wsX9_pin) := goodIn_app (goodIn_of _ (by decide +kernel)) ggX9_channels_X9_pin
theorem dX9_channels_0 : decode cX9_channels 0 = .ok (.aload_n 0, 1) := by decide +kernel
theorem dX9_channels_1 : decode cX9_channels 1 = .ok (.iload_n 1, 1) := by decide +kernel
theorem dX9_channels_2 : decode cX9_channels 2 = .ok (.iload_n 2, 1) := by decide +kernel
theorem dX9_channels_3 : decode cX9_channels 3 = .ok (.invokevirtual 214, 3) := by decide +kernel
theorem dX9_channels_6 : decode cX9_channels 6 = .ok (.ifCond .ge 7, 3) := by decide +kernel
theorem dX9_channels_9 : decode cX9_channels 9 = .ok (.iconst 0, 1) := by decide +kernel
theorem dX9_channels_10 : decode cX9_channels 10 = .ok (.goto 7, 3) := by decide +kernel
theorem dX9_channels_13 : decode cX9_channels 13 = .ok (.aload_n 0, 1) := by decide +kernel
theorem dX9_channels_14 : decode cX9_channels 14 = .ok (.getfield 205, 3) := by decide +kernel
theorem dX9_channels_17 : decode cX9_channels 17 = .ok (.ireturn, 1) := by decide +kernel
theorem dX9_arrives_0 : decode cX9_arrives 0 = .ok (.iload_n 1, 1) := by decide +kernel
theorem dX9_arrives_1 : decode cX9_arrives 1 = .ok (.bipush 16, 2) := by decide +kernel
theorem dX9_arrives_3 : decode cX9_arrives 3 = .ok (.if_icmp .lt 7, 3) := by decide +kernel
theorem dX9_arrives_6 : decode cX9_arrives 6 = .ok (.dconst 0, 1) := by decide +kernel
theorem dX9_arrives_7 : decode cX9_arrives 7 = .ok (.goto 9, 3) := by decide +kernel
theorem dX9_arrives_10 : decode cX9_arrives 10 = .ok (.aload_n 0, 1) := by decide +kernel
theorem dX9_arrives_11 : decode cX9_arrives 11 = .ok (.getfield 77, 3) := by decide +kernel
theorem dX9_arrives_14 : decode cX9_arrives 14 = .ok (.iload_n 1, 1) := by decide +kernel
theorem dX9_arrives_15 : decode cX9_arrives 15 = .ok (.daload, 1) := by decide +kernel
theorem dX9_arrives_16 : decode cX9_arrives 16 = .ok (.dstore_n 2, 1) := by decide +kernel
theorem dX9_arrives_17 : decode cX9_arrives 17 = .ok (.dload_n 2, 1) := by decide +kernel
theorem dX9_arrives_18 : decode cX9_arrives 18 = .ok (.ldc2_w 217, 3) := by decide +kernel
theorem dX9_arrives_21 : decode cX9_arrives 21 = .ok (.aload_n 0, 1) := by decide +kernel
theorem dX9_arrives_22 : decode cX9_arrives 22 = .ok (.getfield 205, 3) := by decide +kernel
theorem dX9_arrives_25 : decode cX9_arrives 25 = .ok (.i2d, 1) := by decide +kernel
theorem dX9_arrives_26 : decode cX9_arrives 26 = .ok (.dmul, 1) := by decide +kernel
theorem dX9_arrives_27 : decode cX9_arrives 27 = .ok (.dadd, 1) := by decide +kernel
theorem dX9_arrives_28 : decode cX9_arrives 28 = .ok (.dreturn, 1) := by decide +kernel
set_option maxRecDepth 20000 in
theorem ggX9_latest_X9_gets : GoodIn wsX9_latest wsX9_gets := goodIn_r _ [6, 7, 8, 9, 5, 10, 11, 12, 13, 14, 15, 16, 17, 18, 19, 20, 21, 22, 23, 24, 25, 26, 27, 28, 29, 36, 37, 38, 39, 40, 41, 42, 43, 44, 45, 46, 47, 48, 49, 50, 51, 52, 53, 54, 55, 56, 57, 58, 59, 60, 61, 62, 63] (by decide +kernel) (by decide +kernel)
set_option maxRecDepth 20000 in
theorem gX9_latest_X9_gets : GoodIn wsX9_latest (wsV RX9 211 RX9 yX9_gets wsX9_gets) := goodIn_app (goodIn_of _ (by decide +kernel)) ggX9_latest_X9_gets
set_option maxRecDepth 20000 in
theorem ggX9_latest_X9_arrives : GoodIn wsX9_latest wsX9_arrives := goodIn_r _ [33, 34, 35, 22, 36, 37, 38, 39, 40, 41, 42, 43, 44, 45, 46, 47, 48, 49, 50, 51, 52, 53, 54, 55, 56, 57, 58, 59, 60, 61, 62, 63] (by decide +kernel) (by decide +kernel)
set_option maxRecDepth 20000 in
theorem gX9_latest_X9_arrives : GoodIn wsX9_latest (wsV RX9 221 RX9 yX9_arrives wsX9_arrives) := goodIn_app (goodIn_of _ (by decide +kernel)) ggX9_latest_X9_arrives
theorem dX9_latest_0 : decode cX9_latest 0 = .ok (.ldc2_w 219, 3) := by decide +kernel
theorem dX9_latest_3 : decode cX9_latest 3 = .ok (.dstore_n 2, 1) := by decide +kernel
theorem dX9_latest_4 : decode cX9_latest 4 = .ok (.iconst 0, 1) := by decide +kernel
theorem dX9_latest_5 : decode cX9_latest 5 = .ok (.istore 4, 2) := by decide +kernel
theorem dX9_latest_7 : decode cX9_latest 7 = .ok (.iload 4, 2) := by decide +kernel
theorem dX9_latest_9 : decode cX9_latest 9 = .ok (.iconst 3, 1) := by decide +kernel
theorem dX9_latest_10 : decode cX9_latest 10 = .ok (.if_icmp .ge 48, 3) := by decide +kernel
theorem dX9_latest_13 : decode cX9_latest 13 = .ok (.aload_n 0, 1) := by decide +kernel
theorem dX9_latest_14 : decode cX9_latest 14 = .ok (.iconst 3, 1) := by decide +kernel
theorem dX9_latest_15 : decode cX9_latest 15 = .ok (.iload_n 1, 1) := by decide +kernel
theorem dX9_latest_16 : decode cX9_latest 16 = .ok (.imul, 1) := by decide +kernel
theorem dX9_latest_17 : decode cX9_latest 17 = .ok (.iload 4, 2) := by decide +kernel
theorem dX9_latest_19 : decode cX9_latest 19 = .ok (.iadd, 1) := by decide +kernel
theorem dX9_latest_20 : decode cX9_latest 20 = .ok (.invokevirtual 211, 3) := by decide +kernel
theorem dX9_latest_23 : decode cX9_latest 23 = .ok (.istore 5, 2) := by decide +kernel
theorem dX9_latest_25 : decode cX9_latest 25 = .ok (.iload 5, 2) := by decide +kernel
theorem dX9_latest_27 : decode cX9_latest 27 = .ok (.ifCond .lt 25, 3) := by decide +kernel
theorem dX9_latest_30 : decode cX9_latest 30 = .ok (.aload_n 0, 1) := by decide +kernel
theorem dX9_latest_31 : decode cX9_latest 31 = .ok (.iload 5, 2) := by decide +kernel
theorem dX9_latest_33 : decode cX9_latest 33 = .ok (.invokevirtual 221, 3) := by decide +kernel
theorem dX9_latest_36 : decode cX9_latest 36 = .ok (.dstore 6, 2) := by decide +kernel
theorem dX9_latest_38 : decode cX9_latest 38 = .ok (.dload 6, 2) := by decide +kernel
theorem dX9_latest_40 : decode cX9_latest 40 = .ok (.dload_n 2, 1) := by decide +kernel
theorem dX9_latest_41 : decode cX9_latest 41 = .ok (.dcmp .l, 1) := by decide +kernel
theorem dX9_latest_42 : decode cX9_latest 42 = .ok (.ifCond .le 8, 3) := by decide +kernel
theorem dX9_latest_45 : decode cX9_latest 45 = .ok (.dload 6, 2) := by decide +kernel
theorem dX9_latest_47 : decode cX9_latest 47 = .ok (.goto 4, 3) := by decide +kernel
theorem dX9_latest_50 : decode cX9_latest 50 = .ok (.dload_n 2, 1) := by decide +kernel
theorem dX9_latest_51 : decode cX9_latest 51 = .ok (.dstore_n 2, 1) := by decide +kernel
theorem dX9_latest_52 : decode cX9_latest 52 = .ok (.iinc 4 1, 3) := by decide +kernel
theorem dX9_latest_55 : decode cX9_latest 55 = .ok (.goto (-48), 3) := by decide +kernel
theorem dX9_latest_58 : decode cX9_latest 58 = .ok (.dload_n 2, 1) := by decide +kernel
theorem dX9_latest_59 : decode cX9_latest 59 = .ok (.dreturn, 1) := by decide +kernel
set_option maxRecDepth 20000 in
theorem ggX9_settle_X9_latest : GoodIn wsX9_settle wsX9_latest := goodIn_r _ [9, 10, 11, 12, 13, 8, 14, 15, 16, 17, 18, 19, 20, 21, 22, 23, 24, 25, 26, 27, 28, 29, 30, 31, 32, 33, 34, 35, 36, 37, 38, 39, 40, 41, 4, 42, 43, 44, 45, 46, 47, 48, 49, 50, 51, 52, 53, 54, 55, 56, 57, 58, 59, 60, 61, 62, 63, 64, 65, 66, 67, 68, 69, 70] (by decide +kernel) (by decide +kernel)
set_option maxRecDepth 20000 in
theorem gX9_settle_X9_latest : GoodIn wsX9_settle (wsV RX9 225 RX9 yX9_latest wsX9_latest) := goodIn_app (goodIn_of _ (by decide +kernel)) ggX9_settle_X9_latest
theorem dX9_settle_0 : decode cX9_settle 0 = .ok (.iconst 0, 1) := by decide +kernel
theorem dX9_settle_1 : decode cX9_settle 1 = .ok (.istore_n 1, 1) := by decide +kernel
theorem dX9_settle_2 : decode cX9_settle 2 = .ok (.iconst 0, 1) := by decide +kernel
theorem dX9_settle_3 : decode cX9_settle 3 = .ok (.istore_n 2, 1) := by decide +kernel
theorem dX9_settle_4 : decode cX9_settle 4 = .ok (.iload_n 2, 1) := by decide +kernel
theorem dX9_settle_5 : decode cX9_settle 5 = .ok (.bipush 16, 2) := by decide +kernel
theorem dX9_settle_7 : decode cX9_settle 7 = .ok (.if_icmp .ge 77, 3) := by decide +kernel
theorem dX9_settle_10 : decode cX9_settle 10 = .ok (.aload_n 0, 1) := by decide +kernel
theorem dX9_settle_11 : decode cX9_settle 11 = .ok (.iload_n 2, 1) := by decide +kernel
theorem dX9_settle_12 : decode cX9_settle 12 = .ok (.invokevirtual 225, 3) := by decide +kernel
theorem dX9_settle_15 : decode cX9_settle 15 = .ok (.dstore_n 3, 1) := by decide +kernel
theorem dX9_settle_16 : decode cX9_settle 16 = .ok (.aload_n 0, 1) := by decide +kernel
theorem dX9_settle_17 : decode cX9_settle 17 = .ok (.getfield 13, 3) := by decide +kernel
theorem dX9_settle_20 : decode cX9_settle 20 = .ok (.iload_n 2, 1) := by decide +kernel
theorem dX9_settle_21 : decode cX9_settle 21 = .ok (.baload, 1) := by decide +kernel
theorem dX9_settle_22 : decode cX9_settle 22 = .ok (.ifCond .eq 9, 3) := by decide +kernel
theorem dX9_settle_25 : decode cX9_settle 25 = .ok (.ldc2_w 228, 3) := by decide +kernel
theorem dX9_settle_28 : decode cX9_settle 28 = .ok (.goto 18, 3) := by decide +kernel
theorem dX9_settle_31 : decode cX9_settle 31 = .ok (.ldc2_w 230, 3) := by decide +kernel
theorem dX9_settle_34 : decode cX9_settle 34 = .ok (.dload_n 3, 1) := by decide +kernel
theorem dX9_settle_35 : decode cX9_settle 35 = .ok (.dconst 0, 1) := by decide +kernel
theorem dX9_settle_36 : decode cX9_settle 36 = .ok (.dcmp .g, 1) := by decide +kernel
theorem dX9_settle_37 : decode cX9_settle 37 = .ok (.ifCond .ge 7, 3) := by decide +kernel
theorem dX9_settle_40 : decode cX9_settle 40 = .ok (.dconst 0, 1) := by decide +kernel
theorem dX9_settle_41 : decode cX9_settle 41 = .ok (.goto 4, 3) := by decide +kernel
theorem dX9_settle_44 : decode cX9_settle 44 = .ok (.dload_n 3, 1) := by decide +kernel
theorem dX9_settle_45 : decode cX9_settle 45 = .ok (.dadd, 1) := by decide +kernel
theorem dX9_settle_46 : decode cX9_settle 46 = .ok (.dstore 5, 2) := by decide +kernel
theorem dX9_settle_48 : decode cX9_settle 48 = .ok (.iload_n 1, 1) := by decide +kernel
theorem dX9_settle_49 : decode cX9_settle 49 = .ok (.ifCond .ne 15, 3) := by decide +kernel
theorem dX9_settle_52 : decode cX9_settle 52 = .ok (.dload 5, 2) := by decide +kernel
theorem dX9_settle_54 : decode cX9_settle 54 = .ok (.aload_n 0, 1) := by decide +kernel
theorem dX9_settle_55 : decode cX9_settle 55 = .ok (.getfield 77, 3) := by decide +kernel
theorem dX9_settle_58 : decode cX9_settle 58 = .ok (.iload_n 2, 1) := by decide +kernel
theorem dX9_settle_59 : decode cX9_settle 59 = .ok (.daload, 1) := by decide +kernel
theorem dX9_settle_60 : decode cX9_settle 60 = .ok (.dcmp .l, 1) := by decide +kernel
theorem dX9_settle_61 : decode cX9_settle 61 = .ok (.ifCond .eq 7, 3) := by decide +kernel
theorem dX9_settle_64 : decode cX9_settle 64 = .ok (.iconst 1, 1) := by decide +kernel
theorem dX9_settle_65 : decode cX9_settle 65 = .ok (.goto 4, 3) := by decide +kernel
theorem dX9_settle_68 : decode cX9_settle 68 = .ok (.iconst 0, 1) := by decide +kernel
theorem dX9_settle_69 : decode cX9_settle 69 = .ok (.istore_n 1, 1) := by decide +kernel
theorem dX9_settle_70 : decode cX9_settle 70 = .ok (.aload_n 0, 1) := by decide +kernel
theorem dX9_settle_71 : decode cX9_settle 71 = .ok (.getfield 77, 3) := by decide +kernel
theorem dX9_settle_74 : decode cX9_settle 74 = .ok (.iload_n 2, 1) := by decide +kernel
theorem dX9_settle_75 : decode cX9_settle 75 = .ok (.dload 5, 2) := by decide +kernel
theorem dX9_settle_77 : decode cX9_settle 77 = .ok (.dastore, 1) := by decide +kernel
theorem dX9_settle_78 : decode cX9_settle 78 = .ok (.iinc 2 1, 3) := by decide +kernel
theorem dX9_settle_81 : decode cX9_settle 81 = .ok (.goto (-77), 3) := by decide +kernel
theorem dX9_settle_84 : decode cX9_settle 84 = .ok (.iload_n 1, 1) := by decide +kernel
theorem dX9_settle_85 : decode cX9_settle 85 = .ok (.ireturn, 1) := by decide +kernel
set_option maxRecDepth 20000 in
theorem ggX9_longest_X9_settle : GoodIn wsX9_longest wsX9_settle := goodIn_r _ [10, 3, 11, 4, 1, 12, 13, 14, 9, 15, 2, 16, 17, 18, 19, 20, 21, 22, 23, 24, 25, 26, 27, 28, 29, 30, 31, 32, 33, 34, 35, 36, 37, 38, 39, 40, 41, 42, 43, 44, 45, 46, 47, 58, 59, 60, 61, 62, 63, 64, 65, 66, 67, 68, 69, 70, 71, 72, 73, 74, 75, 76, 77, 78, 79, 80, 81, 82, 83, 84, 85] (by decide +kernel) (by decide +kernel)
set_option maxRecDepth 20000 in
theorem gX9_longest_X9_settle : GoodIn wsX9_longest (wsV RX9 232 RX9 yX9_settle wsX9_settle) := goodIn_app (goodIn_of _ (by decide +kernel)) ggX9_longest_X9_settle
set_option maxRecDepth 20000 in
theorem ggX9_longest_X9_latest : GoodIn wsX9_longest wsX9_latest := goodIn_r _ [15, 2, 16, 17, 18, 9, 19, 20, 21, 22, 23, 24, 25, 26, 27, 28, 29, 30, 31, 32, 33, 34, 35, 36, 37, 38, 39, 40, 41, 42, 43, 44, 45, 46, 1, 47, 58, 59, 60, 61, 62, 63, 64, 65, 66, 67, 68, 69, 70, 71, 72, 73, 74, 75, 76, 77, 78, 79, 80, 81, 82, 83, 84, 85] (by decide +kernel) (by decide +kernel)
set_option maxRecDepth 20000 in
theorem gX9_longest_X9_latest : GoodIn wsX9_longest (wsV RX9 225 RX9 yX9_latest wsX9_latest) := goodIn_app (goodIn_of _ (by decide +kernel)) ggX9_longest_X9_latest
set_option maxRecDepth 20000 in
theorem ggX9_longest_X9_outputOf : GoodIn wsX9_longest wsX9_outputOf := goodIn_r _ [51, 52, 53, 9, 54, 55, 56, 57, 27, 28, 29, 30, 31, 32, 33, 34, 35, 36, 37, 38, 39, 40, 41, 42, 24, 25, 26, 58, 59, 60, 61, 62, 63, 64, 65, 66, 67, 68, 69, 70, 71, 72, 73, 74, 75, 76, 77, 78, 79, 80, 81, 82, 83, 84, 85] (by decide +kernel) (by decide +kernel)
set_option maxRecDepth 20000 in
theorem gX9_longest_X9_outputOf : GoodIn wsX9_longest (wsV RX9 237 RX9 yX9_outputOf wsX9_outputOf) := goodIn_app (goodIn_of _ (by decide +kernel)) ggX9_longest_X9_outputOf
