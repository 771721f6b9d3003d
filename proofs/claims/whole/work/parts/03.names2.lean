theorem dX4_init_5 : decode cX4_init 5 = .ok (.aload_n 1, 1) := by decide +kernel
theorem dX4_init_6 : decode cX4_init 6 = .ok (.putfield 9, 3) := by decide +kernel
theorem dX4_init_9 : decode cX4_init 9 = .ok (.aload_n 0, 1) := by decide +kernel
theorem dX4_init_10 : decode cX4_init 10 = .ok (.aload_n 2, 1) := by decide +kernel
theorem dX4_init_11 : decode cX4_init 11 = .ok (.putfield 15, 3) := by decide +kernel
theorem dX4_init_14 : decode cX4_init 14 = .ok (.aload_n 0, 1) := by decide +kernel
theorem dX4_init_15 : decode cX4_init 15 = .ok (.aload_n 3, 1) := by decide +kernel
theorem dX4_init_16 : decode cX4_init 16 = .ok (.putfield 19, 3) := by decide +kernel
theorem dX4_init_19 : decode cX4_init 19 = .ok (.aload_n 0, 1) := by decide +kernel
theorem dX4_init_20 : decode cX4_init 20 = .ok (.new 23, 3) := by decide +kernel
theorem dX4_init_23 : decode cX4_init 23 = .ok (.dup, 1) := by decide +kernel
theorem dX4_init_24 : decode cX4_init 24 = .ok (.invokespecial 25, 3) := by decide +kernel
theorem dX4_init_27 : decode cX4_init 27 = .ok (.putfield 26, 3) := by decide +kernel
theorem dX4_init_30 : decode cX4_init 30 = .ok (.aload_n 0, 1) := by decide +kernel
theorem dX4_init_31 : decode cX4_init 31 = .ok (.sipush 148, 3) := by decide +kernel
theorem dX4_init_34 : decode cX4_init 34 = .ok (.newarray .int, 2) := by decide +kernel
theorem dX4_init_36 : decode cX4_init 36 = .ok (.putfield 30, 3) := by decide +kernel
theorem dX4_init_39 : decode cX4_init 39 = .ok (.aload_n 0, 1) := by decide +kernel
theorem dX4_init_40 : decode cX4_init 40 = .ok (.sipush 148, 3) := by decide +kernel
theorem dX4_init_43 : decode cX4_init 43 = .ok (.newarray .int, 2) := by decide +kernel
theorem dX4_init_45 : decode cX4_init 45 = .ok (.putfield 34, 3) := by decide +kernel
theorem dX4_init_48 : decode cX4_init 48 = .ok (.aload_n 0, 1) := by decide +kernel
theorem dX4_init_49 : decode cX4_init 49 = .ok (.sipush 148, 3) := by decide +kernel
theorem dX4_init_52 : decode cX4_init 52 = .ok (.newarray .int, 2) := by decide +kernel
theorem dX4_init_54 : decode cX4_init 54 = .ok (.putfield 37, 3) := by decide +kernel
theorem dX4_init_57 : decode cX4_init 57 = .ok (.aload_n 0, 1) := by decide +kernel
theorem dX4_init_58 : decode cX4_init 58 = .ok (.sipush 148, 3) := by decide +kernel
theorem dX4_init_61 : decode cX4_init 61 = .ok (.newarray .int, 2) := by decide +kernel
theorem dX4_init_63 : decode cX4_init 63 = .ok (.putfield 40, 3) := by decide +kernel
theorem dX4_init_66 : decode cX4_init 66 = .ok (.aload_n 0, 1) := by decide +kernel
theorem dX4_init_67 : decode cX4_init 67 = .ok (.sipush 148, 3) := by decide +kernel
theorem dX4_init_70 : decode cX4_init 70 = .ok (.newarray .boolean, 2) := by decide +kernel
theorem dX4_init_72 : decode cX4_init 72 = .ok (.putfield 43, 3) := by decide +kernel
theorem dX4_init_75 : decode cX4_init 75 = .ok (.aload_n 0, 1) := by decide +kernel
theorem dX4_init_76 : decode cX4_init 76 = .ok (.sipush 144, 3) := by decide +kernel
theorem dX4_init_79 : decode cX4_init 79 = .ok (.newarray .int, 2) := by decide +kernel
theorem dX4_init_81 : decode cX4_init 81 = .ok (.putfield 47, 3) := by decide +kernel
theorem dX4_init_84 : decode cX4_init 84 = .ok (.aload_n 0, 1) := by decide +kernel
theorem dX4_init_85 : decode cX4_init 85 = .ok (.bipush 48, 2) := by decide +kernel
theorem dX4_init_87 : decode cX4_init 87 = .ok (.newarray .int, 2) := by decide +kernel
theorem dX4_init_89 : decode cX4_init 89 = .ok (.putfield 50, 3) := by decide +kernel
theorem dX4_init_92 : decode cX4_init 92 = .ok (.return_, 1) := by decide +kernel
set_option maxRecDepth 20000 in
theorem ggX4_route_J7_fill_53178 : GoodIn wsX4_route wsJ7_fill_53178 := goodIn_r _ [5] (by decide +kernel) (by decide +kernel)
set_option maxRecDepth 20000 in
theorem gX4_route_J7_fill_53178 : GoodIn wsX4_route (va_wsS RX4 53 yJ7_fill_53178 wsJ7_fill_53178) := goodIn_app (goodIn_of _ (by decide +kernel)) ggX4_route_J7_fill_53178
set_option maxRecDepth 20000 in
theorem ggX4_route_X4_routeAll : GoodIn wsX4_route wsX4_routeAll := goodIn_r _ [10, 11, 12, 13, 14, 2, 3, 4, 5, 15, 16, 17, 18, 19, 20, 21, 22, 23, 9, 24, 25, 26, 27, 28, 29, 30, 31, 32, 33, 34, 35, 36, 37, 38, 39, 40, 41, 42, 43, 44, 45, 46, 47, 1, 48, 49, 50, 51, 52, 53, 54, 55, 56, 57, 58, 59, 60, 61, 62, 63, 64, 65, 66, 67, 68, 69, 70, 71, 72, 73, 74, 75, 76, 77, 78, 79, 80, 81, 82, 83, 84, 85, 86, 87, 88, 89, 90, 91, 92, 93, 94, 95, 96, 97, 98, 99, 100, 101, 102, 103, 104, 105, 106, 107, 108, 109, 110, 111, 112, 113, 114, 115, 116, 117, 118, 119, 120, 121, 122, 123, 124, 125, 126, 127, 128, 129, 130, 135, 136, 137, 138, 139, 140, 141, 142, 143, 144, 145, 146, 147, 148, 149, 150, 151, 152, 153, 154, 155, 156, 157, 158, 159] (by decide +kernel) (by decide +kernel)
set_option maxRecDepth 20000 in
theorem gX4_route_X4_routeAll : GoodIn wsX4_route (wsV RX4 59 RX4 yX4_routeAll wsX4_routeAll) := goodIn_app (goodIn_of _ (by decide +kernel)) ggX4_route_X4_routeAll
set_option maxRecDepth 20000 in
theorem ggX4_route_X4_growHistory : GoodIn wsX4_route wsX4_growHistory := goodIn_r _ [134, 11, 1, 135, 136, 137, 138, 139, 140, 141, 142, 143, 144, 145] (by decide +kernel) (by decide +kernel)
set_option maxRecDepth 20000 in
theorem gX4_route_X4_growHistory : GoodIn wsX4_route (wsV RX4 63 RX4 yX4_growHistory wsX4_growHistory) := goodIn_app (goodIn_of _ (by decide +kernel)) ggX4_route_X4_growHistory
theorem dX4_route_0 : decode cX4_route 0 = .ok (.aload_n 0, 1) := by decide +kernel
theorem dX4_route_1 : decode cX4_route 1 = .ok (.getfield 34, 3) := by decide +kernel
theorem dX4_route_4 : decode cX4_route 4 = .ok (.iconst 0, 1) := by decide +kernel
theorem dX4_route_5 : decode cX4_route 5 = .ok (.invokestatic 53, 3) := by decide +kernel
theorem dX4_route_8 : decode cX4_route 8 = .ok (.iconst 1, 1) := by decide +kernel
theorem dX4_route_9 : decode cX4_route 9 = .ok (.istore_n 1, 1) := by decide +kernel
theorem dX4_route_10 : decode cX4_route 10 = .ok (.iload_n 1, 1) := by decide +kernel
theorem dX4_route_11 : decode cX4_route 11 = .ok (.bipush 12, 2) := by decide +kernel
theorem dX4_route_13 : decode cX4_route 13 = .ok (.if_icmp .gt 28, 3) := by decide +kernel
theorem dX4_route_16 : decode cX4_route 16 = .ok (.aload_n 0, 1) := by decide +kernel
theorem dX4_route_17 : decode cX4_route 17 = .ok (.invokevirtual 59, 3) := by decide +kernel
theorem dX4_route_20 : decode cX4_route 20 = .ok (.ifCond .ne 6, 3) := by decide +kernel
theorem dX4_route_23 : decode cX4_route 23 = .ok (.bipush (-3), 2) := by decide +kernel
theorem dX4_route_25 : decode cX4_route 25 = .ok (.ireturn, 1) := by decide +kernel
theorem dX4_route_26 : decode cX4_route 26 = .ok (.aload_n 0, 1) := by decide +kernel
theorem dX4_route_27 : decode cX4_route 27 = .ok (.invokevirtual 63, 3) := by decide +kernel
theorem dX4_route_30 : decode cX4_route 30 = .ok (.ifCond .ne 5, 3) := by decide +kernel
theorem dX4_route_33 : decode cX4_route 33 = .ok (.iload_n 1, 1) := by decide +kernel
theorem dX4_route_34 : decode cX4_route 34 = .ok (.ireturn, 1) := by decide +kernel
theorem dX4_route_35 : decode cX4_route 35 = .ok (.iinc 1 1, 3) := by decide +kernel
theorem dX4_route_38 : decode cX4_route 38 = .ok (.goto (-28), 3) := by decide +kernel
theorem dX4_route_41 : decode cX4_route 41 = .ok (.bipush (-3), 2) := by decide +kernel
theorem dX4_route_43 : decode cX4_route 43 = .ok (.ireturn, 1) := by decide +kernel
set_option maxRecDepth 20000 in
theorem ggX4_settingsOf_X1_outletOf : GoodIn wsX4_settingsOf wsX1_outletOf := goodIn_r _ [6] (by decide +kernel) (by decide +kernel)
set_option maxRecDepth 20000 in
theorem gX4_settingsOf_X1_outletOf : GoodIn wsX4_settingsOf (va_wsS RX4 66 yX1_outletOf wsX1_outletOf) := goodIn_app (goodIn_of _ (by decide +kernel)) ggX4_settingsOf_X1_outletOf
theorem dX4_settingsOf_0 : decode cX4_settingsOf 0 = .ok (.iload_n 1, 1) := by decide +kernel
theorem dX4_settingsOf_1 : decode cX4_settingsOf 1 = .ok (.ifCond .lt 9, 3) := by decide +kernel
theorem dX4_settingsOf_4 : decode cX4_settingsOf 4 = .ok (.iload_n 1, 1) := by decide +kernel
theorem dX4_settingsOf_5 : decode cX4_settingsOf 5 = .ok (.bipush 16, 2) := by decide +kernel
theorem dX4_settingsOf_7 : decode cX4_settingsOf 7 = .ok (.if_icmp .lt 5, 3) := by decide +kernel
theorem dX4_settingsOf_10 : decode cX4_settingsOf 10 = .ok (.lconst 0, 1) := by decide +kernel
theorem dX4_settingsOf_11 : decode cX4_settingsOf 11 = .ok (.lreturn, 1) := by decide +kernel
theorem dX4_settingsOf_12 : decode cX4_settingsOf 12 = .ok (.lconst 0, 1) := by decide +kernel
theorem dX4_settingsOf_13 : decode cX4_settingsOf 13 = .ok (.lstore_n 2, 1) := by decide +kernel
theorem dX4_settingsOf_14 : decode cX4_settingsOf 14 = .ok (.iconst 0, 1) := by decide +kernel
theorem dX4_settingsOf_15 : decode cX4_settingsOf 15 = .ok (.istore 4, 2) := by decide +kernel
theorem dX4_settingsOf_17 : decode cX4_settingsOf 17 = .ok (.iload 4, 2) := by decide +kernel
theorem dX4_settingsOf_19 : decode cX4_settingsOf 19 = .ok (.iconst 3, 1) := by decide +kernel
theorem dX4_settingsOf_20 : decode cX4_settingsOf 20 = .ok (.if_icmp .ge 36, 3) := by decide +kernel
theorem dX4_settingsOf_23 : decode cX4_settingsOf 23 = .ok (.aload_n 0, 1) := by decide +kernel
theorem dX4_settingsOf_24 : decode cX4_settingsOf 24 = .ok (.getfield 50, 3) := by decide +kernel
theorem dX4_settingsOf_27 : decode cX4_settingsOf 27 = .ok (.iload_n 1, 1) := by decide +kernel
theorem dX4_settingsOf_28 : decode cX4_settingsOf 28 = .ok (.iconst 3, 1) := by decide +kernel
theorem dX4_settingsOf_29 : decode cX4_settingsOf 29 = .ok (.imul, 1) := by decide +kernel
theorem dX4_settingsOf_30 : decode cX4_settingsOf 30 = .ok (.iload 4, 2) := by decide +kernel
theorem dX4_settingsOf_32 : decode cX4_settingsOf 32 = .ok (.iadd, 1) := by decide +kernel
theorem dX4_settingsOf_33 : decode cX4_settingsOf 33 = .ok (.iaload, 1) := by decide +kernel
theorem dX4_settingsOf_34 : decode cX4_settingsOf 34 = .ok (.i2l, 1) := by decide +kernel
theorem dX4_settingsOf_35 : decode cX4_settingsOf 35 = .ok (.lstore 5, 2) := by decide +kernel
theorem dX4_settingsOf_37 : decode cX4_settingsOf 37 = .ok (.lload_n 2, 1) := by decide +kernel
theorem dX4_settingsOf_38 : decode cX4_settingsOf 38 = .ok (.lload 5, 2) := by decide +kernel
theorem dX4_settingsOf_40 : decode cX4_settingsOf 40 = .ok (.bipush 10, 2) := by decide +kernel
theorem dX4_settingsOf_42 : decode cX4_settingsOf 42 = .ok (.iload 4, 2) := by decide +kernel
theorem dX4_settingsOf_44 : decode cX4_settingsOf 44 = .ok (.iconst 4, 1) := by decide +kernel
theorem dX4_settingsOf_45 : decode cX4_settingsOf 45 = .ok (.imul, 1) := by decide +kernel
theorem dX4_settingsOf_46 : decode cX4_settingsOf 46 = .ok (.iadd, 1) := by decide +kernel
theorem dX4_settingsOf_47 : decode cX4_settingsOf 47 = .ok (.lshl, 1) := by decide +kernel
theorem dX4_settingsOf_48 : decode cX4_settingsOf 48 = .ok (.lor, 1) := by decide +kernel
theorem dX4_settingsOf_49 : decode cX4_settingsOf 49 = .ok (.lstore_n 2, 1) := by decide +kernel
theorem dX4_settingsOf_50 : decode cX4_settingsOf 50 = .ok (.iinc 4 1, 3) := by decide +kernel
theorem dX4_settingsOf_53 : decode cX4_settingsOf 53 = .ok (.goto (-36), 3) := by decide +kernel
theorem dX4_settingsOf_56 : decode cX4_settingsOf 56 = .ok (.iconst 0, 1) := by decide +kernel
theorem dX4_settingsOf_57 : decode cX4_settingsOf 57 = .ok (.istore 4, 2) := by decide +kernel
theorem dX4_settingsOf_59 : decode cX4_settingsOf 59 = .ok (.iload 4, 2) := by decide +kernel
theorem dX4_settingsOf_61 : decode cX4_settingsOf 61 = .ok (.bipush 8, 2) := by decide +kernel
theorem dX4_settingsOf_63 : decode cX4_settingsOf 63 = .ok (.if_icmp .ge 39, 3) := by decide +kernel
theorem dX4_settingsOf_66 : decode cX4_settingsOf 66 = .ok (.aload_n 0, 1) := by decide +kernel
theorem dX4_settingsOf_67 : decode cX4_settingsOf 67 = .ok (.getfield 47, 3) := by decide +kernel
theorem dX4_settingsOf_70 : decode cX4_settingsOf 70 = .ok (.iload_n 1, 1) := by decide +kernel
theorem dX4_settingsOf_71 : decode cX4_settingsOf 71 = .ok (.invokestatic 66, 3) := by decide +kernel
theorem dX4_settingsOf_74 : decode cX4_settingsOf 74 = .ok (.iconst 1, 1) := by decide +kernel
theorem dX4_settingsOf_75 : decode cX4_settingsOf 75 = .ok (.iadd, 1) := by decide +kernel
theorem dX4_settingsOf_76 : decode cX4_settingsOf 76 = .ok (.iload 4, 2) := by decide +kernel
theorem dX4_settingsOf_78 : decode cX4_settingsOf 78 = .ok (.iadd, 1) := by decide +kernel
theorem dX4_settingsOf_79 : decode cX4_settingsOf 79 = .ok (.iaload, 1) := by decide +kernel
theorem dX4_settingsOf_80 : decode cX4_settingsOf 80 = .ok (.i2l, 1) := by decide +kernel
theorem dX4_settingsOf_81 : decode cX4_settingsOf 81 = .ok (.lstore 5, 2) := by decide +kernel
theorem dX4_settingsOf_83 : decode cX4_settingsOf 83 = .ok (.lload_n 2, 1) := by decide +kernel
theorem dX4_settingsOf_84 : decode cX4_settingsOf 84 = .ok (.lload 5, 2) := by decide +kernel
theorem dX4_settingsOf_86 : decode cX4_settingsOf 86 = .ok (.bipush 22, 2) := by decide +kernel
theorem dX4_settingsOf_88 : decode cX4_settingsOf 88 = .ok (.iload 4, 2) := by decide +kernel
theorem dX4_settingsOf_90 : decode cX4_settingsOf 90 = .ok (.iconst 3, 1) := by decide +kernel
theorem dX4_settingsOf_91 : decode cX4_settingsOf 91 = .ok (.imul, 1) := by decide +kernel
theorem dX4_settingsOf_92 : decode cX4_settingsOf 92 = .ok (.iadd, 1) := by decide +kernel
theorem dX4_settingsOf_93 : decode cX4_settingsOf 93 = .ok (.lshl, 1) := by decide +kernel
theorem dX4_settingsOf_94 : decode cX4_settingsOf 94 = .ok (.lor, 1) := by decide +kernel
theorem dX4_settingsOf_95 : decode cX4_settingsOf 95 = .ok (.lstore_n 2, 1) := by decide +kernel
theorem dX4_settingsOf_96 : decode cX4_settingsOf 96 = .ok (.iinc 4 1, 3) := by decide +kernel
theorem dX4_settingsOf_99 : decode cX4_settingsOf 99 = .ok (.goto (-40), 3) := by decide +kernel
theorem dX4_settingsOf_102 : decode cX4_settingsOf 102 = .ok (.lload_n 2, 1) := by decide +kernel
theorem dX4_settingsOf_103 : decode cX4_settingsOf 103 = .ok (.lreturn, 1) := by decide +kernel
set_option maxRecDepth 20000 in
theorem ggX4_routeAll_J7_fill_53178 : GoodIn wsX4_routeAll wsJ7_fill_53178 := goodIn_r _ [8] (by decide +kernel) (by decide +kernel)
set_option maxRecDepth 20000 in
theorem gX4_routeAll_J7_fill_53178 : GoodIn wsX4_routeAll (va_wsS RX4 53 yJ7_fill_53178 wsJ7_fill_53178) := goodIn_app (goodIn_of _ (by decide +kernel)) ggX4_routeAll_J7_fill_53178
set_option maxRecDepth 20000 in
theorem ggX4_routeAll_X2_sinksOf : GoodIn wsX4_routeAll wsX2_sinksOf := goodIn_r _ [13, 14, 138, 139] (by decide +kernel) (by decide +kernel)
set_option maxRecDepth 20000 in
theorem gX4_routeAll_X2_sinksOf : GoodIn wsX4_routeAll (wsV RX4 72 RX2 yX2_sinksOf wsX2_sinksOf) := goodIn_app (goodIn_of _ (by decide +kernel)) ggX4_routeAll_X2_sinksOf
set_option maxRecDepth 20000 in
theorem ggX4_routeAll_X4_routeNet : GoodIn wsX4_routeAll wsX4_routeNet := goodIn_r _ [19, 4, 20, 21, 1, 22, 23, 24, 25, 18, 26, 27, 28, 29, 30, 31, 32, 33, 34, 35, 36, 37, 38, 39, 40, 41, 42, 43, 9, 10, 11, 12, 13, 14, 44, 45, 46, 47, 48, 49, 50, 51, 52, 53, 54, 55, 56, 57, 58, 59, 60, 61, 62, 63, 64, 65, 66, 67, 68, 69, 70, 71, 72, 73, 74, 75, 76, 77, 78, 79, 80, 81, 82, 83, 84, 85, 86, 87, 88, 89, 90, 91, 92, 93, 94, 95, 96, 97, 98, 3, 99, 100, 101, 102, 103, 104, 105, 106, 107, 108, 109, 110, 111, 112, 113, 114, 115, 116, 117, 2, 118, 119, 120, 121, 122, 123, 124, 125, 126, 127, 128, 129, 130, 131, 132, 133, 134, 135, 136, 137, 140, 141, 142, 143, 138, 139, 144, 145, 146, 147, 148, 149, 150, 151] (by decide +kernel) (by decide +kernel)
set_option maxRecDepth 20000 in
theorem gX4_routeAll_X4_routeNet : GoodIn wsX4_routeAll (wsV RX4 77 RX4 yX4_routeNet wsX4_routeNet) := goodIn_app (goodIn_of _ (by decide +kernel)) ggX4_routeAll_X4_routeNet
theorem dX4_routeAll_0 : decode cX4_routeAll 0 = .ok (.aload_n 0, 1) := by decide +kernel
theorem dX4_routeAll_1 : decode cX4_routeAll 1 = .ok (.getfield 30, 3) := by decide +kernel
theorem dX4_routeAll_4 : decode cX4_routeAll 4 = .ok (.iconst 0, 1) := by decide +kernel
theorem dX4_routeAll_5 : decode cX4_routeAll 5 = .ok (.invokestatic 53, 3) := by decide +kernel
theorem dX4_routeAll_8 : decode cX4_routeAll 8 = .ok (.aload_n 0, 1) := by decide +kernel
theorem dX4_routeAll_9 : decode cX4_routeAll 9 = .ok (.getfield 47, 3) := by decide +kernel
theorem dX4_routeAll_12 : decode cX4_routeAll 12 = .ok (.iconst 0, 1) := by decide +kernel
theorem dX4_routeAll_13 : decode cX4_routeAll 13 = .ok (.invokestatic 53, 3) := by decide +kernel
theorem dX4_routeAll_16 : decode cX4_routeAll 16 = .ok (.aload_n 0, 1) := by decide +kernel
theorem dX4_routeAll_17 : decode cX4_routeAll 17 = .ok (.getfield 50, 3) := by decide +kernel
theorem dX4_routeAll_20 : decode cX4_routeAll 20 = .ok (.iconst 0, 1) := by decide +kernel
theorem dX4_routeAll_21 : decode cX4_routeAll 21 = .ok (.invokestatic 53, 3) := by decide +kernel
theorem dX4_routeAll_24 : decode cX4_routeAll 24 = .ok (.iconst 0, 1) := by decide +kernel
theorem dX4_routeAll_25 : decode cX4_routeAll 25 = .ok (.istore_n 1, 1) := by decide +kernel
theorem dX4_routeAll_26 : decode cX4_routeAll 26 = .ok (.iload_n 1, 1) := by decide +kernel
theorem dX4_routeAll_27 : decode cX4_routeAll 27 = .ok (.bipush 14, 2) := by decide +kernel
theorem dX4_routeAll_29 : decode cX4_routeAll 29 = .ok (.if_icmp .ge 30, 3) := by decide +kernel
theorem dX4_routeAll_32 : decode cX4_routeAll 32 = .ok (.aload_n 0, 1) := by decide +kernel
theorem dX4_routeAll_33 : decode cX4_routeAll 33 = .ok (.getfield 15, 3) := by decide +kernel
theorem dX4_routeAll_36 : decode cX4_routeAll 36 = .ok (.iload_n 1, 1) := by decide +kernel
theorem dX4_routeAll_37 : decode cX4_routeAll 37 = .ok (.invokevirtual 72, 3) := by decide +kernel
theorem dX4_routeAll_40 : decode cX4_routeAll 40 = .ok (.ifCond .le 13, 3) := by decide +kernel
theorem dX4_routeAll_43 : decode cX4_routeAll 43 = .ok (.aload_n 0, 1) := by decide +kernel
theorem dX4_routeAll_44 : decode cX4_routeAll 44 = .ok (.iload_n 1, 1) := by decide +kernel
theorem dX4_routeAll_45 : decode cX4_routeAll 45 = .ok (.invokevirtual 77, 3) := by decide +kernel
theorem dX4_routeAll_48 : decode cX4_routeAll 48 = .ok (.ifCond .ne 5, 3) := by decide +kernel
theorem dX4_routeAll_51 : decode cX4_routeAll 51 = .ok (.iconst 0, 1) := by decide +kernel
theorem dX4_routeAll_52 : decode cX4_routeAll 52 = .ok (.ireturn, 1) := by decide +kernel
theorem dX4_routeAll_53 : decode cX4_routeAll 53 = .ok (.iinc 1 1, 3) := by decide +kernel
theorem dX4_routeAll_56 : decode cX4_routeAll 56 = .ok (.goto (-30), 3) := by decide +kernel
theorem dX4_routeAll_59 : decode cX4_routeAll 59 = .ok (.iconst 1, 1) := by decide +kernel
theorem dX4_routeAll_60 : decode cX4_routeAll 60 = .ok (.ireturn, 1) := by decide +kernel
theorem dX4_growHistory_0 : decode cX4_growHistory 0 = .ok (.iconst 0, 1) := by decide +kernel
theorem dX4_growHistory_1 : decode cX4_growHistory 1 = .ok (.istore_n 1, 1) := by decide +kernel
theorem dX4_growHistory_2 : decode cX4_growHistory 2 = .ok (.iconst 0, 1) := by decide +kernel
theorem dX4_growHistory_3 : decode cX4_growHistory 3 = .ok (.istore_n 2, 1) := by decide +kernel
theorem dX4_growHistory_4 : decode cX4_growHistory 4 = .ok (.iload_n 2, 1) := by decide +kernel
theorem dX4_growHistory_5 : decode cX4_growHistory 5 = .ok (.sipush 148, 3) := by decide +kernel
theorem dX4_growHistory_8 : decode cX4_growHistory 8 = .ok (.if_icmp .ge 38, 3) := by decide +kernel
theorem dX4_growHistory_11 : decode cX4_growHistory 11 = .ok (.aload_n 0, 1) := by decide +kernel
theorem dX4_growHistory_12 : decode cX4_growHistory 12 = .ok (.getfield 30, 3) := by decide +kernel
theorem dX4_growHistory_15 : decode cX4_growHistory 15 = .ok (.iload_n 2, 1) := by decide +kernel
theorem dX4_growHistory_16 : decode cX4_growHistory 16 = .ok (.iaload, 1) := by decide +kernel
theorem dX4_growHistory_17 : decode cX4_growHistory 17 = .ok (.iconst 1, 1) := by decide +kernel
theorem dX4_growHistory_18 : decode cX4_growHistory 18 = .ok (.if_icmp .le 22, 3) := by decide +kernel
theorem dX4_growHistory_21 : decode cX4_growHistory 21 = .ok (.aload_n 0, 1) := by decide +kernel
theorem dX4_growHistory_22 : decode cX4_growHistory 22 = .ok (.getfield 34, 3) := by decide +kernel
theorem dX4_growHistory_25 : decode cX4_growHistory 25 = .ok (.iload_n 2, 1) := by decide +kernel
theorem dX4_growHistory_26 : decode cX4_growHistory 26 = .ok (.dup2, 1) := by decide +kernel
theorem dX4_growHistory_27 : decode cX4_growHistory 27 = .ok (.iaload, 1) := by decide +kernel
theorem dX4_growHistory_28 : decode cX4_growHistory 28 = .ok (.aload_n 0, 1) := by decide +kernel
theorem dX4_growHistory_29 : decode cX4_growHistory 29 = .ok (.getfield 30, 3) := by decide +kernel
theorem dX4_growHistory_32 : decode cX4_growHistory 32 = .ok (.iload_n 2, 1) := by decide +kernel
theorem dX4_growHistory_33 : decode cX4_growHistory 33 = .ok (.iaload, 1) := by decide +kernel
theorem dX4_growHistory_34 : decode cX4_growHistory 34 = .ok (.iconst 1, 1) := by decide +kernel
theorem dX4_growHistory_35 : decode cX4_growHistory 35 = .ok (.isub, 1) := by decide +kernel
theorem dX4_growHistory_36 : decode cX4_growHistory 36 = .ok (.iadd, 1) := by decide +kernel
theorem dX4_growHistory_37 : decode cX4_growHistory 37 = .ok (.iastore, 1) := by decide +kernel
theorem dX4_growHistory_38 : decode cX4_growHistory 38 = .ok (.iconst 1, 1) := by decide +kernel
theorem dX4_growHistory_39 : decode cX4_growHistory 39 = .ok (.istore_n 1, 1) := by decide +kernel
theorem dX4_growHistory_40 : decode cX4_growHistory 40 = .ok (.iinc 2 1, 3) := by decide +kernel
theorem dX4_growHistory_43 : decode cX4_growHistory 43 = .ok (.goto (-39), 3) := by decide +kernel
theorem dX4_growHistory_46 : decode cX4_growHistory 46 = .ok (.iload_n 1, 1) := by decide +kernel
theorem dX4_growHistory_47 : decode cX4_growHistory 47 = .ok (.ireturn, 1) := by decide +kernel
set_option maxRecDepth 20000 in
theorem ggX4_routeNet_X4_wireOf : GoodIn wsX4_routeNet wsX4_wireOf := goodIn_r _ [10, 11, 12, 13, 14, 15, 16, 17, 18, 19, 20, 21, 119, 120, 121, 122, 123, 124, 125, 126, 127, 128, 129, 130, 131, 132, 133] (by decide +kernel) (by decide +kernel)
set_option maxRecDepth 20000 in
theorem gX4_routeNet_X4_wireOf : GoodIn wsX4_routeNet (wsV RX4 81 RX4 yX4_wireOf wsX4_wireOf) := goodIn_app (goodIn_of _ (by decide +kernel)) ggX4_routeNet_X4_wireOf
set_option maxRecDepth 20000 in
theorem ggX4_routeNet_X4_startTree : GoodIn wsX4_routeNet wsX4_startTree := goodIn_r _ [25, 5, 2, 3, 26, 4, 27, 119, 120, 121, 122, 123, 124, 125, 126, 127, 128, 129] (by decide +kernel) (by decide +kernel)
set_option maxRecDepth 20000 in
theorem gX4_routeNet_X4_startTree : GoodIn wsX4_routeNet (wsV RX4 84 RX4 yX4_startTree wsX4_startTree) := goodIn_app (goodIn_of _ (by decide +kernel)) ggX4_routeNet_X4_startTree
set_option maxRecDepth 20000 in
theorem ggX4_routeNet_X2_sinksOf : GoodIn wsX4_routeNet wsX2_sinksOf := goodIn_r _ [32, 33, 134, 135] (by decide +kernel) (by decide +kernel)
set_option maxRecDepth 20000 in
theorem gX4_routeNet_X2_sinksOf : GoodIn wsX4_routeNet (wsV RX4 72 RX2 yX2_sinksOf wsX2_sinksOf) := goodIn_app (goodIn_of _ (by decide +kernel)) ggX4_routeNet_X2_sinksOf
set_option maxRecDepth 20000 in
theorem ggX4_routeNet_X4_spread : GoodIn wsX4_routeNet wsX4_spread := goodIn_r _ [37, 5, 38, 39, 40, 41, 42, 9, 43, 2, 44, 45, 46, 47, 48, 49, 50, 51, 52, 53, 54, 55, 56, 57, 58, 59, 60, 61, 62, 63, 64, 65, 26, 66, 67, 68, 20, 69, 70, 71, 119, 120, 121, 122, 123, 124, 125, 126, 127, 128, 129, 136, 137, 138, 139, 140, 141, 142, 143] (by decide +kernel) (by decide +kernel)
set_option maxRecDepth 20000 in
theorem gX4_routeNet_X4_spread : GoodIn wsX4_routeNet (wsV RX4 88 RX4 yX4_spread wsX4_spread) := goodIn_app (goodIn_of _ (by decide +kernel)) ggX4_routeNet_X4_spread
set_option maxRecDepth 20000 in
theorem ggX4_routeNet_X2_sinkAt : GoodIn wsX4_routeNet wsX2_sinkAt := goodIn_r _ [75, 33, 76, 134, 135] (by decide +kernel) (by decide +kernel)
set_option maxRecDepth 20000 in
theorem gX4_routeNet_X2_sinkAt : GoodIn wsX4_routeNet (wsV RX4 91 RX2 yX2_sinkAt wsX2_sinkAt) := goodIn_app (goodIn_of _ (by decide +kernel)) ggX4_routeNet_X2_sinkAt
set_option maxRecDepth 20000 in
theorem ggX4_routeNet_X4_endOfWay : GoodIn wsX4_routeNet wsX4_endOfWay := goodIn_r _ [80, 11, 81, 82, 83, 15, 84, 17, 85, 86, 87, 9, 88, 65, 89, 90, 91, 92, 20, 93, 94, 95, 96, 97, 98, 2, 99, 100, 101, 102, 103, 104, 119, 120, 121, 122, 123, 124, 125, 126, 127, 128, 129, 130, 131, 132, 133, 140, 141, 142, 143] (by decide +kernel) (by decide +kernel)
set_option maxRecDepth 20000 in
theorem gX4_routeNet_X4_endOfWay : GoodIn wsX4_routeNet (wsV RX4 95 RX4 yX4_endOfWay wsX4_endOfWay) := goodIn_app (goodIn_of _ (by decide +kernel)) ggX4_routeNet_X4_endOfWay
set_option maxRecDepth 20000 in
theorem ggX4_routeNet_X4_followBack : GoodIn wsX4_routeNet wsX4_followBack := goodIn_r _ [108, 5, 109, 65, 110, 111, 112, 9, 113, 2, 26, 114, 115, 116, 20, 117, 118, 119, 120, 121, 122, 123, 124, 125, 126, 127, 128, 129, 140, 141, 142, 143] (by decide +kernel) (by decide +kernel)
set_option maxRecDepth 20000 in
theorem gX4_routeNet_X4_followBack : GoodIn wsX4_routeNet (wsV RX4 99 RX4 yX4_followBack wsX4_followBack) := goodIn_app (goodIn_of _ (by decide +kernel)) ggX4_routeNet_X4_followBack
theorem dX4_routeNet_0 : decode cX4_routeNet 0 = .ok (.aload_n 0, 1) := by decide +kernel
theorem dX4_routeNet_1 : decode cX4_routeNet 1 = .ok (.aload_n 0, 1) := by decide +kernel
theorem dX4_routeNet_2 : decode cX4_routeNet 2 = .ok (.iload_n 1, 1) := by decide +kernel
theorem dX4_routeNet_3 : decode cX4_routeNet 3 = .ok (.invokevirtual 81, 3) := by decide +kernel
theorem dX4_routeNet_6 : decode cX4_routeNet 6 = .ok (.invokevirtual 84, 3) := by decide +kernel
theorem dX4_routeNet_9 : decode cX4_routeNet 9 = .ok (.iconst 0, 1) := by decide +kernel
theorem dX4_routeNet_10 : decode cX4_routeNet 10 = .ok (.istore_n 2, 1) := by decide +kernel
theorem dX4_routeNet_11 : decode cX4_routeNet 11 = .ok (.iload_n 2, 1) := by decide +kernel
theorem dX4_routeNet_12 : decode cX4_routeNet 12 = .ok (.aload_n 0, 1) := by decide +kernel
theorem dX4_routeNet_13 : decode cX4_routeNet 13 = .ok (.getfield 15, 3) := by decide +kernel
theorem dX4_routeNet_16 : decode cX4_routeNet 16 = .ok (.iload_n 1, 1) := by decide +kernel
theorem dX4_routeNet_17 : decode cX4_routeNet 17 = .ok (.invokevirtual 72, 3) := by decide +kernel
theorem dX4_routeNet_20 : decode cX4_routeNet 20 = .ok (.if_icmp .ge 50, 3) := by decide +kernel
theorem dX4_routeNet_23 : decode cX4_routeNet 23 = .ok (.aload_n 0, 1) := by decide +kernel
theorem dX4_routeNet_24 : decode cX4_routeNet 24 = .ok (.invokevirtual 88, 3) := by decide +kernel
theorem dX4_routeNet_27 : decode cX4_routeNet 27 = .ok (.aload_n 0, 1) := by decide +kernel
theorem dX4_routeNet_28 : decode cX4_routeNet 28 = .ok (.aload_n 0, 1) := by decide +kernel
theorem dX4_routeNet_29 : decode cX4_routeNet 29 = .ok (.getfield 15, 3) := by decide +kernel
theorem dX4_routeNet_32 : decode cX4_routeNet 32 = .ok (.iload_n 1, 1) := by decide +kernel
theorem dX4_routeNet_33 : decode cX4_routeNet 33 = .ok (.iload_n 2, 1) := by decide +kernel
theorem dX4_routeNet_34 : decode cX4_routeNet 34 = .ok (.invokevirtual 91, 3) := by decide +kernel
theorem dX4_routeNet_37 : decode cX4_routeNet 37 = .ok (.invokevirtual 95, 3) := by decide +kernel
theorem dX4_routeNet_40 : decode cX4_routeNet 40 = .ok (.istore_n 3, 1) := by decide +kernel
theorem dX4_routeNet_41 : decode cX4_routeNet 41 = .ok (.iload_n 3, 1) := by decide +kernel
theorem dX4_routeNet_42 : decode cX4_routeNet 42 = .ok (.iconst (-1), 1) := by decide +kernel
theorem dX4_routeNet_43 : decode cX4_routeNet 43 = .ok (.if_icmp .eq 14, 3) := by decide +kernel
theorem dX4_routeNet_46 : decode cX4_routeNet 46 = .ok (.aload_n 0, 1) := by decide +kernel
theorem dX4_routeNet_47 : decode cX4_routeNet 47 = .ok (.getfield 40, 3) := by decide +kernel
theorem dX4_routeNet_50 : decode cX4_routeNet 50 = .ok (.iload_n 3, 1) := by decide +kernel
theorem dX4_routeNet_51 : decode cX4_routeNet 51 = .ok (.iaload, 1) := by decide +kernel
theorem dX4_routeNet_52 : decode cX4_routeNet 52 = .ok (.ldc 98, 2) := by decide +kernel
theorem dX4_routeNet_54 : decode cX4_routeNet 54 = .ok (.if_icmp .lt 5, 3) := by decide +kernel
theorem dX4_routeNet_57 : decode cX4_routeNet 57 = .ok (.iconst 0, 1) := by decide +kernel
theorem dX4_routeNet_58 : decode cX4_routeNet 58 = .ok (.ireturn, 1) := by decide +kernel
theorem dX4_routeNet_59 : decode cX4_routeNet 59 = .ok (.aload_n 0, 1) := by decide +kernel
theorem dX4_routeNet_60 : decode cX4_routeNet 60 = .ok (.iload_n 3, 1) := by decide +kernel
theorem dX4_routeNet_61 : decode cX4_routeNet 61 = .ok (.invokevirtual 99, 3) := by decide +kernel
theorem dX4_routeNet_64 : decode cX4_routeNet 64 = .ok (.iinc 2 1, 3) := by decide +kernel
theorem dX4_routeNet_67 : decode cX4_routeNet 67 = .ok (.goto (-56), 3) := by decide +kernel
theorem dX4_routeNet_70 : decode cX4_routeNet 70 = .ok (.iconst 0, 1) := by decide +kernel
theorem dX4_routeNet_71 : decode cX4_routeNet 71 = .ok (.istore_n 2, 1) := by decide +kernel
theorem dX4_routeNet_72 : decode cX4_routeNet 72 = .ok (.iload_n 2, 1) := by decide +kernel
theorem dX4_routeNet_73 : decode cX4_routeNet 73 = .ok (.sipush 148, 3) := by decide +kernel
theorem dX4_routeNet_76 : decode cX4_routeNet 76 = .ok (.if_icmp .ge 32, 3) := by decide +kernel
theorem dX4_routeNet_79 : decode cX4_routeNet 79 = .ok (.aload_n 0, 1) := by decide +kernel
theorem dX4_routeNet_80 : decode cX4_routeNet 80 = .ok (.getfield 30, 3) := by decide +kernel
theorem dX4_routeNet_83 : decode cX4_routeNet 83 = .ok (.iload_n 2, 1) := by decide +kernel
theorem dX4_routeNet_84 : decode cX4_routeNet 84 = .ok (.dup2, 1) := by decide +kernel
theorem dX4_routeNet_85 : decode cX4_routeNet 85 = .ok (.iaload, 1) := by decide +kernel
theorem dX4_routeNet_86 : decode cX4_routeNet 86 = .ok (.aload_n 0, 1) := by decide +kernel
theorem dX4_routeNet_87 : decode cX4_routeNet 87 = .ok (.getfield 43, 3) := by decide +kernel
theorem dX4_routeNet_90 : decode cX4_routeNet 90 = .ok (.iload_n 2, 1) := by decide +kernel
theorem dX4_routeNet_91 : decode cX4_routeNet 91 = .ok (.baload, 1) := by decide +kernel
theorem dX4_routeNet_92 : decode cX4_routeNet 92 = .ok (.ifCond .eq 7, 3) := by decide +kernel
theorem dX4_routeNet_95 : decode cX4_routeNet 95 = .ok (.iconst 1, 1) := by decide +kernel
theorem dX4_routeNet_96 : decode cX4_routeNet 96 = .ok (.goto 4, 3) := by decide +kernel
theorem dX4_routeNet_99 : decode cX4_routeNet 99 = .ok (.iconst 0, 1) := by decide +kernel
theorem dX4_routeNet_100 : decode cX4_routeNet 100 = .ok (.iadd, 1) := by decide +kernel
theorem dX4_routeNet_101 : decode cX4_routeNet 101 = .ok (.iastore, 1) := by decide +kernel
theorem dX4_routeNet_102 : decode cX4_routeNet 102 = .ok (.iinc 2 1, 3) := by decide +kernel
theorem dX4_routeNet_105 : decode cX4_routeNet 105 = .ok (.goto (-33), 3) := by decide +kernel
theorem dX4_routeNet_108 : decode cX4_routeNet 108 = .ok (.iconst 1, 1) := by decide +kernel
theorem dX4_routeNet_109 : decode cX4_routeNet 109 = .ok (.ireturn, 1) := by decide +kernel
set_option maxRecDepth 20000 in
theorem ggX4_wireOf_X3_siteOf : GoodIn wsX4_wireOf wsX3_siteOf := goodIn_r _ [6, 7, 23, 24, 25, 26] (by decide +kernel) (by decide +kernel)
set_option maxRecDepth 20000 in
theorem gX4_wireOf_X3_siteOf : GoodIn wsX4_wireOf (wsV RX4 102 RX3 yX3_siteOf wsX3_siteOf) := goodIn_app (goodIn_of _ (by decide +kernel)) ggX4_wireOf_X3_siteOf
set_option maxRecDepth 20000 in
theorem ggX4_wireOf_X1_outletOf : GoodIn wsX4_wireOf wsX1_outletOf := goodIn_r _ [11] (by decide +kernel) (by decide +kernel)
set_option maxRecDepth 20000 in
theorem gX4_wireOf_X1_outletOf : GoodIn wsX4_wireOf (va_wsS RX4 66 yX1_outletOf wsX1_outletOf) := goodIn_app (goodIn_of _ (by decide +kernel)) ggX4_wireOf_X1_outletOf
theorem dX4_wireOf_0 : decode cX4_wireOf 0 = .ok (.iload_n 1, 1) := by decide +kernel
theorem dX4_wireOf_1 : decode cX4_wireOf 1 = .ok (.bipush 10, 2) := by decide +kernel
theorem dX4_wireOf_3 : decode cX4_wireOf 3 = .ok (.if_icmp .ge 15, 3) := by decide +kernel
theorem dX4_wireOf_6 : decode cX4_wireOf 6 = .ok (.aload_n 0, 1) := by decide +kernel
theorem dX4_wireOf_7 : decode cX4_wireOf 7 = .ok (.getfield 19, 3) := by decide +kernel
theorem dX4_wireOf_10 : decode cX4_wireOf 10 = .ok (.iload_n 1, 1) := by decide +kernel
theorem dX4_wireOf_11 : decode cX4_wireOf 11 = .ok (.invokevirtual 102, 3) := by decide +kernel
theorem dX4_wireOf_14 : decode cX4_wireOf 14 = .ok (.invokestatic 66, 3) := by decide +kernel
theorem dX4_wireOf_17 : decode cX4_wireOf 17 = .ok (.ireturn, 1) := by decide +kernel
theorem dX4_wireOf_18 : decode cX4_wireOf 18 = .ok (.sipush 144, 3) := by decide +kernel
theorem dX4_wireOf_21 : decode cX4_wireOf 21 = .ok (.iload_n 1, 1) := by decide +kernel
theorem dX4_wireOf_22 : decode cX4_wireOf 22 = .ok (.iadd, 1) := by decide +kernel
theorem dX4_wireOf_23 : decode cX4_wireOf 23 = .ok (.bipush 10, 2) := by decide +kernel
theorem dX4_wireOf_25 : decode cX4_wireOf 25 = .ok (.isub, 1) := by decide +kernel
theorem dX4_wireOf_26 : decode cX4_wireOf 26 = .ok (.ireturn, 1) := by decide +kernel
theorem dX4_startTree_0 : decode cX4_startTree 0 = .ok (.iconst 0, 1) := by decide +kernel
theorem dX4_startTree_1 : decode cX4_startTree 1 = .ok (.istore_n 2, 1) := by decide +kernel
theorem dX4_startTree_2 : decode cX4_startTree 2 = .ok (.iload_n 2, 1) := by decide +kernel
theorem dX4_startTree_3 : decode cX4_startTree 3 = .ok (.sipush 148, 3) := by decide +kernel
theorem dX4_startTree_6 : decode cX4_startTree 6 = .ok (.if_icmp .ge 56, 3) := by decide +kernel
theorem dX4_startTree_9 : decode cX4_startTree 9 = .ok (.aload_n 0, 1) := by decide +kernel
theorem dX4_startTree_10 : decode cX4_startTree 10 = .ok (.getfield 43, 3) := by decide +kernel
theorem dX4_startTree_13 : decode cX4_startTree 13 = .ok (.iload_n 2, 1) := by decide +kernel
theorem dX4_startTree_14 : decode cX4_startTree 14 = .ok (.iload_n 2, 1) := by decide +kernel
theorem dX4_startTree_15 : decode cX4_startTree 15 = .ok (.iload_n 1, 1) := by decide +kernel
theorem dX4_startTree_16 : decode cX4_startTree 16 = .ok (.if_icmp .ne 7, 3) := by decide +kernel
theorem dX4_startTree_19 : decode cX4_startTree 19 = .ok (.iconst 1, 1) := by decide +kernel
theorem dX4_startTree_20 : decode cX4_startTree 20 = .ok (.goto 4, 3) := by decide +kernel
theorem dX4_startTree_23 : decode cX4_startTree 23 = .ok (.iconst 0, 1) := by decide +kernel
theorem dX4_startTree_24 : decode cX4_startTree 24 = .ok (.bastore, 1) := by decide +kernel
theorem dX4_startTree_25 : decode cX4_startTree 25 = .ok (.aload_n 0, 1) := by decide +kernel
theorem dX4_startTree_26 : decode cX4_startTree 26 = .ok (.getfield 40, 3) := by decide +kernel
theorem dX4_startTree_29 : decode cX4_startTree 29 = .ok (.iload_n 2, 1) := by decide +kernel
theorem dX4_startTree_30 : decode cX4_startTree 30 = .ok (.ldc 98, 2) := by decide +kernel
theorem dX4_startTree_32 : decode cX4_startTree 32 = .ok (.iastore, 1) := by decide +kernel
theorem dX4_startTree_33 : decode cX4_startTree 33 = .ok (.aload_n 0, 1) := by decide +kernel
theorem dX4_startTree_34 : decode cX4_startTree 34 = .ok (.getfield 37, 3) := by decide +kernel
theorem dX4_startTree_37 : decode cX4_startTree 37 = .ok (.iload_n 2, 1) := by decide +kernel
theorem dX4_startTree_38 : decode cX4_startTree 38 = .ok (.iconst 1, 1) := by decide +kernel
theorem dX4_startTree_39 : decode cX4_startTree 39 = .ok (.iconst 3, 1) := by decide +kernel
theorem dX4_startTree_40 : decode cX4_startTree 40 = .ok (.aload_n 0, 1) := by decide +kernel
theorem dX4_startTree_41 : decode cX4_startTree 41 = .ok (.getfield 30, 3) := by decide +kernel
theorem dX4_startTree_44 : decode cX4_startTree 44 = .ok (.iload_n 2, 1) := by decide +kernel
theorem dX4_startTree_45 : decode cX4_startTree 45 = .ok (.iaload, 1) := by decide +kernel
theorem dX4_startTree_46 : decode cX4_startTree 46 = .ok (.imul, 1) := by decide +kernel
theorem dX4_startTree_47 : decode cX4_startTree 47 = .ok (.iadd, 1) := by decide +kernel
theorem dX4_startTree_48 : decode cX4_startTree 48 = .ok (.aload_n 0, 1) := by decide +kernel
theorem dX4_startTree_49 : decode cX4_startTree 49 = .ok (.getfield 34, 3) := by decide +kernel
theorem dX4_startTree_52 : decode cX4_startTree 52 = .ok (.iload_n 2, 1) := by decide +kernel
theorem dX4_startTree_53 : decode cX4_startTree 53 = .ok (.iaload, 1) := by decide +kernel
theorem dX4_startTree_54 : decode cX4_startTree 54 = .ok (.iadd, 1) := by decide +kernel
theorem dX4_startTree_55 : decode cX4_startTree 55 = .ok (.iastore, 1) := by decide +kernel
theorem dX4_startTree_56 : decode cX4_startTree 56 = .ok (.iinc 2 1, 3) := by decide +kernel
theorem dX4_startTree_59 : decode cX4_startTree 59 = .ok (.goto (-57), 3) := by decide +kernel
theorem dX4_startTree_62 : decode cX4_startTree 62 = .ok (.return_, 1) := by decide +kernel
set_option maxRecDepth 20000 in
theorem ggX4_spread_X4_shorten : GoodIn wsX4_spread wsX4_shorten := goodIn_r _ [8, 9, 3, 10, 11, 12, 13, 14, 15, 16, 17, 18, 40, 41, 42, 43, 44, 45, 46, 47, 48, 49, 50, 51, 52, 53, 54] (by decide +kernel) (by decide +kernel)
set_option maxRecDepth 20000 in
theorem gX4_spread_X4_shorten : GoodIn wsX4_spread (wsV RX4 107 RX4 yX4_shorten wsX4_shorten) := goodIn_app (goodIn_of _ (by decide +kernel)) ggX4_spread_X4_shorten
set_option maxRecDepth 20000 in
theorem ggX4_spread_X7_isEmpty : GoodIn wsX4_spread wsX7_isEmpty := goodIn_r _ [22, 16, 51, 52, 53, 54] (by decide +kernel) (by decide +kernel)
set_option maxRecDepth 20000 in
theorem gX4_spread_X7_isEmpty : GoodIn wsX4_spread (wsV RX4 112 RX7 yX7_isEmpty wsX7_isEmpty) := goodIn_app (goodIn_of _ (by decide +kernel)) ggX4_spread_X7_isEmpty
set_option maxRecDepth 20000 in
theorem ggX4_spread_X7_take : GoodIn wsX4_spread wsX7_take := goodIn_r _ [26, 16, 17, 18, 15, 51, 52, 53, 54] (by decide +kernel) (by decide +kernel)
set_option maxRecDepth 20000 in
theorem gX4_spread_X7_take : GoodIn wsX4_spread (wsV RX4 115 RX7 yX7_take wsX7_take) := goodIn_app (goodIn_of _ (by decide +kernel)) ggX4_spread_X7_take
set_option maxRecDepth 20000 in
theorem ggX4_spread_X4_spreadFrom : GoodIn wsX4_spread wsX4_spreadFrom := goodIn_r _ [30, 31, 9, 32, 33, 34, 35, 36, 37, 38, 39, 4, 5, 6, 7, 8, 3, 10, 11, 12, 13, 14, 15, 16, 17, 18, 40, 41, 42, 43, 44, 45, 46, 47, 48, 49, 50, 55, 56, 57, 58, 51, 52, 53, 54] (by decide +kernel) (by decide +kernel)
set_option maxRecDepth 20000 in
theorem gX4_spread_X4_spreadFrom : GoodIn wsX4_spread (wsV RX4 119 RX4 yX4_spreadFrom wsX4_spreadFrom) := goodIn_app (goodIn_of _ (by decide +kernel)) ggX4_spread_X4_spreadFrom
theorem dX4_spread_0 : decode cX4_spread 0 = .ok (.iconst 0, 1) := by decide +kernel
theorem dX4_spread_1 : decode cX4_spread 1 = .ok (.istore_n 1, 1) := by decide +kernel
theorem dX4_spread_2 : decode cX4_spread 2 = .ok (.iload_n 1, 1) := by decide +kernel
theorem dX4_spread_3 : decode cX4_spread 3 = .ok (.sipush 148, 3) := by decide +kernel
theorem dX4_spread_6 : decode cX4_spread 6 = .ok (.if_icmp .ge 24, 3) := by decide +kernel
theorem dX4_spread_9 : decode cX4_spread 9 = .ok (.aload_n 0, 1) := by decide +kernel
theorem dX4_spread_10 : decode cX4_spread 10 = .ok (.getfield 43, 3) := by decide +kernel
theorem dX4_spread_13 : decode cX4_spread 13 = .ok (.iload_n 1, 1) := by decide +kernel
theorem dX4_spread_14 : decode cX4_spread 14 = .ok (.baload, 1) := by decide +kernel
theorem dX4_spread_15 : decode cX4_spread 15 = .ok (.ifCond .eq 9, 3) := by decide +kernel
theorem dX4_spread_18 : decode cX4_spread 18 = .ok (.aload_n 0, 1) := by decide +kernel
theorem dX4_spread_19 : decode cX4_spread 19 = .ok (.iload_n 1, 1) := by decide +kernel
theorem dX4_spread_20 : decode cX4_spread 20 = .ok (.iconst 0, 1) := by decide +kernel
theorem dX4_spread_21 : decode cX4_spread 21 = .ok (.invokevirtual 107, 3) := by decide +kernel
theorem dX4_spread_24 : decode cX4_spread 24 = .ok (.iinc 1 1, 3) := by decide +kernel
theorem dX4_spread_27 : decode cX4_spread 27 = .ok (.goto (-25), 3) := by decide +kernel
theorem dX4_spread_30 : decode cX4_spread 30 = .ok (.iconst 0, 1) := by decide +kernel
theorem dX4_spread_31 : decode cX4_spread 31 = .ok (.istore_n 1, 1) := by decide +kernel
theorem dX4_spread_32 : decode cX4_spread 32 = .ok (.iload_n 1, 1) := by decide +kernel
theorem dX4_spread_33 : decode cX4_spread 33 = .ok (.ldc 111, 2) := by decide +kernel
theorem dX4_spread_35 : decode cX4_spread 35 = .ok (.if_icmp .ge 30, 3) := by decide +kernel
theorem dX4_spread_38 : decode cX4_spread 38 = .ok (.aload_n 0, 1) := by decide +kernel
theorem dX4_spread_39 : decode cX4_spread 39 = .ok (.getfield 26, 3) := by decide +kernel
theorem dX4_spread_42 : decode cX4_spread 42 = .ok (.invokevirtual 112, 3) := by decide +kernel
theorem dX4_spread_45 : decode cX4_spread 45 = .ok (.ifCond .ne 20, 3) := by decide +kernel
theorem dX4_spread_48 : decode cX4_spread 48 = .ok (.aload_n 0, 1) := by decide +kernel
theorem dX4_spread_49 : decode cX4_spread 49 = .ok (.aload_n 0, 1) := by decide +kernel
theorem dX4_spread_50 : decode cX4_spread 50 = .ok (.getfield 26, 3) := by decide +kernel
theorem dX4_spread_53 : decode cX4_spread 53 = .ok (.invokevirtual 115, 3) := by decide +kernel
theorem dX4_spread_56 : decode cX4_spread 56 = .ok (.invokevirtual 119, 3) := by decide +kernel
theorem dX4_spread_59 : decode cX4_spread 59 = .ok (.iinc 1 1, 3) := by decide +kernel
theorem dX4_spread_62 : decode cX4_spread 62 = .ok (.goto (-30), 3) := by decide +kernel
theorem dX4_spread_65 : decode cX4_spread 65 = .ok (.return_, 1) := by decide +kernel
set_option maxRecDepth 20000 in
theorem ggX4_spreadFrom_X1_channelAfter : GoodIn wsX4_spreadFrom wsX1_channelAfter := goodIn_r _ [8, 9, 10, 37, 38, 39, 40] (by decide +kernel) (by decide +kernel)
set_option maxRecDepth 20000 in
theorem gX4_spreadFrom_X1_channelAfter : GoodIn wsX4_spreadFrom (wsV RX4 122 RX1 yX1_channelAfter wsX1_channelAfter) := goodIn_app (goodIn_of _ (by decide +kernel)) ggX4_spreadFrom_X1_channelAfter
set_option maxRecDepth 20000 in
theorem ggX4_spreadFrom_X4_shorten : GoodIn wsX4_spreadFrom wsX4_shorten := goodIn_r _ [15, 2, 16, 17, 18, 19, 20, 21, 22, 23, 24, 25, 26, 27, 28, 29, 30, 31, 32, 33, 34, 35, 36, 41, 42, 43, 44] (by decide +kernel) (by decide +kernel)
set_option maxRecDepth 20000 in
theorem gX4_spreadFrom_X4_shorten : GoodIn wsX4_spreadFrom (wsV RX4 107 RX4 yX4_shorten wsX4_shorten) := goodIn_app (goodIn_of _ (by decide +kernel)) ggX4_spreadFrom_X4_shorten
theorem dX4_spreadFrom_0 : decode cX4_spreadFrom 0 = .ok (.iconst 0, 1) := by decide +kernel
theorem dX4_spreadFrom_1 : decode cX4_spreadFrom 1 = .ok (.istore_n 2, 1) := by decide +kernel
theorem dX4_spreadFrom_2 : decode cX4_spreadFrom 2 = .ok (.iload_n 2, 1) := by decide +kernel
theorem dX4_spreadFrom_3 : decode cX4_spreadFrom 3 = .ok (.bipush 8, 2) := by decide +kernel
theorem dX4_spreadFrom_5 : decode cX4_spreadFrom 5 = .ok (.if_icmp .ge 45, 3) := by decide +kernel
theorem dX4_spreadFrom_8 : decode cX4_spreadFrom 8 = .ok (.aload_n 0, 1) := by decide +kernel
theorem dX4_spreadFrom_9 : decode cX4_spreadFrom 9 = .ok (.getfield 9, 3) := by decide +kernel
theorem dX4_spreadFrom_12 : decode cX4_spreadFrom 12 = .ok (.iload_n 1, 1) := by decide +kernel
theorem dX4_spreadFrom_13 : decode cX4_spreadFrom 13 = .ok (.iload_n 2, 1) := by decide +kernel
theorem dX4_spreadFrom_14 : decode cX4_spreadFrom 14 = .ok (.invokevirtual 122, 3) := by decide +kernel
theorem dX4_spreadFrom_17 : decode cX4_spreadFrom 17 = .ok (.istore_n 3, 1) := by decide +kernel
theorem dX4_spreadFrom_18 : decode cX4_spreadFrom 18 = .ok (.iload_n 3, 1) := by decide +kernel
theorem dX4_spreadFrom_19 : decode cX4_spreadFrom 19 = .ok (.iconst (-1), 1) := by decide +kernel
theorem dX4_spreadFrom_20 : decode cX4_spreadFrom 20 = .ok (.if_icmp .ne 6, 3) := by decide +kernel
theorem dX4_spreadFrom_23 : decode cX4_spreadFrom 23 = .ok (.goto 27, 3) := by decide +kernel
theorem dX4_spreadFrom_26 : decode cX4_spreadFrom 26 = .ok (.aload_n 0, 1) := by decide +kernel
theorem dX4_spreadFrom_27 : decode cX4_spreadFrom 27 = .ok (.iload_n 3, 1) := by decide +kernel
theorem dX4_spreadFrom_28 : decode cX4_spreadFrom 28 = .ok (.aload_n 0, 1) := by decide +kernel
theorem dX4_spreadFrom_29 : decode cX4_spreadFrom 29 = .ok (.getfield 40, 3) := by decide +kernel
theorem dX4_spreadFrom_32 : decode cX4_spreadFrom 32 = .ok (.iload_n 1, 1) := by decide +kernel
theorem dX4_spreadFrom_33 : decode cX4_spreadFrom 33 = .ok (.iaload, 1) := by decide +kernel
theorem dX4_spreadFrom_34 : decode cX4_spreadFrom 34 = .ok (.aload_n 0, 1) := by decide +kernel
theorem dX4_spreadFrom_35 : decode cX4_spreadFrom 35 = .ok (.getfield 37, 3) := by decide +kernel
theorem dX4_spreadFrom_38 : decode cX4_spreadFrom 38 = .ok (.iload_n 3, 1) := by decide +kernel
theorem dX4_spreadFrom_39 : decode cX4_spreadFrom 39 = .ok (.iaload, 1) := by decide +kernel
theorem dX4_spreadFrom_40 : decode cX4_spreadFrom 40 = .ok (.iadd, 1) := by decide +kernel
theorem dX4_spreadFrom_41 : decode cX4_spreadFrom 41 = .ok (.invokevirtual 107, 3) := by decide +kernel
theorem dX4_spreadFrom_44 : decode cX4_spreadFrom 44 = .ok (.iinc 2 1, 3) := by decide +kernel
theorem dX4_spreadFrom_47 : decode cX4_spreadFrom 47 = .ok (.goto (-45), 3) := by decide +kernel
theorem dX4_spreadFrom_50 : decode cX4_spreadFrom 50 = .ok (.return_, 1) := by decide +kernel
set_option maxRecDepth 20000 in
theorem ggX4_shorten_X7_add : GoodIn wsX4_shorten wsX7_add := goodIn_r _ [7, 8, 9, 10, 11, 23, 24, 25, 26] (by decide +kernel) (by decide +kernel)
set_option maxRecDepth 20000 in
theorem gX4_shorten_X7_add : GoodIn wsX4_shorten (wsV RX4 125 RX7 yX7_add wsX7_add) := goodIn_app (goodIn_of _ (by decide +kernel)) ggX4_shorten_X7_add
theorem dX4_shorten_0 : decode cX4_shorten 0 = .ok (.iload_n 2, 1) := by decide +kernel
theorem dX4_shorten_1 : decode cX4_shorten 1 = .ok (.aload_n 0, 1) := by decide +kernel
theorem dX4_shorten_2 : decode cX4_shorten 2 = .ok (.getfield 40, 3) := by decide +kernel
theorem dX4_shorten_5 : decode cX4_shorten 5 = .ok (.iload_n 1, 1) := by decide +kernel
theorem dX4_shorten_6 : decode cX4_shorten 6 = .ok (.iaload, 1) := by decide +kernel
theorem dX4_shorten_7 : decode cX4_shorten 7 = .ok (.if_icmp .ge 18, 3) := by decide +kernel
theorem dX4_shorten_10 : decode cX4_shorten 10 = .ok (.aload_n 0, 1) := by decide +kernel
theorem dX4_shorten_11 : decode cX4_shorten 11 = .ok (.getfield 40, 3) := by decide +kernel
theorem dX4_shorten_14 : decode cX4_shorten 14 = .ok (.iload_n 1, 1) := by decide +kernel
theorem dX4_shorten_15 : decode cX4_shorten 15 = .ok (.iload_n 2, 1) := by decide +kernel
theorem dX4_shorten_16 : decode cX4_shorten 16 = .ok (.iastore, 1) := by decide +kernel
theorem dX4_shorten_17 : decode cX4_shorten 17 = .ok (.aload_n 0, 1) := by decide +kernel
theorem dX4_shorten_18 : decode cX4_shorten 18 = .ok (.getfield 26, 3) := by decide +kernel
theorem dX4_shorten_21 : decode cX4_shorten 21 = .ok (.iload_n 1, 1) := by decide +kernel
theorem dX4_shorten_22 : decode cX4_shorten 22 = .ok (.invokevirtual 125, 3) := by decide +kernel
theorem dX4_shorten_25 : decode cX4_shorten 25 = .ok (.return_, 1) := by decide +kernel
set_option maxRecDepth 20000 in
theorem ggX4_endOfWay_X3_siteOfSink : GoodIn wsX4_endOfWay wsX3_siteOfSink := goodIn_r _ [6, 7, 43, 44, 45, 46] (by decide +kernel) (by decide +kernel)
set_option maxRecDepth 20000 in
theorem gX4_endOfWay_X3_siteOfSink : GoodIn wsX4_endOfWay (wsV RX4 128 RX3 yX3_siteOfSink wsX3_siteOfSink) := goodIn_app (goodIn_of _ (by decide +kernel)) ggX4_endOfWay_X3_siteOfSink
set_option maxRecDepth 20000 in
theorem ggX4_endOfWay_X4_switchPin : GoodIn wsX4_endOfWay wsX4_switchPin := goodIn_r _ [12, 13, 14, 15, 16, 17, 18, 19, 20, 21, 22, 23, 11, 24, 25, 32, 33, 34, 35, 36, 37, 38, 39, 40, 41, 42, 47, 48, 49, 50] (by decide +kernel) (by decide +kernel)
set_option maxRecDepth 20000 in
theorem gX4_endOfWay_X4_switchPin : GoodIn wsX4_endOfWay (wsV RX4 131 RX4 yX4_switchPin wsX4_switchPin) := goodIn_app (goodIn_of _ (by decide +kernel)) ggX4_endOfWay_X4_switchPin
set_option maxRecDepth 20000 in
theorem ggX4_endOfWay_X1_outputWire : GoodIn wsX4_endOfWay wsX1_outputWire := goodIn_r _ [28, 29, 30, 18, 31] (by decide +kernel) (by decide +kernel)
set_option maxRecDepth 20000 in
theorem gX4_endOfWay_X1_outputWire : GoodIn wsX4_endOfWay (va_wsS RX4 134 yX1_outputWire wsX1_outputWire) := goodIn_app (goodIn_of _ (by decide +kernel)) ggX4_endOfWay_X1_outputWire
theorem dX4_endOfWay_0 : decode cX4_endOfWay 0 = .ok (.iload_n 1, 1) := by decide +kernel
theorem dX4_endOfWay_1 : decode cX4_endOfWay 1 = .ok (.bipush 30, 2) := by decide +kernel
theorem dX4_endOfWay_3 : decode cX4_endOfWay 3 = .ok (.if_icmp .ge 19, 3) := by decide +kernel
theorem dX4_endOfWay_6 : decode cX4_endOfWay 6 = .ok (.aload_n 0, 1) := by decide +kernel
theorem dX4_endOfWay_7 : decode cX4_endOfWay 7 = .ok (.aload_n 0, 1) := by decide +kernel
theorem dX4_endOfWay_8 : decode cX4_endOfWay 8 = .ok (.getfield 19, 3) := by decide +kernel
theorem dX4_endOfWay_11 : decode cX4_endOfWay 11 = .ok (.iload_n 1, 1) := by decide +kernel
theorem dX4_endOfWay_12 : decode cX4_endOfWay 12 = .ok (.invokevirtual 128, 3) := by decide +kernel
theorem dX4_endOfWay_15 : decode cX4_endOfWay 15 = .ok (.iload_n 1, 1) := by decide +kernel
theorem dX4_endOfWay_16 : decode cX4_endOfWay 16 = .ok (.iconst 3, 1) := by decide +kernel
theorem dX4_endOfWay_17 : decode cX4_endOfWay 17 = .ok (.irem, 1) := by decide +kernel
theorem dX4_endOfWay_18 : decode cX4_endOfWay 18 = .ok (.invokevirtual 131, 3) := by decide +kernel
theorem dX4_endOfWay_21 : decode cX4_endOfWay 21 = .ok (.ireturn, 1) := by decide +kernel
theorem dX4_endOfWay_22 : decode cX4_endOfWay 22 = .ok (.iload_n 1, 1) := by decide +kernel
theorem dX4_endOfWay_23 : decode cX4_endOfWay 23 = .ok (.bipush 30, 2) := by decide +kernel
theorem dX4_endOfWay_25 : decode cX4_endOfWay 25 = .ok (.isub, 1) := by decide +kernel
theorem dX4_endOfWay_26 : decode cX4_endOfWay 26 = .ok (.invokestatic 134, 3) := by decide +kernel
theorem dX4_endOfWay_29 : decode cX4_endOfWay 29 = .ok (.ireturn, 1) := by decide +kernel
set_option maxRecDepth 20000 in
theorem ggX4_switchPin_X1_beforePin : GoodIn wsX4_switchPin wsX1_beforePin := goodIn_r _ [7, 8, 26, 27, 28, 29] (by decide +kernel) (by decide +kernel)
set_option maxRecDepth 20000 in
theorem gX4_switchPin_X1_beforePin : GoodIn wsX4_switchPin (wsV RX4 137 RX1 yX1_beforePin wsX1_beforePin) := goodIn_app (goodIn_of _ (by decide +kernel)) ggX4_switchPin_X1_beforePin
set_option maxRecDepth 20000 in
theorem ggX4_switchPin_X4_isNearer : GoodIn wsX4_switchPin wsX4_isNearer := goodIn_r _ [13, 14, 15, 16, 17, 18, 19, 20, 21, 22, 23, 24, 25] (by decide +kernel) (by decide +kernel)
set_option maxRecDepth 20000 in
theorem gX4_switchPin_X4_isNearer : GoodIn wsX4_switchPin (wsV RX4 140 RX4 yX4_isNearer wsX4_isNearer) := goodIn_app (goodIn_of _ (by decide +kernel)) ggX4_switchPin_X4_isNearer
theorem dX4_switchPin_0 : decode cX4_switchPin 0 = .ok (.iconst (-1), 1) := by decide +kernel
theorem dX4_switchPin_1 : decode cX4_switchPin 1 = .ok (.istore_n 3, 1) := by decide +kernel
theorem dX4_switchPin_2 : decode cX4_switchPin 2 = .ok (.iconst 1, 1) := by decide +kernel
theorem dX4_switchPin_3 : decode cX4_switchPin 3 = .ok (.istore 4, 2) := by decide +kernel
theorem dX4_switchPin_5 : decode cX4_switchPin 5 = .ok (.iload 4, 2) := by decide +kernel
theorem dX4_switchPin_7 : decode cX4_switchPin 7 = .ok (.bipush 10, 2) := by decide +kernel
theorem dX4_switchPin_9 : decode cX4_switchPin 9 = .ok (.if_icmp .ge 57, 3) := by decide +kernel
theorem dX4_switchPin_12 : decode cX4_switchPin 12 = .ok (.aload_n 0, 1) := by decide +kernel
theorem dX4_switchPin_13 : decode cX4_switchPin 13 = .ok (.getfield 9, 3) := by decide +kernel
theorem dX4_switchPin_16 : decode cX4_switchPin 16 = .ok (.iload_n 1, 1) := by decide +kernel
theorem dX4_switchPin_17 : decode cX4_switchPin 17 = .ok (.iload 4, 2) := by decide +kernel
theorem dX4_switchPin_19 : decode cX4_switchPin 19 = .ok (.invokevirtual 137, 3) := by decide +kernel
theorem dX4_switchPin_22 : decode cX4_switchPin 22 = .ok (.istore 5, 2) := by decide +kernel
theorem dX4_switchPin_24 : decode cX4_switchPin 24 = .ok (.iload 5, 2) := by decide +kernel
theorem dX4_switchPin_26 : decode cX4_switchPin 26 = .ok (.iconst (-1), 1) := by decide +kernel
theorem dX4_switchPin_27 : decode cX4_switchPin 27 = .ok (.if_icmp .eq 33, 3) := by decide +kernel
theorem dX4_switchPin_30 : decode cX4_switchPin 30 = .ok (.iload_n 3, 1) := by decide +kernel
theorem dX4_switchPin_31 : decode cX4_switchPin 31 = .ok (.iconst (-1), 1) := by decide +kernel
theorem dX4_switchPin_32 : decode cX4_switchPin 32 = .ok (.if_icmp .eq 13, 3) := by decide +kernel
theorem dX4_switchPin_35 : decode cX4_switchPin 35 = .ok (.aload_n 0, 1) := by decide +kernel
theorem dX4_switchPin_36 : decode cX4_switchPin 36 = .ok (.iload 5, 2) := by decide +kernel
theorem dX4_switchPin_38 : decode cX4_switchPin 38 = .ok (.iload_n 3, 1) := by decide +kernel
theorem dX4_switchPin_39 : decode cX4_switchPin 39 = .ok (.invokevirtual 140, 3) := by decide +kernel
theorem dX4_switchPin_42 : decode cX4_switchPin 42 = .ok (.ifCond .eq 18, 3) := by decide +kernel
theorem dX4_switchPin_45 : decode cX4_switchPin 45 = .ok (.iload 5, 2) := by decide +kernel
theorem dX4_switchPin_47 : decode cX4_switchPin 47 = .ok (.istore_n 3, 1) := by decide +kernel
theorem dX4_switchPin_48 : decode cX4_switchPin 48 = .ok (.aload_n 0, 1) := by decide +kernel
theorem dX4_switchPin_49 : decode cX4_switchPin 49 = .ok (.getfield 50, 3) := by decide +kernel
theorem dX4_switchPin_52 : decode cX4_switchPin 52 = .ok (.iload_n 1, 1) := by decide +kernel
theorem dX4_switchPin_53 : decode cX4_switchPin 53 = .ok (.iconst 3, 1) := by decide +kernel
theorem dX4_switchPin_54 : decode cX4_switchPin 54 = .ok (.imul, 1) := by decide +kernel
theorem dX4_switchPin_55 : decode cX4_switchPin 55 = .ok (.iload_n 2, 1) := by decide +kernel
theorem dX4_switchPin_56 : decode cX4_switchPin 56 = .ok (.iadd, 1) := by decide +kernel
theorem dX4_switchPin_57 : decode cX4_switchPin 57 = .ok (.iload 4, 2) := by decide +kernel
theorem dX4_switchPin_59 : decode cX4_switchPin 59 = .ok (.iastore, 1) := by decide +kernel
theorem dX4_switchPin_60 : decode cX4_switchPin 60 = .ok (.iinc 4 1, 3) := by decide +kernel
theorem dX4_switchPin_63 : decode cX4_switchPin 63 = .ok (.goto (-58), 3) := by decide +kernel
theorem dX4_switchPin_66 : decode cX4_switchPin 66 = .ok (.iload_n 3, 1) := by decide +kernel
theorem dX4_switchPin_67 : decode cX4_switchPin 67 = .ok (.ireturn, 1) := by decide +kernel
theorem dX4_isNearer_0 : decode cX4_isNearer 0 = .ok (.aload_n 0, 1) := by decide +kernel
theorem dX4_isNearer_1 : decode cX4_isNearer 1 = .ok (.getfield 40, 3) := by decide +kernel
theorem dX4_isNearer_4 : decode cX4_isNearer 4 = .ok (.iload_n 1, 1) := by decide +kernel
theorem dX4_isNearer_5 : decode cX4_isNearer 5 = .ok (.iaload, 1) := by decide +kernel
theorem dX4_isNearer_6 : decode cX4_isNearer 6 = .ok (.aload_n 0, 1) := by decide +kernel
theorem dX4_isNearer_7 : decode cX4_isNearer 7 = .ok (.getfield 40, 3) := by decide +kernel
theorem dX4_isNearer_10 : decode cX4_isNearer 10 = .ok (.iload_n 2, 1) := by decide +kernel
theorem dX4_isNearer_11 : decode cX4_isNearer 11 = .ok (.iaload, 1) := by decide +kernel
theorem dX4_isNearer_12 : decode cX4_isNearer 12 = .ok (.isub, 1) := by decide +kernel
theorem dX4_isNearer_13 : decode cX4_isNearer 13 = .ok (.istore_n 3, 1) := by decide +kernel
theorem dX4_isNearer_14 : decode cX4_isNearer 14 = .ok (.iload_n 3, 1) := by decide +kernel
theorem dX4_isNearer_15 : decode cX4_isNearer 15 = .ok (.ifCond .lt 12, 3) := by decide +kernel
theorem dX4_isNearer_18 : decode cX4_isNearer 18 = .ok (.iload_n 3, 1) := by decide +kernel
theorem dX4_isNearer_19 : decode cX4_isNearer 19 = .ok (.ifCond .ne 12, 3) := by decide +kernel
theorem dX4_isNearer_22 : decode cX4_isNearer 22 = .ok (.iload_n 1, 1) := by decide +kernel
theorem dX4_isNearer_23 : decode cX4_isNearer 23 = .ok (.iload_n 2, 1) := by decide +kernel
theorem dX4_isNearer_24 : decode cX4_isNearer 24 = .ok (.if_icmp .ge 7, 3) := by decide +kernel
theorem dX4_isNearer_27 : decode cX4_isNearer 27 = .ok (.iconst 1, 1) := by decide +kernel
theorem dX4_isNearer_28 : decode cX4_isNearer 28 = .ok (.goto 4, 3) := by decide +kernel
theorem dX4_isNearer_31 : decode cX4_isNearer 31 = .ok (.iconst 0, 1) := by decide +kernel
theorem dX4_isNearer_32 : decode cX4_isNearer 32 = .ok (.ireturn, 1) := by decide +kernel
set_option maxRecDepth 20000 in
theorem ggX4_followBack_X4_settingBack : GoodIn wsX4_followBack wsX4_settingBack := goodIn_r _ [8, 3, 9, 10, 11, 12, 13, 14, 15, 16, 17, 18, 19, 20, 21, 22, 23, 24, 25, 26, 27, 28, 29, 30, 31] (by decide +kernel) (by decide +kernel)
set_option maxRecDepth 20000 in
theorem gX4_followBack_X4_settingBack : GoodIn wsX4_followBack (wsV RX4 144 RX4 yX4_settingBack wsX4_settingBack) := goodIn_app (goodIn_of _ (by decide +kernel)) ggX4_followBack_X4_settingBack
set_option maxRecDepth 20000 in
theorem ggX4_followBack_X1_beforeChannel : GoodIn wsX4_followBack wsX1_beforeChannel := goodIn_r _ [15, 16, 28, 29, 30, 31] (by decide +kernel) (by decide +kernel)
set_option maxRecDepth 20000 in
theorem gX4_followBack_X1_beforeChannel : GoodIn wsX4_followBack (wsV RX4 147 RX1 yX1_beforeChannel wsX1_beforeChannel) := goodIn_app (goodIn_of _ (by decide +kernel)) ggX4_followBack_X1_beforeChannel
theorem dX4_followBack_0 : decode cX4_followBack 0 = .ok (.iload_n 1, 1) := by decide +kernel
theorem dX4_followBack_1 : decode cX4_followBack 1 = .ok (.istore_n 2, 1) := by decide +kernel
theorem dX4_followBack_2 : decode cX4_followBack 2 = .ok (.iconst 0, 1) := by decide +kernel
theorem dX4_followBack_3 : decode cX4_followBack 3 = .ok (.istore_n 3, 1) := by decide +kernel
theorem dX4_followBack_4 : decode cX4_followBack 4 = .ok (.iload_n 3, 1) := by decide +kernel
theorem dX4_followBack_5 : decode cX4_followBack 5 = .ok (.sipush 148, 3) := by decide +kernel
theorem dX4_followBack_8 : decode cX4_followBack 8 = .ok (.if_icmp .ge 63, 3) := by decide +kernel
theorem dX4_followBack_11 : decode cX4_followBack 11 = .ok (.iload_n 2, 1) := by decide +kernel
theorem dX4_followBack_12 : decode cX4_followBack 12 = .ok (.iconst (-1), 1) := by decide +kernel
theorem dX4_followBack_13 : decode cX4_followBack 13 = .ok (.if_icmp .eq 58, 3) := by decide +kernel
theorem dX4_followBack_16 : decode cX4_followBack 16 = .ok (.aload_n 0, 1) := by decide +kernel
theorem dX4_followBack_17 : decode cX4_followBack 17 = .ok (.getfield 43, 3) := by decide +kernel
theorem dX4_followBack_20 : decode cX4_followBack 20 = .ok (.iload_n 2, 1) := by decide +kernel
theorem dX4_followBack_21 : decode cX4_followBack 21 = .ok (.baload, 1) := by decide +kernel
theorem dX4_followBack_22 : decode cX4_followBack 22 = .ok (.ifCond .ne 49, 3) := by decide +kernel
theorem dX4_followBack_25 : decode cX4_followBack 25 = .ok (.aload_n 0, 1) := by decide +kernel
theorem dX4_followBack_26 : decode cX4_followBack 26 = .ok (.getfield 43, 3) := by decide +kernel
theorem dX4_followBack_29 : decode cX4_followBack 29 = .ok (.iload_n 2, 1) := by decide +kernel
theorem dX4_followBack_30 : decode cX4_followBack 30 = .ok (.iconst 1, 1) := by decide +kernel
theorem dX4_followBack_31 : decode cX4_followBack 31 = .ok (.bastore, 1) := by decide +kernel
theorem dX4_followBack_32 : decode cX4_followBack 32 = .ok (.aload_n 0, 1) := by decide +kernel
theorem dX4_followBack_33 : decode cX4_followBack 33 = .ok (.iload_n 2, 1) := by decide +kernel
theorem dX4_followBack_34 : decode cX4_followBack 34 = .ok (.invokevirtual 144, 3) := by decide +kernel
theorem dX4_followBack_37 : decode cX4_followBack 37 = .ok (.istore 4, 2) := by decide +kernel
theorem dX4_followBack_39 : decode cX4_followBack 39 = .ok (.iload_n 2, 1) := by decide +kernel
theorem dX4_followBack_40 : decode cX4_followBack 40 = .ok (.sipush 144, 3) := by decide +kernel
theorem dX4_followBack_43 : decode cX4_followBack 43 = .ok (.if_icmp .ge 11, 3) := by decide +kernel
theorem dX4_followBack_46 : decode cX4_followBack 46 = .ok (.aload_n 0, 1) := by decide +kernel
theorem dX4_followBack_47 : decode cX4_followBack 47 = .ok (.getfield 47, 3) := by decide +kernel
theorem dX4_followBack_50 : decode cX4_followBack 50 = .ok (.iload_n 2, 1) := by decide +kernel
theorem dX4_followBack_51 : decode cX4_followBack 51 = .ok (.iload 4, 2) := by decide +kernel
theorem dX4_followBack_53 : decode cX4_followBack 53 = .ok (.iastore, 1) := by decide +kernel
theorem dX4_followBack_54 : decode cX4_followBack 54 = .ok (.aload_n 0, 1) := by decide +kernel
theorem dX4_followBack_55 : decode cX4_followBack 55 = .ok (.getfield 9, 3) := by decide +kernel
theorem dX4_followBack_58 : decode cX4_followBack 58 = .ok (.iload_n 2, 1) := by decide +kernel
theorem dX4_followBack_59 : decode cX4_followBack 59 = .ok (.iload 4, 2) := by decide +kernel
theorem dX4_followBack_61 : decode cX4_followBack 61 = .ok (.invokevirtual 147, 3) := by decide +kernel
theorem dX4_followBack_64 : decode cX4_followBack 64 = .ok (.istore_n 2, 1) := by decide +kernel
theorem dX4_followBack_65 : decode cX4_followBack 65 = .ok (.iinc 3 1, 3) := by decide +kernel
theorem dX4_followBack_68 : decode cX4_followBack 68 = .ok (.goto (-64), 3) := by decide +kernel
theorem dX4_followBack_71 : decode cX4_followBack 71 = .ok (.return_, 1) := by decide +kernel
set_option maxRecDepth 20000 in
theorem ggX4_settingBack_X1_beforeChannel : GoodIn wsX4_settingBack wsX1_beforeChannel := goodIn_r _ [8, 9, 21, 22, 23, 24] (by decide +kernel) (by decide +kernel)
set_option maxRecDepth 20000 in
theorem gX4_settingBack_X1_beforeChannel : GoodIn wsX4_settingBack (wsV RX4 147 RX1 yX1_beforeChannel wsX1_beforeChannel) := goodIn_app (goodIn_of _ (by decide +kernel)) ggX4_settingBack_X1_beforeChannel
theorem dX4_settingBack_0 : decode cX4_settingBack 0 = .ok (.iconst (-1), 1) := by decide +kernel
theorem dX4_settingBack_1 : decode cX4_settingBack 1 = .ok (.istore_n 2, 1) := by decide +kernel
theorem dX4_settingBack_2 : decode cX4_settingBack 2 = .ok (.iconst 0, 1) := by decide +kernel
theorem dX4_settingBack_3 : decode cX4_settingBack 3 = .ok (.istore_n 3, 1) := by decide +kernel
theorem dX4_settingBack_4 : decode cX4_settingBack 4 = .ok (.iconst 1, 1) := by decide +kernel
theorem dX4_settingBack_5 : decode cX4_settingBack 5 = .ok (.istore 4, 2) := by decide +kernel
theorem dX4_settingBack_7 : decode cX4_settingBack 7 = .ok (.iload 4, 2) := by decide +kernel
theorem dX4_settingBack_9 : decode cX4_settingBack 9 = .ok (.iconst 5, 1) := by decide +kernel
theorem dX4_settingBack_10 : decode cX4_settingBack 10 = .ok (.if_icmp .ge 79, 3) := by decide +kernel
theorem dX4_settingBack_13 : decode cX4_settingBack 13 = .ok (.aload_n 0, 1) := by decide +kernel
theorem dX4_settingBack_14 : decode cX4_settingBack 14 = .ok (.getfield 9, 3) := by decide +kernel
theorem dX4_settingBack_17 : decode cX4_settingBack 17 = .ok (.iload_n 1, 1) := by decide +kernel
theorem dX4_settingBack_18 : decode cX4_settingBack 18 = .ok (.iload 4, 2) := by decide +kernel
theorem dX4_settingBack_20 : decode cX4_settingBack 20 = .ok (.invokevirtual 147, 3) := by decide +kernel
theorem dX4_settingBack_23 : decode cX4_settingBack 23 = .ok (.istore 5, 2) := by decide +kernel
theorem dX4_settingBack_25 : decode cX4_settingBack 25 = .ok (.iload 5, 2) := by decide +kernel
theorem dX4_settingBack_27 : decode cX4_settingBack 27 = .ok (.iconst (-1), 1) := by decide +kernel
theorem dX4_settingBack_28 : decode cX4_settingBack 28 = .ok (.if_icmp .eq 30, 3) := by decide +kernel
theorem dX4_settingBack_31 : decode cX4_settingBack 31 = .ok (.aload_n 0, 1) := by decide +kernel
theorem dX4_settingBack_32 : decode cX4_settingBack 32 = .ok (.getfield 40, 3) := by decide +kernel
theorem dX4_settingBack_35 : decode cX4_settingBack 35 = .ok (.iload 5, 2) := by decide +kernel
theorem dX4_settingBack_37 : decode cX4_settingBack 37 = .ok (.iaload, 1) := by decide +kernel
theorem dX4_settingBack_38 : decode cX4_settingBack 38 = .ok (.aload_n 0, 1) := by decide +kernel
theorem dX4_settingBack_39 : decode cX4_settingBack 39 = .ok (.getfield 37, 3) := by decide +kernel
theorem dX4_settingBack_42 : decode cX4_settingBack 42 = .ok (.iload_n 1, 1) := by decide +kernel
theorem dX4_settingBack_43 : decode cX4_settingBack 43 = .ok (.iaload, 1) := by decide +kernel
theorem dX4_settingBack_44 : decode cX4_settingBack 44 = .ok (.iadd, 1) := by decide +kernel
theorem dX4_settingBack_45 : decode cX4_settingBack 45 = .ok (.aload_n 0, 1) := by decide +kernel
theorem dX4_settingBack_46 : decode cX4_settingBack 46 = .ok (.getfield 40, 3) := by decide +kernel
theorem dX4_settingBack_49 : decode cX4_settingBack 49 = .ok (.iload_n 1, 1) := by decide +kernel
theorem dX4_settingBack_50 : decode cX4_settingBack 50 = .ok (.iaload, 1) := by decide +kernel
theorem dX4_settingBack_51 : decode cX4_settingBack 51 = .ok (.if_icmp .ne 7, 3) := by decide +kernel
theorem dX4_settingBack_54 : decode cX4_settingBack 54 = .ok (.iconst 1, 1) := by decide +kernel
theorem dX4_settingBack_55 : decode cX4_settingBack 55 = .ok (.goto 4, 3) := by decide +kernel
theorem dX4_settingBack_58 : decode cX4_settingBack 58 = .ok (.iconst 0, 1) := by decide +kernel
theorem dX4_settingBack_59 : decode cX4_settingBack 59 = .ok (.istore 6, 2) := by decide +kernel
theorem dX4_settingBack_61 : decode cX4_settingBack 61 = .ok (.iload 6, 2) := by decide +kernel
theorem dX4_settingBack_63 : decode cX4_settingBack 63 = .ok (.ifCond .eq 20, 3) := by decide +kernel
theorem dX4_settingBack_66 : decode cX4_settingBack 66 = .ok (.iload_n 2, 1) := by decide +kernel
theorem dX4_settingBack_67 : decode cX4_settingBack 67 = .ok (.iconst (-1), 1) := by decide +kernel
theorem dX4_settingBack_68 : decode cX4_settingBack 68 = .ok (.if_icmp .eq 9, 3) := by decide +kernel
theorem dX4_settingBack_71 : decode cX4_settingBack 71 = .ok (.iload 5, 2) := by decide +kernel
theorem dX4_settingBack_73 : decode cX4_settingBack 73 = .ok (.iload_n 2, 1) := by decide +kernel
theorem dX4_settingBack_74 : decode cX4_settingBack 74 = .ok (.if_icmp .ge 9, 3) := by decide +kernel
theorem dX4_settingBack_77 : decode cX4_settingBack 77 = .ok (.iload 5, 2) := by decide +kernel
theorem dX4_settingBack_79 : decode cX4_settingBack 79 = .ok (.istore_n 2, 1) := by decide +kernel
theorem dX4_settingBack_80 : decode cX4_settingBack 80 = .ok (.iload 4, 2) := by decide +kernel
theorem dX4_settingBack_82 : decode cX4_settingBack 82 = .ok (.istore_n 3, 1) := by decide +kernel
theorem dX4_settingBack_83 : decode cX4_settingBack 83 = .ok (.iinc 4 1, 3) := by decide +kernel
theorem dX4_settingBack_86 : decode cX4_settingBack 86 = .ok (.goto (-79), 3) := by decide +kernel
theorem dX4_settingBack_89 : decode cX4_settingBack 89 = .ok (.iload_n 3, 1) := by decide +kernel
theorem dX4_settingBack_90 : decode cX4_settingBack 90 = .ok (.ireturn, 1) := by decide +kernel
set_option maxRecDepth 20000 in
theorem ggX5_init_J7_fill_53178 : GoodIn wsX5_init wsJ7_fill_53178 := goodIn_r _ [15] (by decide +kernel) (by decide +kernel)
set_option maxRecDepth 20000 in
theorem gX5_init_J7_fill_53178 : GoodIn wsX5_init (va_wsS RX5 32 yJ7_fill_53178 wsJ7_fill_53178) := goodIn_app (goodIn_of _ (by decide +kernel)) ggX5_init_J7_fill_53178
theorem dX5_init_0 : decode cX5_init 0 = .ok (.aload_n 0, 1) := by decide +kernel
theorem dX5_init_1 : decode cX5_init 1 = .ok (.invokespecial 3, 3) := by decide +kernel
theorem dX5_init_4 : decode cX5_init 4 = .ok (.aload_n 0, 1) := by decide +kernel
theorem dX5_init_5 : decode cX5_init 5 = .ok (.aload_n 1, 1) := by decide +kernel
theorem dX5_init_6 : decode cX5_init 6 = .ok (.putfield 9, 3) := by decide +kernel
theorem dX5_init_9 : decode cX5_init 9 = .ok (.aload_n 0, 1) := by decide +kernel
theorem dX5_init_10 : decode cX5_init 10 = .ok (.bipush 16, 2) := by decide +kernel
theorem dX5_init_12 : decode cX5_init 12 = .ok (.newarray .long, 2) := by decide +kernel
theorem dX5_init_14 : decode cX5_init 14 = .ok (.putfield 15, 3) := by decide +kernel
theorem dX5_init_17 : decode cX5_init 17 = .ok (.aload_n 0, 1) := by decide +kernel
theorem dX5_init_18 : decode cX5_init 18 = .ok (.bipush 16, 2) := by decide +kernel
theorem dX5_init_20 : decode cX5_init 20 = .ok (.newarray .int, 2) := by decide +kernel
theorem dX5_init_22 : decode cX5_init 22 = .ok (.putfield 19, 3) := by decide +kernel
theorem dX5_init_25 : decode cX5_init 25 = .ok (.aload_n 0, 1) := by decide +kernel
theorem dX5_init_26 : decode cX5_init 26 = .ok (.bipush 16, 2) := by decide +kernel
theorem dX5_init_28 : decode cX5_init 28 = .ok (.newarray .int, 2) := by decide +kernel
theorem dX5_init_30 : decode cX5_init 30 = .ok (.putfield 23, 3) := by decide +kernel
theorem dX5_init_33 : decode cX5_init 33 = .ok (.aload_n 0, 1) := by decide +kernel
theorem dX5_init_34 : decode cX5_init 34 = .ok (.bipush 52, 2) := by decide +kernel
theorem dX5_init_36 : decode cX5_init 36 = .ok (.newarray .int, 2) := by decide +kernel
theorem dX5_init_38 : decode cX5_init 38 = .ok (.putfield 26, 3) := by decide +kernel
theorem dX5_init_41 : decode cX5_init 41 = .ok (.aload_n 0, 1) := by decide +kernel
theorem dX5_init_42 : decode cX5_init 42 = .ok (.bipush 52, 2) := by decide +kernel
theorem dX5_init_44 : decode cX5_init 44 = .ok (.newarray .int, 2) := by decide +kernel
theorem dX5_init_46 : decode cX5_init 46 = .ok (.putfield 29, 3) := by decide +kernel
theorem dX5_init_49 : decode cX5_init 49 = .ok (.aload_n 0, 1) := by decide +kernel
theorem dX5_init_50 : decode cX5_init 50 = .ok (.getfield 26, 3) := by decide +kernel
theorem dX5_init_53 : decode cX5_init 53 = .ok (.iconst (-1), 1) := by decide +kernel
theorem dX5_init_54 : decode cX5_init 54 = .ok (.invokestatic 32, 3) := by decide +kernel
theorem dX5_init_57 : decode cX5_init 57 = .ok (.return_, 1) := by decide +kernel
set_option maxRecDepth 20000 in
theorem ggX5_areLegal_X5_pinSetting : GoodIn wsX5_areLegal wsX5_pinSetting := goodIn_r _ [5] (by decide +kernel) (by decide +kernel)
set_option maxRecDepth 20000 in
theorem gX5_areLegal_X5_pinSetting : GoodIn wsX5_areLegal (va_wsS RX5 40 yX5_pinSetting wsX5_pinSetting) := goodIn_app (goodIn_of _ (by decide +kernel)) ggX5_areLegal_X5_pinSetting
set_option maxRecDepth 20000 in
theorem ggX5_areLegal_X5_channelSetting : GoodIn wsX5_areLegal wsX5_channelSetting := goodIn_r _ [8] (by decide +kernel) (by decide +kernel)
set_option maxRecDepth 20000 in
theorem gX5_areLegal_X5_channelSetting : GoodIn wsX5_areLegal (va_wsS RX5 44 yX5_channelSetting wsX5_channelSetting) := goodIn_app (goodIn_of _ (by decide +kernel)) ggX5_areLegal_X5_channelSetting
theorem dX5_areLegal_0 : decode cX5_areLegal 0 = .ok (.lload_n 0, 1) := by decide +kernel
theorem dX5_areLegal_1 : decode cX5_areLegal 1 = .ok (.lconst 0, 1) := by decide +kernel
theorem dX5_areLegal_2 : decode cX5_areLegal 2 = .ok (.lcmp, 1) := by decide +kernel
theorem dX5_areLegal_3 : decode cX5_areLegal 3 = .ok (.ifCond .lt 11, 3) := by decide +kernel
theorem dX5_areLegal_6 : decode cX5_areLegal 6 = .ok (.lload_n 0, 1) := by decide +kernel
theorem dX5_areLegal_7 : decode cX5_areLegal 7 = .ok (.ldc2_w 38, 3) := by decide +kernel
theorem dX5_areLegal_10 : decode cX5_areLegal 10 = .ok (.lcmp, 1) := by decide +kernel
theorem dX5_areLegal_11 : decode cX5_areLegal 11 = .ok (.ifCond .lt 5, 3) := by decide +kernel
theorem dX5_areLegal_14 : decode cX5_areLegal 14 = .ok (.iconst 0, 1) := by decide +kernel
theorem dX5_areLegal_15 : decode cX5_areLegal 15 = .ok (.ireturn, 1) := by decide +kernel
theorem dX5_areLegal_16 : decode cX5_areLegal 16 = .ok (.iconst 0, 1) := by decide +kernel
theorem dX5_areLegal_17 : decode cX5_areLegal 17 = .ok (.istore_n 2, 1) := by decide +kernel
theorem dX5_areLegal_18 : decode cX5_areLegal 18 = .ok (.iload_n 2, 1) := by decide +kernel
theorem dX5_areLegal_19 : decode cX5_areLegal 19 = .ok (.iconst 3, 1) := by decide +kernel
theorem dX5_areLegal_20 : decode cX5_areLegal 20 = .ok (.if_icmp .ge 21, 3) := by decide +kernel
theorem dX5_areLegal_23 : decode cX5_areLegal 23 = .ok (.lload_n 0, 1) := by decide +kernel
theorem dX5_areLegal_24 : decode cX5_areLegal 24 = .ok (.iload_n 2, 1) := by decide +kernel
theorem dX5_areLegal_25 : decode cX5_areLegal 25 = .ok (.invokestatic 40, 3) := by decide +kernel
theorem dX5_areLegal_28 : decode cX5_areLegal 28 = .ok (.bipush 10, 2) := by decide +kernel
theorem dX5_areLegal_30 : decode cX5_areLegal 30 = .ok (.if_icmp .lt 5, 3) := by decide +kernel
theorem dX5_areLegal_33 : decode cX5_areLegal 33 = .ok (.iconst 0, 1) := by decide +kernel
theorem dX5_areLegal_34 : decode cX5_areLegal 34 = .ok (.ireturn, 1) := by decide +kernel
theorem dX5_areLegal_35 : decode cX5_areLegal 35 = .ok (.iinc 2 1, 3) := by decide +kernel
theorem dX5_areLegal_38 : decode cX5_areLegal 38 = .ok (.goto (-20), 3) := by decide +kernel
theorem dX5_areLegal_41 : decode cX5_areLegal 41 = .ok (.iconst 0, 1) := by decide +kernel
theorem dX5_areLegal_42 : decode cX5_areLegal 42 = .ok (.istore_n 2, 1) := by decide +kernel
theorem dX5_areLegal_43 : decode cX5_areLegal 43 = .ok (.iload_n 2, 1) := by decide +kernel
theorem dX5_areLegal_44 : decode cX5_areLegal 44 = .ok (.bipush 8, 2) := by decide +kernel
theorem dX5_areLegal_46 : decode cX5_areLegal 46 = .ok (.if_icmp .ge 20, 3) := by decide +kernel
theorem dX5_areLegal_49 : decode cX5_areLegal 49 = .ok (.lload_n 0, 1) := by decide +kernel
theorem dX5_areLegal_50 : decode cX5_areLegal 50 = .ok (.iload_n 2, 1) := by decide +kernel
theorem dX5_areLegal_51 : decode cX5_areLegal 51 = .ok (.invokestatic 44, 3) := by decide +kernel
theorem dX5_areLegal_54 : decode cX5_areLegal 54 = .ok (.iconst 5, 1) := by decide +kernel
theorem dX5_areLegal_55 : decode cX5_areLegal 55 = .ok (.if_icmp .lt 5, 3) := by decide +kernel
theorem dX5_areLegal_58 : decode cX5_areLegal 58 = .ok (.iconst 0, 1) := by decide +kernel
theorem dX5_areLegal_59 : decode cX5_areLegal 59 = .ok (.ireturn, 1) := by decide +kernel
theorem dX5_areLegal_60 : decode cX5_areLegal 60 = .ok (.iinc 2 1, 3) := by decide +kernel
theorem dX5_areLegal_63 : decode cX5_areLegal 63 = .ok (.goto (-20), 3) := by decide +kernel
theorem dX5_areLegal_66 : decode cX5_areLegal 66 = .ok (.iconst 1, 1) := by decide +kernel
theorem dX5_areLegal_67 : decode cX5_areLegal 67 = .ok (.ireturn, 1) := by decide +kernel
theorem dX5_bitsOf_0 : decode cX5_bitsOf 0 = .ok (.iload_n 1, 1) := by decide +kernel
theorem dX5_bitsOf_1 : decode cX5_bitsOf 1 = .ok (.ifCond .lt 9, 3) := by decide +kernel
theorem dX5_bitsOf_4 : decode cX5_bitsOf 4 = .ok (.iload_n 1, 1) := by decide +kernel
theorem dX5_bitsOf_5 : decode cX5_bitsOf 5 = .ok (.bipush 16, 2) := by decide +kernel
theorem dX5_bitsOf_7 : decode cX5_bitsOf 7 = .ok (.if_icmp .lt 7, 3) := by decide +kernel
theorem dX5_bitsOf_10 : decode cX5_bitsOf 10 = .ok (.lconst 0, 1) := by decide +kernel
theorem dX5_bitsOf_11 : decode cX5_bitsOf 11 = .ok (.goto 9, 3) := by decide +kernel
theorem dX5_bitsOf_14 : decode cX5_bitsOf 14 = .ok (.aload_n 0, 1) := by decide +kernel
theorem dX5_bitsOf_15 : decode cX5_bitsOf 15 = .ok (.getfield 15, 3) := by decide +kernel
theorem dX5_bitsOf_18 : decode cX5_bitsOf 18 = .ok (.iload_n 1, 1) := by decide +kernel
theorem dX5_bitsOf_19 : decode cX5_bitsOf 19 = .ok (.laload, 1) := by decide +kernel
theorem dX5_bitsOf_20 : decode cX5_bitsOf 20 = .ok (.lreturn, 1) := by decide +kernel
set_option maxRecDepth 20000 in
theorem ggX5_hasRegister_X5_bitsOf : GoodIn wsX5_hasRegister wsX5_bitsOf := goodIn_r _ [5, 6, 7, 8, 9, 10, 11, 12] (by decide +kernel) (by decide +kernel)
set_option maxRecDepth 20000 in
theorem gX5_hasRegister_X5_bitsOf : GoodIn wsX5_hasRegister (wsV RX5 47 RX5 yX5_bitsOf wsX5_bitsOf) := goodIn_app (goodIn_of _ (by decide +kernel)) ggX5_hasRegister_X5_bitsOf
theorem dX5_hasRegister_0 : decode cX5_hasRegister 0 = .ok (.aload_n 0, 1) := by decide +kernel
theorem dX5_hasRegister_1 : decode cX5_hasRegister 1 = .ok (.iload_n 1, 1) := by decide +kernel
theorem dX5_hasRegister_2 : decode cX5_hasRegister 2 = .ok (.invokevirtual 47, 3) := by decide +kernel
theorem dX5_hasRegister_5 : decode cX5_hasRegister 5 = .ok (.bipush 8, 2) := by decide +kernel
theorem dX5_hasRegister_7 : decode cX5_hasRegister 7 = .ok (.lshr, 1) := by decide +kernel
theorem dX5_hasRegister_8 : decode cX5_hasRegister 8 = .ok (.lconst 1, 1) := by decide +kernel
theorem dX5_hasRegister_9 : decode cX5_hasRegister 9 = .ok (.land, 1) := by decide +kernel
theorem dX5_hasRegister_10 : decode cX5_hasRegister 10 = .ok (.lconst 1, 1) := by decide +kernel
theorem dX5_hasRegister_11 : decode cX5_hasRegister 11 = .ok (.lcmp, 1) := by decide +kernel
theorem dX5_hasRegister_12 : decode cX5_hasRegister 12 = .ok (.ifCond .ne 7, 3) := by decide +kernel
theorem dX5_hasRegister_15 : decode cX5_hasRegister 15 = .ok (.iconst 1, 1) := by decide +kernel
theorem dX5_hasRegister_16 : decode cX5_hasRegister 16 = .ok (.goto 4, 3) := by decide +kernel
theorem dX5_hasRegister_19 : decode cX5_hasRegister 19 = .ok (.iconst 0, 1) := by decide +kernel
theorem dX5_hasRegister_20 : decode cX5_hasRegister 20 = .ok (.ireturn, 1) := by decide +kernel
set_option maxRecDepth 20000 in
theorem ggX5_setBits_X5_hasRegister : GoodIn wsX5_setBits wsX5_hasRegister := goodIn_r _ [7, 8, 9, 10, 6, 11, 1, 12, 13, 14, 15, 16, 17] (by decide +kernel) (by decide +kernel)
set_option maxRecDepth 20000 in
theorem gX5_setBits_X5_hasRegister : GoodIn wsX5_setBits (wsV RX5 51 RX5 yX5_hasRegister wsX5_hasRegister) := goodIn_app (goodIn_of _ (by decide +kernel)) ggX5_setBits_X5_hasRegister
theorem dX5_setBits_0 : decode cX5_setBits 0 = .ok (.iload_n 1, 1) := by decide +kernel
theorem dX5_setBits_1 : decode cX5_setBits 1 = .ok (.ifCond .lt 9, 3) := by decide +kernel
theorem dX5_setBits_4 : decode cX5_setBits 4 = .ok (.iload_n 1, 1) := by decide +kernel
theorem dX5_setBits_5 : decode cX5_setBits 5 = .ok (.bipush 16, 2) := by decide +kernel
theorem dX5_setBits_7 : decode cX5_setBits 7 = .ok (.if_icmp .lt 4, 3) := by decide +kernel
theorem dX5_setBits_10 : decode cX5_setBits 10 = .ok (.return_, 1) := by decide +kernel
theorem dX5_setBits_11 : decode cX5_setBits 11 = .ok (.aload_n 0, 1) := by decide +kernel
theorem dX5_setBits_12 : decode cX5_setBits 12 = .ok (.iload_n 1, 1) := by decide +kernel
theorem dX5_setBits_13 : decode cX5_setBits 13 = .ok (.invokevirtual 51, 3) := by decide +kernel
theorem dX5_setBits_16 : decode cX5_setBits 16 = .ok (.istore 4, 2) := by decide +kernel
theorem dX5_setBits_18 : decode cX5_setBits 18 = .ok (.aload_n 0, 1) := by decide +kernel
theorem dX5_setBits_19 : decode cX5_setBits 19 = .ok (.getfield 15, 3) := by decide +kernel
theorem dX5_setBits_22 : decode cX5_setBits 22 = .ok (.iload_n 1, 1) := by decide +kernel
theorem dX5_setBits_23 : decode cX5_setBits 23 = .ok (.lload_n 2, 1) := by decide +kernel
theorem dX5_setBits_24 : decode cX5_setBits 24 = .ok (.lastore, 1) := by decide +kernel
theorem dX5_setBits_25 : decode cX5_setBits 25 = .ok (.aload_n 0, 1) := by decide +kernel
theorem dX5_setBits_26 : decode cX5_setBits 26 = .ok (.iload_n 1, 1) := by decide +kernel
theorem dX5_setBits_27 : decode cX5_setBits 27 = .ok (.invokevirtual 51, 3) := by decide +kernel
theorem dX5_setBits_30 : decode cX5_setBits 30 = .ok (.iload 4, 2) := by decide +kernel
theorem dX5_setBits_32 : decode cX5_setBits 32 = .ok (.if_icmp .eq 10, 3) := by decide +kernel
theorem dX5_setBits_35 : decode cX5_setBits 35 = .ok (.aload_n 0, 1) := by decide +kernel
theorem dX5_setBits_36 : decode cX5_setBits 36 = .ok (.getfield 19, 3) := by decide +kernel
theorem dX5_setBits_39 : decode cX5_setBits 39 = .ok (.iload_n 1, 1) := by decide +kernel
theorem dX5_setBits_40 : decode cX5_setBits 40 = .ok (.iconst 0, 1) := by decide +kernel
theorem dX5_setBits_41 : decode cX5_setBits 41 = .ok (.iastore, 1) := by decide +kernel
theorem dX5_setBits_42 : decode cX5_setBits 42 = .ok (.return_, 1) := by decide +kernel
set_option maxRecDepth 20000 in
theorem ggX5_retrace_X5_pinSetting : GoodIn wsX5_retrace wsX5_pinSetting := goodIn_r _ [6] (by decide +kernel) (by decide +kernel)
set_option maxRecDepth 20000 in
theorem gX5_retrace_X5_pinSetting : GoodIn wsX5_retrace (va_wsS RX5 40 yX5_pinSetting wsX5_pinSetting) := goodIn_app (goodIn_of _ (by decide +kernel)) ggX5_retrace_X5_pinSetting
set_option maxRecDepth 20000 in
theorem ggX5_retrace_X1_beforePin : GoodIn wsX5_retrace wsX1_beforePin := goodIn_r _ [11, 12, 49, 50, 51, 52] (by decide +kernel) (by decide +kernel)
set_option maxRecDepth 20000 in
theorem gX5_retrace_X1_beforePin : GoodIn wsX5_retrace (wsV RX5 55 RX1 yX1_beforePin wsX1_beforePin) := goodIn_app (goodIn_of _ (by decide +kernel)) ggX5_retrace_X1_beforePin
set_option maxRecDepth 20000 in
theorem ggX5_retrace_X5_trace : GoodIn wsX5_retrace wsX5_trace := goodIn_r _ [16, 2, 17, 18, 19, 20, 10, 21, 22, 23, 24, 5, 25, 1, 26, 27, 28, 29, 30, 31, 32, 33, 34, 35, 36, 43, 44, 45, 46, 47, 48, 49, 50, 51, 52] (by decide +kernel) (by decide +kernel)
set_option maxRecDepth 20000 in
theorem gX5_retrace_X5_trace : GoodIn wsX5_retrace (wsV RX5 61 RX5 yX5_trace wsX5_trace) := goodIn_app (goodIn_of _ (by decide +kernel)) ggX5_retrace_X5_trace
set_option maxRecDepth 20000 in
theorem ggX5_retrace_X1_outputWire : GoodIn wsX5_retrace wsX1_outputWire := goodIn_r _ [39, 40, 41, 10, 42] (by decide +kernel) (by decide +kernel)
set_option maxRecDepth 20000 in
theorem gX5_retrace_X1_outputWire : GoodIn wsX5_retrace (va_wsS RX5 65 yX1_outputWire wsX1_outputWire) := goodIn_app (goodIn_of _ (by decide +kernel)) ggX5_retrace_X1_outputWire
theorem dX5_retrace_0 : decode cX5_retrace 0 = .ok (.iconst 0, 1) := by decide +kernel
theorem dX5_retrace_1 : decode cX5_retrace 1 = .ok (.istore_n 1, 1) := by decide +kernel
theorem dX5_retrace_2 : decode cX5_retrace 2 = .ok (.iload_n 1, 1) := by decide +kernel
theorem dX5_retrace_3 : decode cX5_retrace 3 = .ok (.bipush 48, 2) := by decide +kernel
theorem dX5_retrace_5 : decode cX5_retrace 5 = .ok (.if_icmp .ge 40, 3) := by decide +kernel
theorem dX5_retrace_8 : decode cX5_retrace 8 = .ok (.iload_n 1, 1) := by decide +kernel
theorem dX5_retrace_9 : decode cX5_retrace 9 = .ok (.iconst 3, 1) := by decide +kernel
theorem dX5_retrace_10 : decode cX5_retrace 10 = .ok (.idiv, 1) := by decide +kernel
theorem dX5_retrace_11 : decode cX5_retrace 11 = .ok (.istore_n 2, 1) := by decide +kernel
theorem dX5_retrace_12 : decode cX5_retrace 12 = .ok (.aload_n 0, 1) := by decide +kernel
theorem dX5_retrace_13 : decode cX5_retrace 13 = .ok (.getfield 15, 3) := by decide +kernel
theorem dX5_retrace_16 : decode cX5_retrace 16 = .ok (.iload_n 2, 1) := by decide +kernel
theorem dX5_retrace_17 : decode cX5_retrace 17 = .ok (.laload, 1) := by decide +kernel
theorem dX5_retrace_18 : decode cX5_retrace 18 = .ok (.iload_n 1, 1) := by decide +kernel
theorem dX5_retrace_19 : decode cX5_retrace 19 = .ok (.iconst 3, 1) := by decide +kernel
theorem dX5_retrace_20 : decode cX5_retrace 20 = .ok (.irem, 1) := by decide +kernel
theorem dX5_retrace_21 : decode cX5_retrace 21 = .ok (.invokestatic 40, 3) := by decide +kernel
theorem dX5_retrace_24 : decode cX5_retrace 24 = .ok (.istore_n 3, 1) := by decide +kernel
theorem dX5_retrace_25 : decode cX5_retrace 25 = .ok (.aload_n 0, 1) := by decide +kernel
theorem dX5_retrace_26 : decode cX5_retrace 26 = .ok (.iload_n 1, 1) := by decide +kernel
theorem dX5_retrace_27 : decode cX5_retrace 27 = .ok (.aload_n 0, 1) := by decide +kernel
theorem dX5_retrace_28 : decode cX5_retrace 28 = .ok (.getfield 9, 3) := by decide +kernel
theorem dX5_retrace_31 : decode cX5_retrace 31 = .ok (.iload_n 2, 1) := by decide +kernel
theorem dX5_retrace_32 : decode cX5_retrace 32 = .ok (.iload_n 3, 1) := by decide +kernel
theorem dX5_retrace_33 : decode cX5_retrace 33 = .ok (.invokevirtual 55, 3) := by decide +kernel
theorem dX5_retrace_36 : decode cX5_retrace 36 = .ok (.invokevirtual 61, 3) := by decide +kernel
theorem dX5_retrace_39 : decode cX5_retrace 39 = .ok (.iinc 1 1, 3) := by decide +kernel
theorem dX5_retrace_42 : decode cX5_retrace 42 = .ok (.goto (-40), 3) := by decide +kernel
theorem dX5_retrace_45 : decode cX5_retrace 45 = .ok (.iconst 0, 1) := by decide +kernel
theorem dX5_retrace_46 : decode cX5_retrace 46 = .ok (.istore_n 1, 1) := by decide +kernel
theorem dX5_retrace_47 : decode cX5_retrace 47 = .ok (.iload_n 1, 1) := by decide +kernel
theorem dX5_retrace_48 : decode cX5_retrace 48 = .ok (.iconst 4, 1) := by decide +kernel
theorem dX5_retrace_49 : decode cX5_retrace 49 = .ok (.if_icmp .ge 21, 3) := by decide +kernel
theorem dX5_retrace_52 : decode cX5_retrace 52 = .ok (.aload_n 0, 1) := by decide +kernel
theorem dX5_retrace_53 : decode cX5_retrace 53 = .ok (.bipush 48, 2) := by decide +kernel
theorem dX5_retrace_55 : decode cX5_retrace 55 = .ok (.iload_n 1, 1) := by decide +kernel
theorem dX5_retrace_56 : decode cX5_retrace 56 = .ok (.iadd, 1) := by decide +kernel
theorem dX5_retrace_57 : decode cX5_retrace 57 = .ok (.iload_n 1, 1) := by decide +kernel
theorem dX5_retrace_58 : decode cX5_retrace 58 = .ok (.invokestatic 65, 3) := by decide +kernel
theorem dX5_retrace_61 : decode cX5_retrace 61 = .ok (.invokevirtual 61, 3) := by decide +kernel
theorem dX5_retrace_64 : decode cX5_retrace 64 = .ok (.iinc 1 1, 3) := by decide +kernel
theorem dX5_retrace_67 : decode cX5_retrace 67 = .ok (.goto (-20), 3) := by decide +kernel
theorem dX5_retrace_70 : decode cX5_retrace 70 = .ok (.return_, 1) := by decide +kernel
theorem dX5_originOf_0 : decode cX5_originOf 0 = .ok (.iload_n 1, 1) := by decide +kernel
theorem dX5_originOf_1 : decode cX5_originOf 1 = .ok (.ifCond .lt 9, 3) := by decide +kernel
theorem dX5_originOf_4 : decode cX5_originOf 4 = .ok (.iload_n 1, 1) := by decide +kernel
theorem dX5_originOf_5 : decode cX5_originOf 5 = .ok (.bipush 52, 2) := by decide +kernel
theorem dX5_originOf_7 : decode cX5_originOf 7 = .ok (.if_icmp .lt 7, 3) := by decide +kernel
theorem dX5_originOf_10 : decode cX5_originOf 10 = .ok (.iconst (-1), 1) := by decide +kernel
theorem dX5_originOf_11 : decode cX5_originOf 11 = .ok (.goto 9, 3) := by decide +kernel
theorem dX5_originOf_14 : decode cX5_originOf 14 = .ok (.aload_n 0, 1) := by decide +kernel
theorem dX5_originOf_15 : decode cX5_originOf 15 = .ok (.getfield 26, 3) := by decide +kernel
theorem dX5_originOf_18 : decode cX5_originOf 18 = .ok (.iload_n 1, 1) := by decide +kernel
theorem dX5_originOf_19 : decode cX5_originOf 19 = .ok (.iaload, 1) := by decide +kernel
theorem dX5_originOf_20 : decode cX5_originOf 20 = .ok (.ireturn, 1) := by decide +kernel
theorem dX5_lengthOf_0 : decode cX5_lengthOf 0 = .ok (.iload_n 1, 1) := by decide +kernel
theorem dX5_lengthOf_1 : decode cX5_lengthOf 1 = .ok (.ifCond .lt 9, 3) := by decide +kernel
theorem dX5_lengthOf_4 : decode cX5_lengthOf 4 = .ok (.iload_n 1, 1) := by decide +kernel
theorem dX5_lengthOf_5 : decode cX5_lengthOf 5 = .ok (.bipush 52, 2) := by decide +kernel
theorem dX5_lengthOf_7 : decode cX5_lengthOf 7 = .ok (.if_icmp .lt 7, 3) := by decide +kernel
theorem dX5_lengthOf_10 : decode cX5_lengthOf 10 = .ok (.iconst 0, 1) := by decide +kernel
theorem dX5_lengthOf_11 : decode cX5_lengthOf 11 = .ok (.goto 9, 3) := by decide +kernel
theorem dX5_lengthOf_14 : decode cX5_lengthOf 14 = .ok (.aload_n 0, 1) := by decide +kernel
theorem dX5_lengthOf_15 : decode cX5_lengthOf 15 = .ok (.getfield 29, 3) := by decide +kernel
theorem dX5_lengthOf_18 : decode cX5_lengthOf 18 = .ok (.iload_n 1, 1) := by decide +kernel
theorem dX5_lengthOf_19 : decode cX5_lengthOf 19 = .ok (.iaload, 1) := by decide +kernel
theorem dX5_lengthOf_20 : decode cX5_lengthOf 20 = .ok (.ireturn, 1) := by decide +kernel
theorem dX5_sumUp_0 : decode cX5_sumUp 0 = .ok (.ldc 69, 2) := by decide +kernel
theorem dX5_sumUp_2 : decode cX5_sumUp 2 = .ok (.istore_n 1, 1) := by decide +kernel
theorem dX5_sumUp_3 : decode cX5_sumUp 3 = .ok (.iconst 0, 1) := by decide +kernel
theorem dX5_sumUp_4 : decode cX5_sumUp 4 = .ok (.istore_n 2, 1) := by decide +kernel
theorem dX5_sumUp_5 : decode cX5_sumUp 5 = .ok (.iload_n 2, 1) := by decide +kernel
theorem dX5_sumUp_6 : decode cX5_sumUp 6 = .ok (.bipush 16, 2) := by decide +kernel
theorem dX5_sumUp_8 : decode cX5_sumUp 8 = .ok (.if_icmp .ge 70, 3) := by decide +kernel
theorem dX5_sumUp_11 : decode cX5_sumUp 11 = .ok (.iconst 0, 1) := by decide +kernel
theorem dX5_sumUp_12 : decode cX5_sumUp 12 = .ok (.istore_n 3, 1) := by decide +kernel
theorem dX5_sumUp_13 : decode cX5_sumUp 13 = .ok (.iload_n 3, 1) := by decide +kernel
theorem dX5_sumUp_14 : decode cX5_sumUp 14 = .ok (.bipush 48, 2) := by decide +kernel
theorem dX5_sumUp_16 : decode cX5_sumUp 16 = .ok (.if_icmp .ge 56, 3) := by decide +kernel
theorem dX5_sumUp_19 : decode cX5_sumUp 19 = .ok (.aload_n 0, 1) := by decide +kernel
theorem dX5_sumUp_20 : decode cX5_sumUp 20 = .ok (.getfield 15, 3) := by decide +kernel
theorem dX5_sumUp_23 : decode cX5_sumUp 23 = .ok (.iload_n 2, 1) := by decide +kernel
theorem dX5_sumUp_24 : decode cX5_sumUp 24 = .ok (.laload, 1) := by decide +kernel
theorem dX5_sumUp_25 : decode cX5_sumUp 25 = .ok (.iload_n 3, 1) := by decide +kernel
theorem dX5_sumUp_26 : decode cX5_sumUp 26 = .ok (.lshr, 1) := by decide +kernel
theorem dX5_sumUp_27 : decode cX5_sumUp 27 = .ok (.lconst 1, 1) := by decide +kernel
theorem dX5_sumUp_28 : decode cX5_sumUp 28 = .ok (.land, 1) := by decide +kernel
theorem dX5_sumUp_29 : decode cX5_sumUp 29 = .ok (.l2i, 1) := by decide +kernel
theorem dX5_sumUp_30 : decode cX5_sumUp 30 = .ok (.istore 4, 2) := by decide +kernel
theorem dX5_sumUp_32 : decode cX5_sumUp 32 = .ok (.iload_n 1, 1) := by decide +kernel
theorem dX5_sumUp_33 : decode cX5_sumUp 33 = .ok (.bipush 15, 2) := by decide +kernel
theorem dX5_sumUp_35 : decode cX5_sumUp 35 = .ok (.ishr, 1) := by decide +kernel
theorem dX5_sumUp_36 : decode cX5_sumUp 36 = .ok (.iconst 1, 1) := by decide +kernel
theorem dX5_sumUp_37 : decode cX5_sumUp 37 = .ok (.iand, 1) := by decide +kernel
theorem dX5_sumUp_38 : decode cX5_sumUp 38 = .ok (.iload 4, 2) := by decide +kernel
theorem dX5_sumUp_40 : decode cX5_sumUp 40 = .ok (.ixor, 1) := by decide +kernel
theorem dX5_sumUp_41 : decode cX5_sumUp 41 = .ok (.istore 5, 2) := by decide +kernel
theorem dX5_sumUp_43 : decode cX5_sumUp 43 = .ok (.iload_n 1, 1) := by decide +kernel
theorem dX5_sumUp_44 : decode cX5_sumUp 44 = .ok (.iconst 1, 1) := by decide +kernel
theorem dX5_sumUp_45 : decode cX5_sumUp 45 = .ok (.ishl, 1) := by decide +kernel
theorem dX5_sumUp_46 : decode cX5_sumUp 46 = .ok (.ldc 69, 2) := by decide +kernel
theorem dX5_sumUp_48 : decode cX5_sumUp 48 = .ok (.iand, 1) := by decide +kernel
theorem dX5_sumUp_49 : decode cX5_sumUp 49 = .ok (.istore_n 1, 1) := by decide +kernel
theorem dX5_sumUp_50 : decode cX5_sumUp 50 = .ok (.iload 5, 2) := by decide +kernel
theorem dX5_sumUp_52 : decode cX5_sumUp 52 = .ok (.iconst 1, 1) := by decide +kernel
theorem dX5_sumUp_53 : decode cX5_sumUp 53 = .ok (.if_icmp .ne 11, 3) := by decide +kernel
theorem dX5_sumUp_56 : decode cX5_sumUp 56 = .ok (.iload_n 1, 1) := by decide +kernel
theorem dX5_sumUp_57 : decode cX5_sumUp 57 = .ok (.sipush 4129, 3) := by decide +kernel
theorem dX5_sumUp_60 : decode cX5_sumUp 60 = .ok (.ixor, 1) := by decide +kernel
theorem dX5_sumUp_61 : decode cX5_sumUp 61 = .ok (.goto 4, 3) := by decide +kernel
theorem dX5_sumUp_64 : decode cX5_sumUp 64 = .ok (.iload_n 1, 1) := by decide +kernel
theorem dX5_sumUp_65 : decode cX5_sumUp 65 = .ok (.istore_n 1, 1) := by decide +kernel
theorem dX5_sumUp_66 : decode cX5_sumUp 66 = .ok (.iinc 3 1, 3) := by decide +kernel
theorem dX5_sumUp_69 : decode cX5_sumUp 69 = .ok (.goto (-56), 3) := by decide +kernel
theorem dX5_sumUp_72 : decode cX5_sumUp 72 = .ok (.iinc 2 1, 3) := by decide +kernel
theorem dX5_sumUp_75 : decode cX5_sumUp 75 = .ok (.goto (-70), 3) := by decide +kernel
theorem dX5_sumUp_78 : decode cX5_sumUp 78 = .ok (.iload_n 1, 1) := by decide +kernel
theorem dX5_sumUp_79 : decode cX5_sumUp 79 = .ok (.ireturn, 1) := by decide +kernel
set_option maxRecDepth 20000 in
theorem ggX5_restart_X5_hasRegister : GoodIn wsX5_restart wsX5_hasRegister := goodIn_r _ [7, 8, 9, 10, 6, 11, 2, 12, 13, 14, 15, 16, 17] (by decide +kernel) (by decide +kernel)
set_option maxRecDepth 20000 in
theorem gX5_restart_X5_hasRegister : GoodIn wsX5_restart (wsV RX5 51 RX5 yX5_hasRegister wsX5_hasRegister) := goodIn_app (goodIn_of _ (by decide +kernel)) ggX5_restart_X5_hasRegister
theorem dX5_restart_0 : decode cX5_restart 0 = .ok (.iconst 0, 1) := by decide +kernel
theorem dX5_restart_1 : decode cX5_restart 1 = .ok (.istore_n 1, 1) := by decide +kernel
theorem dX5_restart_2 : decode cX5_restart 2 = .ok (.iload_n 1, 1) := by decide +kernel
theorem dX5_restart_3 : decode cX5_restart 3 = .ok (.bipush 16, 2) := by decide +kernel
theorem dX5_restart_5 : decode cX5_restart 5 = .ok (.if_icmp .ge 39, 3) := by decide +kernel
theorem dX5_restart_8 : decode cX5_restart 8 = .ok (.aload_n 0, 1) := by decide +kernel
theorem dX5_restart_9 : decode cX5_restart 9 = .ok (.getfield 19, 3) := by decide +kernel
theorem dX5_restart_12 : decode cX5_restart 12 = .ok (.iload_n 1, 1) := by decide +kernel
theorem dX5_restart_13 : decode cX5_restart 13 = .ok (.aload_n 0, 1) := by decide +kernel
theorem dX5_restart_14 : decode cX5_restart 14 = .ok (.iload_n 1, 1) := by decide +kernel
theorem dX5_restart_15 : decode cX5_restart 15 = .ok (.invokevirtual 51, 3) := by decide +kernel
theorem dX5_restart_18 : decode cX5_restart 18 = .ok (.ifCond .eq 18, 3) := by decide +kernel
theorem dX5_restart_21 : decode cX5_restart 21 = .ok (.aload_n 0, 1) := by decide +kernel
theorem dX5_restart_22 : decode cX5_restart 22 = .ok (.getfield 15, 3) := by decide +kernel
theorem dX5_restart_25 : decode cX5_restart 25 = .ok (.iload_n 1, 1) := by decide +kernel
theorem dX5_restart_26 : decode cX5_restart 26 = .ok (.laload, 1) := by decide +kernel
theorem dX5_restart_27 : decode cX5_restart 27 = .ok (.bipush 9, 2) := by decide +kernel
theorem dX5_restart_29 : decode cX5_restart 29 = .ok (.lshr, 1) := by decide +kernel
theorem dX5_restart_30 : decode cX5_restart 30 = .ok (.lconst 1, 1) := by decide +kernel
theorem dX5_restart_31 : decode cX5_restart 31 = .ok (.land, 1) := by decide +kernel
theorem dX5_restart_32 : decode cX5_restart 32 = .ok (.l2i, 1) := by decide +kernel
theorem dX5_restart_33 : decode cX5_restart 33 = .ok (.goto 4, 3) := by decide +kernel
theorem dX5_restart_36 : decode cX5_restart 36 = .ok (.iconst 0, 1) := by decide +kernel
theorem dX5_restart_37 : decode cX5_restart 37 = .ok (.iastore, 1) := by decide +kernel
theorem dX5_restart_38 : decode cX5_restart 38 = .ok (.iinc 1 1, 3) := by decide +kernel
theorem dX5_restart_41 : decode cX5_restart 41 = .ok (.goto (-39), 3) := by decide +kernel
theorem dX5_restart_44 : decode cX5_restart 44 = .ok (.return_, 1) := by decide +kernel
set_option maxRecDepth 20000 in
theorem ggX5_step_X5_hasRegister : GoodIn wsX5_step wsX5_hasRegister := goodIn_r _ [6, 7, 8, 9, 5, 10, 11, 34, 35, 36, 37, 38, 39] (by decide +kernel) (by decide +kernel)
set_option maxRecDepth 20000 in
theorem gX5_step_X5_hasRegister : GoodIn wsX5_step (wsV RX5 51 RX5 yX5_hasRegister wsX5_hasRegister) := goodIn_app (goodIn_of _ (by decide +kernel)) ggX5_step_X5_hasRegister
set_option maxRecDepth 20000 in
theorem ggX5_step_X5_tableGives : GoodIn wsX5_step wsX5_tableGives := goodIn_r _ [15, 11, 16, 17, 18, 5, 19, 1, 20, 21, 22, 23, 24, 34, 35, 36, 37, 38, 39] (by decide +kernel) (by decide +kernel)
set_option maxRecDepth 20000 in
theorem gX5_step_X5_tableGives : GoodIn wsX5_step (wsV RX5 70 RX5 yX5_tableGives wsX5_tableGives) := goodIn_app (goodIn_of _ (by decide +kernel)) ggX5_step_X5_tableGives
set_option maxRecDepth 20000 in
theorem ggX5_step_X5_valueAt : GoodIn wsX5_step wsX5_valueAt := goodIn_r _ [19, 1, 20, 21, 22, 5, 23, 24, 34, 35, 36, 37, 38, 39] (by decide +kernel) (by decide +kernel)
set_option maxRecDepth 20000 in
theorem gX5_step_X5_valueAt : GoodIn wsX5_step (wsV RX5 73 RX5 yX5_valueAt wsX5_valueAt) := goodIn_app (goodIn_of _ (by decide +kernel)) ggX5_step_X5_valueAt
set_option maxRecDepth 20000 in
theorem ggX5_step_X5_stepRegisters : GoodIn wsX5_step wsX5_stepRegisters := goodIn_r _ [28, 29, 1, 30, 31, 32, 33, 2, 3, 4, 5, 6, 7, 8, 9, 10, 11, 12, 13, 14, 15, 16, 17, 18, 19, 20, 21, 22, 23, 24, 34, 35, 36, 37, 38, 39] (by decide +kernel) (by decide +kernel)
set_option maxRecDepth 20000 in
theorem gX5_step_X5_stepRegisters : GoodIn wsX5_step (wsV RX5 76 RX5 yX5_stepRegisters wsX5_stepRegisters) := goodIn_app (goodIn_of _ (by decide +kernel)) ggX5_step_X5_stepRegisters
theorem dX5_step_0 : decode cX5_step 0 = .ok (.iconst 0, 1) := by decide +kernel
theorem dX5_step_1 : decode cX5_step 1 = .ok (.istore_n 2, 1) := by decide +kernel
theorem dX5_step_2 : decode cX5_step 2 = .ok (.iload_n 2, 1) := by decide +kernel
theorem dX5_step_3 : decode cX5_step 3 = .ok (.bipush 16, 2) := by decide +kernel
theorem dX5_step_5 : decode cX5_step 5 = .ok (.if_icmp .ge 52, 3) := by decide +kernel
theorem dX5_step_8 : decode cX5_step 8 = .ok (.iconst 0, 1) := by decide +kernel
theorem dX5_step_9 : decode cX5_step 9 = .ok (.istore_n 3, 1) := by decide +kernel
theorem dX5_step_10 : decode cX5_step 10 = .ok (.iload_n 3, 1) := by decide +kernel
theorem dX5_step_11 : decode cX5_step 11 = .ok (.bipush 16, 2) := by decide +kernel
theorem dX5_step_13 : decode cX5_step 13 = .ok (.if_icmp .ge 38, 3) := by decide +kernel
theorem dX5_step_16 : decode cX5_step 16 = .ok (.aload_n 0, 1) := by decide +kernel
theorem dX5_step_17 : decode cX5_step 17 = .ok (.getfield 19, 3) := by decide +kernel
theorem dX5_step_20 : decode cX5_step 20 = .ok (.iload_n 3, 1) := by decide +kernel
theorem dX5_step_21 : decode cX5_step 21 = .ok (.aload_n 0, 1) := by decide +kernel
theorem dX5_step_22 : decode cX5_step 22 = .ok (.iload_n 3, 1) := by decide +kernel
theorem dX5_step_23 : decode cX5_step 23 = .ok (.invokevirtual 51, 3) := by decide +kernel
theorem dX5_step_26 : decode cX5_step 26 = .ok (.ifCond .eq 12, 3) := by decide +kernel
theorem dX5_step_29 : decode cX5_step 29 = .ok (.aload_n 0, 1) := by decide +kernel
theorem dX5_step_30 : decode cX5_step 30 = .ok (.getfield 19, 3) := by decide +kernel
theorem dX5_step_33 : decode cX5_step 33 = .ok (.iload_n 3, 1) := by decide +kernel
theorem dX5_step_34 : decode cX5_step 34 = .ok (.iaload, 1) := by decide +kernel
theorem dX5_step_35 : decode cX5_step 35 = .ok (.goto 9, 3) := by decide +kernel
theorem dX5_step_38 : decode cX5_step 38 = .ok (.aload_n 0, 1) := by decide +kernel
theorem dX5_step_39 : decode cX5_step 39 = .ok (.iload_n 3, 1) := by decide +kernel
theorem dX5_step_40 : decode cX5_step 40 = .ok (.iload_n 1, 1) := by decide +kernel
theorem dX5_step_41 : decode cX5_step 41 = .ok (.invokevirtual 70, 3) := by decide +kernel
theorem dX5_step_44 : decode cX5_step 44 = .ok (.iastore, 1) := by decide +kernel
theorem dX5_step_45 : decode cX5_step 45 = .ok (.iinc 3 1, 3) := by decide +kernel
theorem dX5_step_48 : decode cX5_step 48 = .ok (.goto (-38), 3) := by decide +kernel
theorem dX5_step_51 : decode cX5_step 51 = .ok (.iinc 2 1, 3) := by decide +kernel
theorem dX5_step_54 : decode cX5_step 54 = .ok (.goto (-52), 3) := by decide +kernel
theorem dX5_step_57 : decode cX5_step 57 = .ok (.iconst 0, 1) := by decide +kernel
theorem dX5_step_58 : decode cX5_step 58 = .ok (.istore_n 2, 1) := by decide +kernel
theorem dX5_step_59 : decode cX5_step 59 = .ok (.iconst 0, 1) := by decide +kernel
theorem dX5_step_60 : decode cX5_step 60 = .ok (.istore_n 3, 1) := by decide +kernel
theorem dX5_step_61 : decode cX5_step 61 = .ok (.iload_n 3, 1) := by decide +kernel
theorem dX5_step_62 : decode cX5_step 62 = .ok (.iconst 4, 1) := by decide +kernel
theorem dX5_step_63 : decode cX5_step 63 = .ok (.if_icmp .ge 23, 3) := by decide +kernel
theorem dX5_step_66 : decode cX5_step 66 = .ok (.iload_n 2, 1) := by decide +kernel
theorem dX5_step_67 : decode cX5_step 67 = .ok (.aload_n 0, 1) := by decide +kernel
theorem dX5_step_68 : decode cX5_step 68 = .ok (.bipush 48, 2) := by decide +kernel
theorem dX5_step_70 : decode cX5_step 70 = .ok (.iload_n 3, 1) := by decide +kernel
theorem dX5_step_71 : decode cX5_step 71 = .ok (.iadd, 1) := by decide +kernel
theorem dX5_step_72 : decode cX5_step 72 = .ok (.iload_n 1, 1) := by decide +kernel
theorem dX5_step_73 : decode cX5_step 73 = .ok (.invokevirtual 73, 3) := by decide +kernel
theorem dX5_step_76 : decode cX5_step 76 = .ok (.iload_n 3, 1) := by decide +kernel
theorem dX5_step_77 : decode cX5_step 77 = .ok (.ishl, 1) := by decide +kernel
theorem dX5_step_78 : decode cX5_step 78 = .ok (.ior, 1) := by decide +kernel
theorem dX5_step_79 : decode cX5_step 79 = .ok (.istore_n 2, 1) := by decide +kernel
theorem dX5_step_80 : decode cX5_step 80 = .ok (.iinc 3 1, 3) := by decide +kernel
theorem dX5_step_83 : decode cX5_step 83 = .ok (.goto (-22), 3) := by decide +kernel
theorem dX5_step_86 : decode cX5_step 86 = .ok (.aload_n 0, 1) := by decide +kernel
theorem dX5_step_87 : decode cX5_step 87 = .ok (.iload_n 1, 1) := by decide +kernel
theorem dX5_step_88 : decode cX5_step 88 = .ok (.invokevirtual 76, 3) := by decide +kernel
theorem dX5_step_91 : decode cX5_step 91 = .ok (.iload_n 2, 1) := by decide +kernel
theorem dX5_step_92 : decode cX5_step 92 = .ok (.ireturn, 1) := by decide +kernel
theorem dX5_pinSetting_0 : decode cX5_pinSetting 0 = .ok (.lload_n 0, 1) := by decide +kernel
theorem dX5_pinSetting_1 : decode cX5_pinSetting 1 = .ok (.bipush 10, 2) := by decide +kernel
theorem dX5_pinSetting_3 : decode cX5_pinSetting 3 = .ok (.iload_n 2, 1) := by decide +kernel
theorem dX5_pinSetting_4 : decode cX5_pinSetting 4 = .ok (.iconst 4, 1) := by decide +kernel
theorem dX5_pinSetting_5 : decode cX5_pinSetting 5 = .ok (.imul, 1) := by decide +kernel
theorem dX5_pinSetting_6 : decode cX5_pinSetting 6 = .ok (.iadd, 1) := by decide +kernel
theorem dX5_pinSetting_7 : decode cX5_pinSetting 7 = .ok (.lshr, 1) := by decide +kernel
theorem dX5_pinSetting_8 : decode cX5_pinSetting 8 = .ok (.l2i, 1) := by decide +kernel
theorem dX5_pinSetting_9 : decode cX5_pinSetting 9 = .ok (.bipush 15, 2) := by decide +kernel
theorem dX5_pinSetting_11 : decode cX5_pinSetting 11 = .ok (.iand, 1) := by decide +kernel
theorem dX5_pinSetting_12 : decode cX5_pinSetting 12 = .ok (.ireturn, 1) := by decide +kernel
theorem dX5_channelSetting_0 : decode cX5_channelSetting 0 = .ok (.lload_n 0, 1) := by decide +kernel
theorem dX5_channelSetting_1 : decode cX5_channelSetting 1 = .ok (.bipush 22, 2) := by decide +kernel
theorem dX5_channelSetting_3 : decode cX5_channelSetting 3 = .ok (.iload_n 2, 1) := by decide +kernel
theorem dX5_channelSetting_4 : decode cX5_channelSetting 4 = .ok (.iconst 3, 1) := by decide +kernel
theorem dX5_channelSetting_5 : decode cX5_channelSetting 5 = .ok (.imul, 1) := by decide +kernel
theorem dX5_channelSetting_6 : decode cX5_channelSetting 6 = .ok (.iadd, 1) := by decide +kernel
theorem dX5_channelSetting_7 : decode cX5_channelSetting 7 = .ok (.lshr, 1) := by decide +kernel
theorem dX5_channelSetting_8 : decode cX5_channelSetting 8 = .ok (.l2i, 1) := by decide +kernel
theorem dX5_channelSetting_9 : decode cX5_channelSetting 9 = .ok (.bipush 7, 2) := by decide +kernel
theorem dX5_channelSetting_11 : decode cX5_channelSetting 11 = .ok (.iand, 1) := by decide +kernel
theorem dX5_channelSetting_12 : decode cX5_channelSetting 12 = .ok (.ireturn, 1) := by decide +kernel
set_option maxRecDepth 20000 in
theorem ggX5_trace_X1_isChannel : GoodIn wsX5_trace wsX1_isChannel := goodIn_r _ [7] (by decide +kernel) (by decide +kernel)
set_option maxRecDepth 20000 in
theorem gX5_trace_X1_isChannel : GoodIn wsX5_trace (va_wsS RX5 80 yX1_isChannel wsX1_isChannel) := goodIn_app (goodIn_of _ (by decide +kernel)) ggX5_trace_X1_isChannel
set_option maxRecDepth 20000 in
theorem ggX5_trace_X5_bitsOf : GoodIn wsX5_trace wsX5_bitsOf := goodIn_r _ [12, 13, 25, 26, 27, 28, 29, 30] (by decide +kernel) (by decide +kernel)
set_option maxRecDepth 20000 in
theorem gX5_trace_X5_bitsOf : GoodIn wsX5_trace (wsV RX5 47 RX5 yX5_bitsOf wsX5_bitsOf) := goodIn_app (goodIn_of _ (by decide +kernel)) ggX5_trace_X5_bitsOf
set_option maxRecDepth 20000 in
theorem ggX5_trace_X5_channelSetting : GoodIn wsX5_trace wsX5_channelSetting := goodIn_r _ [16] (by decide +kernel) (by decide +kernel)
set_option maxRecDepth 20000 in
theorem gX5_trace_X5_channelSetting : GoodIn wsX5_trace (va_wsS RX5 44 yX5_channelSetting wsX5_channelSetting) := goodIn_app (goodIn_of _ (by decide +kernel)) ggX5_trace_X5_channelSetting
set_option maxRecDepth 20000 in
theorem ggX5_trace_X1_beforeChannel : GoodIn wsX5_trace wsX1_beforeChannel := goodIn_r _ [20, 21, 31, 32, 33, 34] (by decide +kernel) (by decide +kernel)
set_option maxRecDepth 20000 in
theorem gX5_trace_X1_beforeChannel : GoodIn wsX5_trace (wsV RX5 83 RX1 yX1_beforeChannel wsX1_beforeChannel) := goodIn_app (goodIn_of _ (by decide +kernel)) ggX5_trace_X1_beforeChannel
set_option maxRecDepth 20000 in
theorem ggX5_trace_X5_originAt : GoodIn wsX5_trace wsX5_originAt := goodIn_r _ [24, 4, 5, 6, 7] (by decide +kernel) (by decide +kernel)
set_option maxRecDepth 20000 in
theorem gX5_trace_X5_originAt : GoodIn wsX5_trace (va_wsS RX5 86 yX5_originAt wsX5_originAt) := goodIn_app (goodIn_of _ (by decide +kernel)) ggX5_trace_X5_originAt
theorem dX5_trace_0 : decode cX5_trace 0 = .ok (.iload_n 2, 1) := by decide +kernel
theorem dX5_trace_1 : decode cX5_trace 1 = .ok (.istore_n 3, 1) := by decide +kernel
theorem dX5_trace_2 : decode cX5_trace 2 = .ok (.iconst 0, 1) := by decide +kernel
theorem dX5_trace_3 : decode cX5_trace 3 = .ok (.istore 4, 2) := by decide +kernel
theorem dX5_trace_5 : decode cX5_trace 5 = .ok (.iload 4, 2) := by decide +kernel
theorem dX5_trace_7 : decode cX5_trace 7 = .ok (.sipush 128, 3) := by decide +kernel
theorem dX5_trace_10 : decode cX5_trace 10 = .ok (.if_icmp .ge 50, 3) := by decide +kernel
theorem dX5_trace_13 : decode cX5_trace 13 = .ok (.iload_n 3, 1) := by decide +kernel
theorem dX5_trace_14 : decode cX5_trace 14 = .ok (.invokestatic 80, 3) := by decide +kernel
theorem dX5_trace_17 : decode cX5_trace 17 = .ok (.ifCond .eq 43, 3) := by decide +kernel
theorem dX5_trace_20 : decode cX5_trace 20 = .ok (.iinc 4 1, 3) := by decide +kernel
theorem dX5_trace_23 : decode cX5_trace 23 = .ok (.aload_n 0, 1) := by decide +kernel
theorem dX5_trace_24 : decode cX5_trace 24 = .ok (.iload_n 3, 1) := by decide +kernel
theorem dX5_trace_25 : decode cX5_trace 25 = .ok (.bipush 9, 2) := by decide +kernel
theorem dX5_trace_27 : decode cX5_trace 27 = .ok (.idiv, 1) := by decide +kernel
theorem dX5_trace_28 : decode cX5_trace 28 = .ok (.invokevirtual 47, 3) := by decide +kernel
theorem dX5_trace_31 : decode cX5_trace 31 = .ok (.lstore 5, 2) := by decide +kernel
theorem dX5_trace_33 : decode cX5_trace 33 = .ok (.lload 5, 2) := by decide +kernel
theorem dX5_trace_35 : decode cX5_trace 35 = .ok (.iload_n 3, 1) := by decide +kernel
theorem dX5_trace_36 : decode cX5_trace 36 = .ok (.bipush 9, 2) := by decide +kernel
theorem dX5_trace_38 : decode cX5_trace 38 = .ok (.irem, 1) := by decide +kernel
theorem dX5_trace_39 : decode cX5_trace 39 = .ok (.iconst 1, 1) := by decide +kernel
theorem dX5_trace_40 : decode cX5_trace 40 = .ok (.isub, 1) := by decide +kernel
theorem dX5_trace_41 : decode cX5_trace 41 = .ok (.invokestatic 44, 3) := by decide +kernel
theorem dX5_trace_44 : decode cX5_trace 44 = .ok (.istore 7, 2) := by decide +kernel
theorem dX5_trace_46 : decode cX5_trace 46 = .ok (.aload_n 0, 1) := by decide +kernel
theorem dX5_trace_47 : decode cX5_trace 47 = .ok (.getfield 9, 3) := by decide +kernel
theorem dX5_trace_50 : decode cX5_trace 50 = .ok (.iload_n 3, 1) := by decide +kernel
theorem dX5_trace_51 : decode cX5_trace 51 = .ok (.iload 7, 2) := by decide +kernel
theorem dX5_trace_53 : decode cX5_trace 53 = .ok (.invokevirtual 83, 3) := by decide +kernel
theorem dX5_trace_56 : decode cX5_trace 56 = .ok (.istore_n 3, 1) := by decide +kernel
theorem dX5_trace_57 : decode cX5_trace 57 = .ok (.goto (-52), 3) := by decide +kernel
theorem dX5_trace_60 : decode cX5_trace 60 = .ok (.aload_n 0, 1) := by decide +kernel
theorem dX5_trace_61 : decode cX5_trace 61 = .ok (.getfield 26, 3) := by decide +kernel
theorem dX5_trace_64 : decode cX5_trace 64 = .ok (.iload_n 1, 1) := by decide +kernel
theorem dX5_trace_65 : decode cX5_trace 65 = .ok (.iload_n 3, 1) := by decide +kernel
theorem dX5_trace_66 : decode cX5_trace 66 = .ok (.invokestatic 86, 3) := by decide +kernel
theorem dX5_trace_69 : decode cX5_trace 69 = .ok (.iastore, 1) := by decide +kernel
theorem dX5_trace_70 : decode cX5_trace 70 = .ok (.aload_n 0, 1) := by decide +kernel
theorem dX5_trace_71 : decode cX5_trace 71 = .ok (.getfield 29, 3) := by decide +kernel
theorem dX5_trace_74 : decode cX5_trace 74 = .ok (.iload_n 1, 1) := by decide +kernel
theorem dX5_trace_75 : decode cX5_trace 75 = .ok (.aload_n 0, 1) := by decide +kernel
theorem dX5_trace_76 : decode cX5_trace 76 = .ok (.getfield 26, 3) := by decide +kernel
theorem dX5_trace_79 : decode cX5_trace 79 = .ok (.iload_n 1, 1) := by decide +kernel
theorem dX5_trace_80 : decode cX5_trace 80 = .ok (.iaload, 1) := by decide +kernel
theorem dX5_trace_81 : decode cX5_trace 81 = .ok (.ifCond .ge 7, 3) := by decide +kernel
theorem dX5_trace_84 : decode cX5_trace 84 = .ok (.iconst 0, 1) := by decide +kernel
theorem dX5_trace_85 : decode cX5_trace 85 = .ok (.goto 5, 3) := by decide +kernel
theorem dX5_trace_88 : decode cX5_trace 88 = .ok (.iload 4, 2) := by decide +kernel
theorem dX5_trace_90 : decode cX5_trace 90 = .ok (.iastore, 1) := by decide +kernel
theorem dX5_trace_91 : decode cX5_trace 91 = .ok (.return_, 1) := by decide +kernel
set_option maxRecDepth 20000 in
theorem ggX5_originAt_X1_isChannel : GoodIn wsX5_originAt wsX1_isChannel := goodIn_r _ [4] (by decide +kernel) (by decide +kernel)
set_option maxRecDepth 20000 in
theorem gX5_originAt_X1_isChannel : GoodIn wsX5_originAt (va_wsS RX5 80 yX1_isChannel wsX1_isChannel) := goodIn_app (goodIn_of _ (by decide +kernel)) ggX5_originAt_X1_isChannel
theorem dX5_originAt_0 : decode cX5_originAt 0 = .ok (.iload_n 0, 1) := by decide +kernel
theorem dX5_originAt_1 : decode cX5_originAt 1 = .ok (.iconst (-1), 1) := by decide +kernel
theorem dX5_originAt_2 : decode cX5_originAt 2 = .ok (.if_icmp .ne 5, 3) := by decide +kernel
theorem dX5_originAt_5 : decode cX5_originAt 5 = .ok (.iconst (-1), 1) := by decide +kernel
theorem dX5_originAt_6 : decode cX5_originAt 6 = .ok (.ireturn, 1) := by decide +kernel
theorem dX5_originAt_7 : decode cX5_originAt 7 = .ok (.iload_n 0, 1) := by decide +kernel
theorem dX5_originAt_8 : decode cX5_originAt 8 = .ok (.invokestatic 80, 3) := by decide +kernel
theorem dX5_originAt_11 : decode cX5_originAt 11 = .ok (.ifCond .eq 6, 3) := by decide +kernel
theorem dX5_originAt_14 : decode cX5_originAt 14 = .ok (.bipush (-2), 2) := by decide +kernel
theorem dX5_originAt_16 : decode cX5_originAt 16 = .ok (.ireturn, 1) := by decide +kernel
theorem dX5_originAt_17 : decode cX5_originAt 17 = .ok (.iload_n 0, 1) := by decide +kernel
theorem dX5_originAt_18 : decode cX5_originAt 18 = .ok (.sipush 144, 3) := by decide +kernel
theorem dX5_originAt_21 : decode cX5_originAt 21 = .ok (.if_icmp .ge 10, 3) := by decide +kernel
theorem dX5_originAt_24 : decode cX5_originAt 24 = .ok (.iload_n 0, 1) := by decide +kernel
theorem dX5_originAt_25 : decode cX5_originAt 25 = .ok (.bipush 9, 2) := by decide +kernel
theorem dX5_originAt_27 : decode cX5_originAt 27 = .ok (.idiv, 1) := by decide +kernel
theorem dX5_originAt_28 : decode cX5_originAt 28 = .ok (.goto 11, 3) := by decide +kernel
theorem dX5_originAt_31 : decode cX5_originAt 31 = .ok (.bipush 16, 2) := by decide +kernel
theorem dX5_originAt_33 : decode cX5_originAt 33 = .ok (.iload_n 0, 1) := by decide +kernel
theorem dX5_originAt_34 : decode cX5_originAt 34 = .ok (.iadd, 1) := by decide +kernel
theorem dX5_originAt_35 : decode cX5_originAt 35 = .ok (.sipush 144, 3) := by decide +kernel
theorem dX5_originAt_38 : decode cX5_originAt 38 = .ok (.isub, 1) := by decide +kernel
theorem dX5_originAt_39 : decode cX5_originAt 39 = .ok (.ireturn, 1) := by decide +kernel
set_option maxRecDepth 20000 in
theorem ggX5_stepRegisters_X5_hasRegister : GoodIn wsX5_stepRegisters wsX5_hasRegister := goodIn_r _ [11, 12, 13, 14, 10, 15, 16, 30, 31, 32, 33, 34, 35] (by decide +kernel) (by decide +kernel)
set_option maxRecDepth 20000 in
theorem gX5_stepRegisters_X5_hasRegister : GoodIn wsX5_stepRegisters (wsV RX5 51 RX5 yX5_hasRegister wsX5_hasRegister) := goodIn_app (goodIn_of _ (by decide +kernel)) ggX5_stepRegisters_X5_hasRegister
set_option maxRecDepth 20000 in
theorem ggX5_stepRegisters_X5_tableGives : GoodIn wsX5_stepRegisters wsX5_tableGives := goodIn_r _ [20, 16, 21, 22, 23, 10, 24, 2, 25, 26, 27, 28, 29, 30, 31, 32, 33, 34, 35] (by decide +kernel) (by decide +kernel)
set_option maxRecDepth 20000 in
theorem gX5_stepRegisters_X5_tableGives : GoodIn wsX5_stepRegisters (wsV RX5 70 RX5 yX5_tableGives wsX5_tableGives) := goodIn_app (goodIn_of _ (by decide +kernel)) ggX5_stepRegisters_X5_tableGives
theorem dX5_stepRegisters_0 : decode cX5_stepRegisters 0 = .ok (.iconst 0, 1) := by decide +kernel
theorem dX5_stepRegisters_1 : decode cX5_stepRegisters 1 = .ok (.istore_n 2, 1) := by decide +kernel
theorem dX5_stepRegisters_2 : decode cX5_stepRegisters 2 = .ok (.iload_n 2, 1) := by decide +kernel
theorem dX5_stepRegisters_3 : decode cX5_stepRegisters 3 = .ok (.bipush 16, 2) := by decide +kernel
theorem dX5_stepRegisters_5 : decode cX5_stepRegisters 5 = .ok (.if_icmp .ge 38, 3) := by decide +kernel
theorem dX5_stepRegisters_8 : decode cX5_stepRegisters 8 = .ok (.aload_n 0, 1) := by decide +kernel
theorem dX5_stepRegisters_9 : decode cX5_stepRegisters 9 = .ok (.getfield 23, 3) := by decide +kernel
theorem dX5_stepRegisters_12 : decode cX5_stepRegisters 12 = .ok (.iload_n 2, 1) := by decide +kernel
theorem dX5_stepRegisters_13 : decode cX5_stepRegisters 13 = .ok (.aload_n 0, 1) := by decide +kernel
theorem dX5_stepRegisters_14 : decode cX5_stepRegisters 14 = .ok (.iload_n 2, 1) := by decide +kernel
theorem dX5_stepRegisters_15 : decode cX5_stepRegisters 15 = .ok (.invokevirtual 51, 3) := by decide +kernel
theorem dX5_stepRegisters_18 : decode cX5_stepRegisters 18 = .ok (.ifCond .eq 12, 3) := by decide +kernel
theorem dX5_stepRegisters_21 : decode cX5_stepRegisters 21 = .ok (.aload_n 0, 1) := by decide +kernel
theorem dX5_stepRegisters_22 : decode cX5_stepRegisters 22 = .ok (.iload_n 2, 1) := by decide +kernel
theorem dX5_stepRegisters_23 : decode cX5_stepRegisters 23 = .ok (.iload_n 1, 1) := by decide +kernel
theorem dX5_stepRegisters_24 : decode cX5_stepRegisters 24 = .ok (.invokevirtual 70, 3) := by decide +kernel
theorem dX5_stepRegisters_27 : decode cX5_stepRegisters 27 = .ok (.goto 9, 3) := by decide +kernel
theorem dX5_stepRegisters_30 : decode cX5_stepRegisters 30 = .ok (.aload_n 0, 1) := by decide +kernel
theorem dX5_stepRegisters_31 : decode cX5_stepRegisters 31 = .ok (.getfield 19, 3) := by decide +kernel
theorem dX5_stepRegisters_34 : decode cX5_stepRegisters 34 = .ok (.iload_n 2, 1) := by decide +kernel
theorem dX5_stepRegisters_35 : decode cX5_stepRegisters 35 = .ok (.iaload, 1) := by decide +kernel
theorem dX5_stepRegisters_36 : decode cX5_stepRegisters 36 = .ok (.iastore, 1) := by decide +kernel
theorem dX5_stepRegisters_37 : decode cX5_stepRegisters 37 = .ok (.iinc 2 1, 3) := by decide +kernel
theorem dX5_stepRegisters_40 : decode cX5_stepRegisters 40 = .ok (.goto (-38), 3) := by decide +kernel
theorem dX5_stepRegisters_43 : decode cX5_stepRegisters 43 = .ok (.aload_n 0, 1) := by decide +kernel
theorem dX5_stepRegisters_44 : decode cX5_stepRegisters 44 = .ok (.getfield 23, 3) := by decide +kernel
theorem dX5_stepRegisters_47 : decode cX5_stepRegisters 47 = .ok (.iconst 0, 1) := by decide +kernel
theorem dX5_stepRegisters_48 : decode cX5_stepRegisters 48 = .ok (.aload_n 0, 1) := by decide +kernel
theorem dX5_stepRegisters_49 : decode cX5_stepRegisters 49 = .ok (.getfield 19, 3) := by decide +kernel
theorem dX5_stepRegisters_52 : decode cX5_stepRegisters 52 = .ok (.iconst 0, 1) := by decide +kernel
theorem dX5_stepRegisters_53 : decode cX5_stepRegisters 53 = .ok (.bipush 16, 2) := by decide +kernel
theorem dX5_stepRegisters_55 : decode cX5_stepRegisters 55 = .ok (.invokestatic 89, 3) := by decide +kernel
theorem dX5_stepRegisters_58 : decode cX5_stepRegisters 58 = .ok (.return_, 1) := by decide +kernel
set_option maxRecDepth 20000 in
theorem ggX5_tableGives_X5_valueAt : GoodIn wsX5_tableGives wsX5_valueAt := goodIn_r _ [6, 7, 8, 9, 10, 5, 11, 12, 13, 14, 15, 16, 17, 18] (by decide +kernel) (by decide +kernel)
set_option maxRecDepth 20000 in
theorem gX5_tableGives_X5_valueAt : GoodIn wsX5_tableGives (wsV RX5 73 RX5 yX5_valueAt wsX5_valueAt) := goodIn_app (goodIn_of _ (by decide +kernel)) ggX5_tableGives_X5_valueAt
theorem dX5_tableGives_0 : decode cX5_tableGives 0 = .ok (.iconst 0, 1) := by decide +kernel
theorem dX5_tableGives_1 : decode cX5_tableGives 1 = .ok (.istore_n 3, 1) := by decide +kernel
theorem dX5_tableGives_2 : decode cX5_tableGives 2 = .ok (.iconst 0, 1) := by decide +kernel
theorem dX5_tableGives_3 : decode cX5_tableGives 3 = .ok (.istore 4, 2) := by decide +kernel
theorem dX5_tableGives_5 : decode cX5_tableGives 5 = .ok (.iload 4, 2) := by decide +kernel
theorem dX5_tableGives_7 : decode cX5_tableGives 7 = .ok (.iconst 3, 1) := by decide +kernel
theorem dX5_tableGives_8 : decode cX5_tableGives 8 = .ok (.if_icmp .ge 26, 3) := by decide +kernel
theorem dX5_tableGives_11 : decode cX5_tableGives 11 = .ok (.iload_n 3, 1) := by decide +kernel
theorem dX5_tableGives_12 : decode cX5_tableGives 12 = .ok (.aload_n 0, 1) := by decide +kernel
theorem dX5_tableGives_13 : decode cX5_tableGives 13 = .ok (.iload_n 1, 1) := by decide +kernel
theorem dX5_tableGives_14 : decode cX5_tableGives 14 = .ok (.iconst 3, 1) := by decide +kernel
theorem dX5_tableGives_15 : decode cX5_tableGives 15 = .ok (.imul, 1) := by decide +kernel
theorem dX5_tableGives_16 : decode cX5_tableGives 16 = .ok (.iload 4, 2) := by decide +kernel
theorem dX5_tableGives_18 : decode cX5_tableGives 18 = .ok (.iadd, 1) := by decide +kernel
theorem dX5_tableGives_19 : decode cX5_tableGives 19 = .ok (.iload_n 2, 1) := by decide +kernel
theorem dX5_tableGives_20 : decode cX5_tableGives 20 = .ok (.invokevirtual 73, 3) := by decide +kernel
theorem dX5_tableGives_23 : decode cX5_tableGives 23 = .ok (.iload 4, 2) := by decide +kernel
theorem dX5_tableGives_25 : decode cX5_tableGives 25 = .ok (.ishl, 1) := by decide +kernel
theorem dX5_tableGives_26 : decode cX5_tableGives 26 = .ok (.ior, 1) := by decide +kernel
theorem dX5_tableGives_27 : decode cX5_tableGives 27 = .ok (.istore_n 3, 1) := by decide +kernel
theorem dX5_tableGives_28 : decode cX5_tableGives 28 = .ok (.iinc 4 1, 3) := by decide +kernel
theorem dX5_tableGives_31 : decode cX5_tableGives 31 = .ok (.goto (-26), 3) := by decide +kernel
theorem dX5_tableGives_34 : decode cX5_tableGives 34 = .ok (.aload_n 0, 1) := by decide +kernel
theorem dX5_tableGives_35 : decode cX5_tableGives 35 = .ok (.getfield 15, 3) := by decide +kernel
theorem dX5_tableGives_38 : decode cX5_tableGives 38 = .ok (.iload_n 1, 1) := by decide +kernel
theorem dX5_tableGives_39 : decode cX5_tableGives 39 = .ok (.laload, 1) := by decide +kernel
theorem dX5_tableGives_40 : decode cX5_tableGives 40 = .ok (.iload_n 3, 1) := by decide +kernel
theorem dX5_tableGives_41 : decode cX5_tableGives 41 = .ok (.lshr, 1) := by decide +kernel
theorem dX5_tableGives_42 : decode cX5_tableGives 42 = .ok (.lconst 1, 1) := by decide +kernel
theorem dX5_tableGives_43 : decode cX5_tableGives 43 = .ok (.land, 1) := by decide +kernel
theorem dX5_tableGives_44 : decode cX5_tableGives 44 = .ok (.l2i, 1) := by decide +kernel
theorem dX5_tableGives_45 : decode cX5_tableGives 45 = .ok (.ireturn, 1) := by decide +kernel
set_option maxRecDepth 20000 in
theorem ggX5_valueAt_X5_originOf : GoodIn wsX5_valueAt wsX5_originOf := goodIn_r _ [6, 7, 8, 9, 10, 11, 12, 13] (by decide +kernel) (by decide +kernel)
set_option maxRecDepth 20000 in
theorem gX5_valueAt_X5_originOf : GoodIn wsX5_valueAt (wsV RX5 95 RX5 yX5_originOf wsX5_originOf) := goodIn_app (goodIn_of _ (by decide +kernel)) ggX5_valueAt_X5_originOf
theorem dX5_valueAt_0 : decode cX5_valueAt 0 = .ok (.aload_n 0, 1) := by decide +kernel
theorem dX5_valueAt_1 : decode cX5_valueAt 1 = .ok (.iload_n 1, 1) := by decide +kernel
theorem dX5_valueAt_2 : decode cX5_valueAt 2 = .ok (.invokevirtual 95, 3) := by decide +kernel
theorem dX5_valueAt_5 : decode cX5_valueAt 5 = .ok (.istore_n 3, 1) := by decide +kernel
theorem dX5_valueAt_6 : decode cX5_valueAt 6 = .ok (.iload_n 3, 1) := by decide +kernel
theorem dX5_valueAt_7 : decode cX5_valueAt 7 = .ok (.ifCond .ge 5, 3) := by decide +kernel
theorem dX5_valueAt_10 : decode cX5_valueAt 10 = .ok (.iconst 0, 1) := by decide +kernel
theorem dX5_valueAt_11 : decode cX5_valueAt 11 = .ok (.ireturn, 1) := by decide +kernel
theorem dX5_valueAt_12 : decode cX5_valueAt 12 = .ok (.iload_n 3, 1) := by decide +kernel
theorem dX5_valueAt_13 : decode cX5_valueAt 13 = .ok (.bipush 16, 2) := by decide +kernel
theorem dX5_valueAt_15 : decode cX5_valueAt 15 = .ok (.if_icmp .ge 12, 3) := by decide +kernel
theorem dX5_valueAt_18 : decode cX5_valueAt 18 = .ok (.aload_n 0, 1) := by decide +kernel
theorem dX5_valueAt_19 : decode cX5_valueAt 19 = .ok (.getfield 19, 3) := by decide +kernel
theorem dX5_valueAt_22 : decode cX5_valueAt 22 = .ok (.iload_n 3, 1) := by decide +kernel
theorem dX5_valueAt_23 : decode cX5_valueAt 23 = .ok (.iaload, 1) := by decide +kernel
theorem dX5_valueAt_24 : decode cX5_valueAt 24 = .ok (.goto 11, 3) := by decide +kernel
theorem dX5_valueAt_27 : decode cX5_valueAt 27 = .ok (.iload_n 2, 1) := by decide +kernel
theorem dX5_valueAt_28 : decode cX5_valueAt 28 = .ok (.iload_n 3, 1) := by decide +kernel
theorem dX5_valueAt_29 : decode cX5_valueAt 29 = .ok (.bipush 16, 2) := by decide +kernel
theorem dX5_valueAt_31 : decode cX5_valueAt 31 = .ok (.isub, 1) := by decide +kernel
theorem dX5_valueAt_32 : decode cX5_valueAt 32 = .ok (.ishr, 1) := by decide +kernel
theorem dX5_valueAt_33 : decode cX5_valueAt 33 = .ok (.iconst 1, 1) := by decide +kernel
theorem dX5_valueAt_34 : decode cX5_valueAt 34 = .ok (.iand, 1) := by decide +kernel
theorem dX5_valueAt_35 : decode cX5_valueAt 35 = .ok (.ireturn, 1) := by decide +kernel
theorem dX6_init_0 : decode cX6_init 0 = .ok (.aload_n 0, 1) := by decide +kernel
theorem dX6_init_1 : decode cX6_init 1 = .ok (.invokespecial 3, 3) := by decide +kernel
theorem dX6_init_4 : decode cX6_init 4 = .ok (.aload_n 0, 1) := by decide +kernel
theorem dX6_init_5 : decode cX6_init 5 = .ok (.aload_n 1, 1) := by decide +kernel
theorem dX6_init_6 : decode cX6_init 6 = .ok (.putfield 9, 3) := by decide +kernel
theorem dX6_init_9 : decode cX6_init 9 = .ok (.aload_n 0, 1) := by decide +kernel
theorem dX6_init_10 : decode cX6_init 10 = .ok (.bipush 16, 2) := by decide +kernel
theorem dX6_init_12 : decode cX6_init 12 = .ok (.newarray .int, 2) := by decide +kernel
theorem dX6_init_14 : decode cX6_init 14 = .ok (.putfield 15, 3) := by decide +kernel
theorem dX6_init_17 : decode cX6_init 17 = .ok (.aload_n 0, 1) := by decide +kernel
theorem dX6_init_18 : decode cX6_init 18 = .ok (.bipush 16, 2) := by decide +kernel
theorem dX6_init_20 : decode cX6_init 20 = .ok (.newarray .boolean, 2) := by decide +kernel
theorem dX6_init_22 : decode cX6_init 22 = .ok (.putfield 19, 3) := by decide +kernel
theorem dX6_init_25 : decode cX6_init 25 = .ok (.return_, 1) := by decide +kernel
set_option maxRecDepth 20000 in
theorem ggX6_longestWay_X6_timeOutlets : GoodIn wsX6_longestWay wsX6_timeOutlets := goodIn_r _ [12, 13, 2, 14, 3, 4, 5, 6, 15, 16, 17, 18, 19, 20, 21, 22, 23, 24, 25, 26, 27, 11, 28, 29, 30, 31, 32, 33, 34, 35, 36, 37, 38, 39, 40, 41, 42, 43, 44, 45, 46, 47, 48, 49, 50, 51, 52, 53, 54, 55] (by decide +kernel) (by decide +kernel)
set_option maxRecDepth 20000 in
theorem gX6_longestWay_X6_timeOutlets : GoodIn wsX6_longestWay (wsV RX6 23 RX6 yX6_timeOutlets wsX6_timeOutlets) := goodIn_app (goodIn_of _ (by decide +kernel)) ggX6_longestWay_X6_timeOutlets
set_option maxRecDepth 20000 in
theorem ggX6_longestWay_X6_latestPin : GoodIn wsX6_longestWay wsX6_latestPin := goodIn_r _ [37, 3, 4, 5, 6, 38, 39, 40, 11, 41, 2, 14, 29, 30, 31, 18, 32, 33, 42, 43, 44, 45, 46, 47, 48, 49, 50, 51, 52, 53, 54, 55] (by decide +kernel) (by decide +kernel)
set_option maxRecDepth 20000 in
theorem gX6_longestWay_X6_latestPin : GoodIn wsX6_longestWay (wsV RX6 29 RX6 yX6_latestPin wsX6_latestPin) := goodIn_app (goodIn_of _ (by decide +kernel)) ggX6_longestWay_X6_latestPin
set_option maxRecDepth 20000 in
theorem ggX6_longestWay_X5_hasRegister : GoodIn wsX6_longestWay wsX5_hasRegister := goodIn_r _ [19, 20, 21, 22, 18, 23, 24, 50, 51, 52, 53, 54, 55] (by decide +kernel) (by decide +kernel)
set_option maxRecDepth 20000 in
theorem gX6_longestWay_X5_hasRegister : GoodIn wsX6_longestWay (wsV RX6 33 RX5 yX5_hasRegister wsX5_hasRegister) := goodIn_app (goodIn_of _ (by decide +kernel)) ggX6_longestWay_X5_hasRegister
set_option maxRecDepth 20000 in
theorem ggX6_longestWay_X6_arrival : GoodIn wsX6_longestWay wsX6_arrival := goodIn_r _ [41, 2, 14, 29, 30, 31, 18, 32, 33, 42, 43, 44, 45, 46, 47, 48, 49, 50, 51, 52, 53, 54, 55] (by decide +kernel) (by decide +kernel)
set_option maxRecDepth 20000 in
theorem gX6_longestWay_X6_arrival : GoodIn wsX6_longestWay (wsV RX6 45 RX6 yX6_arrival wsX6_arrival) := goodIn_app (goodIn_of _ (by decide +kernel)) ggX6_longestWay_X6_arrival
theorem dX6_longestWay_0 : decode cX6_longestWay 0 = .ok (.aload_n 0, 1) := by decide +kernel
theorem dX6_longestWay_1 : decode cX6_longestWay 1 = .ok (.invokevirtual 23, 3) := by decide +kernel
theorem dX6_longestWay_4 : decode cX6_longestWay 4 = .ok (.ifCond .ne 7, 3) := by decide +kernel
theorem dX6_longestWay_7 : decode cX6_longestWay 7 = .ok (.ldc2_w 27, 3) := by decide +kernel
theorem dX6_longestWay_10 : decode cX6_longestWay 10 = .ok (.dreturn, 1) := by decide +kernel
theorem dX6_longestWay_11 : decode cX6_longestWay 11 = .ok (.iconst 0, 1) := by decide +kernel
theorem dX6_longestWay_12 : decode cX6_longestWay 12 = .ok (.istore_n 1, 1) := by decide +kernel
theorem dX6_longestWay_13 : decode cX6_longestWay 13 = .ok (.iconst 0, 1) := by decide +kernel
theorem dX6_longestWay_14 : decode cX6_longestWay 14 = .ok (.istore_n 2, 1) := by decide +kernel
theorem dX6_longestWay_15 : decode cX6_longestWay 15 = .ok (.iload_n 2, 1) := by decide +kernel
theorem dX6_longestWay_16 : decode cX6_longestWay 16 = .ok (.bipush 16, 2) := by decide +kernel
theorem dX6_longestWay_18 : decode cX6_longestWay 18 = .ok (.if_icmp .ge 41, 3) := by decide +kernel
theorem dX6_longestWay_21 : decode cX6_longestWay 21 = .ok (.aload_n 0, 1) := by decide +kernel
theorem dX6_longestWay_22 : decode cX6_longestWay 22 = .ok (.iload_n 2, 1) := by decide +kernel
theorem dX6_longestWay_23 : decode cX6_longestWay 23 = .ok (.invokevirtual 29, 3) := by decide +kernel
theorem dX6_longestWay_26 : decode cX6_longestWay 26 = .ok (.istore_n 3, 1) := by decide +kernel
theorem dX6_longestWay_27 : decode cX6_longestWay 27 = .ok (.aload_n 0, 1) := by decide +kernel
theorem dX6_longestWay_28 : decode cX6_longestWay 28 = .ok (.getfield 9, 3) := by decide +kernel
theorem dX6_longestWay_31 : decode cX6_longestWay 31 = .ok (.iload_n 2, 1) := by decide +kernel
theorem dX6_longestWay_32 : decode cX6_longestWay 32 = .ok (.invokevirtual 33, 3) := by decide +kernel
theorem dX6_longestWay_35 : decode cX6_longestWay 35 = .ok (.ifCond .eq 18, 3) := by decide +kernel
theorem dX6_longestWay_38 : decode cX6_longestWay 38 = .ok (.iload_n 3, 1) := by decide +kernel
theorem dX6_longestWay_39 : decode cX6_longestWay 39 = .ok (.iconst (-1), 1) := by decide +kernel
theorem dX6_longestWay_40 : decode cX6_longestWay 40 = .ok (.if_icmp .eq 13, 3) := by decide +kernel
theorem dX6_longestWay_43 : decode cX6_longestWay 43 = .ok (.iload_n 1, 1) := by decide +kernel
theorem dX6_longestWay_44 : decode cX6_longestWay 44 = .ok (.iload_n 3, 1) := by decide +kernel
theorem dX6_longestWay_45 : decode cX6_longestWay 45 = .ok (.iconst 5, 1) := by decide +kernel
theorem dX6_longestWay_46 : decode cX6_longestWay 46 = .ok (.iadd, 1) := by decide +kernel
theorem dX6_longestWay_47 : decode cX6_longestWay 47 = .ok (.iconst 2, 1) := by decide +kernel
theorem dX6_longestWay_48 : decode cX6_longestWay 48 = .ok (.iadd, 1) := by decide +kernel
theorem dX6_longestWay_49 : decode cX6_longestWay 49 = .ok (.invokestatic 39, 3) := by decide +kernel
theorem dX6_longestWay_52 : decode cX6_longestWay 52 = .ok (.istore_n 1, 1) := by decide +kernel
theorem dX6_longestWay_53 : decode cX6_longestWay 53 = .ok (.iinc 2 1, 3) := by decide +kernel
theorem dX6_longestWay_56 : decode cX6_longestWay 56 = .ok (.goto (-41), 3) := by decide +kernel
theorem dX6_longestWay_59 : decode cX6_longestWay 59 = .ok (.iconst 0, 1) := by decide +kernel
theorem dX6_longestWay_60 : decode cX6_longestWay 60 = .ok (.istore_n 2, 1) := by decide +kernel
theorem dX6_longestWay_61 : decode cX6_longestWay 61 = .ok (.iload_n 2, 1) := by decide +kernel
theorem dX6_longestWay_62 : decode cX6_longestWay 62 = .ok (.iconst 4, 1) := by decide +kernel
theorem dX6_longestWay_63 : decode cX6_longestWay 63 = .ok (.if_icmp .ge 22, 3) := by decide +kernel
theorem dX6_longestWay_66 : decode cX6_longestWay 66 = .ok (.iload_n 1, 1) := by decide +kernel
theorem dX6_longestWay_67 : decode cX6_longestWay 67 = .ok (.aload_n 0, 1) := by decide +kernel
theorem dX6_longestWay_68 : decode cX6_longestWay 68 = .ok (.bipush 48, 2) := by decide +kernel
theorem dX6_longestWay_70 : decode cX6_longestWay 70 = .ok (.iload_n 2, 1) := by decide +kernel
theorem dX6_longestWay_71 : decode cX6_longestWay 71 = .ok (.iadd, 1) := by decide +kernel
theorem dX6_longestWay_72 : decode cX6_longestWay 72 = .ok (.invokevirtual 45, 3) := by decide +kernel
theorem dX6_longestWay_75 : decode cX6_longestWay 75 = .ok (.invokestatic 39, 3) := by decide +kernel
theorem dX6_longestWay_78 : decode cX6_longestWay 78 = .ok (.istore_n 1, 1) := by decide +kernel
theorem dX6_longestWay_79 : decode cX6_longestWay 79 = .ok (.iinc 2 1, 3) := by decide +kernel
theorem dX6_longestWay_82 : decode cX6_longestWay 82 = .ok (.goto (-21), 3) := by decide +kernel
theorem dX6_longestWay_85 : decode cX6_longestWay 85 = .ok (.iload_n 1, 1) := by decide +kernel
theorem dX6_longestWay_86 : decode cX6_longestWay 86 = .ok (.i2d, 1) := by decide +kernel
theorem dX6_longestWay_87 : decode cX6_longestWay 87 = .ok (.ldc2_w 48, 3) := by decide +kernel
theorem dX6_longestWay_90 : decode cX6_longestWay 90 = .ok (.ddiv, 1) := by decide +kernel
theorem dX6_longestWay_91 : decode cX6_longestWay 91 = .ok (.dreturn, 1) := by decide +kernel
set_option maxRecDepth 20000 in
theorem ggX6_timeOutlets_X5_hasRegister : GoodIn wsX6_timeOutlets wsX5_hasRegister := goodIn_r _ [12, 13, 14, 15, 11, 16, 17, 44, 45, 46, 47, 48, 49] (by decide +kernel) (by decide +kernel)
set_option maxRecDepth 20000 in
theorem gX6_timeOutlets_X5_hasRegister : GoodIn wsX6_timeOutlets (wsV RX6 33 RX5 yX5_hasRegister wsX5_hasRegister) := goodIn_app (goodIn_of _ (by decide +kernel)) ggX6_timeOutlets_X5_hasRegister
set_option maxRecDepth 20000 in
theorem ggX6_timeOutlets_X6_pinsAreKnown : GoodIn wsX6_timeOutlets wsX6_pinsAreKnown := goodIn_r _ [22, 2, 1, 23, 24, 25, 11, 26, 27, 41, 42, 43, 44, 45, 46, 47, 48, 49] (by decide +kernel) (by decide +kernel)
set_option maxRecDepth 20000 in
theorem gX6_timeOutlets_X6_pinsAreKnown : GoodIn wsX6_timeOutlets (wsV RX6 50 RX6 yX6_pinsAreKnown wsX6_pinsAreKnown) := goodIn_app (goodIn_of _ (by decide +kernel)) ggX6_timeOutlets_X6_pinsAreKnown
set_option maxRecDepth 20000 in
theorem ggX6_timeOutlets_X6_latestPin : GoodIn wsX6_timeOutlets wsX6_latestPin := goodIn_r _ [31, 4, 5, 6, 7, 32, 33, 34, 21, 35, 2, 3, 23, 24, 25, 11, 26, 27, 36, 37, 38, 39, 40, 41, 42, 43, 44, 45, 46, 47, 48, 49] (by decide +kernel) (by decide +kernel)
set_option maxRecDepth 20000 in
theorem gX6_timeOutlets_X6_latestPin : GoodIn wsX6_timeOutlets (wsV RX6 29 RX6 yX6_latestPin wsX6_latestPin) := goodIn_app (goodIn_of _ (by decide +kernel)) ggX6_timeOutlets_X6_latestPin
theorem dX6_timeOutlets_0 : decode cX6_timeOutlets 0 = .ok (.iconst 0, 1) := by decide +kernel
theorem dX6_timeOutlets_1 : decode cX6_timeOutlets 1 = .ok (.istore_n 1, 1) := by decide +kernel
theorem dX6_timeOutlets_2 : decode cX6_timeOutlets 2 = .ok (.iconst 0, 1) := by decide +kernel
theorem dX6_timeOutlets_3 : decode cX6_timeOutlets 3 = .ok (.istore_n 2, 1) := by decide +kernel
theorem dX6_timeOutlets_4 : decode cX6_timeOutlets 4 = .ok (.iload_n 2, 1) := by decide +kernel
theorem dX6_timeOutlets_5 : decode cX6_timeOutlets 5 = .ok (.bipush 16, 2) := by decide +kernel
theorem dX6_timeOutlets_7 : decode cX6_timeOutlets 7 = .ok (.if_icmp .ge 47, 3) := by decide +kernel
theorem dX6_timeOutlets_10 : decode cX6_timeOutlets 10 = .ok (.aload_n 0, 1) := by decide +kernel
theorem dX6_timeOutlets_11 : decode cX6_timeOutlets 11 = .ok (.getfield 19, 3) := by decide +kernel
theorem dX6_timeOutlets_14 : decode cX6_timeOutlets 14 = .ok (.iload_n 2, 1) := by decide +kernel
theorem dX6_timeOutlets_15 : decode cX6_timeOutlets 15 = .ok (.aload_n 0, 1) := by decide +kernel
theorem dX6_timeOutlets_16 : decode cX6_timeOutlets 16 = .ok (.getfield 9, 3) := by decide +kernel
theorem dX6_timeOutlets_19 : decode cX6_timeOutlets 19 = .ok (.iload_n 2, 1) := by decide +kernel
theorem dX6_timeOutlets_20 : decode cX6_timeOutlets 20 = .ok (.invokevirtual 33, 3) := by decide +kernel
theorem dX6_timeOutlets_23 : decode cX6_timeOutlets 23 = .ok (.bastore, 1) := by decide +kernel
theorem dX6_timeOutlets_24 : decode cX6_timeOutlets 24 = .ok (.aload_n 0, 1) := by decide +kernel
theorem dX6_timeOutlets_25 : decode cX6_timeOutlets 25 = .ok (.getfield 15, 3) := by decide +kernel
theorem dX6_timeOutlets_28 : decode cX6_timeOutlets 28 = .ok (.iload_n 2, 1) := by decide +kernel
theorem dX6_timeOutlets_29 : decode cX6_timeOutlets 29 = .ok (.iconst 4, 1) := by decide +kernel
theorem dX6_timeOutlets_30 : decode cX6_timeOutlets 30 = .ok (.iastore, 1) := by decide +kernel
theorem dX6_timeOutlets_31 : decode cX6_timeOutlets 31 = .ok (.iload_n 1, 1) := by decide +kernel
theorem dX6_timeOutlets_32 : decode cX6_timeOutlets 32 = .ok (.aload_n 0, 1) := by decide +kernel
theorem dX6_timeOutlets_33 : decode cX6_timeOutlets 33 = .ok (.getfield 19, 3) := by decide +kernel
theorem dX6_timeOutlets_36 : decode cX6_timeOutlets 36 = .ok (.iload_n 2, 1) := by decide +kernel
theorem dX6_timeOutlets_37 : decode cX6_timeOutlets 37 = .ok (.baload, 1) := by decide +kernel
theorem dX6_timeOutlets_38 : decode cX6_timeOutlets 38 = .ok (.ifCond .eq 7, 3) := by decide +kernel
theorem dX6_timeOutlets_41 : decode cX6_timeOutlets 41 = .ok (.iconst 0, 1) := by decide +kernel
theorem dX6_timeOutlets_42 : decode cX6_timeOutlets 42 = .ok (.goto 4, 3) := by decide +kernel
theorem dX6_timeOutlets_45 : decode cX6_timeOutlets 45 = .ok (.iconst 1, 1) := by decide +kernel
theorem dX6_timeOutlets_46 : decode cX6_timeOutlets 46 = .ok (.iadd, 1) := by decide +kernel
theorem dX6_timeOutlets_47 : decode cX6_timeOutlets 47 = .ok (.istore_n 1, 1) := by decide +kernel
theorem dX6_timeOutlets_48 : decode cX6_timeOutlets 48 = .ok (.iinc 2 1, 3) := by decide +kernel
theorem dX6_timeOutlets_51 : decode cX6_timeOutlets 51 = .ok (.goto (-47), 3) := by decide +kernel
theorem dX6_timeOutlets_54 : decode cX6_timeOutlets 54 = .ok (.iconst 0, 1) := by decide +kernel
theorem dX6_timeOutlets_55 : decode cX6_timeOutlets 55 = .ok (.istore_n 2, 1) := by decide +kernel
theorem dX6_timeOutlets_56 : decode cX6_timeOutlets 56 = .ok (.iload_n 2, 1) := by decide +kernel
theorem dX6_timeOutlets_57 : decode cX6_timeOutlets 57 = .ok (.bipush 16, 2) := by decide +kernel
theorem dX6_timeOutlets_59 : decode cX6_timeOutlets 59 = .ok (.if_icmp .ge 71, 3) := by decide +kernel
theorem dX6_timeOutlets_62 : decode cX6_timeOutlets 62 = .ok (.iload_n 1, 1) := by decide +kernel
theorem dX6_timeOutlets_63 : decode cX6_timeOutlets 63 = .ok (.ifCond .le 67, 3) := by decide +kernel
theorem dX6_timeOutlets_66 : decode cX6_timeOutlets 66 = .ok (.iconst 0, 1) := by decide +kernel
theorem dX6_timeOutlets_67 : decode cX6_timeOutlets 67 = .ok (.istore_n 3, 1) := by decide +kernel
theorem dX6_timeOutlets_68 : decode cX6_timeOutlets 68 = .ok (.iload_n 3, 1) := by decide +kernel
theorem dX6_timeOutlets_69 : decode cX6_timeOutlets 69 = .ok (.bipush 16, 2) := by decide +kernel
theorem dX6_timeOutlets_71 : decode cX6_timeOutlets 71 = .ok (.if_icmp .ge 53, 3) := by decide +kernel
theorem dX6_timeOutlets_74 : decode cX6_timeOutlets 74 = .ok (.aload_n 0, 1) := by decide +kernel
theorem dX6_timeOutlets_75 : decode cX6_timeOutlets 75 = .ok (.getfield 19, 3) := by decide +kernel
theorem dX6_timeOutlets_78 : decode cX6_timeOutlets 78 = .ok (.iload_n 3, 1) := by decide +kernel
theorem dX6_timeOutlets_79 : decode cX6_timeOutlets 79 = .ok (.baload, 1) := by decide +kernel
theorem dX6_timeOutlets_80 : decode cX6_timeOutlets 80 = .ok (.ifCond .ne 38, 3) := by decide +kernel
theorem dX6_timeOutlets_83 : decode cX6_timeOutlets 83 = .ok (.aload_n 0, 1) := by decide +kernel
theorem dX6_timeOutlets_84 : decode cX6_timeOutlets 84 = .ok (.iload_n 3, 1) := by decide +kernel
theorem dX6_timeOutlets_85 : decode cX6_timeOutlets 85 = .ok (.invokevirtual 50, 3) := by decide +kernel
theorem dX6_timeOutlets_88 : decode cX6_timeOutlets 88 = .ok (.ifCond .eq 30, 3) := by decide +kernel
theorem dX6_timeOutlets_91 : decode cX6_timeOutlets 91 = .ok (.aload_n 0, 1) := by decide +kernel
theorem dX6_timeOutlets_92 : decode cX6_timeOutlets 92 = .ok (.getfield 15, 3) := by decide +kernel
theorem dX6_timeOutlets_95 : decode cX6_timeOutlets 95 = .ok (.iload_n 3, 1) := by decide +kernel
theorem dX6_timeOutlets_96 : decode cX6_timeOutlets 96 = .ok (.iconst 5, 1) := by decide +kernel
theorem dX6_timeOutlets_97 : decode cX6_timeOutlets 97 = .ok (.iconst 0, 1) := by decide +kernel
theorem dX6_timeOutlets_98 : decode cX6_timeOutlets 98 = .ok (.aload_n 0, 1) := by decide +kernel
theorem dX6_timeOutlets_99 : decode cX6_timeOutlets 99 = .ok (.iload_n 3, 1) := by decide +kernel
theorem dX6_timeOutlets_100 : decode cX6_timeOutlets 100 = .ok (.invokevirtual 29, 3) := by decide +kernel
theorem dX6_timeOutlets_103 : decode cX6_timeOutlets 103 = .ok (.invokestatic 39, 3) := by decide +kernel
theorem dX6_timeOutlets_106 : decode cX6_timeOutlets 106 = .ok (.iadd, 1) := by decide +kernel
theorem dX6_timeOutlets_107 : decode cX6_timeOutlets 107 = .ok (.iastore, 1) := by decide +kernel
theorem dX6_timeOutlets_108 : decode cX6_timeOutlets 108 = .ok (.aload_n 0, 1) := by decide +kernel
theorem dX6_timeOutlets_109 : decode cX6_timeOutlets 109 = .ok (.getfield 19, 3) := by decide +kernel
theorem dX6_timeOutlets_112 : decode cX6_timeOutlets 112 = .ok (.iload_n 3, 1) := by decide +kernel
theorem dX6_timeOutlets_113 : decode cX6_timeOutlets 113 = .ok (.iconst 1, 1) := by decide +kernel
theorem dX6_timeOutlets_114 : decode cX6_timeOutlets 114 = .ok (.bastore, 1) := by decide +kernel
theorem dX6_timeOutlets_115 : decode cX6_timeOutlets 115 = .ok (.iinc 1 (-1), 3) := by decide +kernel
theorem dX6_timeOutlets_118 : decode cX6_timeOutlets 118 = .ok (.iinc 3 1, 3) := by decide +kernel
theorem dX6_timeOutlets_121 : decode cX6_timeOutlets 121 = .ok (.goto (-53), 3) := by decide +kernel
theorem dX6_timeOutlets_124 : decode cX6_timeOutlets 124 = .ok (.iinc 2 1, 3) := by decide +kernel
theorem dX6_timeOutlets_127 : decode cX6_timeOutlets 127 = .ok (.goto (-71), 3) := by decide +kernel
theorem dX6_timeOutlets_130 : decode cX6_timeOutlets 130 = .ok (.iload_n 1, 1) := by decide +kernel
theorem dX6_timeOutlets_131 : decode cX6_timeOutlets 131 = .ok (.ifCond .ne 7, 3) := by decide +kernel
theorem dX6_timeOutlets_134 : decode cX6_timeOutlets 134 = .ok (.iconst 1, 1) := by decide +kernel
theorem dX6_timeOutlets_135 : decode cX6_timeOutlets 135 = .ok (.goto 4, 3) := by decide +kernel
theorem dX6_timeOutlets_138 : decode cX6_timeOutlets 138 = .ok (.iconst 0, 1) := by decide +kernel
theorem dX6_timeOutlets_139 : decode cX6_timeOutlets 139 = .ok (.ireturn, 1) := by decide +kernel
set_option maxRecDepth 20000 in
theorem ggX6_pinsAreKnown_X5_originOf : GoodIn wsX6_pinsAreKnown wsX5_originOf := goodIn_r _ [7, 8, 12, 13, 14, 15, 16, 17] (by decide +kernel) (by decide +kernel)
set_option maxRecDepth 20000 in
theorem gX6_pinsAreKnown_X5_originOf : GoodIn wsX6_pinsAreKnown (wsV RX6 53 RX5 yX5_originOf wsX5_originOf) := goodIn_app (goodIn_of _ (by decide +kernel)) ggX6_pinsAreKnown_X5_originOf
theorem dX6_pinsAreKnown_0 : decode cX6_pinsAreKnown 0 = .ok (.iconst 0, 1) := by decide +kernel
theorem dX6_pinsAreKnown_1 : decode cX6_pinsAreKnown 1 = .ok (.istore_n 2, 1) := by decide +kernel
theorem dX6_pinsAreKnown_2 : decode cX6_pinsAreKnown 2 = .ok (.iload_n 2, 1) := by decide +kernel
theorem dX6_pinsAreKnown_3 : decode cX6_pinsAreKnown 3 = .ok (.iconst 3, 1) := by decide +kernel
theorem dX6_pinsAreKnown_4 : decode cX6_pinsAreKnown 4 = .ok (.if_icmp .ge 43, 3) := by decide +kernel
theorem dX6_pinsAreKnown_7 : decode cX6_pinsAreKnown 7 = .ok (.aload_n 0, 1) := by decide +kernel
theorem dX6_pinsAreKnown_8 : decode cX6_pinsAreKnown 8 = .ok (.getfield 9, 3) := by decide +kernel
theorem dX6_pinsAreKnown_11 : decode cX6_pinsAreKnown 11 = .ok (.iload_n 1, 1) := by decide +kernel
theorem dX6_pinsAreKnown_12 : decode cX6_pinsAreKnown 12 = .ok (.iconst 3, 1) := by decide +kernel
theorem dX6_pinsAreKnown_13 : decode cX6_pinsAreKnown 13 = .ok (.imul, 1) := by decide +kernel
theorem dX6_pinsAreKnown_14 : decode cX6_pinsAreKnown 14 = .ok (.iload_n 2, 1) := by decide +kernel
theorem dX6_pinsAreKnown_15 : decode cX6_pinsAreKnown 15 = .ok (.iadd, 1) := by decide +kernel
theorem dX6_pinsAreKnown_16 : decode cX6_pinsAreKnown 16 = .ok (.invokevirtual 53, 3) := by decide +kernel
theorem dX6_pinsAreKnown_19 : decode cX6_pinsAreKnown 19 = .ok (.istore_n 3, 1) := by decide +kernel
theorem dX6_pinsAreKnown_20 : decode cX6_pinsAreKnown 20 = .ok (.iload_n 3, 1) := by decide +kernel
theorem dX6_pinsAreKnown_21 : decode cX6_pinsAreKnown 21 = .ok (.ifCond .lt 20, 3) := by decide +kernel
theorem dX6_pinsAreKnown_24 : decode cX6_pinsAreKnown 24 = .ok (.iload_n 3, 1) := by decide +kernel
theorem dX6_pinsAreKnown_25 : decode cX6_pinsAreKnown 25 = .ok (.bipush 16, 2) := by decide +kernel
theorem dX6_pinsAreKnown_27 : decode cX6_pinsAreKnown 27 = .ok (.if_icmp .ge 14, 3) := by decide +kernel
theorem dX6_pinsAreKnown_30 : decode cX6_pinsAreKnown 30 = .ok (.aload_n 0, 1) := by decide +kernel
theorem dX6_pinsAreKnown_31 : decode cX6_pinsAreKnown 31 = .ok (.getfield 19, 3) := by decide +kernel
theorem dX6_pinsAreKnown_34 : decode cX6_pinsAreKnown 34 = .ok (.iload_n 3, 1) := by decide +kernel
theorem dX6_pinsAreKnown_35 : decode cX6_pinsAreKnown 35 = .ok (.baload, 1) := by decide +kernel
theorem dX6_pinsAreKnown_36 : decode cX6_pinsAreKnown 36 = .ok (.ifCond .ne 5, 3) := by decide +kernel
theorem dX6_pinsAreKnown_39 : decode cX6_pinsAreKnown 39 = .ok (.iconst 0, 1) := by decide +kernel
theorem dX6_pinsAreKnown_40 : decode cX6_pinsAreKnown 40 = .ok (.ireturn, 1) := by decide +kernel
theorem dX6_pinsAreKnown_41 : decode cX6_pinsAreKnown 41 = .ok (.iinc 2 1, 3) := by decide +kernel
theorem dX6_pinsAreKnown_44 : decode cX6_pinsAreKnown 44 = .ok (.goto (-42), 3) := by decide +kernel
