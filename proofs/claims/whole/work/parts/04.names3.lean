theorem dX6_pinsAreKnown_47 : decode cX6_pinsAreKnown 47 = .ok (.iconst 1, 1) := by decide +kernel
theorem dX6_pinsAreKnown_48 : decode cX6_pinsAreKnown 48 = .ok (.ireturn, 1) := by decide +kernel
set_option maxRecDepth 20000 in
theorem ggX6_latestPin_X6_arrival : GoodIn wsX6_latestPin wsX6_arrival := goodIn_r _ [9, 10, 11, 12, 13, 14, 15, 16, 17, 18, 19, 20, 21, 22, 23, 24, 25, 26, 27, 28, 29, 30, 31] (by decide +kernel) (by decide +kernel)
set_option maxRecDepth 20000 in
theorem gX6_latestPin_X6_arrival : GoodIn wsX6_latestPin (wsV RX6 45 RX6 yX6_arrival wsX6_arrival) := goodIn_app (goodIn_of _ (by decide +kernel)) ggX6_latestPin_X6_arrival
theorem dX6_latestPin_0 : decode cX6_latestPin 0 = .ok (.iconst (-1), 1) := by decide +kernel
theorem dX6_latestPin_1 : decode cX6_latestPin 1 = .ok (.istore_n 2, 1) := by decide +kernel
theorem dX6_latestPin_2 : decode cX6_latestPin 2 = .ok (.iconst 0, 1) := by decide +kernel
theorem dX6_latestPin_3 : decode cX6_latestPin 3 = .ok (.istore_n 3, 1) := by decide +kernel
theorem dX6_latestPin_4 : decode cX6_latestPin 4 = .ok (.iload_n 3, 1) := by decide +kernel
theorem dX6_latestPin_5 : decode cX6_latestPin 5 = .ok (.iconst 3, 1) := by decide +kernel
theorem dX6_latestPin_6 : decode cX6_latestPin 6 = .ok (.if_icmp .ge 23, 3) := by decide +kernel
theorem dX6_latestPin_9 : decode cX6_latestPin 9 = .ok (.iload_n 2, 1) := by decide +kernel
theorem dX6_latestPin_10 : decode cX6_latestPin 10 = .ok (.aload_n 0, 1) := by decide +kernel
theorem dX6_latestPin_11 : decode cX6_latestPin 11 = .ok (.iload_n 1, 1) := by decide +kernel
theorem dX6_latestPin_12 : decode cX6_latestPin 12 = .ok (.iconst 3, 1) := by decide +kernel
theorem dX6_latestPin_13 : decode cX6_latestPin 13 = .ok (.imul, 1) := by decide +kernel
theorem dX6_latestPin_14 : decode cX6_latestPin 14 = .ok (.iload_n 3, 1) := by decide +kernel
theorem dX6_latestPin_15 : decode cX6_latestPin 15 = .ok (.iadd, 1) := by decide +kernel
theorem dX6_latestPin_16 : decode cX6_latestPin 16 = .ok (.invokevirtual 45, 3) := by decide +kernel
theorem dX6_latestPin_19 : decode cX6_latestPin 19 = .ok (.invokestatic 39, 3) := by decide +kernel
theorem dX6_latestPin_22 : decode cX6_latestPin 22 = .ok (.istore_n 2, 1) := by decide +kernel
theorem dX6_latestPin_23 : decode cX6_latestPin 23 = .ok (.iinc 3 1, 3) := by decide +kernel
theorem dX6_latestPin_26 : decode cX6_latestPin 26 = .ok (.goto (-22), 3) := by decide +kernel
theorem dX6_latestPin_29 : decode cX6_latestPin 29 = .ok (.iload_n 2, 1) := by decide +kernel
theorem dX6_latestPin_30 : decode cX6_latestPin 30 = .ok (.ireturn, 1) := by decide +kernel
set_option maxRecDepth 20000 in
theorem ggX6_arrival_X5_originOf : GoodIn wsX6_arrival wsX5_originOf := goodIn_r _ [7, 8, 17, 18, 19, 20, 21, 22] (by decide +kernel) (by decide +kernel)
set_option maxRecDepth 20000 in
theorem gX6_arrival_X5_originOf : GoodIn wsX6_arrival (wsV RX6 53 RX5 yX5_originOf wsX5_originOf) := goodIn_app (goodIn_of _ (by decide +kernel)) ggX6_arrival_X5_originOf
set_option maxRecDepth 20000 in
theorem ggX6_arrival_X5_lengthOf : GoodIn wsX6_arrival wsX5_lengthOf := goodIn_r _ [12, 13, 17, 18, 19, 20, 21, 22] (by decide +kernel) (by decide +kernel)
set_option maxRecDepth 20000 in
theorem gX6_arrival_X5_lengthOf : GoodIn wsX6_arrival (wsV RX6 56 RX5 yX5_lengthOf wsX5_lengthOf) := goodIn_app (goodIn_of _ (by decide +kernel)) ggX6_arrival_X5_lengthOf
theorem dX6_arrival_0 : decode cX6_arrival 0 = .ok (.aload_n 0, 1) := by decide +kernel
theorem dX6_arrival_1 : decode cX6_arrival 1 = .ok (.getfield 9, 3) := by decide +kernel
theorem dX6_arrival_4 : decode cX6_arrival 4 = .ok (.iload_n 1, 1) := by decide +kernel
theorem dX6_arrival_5 : decode cX6_arrival 5 = .ok (.invokevirtual 53, 3) := by decide +kernel
theorem dX6_arrival_8 : decode cX6_arrival 8 = .ok (.istore_n 2, 1) := by decide +kernel
theorem dX6_arrival_9 : decode cX6_arrival 9 = .ok (.iload_n 2, 1) := by decide +kernel
theorem dX6_arrival_10 : decode cX6_arrival 10 = .ok (.ifCond .ge 5, 3) := by decide +kernel
theorem dX6_arrival_13 : decode cX6_arrival 13 = .ok (.iconst (-1), 1) := by decide +kernel
theorem dX6_arrival_14 : decode cX6_arrival 14 = .ok (.ireturn, 1) := by decide +kernel
theorem dX6_arrival_15 : decode cX6_arrival 15 = .ok (.iload_n 2, 1) := by decide +kernel
theorem dX6_arrival_16 : decode cX6_arrival 16 = .ok (.bipush 16, 2) := by decide +kernel
theorem dX6_arrival_18 : decode cX6_arrival 18 = .ok (.if_icmp .ge 12, 3) := by decide +kernel
theorem dX6_arrival_21 : decode cX6_arrival 21 = .ok (.aload_n 0, 1) := by decide +kernel
theorem dX6_arrival_22 : decode cX6_arrival 22 = .ok (.getfield 15, 3) := by decide +kernel
theorem dX6_arrival_25 : decode cX6_arrival 25 = .ok (.iload_n 2, 1) := by decide +kernel
theorem dX6_arrival_26 : decode cX6_arrival 26 = .ok (.iaload, 1) := by decide +kernel
theorem dX6_arrival_27 : decode cX6_arrival 27 = .ok (.goto 4, 3) := by decide +kernel
theorem dX6_arrival_30 : decode cX6_arrival 30 = .ok (.iconst 0, 1) := by decide +kernel
theorem dX6_arrival_31 : decode cX6_arrival 31 = .ok (.istore_n 3, 1) := by decide +kernel
theorem dX6_arrival_32 : decode cX6_arrival 32 = .ok (.iload_n 3, 1) := by decide +kernel
theorem dX6_arrival_33 : decode cX6_arrival 33 = .ok (.iconst 3, 1) := by decide +kernel
theorem dX6_arrival_34 : decode cX6_arrival 34 = .ok (.aload_n 0, 1) := by decide +kernel
theorem dX6_arrival_35 : decode cX6_arrival 35 = .ok (.getfield 9, 3) := by decide +kernel
theorem dX6_arrival_38 : decode cX6_arrival 38 = .ok (.iload_n 1, 1) := by decide +kernel
theorem dX6_arrival_39 : decode cX6_arrival 39 = .ok (.invokevirtual 56, 3) := by decide +kernel
theorem dX6_arrival_42 : decode cX6_arrival 42 = .ok (.imul, 1) := by decide +kernel
theorem dX6_arrival_43 : decode cX6_arrival 43 = .ok (.iadd, 1) := by decide +kernel
theorem dX6_arrival_44 : decode cX6_arrival 44 = .ok (.ireturn, 1) := by decide +kernel
theorem dX7_init_0 : decode cX7_init 0 = .ok (.aload_n 0, 1) := by decide +kernel
theorem dX7_init_1 : decode cX7_init 1 = .ok (.invokespecial 3, 3) := by decide +kernel
theorem dX7_init_4 : decode cX7_init 4 = .ok (.aload_n 0, 1) := by decide +kernel
theorem dX7_init_5 : decode cX7_init 5 = .ok (.sipush 148, 3) := by decide +kernel
theorem dX7_init_8 : decode cX7_init 8 = .ok (.newarray .int, 2) := by decide +kernel
theorem dX7_init_10 : decode cX7_init 10 = .ok (.putfield 9, 3) := by decide +kernel
theorem dX7_init_13 : decode cX7_init 13 = .ok (.aload_n 0, 1) := by decide +kernel
theorem dX7_init_14 : decode cX7_init 14 = .ok (.sipush 148, 3) := by decide +kernel
theorem dX7_init_17 : decode cX7_init 17 = .ok (.newarray .boolean, 2) := by decide +kernel
theorem dX7_init_19 : decode cX7_init 19 = .ok (.putfield 15, 3) := by decide +kernel
theorem dX7_init_22 : decode cX7_init 22 = .ok (.return_, 1) := by decide +kernel
theorem dX7_isEmpty_0 : decode cX7_isEmpty 0 = .ok (.aload_n 0, 1) := by decide +kernel
theorem dX7_isEmpty_1 : decode cX7_isEmpty 1 = .ok (.getfield 19, 3) := by decide +kernel
theorem dX7_isEmpty_4 : decode cX7_isEmpty 4 = .ok (.ifCond .ne 7, 3) := by decide +kernel
theorem dX7_isEmpty_7 : decode cX7_isEmpty 7 = .ok (.iconst 1, 1) := by decide +kernel
theorem dX7_isEmpty_8 : decode cX7_isEmpty 8 = .ok (.goto 4, 3) := by decide +kernel
theorem dX7_isEmpty_11 : decode cX7_isEmpty 11 = .ok (.iconst 0, 1) := by decide +kernel
theorem dX7_isEmpty_12 : decode cX7_isEmpty 12 = .ok (.ireturn, 1) := by decide +kernel
theorem dX7_add_0 : decode cX7_add 0 = .ok (.iload_n 1, 1) := by decide +kernel
theorem dX7_add_1 : decode cX7_add 1 = .ok (.ifCond .lt 29, 3) := by decide +kernel
theorem dX7_add_4 : decode cX7_add 4 = .ok (.iload_n 1, 1) := by decide +kernel
theorem dX7_add_5 : decode cX7_add 5 = .ok (.sipush 148, 3) := by decide +kernel
theorem dX7_add_8 : decode cX7_add 8 = .ok (.if_icmp .ge 22, 3) := by decide +kernel
theorem dX7_add_11 : decode cX7_add 11 = .ok (.aload_n 0, 1) := by decide +kernel
theorem dX7_add_12 : decode cX7_add 12 = .ok (.getfield 15, 3) := by decide +kernel
theorem dX7_add_15 : decode cX7_add 15 = .ok (.iload_n 1, 1) := by decide +kernel
theorem dX7_add_16 : decode cX7_add 16 = .ok (.baload, 1) := by decide +kernel
theorem dX7_add_17 : decode cX7_add 17 = .ok (.ifCond .ne 13, 3) := by decide +kernel
theorem dX7_add_20 : decode cX7_add 20 = .ok (.aload_n 0, 1) := by decide +kernel
theorem dX7_add_21 : decode cX7_add 21 = .ok (.getfield 19, 3) := by decide +kernel
theorem dX7_add_24 : decode cX7_add 24 = .ok (.sipush 148, 3) := by decide +kernel
theorem dX7_add_27 : decode cX7_add 27 = .ok (.if_icmp .lt 4, 3) := by decide +kernel
theorem dX7_add_30 : decode cX7_add 30 = .ok (.return_, 1) := by decide +kernel
theorem dX7_add_31 : decode cX7_add 31 = .ok (.aload_n 0, 1) := by decide +kernel
theorem dX7_add_32 : decode cX7_add 32 = .ok (.getfield 15, 3) := by decide +kernel
theorem dX7_add_35 : decode cX7_add 35 = .ok (.iload_n 1, 1) := by decide +kernel
theorem dX7_add_36 : decode cX7_add 36 = .ok (.iconst 1, 1) := by decide +kernel
theorem dX7_add_37 : decode cX7_add 37 = .ok (.bastore, 1) := by decide +kernel
theorem dX7_add_38 : decode cX7_add 38 = .ok (.aload_n 0, 1) := by decide +kernel
theorem dX7_add_39 : decode cX7_add 39 = .ok (.getfield 9, 3) := by decide +kernel
theorem dX7_add_42 : decode cX7_add 42 = .ok (.aload_n 0, 1) := by decide +kernel
theorem dX7_add_43 : decode cX7_add 43 = .ok (.getfield 23, 3) := by decide +kernel
theorem dX7_add_46 : decode cX7_add 46 = .ok (.aload_n 0, 1) := by decide +kernel
theorem dX7_add_47 : decode cX7_add 47 = .ok (.getfield 19, 3) := by decide +kernel
theorem dX7_add_50 : decode cX7_add 50 = .ok (.iadd, 1) := by decide +kernel
theorem dX7_add_51 : decode cX7_add 51 = .ok (.sipush 148, 3) := by decide +kernel
theorem dX7_add_54 : decode cX7_add 54 = .ok (.irem, 1) := by decide +kernel
theorem dX7_add_55 : decode cX7_add 55 = .ok (.iload_n 1, 1) := by decide +kernel
theorem dX7_add_56 : decode cX7_add 56 = .ok (.iastore, 1) := by decide +kernel
theorem dX7_add_57 : decode cX7_add 57 = .ok (.aload_n 0, 1) := by decide +kernel
theorem dX7_add_58 : decode cX7_add 58 = .ok (.dup, 1) := by decide +kernel
theorem dX7_add_59 : decode cX7_add 59 = .ok (.getfield 19, 3) := by decide +kernel
theorem dX7_add_62 : decode cX7_add 62 = .ok (.iconst 1, 1) := by decide +kernel
theorem dX7_add_63 : decode cX7_add 63 = .ok (.iadd, 1) := by decide +kernel
theorem dX7_add_64 : decode cX7_add 64 = .ok (.putfield 19, 3) := by decide +kernel
theorem dX7_add_67 : decode cX7_add 67 = .ok (.return_, 1) := by decide +kernel
theorem dX7_take_0 : decode cX7_take 0 = .ok (.aload_n 0, 1) := by decide +kernel
theorem dX7_take_1 : decode cX7_take 1 = .ok (.getfield 19, 3) := by decide +kernel
theorem dX7_take_4 : decode cX7_take 4 = .ok (.ifCond .ne 5, 3) := by decide +kernel
theorem dX7_take_7 : decode cX7_take 7 = .ok (.iconst (-1), 1) := by decide +kernel
theorem dX7_take_8 : decode cX7_take 8 = .ok (.ireturn, 1) := by decide +kernel
theorem dX7_take_9 : decode cX7_take 9 = .ok (.aload_n 0, 1) := by decide +kernel
theorem dX7_take_10 : decode cX7_take 10 = .ok (.getfield 9, 3) := by decide +kernel
theorem dX7_take_13 : decode cX7_take 13 = .ok (.aload_n 0, 1) := by decide +kernel
theorem dX7_take_14 : decode cX7_take 14 = .ok (.getfield 23, 3) := by decide +kernel
theorem dX7_take_17 : decode cX7_take 17 = .ok (.iaload, 1) := by decide +kernel
theorem dX7_take_18 : decode cX7_take 18 = .ok (.istore_n 1, 1) := by decide +kernel
theorem dX7_take_19 : decode cX7_take 19 = .ok (.aload_n 0, 1) := by decide +kernel
theorem dX7_take_20 : decode cX7_take 20 = .ok (.getfield 15, 3) := by decide +kernel
theorem dX7_take_23 : decode cX7_take 23 = .ok (.iload_n 1, 1) := by decide +kernel
theorem dX7_take_24 : decode cX7_take 24 = .ok (.iconst 0, 1) := by decide +kernel
theorem dX7_take_25 : decode cX7_take 25 = .ok (.bastore, 1) := by decide +kernel
theorem dX7_take_26 : decode cX7_take 26 = .ok (.aload_n 0, 1) := by decide +kernel
theorem dX7_take_27 : decode cX7_take 27 = .ok (.aload_n 0, 1) := by decide +kernel
theorem dX7_take_28 : decode cX7_take 28 = .ok (.getfield 23, 3) := by decide +kernel
theorem dX7_take_31 : decode cX7_take 31 = .ok (.iconst 1, 1) := by decide +kernel
theorem dX7_take_32 : decode cX7_take 32 = .ok (.iadd, 1) := by decide +kernel
theorem dX7_take_33 : decode cX7_take 33 = .ok (.sipush 148, 3) := by decide +kernel
theorem dX7_take_36 : decode cX7_take 36 = .ok (.irem, 1) := by decide +kernel
theorem dX7_take_37 : decode cX7_take 37 = .ok (.putfield 23, 3) := by decide +kernel
theorem dX7_take_40 : decode cX7_take 40 = .ok (.aload_n 0, 1) := by decide +kernel
theorem dX7_take_41 : decode cX7_take 41 = .ok (.dup, 1) := by decide +kernel
theorem dX7_take_42 : decode cX7_take 42 = .ok (.getfield 19, 3) := by decide +kernel
theorem dX7_take_45 : decode cX7_take 45 = .ok (.iconst 1, 1) := by decide +kernel
theorem dX7_take_46 : decode cX7_take 46 = .ok (.isub, 1) := by decide +kernel
theorem dX7_take_47 : decode cX7_take 47 = .ok (.putfield 19, 3) := by decide +kernel
theorem dX7_take_50 : decode cX7_take 50 = .ok (.iload_n 1, 1) := by decide +kernel
theorem dX7_take_51 : decode cX7_take 51 = .ok (.ireturn, 1) := by decide +kernel
set_option maxRecDepth 20000 in
theorem ggX8_init_X1_init : GoodIn wsX8_init wsX1_init := goodIn_r _ [36, 37, 2, 3, 31, 38, 39, 40, 41, 42, 43, 44, 45, 46, 47, 48, 6, 49, 50, 51, 52, 53, 54, 55, 56, 57, 58, 59, 60, 61, 62, 63, 64, 65, 66, 67, 68, 142, 143, 144, 145] (by decide +kernel) (by decide +kernel)
set_option maxRecDepth 20000 in
theorem gX8_init_X1_init : GoodIn wsX8_init (wsX1_init) := ggX8_init_X1_init
set_option maxRecDepth 20000 in
theorem ggX8_init_X0_init : GoodIn wsX8_init wsX0_init := goodIn_r _ [71, 72, 2, 3, 31, 73, 74, 75, 76, 77, 78, 79, 80, 81, 82, 83, 43, 44, 45, 146, 147, 148, 149, 150, 151, 152, 153, 154, 155, 156] (by decide +kernel) (by decide +kernel)
set_option maxRecDepth 20000 in
theorem gX8_init_X0_init : GoodIn wsX8_init (wsX0_init) := ggX8_init_X0_init
set_option maxRecDepth 20000 in
theorem ggX8_init_X2_init : GoodIn wsX8_init wsX2_init := goodIn_r _ [86, 87, 2, 3, 31, 88, 89, 165, 166] (by decide +kernel) (by decide +kernel)
set_option maxRecDepth 20000 in
theorem gX8_init_X2_init : GoodIn wsX8_init (wsX2_init) := ggX8_init_X2_init
set_option maxRecDepth 20000 in
theorem ggX8_init_X3_init : GoodIn wsX8_init wsX3_init := goodIn_r _ [92, 93, 2, 3, 94, 95, 31, 96, 97, 167, 168, 169, 170] (by decide +kernel) (by decide +kernel)
set_option maxRecDepth 20000 in
theorem gX8_init_X3_init : GoodIn wsX8_init (wsX3_init) := ggX8_init_X3_init
set_option maxRecDepth 20000 in
theorem ggX8_init_X4_init : GoodIn wsX8_init wsX4_init := goodIn_r _ [100, 101, 2, 3, 102, 103, 104, 105, 106, 107, 108, 31, 109, 110, 111, 112, 74, 113, 114, 115, 116, 117, 118, 119, 120, 121, 171, 172, 173, 174, 175, 176, 177, 178, 179, 180, 181, 191, 192, 193, 194] (by decide +kernel) (by decide +kernel)
set_option maxRecDepth 20000 in
theorem gX8_init_X4_init : GoodIn wsX8_init (wsX4_init) := ggX8_init_X4_init
set_option maxRecDepth 20000 in
theorem ggX8_init_X5_init : GoodIn wsX8_init wsX5_init := goodIn_r _ [124, 125, 2, 3, 126, 127, 128, 31, 129, 130, 131, 132, 133, 43, 44, 45, 182, 183, 184, 185, 186, 187] (by decide +kernel) (by decide +kernel)
set_option maxRecDepth 20000 in
theorem gX8_init_X5_init : GoodIn wsX8_init (wsX5_init) := ggX8_init_X5_init
set_option maxRecDepth 20000 in
theorem ggX8_init_X6_init : GoodIn wsX8_init wsX6_init := goodIn_r _ [136, 137, 2, 3, 138, 31, 139, 74, 140, 188, 189, 190] (by decide +kernel) (by decide +kernel)
set_option maxRecDepth 20000 in
theorem gX8_init_X6_init : GoodIn wsX8_init (wsX6_init) := ggX8_init_X6_init
set_option maxRecDepth 20000 in
theorem ggX8_init_J7_fill_53178 : GoodIn wsX8_init wsJ7_fill_53178 := goodIn_r _ [45] (by decide +kernel) (by decide +kernel)
set_option maxRecDepth 20000 in
theorem gX8_init_J7_fill_53178 : GoodIn wsX8_init (va_wsS RX8 66 yJ7_fill_53178 wsJ7_fill_53178) := goodIn_app (goodIn_of _ (by decide +kernel)) ggX8_init_J7_fill_53178
theorem dX8_init_0 : decode cX8_init 0 = .ok (.aload_n 0, 1) := by decide +kernel
theorem dX8_init_1 : decode cX8_init 1 = .ok (.invokespecial 3, 3) := by decide +kernel
theorem dX8_init_4 : decode cX8_init 4 = .ok (.new 9, 3) := by decide +kernel
theorem dX8_init_7 : decode cX8_init 7 = .ok (.dup, 1) := by decide +kernel
theorem dX8_init_8 : decode cX8_init 8 = .ok (.invokespecial 11, 3) := by decide +kernel
theorem dX8_init_11 : decode cX8_init 11 = .ok (.astore_n 1, 1) := by decide +kernel
theorem dX8_init_12 : decode cX8_init 12 = .ok (.aload_n 0, 1) := by decide +kernel
theorem dX8_init_13 : decode cX8_init 13 = .ok (.new 12, 3) := by decide +kernel
theorem dX8_init_16 : decode cX8_init 16 = .ok (.dup, 1) := by decide +kernel
theorem dX8_init_17 : decode cX8_init 17 = .ok (.invokespecial 14, 3) := by decide +kernel
theorem dX8_init_20 : decode cX8_init 20 = .ok (.putfield 15, 3) := by decide +kernel
theorem dX8_init_23 : decode cX8_init 23 = .ok (.aload_n 0, 1) := by decide +kernel
theorem dX8_init_24 : decode cX8_init 24 = .ok (.new 19, 3) := by decide +kernel
theorem dX8_init_27 : decode cX8_init 27 = .ok (.dup, 1) := by decide +kernel
theorem dX8_init_28 : decode cX8_init 28 = .ok (.invokespecial 21, 3) := by decide +kernel
theorem dX8_init_31 : decode cX8_init 31 = .ok (.putfield 22, 3) := by decide +kernel
theorem dX8_init_34 : decode cX8_init 34 = .ok (.aload_n 0, 1) := by decide +kernel
theorem dX8_init_35 : decode cX8_init 35 = .ok (.new 26, 3) := by decide +kernel
theorem dX8_init_38 : decode cX8_init 38 = .ok (.dup, 1) := by decide +kernel
theorem dX8_init_39 : decode cX8_init 39 = .ok (.aload_n 0, 1) := by decide +kernel
theorem dX8_init_40 : decode cX8_init 40 = .ok (.getfield 15, 3) := by decide +kernel
theorem dX8_init_43 : decode cX8_init 43 = .ok (.aload_n 0, 1) := by decide +kernel
theorem dX8_init_44 : decode cX8_init 44 = .ok (.getfield 22, 3) := by decide +kernel
theorem dX8_init_47 : decode cX8_init 47 = .ok (.invokespecial 28, 3) := by decide +kernel
theorem dX8_init_50 : decode cX8_init 50 = .ok (.putfield 31, 3) := by decide +kernel
theorem dX8_init_53 : decode cX8_init 53 = .ok (.aload_n 0, 1) := by decide +kernel
theorem dX8_init_54 : decode cX8_init 54 = .ok (.new 35, 3) := by decide +kernel
theorem dX8_init_57 : decode cX8_init 57 = .ok (.dup, 1) := by decide +kernel
theorem dX8_init_58 : decode cX8_init 58 = .ok (.aload_n 1, 1) := by decide +kernel
theorem dX8_init_59 : decode cX8_init 59 = .ok (.aload_n 0, 1) := by decide +kernel
theorem dX8_init_60 : decode cX8_init 60 = .ok (.getfield 22, 3) := by decide +kernel
theorem dX8_init_63 : decode cX8_init 63 = .ok (.aload_n 0, 1) := by decide +kernel
theorem dX8_init_64 : decode cX8_init 64 = .ok (.getfield 31, 3) := by decide +kernel
theorem dX8_init_67 : decode cX8_init 67 = .ok (.invokespecial 37, 3) := by decide +kernel
theorem dX8_init_70 : decode cX8_init 70 = .ok (.putfield 40, 3) := by decide +kernel
theorem dX8_init_73 : decode cX8_init 73 = .ok (.aload_n 0, 1) := by decide +kernel
theorem dX8_init_74 : decode cX8_init 74 = .ok (.new 44, 3) := by decide +kernel
theorem dX8_init_77 : decode cX8_init 77 = .ok (.dup, 1) := by decide +kernel
theorem dX8_init_78 : decode cX8_init 78 = .ok (.aload_n 1, 1) := by decide +kernel
theorem dX8_init_79 : decode cX8_init 79 = .ok (.invokespecial 46, 3) := by decide +kernel
theorem dX8_init_82 : decode cX8_init 82 = .ok (.putfield 49, 3) := by decide +kernel
theorem dX8_init_85 : decode cX8_init 85 = .ok (.aload_n 0, 1) := by decide +kernel
theorem dX8_init_86 : decode cX8_init 86 = .ok (.new 53, 3) := by decide +kernel
theorem dX8_init_89 : decode cX8_init 89 = .ok (.dup, 1) := by decide +kernel
theorem dX8_init_90 : decode cX8_init 90 = .ok (.aload_n 0, 1) := by decide +kernel
theorem dX8_init_91 : decode cX8_init 91 = .ok (.getfield 49, 3) := by decide +kernel
theorem dX8_init_94 : decode cX8_init 94 = .ok (.invokespecial 55, 3) := by decide +kernel
theorem dX8_init_97 : decode cX8_init 97 = .ok (.putfield 58, 3) := by decide +kernel
theorem dX8_init_100 : decode cX8_init 100 = .ok (.aload_n 0, 1) := by decide +kernel
theorem dX8_init_101 : decode cX8_init 101 = .ok (.bipush 10, 2) := by decide +kernel
theorem dX8_init_103 : decode cX8_init 103 = .ok (.newarray .int, 2) := by decide +kernel
theorem dX8_init_105 : decode cX8_init 105 = .ok (.putfield 62, 3) := by decide +kernel
theorem dX8_init_108 : decode cX8_init 108 = .ok (.aload_n 0, 1) := by decide +kernel
theorem dX8_init_109 : decode cX8_init 109 = .ok (.getfield 62, 3) := by decide +kernel
theorem dX8_init_112 : decode cX8_init 112 = .ok (.iconst (-1), 1) := by decide +kernel
theorem dX8_init_113 : decode cX8_init 113 = .ok (.invokestatic 66, 3) := by decide +kernel
theorem dX8_init_116 : decode cX8_init 116 = .ok (.aload_n 0, 1) := by decide +kernel
theorem dX8_init_117 : decode cX8_init 117 = .ok (.iconst 0, 1) := by decide +kernel
theorem dX8_init_118 : decode cX8_init 118 = .ok (.putfield 72, 3) := by decide +kernel
theorem dX8_init_121 : decode cX8_init 121 = .ok (.return_, 1) := by decide +kernel
set_option maxRecDepth 20000 in
theorem ggX8_cell_X0_addCell : GoodIn wsX8_cell wsX0_addCell := goodIn_r _ [6, 7, 8, 9, 10, 11, 20, 21, 22, 23, 24, 25, 26, 27, 28, 29, 30] (by decide +kernel) (by decide +kernel)
set_option maxRecDepth 20000 in
theorem gX8_cell_X0_addCell : GoodIn wsX8_cell (wsV RX8 76 RX0 yX0_addCell wsX0_addCell) := goodIn_app (goodIn_of _ (by decide +kernel)) ggX8_cell_X0_addCell
theorem dX8_cell_0 : decode cX8_cell 0 = .ok (.aload_n 0, 1) := by decide +kernel
theorem dX8_cell_1 : decode cX8_cell 1 = .ok (.getfield 15, 3) := by decide +kernel
theorem dX8_cell_4 : decode cX8_cell 4 = .ok (.iload_n 1, 1) := by decide +kernel
theorem dX8_cell_5 : decode cX8_cell 5 = .ok (.sipush 255, 3) := by decide +kernel
theorem dX8_cell_8 : decode cX8_cell 8 = .ok (.iand, 1) := by decide +kernel
theorem dX8_cell_9 : decode cX8_cell 9 = .ok (.iload_n 2, 1) := by decide +kernel
theorem dX8_cell_10 : decode cX8_cell 10 = .ok (.iload_n 3, 1) := by decide +kernel
theorem dX8_cell_11 : decode cX8_cell 11 = .ok (.invokevirtual 76, 3) := by decide +kernel
theorem dX8_cell_14 : decode cX8_cell 14 = .ok (.ireturn, 1) := by decide +kernel
set_option maxRecDepth 20000 in
theorem ggX8_connect_X0_hasCell : GoodIn wsX8_connect wsX0_hasCell := goodIn_r _ [6, 7, 25, 26, 27, 28, 29, 30, 31, 32, 33, 34, 35] (by decide +kernel) (by decide +kernel)
set_option maxRecDepth 20000 in
theorem gX8_connect_X0_hasCell : GoodIn wsX8_connect (wsV RX8 80 RX0 yX0_hasCell wsX0_hasCell) := goodIn_app (goodIn_of _ (by decide +kernel)) ggX8_connect_X0_hasCell
set_option maxRecDepth 20000 in
theorem ggX8_connect_X0_setSource : GoodIn wsX8_connect wsX0_setSource := goodIn_r _ [11, 12, 13, 3, 4, 5, 6, 7, 14, 15, 16, 25, 26, 27, 28, 29, 30, 31, 32, 33, 34, 35] (by decide +kernel) (by decide +kernel)
set_option maxRecDepth 20000 in
theorem gX8_connect_X0_setSource : GoodIn wsX8_connect (wsV RX8 84 RX0 yX0_setSource wsX0_setSource) := goodIn_app (goodIn_of _ (by decide +kernel)) ggX8_connect_X0_setSource
theorem dX8_connect_0 : decode cX8_connect 0 = .ok (.aload_n 0, 1) := by decide +kernel
theorem dX8_connect_1 : decode cX8_connect 1 = .ok (.getfield 15, 3) := by decide +kernel
theorem dX8_connect_4 : decode cX8_connect 4 = .ok (.iload_n 1, 1) := by decide +kernel
theorem dX8_connect_5 : decode cX8_connect 5 = .ok (.invokevirtual 80, 3) := by decide +kernel
theorem dX8_connect_8 : decode cX8_connect 8 = .ok (.ifCond .eq 12, 3) := by decide +kernel
theorem dX8_connect_11 : decode cX8_connect 11 = .ok (.iload_n 2, 1) := by decide +kernel
theorem dX8_connect_12 : decode cX8_connect 12 = .ok (.ifCond .lt 8, 3) := by decide +kernel
theorem dX8_connect_15 : decode cX8_connect 15 = .ok (.iload_n 2, 1) := by decide +kernel
theorem dX8_connect_16 : decode cX8_connect 16 = .ok (.iconst 3, 1) := by decide +kernel
theorem dX8_connect_17 : decode cX8_connect 17 = .ok (.if_icmp .lt 5, 3) := by decide +kernel
theorem dX8_connect_20 : decode cX8_connect 20 = .ok (.iconst 0, 1) := by decide +kernel
theorem dX8_connect_21 : decode cX8_connect 21 = .ok (.ireturn, 1) := by decide +kernel
theorem dX8_connect_22 : decode cX8_connect 22 = .ok (.aload_n 0, 1) := by decide +kernel
theorem dX8_connect_23 : decode cX8_connect 23 = .ok (.getfield 15, 3) := by decide +kernel
theorem dX8_connect_26 : decode cX8_connect 26 = .ok (.iload_n 1, 1) := by decide +kernel
theorem dX8_connect_27 : decode cX8_connect 27 = .ok (.iconst 3, 1) := by decide +kernel
theorem dX8_connect_28 : decode cX8_connect 28 = .ok (.imul, 1) := by decide +kernel
theorem dX8_connect_29 : decode cX8_connect 29 = .ok (.iload_n 2, 1) := by decide +kernel
theorem dX8_connect_30 : decode cX8_connect 30 = .ok (.iadd, 1) := by decide +kernel
theorem dX8_connect_31 : decode cX8_connect 31 = .ok (.iload_n 3, 1) := by decide +kernel
theorem dX8_connect_32 : decode cX8_connect 32 = .ok (.invokevirtual 84, 3) := by decide +kernel
theorem dX8_connect_35 : decode cX8_connect 35 = .ok (.ireturn, 1) := by decide +kernel
set_option maxRecDepth 20000 in
theorem ggX8_output_X0_setSource : GoodIn wsX8_output wsX0_setSource := goodIn_r _ [6, 7, 8, 9, 10, 5, 11, 12, 13, 14, 15, 24, 25, 26, 27, 28, 29, 30, 31, 32, 33, 34] (by decide +kernel) (by decide +kernel)
set_option maxRecDepth 20000 in
theorem gX8_output_X0_setSource : GoodIn wsX8_output (wsV RX8 84 RX0 yX0_setSource wsX0_setSource) := goodIn_app (goodIn_of _ (by decide +kernel)) ggX8_output_X0_setSource
theorem dX8_output_0 : decode cX8_output 0 = .ok (.iload_n 1, 1) := by decide +kernel
theorem dX8_output_1 : decode cX8_output 1 = .ok (.ifCond .lt 8, 3) := by decide +kernel
theorem dX8_output_4 : decode cX8_output 4 = .ok (.iload_n 1, 1) := by decide +kernel
theorem dX8_output_5 : decode cX8_output 5 = .ok (.iconst 4, 1) := by decide +kernel
theorem dX8_output_6 : decode cX8_output 6 = .ok (.if_icmp .lt 5, 3) := by decide +kernel
theorem dX8_output_9 : decode cX8_output 9 = .ok (.iconst 0, 1) := by decide +kernel
theorem dX8_output_10 : decode cX8_output 10 = .ok (.ireturn, 1) := by decide +kernel
theorem dX8_output_11 : decode cX8_output 11 = .ok (.aload_n 0, 1) := by decide +kernel
theorem dX8_output_12 : decode cX8_output 12 = .ok (.getfield 15, 3) := by decide +kernel
theorem dX8_output_15 : decode cX8_output 15 = .ok (.bipush 30, 2) := by decide +kernel
theorem dX8_output_17 : decode cX8_output 17 = .ok (.iload_n 1, 1) := by decide +kernel
theorem dX8_output_18 : decode cX8_output 18 = .ok (.iadd, 1) := by decide +kernel
theorem dX8_output_19 : decode cX8_output 19 = .ok (.iload_n 2, 1) := by decide +kernel
theorem dX8_output_20 : decode cX8_output 20 = .ok (.invokevirtual 84, 3) := by decide +kernel
theorem dX8_output_23 : decode cX8_output 23 = .ok (.ireturn, 1) := by decide +kernel
set_option maxRecDepth 20000 in
theorem ggX8_fix_X0_setFixed : GoodIn wsX8_fix wsX0_setFixed := goodIn_r _ [6, 7, 8, 9, 10, 11, 5, 12, 21, 22, 23, 24, 25, 26, 27, 28, 29, 30, 31] (by decide +kernel) (by decide +kernel)
set_option maxRecDepth 20000 in
theorem gX8_fix_X0_setFixed : GoodIn wsX8_fix (wsV RX8 88 RX0 yX0_setFixed wsX0_setFixed) := goodIn_app (goodIn_of _ (by decide +kernel)) ggX8_fix_X0_setFixed
theorem dX8_fix_0 : decode cX8_fix 0 = .ok (.aload_n 0, 1) := by decide +kernel
theorem dX8_fix_1 : decode cX8_fix 1 = .ok (.getfield 15, 3) := by decide +kernel
theorem dX8_fix_4 : decode cX8_fix 4 = .ok (.iload_n 1, 1) := by decide +kernel
theorem dX8_fix_5 : decode cX8_fix 5 = .ok (.iload_n 2, 1) := by decide +kernel
theorem dX8_fix_6 : decode cX8_fix 6 = .ok (.invokevirtual 88, 3) := by decide +kernel
theorem dX8_fix_9 : decode cX8_fix 9 = .ok (.ireturn, 1) := by decide +kernel
set_option maxRecDepth 20000 in
theorem ggX8_build_X0_size : GoodIn wsX8_build wsX0_size := goodIn_r _ [9, 10, 300, 301, 302, 303, 304, 305, 306, 307, 308, 309, 310] (by decide +kernel) (by decide +kernel)
set_option maxRecDepth 20000 in
theorem gX8_build_X0_size : GoodIn wsX8_build (wsV RX8 91 RX0 yX0_size wsX0_size) := goodIn_app (goodIn_of _ (by decide +kernel)) ggX8_build_X0_size
set_option maxRecDepth 20000 in
theorem ggX8_build_X0_hasRing : GoodIn wsX8_build wsX0_hasRing := goodIn_r _ [14, 15, 10, 16, 17, 18, 19, 20, 8, 21, 22, 23, 24, 25, 26, 27, 300, 301, 302, 303, 304, 305, 306, 307, 308, 309, 310] (by decide +kernel) (by decide +kernel)
set_option maxRecDepth 20000 in
theorem gX8_build_X0_hasRing : GoodIn wsX8_build (wsV RX8 95 RX0 yX0_hasRing wsX0_hasRing) := goodIn_app (goodIn_of _ (by decide +kernel)) ggX8_build_X0_hasRing
set_option maxRecDepth 20000 in
theorem ggX8_build_X2_gather : GoodIn wsX8_build wsX2_gather := goodIn_r _ [32, 33, 34, 35, 36, 37, 8, 38, 22, 311, 312, 300, 301, 302, 303, 304, 305, 306, 307, 308, 309, 310] (by decide +kernel) (by decide +kernel)
set_option maxRecDepth 20000 in
theorem gX8_build_X2_gather : GoodIn wsX8_build (wsV RX8 99 RX2 yX2_gather wsX2_gather) := goodIn_app (goodIn_of _ (by decide +kernel)) ggX8_build_X2_gather
set_option maxRecDepth 20000 in
theorem ggX8_build_X3_place : GoodIn wsX8_build wsX3_place := goodIn_r _ [43, 44, 45, 46, 42, 47, 48, 49, 50, 51, 52, 53, 54, 6, 7, 8, 9, 10, 55, 56, 57, 58, 59, 24, 25, 26, 27, 60, 61, 62, 63, 64, 65, 66, 67, 68, 69, 70, 71, 72, 31, 73, 33, 74, 75, 76, 77, 78, 79, 80, 81, 82, 83, 84, 85, 86, 87, 88, 89, 90, 91, 92, 34, 93, 94, 95, 96, 97, 98, 99, 100, 101, 102, 103, 104, 105, 106, 107, 108, 313, 314, 315, 316, 300, 301, 302, 303, 304, 305, 306, 307, 308, 309, 310, 311, 312] (by decide +kernel) (by decide +kernel)
set_option maxRecDepth 20000 in
theorem gX8_build_X3_place : GoodIn wsX8_build (wsV RX8 103 RX3 yX3_place wsX3_place) := goodIn_app (goodIn_of _ (by decide +kernel)) ggX8_build_X3_place
set_option maxRecDepth 20000 in
theorem ggX8_build_X4_route : GoodIn wsX8_build wsX4_route := goodIn_r _ [113, 114, 115, 51, 52, 53, 116, 117, 118, 112, 119, 120, 121, 122, 123, 124, 71, 72, 31, 73, 33, 125, 126, 127, 128, 129, 130, 131, 132, 133, 134, 135, 136, 137, 86, 87, 42, 88, 64, 138, 139, 140, 141, 142, 143, 144, 145, 146, 147, 148, 149, 150, 151, 152, 153, 154, 155, 156, 157, 158, 159, 160, 161, 162, 163, 164, 165, 166, 167, 168, 169, 170, 171, 172, 173, 174, 175, 176, 177, 178, 179, 180, 181, 182, 183, 184, 185, 90, 91, 92, 34, 186, 187, 188, 189, 190, 94, 95, 96, 191, 192, 193, 194, 195, 196, 197, 198, 199, 200, 201, 202, 203, 204, 205, 206, 207, 208, 209, 210, 211, 212, 213, 214, 215, 216, 217, 218, 219, 220, 221, 222, 223, 224, 225, 226, 317, 318, 319, 320, 321, 322, 323, 324, 325, 326, 327, 311, 312, 313, 314, 315, 316, 328, 329, 330, 331, 332, 333, 334, 335] (by decide +kernel) (by decide +kernel)
set_option maxRecDepth 20000 in
theorem gX8_build_X4_route : GoodIn wsX8_build (wsV RX8 106 RX4 yX4_route wsX4_route) := goodIn_app (goodIn_of _ (by decide +kernel)) ggX8_build_X4_route
set_option maxRecDepth 20000 in
theorem ggX8_build_X8_keepBuilding : GoodIn wsX8_build wsX8_keepBuilding := goodIn_r _ [231, 232, 1, 3, 233, 234, 4, 235, 25, 26, 8, 27, 10, 236, 86, 87, 42, 88, 64, 237, 238, 239, 240, 48, 241, 242, 243, 244, 17, 245, 246, 24, 247, 248, 249, 112, 250, 122, 121, 138, 139, 140, 141, 251, 252, 253, 254, 255, 256, 257, 258, 259, 260, 261, 262, 263, 264, 265, 266, 267, 268, 269, 270, 271, 272, 273, 274, 196, 197, 198, 199, 275, 276, 277, 278, 279, 280, 281, 282, 283, 284, 285, 286, 287, 219, 220, 221, 222, 288, 289, 290, 291, 205, 206, 207, 208, 209, 292, 293, 294, 295, 296, 297, 298, 299, 300, 301, 302, 303, 304, 305, 306, 307, 308, 309, 310, 313, 314, 315, 316, 317, 318, 319, 320, 321, 322, 323, 324, 325, 326, 327, 336, 337, 338, 339, 340, 341, 332, 333, 334, 335] (by decide +kernel) (by decide +kernel)
set_option maxRecDepth 20000 in
theorem gX8_build_X8_keepBuilding : GoodIn wsX8_build (wsV RX8 109 RX8 yX8_keepBuilding wsX8_keepBuilding) := goodIn_app (goodIn_of _ (by decide +kernel)) ggX8_build_X8_keepBuilding
theorem dX8_build_0 : decode cX8_build 0 = .ok (.aload_n 0, 1) := by decide +kernel
theorem dX8_build_1 : decode cX8_build 1 = .ok (.getfield 15, 3) := by decide +kernel
theorem dX8_build_4 : decode cX8_build 4 = .ok (.invokevirtual 91, 3) := by decide +kernel
theorem dX8_build_7 : decode cX8_build 7 = .ok (.ifCond .ne 5, 3) := by decide +kernel
theorem dX8_build_10 : decode cX8_build 10 = .ok (.iconst (-1), 1) := by decide +kernel
theorem dX8_build_11 : decode cX8_build 11 = .ok (.ireturn, 1) := by decide +kernel
theorem dX8_build_12 : decode cX8_build 12 = .ok (.aload_n 0, 1) := by decide +kernel
theorem dX8_build_13 : decode cX8_build 13 = .ok (.getfield 15, 3) := by decide +kernel
theorem dX8_build_16 : decode cX8_build 16 = .ok (.invokevirtual 95, 3) := by decide +kernel
theorem dX8_build_19 : decode cX8_build 19 = .ok (.ifCond .eq 6, 3) := by decide +kernel
theorem dX8_build_22 : decode cX8_build 22 = .ok (.bipush (-2), 2) := by decide +kernel
theorem dX8_build_24 : decode cX8_build 24 = .ok (.ireturn, 1) := by decide +kernel
theorem dX8_build_25 : decode cX8_build 25 = .ok (.aload_n 0, 1) := by decide +kernel
theorem dX8_build_26 : decode cX8_build 26 = .ok (.getfield 22, 3) := by decide +kernel
theorem dX8_build_29 : decode cX8_build 29 = .ok (.aload_n 0, 1) := by decide +kernel
theorem dX8_build_30 : decode cX8_build 30 = .ok (.getfield 15, 3) := by decide +kernel
theorem dX8_build_33 : decode cX8_build 33 = .ok (.invokevirtual 99, 3) := by decide +kernel
theorem dX8_build_36 : decode cX8_build 36 = .ok (.aload_n 0, 1) := by decide +kernel
theorem dX8_build_37 : decode cX8_build 37 = .ok (.getfield 31, 3) := by decide +kernel
theorem dX8_build_40 : decode cX8_build 40 = .ok (.invokevirtual 103, 3) := by decide +kernel
theorem dX8_build_43 : decode cX8_build 43 = .ok (.istore_n 1, 1) := by decide +kernel
theorem dX8_build_44 : decode cX8_build 44 = .ok (.aload_n 0, 1) := by decide +kernel
theorem dX8_build_45 : decode cX8_build 45 = .ok (.getfield 40, 3) := by decide +kernel
theorem dX8_build_48 : decode cX8_build 48 = .ok (.invokevirtual 106, 3) := by decide +kernel
theorem dX8_build_51 : decode cX8_build 51 = .ok (.istore_n 2, 1) := by decide +kernel
theorem dX8_build_52 : decode cX8_build 52 = .ok (.iload_n 2, 1) := by decide +kernel
theorem dX8_build_53 : decode cX8_build 53 = .ok (.ifCond .le 8, 3) := by decide +kernel
theorem dX8_build_56 : decode cX8_build 56 = .ok (.aload_n 0, 1) := by decide +kernel
theorem dX8_build_57 : decode cX8_build 57 = .ok (.iload_n 1, 1) := by decide +kernel
theorem dX8_build_58 : decode cX8_build 58 = .ok (.invokevirtual 109, 3) := by decide +kernel
theorem dX8_build_61 : decode cX8_build 61 = .ok (.iload_n 2, 1) := by decide +kernel
theorem dX8_build_62 : decode cX8_build 62 = .ok (.ireturn, 1) := by decide +kernel
theorem dX8_tileOf_0 : decode cX8_tileOf 0 = .ok (.iload_n 1, 1) := by decide +kernel
theorem dX8_tileOf_1 : decode cX8_tileOf 1 = .ok (.ifCond .lt 9, 3) := by decide +kernel
theorem dX8_tileOf_4 : decode cX8_tileOf 4 = .ok (.iload_n 1, 1) := by decide +kernel
theorem dX8_tileOf_5 : decode cX8_tileOf 5 = .ok (.bipush 10, 2) := by decide +kernel
theorem dX8_tileOf_7 : decode cX8_tileOf 7 = .ok (.if_icmp .lt 7, 3) := by decide +kernel
theorem dX8_tileOf_10 : decode cX8_tileOf 10 = .ok (.iconst (-1), 1) := by decide +kernel
theorem dX8_tileOf_11 : decode cX8_tileOf 11 = .ok (.goto 9, 3) := by decide +kernel
theorem dX8_tileOf_14 : decode cX8_tileOf 14 = .ok (.aload_n 0, 1) := by decide +kernel
theorem dX8_tileOf_15 : decode cX8_tileOf 15 = .ok (.getfield 62, 3) := by decide +kernel
theorem dX8_tileOf_18 : decode cX8_tileOf 18 = .ok (.iload_n 1, 1) := by decide +kernel
theorem dX8_tileOf_19 : decode cX8_tileOf 19 = .ok (.iaload, 1) := by decide +kernel
theorem dX8_tileOf_20 : decode cX8_tileOf 20 = .ok (.ireturn, 1) := by decide +kernel
theorem dX8_cost_0 : decode cX8_cost 0 = .ok (.aload_n 0, 1) := by decide +kernel
theorem dX8_cost_1 : decode cX8_cost 1 = .ok (.getfield 72, 3) := by decide +kernel
theorem dX8_cost_4 : decode cX8_cost 4 = .ok (.ireturn, 1) := by decide +kernel
set_option maxRecDepth 20000 in
theorem ggX8_bits_X5_bitsOf : GoodIn wsX8_bits wsX5_bitsOf := goodIn_r _ [6, 7, 16, 17, 18, 19, 20, 21] (by decide +kernel) (by decide +kernel)
set_option maxRecDepth 20000 in
theorem gX8_bits_X5_bitsOf : GoodIn wsX8_bits (wsV RX8 113 RX5 yX5_bitsOf wsX5_bitsOf) := goodIn_app (goodIn_of _ (by decide +kernel)) ggX8_bits_X5_bitsOf
theorem dX8_bits_0 : decode cX8_bits 0 = .ok (.aload_n 0, 1) := by decide +kernel
theorem dX8_bits_1 : decode cX8_bits 1 = .ok (.getfield 49, 3) := by decide +kernel
theorem dX8_bits_4 : decode cX8_bits 4 = .ok (.iload_n 1, 1) := by decide +kernel
theorem dX8_bits_5 : decode cX8_bits 5 = .ok (.invokevirtual 113, 3) := by decide +kernel
theorem dX8_bits_8 : decode cX8_bits 8 = .ok (.lreturn, 1) := by decide +kernel
set_option maxRecDepth 20000 in
theorem ggX8_load_X5_areLegal : GoodIn wsX8_load wsX5_areLegal := goodIn_r _ [5, 6, 7, 8, 4, 9, 10, 11, 12] (by decide +kernel) (by decide +kernel)
set_option maxRecDepth 20000 in
theorem gX8_load_X5_areLegal : GoodIn wsX8_load (va_wsS RX8 117 yX5_areLegal wsX5_areLegal) := goodIn_app (goodIn_of _ (by decide +kernel)) ggX8_load_X5_areLegal
set_option maxRecDepth 20000 in
theorem ggX8_load_X5_setBits : GoodIn wsX8_load wsX5_setBits := goodIn_r _ [16, 17, 18, 19, 20, 21, 4, 22, 23, 24, 25, 26, 69, 70, 71, 72, 73, 74] (by decide +kernel) (by decide +kernel)
set_option maxRecDepth 20000 in
theorem gX8_load_X5_setBits : GoodIn wsX8_load (wsV RX8 121 RX5 yX5_setBits wsX5_setBits) := goodIn_app (goodIn_of _ (by decide +kernel)) ggX8_load_X5_setBits
set_option maxRecDepth 20000 in
theorem ggX8_load_X5_retrace : GoodIn wsX8_load wsX5_retrace := goodIn_r _ [30, 17, 31, 7, 8, 4, 9, 32, 33, 34, 35, 36, 37, 38, 39, 40, 41, 42, 43, 44, 45, 46, 23, 24, 25, 26, 10, 11, 12, 47, 48, 49, 50, 51, 52, 53, 54, 55, 56, 57, 58, 59, 60, 69, 70, 71, 72, 73, 74, 75, 76, 77, 78] (by decide +kernel) (by decide +kernel)
set_option maxRecDepth 20000 in
theorem gX8_load_X5_retrace : GoodIn wsX8_load (wsV RX8 125 RX5 yX5_retrace wsX5_retrace) := goodIn_app (goodIn_of _ (by decide +kernel)) ggX8_load_X5_retrace
theorem dX8_load_0 : decode cX8_load 0 = .ok (.iload_n 1, 1) := by decide +kernel
theorem dX8_load_1 : decode cX8_load 1 = .ok (.ifCond .lt 16, 3) := by decide +kernel
theorem dX8_load_4 : decode cX8_load 4 = .ok (.iload_n 1, 1) := by decide +kernel
theorem dX8_load_5 : decode cX8_load 5 = .ok (.bipush 16, 2) := by decide +kernel
theorem dX8_load_7 : decode cX8_load 7 = .ok (.if_icmp .ge 10, 3) := by decide +kernel
theorem dX8_load_10 : decode cX8_load 10 = .ok (.lload_n 2, 1) := by decide +kernel
theorem dX8_load_11 : decode cX8_load 11 = .ok (.invokestatic 117, 3) := by decide +kernel
theorem dX8_load_14 : decode cX8_load 14 = .ok (.ifCond .ne 5, 3) := by decide +kernel
theorem dX8_load_17 : decode cX8_load 17 = .ok (.iconst 0, 1) := by decide +kernel
theorem dX8_load_18 : decode cX8_load 18 = .ok (.ireturn, 1) := by decide +kernel
theorem dX8_load_19 : decode cX8_load 19 = .ok (.aload_n 0, 1) := by decide +kernel
theorem dX8_load_20 : decode cX8_load 20 = .ok (.getfield 49, 3) := by decide +kernel
theorem dX8_load_23 : decode cX8_load 23 = .ok (.iload_n 1, 1) := by decide +kernel
theorem dX8_load_24 : decode cX8_load 24 = .ok (.lload_n 2, 1) := by decide +kernel
theorem dX8_load_25 : decode cX8_load 25 = .ok (.invokevirtual 121, 3) := by decide +kernel
theorem dX8_load_28 : decode cX8_load 28 = .ok (.aload_n 0, 1) := by decide +kernel
theorem dX8_load_29 : decode cX8_load 29 = .ok (.getfield 49, 3) := by decide +kernel
theorem dX8_load_32 : decode cX8_load 32 = .ok (.invokevirtual 125, 3) := by decide +kernel
theorem dX8_load_35 : decode cX8_load 35 = .ok (.iconst 1, 1) := by decide +kernel
theorem dX8_load_36 : decode cX8_load 36 = .ok (.ireturn, 1) := by decide +kernel
set_option maxRecDepth 20000 in
theorem ggX8_checkSum_X5_sumUp : GoodIn wsX8_checkSum wsX5_sumUp := goodIn_r _ [6, 7, 8, 17, 18, 19, 20, 21, 22] (by decide +kernel) (by decide +kernel)
set_option maxRecDepth 20000 in
theorem gX8_checkSum_X5_sumUp : GoodIn wsX8_checkSum (wsV RX8 128 RX5 yX5_sumUp wsX5_sumUp) := goodIn_app (goodIn_of _ (by decide +kernel)) ggX8_checkSum_X5_sumUp
theorem dX8_checkSum_0 : decode cX8_checkSum 0 = .ok (.aload_n 0, 1) := by decide +kernel
theorem dX8_checkSum_1 : decode cX8_checkSum 1 = .ok (.getfield 49, 3) := by decide +kernel
theorem dX8_checkSum_4 : decode cX8_checkSum 4 = .ok (.invokevirtual 128, 3) := by decide +kernel
theorem dX8_checkSum_7 : decode cX8_checkSum 7 = .ok (.ireturn, 1) := by decide +kernel
set_option maxRecDepth 20000 in
theorem ggX8_pin_X8_wayTo : GoodIn wsX8_pin wsX8_wayTo := goodIn_r _ [5] (by decide +kernel) (by decide +kernel)
set_option maxRecDepth 20000 in
theorem gX8_pin_X8_wayTo : GoodIn wsX8_pin (va_wsS RX8 131 yX8_wayTo wsX8_wayTo) := goodIn_app (goodIn_of _ (by decide +kernel)) ggX8_pin_X8_wayTo
set_option maxRecDepth 20000 in
theorem ggX8_pin_X5_originOf : GoodIn wsX8_pin wsX5_originOf := goodIn_r _ [10, 11, 20, 21, 22, 23, 24, 25] (by decide +kernel) (by decide +kernel)
set_option maxRecDepth 20000 in
theorem gX8_pin_X5_originOf : GoodIn wsX8_pin (wsV RX8 135 RX5 yX5_originOf wsX5_originOf) := goodIn_app (goodIn_of _ (by decide +kernel)) ggX8_pin_X5_originOf
theorem dX8_pin_0 : decode cX8_pin 0 = .ok (.aload_n 0, 1) := by decide +kernel
theorem dX8_pin_1 : decode cX8_pin 1 = .ok (.getfield 49, 3) := by decide +kernel
theorem dX8_pin_4 : decode cX8_pin 4 = .ok (.iload_n 1, 1) := by decide +kernel
theorem dX8_pin_5 : decode cX8_pin 5 = .ok (.iload_n 2, 1) := by decide +kernel
theorem dX8_pin_6 : decode cX8_pin 6 = .ok (.invokestatic 131, 3) := by decide +kernel
theorem dX8_pin_9 : decode cX8_pin 9 = .ok (.invokevirtual 135, 3) := by decide +kernel
theorem dX8_pin_12 : decode cX8_pin 12 = .ok (.ireturn, 1) := by decide +kernel
set_option maxRecDepth 20000 in
theorem ggX8_outputOf_X5_originOf : GoodIn wsX8_outputOf wsX5_originOf := goodIn_r _ [6, 7, 16, 17, 18, 19, 20, 21] (by decide +kernel) (by decide +kernel)
set_option maxRecDepth 20000 in
theorem gX8_outputOf_X5_originOf : GoodIn wsX8_outputOf (wsV RX8 135 RX5 yX5_originOf wsX5_originOf) := goodIn_app (goodIn_of _ (by decide +kernel)) ggX8_outputOf_X5_originOf
theorem dX8_outputOf_0 : decode cX8_outputOf 0 = .ok (.iload_n 1, 1) := by decide +kernel
theorem dX8_outputOf_1 : decode cX8_outputOf 1 = .ok (.ifCond .lt 8, 3) := by decide +kernel
theorem dX8_outputOf_4 : decode cX8_outputOf 4 = .ok (.iload_n 1, 1) := by decide +kernel
theorem dX8_outputOf_5 : decode cX8_outputOf 5 = .ok (.iconst 4, 1) := by decide +kernel
theorem dX8_outputOf_6 : decode cX8_outputOf 6 = .ok (.if_icmp .lt 7, 3) := by decide +kernel
theorem dX8_outputOf_9 : decode cX8_outputOf 9 = .ok (.iconst (-1), 1) := by decide +kernel
theorem dX8_outputOf_10 : decode cX8_outputOf 10 = .ok (.goto 14, 3) := by decide +kernel
theorem dX8_outputOf_13 : decode cX8_outputOf 13 = .ok (.aload_n 0, 1) := by decide +kernel
theorem dX8_outputOf_14 : decode cX8_outputOf 14 = .ok (.getfield 49, 3) := by decide +kernel
theorem dX8_outputOf_17 : decode cX8_outputOf 17 = .ok (.bipush 48, 2) := by decide +kernel
theorem dX8_outputOf_19 : decode cX8_outputOf 19 = .ok (.iload_n 1, 1) := by decide +kernel
theorem dX8_outputOf_20 : decode cX8_outputOf 20 = .ok (.iadd, 1) := by decide +kernel
theorem dX8_outputOf_21 : decode cX8_outputOf 21 = .ok (.invokevirtual 135, 3) := by decide +kernel
theorem dX8_outputOf_24 : decode cX8_outputOf 24 = .ok (.ireturn, 1) := by decide +kernel
set_option maxRecDepth 20000 in
theorem ggX8_channels_X8_wayTo : GoodIn wsX8_channels wsX8_wayTo := goodIn_r _ [5] (by decide +kernel) (by decide +kernel)
set_option maxRecDepth 20000 in
theorem gX8_channels_X8_wayTo : GoodIn wsX8_channels (va_wsS RX8 131 yX8_wayTo wsX8_wayTo) := goodIn_app (goodIn_of _ (by decide +kernel)) ggX8_channels_X8_wayTo
set_option maxRecDepth 20000 in
theorem ggX8_channels_X5_lengthOf : GoodIn wsX8_channels wsX5_lengthOf := goodIn_r _ [10, 11, 20, 21, 22, 23, 24, 25] (by decide +kernel) (by decide +kernel)
set_option maxRecDepth 20000 in
theorem gX8_channels_X5_lengthOf : GoodIn wsX8_channels (wsV RX8 139 RX5 yX5_lengthOf wsX5_lengthOf) := goodIn_app (goodIn_of _ (by decide +kernel)) ggX8_channels_X5_lengthOf
theorem dX8_channels_0 : decode cX8_channels 0 = .ok (.aload_n 0, 1) := by decide +kernel
theorem dX8_channels_1 : decode cX8_channels 1 = .ok (.getfield 49, 3) := by decide +kernel
theorem dX8_channels_4 : decode cX8_channels 4 = .ok (.iload_n 1, 1) := by decide +kernel
theorem dX8_channels_5 : decode cX8_channels 5 = .ok (.iload_n 2, 1) := by decide +kernel
theorem dX8_channels_6 : decode cX8_channels 6 = .ok (.invokestatic 131, 3) := by decide +kernel
theorem dX8_channels_9 : decode cX8_channels 9 = .ok (.invokevirtual 139, 3) := by decide +kernel
theorem dX8_channels_12 : decode cX8_channels 12 = .ok (.ireturn, 1) := by decide +kernel
set_option maxRecDepth 20000 in
theorem ggX8_longest_X6_longestWay : GoodIn wsX8_longest wsX6_longestWay := goodIn_r _ [6, 7, 8, 9, 10, 11, 12, 13, 14, 15, 16, 5, 17, 18, 19, 20, 21, 22, 23, 24, 25, 26, 27, 28, 29, 30, 31, 32, 33, 34, 35, 36, 37, 38, 39, 40, 41, 42, 43, 44, 45, 46, 47, 48, 49, 50, 51, 60, 61, 62, 63, 64, 65, 66, 67, 68] (by decide +kernel) (by decide +kernel)
set_option maxRecDepth 20000 in
theorem gX8_longest_X6_longestWay : GoodIn wsX8_longest (wsV RX8 142 RX6 yX6_longestWay wsX6_longestWay) := goodIn_app (goodIn_of _ (by decide +kernel)) ggX8_longest_X6_longestWay
theorem dX8_longest_0 : decode cX8_longest 0 = .ok (.aload_n 0, 1) := by decide +kernel
theorem dX8_longest_1 : decode cX8_longest 1 = .ok (.getfield 58, 3) := by decide +kernel
theorem dX8_longest_4 : decode cX8_longest 4 = .ok (.invokevirtual 142, 3) := by decide +kernel
theorem dX8_longest_7 : decode cX8_longest 7 = .ok (.dreturn, 1) := by decide +kernel
set_option maxRecDepth 20000 in
theorem ggX8_slack_X6_longestWay : GoodIn wsX8_slack wsX6_longestWay := goodIn_r _ [7, 8, 9, 10, 11, 12, 13, 14, 15, 16, 17, 6, 18, 19, 20, 21, 22, 23, 24, 25, 26, 27, 28, 29, 30, 31, 32, 33, 34, 35, 36, 37, 38, 39, 40, 41, 42, 43, 44, 45, 46, 47, 48, 49, 50, 51, 52, 61, 62, 63, 64, 65, 66, 67, 68, 69] (by decide +kernel) (by decide +kernel)
set_option maxRecDepth 20000 in
theorem gX8_slack_X6_longestWay : GoodIn wsX8_slack (wsV RX8 142 RX6 yX6_longestWay wsX6_longestWay) := goodIn_app (goodIn_of _ (by decide +kernel)) ggX8_slack_X6_longestWay
theorem dX8_slack_0 : decode cX8_slack 0 = .ok (.dload_n 1, 1) := by decide +kernel
theorem dX8_slack_1 : decode cX8_slack 1 = .ok (.dconst 0, 1) := by decide +kernel
theorem dX8_slack_2 : decode cX8_slack 2 = .ok (.dcmp .l, 1) := by decide +kernel
theorem dX8_slack_3 : decode cX8_slack 3 = .ok (.ifCond .gt 7, 3) := by decide +kernel
theorem dX8_slack_6 : decode cX8_slack 6 = .ok (.ldc2_w 146, 3) := by decide +kernel
theorem dX8_slack_9 : decode cX8_slack 9 = .ok (.dreturn, 1) := by decide +kernel
theorem dX8_slack_10 : decode cX8_slack 10 = .ok (.aload_n 0, 1) := by decide +kernel
theorem dX8_slack_11 : decode cX8_slack 11 = .ok (.getfield 58, 3) := by decide +kernel
theorem dX8_slack_14 : decode cX8_slack 14 = .ok (.invokevirtual 142, 3) := by decide +kernel
theorem dX8_slack_17 : decode cX8_slack 17 = .ok (.dstore_n 3, 1) := by decide +kernel
theorem dX8_slack_18 : decode cX8_slack 18 = .ok (.dload_n 3, 1) := by decide +kernel
theorem dX8_slack_19 : decode cX8_slack 19 = .ok (.dconst 0, 1) := by decide +kernel
theorem dX8_slack_20 : decode cX8_slack 20 = .ok (.dcmp .g, 1) := by decide +kernel
theorem dX8_slack_21 : decode cX8_slack 21 = .ok (.ifCond .ge 9, 3) := by decide +kernel
theorem dX8_slack_24 : decode cX8_slack 24 = .ok (.ldc2_w 146, 3) := by decide +kernel
theorem dX8_slack_27 : decode cX8_slack 27 = .ok (.goto 6, 3) := by decide +kernel
theorem dX8_slack_30 : decode cX8_slack 30 = .ok (.dload_n 1, 1) := by decide +kernel
theorem dX8_slack_31 : decode cX8_slack 31 = .ok (.dload_n 3, 1) := by decide +kernel
theorem dX8_slack_32 : decode cX8_slack 32 = .ok (.dsub, 1) := by decide +kernel
theorem dX8_slack_33 : decode cX8_slack 33 = .ok (.dreturn, 1) := by decide +kernel
set_option maxRecDepth 20000 in
theorem ggX8_reset_X5_restart : GoodIn wsX8_reset wsX5_restart := goodIn_r _ [7, 8, 9, 10, 11, 12, 6, 13, 14, 15, 16, 17, 35, 36, 37, 38, 39, 40] (by decide +kernel) (by decide +kernel)
set_option maxRecDepth 20000 in
theorem gX8_reset_X5_restart : GoodIn wsX8_reset (wsV RX8 148 RX5 yX5_restart wsX5_restart) := goodIn_app (goodIn_of _ (by decide +kernel)) ggX8_reset_X5_restart
set_option maxRecDepth 20000 in
theorem ggX8_reset_X0_restart : GoodIn wsX8_reset wsX0_restart := goodIn_r _ [22, 23, 24, 25, 26, 41, 42, 43, 44, 45, 46, 47, 48, 49, 50, 51] (by decide +kernel) (by decide +kernel)
set_option maxRecDepth 20000 in
theorem gX8_reset_X0_restart : GoodIn wsX8_reset (wsV RX8 151 RX0 yX0_restart wsX0_restart) := goodIn_app (goodIn_of _ (by decide +kernel)) ggX8_reset_X0_restart
theorem dX8_reset_0 : decode cX8_reset 0 = .ok (.aload_n 0, 1) := by decide +kernel
theorem dX8_reset_1 : decode cX8_reset 1 = .ok (.getfield 49, 3) := by decide +kernel
theorem dX8_reset_4 : decode cX8_reset 4 = .ok (.invokevirtual 148, 3) := by decide +kernel
theorem dX8_reset_7 : decode cX8_reset 7 = .ok (.aload_n 0, 1) := by decide +kernel
theorem dX8_reset_8 : decode cX8_reset 8 = .ok (.getfield 15, 3) := by decide +kernel
theorem dX8_reset_11 : decode cX8_reset 11 = .ok (.invokevirtual 151, 3) := by decide +kernel
theorem dX8_reset_14 : decode cX8_reset 14 = .ok (.return_, 1) := by decide +kernel
set_option maxRecDepth 20000 in
theorem ggX8_clock_X5_step : GoodIn wsX8_clock wsX5_step := goodIn_r _ [6, 7, 8, 9, 10, 5, 11, 12, 13, 14, 15, 16, 17, 18, 19, 20, 21, 22, 23, 24, 25, 26, 27, 28, 29, 30, 31, 32, 33, 34, 35, 36, 37, 38, 47, 48, 49, 50, 51, 52] (by decide +kernel) (by decide +kernel)
set_option maxRecDepth 20000 in
theorem gX8_clock_X5_step : GoodIn wsX8_clock (wsV RX8 152 RX5 yX5_step wsX5_step) := goodIn_app (goodIn_of _ (by decide +kernel)) ggX8_clock_X5_step
theorem dX8_clock_0 : decode cX8_clock 0 = .ok (.aload_n 0, 1) := by decide +kernel
theorem dX8_clock_1 : decode cX8_clock 1 = .ok (.getfield 49, 3) := by decide +kernel
theorem dX8_clock_4 : decode cX8_clock 4 = .ok (.iload_n 1, 1) := by decide +kernel
theorem dX8_clock_5 : decode cX8_clock 5 = .ok (.invokevirtual 152, 3) := by decide +kernel
theorem dX8_clock_8 : decode cX8_clock 8 = .ok (.ireturn, 1) := by decide +kernel
set_option maxRecDepth 20000 in
theorem ggX8_run_X0_hasRing : GoodIn wsX8_run wsX0_hasRing := goodIn_r _ [6, 7, 8, 9, 10, 11, 12, 13, 5, 14, 15, 16, 17, 18, 19, 20, 52, 53, 54, 55, 56, 57, 58, 59, 60, 61, 62] (by decide +kernel) (by decide +kernel)
set_option maxRecDepth 20000 in
theorem gX8_run_X0_hasRing : GoodIn wsX8_run (wsV RX8 95 RX0 yX0_hasRing wsX0_hasRing) := goodIn_app (goodIn_of _ (by decide +kernel)) ggX8_run_X0_hasRing
set_option maxRecDepth 20000 in
theorem ggX8_run_X0_step : GoodIn wsX8_run wsX0_step := goodIn_r _ [24, 25, 7, 16, 26, 27, 28, 5, 29, 30, 31, 32, 33, 34, 15, 35, 36, 37, 38, 8, 39, 10, 40, 41, 42, 43, 52, 53, 54, 55, 56, 57, 58, 59, 60, 61, 62] (by decide +kernel) (by decide +kernel)
set_option maxRecDepth 20000 in
theorem gX8_run_X0_step : GoodIn wsX8_run (wsV RX8 155 RX0 yX0_step wsX0_step) := goodIn_app (goodIn_of _ (by decide +kernel)) ggX8_run_X0_step
theorem dX8_run_0 : decode cX8_run 0 = .ok (.aload_n 0, 1) := by decide +kernel
theorem dX8_run_1 : decode cX8_run 1 = .ok (.getfield 15, 3) := by decide +kernel
theorem dX8_run_4 : decode cX8_run 4 = .ok (.invokevirtual 95, 3) := by decide +kernel
theorem dX8_run_7 : decode cX8_run 7 = .ok (.ifCond .eq 8, 3) := by decide +kernel
theorem dX8_run_10 : decode cX8_run 10 = .ok (.bipush (-2), 2) := by decide +kernel
theorem dX8_run_12 : decode cX8_run 12 = .ok (.goto 11, 3) := by decide +kernel
theorem dX8_run_15 : decode cX8_run 15 = .ok (.aload_n 0, 1) := by decide +kernel
theorem dX8_run_16 : decode cX8_run 16 = .ok (.getfield 15, 3) := by decide +kernel
theorem dX8_run_19 : decode cX8_run 19 = .ok (.iload_n 1, 1) := by decide +kernel
theorem dX8_run_20 : decode cX8_run 20 = .ok (.invokevirtual 155, 3) := by decide +kernel
theorem dX8_run_23 : decode cX8_run 23 = .ok (.ireturn, 1) := by decide +kernel
theorem dX8_wayTo_0 : decode cX8_wayTo 0 = .ok (.iload_n 0, 1) := by decide +kernel
theorem dX8_wayTo_1 : decode cX8_wayTo 1 = .ok (.ifCond .lt 22, 3) := by decide +kernel
theorem dX8_wayTo_4 : decode cX8_wayTo 4 = .ok (.iload_n 0, 1) := by decide +kernel
theorem dX8_wayTo_5 : decode cX8_wayTo 5 = .ok (.bipush 16, 2) := by decide +kernel
theorem dX8_wayTo_7 : decode cX8_wayTo 7 = .ok (.if_icmp .ge 16, 3) := by decide +kernel
theorem dX8_wayTo_10 : decode cX8_wayTo 10 = .ok (.iload_n 1, 1) := by decide +kernel
theorem dX8_wayTo_11 : decode cX8_wayTo 11 = .ok (.ifCond .lt 12, 3) := by decide +kernel
theorem dX8_wayTo_14 : decode cX8_wayTo 14 = .ok (.iload_n 1, 1) := by decide +kernel
theorem dX8_wayTo_15 : decode cX8_wayTo 15 = .ok (.iconst 3, 1) := by decide +kernel
theorem dX8_wayTo_16 : decode cX8_wayTo 16 = .ok (.if_icmp .ge 7, 3) := by decide +kernel
theorem dX8_wayTo_19 : decode cX8_wayTo 19 = .ok (.iconst 1, 1) := by decide +kernel
theorem dX8_wayTo_20 : decode cX8_wayTo 20 = .ok (.goto 4, 3) := by decide +kernel
theorem dX8_wayTo_23 : decode cX8_wayTo 23 = .ok (.iconst 0, 1) := by decide +kernel
theorem dX8_wayTo_24 : decode cX8_wayTo 24 = .ok (.istore_n 2, 1) := by decide +kernel
theorem dX8_wayTo_25 : decode cX8_wayTo 25 = .ok (.iload_n 2, 1) := by decide +kernel
theorem dX8_wayTo_26 : decode cX8_wayTo 26 = .ok (.ifCond .eq 11, 3) := by decide +kernel
theorem dX8_wayTo_29 : decode cX8_wayTo 29 = .ok (.iload_n 0, 1) := by decide +kernel
theorem dX8_wayTo_30 : decode cX8_wayTo 30 = .ok (.iconst 3, 1) := by decide +kernel
theorem dX8_wayTo_31 : decode cX8_wayTo 31 = .ok (.imul, 1) := by decide +kernel
theorem dX8_wayTo_32 : decode cX8_wayTo 32 = .ok (.iload_n 1, 1) := by decide +kernel
theorem dX8_wayTo_33 : decode cX8_wayTo 33 = .ok (.iadd, 1) := by decide +kernel
theorem dX8_wayTo_34 : decode cX8_wayTo 34 = .ok (.goto 4, 3) := by decide +kernel
theorem dX8_wayTo_37 : decode cX8_wayTo 37 = .ok (.iconst (-1), 1) := by decide +kernel
theorem dX8_wayTo_38 : decode cX8_wayTo 38 = .ok (.ireturn, 1) := by decide +kernel
set_option maxRecDepth 20000 in
theorem ggX8_keepBuilding_X0_hasCell : GoodIn wsX8_keepBuilding wsX0_hasCell := goodIn_r _ [11, 12, 105, 106, 107, 108, 109, 110, 111, 112, 113, 114, 115] (by decide +kernel) (by decide +kernel)
set_option maxRecDepth 20000 in
theorem gX8_keepBuilding_X0_hasCell : GoodIn wsX8_keepBuilding (wsV RX8 80 RX0 yX0_hasCell wsX0_hasCell) := goodIn_app (goodIn_of _ (by decide +kernel)) ggX8_keepBuilding_X0_hasCell
set_option maxRecDepth 20000 in
theorem ggX8_keepBuilding_X3_siteOf : GoodIn wsX8_keepBuilding wsX3_siteOf := goodIn_r _ [17, 18, 116, 117, 118, 119] (by decide +kernel) (by decide +kernel)
set_option maxRecDepth 20000 in
theorem gX8_keepBuilding_X3_siteOf : GoodIn wsX8_keepBuilding (wsV RX8 156 RX3 yX3_siteOf wsX3_siteOf) := goodIn_app (goodIn_of _ (by decide +kernel)) ggX8_keepBuilding_X3_siteOf
set_option maxRecDepth 20000 in
theorem ggX8_keepBuilding_X3_cellAt : GoodIn wsX8_keepBuilding wsX3_cellAt := goodIn_r _ [22, 23, 116, 117, 118, 119] (by decide +kernel) (by decide +kernel)
set_option maxRecDepth 20000 in
theorem gX8_keepBuilding_X3_cellAt : GoodIn wsX8_keepBuilding (wsV RX8 159 RX3 yX3_cellAt wsX3_cellAt) := goodIn_app (goodIn_of _ (by decide +kernel)) ggX8_keepBuilding_X3_cellAt
set_option maxRecDepth 20000 in
theorem ggX8_keepBuilding_X0_settingsOf : GoodIn wsX8_keepBuilding wsX0_settingsOf := goodIn_r _ [27, 28, 29, 30, 31, 8, 9, 10, 11, 12, 105, 106, 107, 108, 109, 110, 111, 112, 113, 114, 115] (by decide +kernel) (by decide +kernel)
set_option maxRecDepth 20000 in
theorem gX8_keepBuilding_X0_settingsOf : GoodIn wsX8_keepBuilding (wsV RX8 162 RX0 yX0_settingsOf wsX0_settingsOf) := goodIn_app (goodIn_of _ (by decide +kernel)) ggX8_keepBuilding_X0_settingsOf
set_option maxRecDepth 20000 in
theorem ggX8_keepBuilding_X4_settingsOf : GoodIn wsX8_keepBuilding wsX4_settingsOf := goodIn_r _ [36, 37, 38, 39, 40, 41, 42, 120, 121, 122, 123, 124, 125, 126, 127, 128, 129, 130] (by decide +kernel) (by decide +kernel)
set_option maxRecDepth 20000 in
theorem gX8_keepBuilding_X4_settingsOf : GoodIn wsX8_keepBuilding (wsV RX8 165 RX4 yX4_settingsOf wsX4_settingsOf) := goodIn_app (goodIn_of _ (by decide +kernel)) ggX8_keepBuilding_X4_settingsOf
set_option maxRecDepth 20000 in
theorem ggX8_keepBuilding_X5_setBits : GoodIn wsX8_keepBuilding wsX5_setBits := goodIn_r _ [47, 48, 49, 50, 51, 52, 46, 53, 54, 55, 56, 57, 131, 132, 133, 134, 135, 136] (by decide +kernel) (by decide +kernel)
set_option maxRecDepth 20000 in
theorem gX8_keepBuilding_X5_setBits : GoodIn wsX8_keepBuilding (wsV RX8 121 RX5 yX5_setBits wsX5_setBits) := goodIn_app (goodIn_of _ (by decide +kernel)) ggX8_keepBuilding_X5_setBits
set_option maxRecDepth 20000 in
theorem ggX8_keepBuilding_X5_retrace : GoodIn wsX8_keepBuilding wsX5_retrace := goodIn_r _ [61, 48, 62, 63, 64, 46, 65, 66, 67, 68, 41, 69, 70, 71, 72, 73, 74, 75, 76, 77, 78, 79, 54, 55, 56, 57, 80, 81, 82, 83, 84, 85, 86, 87, 88, 89, 90, 91, 92, 93, 94, 95, 96, 131, 132, 133, 134, 135, 136, 137, 138, 139, 140] (by decide +kernel) (by decide +kernel)
set_option maxRecDepth 20000 in
theorem gX8_keepBuilding_X5_retrace : GoodIn wsX8_keepBuilding (wsV RX8 125 RX5 yX5_retrace wsX5_retrace) := goodIn_app (goodIn_of _ (by decide +kernel)) ggX8_keepBuilding_X5_retrace
theorem dX8_keepBuilding_0 : decode cX8_keepBuilding 0 = .ok (.iconst 0, 1) := by decide +kernel
theorem dX8_keepBuilding_1 : decode cX8_keepBuilding 1 = .ok (.istore_n 2, 1) := by decide +kernel
theorem dX8_keepBuilding_2 : decode cX8_keepBuilding 2 = .ok (.iload_n 2, 1) := by decide +kernel
theorem dX8_keepBuilding_3 : decode cX8_keepBuilding 3 = .ok (.bipush 10, 2) := by decide +kernel
theorem dX8_keepBuilding_5 : decode cX8_keepBuilding 5 = .ok (.if_icmp .ge 38, 3) := by decide +kernel
theorem dX8_keepBuilding_8 : decode cX8_keepBuilding 8 = .ok (.aload_n 0, 1) := by decide +kernel
theorem dX8_keepBuilding_9 : decode cX8_keepBuilding 9 = .ok (.getfield 62, 3) := by decide +kernel
theorem dX8_keepBuilding_12 : decode cX8_keepBuilding 12 = .ok (.iload_n 2, 1) := by decide +kernel
theorem dX8_keepBuilding_13 : decode cX8_keepBuilding 13 = .ok (.aload_n 0, 1) := by decide +kernel
theorem dX8_keepBuilding_14 : decode cX8_keepBuilding 14 = .ok (.getfield 15, 3) := by decide +kernel
theorem dX8_keepBuilding_17 : decode cX8_keepBuilding 17 = .ok (.iload_n 2, 1) := by decide +kernel
theorem dX8_keepBuilding_18 : decode cX8_keepBuilding 18 = .ok (.invokevirtual 80, 3) := by decide +kernel
theorem dX8_keepBuilding_21 : decode cX8_keepBuilding 21 = .ok (.ifCond .eq 14, 3) := by decide +kernel
theorem dX8_keepBuilding_24 : decode cX8_keepBuilding 24 = .ok (.aload_n 0, 1) := by decide +kernel
theorem dX8_keepBuilding_25 : decode cX8_keepBuilding 25 = .ok (.getfield 31, 3) := by decide +kernel
theorem dX8_keepBuilding_28 : decode cX8_keepBuilding 28 = .ok (.iload_n 2, 1) := by decide +kernel
theorem dX8_keepBuilding_29 : decode cX8_keepBuilding 29 = .ok (.invokevirtual 156, 3) := by decide +kernel
theorem dX8_keepBuilding_32 : decode cX8_keepBuilding 32 = .ok (.goto 4, 3) := by decide +kernel
theorem dX8_keepBuilding_35 : decode cX8_keepBuilding 35 = .ok (.iconst (-1), 1) := by decide +kernel
theorem dX8_keepBuilding_36 : decode cX8_keepBuilding 36 = .ok (.iastore, 1) := by decide +kernel
theorem dX8_keepBuilding_37 : decode cX8_keepBuilding 37 = .ok (.iinc 2 1, 3) := by decide +kernel
theorem dX8_keepBuilding_40 : decode cX8_keepBuilding 40 = .ok (.goto (-38), 3) := by decide +kernel
theorem dX8_keepBuilding_43 : decode cX8_keepBuilding 43 = .ok (.aload_n 0, 1) := by decide +kernel
theorem dX8_keepBuilding_44 : decode cX8_keepBuilding 44 = .ok (.iload_n 1, 1) := by decide +kernel
theorem dX8_keepBuilding_45 : decode cX8_keepBuilding 45 = .ok (.putfield 72, 3) := by decide +kernel
theorem dX8_keepBuilding_48 : decode cX8_keepBuilding 48 = .ok (.iconst 0, 1) := by decide +kernel
theorem dX8_keepBuilding_49 : decode cX8_keepBuilding 49 = .ok (.istore_n 2, 1) := by decide +kernel
theorem dX8_keepBuilding_50 : decode cX8_keepBuilding 50 = .ok (.iload_n 2, 1) := by decide +kernel
theorem dX8_keepBuilding_51 : decode cX8_keepBuilding 51 = .ok (.bipush 16, 2) := by decide +kernel
theorem dX8_keepBuilding_53 : decode cX8_keepBuilding 53 = .ok (.if_icmp .ge 43, 3) := by decide +kernel
theorem dX8_keepBuilding_56 : decode cX8_keepBuilding 56 = .ok (.aload_n 0, 1) := by decide +kernel
theorem dX8_keepBuilding_57 : decode cX8_keepBuilding 57 = .ok (.getfield 15, 3) := by decide +kernel
theorem dX8_keepBuilding_60 : decode cX8_keepBuilding 60 = .ok (.aload_n 0, 1) := by decide +kernel
theorem dX8_keepBuilding_61 : decode cX8_keepBuilding 61 = .ok (.getfield 31, 3) := by decide +kernel
theorem dX8_keepBuilding_64 : decode cX8_keepBuilding 64 = .ok (.iload_n 2, 1) := by decide +kernel
theorem dX8_keepBuilding_65 : decode cX8_keepBuilding 65 = .ok (.invokevirtual 159, 3) := by decide +kernel
theorem dX8_keepBuilding_68 : decode cX8_keepBuilding 68 = .ok (.invokevirtual 162, 3) := by decide +kernel
theorem dX8_keepBuilding_71 : decode cX8_keepBuilding 71 = .ok (.lstore_n 3, 1) := by decide +kernel
theorem dX8_keepBuilding_72 : decode cX8_keepBuilding 72 = .ok (.aload_n 0, 1) := by decide +kernel
theorem dX8_keepBuilding_73 : decode cX8_keepBuilding 73 = .ok (.getfield 49, 3) := by decide +kernel
theorem dX8_keepBuilding_76 : decode cX8_keepBuilding 76 = .ok (.iload_n 2, 1) := by decide +kernel
theorem dX8_keepBuilding_77 : decode cX8_keepBuilding 77 = .ok (.lload_n 3, 1) := by decide +kernel
theorem dX8_keepBuilding_78 : decode cX8_keepBuilding 78 = .ok (.aload_n 0, 1) := by decide +kernel
theorem dX8_keepBuilding_79 : decode cX8_keepBuilding 79 = .ok (.getfield 40, 3) := by decide +kernel
theorem dX8_keepBuilding_82 : decode cX8_keepBuilding 82 = .ok (.iload_n 2, 1) := by decide +kernel
theorem dX8_keepBuilding_83 : decode cX8_keepBuilding 83 = .ok (.invokevirtual 165, 3) := by decide +kernel
theorem dX8_keepBuilding_86 : decode cX8_keepBuilding 86 = .ok (.lor, 1) := by decide +kernel
theorem dX8_keepBuilding_87 : decode cX8_keepBuilding 87 = .ok (.invokevirtual 121, 3) := by decide +kernel
theorem dX8_keepBuilding_90 : decode cX8_keepBuilding 90 = .ok (.iinc 2 1, 3) := by decide +kernel
theorem dX8_keepBuilding_93 : decode cX8_keepBuilding 93 = .ok (.goto (-43), 3) := by decide +kernel
theorem dX8_keepBuilding_96 : decode cX8_keepBuilding 96 = .ok (.aload_n 0, 1) := by decide +kernel
theorem dX8_keepBuilding_97 : decode cX8_keepBuilding 97 = .ok (.getfield 49, 3) := by decide +kernel
theorem dX8_keepBuilding_100 : decode cX8_keepBuilding 100 = .ok (.invokevirtual 125, 3) := by decide +kernel
theorem dX8_keepBuilding_103 : decode cX8_keepBuilding 103 = .ok (.return_, 1) := by decide +kernel
theorem dX9_init_0 : decode cX9_init 0 = .ok (.aload_n 0, 1) := by decide +kernel
theorem dX9_init_1 : decode cX9_init 1 = .ok (.invokespecial 1, 3) := by decide +kernel
theorem dX9_init_4 : decode cX9_init 4 = .ok (.aload_n 0, 1) := by decide +kernel
theorem dX9_init_5 : decode cX9_init 5 = .ok (.bipush 16, 2) := by decide +kernel
theorem dX9_init_7 : decode cX9_init 7 = .ok (.newarray .int, 2) := by decide +kernel
theorem dX9_init_9 : decode cX9_init 9 = .ok (.putfield 7, 3) := by decide +kernel
theorem dX9_init_12 : decode cX9_init 12 = .ok (.aload_n 0, 1) := by decide +kernel
theorem dX9_init_13 : decode cX9_init 13 = .ok (.bipush 16, 2) := by decide +kernel
theorem dX9_init_15 : decode cX9_init 15 = .ok (.newarray .boolean, 2) := by decide +kernel
theorem dX9_init_17 : decode cX9_init 17 = .ok (.putfield 13, 3) := by decide +kernel
theorem dX9_init_20 : decode cX9_init 20 = .ok (.aload_n 0, 1) := by decide +kernel
theorem dX9_init_21 : decode cX9_init 21 = .ok (.bipush 16, 2) := by decide +kernel
theorem dX9_init_23 : decode cX9_init 23 = .ok (.newarray .boolean, 2) := by decide +kernel
theorem dX9_init_25 : decode cX9_init 25 = .ok (.putfield 17, 3) := by decide +kernel
theorem dX9_init_28 : decode cX9_init 28 = .ok (.aload_n 0, 1) := by decide +kernel
theorem dX9_init_29 : decode cX9_init 29 = .ok (.bipush 48, 2) := by decide +kernel
theorem dX9_init_31 : decode cX9_init 31 = .ok (.newarray .int, 2) := by decide +kernel
theorem dX9_init_33 : decode cX9_init 33 = .ok (.putfield 20, 3) := by decide +kernel
theorem dX9_init_36 : decode cX9_init 36 = .ok (.aload_n 0, 1) := by decide +kernel
theorem dX9_init_37 : decode cX9_init 37 = .ok (.sipush 128, 3) := by decide +kernel
theorem dX9_init_40 : decode cX9_init 40 = .ok (.newarray .int, 2) := by decide +kernel
theorem dX9_init_42 : decode cX9_init 42 = .ok (.putfield 23, 3) := by decide +kernel
theorem dX9_init_45 : decode cX9_init 45 = .ok (.aload_n 0, 1) := by decide +kernel
theorem dX9_init_46 : decode cX9_init 46 = .ok (.bipush 16, 2) := by decide +kernel
theorem dX9_init_48 : decode cX9_init 48 = .ok (.newarray .int, 2) := by decide +kernel
theorem dX9_init_50 : decode cX9_init 50 = .ok (.putfield 26, 3) := by decide +kernel
theorem dX9_init_53 : decode cX9_init 53 = .ok (.aload_n 0, 1) := by decide +kernel
theorem dX9_init_54 : decode cX9_init 54 = .ok (.bipush 10, 2) := by decide +kernel
theorem dX9_init_56 : decode cX9_init 56 = .ok (.newarray .int, 2) := by decide +kernel
theorem dX9_init_58 : decode cX9_init 58 = .ok (.putfield 29, 3) := by decide +kernel
theorem dX9_init_61 : decode cX9_init 61 = .ok (.aload_n 0, 1) := by decide +kernel
theorem dX9_init_62 : decode cX9_init 62 = .ok (.bipush 10, 2) := by decide +kernel
theorem dX9_init_64 : decode cX9_init 64 = .ok (.newarray .boolean, 2) := by decide +kernel
theorem dX9_init_66 : decode cX9_init 66 = .ok (.putfield 32, 3) := by decide +kernel
theorem dX9_init_69 : decode cX9_init 69 = .ok (.aload_n 0, 1) := by decide +kernel
theorem dX9_init_70 : decode cX9_init 70 = .ok (.bipush 10, 2) := by decide +kernel
theorem dX9_init_72 : decode cX9_init 72 = .ok (.newarray .boolean, 2) := by decide +kernel
theorem dX9_init_74 : decode cX9_init 74 = .ok (.putfield 35, 3) := by decide +kernel
theorem dX9_init_77 : decode cX9_init 77 = .ok (.aload_n 0, 1) := by decide +kernel
theorem dX9_init_78 : decode cX9_init 78 = .ok (.bipush 10, 2) := by decide +kernel
theorem dX9_init_80 : decode cX9_init 80 = .ok (.newarray .int, 2) := by decide +kernel
theorem dX9_init_82 : decode cX9_init 82 = .ok (.putfield 38, 3) := by decide +kernel
theorem dX9_init_85 : decode cX9_init 85 = .ok (.aload_n 0, 1) := by decide +kernel
theorem dX9_init_86 : decode cX9_init 86 = .ok (.bipush 10, 2) := by decide +kernel
theorem dX9_init_88 : decode cX9_init 88 = .ok (.newarray .int, 2) := by decide +kernel
theorem dX9_init_90 : decode cX9_init 90 = .ok (.putfield 41, 3) := by decide +kernel
theorem dX9_init_93 : decode cX9_init 93 = .ok (.aload_n 0, 1) := by decide +kernel
theorem dX9_init_94 : decode cX9_init 94 = .ok (.bipush 34, 2) := by decide +kernel
theorem dX9_init_96 : decode cX9_init 96 = .ok (.newarray .int, 2) := by decide +kernel
theorem dX9_init_98 : decode cX9_init 98 = .ok (.putfield 44, 3) := by decide +kernel
theorem dX9_init_101 : decode cX9_init 101 = .ok (.aload_n 0, 1) := by decide +kernel
theorem dX9_init_102 : decode cX9_init 102 = .ok (.bipush 10, 2) := by decide +kernel
theorem dX9_init_104 : decode cX9_init 104 = .ok (.newarray .int, 2) := by decide +kernel
theorem dX9_init_106 : decode cX9_init 106 = .ok (.putfield 47, 3) := by decide +kernel
theorem dX9_init_109 : decode cX9_init 109 = .ok (.aload_n 0, 1) := by decide +kernel
theorem dX9_init_110 : decode cX9_init 110 = .ok (.bipush 10, 2) := by decide +kernel
theorem dX9_init_112 : decode cX9_init 112 = .ok (.newarray .int, 2) := by decide +kernel
theorem dX9_init_114 : decode cX9_init 114 = .ok (.putfield 50, 3) := by decide +kernel
theorem dX9_init_117 : decode cX9_init 117 = .ok (.aload_n 0, 1) := by decide +kernel
theorem dX9_init_118 : decode cX9_init 118 = .ok (.bipush 16, 2) := by decide +kernel
theorem dX9_init_120 : decode cX9_init 120 = .ok (.newarray .int, 2) := by decide +kernel
theorem dX9_init_122 : decode cX9_init 122 = .ok (.putfield 53, 3) := by decide +kernel
theorem dX9_init_125 : decode cX9_init 125 = .ok (.aload_n 0, 1) := by decide +kernel
theorem dX9_init_126 : decode cX9_init 126 = .ok (.sipush 148, 3) := by decide +kernel
theorem dX9_init_129 : decode cX9_init 129 = .ok (.newarray .int, 2) := by decide +kernel
theorem dX9_init_131 : decode cX9_init 131 = .ok (.putfield 56, 3) := by decide +kernel
theorem dX9_init_134 : decode cX9_init 134 = .ok (.aload_n 0, 1) := by decide +kernel
theorem dX9_init_135 : decode cX9_init 135 = .ok (.sipush 148, 3) := by decide +kernel
theorem dX9_init_138 : decode cX9_init 138 = .ok (.newarray .int, 2) := by decide +kernel
theorem dX9_init_140 : decode cX9_init 140 = .ok (.putfield 59, 3) := by decide +kernel
theorem dX9_init_143 : decode cX9_init 143 = .ok (.aload_n 0, 1) := by decide +kernel
theorem dX9_init_144 : decode cX9_init 144 = .ok (.sipush 148, 3) := by decide +kernel
theorem dX9_init_147 : decode cX9_init 147 = .ok (.newarray .boolean, 2) := by decide +kernel
theorem dX9_init_149 : decode cX9_init 149 = .ok (.putfield 62, 3) := by decide +kernel
theorem dX9_init_152 : decode cX9_init 152 = .ok (.aload_n 0, 1) := by decide +kernel
theorem dX9_init_153 : decode cX9_init 153 = .ok (.sipush 148, 3) := by decide +kernel
theorem dX9_init_156 : decode cX9_init 156 = .ok (.newarray .int, 2) := by decide +kernel
theorem dX9_init_158 : decode cX9_init 158 = .ok (.putfield 65, 3) := by decide +kernel
theorem dX9_init_161 : decode cX9_init 161 = .ok (.aload_n 0, 1) := by decide +kernel
theorem dX9_init_162 : decode cX9_init 162 = .ok (.bipush 48, 2) := by decide +kernel
theorem dX9_init_164 : decode cX9_init 164 = .ok (.newarray .int, 2) := by decide +kernel
theorem dX9_init_166 : decode cX9_init 166 = .ok (.putfield 68, 3) := by decide +kernel
theorem dX9_init_169 : decode cX9_init 169 = .ok (.aload_n 0, 1) := by decide +kernel
theorem dX9_init_170 : decode cX9_init 170 = .ok (.sipush 128, 3) := by decide +kernel
theorem dX9_init_173 : decode cX9_init 173 = .ok (.newarray .int, 2) := by decide +kernel
theorem dX9_init_175 : decode cX9_init 175 = .ok (.putfield 71, 3) := by decide +kernel
theorem dX9_init_178 : decode cX9_init 178 = .ok (.aload_n 0, 1) := by decide +kernel
theorem dX9_init_179 : decode cX9_init 179 = .ok (.sipush 128, 3) := by decide +kernel
theorem dX9_init_182 : decode cX9_init 182 = .ok (.newarray .boolean, 2) := by decide +kernel
theorem dX9_init_184 : decode cX9_init 184 = .ok (.putfield 74, 3) := by decide +kernel
theorem dX9_init_187 : decode cX9_init 187 = .ok (.aload_n 0, 1) := by decide +kernel
theorem dX9_init_188 : decode cX9_init 188 = .ok (.bipush 16, 2) := by decide +kernel
theorem dX9_init_190 : decode cX9_init 190 = .ok (.newarray .double, 2) := by decide +kernel
theorem dX9_init_192 : decode cX9_init 192 = .ok (.putfield 77, 3) := by decide +kernel
theorem dX9_init_195 : decode cX9_init 195 = .ok (.aload_n 0, 1) := by decide +kernel
theorem dX9_init_196 : decode cX9_init 196 = .ok (.bipush 10, 2) := by decide +kernel
theorem dX9_init_198 : decode cX9_init 198 = .ok (.newarray .int, 2) := by decide +kernel
theorem dX9_init_200 : decode cX9_init 200 = .ok (.putfield 81, 3) := by decide +kernel
theorem dX9_init_203 : decode cX9_init 203 = .ok (.iconst 0, 1) := by decide +kernel
theorem dX9_init_204 : decode cX9_init 204 = .ok (.istore_n 1, 1) := by decide +kernel
theorem dX9_init_205 : decode cX9_init 205 = .ok (.iload_n 1, 1) := by decide +kernel
theorem dX9_init_206 : decode cX9_init 206 = .ok (.bipush 34, 2) := by decide +kernel
theorem dX9_init_208 : decode cX9_init 208 = .ok (.if_icmp .ge 16, 3) := by decide +kernel
theorem dX9_init_211 : decode cX9_init 211 = .ok (.aload_n 0, 1) := by decide +kernel
theorem dX9_init_212 : decode cX9_init 212 = .ok (.getfield 44, 3) := by decide +kernel
theorem dX9_init_215 : decode cX9_init 215 = .ok (.iload_n 1, 1) := by decide +kernel
theorem dX9_init_216 : decode cX9_init 216 = .ok (.iconst (-1), 1) := by decide +kernel
theorem dX9_init_217 : decode cX9_init 217 = .ok (.iastore, 1) := by decide +kernel
theorem dX9_init_218 : decode cX9_init 218 = .ok (.iinc 1 1, 3) := by decide +kernel
theorem dX9_init_221 : decode cX9_init 221 = .ok (.goto (-16), 3) := by decide +kernel
theorem dX9_init_224 : decode cX9_init 224 = .ok (.return_, 1) := by decide +kernel
theorem dX9_in_0 : decode cX9_in 0 = .ok (.iload_n 0, 1) := by decide +kernel
theorem dX9_in_1 : decode cX9_in 1 = .ok (.iload_n 1, 1) := by decide +kernel
theorem dX9_in_2 : decode cX9_in 2 = .ok (.if_icmp .lt 12, 3) := by decide +kernel
theorem dX9_in_5 : decode cX9_in 5 = .ok (.iload_n 0, 1) := by decide +kernel
theorem dX9_in_6 : decode cX9_in 6 = .ok (.iload_n 2, 1) := by decide +kernel
theorem dX9_in_7 : decode cX9_in 7 = .ok (.if_icmp .gt 7, 3) := by decide +kernel
theorem dX9_in_10 : decode cX9_in 10 = .ok (.iconst 1, 1) := by decide +kernel
theorem dX9_in_11 : decode cX9_in 11 = .ok (.goto 4, 3) := by decide +kernel
theorem dX9_in_14 : decode cX9_in 14 = .ok (.iconst 0, 1) := by decide +kernel
theorem dX9_in_15 : decode cX9_in 15 = .ok (.ireturn, 1) := by decide +kernel
theorem dX9_channel_0 : decode cX9_channel 0 = .ok (.bipush 9, 2) := by decide +kernel
theorem dX9_channel_2 : decode cX9_channel 2 = .ok (.iload_n 0, 1) := by decide +kernel
theorem dX9_channel_3 : decode cX9_channel 3 = .ok (.imul, 1) := by decide +kernel
theorem dX9_channel_4 : decode cX9_channel 4 = .ok (.iconst 1, 1) := by decide +kernel
theorem dX9_channel_5 : decode cX9_channel 5 = .ok (.iadd, 1) := by decide +kernel
theorem dX9_channel_6 : decode cX9_channel 6 = .ok (.iconst 2, 1) := by decide +kernel
theorem dX9_channel_7 : decode cX9_channel 7 = .ok (.iload_n 1, 1) := by decide +kernel
theorem dX9_channel_8 : decode cX9_channel 8 = .ok (.imul, 1) := by decide +kernel
theorem dX9_channel_9 : decode cX9_channel 9 = .ok (.iadd, 1) := by decide +kernel
theorem dX9_channel_10 : decode cX9_channel 10 = .ok (.iload_n 2, 1) := by decide +kernel
theorem dX9_channel_11 : decode cX9_channel 11 = .ok (.iadd, 1) := by decide +kernel
theorem dX9_channel_12 : decode cX9_channel 12 = .ok (.ireturn, 1) := by decide +kernel
set_option maxRecDepth 20000 in
theorem ggX9_comesIn_X9_channel : GoodIn wsX9_comesIn wsX9_channel := goodIn_r _ [4] (by decide +kernel) (by decide +kernel)
set_option maxRecDepth 20000 in
theorem gX9_comesIn_X9_channel : GoodIn wsX9_comesIn (va_wsS RX9 84 yX9_channel wsX9_channel) := goodIn_app (goodIn_of _ (by decide +kernel)) ggX9_comesIn_X9_channel
theorem dX9_comesIn_0 : decode cX9_comesIn 0 = .ok (.iload_n 0, 1) := by decide +kernel
theorem dX9_comesIn_1 : decode cX9_comesIn 1 = .ok (.iconst 4, 1) := by decide +kernel
theorem dX9_comesIn_2 : decode cX9_comesIn 2 = .ok (.idiv, 1) := by decide +kernel
theorem dX9_comesIn_3 : decode cX9_comesIn 3 = .ok (.istore_n 3, 1) := by decide +kernel
theorem dX9_comesIn_4 : decode cX9_comesIn 4 = .ok (.iload_n 0, 1) := by decide +kernel
theorem dX9_comesIn_5 : decode cX9_comesIn 5 = .ok (.iconst 4, 1) := by decide +kernel
theorem dX9_comesIn_6 : decode cX9_comesIn 6 = .ok (.irem, 1) := by decide +kernel
theorem dX9_comesIn_7 : decode cX9_comesIn 7 = .ok (.istore 4, 2) := by decide +kernel
theorem dX9_comesIn_9 : decode cX9_comesIn 9 = .ok (.iload_n 1, 1) := by decide +kernel
theorem dX9_comesIn_10 : decode cX9_comesIn 10 = .ok (.iconst 3, 1) := by decide +kernel
theorem dX9_comesIn_11 : decode cX9_comesIn 11 = .ok (.if_icmp .ne 22, 3) := by decide +kernel
theorem dX9_comesIn_14 : decode cX9_comesIn 14 = .ok (.iload 4, 2) := by decide +kernel
theorem dX9_comesIn_16 : decode cX9_comesIn 16 = .ok (.ifCond .ne 17, 3) := by decide +kernel
theorem dX9_comesIn_19 : decode cX9_comesIn 19 = .ok (.iload_n 2, 1) := by decide +kernel
theorem dX9_comesIn_20 : decode cX9_comesIn 20 = .ok (.ifCond .ne 11, 3) := by decide +kernel
theorem dX9_comesIn_23 : decode cX9_comesIn 23 = .ok (.sipush 144, 3) := by decide +kernel
theorem dX9_comesIn_26 : decode cX9_comesIn 26 = .ok (.iload_n 3, 1) := by decide +kernel
theorem dX9_comesIn_27 : decode cX9_comesIn 27 = .ok (.iadd, 1) := by decide +kernel
theorem dX9_comesIn_28 : decode cX9_comesIn 28 = .ok (.goto 4, 3) := by decide +kernel
theorem dX9_comesIn_31 : decode cX9_comesIn 31 = .ok (.iconst (-1), 1) := by decide +kernel
theorem dX9_comesIn_32 : decode cX9_comesIn 32 = .ok (.ireturn, 1) := by decide +kernel
theorem dX9_comesIn_33 : decode cX9_comesIn 33 = .ok (.iload_n 1, 1) := by decide +kernel
theorem dX9_comesIn_34 : decode cX9_comesIn 34 = .ok (.ifCond .ne 7, 3) := by decide +kernel
theorem dX9_comesIn_37 : decode cX9_comesIn 37 = .ok (.iload_n 3, 1) := by decide +kernel
theorem dX9_comesIn_38 : decode cX9_comesIn 38 = .ok (.ifCond .eq 24, 3) := by decide +kernel
theorem dX9_comesIn_41 : decode cX9_comesIn 41 = .ok (.iload_n 1, 1) := by decide +kernel
theorem dX9_comesIn_42 : decode cX9_comesIn 42 = .ok (.iconst 1, 1) := by decide +kernel
theorem dX9_comesIn_43 : decode cX9_comesIn 43 = .ok (.if_icmp .ne 9, 3) := by decide +kernel
theorem dX9_comesIn_46 : decode cX9_comesIn 46 = .ok (.iload 4, 2) := by decide +kernel
theorem dX9_comesIn_48 : decode cX9_comesIn 48 = .ok (.iconst 3, 1) := by decide +kernel
theorem dX9_comesIn_49 : decode cX9_comesIn 49 = .ok (.if_icmp .eq 13, 3) := by decide +kernel
theorem dX9_comesIn_52 : decode cX9_comesIn 52 = .ok (.iload_n 1, 1) := by decide +kernel
theorem dX9_comesIn_53 : decode cX9_comesIn 53 = .ok (.iconst 2, 1) := by decide +kernel
theorem dX9_comesIn_54 : decode cX9_comesIn 54 = .ok (.if_icmp .ne 10, 3) := by decide +kernel
theorem dX9_comesIn_57 : decode cX9_comesIn 57 = .ok (.iload_n 3, 1) := by decide +kernel
theorem dX9_comesIn_58 : decode cX9_comesIn 58 = .ok (.iconst 3, 1) := by decide +kernel
theorem dX9_comesIn_59 : decode cX9_comesIn 59 = .ok (.if_icmp .ne 5, 3) := by decide +kernel
theorem dX9_comesIn_62 : decode cX9_comesIn 62 = .ok (.iconst (-1), 1) := by decide +kernel
theorem dX9_comesIn_63 : decode cX9_comesIn 63 = .ok (.ireturn, 1) := by decide +kernel
theorem dX9_comesIn_64 : decode cX9_comesIn 64 = .ok (.iload_n 1, 1) := by decide +kernel
theorem dX9_comesIn_65 : decode cX9_comesIn 65 = .ok (.ifCond .ne 9, 3) := by decide +kernel
theorem dX9_comesIn_68 : decode cX9_comesIn 68 = .ok (.iload_n 0, 1) := by decide +kernel
theorem dX9_comesIn_69 : decode cX9_comesIn 69 = .ok (.iconst 4, 1) := by decide +kernel
theorem dX9_comesIn_70 : decode cX9_comesIn 70 = .ok (.isub, 1) := by decide +kernel
theorem dX9_comesIn_71 : decode cX9_comesIn 71 = .ok (.goto 28, 3) := by decide +kernel
theorem dX9_comesIn_74 : decode cX9_comesIn 74 = .ok (.iload_n 1, 1) := by decide +kernel
theorem dX9_comesIn_75 : decode cX9_comesIn 75 = .ok (.iconst 1, 1) := by decide +kernel
theorem dX9_comesIn_76 : decode cX9_comesIn 76 = .ok (.if_icmp .ne 9, 3) := by decide +kernel
theorem dX9_comesIn_79 : decode cX9_comesIn 79 = .ok (.iload_n 0, 1) := by decide +kernel
theorem dX9_comesIn_80 : decode cX9_comesIn 80 = .ok (.iconst 1, 1) := by decide +kernel
theorem dX9_comesIn_81 : decode cX9_comesIn 81 = .ok (.iadd, 1) := by decide +kernel
theorem dX9_comesIn_82 : decode cX9_comesIn 82 = .ok (.goto 17, 3) := by decide +kernel
theorem dX9_comesIn_85 : decode cX9_comesIn 85 = .ok (.iload_n 1, 1) := by decide +kernel
theorem dX9_comesIn_86 : decode cX9_comesIn 86 = .ok (.iconst 2, 1) := by decide +kernel
theorem dX9_comesIn_87 : decode cX9_comesIn 87 = .ok (.if_icmp .ne 9, 3) := by decide +kernel
theorem dX9_comesIn_90 : decode cX9_comesIn 90 = .ok (.iload_n 0, 1) := by decide +kernel
theorem dX9_comesIn_91 : decode cX9_comesIn 91 = .ok (.iconst 4, 1) := by decide +kernel
theorem dX9_comesIn_92 : decode cX9_comesIn 92 = .ok (.iadd, 1) := by decide +kernel
theorem dX9_comesIn_93 : decode cX9_comesIn 93 = .ok (.goto 6, 3) := by decide +kernel
theorem dX9_comesIn_96 : decode cX9_comesIn 96 = .ok (.iload_n 0, 1) := by decide +kernel
theorem dX9_comesIn_97 : decode cX9_comesIn 97 = .ok (.iconst 1, 1) := by decide +kernel
theorem dX9_comesIn_98 : decode cX9_comesIn 98 = .ok (.isub, 1) := by decide +kernel
theorem dX9_comesIn_99 : decode cX9_comesIn 99 = .ok (.istore 5, 2) := by decide +kernel
theorem dX9_comesIn_101 : decode cX9_comesIn 101 = .ok (.iload 5, 2) := by decide +kernel
theorem dX9_comesIn_103 : decode cX9_comesIn 103 = .ok (.iload_n 1, 1) := by decide +kernel
theorem dX9_comesIn_104 : decode cX9_comesIn 104 = .ok (.iconst 2, 1) := by decide +kernel
theorem dX9_comesIn_105 : decode cX9_comesIn 105 = .ok (.iadd, 1) := by decide +kernel
theorem dX9_comesIn_106 : decode cX9_comesIn 106 = .ok (.iconst 4, 1) := by decide +kernel
theorem dX9_comesIn_107 : decode cX9_comesIn 107 = .ok (.irem, 1) := by decide +kernel
theorem dX9_comesIn_108 : decode cX9_comesIn 108 = .ok (.iload_n 2, 1) := by decide +kernel
theorem dX9_comesIn_109 : decode cX9_comesIn 109 = .ok (.invokestatic 84, 3) := by decide +kernel
theorem dX9_comesIn_112 : decode cX9_comesIn 112 = .ok (.ireturn, 1) := by decide +kernel
set_option maxRecDepth 20000 in
theorem ggX9_behindChannel_X9_comesIn : GoodIn wsX9_behindChannel wsX9_comesIn := goodIn_r _ [4, 5, 6, 3, 7] (by decide +kernel) (by decide +kernel)
set_option maxRecDepth 20000 in
theorem gX9_behindChannel_X9_comesIn : GoodIn wsX9_behindChannel (va_wsS RX9 88 yX9_comesIn wsX9_comesIn) := goodIn_app (goodIn_of _ (by decide +kernel)) ggX9_behindChannel_X9_comesIn
theorem dX9_behindChannel_0 : decode cX9_behindChannel 0 = .ok (.iload_n 0, 1) := by decide +kernel
theorem dX9_behindChannel_1 : decode cX9_behindChannel 1 = .ok (.bipush 8, 2) := by decide +kernel
theorem dX9_behindChannel_3 : decode cX9_behindChannel 3 = .ok (.idiv, 1) := by decide +kernel
theorem dX9_behindChannel_4 : decode cX9_behindChannel 4 = .ok (.istore_n 2, 1) := by decide +kernel
theorem dX9_behindChannel_5 : decode cX9_behindChannel 5 = .ok (.iload_n 0, 1) := by decide +kernel
theorem dX9_behindChannel_6 : decode cX9_behindChannel 6 = .ok (.bipush 8, 2) := by decide +kernel
theorem dX9_behindChannel_8 : decode cX9_behindChannel 8 = .ok (.irem, 1) := by decide +kernel
theorem dX9_behindChannel_9 : decode cX9_behindChannel 9 = .ok (.iconst 2, 1) := by decide +kernel
theorem dX9_behindChannel_10 : decode cX9_behindChannel 10 = .ok (.idiv, 1) := by decide +kernel
theorem dX9_behindChannel_11 : decode cX9_behindChannel 11 = .ok (.istore_n 3, 1) := by decide +kernel
theorem dX9_behindChannel_12 : decode cX9_behindChannel 12 = .ok (.iload_n 1, 1) := by decide +kernel
theorem dX9_behindChannel_13 : decode cX9_behindChannel 13 = .ok (.ifCond .ne 7, 3) := by decide +kernel
theorem dX9_behindChannel_16 : decode cX9_behindChannel 16 = .ok (.iconst (-1), 1) := by decide +kernel
theorem dX9_behindChannel_17 : decode cX9_behindChannel 17 = .ok (.goto 29, 3) := by decide +kernel
theorem dX9_behindChannel_20 : decode cX9_behindChannel 20 = .ok (.iload_n 1, 1) := by decide +kernel
theorem dX9_behindChannel_21 : decode cX9_behindChannel 21 = .ok (.iconst 1, 1) := by decide +kernel
theorem dX9_behindChannel_22 : decode cX9_behindChannel 22 = .ok (.if_icmp .ne 10, 3) := by decide +kernel
theorem dX9_behindChannel_25 : decode cX9_behindChannel 25 = .ok (.bipush 9, 2) := by decide +kernel
theorem dX9_behindChannel_27 : decode cX9_behindChannel 27 = .ok (.iload_n 2, 1) := by decide +kernel
theorem dX9_behindChannel_28 : decode cX9_behindChannel 28 = .ok (.imul, 1) := by decide +kernel
theorem dX9_behindChannel_29 : decode cX9_behindChannel 29 = .ok (.goto 17, 3) := by decide +kernel
theorem dX9_behindChannel_32 : decode cX9_behindChannel 32 = .ok (.iload_n 2, 1) := by decide +kernel
theorem dX9_behindChannel_33 : decode cX9_behindChannel 33 = .ok (.iload_n 3, 1) := by decide +kernel
theorem dX9_behindChannel_34 : decode cX9_behindChannel 34 = .ok (.iload_n 1, 1) := by decide +kernel
theorem dX9_behindChannel_35 : decode cX9_behindChannel 35 = .ok (.iadd, 1) := by decide +kernel
theorem dX9_behindChannel_36 : decode cX9_behindChannel 36 = .ok (.iconst 1, 1) := by decide +kernel
theorem dX9_behindChannel_37 : decode cX9_behindChannel 37 = .ok (.isub, 1) := by decide +kernel
theorem dX9_behindChannel_38 : decode cX9_behindChannel 38 = .ok (.iconst 4, 1) := by decide +kernel
theorem dX9_behindChannel_39 : decode cX9_behindChannel 39 = .ok (.irem, 1) := by decide +kernel
theorem dX9_behindChannel_40 : decode cX9_behindChannel 40 = .ok (.iload_n 0, 1) := by decide +kernel
theorem dX9_behindChannel_41 : decode cX9_behindChannel 41 = .ok (.iconst 2, 1) := by decide +kernel
theorem dX9_behindChannel_42 : decode cX9_behindChannel 42 = .ok (.irem, 1) := by decide +kernel
theorem dX9_behindChannel_43 : decode cX9_behindChannel 43 = .ok (.invokestatic 88, 3) := by decide +kernel
theorem dX9_behindChannel_46 : decode cX9_behindChannel 46 = .ok (.ireturn, 1) := by decide +kernel
set_option maxRecDepth 20000 in
theorem ggX9_behindPin_X9_comesIn : GoodIn wsX9_behindPin wsX9_comesIn := goodIn_r _ [4, 5, 6, 3, 7] (by decide +kernel) (by decide +kernel)
set_option maxRecDepth 20000 in
theorem gX9_behindPin_X9_comesIn : GoodIn wsX9_behindPin (va_wsS RX9 88 yX9_comesIn wsX9_comesIn) := goodIn_app (goodIn_of _ (by decide +kernel)) ggX9_behindPin_X9_comesIn
theorem dX9_behindPin_0 : decode cX9_behindPin 0 = .ok (.iload_n 0, 1) := by decide +kernel
theorem dX9_behindPin_1 : decode cX9_behindPin 1 = .ok (.iconst 3, 1) := by decide +kernel
theorem dX9_behindPin_2 : decode cX9_behindPin 2 = .ok (.idiv, 1) := by decide +kernel
theorem dX9_behindPin_3 : decode cX9_behindPin 3 = .ok (.istore_n 2, 1) := by decide +kernel
theorem dX9_behindPin_4 : decode cX9_behindPin 4 = .ok (.iload_n 1, 1) := by decide +kernel
theorem dX9_behindPin_5 : decode cX9_behindPin 5 = .ok (.ifCond .ne 7, 3) := by decide +kernel
theorem dX9_behindPin_8 : decode cX9_behindPin 8 = .ok (.iconst (-1), 1) := by decide +kernel
theorem dX9_behindPin_9 : decode cX9_behindPin 9 = .ok (.goto 27, 3) := by decide +kernel
theorem dX9_behindPin_12 : decode cX9_behindPin 12 = .ok (.iload_n 1, 1) := by decide +kernel
theorem dX9_behindPin_13 : decode cX9_behindPin 13 = .ok (.iconst 1, 1) := by decide +kernel
theorem dX9_behindPin_14 : decode cX9_behindPin 14 = .ok (.if_icmp .ne 10, 3) := by decide +kernel
theorem dX9_behindPin_17 : decode cX9_behindPin 17 = .ok (.bipush 9, 2) := by decide +kernel
theorem dX9_behindPin_19 : decode cX9_behindPin 19 = .ok (.iload_n 2, 1) := by decide +kernel
theorem dX9_behindPin_20 : decode cX9_behindPin 20 = .ok (.imul, 1) := by decide +kernel
theorem dX9_behindPin_21 : decode cX9_behindPin 21 = .ok (.goto 15, 3) := by decide +kernel
theorem dX9_behindPin_24 : decode cX9_behindPin 24 = .ok (.iload_n 2, 1) := by decide +kernel
theorem dX9_behindPin_25 : decode cX9_behindPin 25 = .ok (.iload_n 1, 1) := by decide +kernel
theorem dX9_behindPin_26 : decode cX9_behindPin 26 = .ok (.iconst 2, 1) := by decide +kernel
theorem dX9_behindPin_27 : decode cX9_behindPin 27 = .ok (.isub, 1) := by decide +kernel
theorem dX9_behindPin_28 : decode cX9_behindPin 28 = .ok (.iconst 2, 1) := by decide +kernel
theorem dX9_behindPin_29 : decode cX9_behindPin 29 = .ok (.idiv, 1) := by decide +kernel
theorem dX9_behindPin_30 : decode cX9_behindPin 30 = .ok (.iload_n 1, 1) := by decide +kernel
theorem dX9_behindPin_31 : decode cX9_behindPin 31 = .ok (.iconst 2, 1) := by decide +kernel
theorem dX9_behindPin_32 : decode cX9_behindPin 32 = .ok (.irem, 1) := by decide +kernel
theorem dX9_behindPin_33 : decode cX9_behindPin 33 = .ok (.invokestatic 88, 3) := by decide +kernel
theorem dX9_behindPin_36 : decode cX9_behindPin 36 = .ok (.ireturn, 1) := by decide +kernel
theorem dX9_wireOf_0 : decode cX9_wireOf 0 = .ok (.bipush 9, 2) := by decide +kernel
theorem dX9_wireOf_2 : decode cX9_wireOf 2 = .ok (.iload_n 0, 1) := by decide +kernel
theorem dX9_wireOf_3 : decode cX9_wireOf 3 = .ok (.bipush 8, 2) := by decide +kernel
theorem dX9_wireOf_5 : decode cX9_wireOf 5 = .ok (.idiv, 1) := by decide +kernel
theorem dX9_wireOf_6 : decode cX9_wireOf 6 = .ok (.imul, 1) := by decide +kernel
theorem dX9_wireOf_7 : decode cX9_wireOf 7 = .ok (.iconst 1, 1) := by decide +kernel
theorem dX9_wireOf_8 : decode cX9_wireOf 8 = .ok (.iadd, 1) := by decide +kernel
theorem dX9_wireOf_9 : decode cX9_wireOf 9 = .ok (.iload_n 0, 1) := by decide +kernel
theorem dX9_wireOf_10 : decode cX9_wireOf 10 = .ok (.bipush 8, 2) := by decide +kernel
theorem dX9_wireOf_12 : decode cX9_wireOf 12 = .ok (.irem, 1) := by decide +kernel
theorem dX9_wireOf_13 : decode cX9_wireOf 13 = .ok (.iadd, 1) := by decide +kernel
theorem dX9_wireOf_14 : decode cX9_wireOf 14 = .ok (.ireturn, 1) := by decide +kernel
theorem dX9_channelOf_0 : decode cX9_channelOf 0 = .ok (.iload_n 0, 1) := by decide +kernel
theorem dX9_channelOf_1 : decode cX9_channelOf 1 = .ok (.sipush 144, 3) := by decide +kernel
theorem dX9_channelOf_4 : decode cX9_channelOf 4 = .ok (.if_icmp .ge 10, 3) := by decide +kernel
theorem dX9_channelOf_7 : decode cX9_channelOf 7 = .ok (.iload_n 0, 1) := by decide +kernel
theorem dX9_channelOf_8 : decode cX9_channelOf 8 = .ok (.bipush 9, 2) := by decide +kernel
theorem dX9_channelOf_10 : decode cX9_channelOf 10 = .ok (.irem, 1) := by decide +kernel
theorem dX9_channelOf_11 : decode cX9_channelOf 11 = .ok (.ifCond .ne 7, 3) := by decide +kernel
theorem dX9_channelOf_14 : decode cX9_channelOf 14 = .ok (.iconst (-1), 1) := by decide +kernel
theorem dX9_channelOf_15 : decode cX9_channelOf 15 = .ok (.goto 17, 3) := by decide +kernel
theorem dX9_channelOf_18 : decode cX9_channelOf 18 = .ok (.bipush 8, 2) := by decide +kernel
theorem dX9_channelOf_20 : decode cX9_channelOf 20 = .ok (.iload_n 0, 1) := by decide +kernel
theorem dX9_channelOf_21 : decode cX9_channelOf 21 = .ok (.bipush 9, 2) := by decide +kernel
theorem dX9_channelOf_23 : decode cX9_channelOf 23 = .ok (.idiv, 1) := by decide +kernel
theorem dX9_channelOf_24 : decode cX9_channelOf 24 = .ok (.imul, 1) := by decide +kernel
theorem dX9_channelOf_25 : decode cX9_channelOf 25 = .ok (.iload_n 0, 1) := by decide +kernel
theorem dX9_channelOf_26 : decode cX9_channelOf 26 = .ok (.bipush 9, 2) := by decide +kernel
theorem dX9_channelOf_28 : decode cX9_channelOf 28 = .ok (.irem, 1) := by decide +kernel
theorem dX9_channelOf_29 : decode cX9_channelOf 29 = .ok (.iadd, 1) := by decide +kernel
theorem dX9_channelOf_30 : decode cX9_channelOf 30 = .ok (.iconst 1, 1) := by decide +kernel
theorem dX9_channelOf_31 : decode cX9_channelOf 31 = .ok (.isub, 1) := by decide +kernel
theorem dX9_channelOf_32 : decode cX9_channelOf 32 = .ok (.ireturn, 1) := by decide +kernel
set_option maxRecDepth 20000 in
theorem ggX9_outputWire_X9_channel : GoodIn wsX9_outputWire wsX9_channel := goodIn_r _ [4] (by decide +kernel) (by decide +kernel)
set_option maxRecDepth 20000 in
theorem gX9_outputWire_X9_channel : GoodIn wsX9_outputWire (va_wsS RX9 84 yX9_channel wsX9_channel) := goodIn_app (goodIn_of _ (by decide +kernel)) ggX9_outputWire_X9_channel
theorem dX9_outputWire_0 : decode cX9_outputWire 0 = .ok (.iconst 4, 1) := by decide +kernel
theorem dX9_outputWire_1 : decode cX9_outputWire 1 = .ok (.iload_n 0, 1) := by decide +kernel
theorem dX9_outputWire_2 : decode cX9_outputWire 2 = .ok (.imul, 1) := by decide +kernel
theorem dX9_outputWire_3 : decode cX9_outputWire 3 = .ok (.iconst 3, 1) := by decide +kernel
theorem dX9_outputWire_4 : decode cX9_outputWire 4 = .ok (.iadd, 1) := by decide +kernel
theorem dX9_outputWire_5 : decode cX9_outputWire 5 = .ok (.iconst 1, 1) := by decide +kernel
theorem dX9_outputWire_6 : decode cX9_outputWire 6 = .ok (.iconst 0, 1) := by decide +kernel
theorem dX9_outputWire_7 : decode cX9_outputWire 7 = .ok (.invokestatic 84, 3) := by decide +kernel
theorem dX9_outputWire_10 : decode cX9_outputWire 10 = .ok (.ireturn, 1) := by decide +kernel
theorem dX9_cell_0 : decode cX9_cell 0 = .ok (.aload_n 0, 1) := by decide +kernel
theorem dX9_cell_1 : decode cX9_cell 1 = .ok (.getfield 91, 3) := by decide +kernel
theorem dX9_cell_4 : decode cX9_cell 4 = .ok (.bipush 10, 2) := by decide +kernel
theorem dX9_cell_6 : decode cX9_cell 6 = .ok (.if_icmp .ne 5, 3) := by decide +kernel
theorem dX9_cell_9 : decode cX9_cell 9 = .ok (.iconst (-1), 1) := by decide +kernel
theorem dX9_cell_10 : decode cX9_cell 10 = .ok (.ireturn, 1) := by decide +kernel
theorem dX9_cell_11 : decode cX9_cell 11 = .ok (.aload_n 0, 1) := by decide +kernel
theorem dX9_cell_12 : decode cX9_cell 12 = .ok (.getfield 29, 3) := by decide +kernel
theorem dX9_cell_15 : decode cX9_cell 15 = .ok (.aload_n 0, 1) := by decide +kernel
theorem dX9_cell_16 : decode cX9_cell 16 = .ok (.getfield 91, 3) := by decide +kernel
theorem dX9_cell_19 : decode cX9_cell 19 = .ok (.iload_n 1, 1) := by decide +kernel
theorem dX9_cell_20 : decode cX9_cell 20 = .ok (.sipush 255, 3) := by decide +kernel
theorem dX9_cell_23 : decode cX9_cell 23 = .ok (.iand, 1) := by decide +kernel
theorem dX9_cell_24 : decode cX9_cell 24 = .ok (.iastore, 1) := by decide +kernel
theorem dX9_cell_25 : decode cX9_cell 25 = .ok (.aload_n 0, 1) := by decide +kernel
theorem dX9_cell_26 : decode cX9_cell 26 = .ok (.getfield 32, 3) := by decide +kernel
theorem dX9_cell_29 : decode cX9_cell 29 = .ok (.aload_n 0, 1) := by decide +kernel
theorem dX9_cell_30 : decode cX9_cell 30 = .ok (.getfield 91, 3) := by decide +kernel
theorem dX9_cell_33 : decode cX9_cell 33 = .ok (.iload_n 2, 1) := by decide +kernel
theorem dX9_cell_34 : decode cX9_cell 34 = .ok (.bastore, 1) := by decide +kernel
theorem dX9_cell_35 : decode cX9_cell 35 = .ok (.aload_n 0, 1) := by decide +kernel
theorem dX9_cell_36 : decode cX9_cell 36 = .ok (.getfield 35, 3) := by decide +kernel
theorem dX9_cell_39 : decode cX9_cell 39 = .ok (.aload_n 0, 1) := by decide +kernel
theorem dX9_cell_40 : decode cX9_cell 40 = .ok (.getfield 91, 3) := by decide +kernel
theorem dX9_cell_43 : decode cX9_cell 43 = .ok (.iload_n 3, 1) := by decide +kernel
theorem dX9_cell_44 : decode cX9_cell 44 = .ok (.bastore, 1) := by decide +kernel
theorem dX9_cell_45 : decode cX9_cell 45 = .ok (.aload_n 0, 1) := by decide +kernel
theorem dX9_cell_46 : decode cX9_cell 46 = .ok (.getfield 38, 3) := by decide +kernel
theorem dX9_cell_49 : decode cX9_cell 49 = .ok (.aload_n 0, 1) := by decide +kernel
theorem dX9_cell_50 : decode cX9_cell 50 = .ok (.getfield 91, 3) := by decide +kernel
theorem dX9_cell_53 : decode cX9_cell 53 = .ok (.iload_n 3, 1) := by decide +kernel
theorem dX9_cell_54 : decode cX9_cell 54 = .ok (.ifCond .eq 7, 3) := by decide +kernel
theorem dX9_cell_57 : decode cX9_cell 57 = .ok (.iconst 1, 1) := by decide +kernel
theorem dX9_cell_58 : decode cX9_cell 58 = .ok (.goto 4, 3) := by decide +kernel
theorem dX9_cell_61 : decode cX9_cell 61 = .ok (.iconst 0, 1) := by decide +kernel
theorem dX9_cell_62 : decode cX9_cell 62 = .ok (.iastore, 1) := by decide +kernel
theorem dX9_cell_63 : decode cX9_cell 63 = .ok (.aload_n 0, 1) := by decide +kernel
theorem dX9_cell_64 : decode cX9_cell 64 = .ok (.getfield 41, 3) := by decide +kernel
theorem dX9_cell_67 : decode cX9_cell 67 = .ok (.aload_n 0, 1) := by decide +kernel
theorem dX9_cell_68 : decode cX9_cell 68 = .ok (.getfield 91, 3) := by decide +kernel
theorem dX9_cell_71 : decode cX9_cell 71 = .ok (.iconst (-1), 1) := by decide +kernel
theorem dX9_cell_72 : decode cX9_cell 72 = .ok (.iastore, 1) := by decide +kernel
theorem dX9_cell_73 : decode cX9_cell 73 = .ok (.aload_n 0, 1) := by decide +kernel
theorem dX9_cell_74 : decode cX9_cell 74 = .ok (.dup, 1) := by decide +kernel
theorem dX9_cell_75 : decode cX9_cell 75 = .ok (.getfield 91, 3) := by decide +kernel
theorem dX9_cell_78 : decode cX9_cell 78 = .ok (.iconst 1, 1) := by decide +kernel
theorem dX9_cell_79 : decode cX9_cell 79 = .ok (.iadd, 1) := by decide +kernel
theorem dX9_cell_80 : decode cX9_cell 80 = .ok (.putfield 91, 3) := by decide +kernel
theorem dX9_cell_83 : decode cX9_cell 83 = .ok (.aload_n 0, 1) := by decide +kernel
theorem dX9_cell_84 : decode cX9_cell 84 = .ok (.getfield 91, 3) := by decide +kernel
theorem dX9_cell_87 : decode cX9_cell 87 = .ok (.iconst 1, 1) := by decide +kernel
theorem dX9_cell_88 : decode cX9_cell 88 = .ok (.isub, 1) := by decide +kernel
theorem dX9_cell_89 : decode cX9_cell 89 = .ok (.ireturn, 1) := by decide +kernel
set_option maxRecDepth 20000 in
theorem ggX9_isSource_X9_in : GoodIn wsX9_isSource wsX9_in := goodIn_r _ [5] (by decide +kernel) (by decide +kernel)
set_option maxRecDepth 20000 in
theorem gX9_isSource_X9_in : GoodIn wsX9_isSource (va_wsS RX9 95 yX9_in wsX9_in) := goodIn_app (goodIn_of _ (by decide +kernel)) ggX9_isSource_X9_in
theorem dX9_isSource_0 : decode cX9_isSource 0 = .ok (.iload_n 1, 1) := by decide +kernel
theorem dX9_isSource_1 : decode cX9_isSource 1 = .ok (.iconst (-1), 1) := by decide +kernel
theorem dX9_isSource_2 : decode cX9_isSource 2 = .ok (.if_icmp .eq 28, 3) := by decide +kernel
theorem dX9_isSource_5 : decode cX9_isSource 5 = .ok (.iload_n 1, 1) := by decide +kernel
theorem dX9_isSource_6 : decode cX9_isSource 6 = .ok (.iconst 0, 1) := by decide +kernel
theorem dX9_isSource_7 : decode cX9_isSource 7 = .ok (.aload_n 0, 1) := by decide +kernel
theorem dX9_isSource_8 : decode cX9_isSource 8 = .ok (.getfield 91, 3) := by decide +kernel
theorem dX9_isSource_11 : decode cX9_isSource 11 = .ok (.iconst 1, 1) := by decide +kernel
theorem dX9_isSource_12 : decode cX9_isSource 12 = .ok (.isub, 1) := by decide +kernel
theorem dX9_isSource_13 : decode cX9_isSource 13 = .ok (.invokestatic 95, 3) := by decide +kernel
theorem dX9_isSource_16 : decode cX9_isSource 16 = .ok (.ifCond .ne 14, 3) := by decide +kernel
theorem dX9_isSource_19 : decode cX9_isSource 19 = .ok (.iload_n 1, 1) := by decide +kernel
theorem dX9_isSource_20 : decode cX9_isSource 20 = .ok (.bipush 10, 2) := by decide +kernel
theorem dX9_isSource_22 : decode cX9_isSource 22 = .ok (.bipush 13, 2) := by decide +kernel
theorem dX9_isSource_24 : decode cX9_isSource 24 = .ok (.invokestatic 95, 3) := by decide +kernel
theorem dX9_isSource_27 : decode cX9_isSource 27 = .ok (.ifCond .eq 7, 3) := by decide +kernel
theorem dX9_isSource_30 : decode cX9_isSource 30 = .ok (.iconst 1, 1) := by decide +kernel
theorem dX9_isSource_31 : decode cX9_isSource 31 = .ok (.goto 4, 3) := by decide +kernel
theorem dX9_isSource_34 : decode cX9_isSource 34 = .ok (.iconst 0, 1) := by decide +kernel
theorem dX9_isSource_35 : decode cX9_isSource 35 = .ok (.ireturn, 1) := by decide +kernel
set_option maxRecDepth 20000 in
theorem ggX9_connect_X9_in : GoodIn wsX9_connect wsX9_in := goodIn_r _ [6] (by decide +kernel) (by decide +kernel)
set_option maxRecDepth 20000 in
theorem gX9_connect_X9_in : GoodIn wsX9_connect (va_wsS RX9 95 yX9_in wsX9_in) := goodIn_app (goodIn_of _ (by decide +kernel)) ggX9_connect_X9_in
set_option maxRecDepth 20000 in
theorem ggX9_connect_X9_isSource : GoodIn wsX9_connect wsX9_isSource := goodIn_r _ [10, 1, 3, 4, 5, 6, 11, 12, 13, 14, 15, 16, 17, 18, 19, 20, 21, 22, 23, 24, 25, 26, 27, 28, 29, 30, 31, 32, 33, 34, 35, 36, 37, 38] (by decide +kernel) (by decide +kernel)
set_option maxRecDepth 20000 in
theorem gX9_connect_X9_isSource : GoodIn wsX9_connect (wsV RX9 99 RX9 yX9_isSource wsX9_isSource) := goodIn_app (goodIn_of _ (by decide +kernel)) ggX9_connect_X9_isSource
theorem dX9_connect_0 : decode cX9_connect 0 = .ok (.iload_n 1, 1) := by decide +kernel
theorem dX9_connect_1 : decode cX9_connect 1 = .ok (.iconst 0, 1) := by decide +kernel
theorem dX9_connect_2 : decode cX9_connect 2 = .ok (.aload_n 0, 1) := by decide +kernel
theorem dX9_connect_3 : decode cX9_connect 3 = .ok (.getfield 91, 3) := by decide +kernel
theorem dX9_connect_6 : decode cX9_connect 6 = .ok (.iconst 1, 1) := by decide +kernel
theorem dX9_connect_7 : decode cX9_connect 7 = .ok (.isub, 1) := by decide +kernel
theorem dX9_connect_8 : decode cX9_connect 8 = .ok (.invokestatic 95, 3) := by decide +kernel
theorem dX9_connect_11 : decode cX9_connect 11 = .ok (.ifCond .eq 20, 3) := by decide +kernel
theorem dX9_connect_14 : decode cX9_connect 14 = .ok (.iload_n 2, 1) := by decide +kernel
theorem dX9_connect_15 : decode cX9_connect 15 = .ok (.iconst 0, 1) := by decide +kernel
theorem dX9_connect_16 : decode cX9_connect 16 = .ok (.iconst 2, 1) := by decide +kernel
theorem dX9_connect_17 : decode cX9_connect 17 = .ok (.invokestatic 95, 3) := by decide +kernel
theorem dX9_connect_20 : decode cX9_connect 20 = .ok (.ifCond .eq 11, 3) := by decide +kernel
theorem dX9_connect_23 : decode cX9_connect 23 = .ok (.aload_n 0, 1) := by decide +kernel
theorem dX9_connect_24 : decode cX9_connect 24 = .ok (.iload_n 3, 1) := by decide +kernel
theorem dX9_connect_25 : decode cX9_connect 25 = .ok (.invokevirtual 99, 3) := by decide +kernel
theorem dX9_connect_28 : decode cX9_connect 28 = .ok (.ifCond .ne 5, 3) := by decide +kernel
theorem dX9_connect_31 : decode cX9_connect 31 = .ok (.iconst 0, 1) := by decide +kernel
theorem dX9_connect_32 : decode cX9_connect 32 = .ok (.ireturn, 1) := by decide +kernel
theorem dX9_connect_33 : decode cX9_connect 33 = .ok (.aload_n 0, 1) := by decide +kernel
theorem dX9_connect_34 : decode cX9_connect 34 = .ok (.getfield 44, 3) := by decide +kernel
theorem dX9_connect_37 : decode cX9_connect 37 = .ok (.iconst 3, 1) := by decide +kernel
theorem dX9_connect_38 : decode cX9_connect 38 = .ok (.iload_n 1, 1) := by decide +kernel
theorem dX9_connect_39 : decode cX9_connect 39 = .ok (.imul, 1) := by decide +kernel
theorem dX9_connect_40 : decode cX9_connect 40 = .ok (.iload_n 2, 1) := by decide +kernel
theorem dX9_connect_41 : decode cX9_connect 41 = .ok (.iadd, 1) := by decide +kernel
theorem dX9_connect_42 : decode cX9_connect 42 = .ok (.iload_n 3, 1) := by decide +kernel
theorem dX9_connect_43 : decode cX9_connect 43 = .ok (.iastore, 1) := by decide +kernel
theorem dX9_connect_44 : decode cX9_connect 44 = .ok (.iconst 1, 1) := by decide +kernel
theorem dX9_connect_45 : decode cX9_connect 45 = .ok (.ireturn, 1) := by decide +kernel
set_option maxRecDepth 20000 in
theorem ggX9_output_X9_in : GoodIn wsX9_output wsX9_in := goodIn_r _ [5] (by decide +kernel) (by decide +kernel)
set_option maxRecDepth 20000 in
theorem gX9_output_X9_in : GoodIn wsX9_output (va_wsS RX9 95 yX9_in wsX9_in) := goodIn_app (goodIn_of _ (by decide +kernel)) ggX9_output_X9_in
set_option maxRecDepth 20000 in
theorem ggX9_output_X9_isSource : GoodIn wsX9_output wsX9_isSource := goodIn_r _ [9, 10, 2, 3, 4, 5, 11, 12, 13, 14, 15, 16, 17, 18, 19, 20, 21, 22, 23, 24, 25, 26, 27, 28, 29, 30, 31, 32, 33, 34, 35, 36, 37, 38] (by decide +kernel) (by decide +kernel)
set_option maxRecDepth 20000 in
theorem gX9_output_X9_isSource : GoodIn wsX9_output (wsV RX9 99 RX9 yX9_isSource wsX9_isSource) := goodIn_app (goodIn_of _ (by decide +kernel)) ggX9_output_X9_isSource
theorem dX9_output_0 : decode cX9_output 0 = .ok (.iload_n 1, 1) := by decide +kernel
theorem dX9_output_1 : decode cX9_output 1 = .ok (.iconst 0, 1) := by decide +kernel
theorem dX9_output_2 : decode cX9_output 2 = .ok (.iconst 3, 1) := by decide +kernel
theorem dX9_output_3 : decode cX9_output 3 = .ok (.invokestatic 95, 3) := by decide +kernel
theorem dX9_output_6 : decode cX9_output 6 = .ok (.ifCond .eq 11, 3) := by decide +kernel
theorem dX9_output_9 : decode cX9_output 9 = .ok (.aload_n 0, 1) := by decide +kernel
theorem dX9_output_10 : decode cX9_output 10 = .ok (.iload_n 2, 1) := by decide +kernel
theorem dX9_output_11 : decode cX9_output 11 = .ok (.invokevirtual 99, 3) := by decide +kernel
theorem dX9_output_14 : decode cX9_output 14 = .ok (.ifCond .ne 5, 3) := by decide +kernel
theorem dX9_output_17 : decode cX9_output 17 = .ok (.iconst 0, 1) := by decide +kernel
theorem dX9_output_18 : decode cX9_output 18 = .ok (.ireturn, 1) := by decide +kernel
theorem dX9_output_19 : decode cX9_output 19 = .ok (.aload_n 0, 1) := by decide +kernel
theorem dX9_output_20 : decode cX9_output 20 = .ok (.getfield 44, 3) := by decide +kernel
theorem dX9_output_23 : decode cX9_output 23 = .ok (.bipush 30, 2) := by decide +kernel
theorem dX9_output_25 : decode cX9_output 25 = .ok (.iload_n 1, 1) := by decide +kernel
theorem dX9_output_26 : decode cX9_output 26 = .ok (.iadd, 1) := by decide +kernel
theorem dX9_output_27 : decode cX9_output 27 = .ok (.iload_n 2, 1) := by decide +kernel
theorem dX9_output_28 : decode cX9_output 28 = .ok (.iastore, 1) := by decide +kernel
theorem dX9_output_29 : decode cX9_output 29 = .ok (.iconst 1, 1) := by decide +kernel
theorem dX9_output_30 : decode cX9_output 30 = .ok (.ireturn, 1) := by decide +kernel
set_option maxRecDepth 20000 in
theorem ggX9_fix_X9_in : GoodIn wsX9_fix wsX9_in := goodIn_r _ [6] (by decide +kernel) (by decide +kernel)
set_option maxRecDepth 20000 in
theorem gX9_fix_X9_in : GoodIn wsX9_fix (va_wsS RX9 95 yX9_in wsX9_in) := goodIn_app (goodIn_of _ (by decide +kernel)) ggX9_fix_X9_in
theorem dX9_fix_0 : decode cX9_fix 0 = .ok (.iload_n 1, 1) := by decide +kernel
theorem dX9_fix_1 : decode cX9_fix 1 = .ok (.iconst 0, 1) := by decide +kernel
theorem dX9_fix_2 : decode cX9_fix 2 = .ok (.aload_n 0, 1) := by decide +kernel
theorem dX9_fix_3 : decode cX9_fix 3 = .ok (.getfield 91, 3) := by decide +kernel
theorem dX9_fix_6 : decode cX9_fix 6 = .ok (.iconst 1, 1) := by decide +kernel
theorem dX9_fix_7 : decode cX9_fix 7 = .ok (.isub, 1) := by decide +kernel
theorem dX9_fix_8 : decode cX9_fix 8 = .ok (.invokestatic 95, 3) := by decide +kernel
theorem dX9_fix_11 : decode cX9_fix 11 = .ok (.ifCond .eq 13, 3) := by decide +kernel
theorem dX9_fix_14 : decode cX9_fix 14 = .ok (.iload_n 2, 1) := by decide +kernel
theorem dX9_fix_15 : decode cX9_fix 15 = .ok (.iconst (-1), 1) := by decide +kernel
theorem dX9_fix_16 : decode cX9_fix 16 = .ok (.bipush 15, 2) := by decide +kernel
theorem dX9_fix_18 : decode cX9_fix 18 = .ok (.invokestatic 95, 3) := by decide +kernel
theorem dX9_fix_21 : decode cX9_fix 21 = .ok (.ifCond .ne 5, 3) := by decide +kernel
theorem dX9_fix_24 : decode cX9_fix 24 = .ok (.iconst 0, 1) := by decide +kernel
theorem dX9_fix_25 : decode cX9_fix 25 = .ok (.ireturn, 1) := by decide +kernel
theorem dX9_fix_26 : decode cX9_fix 26 = .ok (.iconst 0, 1) := by decide +kernel
theorem dX9_fix_27 : decode cX9_fix 27 = .ok (.istore_n 3, 1) := by decide +kernel
theorem dX9_fix_28 : decode cX9_fix 28 = .ok (.iload_n 3, 1) := by decide +kernel
theorem dX9_fix_29 : decode cX9_fix 29 = .ok (.aload_n 0, 1) := by decide +kernel
theorem dX9_fix_30 : decode cX9_fix 30 = .ok (.getfield 91, 3) := by decide +kernel
theorem dX9_fix_33 : decode cX9_fix 33 = .ok (.if_icmp .ge 30, 3) := by decide +kernel
theorem dX9_fix_36 : decode cX9_fix 36 = .ok (.iload_n 2, 1) := by decide +kernel
theorem dX9_fix_37 : decode cX9_fix 37 = .ok (.ifCond .lt 26, 3) := by decide +kernel
theorem dX9_fix_40 : decode cX9_fix 40 = .ok (.iload_n 3, 1) := by decide +kernel
theorem dX9_fix_41 : decode cX9_fix 41 = .ok (.iload_n 1, 1) := by decide +kernel
theorem dX9_fix_42 : decode cX9_fix 42 = .ok (.if_icmp .eq 15, 3) := by decide +kernel
theorem dX9_fix_45 : decode cX9_fix 45 = .ok (.aload_n 0, 1) := by decide +kernel
theorem dX9_fix_46 : decode cX9_fix 46 = .ok (.getfield 41, 3) := by decide +kernel
theorem dX9_fix_49 : decode cX9_fix 49 = .ok (.iload_n 3, 1) := by decide +kernel
theorem dX9_fix_50 : decode cX9_fix 50 = .ok (.iaload, 1) := by decide +kernel
theorem dX9_fix_51 : decode cX9_fix 51 = .ok (.iload_n 2, 1) := by decide +kernel
theorem dX9_fix_52 : decode cX9_fix 52 = .ok (.if_icmp .ne 5, 3) := by decide +kernel
theorem dX9_fix_55 : decode cX9_fix 55 = .ok (.iconst 0, 1) := by decide +kernel
theorem dX9_fix_56 : decode cX9_fix 56 = .ok (.ireturn, 1) := by decide +kernel
theorem dX9_fix_57 : decode cX9_fix 57 = .ok (.iinc 3 1, 3) := by decide +kernel
theorem dX9_fix_60 : decode cX9_fix 60 = .ok (.goto (-32), 3) := by decide +kernel
theorem dX9_fix_63 : decode cX9_fix 63 = .ok (.aload_n 0, 1) := by decide +kernel
theorem dX9_fix_64 : decode cX9_fix 64 = .ok (.getfield 41, 3) := by decide +kernel
theorem dX9_fix_67 : decode cX9_fix 67 = .ok (.iload_n 1, 1) := by decide +kernel
theorem dX9_fix_68 : decode cX9_fix 68 = .ok (.iload_n 2, 1) := by decide +kernel
theorem dX9_fix_69 : decode cX9_fix 69 = .ok (.iastore, 1) := by decide +kernel
theorem dX9_fix_70 : decode cX9_fix 70 = .ok (.iconst 1, 1) := by decide +kernel
theorem dX9_fix_71 : decode cX9_fix 71 = .ok (.ireturn, 1) := by decide +kernel
set_option maxRecDepth 20000 in
theorem ggX9_ring_X9_in : GoodIn wsX9_ring wsX9_in := goodIn_r _ [8] (by decide +kernel) (by decide +kernel)
set_option maxRecDepth 20000 in
theorem gX9_ring_X9_in : GoodIn wsX9_ring (va_wsS RX9 95 yX9_in wsX9_in) := goodIn_app (goodIn_of _ (by decide +kernel)) ggX9_ring_X9_in
theorem dX9_ring_0 : decode cX9_ring 0 = .ok (.iconst 0, 1) := by decide +kernel
theorem dX9_ring_1 : decode cX9_ring 1 = .ok (.istore_n 1, 1) := by decide +kernel
theorem dX9_ring_2 : decode cX9_ring 2 = .ok (.iconst 0, 1) := by decide +kernel
theorem dX9_ring_3 : decode cX9_ring 3 = .ok (.istore_n 2, 1) := by decide +kernel
theorem dX9_ring_4 : decode cX9_ring 4 = .ok (.iload_n 2, 1) := by decide +kernel
theorem dX9_ring_5 : decode cX9_ring 5 = .ok (.aload_n 0, 1) := by decide +kernel
theorem dX9_ring_6 : decode cX9_ring 6 = .ok (.getfield 91, 3) := by decide +kernel
theorem dX9_ring_9 : decode cX9_ring 9 = .ok (.if_icmp .ge 38, 3) := by decide +kernel
theorem dX9_ring_12 : decode cX9_ring 12 = .ok (.aload_n 0, 1) := by decide +kernel
theorem dX9_ring_13 : decode cX9_ring 13 = .ok (.getfield 81, 3) := by decide +kernel
theorem dX9_ring_16 : decode cX9_ring 16 = .ok (.iload_n 2, 1) := by decide +kernel
theorem dX9_ring_17 : decode cX9_ring 17 = .ok (.aload_n 0, 1) := by decide +kernel
theorem dX9_ring_18 : decode cX9_ring 18 = .ok (.getfield 32, 3) := by decide +kernel
theorem dX9_ring_21 : decode cX9_ring 21 = .ok (.iload_n 2, 1) := by decide +kernel
theorem dX9_ring_22 : decode cX9_ring 22 = .ok (.baload, 1) := by decide +kernel
theorem dX9_ring_23 : decode cX9_ring 23 = .ok (.ifCond .eq 7, 3) := by decide +kernel
theorem dX9_ring_26 : decode cX9_ring 26 = .ok (.iconst 0, 1) := by decide +kernel
theorem dX9_ring_27 : decode cX9_ring 27 = .ok (.goto 4, 3) := by decide +kernel
theorem dX9_ring_30 : decode cX9_ring 30 = .ok (.iconst 1, 1) := by decide +kernel
theorem dX9_ring_31 : decode cX9_ring 31 = .ok (.iastore, 1) := by decide +kernel
theorem dX9_ring_32 : decode cX9_ring 32 = .ok (.iload_n 1, 1) := by decide +kernel
theorem dX9_ring_33 : decode cX9_ring 33 = .ok (.aload_n 0, 1) := by decide +kernel
theorem dX9_ring_34 : decode cX9_ring 34 = .ok (.getfield 81, 3) := by decide +kernel
theorem dX9_ring_37 : decode cX9_ring 37 = .ok (.iload_n 2, 1) := by decide +kernel
theorem dX9_ring_38 : decode cX9_ring 38 = .ok (.iaload, 1) := by decide +kernel
theorem dX9_ring_39 : decode cX9_ring 39 = .ok (.iadd, 1) := by decide +kernel
theorem dX9_ring_40 : decode cX9_ring 40 = .ok (.istore_n 1, 1) := by decide +kernel
theorem dX9_ring_41 : decode cX9_ring 41 = .ok (.iinc 2 1, 3) := by decide +kernel
theorem dX9_ring_44 : decode cX9_ring 44 = .ok (.goto (-40), 3) := by decide +kernel
theorem dX9_ring_47 : decode cX9_ring 47 = .ok (.iconst 0, 1) := by decide +kernel
theorem dX9_ring_48 : decode cX9_ring 48 = .ok (.istore_n 2, 1) := by decide +kernel
theorem dX9_ring_49 : decode cX9_ring 49 = .ok (.iload_n 2, 1) := by decide +kernel
theorem dX9_ring_50 : decode cX9_ring 50 = .ok (.bipush 10, 2) := by decide +kernel
theorem dX9_ring_52 : decode cX9_ring 52 = .ok (.if_icmp .ge 130, 3) := by decide +kernel
theorem dX9_ring_55 : decode cX9_ring 55 = .ok (.iconst 0, 1) := by decide +kernel
theorem dX9_ring_56 : decode cX9_ring 56 = .ok (.istore_n 3, 1) := by decide +kernel
theorem dX9_ring_57 : decode cX9_ring 57 = .ok (.iload_n 3, 1) := by decide +kernel
theorem dX9_ring_58 : decode cX9_ring 58 = .ok (.aload_n 0, 1) := by decide +kernel
theorem dX9_ring_59 : decode cX9_ring 59 = .ok (.getfield 91, 3) := by decide +kernel
theorem dX9_ring_62 : decode cX9_ring 62 = .ok (.if_icmp .ge 114, 3) := by decide +kernel
theorem dX9_ring_65 : decode cX9_ring 65 = .ok (.iconst 0, 1) := by decide +kernel
theorem dX9_ring_66 : decode cX9_ring 66 = .ok (.istore 4, 2) := by decide +kernel
theorem dX9_ring_68 : decode cX9_ring 68 = .ok (.iconst 0, 1) := by decide +kernel
theorem dX9_ring_69 : decode cX9_ring 69 = .ok (.istore 5, 2) := by decide +kernel
theorem dX9_ring_71 : decode cX9_ring 71 = .ok (.iload 5, 2) := by decide +kernel
theorem dX9_ring_73 : decode cX9_ring 73 = .ok (.iconst 3, 1) := by decide +kernel
theorem dX9_ring_74 : decode cX9_ring 74 = .ok (.if_icmp .ge 71, 3) := by decide +kernel
theorem dX9_ring_77 : decode cX9_ring 77 = .ok (.aload_n 0, 1) := by decide +kernel
theorem dX9_ring_78 : decode cX9_ring 78 = .ok (.getfield 44, 3) := by decide +kernel
theorem dX9_ring_81 : decode cX9_ring 81 = .ok (.iconst 3, 1) := by decide +kernel
theorem dX9_ring_82 : decode cX9_ring 82 = .ok (.iload_n 3, 1) := by decide +kernel
theorem dX9_ring_83 : decode cX9_ring 83 = .ok (.imul, 1) := by decide +kernel
theorem dX9_ring_84 : decode cX9_ring 84 = .ok (.iload 5, 2) := by decide +kernel
theorem dX9_ring_86 : decode cX9_ring 86 = .ok (.iadd, 1) := by decide +kernel
theorem dX9_ring_87 : decode cX9_ring 87 = .ok (.iaload, 1) := by decide +kernel
theorem dX9_ring_88 : decode cX9_ring 88 = .ok (.istore 6, 2) := by decide +kernel
theorem dX9_ring_90 : decode cX9_ring 90 = .ok (.iload 4, 2) := by decide +kernel
theorem dX9_ring_92 : decode cX9_ring 92 = .ok (.ifCond .ne 40, 3) := by decide +kernel
theorem dX9_ring_95 : decode cX9_ring 95 = .ok (.iload 6, 2) := by decide +kernel
theorem dX9_ring_97 : decode cX9_ring 97 = .ok (.iconst 0, 1) := by decide +kernel
theorem dX9_ring_98 : decode cX9_ring 98 = .ok (.bipush 9, 2) := by decide +kernel
theorem dX9_ring_100 : decode cX9_ring 100 = .ok (.invokestatic 95, 3) := by decide +kernel
theorem dX9_ring_103 : decode cX9_ring 103 = .ok (.ifCond .eq 33, 3) := by decide +kernel
theorem dX9_ring_106 : decode cX9_ring 106 = .ok (.aload_n 0, 1) := by decide +kernel
theorem dX9_ring_107 : decode cX9_ring 107 = .ok (.getfield 81, 3) := by decide +kernel
theorem dX9_ring_110 : decode cX9_ring 110 = .ok (.iload 6, 2) := by decide +kernel
theorem dX9_ring_112 : decode cX9_ring 112 = .ok (.iconst 0, 1) := by decide +kernel
theorem dX9_ring_113 : decode cX9_ring 113 = .ok (.bipush 9, 2) := by decide +kernel
theorem dX9_ring_115 : decode cX9_ring 115 = .ok (.invokestatic 95, 3) := by decide +kernel
theorem dX9_ring_118 : decode cX9_ring 118 = .ok (.ifCond .eq 8, 3) := by decide +kernel
theorem dX9_ring_121 : decode cX9_ring 121 = .ok (.iload 6, 2) := by decide +kernel
theorem dX9_ring_123 : decode cX9_ring 123 = .ok (.goto 4, 3) := by decide +kernel
theorem dX9_ring_126 : decode cX9_ring 126 = .ok (.iconst 0, 1) := by decide +kernel
theorem dX9_ring_127 : decode cX9_ring 127 = .ok (.iaload, 1) := by decide +kernel
theorem dX9_ring_128 : decode cX9_ring 128 = .ok (.iconst 1, 1) := by decide +kernel
theorem dX9_ring_129 : decode cX9_ring 129 = .ok (.if_icmp .ne 7, 3) := by decide +kernel
theorem dX9_ring_132 : decode cX9_ring 132 = .ok (.iconst 1, 1) := by decide +kernel
theorem dX9_ring_133 : decode cX9_ring 133 = .ok (.goto 4, 3) := by decide +kernel
theorem dX9_ring_136 : decode cX9_ring 136 = .ok (.iconst 0, 1) := by decide +kernel
theorem dX9_ring_137 : decode cX9_ring 137 = .ok (.istore 4, 2) := by decide +kernel
theorem dX9_ring_139 : decode cX9_ring 139 = .ok (.iinc 5 1, 3) := by decide +kernel
theorem dX9_ring_142 : decode cX9_ring 142 = .ok (.goto (-71), 3) := by decide +kernel
theorem dX9_ring_145 : decode cX9_ring 145 = .ok (.aload_n 0, 1) := by decide +kernel
theorem dX9_ring_146 : decode cX9_ring 146 = .ok (.getfield 81, 3) := by decide +kernel
theorem dX9_ring_149 : decode cX9_ring 149 = .ok (.iload_n 3, 1) := by decide +kernel
theorem dX9_ring_150 : decode cX9_ring 150 = .ok (.iaload, 1) := by decide +kernel
theorem dX9_ring_151 : decode cX9_ring 151 = .ok (.iconst 1, 1) := by decide +kernel
theorem dX9_ring_152 : decode cX9_ring 152 = .ok (.if_icmp .ne 18, 3) := by decide +kernel
theorem dX9_ring_155 : decode cX9_ring 155 = .ok (.iload 4, 2) := by decide +kernel
theorem dX9_ring_157 : decode cX9_ring 157 = .ok (.ifCond .ne 13, 3) := by decide +kernel
theorem dX9_ring_160 : decode cX9_ring 160 = .ok (.aload_n 0, 1) := by decide +kernel
theorem dX9_ring_161 : decode cX9_ring 161 = .ok (.getfield 81, 3) := by decide +kernel
theorem dX9_ring_164 : decode cX9_ring 164 = .ok (.iload_n 3, 1) := by decide +kernel
theorem dX9_ring_165 : decode cX9_ring 165 = .ok (.iconst 0, 1) := by decide +kernel
theorem dX9_ring_166 : decode cX9_ring 166 = .ok (.iastore, 1) := by decide +kernel
theorem dX9_ring_167 : decode cX9_ring 167 = .ok (.iinc 1 (-1), 3) := by decide +kernel
theorem dX9_ring_170 : decode cX9_ring 170 = .ok (.iinc 3 1, 3) := by decide +kernel
theorem dX9_ring_173 : decode cX9_ring 173 = .ok (.goto (-116), 3) := by decide +kernel
theorem dX9_ring_176 : decode cX9_ring 176 = .ok (.iinc 2 1, 3) := by decide +kernel
theorem dX9_ring_179 : decode cX9_ring 179 = .ok (.goto (-130), 3) := by decide +kernel
theorem dX9_ring_182 : decode cX9_ring 182 = .ok (.iload_n 1, 1) := by decide +kernel
theorem dX9_ring_183 : decode cX9_ring 183 = .ok (.ifCond .le 7, 3) := by decide +kernel
theorem dX9_ring_186 : decode cX9_ring 186 = .ok (.iconst 1, 1) := by decide +kernel
theorem dX9_ring_187 : decode cX9_ring 187 = .ok (.goto 4, 3) := by decide +kernel
theorem dX9_ring_190 : decode cX9_ring 190 = .ok (.iconst 0, 1) := by decide +kernel
theorem dX9_ring_191 : decode cX9_ring 191 = .ok (.ireturn, 1) := by decide +kernel
theorem dX9_lies_0 : decode cX9_lies 0 = .ok (.iload_n 1, 1) := by decide +kernel
theorem dX9_lies_1 : decode cX9_lies 1 = .ok (.bipush 10, 2) := by decide +kernel
theorem dX9_lies_3 : decode cX9_lies 3 = .ok (.if_icmp .ge 12, 3) := by decide +kernel
theorem dX9_lies_6 : decode cX9_lies 6 = .ok (.aload_n 0, 1) := by decide +kernel
theorem dX9_lies_7 : decode cX9_lies 7 = .ok (.getfield 50, 3) := by decide +kernel
theorem dX9_lies_10 : decode cX9_lies 10 = .ok (.iload_n 1, 1) := by decide +kernel
theorem dX9_lies_11 : decode cX9_lies 11 = .ok (.iaload, 1) := by decide +kernel
theorem dX9_lies_12 : decode cX9_lies 12 = .ok (.goto 4, 3) := by decide +kernel
theorem dX9_lies_15 : decode cX9_lies 15 = .ok (.iconst 0, 1) := by decide +kernel
theorem dX9_lies_16 : decode cX9_lies 16 = .ok (.istore_n 3, 1) := by decide +kernel
theorem dX9_lies_17 : decode cX9_lies 17 = .ok (.iload_n 1, 1) := by decide +kernel
theorem dX9_lies_18 : decode cX9_lies 18 = .ok (.bipush 10, 2) := by decide +kernel
theorem dX9_lies_20 : decode cX9_lies 20 = .ok (.if_icmp .ge 17, 3) := by decide +kernel
theorem dX9_lies_23 : decode cX9_lies 23 = .ok (.iload_n 2, 1) := by decide +kernel
theorem dX9_lies_24 : decode cX9_lies 24 = .ok (.ifCond .eq 9, 3) := by decide +kernel
theorem dX9_lies_27 : decode cX9_lies 27 = .ok (.iload_n 3, 1) := by decide +kernel
theorem dX9_lies_28 : decode cX9_lies 28 = .ok (.iconst 4, 1) := by decide +kernel
theorem dX9_lies_29 : decode cX9_lies 29 = .ok (.idiv, 1) := by decide +kernel
theorem dX9_lies_30 : decode cX9_lies 30 = .ok (.goto 6, 3) := by decide +kernel
theorem dX9_lies_33 : decode cX9_lies 33 = .ok (.iload_n 3, 1) := by decide +kernel
theorem dX9_lies_34 : decode cX9_lies 34 = .ok (.iconst 4, 1) := by decide +kernel
theorem dX9_lies_35 : decode cX9_lies 35 = .ok (.irem, 1) := by decide +kernel
theorem dX9_lies_36 : decode cX9_lies 36 = .ok (.ireturn, 1) := by decide +kernel
theorem dX9_lies_37 : decode cX9_lies 37 = .ok (.iload_n 2, 1) := by decide +kernel
theorem dX9_lies_38 : decode cX9_lies 38 = .ok (.ifCond .eq 12, 3) := by decide +kernel
theorem dX9_lies_41 : decode cX9_lies 41 = .ok (.iload_n 1, 1) := by decide +kernel
theorem dX9_lies_42 : decode cX9_lies 42 = .ok (.bipush 10, 2) := by decide +kernel
theorem dX9_lies_44 : decode cX9_lies 44 = .ok (.isub, 1) := by decide +kernel
theorem dX9_lies_45 : decode cX9_lies 45 = .ok (.iconst 4, 1) := by decide +kernel
theorem dX9_lies_46 : decode cX9_lies 46 = .ok (.irem, 1) := by decide +kernel
theorem dX9_lies_47 : decode cX9_lies 47 = .ok (.goto 14, 3) := by decide +kernel
theorem dX9_lies_50 : decode cX9_lies 50 = .ok (.iload_n 1, 1) := by decide +kernel
theorem dX9_lies_51 : decode cX9_lies 51 = .ok (.bipush 14, 2) := by decide +kernel
theorem dX9_lies_53 : decode cX9_lies 53 = .ok (.if_icmp .ge 7, 3) := by decide +kernel
theorem dX9_lies_56 : decode cX9_lies 56 = .ok (.iconst 0, 1) := by decide +kernel
theorem dX9_lies_57 : decode cX9_lies 57 = .ok (.goto 4, 3) := by decide +kernel
theorem dX9_lies_60 : decode cX9_lies 60 = .ok (.iconst 3, 1) := by decide +kernel
theorem dX9_lies_61 : decode cX9_lies 61 = .ok (.ireturn, 1) := by decide +kernel
set_option maxRecDepth 20000 in
theorem ggX9_span_X9_lies : GoodIn wsX9_span wsX9_lies := goodIn_r _ [6, 7, 8, 9, 10, 11, 12, 13, 14, 15, 16, 17, 18, 19, 20, 21, 22, 23, 24, 25, 26, 27, 28, 29, 30, 31, 32, 33, 34, 35] (by decide +kernel) (by decide +kernel)
set_option maxRecDepth 20000 in
theorem gX9_span_X9_lies : GoodIn wsX9_span (wsV RX9 103 RX9 yX9_lies wsX9_lies) := goodIn_app (goodIn_of _ (by decide +kernel)) ggX9_span_X9_lies
theorem dX9_span_0 : decode cX9_span 0 = .ok (.aload_n 0, 1) := by decide +kernel
theorem dX9_span_1 : decode cX9_span 1 = .ok (.iload_n 1, 1) := by decide +kernel
theorem dX9_span_2 : decode cX9_span 2 = .ok (.iload_n 2, 1) := by decide +kernel
theorem dX9_span_3 : decode cX9_span 3 = .ok (.invokevirtual 103, 3) := by decide +kernel
theorem dX9_span_6 : decode cX9_span 6 = .ok (.istore_n 3, 1) := by decide +kernel
theorem dX9_span_7 : decode cX9_span 7 = .ok (.iload_n 3, 1) := by decide +kernel
theorem dX9_span_8 : decode cX9_span 8 = .ok (.istore 4, 2) := by decide +kernel
theorem dX9_span_10 : decode cX9_span 10 = .ok (.iconst 0, 1) := by decide +kernel
theorem dX9_span_11 : decode cX9_span 11 = .ok (.istore 5, 2) := by decide +kernel
theorem dX9_span_13 : decode cX9_span 13 = .ok (.iload 5, 2) := by decide +kernel
theorem dX9_span_15 : decode cX9_span 15 = .ok (.bipush 34, 2) := by decide +kernel
theorem dX9_span_17 : decode cX9_span 17 = .ok (.if_icmp .ge 78, 3) := by decide +kernel
theorem dX9_span_20 : decode cX9_span 20 = .ok (.aload_n 0, 1) := by decide +kernel
theorem dX9_span_21 : decode cX9_span 21 = .ok (.getfield 44, 3) := by decide +kernel
theorem dX9_span_24 : decode cX9_span 24 = .ok (.iload 5, 2) := by decide +kernel
theorem dX9_span_26 : decode cX9_span 26 = .ok (.iaload, 1) := by decide +kernel
theorem dX9_span_27 : decode cX9_span 27 = .ok (.iload_n 1, 1) := by decide +kernel
theorem dX9_span_28 : decode cX9_span 28 = .ok (.if_icmp .ne 61, 3) := by decide +kernel
theorem dX9_span_31 : decode cX9_span 31 = .ok (.aload_n 0, 1) := by decide +kernel
theorem dX9_span_32 : decode cX9_span 32 = .ok (.iload 5, 2) := by decide +kernel
theorem dX9_span_34 : decode cX9_span 34 = .ok (.bipush 30, 2) := by decide +kernel
theorem dX9_span_36 : decode cX9_span 36 = .ok (.if_icmp .ge 10, 3) := by decide +kernel
theorem dX9_span_39 : decode cX9_span 39 = .ok (.iload 5, 2) := by decide +kernel
theorem dX9_span_41 : decode cX9_span 41 = .ok (.iconst 3, 1) := by decide +kernel
theorem dX9_span_42 : decode cX9_span 42 = .ok (.idiv, 1) := by decide +kernel
theorem dX9_span_43 : decode cX9_span 43 = .ok (.goto 11, 3) := by decide +kernel
theorem dX9_span_46 : decode cX9_span 46 = .ok (.bipush 14, 2) := by decide +kernel
theorem dX9_span_48 : decode cX9_span 48 = .ok (.iload 5, 2) := by decide +kernel
theorem dX9_span_50 : decode cX9_span 50 = .ok (.iadd, 1) := by decide +kernel
theorem dX9_span_51 : decode cX9_span 51 = .ok (.bipush 30, 2) := by decide +kernel
theorem dX9_span_53 : decode cX9_span 53 = .ok (.isub, 1) := by decide +kernel
theorem dX9_span_54 : decode cX9_span 54 = .ok (.iload_n 2, 1) := by decide +kernel
theorem dX9_span_55 : decode cX9_span 55 = .ok (.invokevirtual 103, 3) := by decide +kernel
theorem dX9_span_58 : decode cX9_span 58 = .ok (.istore 6, 2) := by decide +kernel
theorem dX9_span_60 : decode cX9_span 60 = .ok (.iload 6, 2) := by decide +kernel
theorem dX9_span_62 : decode cX9_span 62 = .ok (.iload_n 3, 1) := by decide +kernel
theorem dX9_span_63 : decode cX9_span 63 = .ok (.if_icmp .ge 8, 3) := by decide +kernel
theorem dX9_span_66 : decode cX9_span 66 = .ok (.iload 6, 2) := by decide +kernel
theorem dX9_span_68 : decode cX9_span 68 = .ok (.goto 4, 3) := by decide +kernel
theorem dX9_span_71 : decode cX9_span 71 = .ok (.iload_n 3, 1) := by decide +kernel
theorem dX9_span_72 : decode cX9_span 72 = .ok (.istore_n 3, 1) := by decide +kernel
theorem dX9_span_73 : decode cX9_span 73 = .ok (.iload 6, 2) := by decide +kernel
theorem dX9_span_75 : decode cX9_span 75 = .ok (.iload 4, 2) := by decide +kernel
theorem dX9_span_77 : decode cX9_span 77 = .ok (.if_icmp .le 8, 3) := by decide +kernel
theorem dX9_span_80 : decode cX9_span 80 = .ok (.iload 6, 2) := by decide +kernel
theorem dX9_span_82 : decode cX9_span 82 = .ok (.goto 5, 3) := by decide +kernel
theorem dX9_span_85 : decode cX9_span 85 = .ok (.iload 4, 2) := by decide +kernel
theorem dX9_span_87 : decode cX9_span 87 = .ok (.istore 4, 2) := by decide +kernel
theorem dX9_span_89 : decode cX9_span 89 = .ok (.iinc 5 1, 3) := by decide +kernel
theorem dX9_span_92 : decode cX9_span 92 = .ok (.goto (-79), 3) := by decide +kernel
theorem dX9_span_95 : decode cX9_span 95 = .ok (.iload 4, 2) := by decide +kernel
theorem dX9_span_97 : decode cX9_span 97 = .ok (.iload_n 3, 1) := by decide +kernel
theorem dX9_span_98 : decode cX9_span 98 = .ok (.isub, 1) := by decide +kernel
theorem dX9_span_99 : decode cX9_span 99 = .ok (.ireturn, 1) := by decide +kernel
theorem dX9_hasSinks_0 : decode cX9_hasSinks 0 = .ok (.iconst 0, 1) := by decide +kernel
theorem dX9_hasSinks_1 : decode cX9_hasSinks 1 = .ok (.istore_n 2, 1) := by decide +kernel
theorem dX9_hasSinks_2 : decode cX9_hasSinks 2 = .ok (.iconst 0, 1) := by decide +kernel
theorem dX9_hasSinks_3 : decode cX9_hasSinks 3 = .ok (.istore_n 3, 1) := by decide +kernel
theorem dX9_hasSinks_4 : decode cX9_hasSinks 4 = .ok (.iload_n 3, 1) := by decide +kernel
theorem dX9_hasSinks_5 : decode cX9_hasSinks 5 = .ok (.bipush 34, 2) := by decide +kernel
theorem dX9_hasSinks_7 : decode cX9_hasSinks 7 = .ok (.if_icmp .ge 29, 3) := by decide +kernel
theorem dX9_hasSinks_10 : decode cX9_hasSinks 10 = .ok (.iload_n 2, 1) := by decide +kernel
theorem dX9_hasSinks_11 : decode cX9_hasSinks 11 = .ok (.ifCond .ne 13, 3) := by decide +kernel
theorem dX9_hasSinks_14 : decode cX9_hasSinks 14 = .ok (.aload_n 0, 1) := by decide +kernel
theorem dX9_hasSinks_15 : decode cX9_hasSinks 15 = .ok (.getfield 44, 3) := by decide +kernel
theorem dX9_hasSinks_18 : decode cX9_hasSinks 18 = .ok (.iload_n 3, 1) := by decide +kernel
theorem dX9_hasSinks_19 : decode cX9_hasSinks 19 = .ok (.iaload, 1) := by decide +kernel
theorem dX9_hasSinks_20 : decode cX9_hasSinks 20 = .ok (.iload_n 1, 1) := by decide +kernel
theorem dX9_hasSinks_21 : decode cX9_hasSinks 21 = .ok (.if_icmp .ne 7, 3) := by decide +kernel
theorem dX9_hasSinks_24 : decode cX9_hasSinks 24 = .ok (.iconst 1, 1) := by decide +kernel
theorem dX9_hasSinks_25 : decode cX9_hasSinks 25 = .ok (.goto 4, 3) := by decide +kernel
theorem dX9_hasSinks_28 : decode cX9_hasSinks 28 = .ok (.iconst 0, 1) := by decide +kernel
theorem dX9_hasSinks_29 : decode cX9_hasSinks 29 = .ok (.istore_n 2, 1) := by decide +kernel
theorem dX9_hasSinks_30 : decode cX9_hasSinks 30 = .ok (.iinc 3 1, 3) := by decide +kernel
theorem dX9_hasSinks_33 : decode cX9_hasSinks 33 = .ok (.goto (-29), 3) := by decide +kernel
theorem dX9_hasSinks_36 : decode cX9_hasSinks 36 = .ok (.iload_n 2, 1) := by decide +kernel
theorem dX9_hasSinks_37 : decode cX9_hasSinks 37 = .ok (.ireturn, 1) := by decide +kernel
set_option maxRecDepth 20000 in
theorem ggX9_placeCost_X9_hasSinks : GoodIn wsX9_placeCost wsX9_hasSinks := goodIn_r _ [5, 6, 16, 17, 18, 19, 20, 21, 22, 23, 24, 25, 26, 27, 28, 29, 30, 31, 32, 33, 34, 35, 36, 37, 38, 39, 40, 41, 42, 43] (by decide +kernel) (by decide +kernel)
set_option maxRecDepth 20000 in
theorem gX9_placeCost_X9_hasSinks : GoodIn wsX9_placeCost (wsV RX9 107 RX9 yX9_hasSinks wsX9_hasSinks) := goodIn_app (goodIn_of _ (by decide +kernel)) ggX9_placeCost_X9_hasSinks
set_option maxRecDepth 20000 in
theorem ggX9_placeCost_X9_span : GoodIn wsX9_placeCost wsX9_span := goodIn_r _ [10, 6, 11, 12, 13, 4, 14, 15, 16, 17, 18, 19, 20, 21, 22, 23, 24, 25, 26, 27, 28, 29, 30, 31, 32, 33, 34, 35, 36, 37, 38, 39, 40, 41, 42, 43] (by decide +kernel) (by decide +kernel)
set_option maxRecDepth 20000 in
theorem gX9_placeCost_X9_span : GoodIn wsX9_placeCost (wsV RX9 110 RX9 yX9_span wsX9_span) := goodIn_app (goodIn_of _ (by decide +kernel)) ggX9_placeCost_X9_span
theorem dX9_placeCost_0 : decode cX9_placeCost 0 = .ok (.iconst 0, 1) := by decide +kernel
theorem dX9_placeCost_1 : decode cX9_placeCost 1 = .ok (.istore_n 1, 1) := by decide +kernel
theorem dX9_placeCost_2 : decode cX9_placeCost 2 = .ok (.iconst 0, 1) := by decide +kernel
theorem dX9_placeCost_3 : decode cX9_placeCost 3 = .ok (.istore_n 2, 1) := by decide +kernel
theorem dX9_placeCost_4 : decode cX9_placeCost 4 = .ok (.iload_n 2, 1) := by decide +kernel
theorem dX9_placeCost_5 : decode cX9_placeCost 5 = .ok (.bipush 14, 2) := by decide +kernel
theorem dX9_placeCost_7 : decode cX9_placeCost 7 = .ok (.if_icmp .ge 33, 3) := by decide +kernel
theorem dX9_placeCost_10 : decode cX9_placeCost 10 = .ok (.aload_n 0, 1) := by decide +kernel
theorem dX9_placeCost_11 : decode cX9_placeCost 11 = .ok (.iload_n 2, 1) := by decide +kernel
theorem dX9_placeCost_12 : decode cX9_placeCost 12 = .ok (.invokevirtual 107, 3) := by decide +kernel
theorem dX9_placeCost_15 : decode cX9_placeCost 15 = .ok (.ifCond .eq 19, 3) := by decide +kernel
theorem dX9_placeCost_18 : decode cX9_placeCost 18 = .ok (.iload_n 1, 1) := by decide +kernel
theorem dX9_placeCost_19 : decode cX9_placeCost 19 = .ok (.aload_n 0, 1) := by decide +kernel
theorem dX9_placeCost_20 : decode cX9_placeCost 20 = .ok (.iload_n 2, 1) := by decide +kernel
theorem dX9_placeCost_21 : decode cX9_placeCost 21 = .ok (.iconst 1, 1) := by decide +kernel
theorem dX9_placeCost_22 : decode cX9_placeCost 22 = .ok (.invokevirtual 110, 3) := by decide +kernel
theorem dX9_placeCost_25 : decode cX9_placeCost 25 = .ok (.aload_n 0, 1) := by decide +kernel
theorem dX9_placeCost_26 : decode cX9_placeCost 26 = .ok (.iload_n 2, 1) := by decide +kernel
theorem dX9_placeCost_27 : decode cX9_placeCost 27 = .ok (.iconst 0, 1) := by decide +kernel
theorem dX9_placeCost_28 : decode cX9_placeCost 28 = .ok (.invokevirtual 110, 3) := by decide +kernel
theorem dX9_placeCost_31 : decode cX9_placeCost 31 = .ok (.iadd, 1) := by decide +kernel
theorem dX9_placeCost_32 : decode cX9_placeCost 32 = .ok (.iadd, 1) := by decide +kernel
theorem dX9_placeCost_33 : decode cX9_placeCost 33 = .ok (.istore_n 1, 1) := by decide +kernel
theorem dX9_placeCost_34 : decode cX9_placeCost 34 = .ok (.iinc 2 1, 3) := by decide +kernel
theorem dX9_placeCost_37 : decode cX9_placeCost 37 = .ok (.goto (-33), 3) := by decide +kernel
theorem dX9_placeCost_40 : decode cX9_placeCost 40 = .ok (.iload_n 1, 1) := by decide +kernel
theorem dX9_placeCost_41 : decode cX9_placeCost 41 = .ok (.ireturn, 1) := by decide +kernel
theorem dX9_put_0 : decode cX9_put 0 = .ok (.aload_n 0, 1) := by decide +kernel
theorem dX9_put_1 : decode cX9_put 1 = .ok (.getfield 50, 3) := by decide +kernel
theorem dX9_put_4 : decode cX9_put 4 = .ok (.iload_n 1, 1) := by decide +kernel
theorem dX9_put_5 : decode cX9_put 5 = .ok (.iload_n 2, 1) := by decide +kernel
theorem dX9_put_6 : decode cX9_put 6 = .ok (.iastore, 1) := by decide +kernel
theorem dX9_put_7 : decode cX9_put 7 = .ok (.aload_n 0, 1) := by decide +kernel
theorem dX9_put_8 : decode cX9_put 8 = .ok (.getfield 53, 3) := by decide +kernel
theorem dX9_put_11 : decode cX9_put 11 = .ok (.iload_n 2, 1) := by decide +kernel
theorem dX9_put_12 : decode cX9_put 12 = .ok (.iload_n 1, 1) := by decide +kernel
theorem dX9_put_13 : decode cX9_put 13 = .ok (.iastore, 1) := by decide +kernel
theorem dX9_put_14 : decode cX9_put 14 = .ok (.return_, 1) := by decide +kernel
theorem dX9_exchange_0 : decode cX9_exchange 0 = .ok (.aload_n 0, 1) := by decide +kernel
theorem dX9_exchange_1 : decode cX9_exchange 1 = .ok (.getfield 53, 3) := by decide +kernel
theorem dX9_exchange_4 : decode cX9_exchange 4 = .ok (.iload_n 1, 1) := by decide +kernel
theorem dX9_exchange_5 : decode cX9_exchange 5 = .ok (.iaload, 1) := by decide +kernel
theorem dX9_exchange_6 : decode cX9_exchange 6 = .ok (.istore_n 3, 1) := by decide +kernel
theorem dX9_exchange_7 : decode cX9_exchange 7 = .ok (.aload_n 0, 1) := by decide +kernel
theorem dX9_exchange_8 : decode cX9_exchange 8 = .ok (.getfield 53, 3) := by decide +kernel
theorem dX9_exchange_11 : decode cX9_exchange 11 = .ok (.iload_n 2, 1) := by decide +kernel
theorem dX9_exchange_12 : decode cX9_exchange 12 = .ok (.iaload, 1) := by decide +kernel
theorem dX9_exchange_13 : decode cX9_exchange 13 = .ok (.istore 4, 2) := by decide +kernel
theorem dX9_exchange_15 : decode cX9_exchange 15 = .ok (.aload_n 0, 1) := by decide +kernel
theorem dX9_exchange_16 : decode cX9_exchange 16 = .ok (.getfield 53, 3) := by decide +kernel
theorem dX9_exchange_19 : decode cX9_exchange 19 = .ok (.iload_n 1, 1) := by decide +kernel
theorem dX9_exchange_20 : decode cX9_exchange 20 = .ok (.iload 4, 2) := by decide +kernel
theorem dX9_exchange_22 : decode cX9_exchange 22 = .ok (.iastore, 1) := by decide +kernel
theorem dX9_exchange_23 : decode cX9_exchange 23 = .ok (.aload_n 0, 1) := by decide +kernel
theorem dX9_exchange_24 : decode cX9_exchange 24 = .ok (.getfield 53, 3) := by decide +kernel
theorem dX9_exchange_27 : decode cX9_exchange 27 = .ok (.iload_n 2, 1) := by decide +kernel
theorem dX9_exchange_28 : decode cX9_exchange 28 = .ok (.iload_n 3, 1) := by decide +kernel
theorem dX9_exchange_29 : decode cX9_exchange 29 = .ok (.iastore, 1) := by decide +kernel
theorem dX9_exchange_30 : decode cX9_exchange 30 = .ok (.iload_n 3, 1) := by decide +kernel
theorem dX9_exchange_31 : decode cX9_exchange 31 = .ok (.ifCond .lt 10, 3) := by decide +kernel
theorem dX9_exchange_34 : decode cX9_exchange 34 = .ok (.aload_n 0, 1) := by decide +kernel
theorem dX9_exchange_35 : decode cX9_exchange 35 = .ok (.getfield 50, 3) := by decide +kernel
theorem dX9_exchange_38 : decode cX9_exchange 38 = .ok (.iload_n 3, 1) := by decide +kernel
theorem dX9_exchange_39 : decode cX9_exchange 39 = .ok (.iload_n 2, 1) := by decide +kernel
theorem dX9_exchange_40 : decode cX9_exchange 40 = .ok (.iastore, 1) := by decide +kernel
theorem dX9_exchange_41 : decode cX9_exchange 41 = .ok (.iload 4, 2) := by decide +kernel
theorem dX9_exchange_43 : decode cX9_exchange 43 = .ok (.ifCond .lt 11, 3) := by decide +kernel
theorem dX9_exchange_46 : decode cX9_exchange 46 = .ok (.aload_n 0, 1) := by decide +kernel
theorem dX9_exchange_47 : decode cX9_exchange 47 = .ok (.getfield 50, 3) := by decide +kernel
theorem dX9_exchange_50 : decode cX9_exchange 50 = .ok (.iload 4, 2) := by decide +kernel
theorem dX9_exchange_52 : decode cX9_exchange 52 = .ok (.iload_n 1, 1) := by decide +kernel
theorem dX9_exchange_53 : decode cX9_exchange 53 = .ok (.iastore, 1) := by decide +kernel
theorem dX9_exchange_54 : decode cX9_exchange 54 = .ok (.return_, 1) := by decide +kernel
theorem dX9_isFixed_0 : decode cX9_isFixed 0 = .ok (.aload_n 0, 1) := by decide +kernel
theorem dX9_isFixed_1 : decode cX9_isFixed 1 = .ok (.getfield 53, 3) := by decide +kernel
theorem dX9_isFixed_4 : decode cX9_isFixed 4 = .ok (.iload_n 1, 1) := by decide +kernel
theorem dX9_isFixed_5 : decode cX9_isFixed 5 = .ok (.iaload, 1) := by decide +kernel
theorem dX9_isFixed_6 : decode cX9_isFixed 6 = .ok (.ifCond .lt 34, 3) := by decide +kernel
theorem dX9_isFixed_9 : decode cX9_isFixed 9 = .ok (.aload_n 0, 1) := by decide +kernel
theorem dX9_isFixed_10 : decode cX9_isFixed 10 = .ok (.getfield 41, 3) := by decide +kernel
theorem dX9_isFixed_13 : decode cX9_isFixed 13 = .ok (.aload_n 0, 1) := by decide +kernel
theorem dX9_isFixed_14 : decode cX9_isFixed 14 = .ok (.getfield 53, 3) := by decide +kernel
theorem dX9_isFixed_17 : decode cX9_isFixed 17 = .ok (.iload_n 1, 1) := by decide +kernel
theorem dX9_isFixed_18 : decode cX9_isFixed 18 = .ok (.iaload, 1) := by decide +kernel
theorem dX9_isFixed_19 : decode cX9_isFixed 19 = .ok (.ifCond .ge 7, 3) := by decide +kernel
theorem dX9_isFixed_22 : decode cX9_isFixed 22 = .ok (.iconst 0, 1) := by decide +kernel
