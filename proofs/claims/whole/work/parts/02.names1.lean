theorem dX0_init_0 : decode cX0_init 0 = .ok (.aload_n 0, 1) := by decide +kernel
theorem dX0_init_1 : decode cX0_init 1 = .ok (.invokespecial 3, 3) := by decide +kernel
theorem dX0_init_4 : decode cX0_init 4 = .ok (.aload_n 0, 1) := by decide +kernel
theorem dX0_init_5 : decode cX0_init 5 = .ok (.bipush 10, 2) := by decide +kernel
theorem dX0_init_7 : decode cX0_init 7 = .ok (.newarray .int, 2) := by decide +kernel
theorem dX0_init_9 : decode cX0_init 9 = .ok (.putfield 9, 3) := by decide +kernel
theorem dX0_init_12 : decode cX0_init 12 = .ok (.aload_n 0, 1) := by decide +kernel
theorem dX0_init_13 : decode cX0_init 13 = .ok (.bipush 10, 2) := by decide +kernel
theorem dX0_init_15 : decode cX0_init 15 = .ok (.newarray .boolean, 2) := by decide +kernel
theorem dX0_init_17 : decode cX0_init 17 = .ok (.putfield 15, 3) := by decide +kernel
theorem dX0_init_20 : decode cX0_init 20 = .ok (.aload_n 0, 1) := by decide +kernel
theorem dX0_init_21 : decode cX0_init 21 = .ok (.bipush 10, 2) := by decide +kernel
theorem dX0_init_23 : decode cX0_init 23 = .ok (.newarray .int, 2) := by decide +kernel
theorem dX0_init_25 : decode cX0_init 25 = .ok (.putfield 19, 3) := by decide +kernel
theorem dX0_init_28 : decode cX0_init 28 = .ok (.aload_n 0, 1) := by decide +kernel
theorem dX0_init_29 : decode cX0_init 29 = .ok (.bipush 10, 2) := by decide +kernel
theorem dX0_init_31 : decode cX0_init 31 = .ok (.newarray .int, 2) := by decide +kernel
theorem dX0_init_33 : decode cX0_init 33 = .ok (.putfield 22, 3) := by decide +kernel
theorem dX0_init_36 : decode cX0_init 36 = .ok (.aload_n 0, 1) := by decide +kernel
theorem dX0_init_37 : decode cX0_init 37 = .ok (.bipush 34, 2) := by decide +kernel
theorem dX0_init_39 : decode cX0_init 39 = .ok (.newarray .int, 2) := by decide +kernel
theorem dX0_init_41 : decode cX0_init 41 = .ok (.putfield 25, 3) := by decide +kernel
theorem dX0_init_44 : decode cX0_init 44 = .ok (.aload_n 0, 1) := by decide +kernel
theorem dX0_init_45 : decode cX0_init 45 = .ok (.bipush 14, 2) := by decide +kernel
theorem dX0_init_47 : decode cX0_init 47 = .ok (.newarray .int, 2) := by decide +kernel
theorem dX0_init_49 : decode cX0_init 49 = .ok (.putfield 28, 3) := by decide +kernel
theorem dX0_init_52 : decode cX0_init 52 = .ok (.aload_n 0, 1) := by decide +kernel
theorem dX0_init_53 : decode cX0_init 53 = .ok (.bipush 10, 2) := by decide +kernel
theorem dX0_init_55 : decode cX0_init 55 = .ok (.newarray .int, 2) := by decide +kernel
theorem dX0_init_57 : decode cX0_init 57 = .ok (.putfield 31, 3) := by decide +kernel
theorem dX0_init_60 : decode cX0_init 60 = .ok (.aload_n 0, 1) := by decide +kernel
theorem dX0_init_61 : decode cX0_init 61 = .ok (.bipush 10, 2) := by decide +kernel
theorem dX0_init_63 : decode cX0_init 63 = .ok (.newarray .int, 2) := by decide +kernel
theorem dX0_init_65 : decode cX0_init 65 = .ok (.putfield 34, 3) := by decide +kernel
theorem dX0_init_68 : decode cX0_init 68 = .ok (.aload_n 0, 1) := by decide +kernel
theorem dX0_init_69 : decode cX0_init 69 = .ok (.bipush 10, 2) := by decide +kernel
theorem dX0_init_71 : decode cX0_init 71 = .ok (.newarray .boolean, 2) := by decide +kernel
theorem dX0_init_73 : decode cX0_init 73 = .ok (.putfield 37, 3) := by decide +kernel
theorem dX0_init_76 : decode cX0_init 76 = .ok (.aload_n 0, 1) := by decide +kernel
theorem dX0_init_77 : decode cX0_init 77 = .ok (.getfield 22, 3) := by decide +kernel
theorem dX0_init_80 : decode cX0_init 80 = .ok (.iconst (-1), 1) := by decide +kernel
theorem dX0_init_81 : decode cX0_init 81 = .ok (.invokestatic 40, 3) := by decide +kernel
theorem dX0_init_84 : decode cX0_init 84 = .ok (.aload_n 0, 1) := by decide +kernel
theorem dX0_init_85 : decode cX0_init 85 = .ok (.getfield 25, 3) := by decide +kernel
theorem dX0_init_88 : decode cX0_init 88 = .ok (.iconst (-1), 1) := by decide +kernel
theorem dX0_init_89 : decode cX0_init 89 = .ok (.invokestatic 40, 3) := by decide +kernel
theorem dX0_init_92 : decode cX0_init 92 = .ok (.return_, 1) := by decide +kernel
theorem dX0_size_0 : decode cX0_size 0 = .ok (.aload_n 0, 1) := by decide +kernel
theorem dX0_size_1 : decode cX0_size 1 = .ok (.getfield 46, 3) := by decide +kernel
theorem dX0_size_4 : decode cX0_size 4 = .ok (.ireturn, 1) := by decide +kernel
theorem dX0_hasCell_0 : decode cX0_hasCell 0 = .ok (.iload_n 1, 1) := by decide +kernel
theorem dX0_hasCell_1 : decode cX0_hasCell 1 = .ok (.ifCond .lt 21, 3) := by decide +kernel
theorem dX0_hasCell_4 : decode cX0_hasCell 4 = .ok (.iload_n 1, 1) := by decide +kernel
theorem dX0_hasCell_5 : decode cX0_hasCell 5 = .ok (.aload_n 0, 1) := by decide +kernel
theorem dX0_hasCell_6 : decode cX0_hasCell 6 = .ok (.getfield 46, 3) := by decide +kernel
theorem dX0_hasCell_9 : decode cX0_hasCell 9 = .ok (.if_icmp .ge 13, 3) := by decide +kernel
theorem dX0_hasCell_12 : decode cX0_hasCell 12 = .ok (.iload_n 1, 1) := by decide +kernel
theorem dX0_hasCell_13 : decode cX0_hasCell 13 = .ok (.bipush 10, 2) := by decide +kernel
theorem dX0_hasCell_15 : decode cX0_hasCell 15 = .ok (.if_icmp .ge 7, 3) := by decide +kernel
theorem dX0_hasCell_18 : decode cX0_hasCell 18 = .ok (.iconst 1, 1) := by decide +kernel
theorem dX0_hasCell_19 : decode cX0_hasCell 19 = .ok (.goto 4, 3) := by decide +kernel
theorem dX0_hasCell_22 : decode cX0_hasCell 22 = .ok (.iconst 0, 1) := by decide +kernel
theorem dX0_hasCell_23 : decode cX0_hasCell 23 = .ok (.ireturn, 1) := by decide +kernel
theorem dX0_addCell_0 : decode cX0_addCell 0 = .ok (.aload_n 0, 1) := by decide +kernel
theorem dX0_addCell_1 : decode cX0_addCell 1 = .ok (.getfield 46, 3) := by decide +kernel
theorem dX0_addCell_4 : decode cX0_addCell 4 = .ok (.bipush 10, 2) := by decide +kernel
theorem dX0_addCell_6 : decode cX0_addCell 6 = .ok (.if_icmp .lt 5, 3) := by decide +kernel
theorem dX0_addCell_9 : decode cX0_addCell 9 = .ok (.iconst (-1), 1) := by decide +kernel
theorem dX0_addCell_10 : decode cX0_addCell 10 = .ok (.ireturn, 1) := by decide +kernel
theorem dX0_addCell_11 : decode cX0_addCell 11 = .ok (.aload_n 0, 1) := by decide +kernel
theorem dX0_addCell_12 : decode cX0_addCell 12 = .ok (.getfield 46, 3) := by decide +kernel
theorem dX0_addCell_15 : decode cX0_addCell 15 = .ok (.istore 4, 2) := by decide +kernel
theorem dX0_addCell_17 : decode cX0_addCell 17 = .ok (.aload_n 0, 1) := by decide +kernel
theorem dX0_addCell_18 : decode cX0_addCell 18 = .ok (.dup, 1) := by decide +kernel
theorem dX0_addCell_19 : decode cX0_addCell 19 = .ok (.getfield 46, 3) := by decide +kernel
theorem dX0_addCell_22 : decode cX0_addCell 22 = .ok (.iconst 1, 1) := by decide +kernel
theorem dX0_addCell_23 : decode cX0_addCell 23 = .ok (.iadd, 1) := by decide +kernel
theorem dX0_addCell_24 : decode cX0_addCell 24 = .ok (.putfield 46, 3) := by decide +kernel
theorem dX0_addCell_27 : decode cX0_addCell 27 = .ok (.aload_n 0, 1) := by decide +kernel
theorem dX0_addCell_28 : decode cX0_addCell 28 = .ok (.getfield 9, 3) := by decide +kernel
theorem dX0_addCell_31 : decode cX0_addCell 31 = .ok (.iload 4, 2) := by decide +kernel
theorem dX0_addCell_33 : decode cX0_addCell 33 = .ok (.iload_n 1, 1) := by decide +kernel
theorem dX0_addCell_34 : decode cX0_addCell 34 = .ok (.iastore, 1) := by decide +kernel
theorem dX0_addCell_35 : decode cX0_addCell 35 = .ok (.aload_n 0, 1) := by decide +kernel
theorem dX0_addCell_36 : decode cX0_addCell 36 = .ok (.getfield 15, 3) := by decide +kernel
theorem dX0_addCell_39 : decode cX0_addCell 39 = .ok (.iload 4, 2) := by decide +kernel
theorem dX0_addCell_41 : decode cX0_addCell 41 = .ok (.iload_n 2, 1) := by decide +kernel
theorem dX0_addCell_42 : decode cX0_addCell 42 = .ok (.bastore, 1) := by decide +kernel
theorem dX0_addCell_43 : decode cX0_addCell 43 = .ok (.aload_n 0, 1) := by decide +kernel
theorem dX0_addCell_44 : decode cX0_addCell 44 = .ok (.getfield 19, 3) := by decide +kernel
theorem dX0_addCell_47 : decode cX0_addCell 47 = .ok (.iload 4, 2) := by decide +kernel
theorem dX0_addCell_49 : decode cX0_addCell 49 = .ok (.iload_n 3, 1) := by decide +kernel
theorem dX0_addCell_50 : decode cX0_addCell 50 = .ok (.ifCond .eq 7, 3) := by decide +kernel
theorem dX0_addCell_53 : decode cX0_addCell 53 = .ok (.iconst 1, 1) := by decide +kernel
theorem dX0_addCell_54 : decode cX0_addCell 54 = .ok (.goto 4, 3) := by decide +kernel
theorem dX0_addCell_57 : decode cX0_addCell 57 = .ok (.iconst 0, 1) := by decide +kernel
theorem dX0_addCell_58 : decode cX0_addCell 58 = .ok (.iastore, 1) := by decide +kernel
theorem dX0_addCell_59 : decode cX0_addCell 59 = .ok (.aload_n 0, 1) := by decide +kernel
theorem dX0_addCell_60 : decode cX0_addCell 60 = .ok (.getfield 28, 3) := by decide +kernel
theorem dX0_addCell_63 : decode cX0_addCell 63 = .ok (.iload 4, 2) := by decide +kernel
theorem dX0_addCell_65 : decode cX0_addCell 65 = .ok (.iload_n 2, 1) := by decide +kernel
theorem dX0_addCell_66 : decode cX0_addCell 66 = .ok (.ifCond .eq 13, 3) := by decide +kernel
theorem dX0_addCell_69 : decode cX0_addCell 69 = .ok (.aload_n 0, 1) := by decide +kernel
theorem dX0_addCell_70 : decode cX0_addCell 70 = .ok (.getfield 19, 3) := by decide +kernel
theorem dX0_addCell_73 : decode cX0_addCell 73 = .ok (.iload 4, 2) := by decide +kernel
theorem dX0_addCell_75 : decode cX0_addCell 75 = .ok (.iaload, 1) := by decide +kernel
theorem dX0_addCell_76 : decode cX0_addCell 76 = .ok (.goto 4, 3) := by decide +kernel
theorem dX0_addCell_79 : decode cX0_addCell 79 = .ok (.iconst 0, 1) := by decide +kernel
theorem dX0_addCell_80 : decode cX0_addCell 80 = .ok (.iastore, 1) := by decide +kernel
theorem dX0_addCell_81 : decode cX0_addCell 81 = .ok (.iload 4, 2) := by decide +kernel
theorem dX0_addCell_83 : decode cX0_addCell 83 = .ok (.ireturn, 1) := by decide +kernel
set_option maxRecDepth 20000 in
theorem ggX0_setSource_X0_hasCell : GoodIn wsX0_setSource wsX0_hasCell := goodIn_r _ [6, 7, 11, 12, 13, 14, 15, 16, 17, 18, 19, 20, 21] (by decide +kernel) (by decide +kernel)
set_option maxRecDepth 20000 in
theorem gX0_setSource_X0_hasCell : GoodIn wsX0_setSource (wsV RX0 50 RX0 yX0_hasCell wsX0_hasCell) := goodIn_app (goodIn_of _ (by decide +kernel)) ggX0_setSource_X0_hasCell
set_option maxRecDepth 20000 in
theorem ggX0_setSource_X0_isInput : GoodIn wsX0_setSource wsX0_isInput := goodIn_r _ [10] (by decide +kernel) (by decide +kernel)
set_option maxRecDepth 20000 in
theorem gX0_setSource_X0_isInput : GoodIn wsX0_setSource (va_wsS RX0 54 yX0_isInput wsX0_isInput) := goodIn_app (goodIn_of _ (by decide +kernel)) ggX0_setSource_X0_isInput
theorem dX0_setSource_0 : decode cX0_setSource 0 = .ok (.iload_n 2, 1) := by decide +kernel
theorem dX0_setSource_1 : decode cX0_setSource 1 = .ok (.iconst (-1), 1) := by decide +kernel
theorem dX0_setSource_2 : decode cX0_setSource 2 = .ok (.if_icmp .eq 18, 3) := by decide +kernel
theorem dX0_setSource_5 : decode cX0_setSource 5 = .ok (.aload_n 0, 1) := by decide +kernel
theorem dX0_setSource_6 : decode cX0_setSource 6 = .ok (.iload_n 2, 1) := by decide +kernel
theorem dX0_setSource_7 : decode cX0_setSource 7 = .ok (.invokevirtual 50, 3) := by decide +kernel
theorem dX0_setSource_10 : decode cX0_setSource 10 = .ok (.ifCond .ne 10, 3) := by decide +kernel
theorem dX0_setSource_13 : decode cX0_setSource 13 = .ok (.iload_n 2, 1) := by decide +kernel
theorem dX0_setSource_14 : decode cX0_setSource 14 = .ok (.invokestatic 54, 3) := by decide +kernel
theorem dX0_setSource_17 : decode cX0_setSource 17 = .ok (.ifCond .eq 7, 3) := by decide +kernel
theorem dX0_setSource_20 : decode cX0_setSource 20 = .ok (.iconst 1, 1) := by decide +kernel
theorem dX0_setSource_21 : decode cX0_setSource 21 = .ok (.goto 4, 3) := by decide +kernel
theorem dX0_setSource_24 : decode cX0_setSource 24 = .ok (.iconst 0, 1) := by decide +kernel
theorem dX0_setSource_25 : decode cX0_setSource 25 = .ok (.istore_n 3, 1) := by decide +kernel
theorem dX0_setSource_26 : decode cX0_setSource 26 = .ok (.iload_n 3, 1) := by decide +kernel
theorem dX0_setSource_27 : decode cX0_setSource 27 = .ok (.ifCond .eq 13, 3) := by decide +kernel
theorem dX0_setSource_30 : decode cX0_setSource 30 = .ok (.iload_n 1, 1) := by decide +kernel
theorem dX0_setSource_31 : decode cX0_setSource 31 = .ok (.ifCond .lt 9, 3) := by decide +kernel
theorem dX0_setSource_34 : decode cX0_setSource 34 = .ok (.iload_n 1, 1) := by decide +kernel
theorem dX0_setSource_35 : decode cX0_setSource 35 = .ok (.bipush 34, 2) := by decide +kernel
theorem dX0_setSource_37 : decode cX0_setSource 37 = .ok (.if_icmp .lt 5, 3) := by decide +kernel
theorem dX0_setSource_40 : decode cX0_setSource 40 = .ok (.iconst 0, 1) := by decide +kernel
theorem dX0_setSource_41 : decode cX0_setSource 41 = .ok (.ireturn, 1) := by decide +kernel
theorem dX0_setSource_42 : decode cX0_setSource 42 = .ok (.aload_n 0, 1) := by decide +kernel
theorem dX0_setSource_43 : decode cX0_setSource 43 = .ok (.getfield 25, 3) := by decide +kernel
theorem dX0_setSource_46 : decode cX0_setSource 46 = .ok (.iload_n 1, 1) := by decide +kernel
theorem dX0_setSource_47 : decode cX0_setSource 47 = .ok (.iload_n 2, 1) := by decide +kernel
theorem dX0_setSource_48 : decode cX0_setSource 48 = .ok (.iastore, 1) := by decide +kernel
theorem dX0_setSource_49 : decode cX0_setSource 49 = .ok (.iconst 1, 1) := by decide +kernel
theorem dX0_setSource_50 : decode cX0_setSource 50 = .ok (.ireturn, 1) := by decide +kernel
theorem dX0_sourceOf_0 : decode cX0_sourceOf 0 = .ok (.iload_n 1, 1) := by decide +kernel
theorem dX0_sourceOf_1 : decode cX0_sourceOf 1 = .ok (.ifCond .lt 9, 3) := by decide +kernel
theorem dX0_sourceOf_4 : decode cX0_sourceOf 4 = .ok (.iload_n 1, 1) := by decide +kernel
theorem dX0_sourceOf_5 : decode cX0_sourceOf 5 = .ok (.bipush 34, 2) := by decide +kernel
theorem dX0_sourceOf_7 : decode cX0_sourceOf 7 = .ok (.if_icmp .lt 7, 3) := by decide +kernel
theorem dX0_sourceOf_10 : decode cX0_sourceOf 10 = .ok (.iconst (-1), 1) := by decide +kernel
theorem dX0_sourceOf_11 : decode cX0_sourceOf 11 = .ok (.goto 9, 3) := by decide +kernel
theorem dX0_sourceOf_14 : decode cX0_sourceOf 14 = .ok (.aload_n 0, 1) := by decide +kernel
theorem dX0_sourceOf_15 : decode cX0_sourceOf 15 = .ok (.getfield 25, 3) := by decide +kernel
theorem dX0_sourceOf_18 : decode cX0_sourceOf 18 = .ok (.iload_n 1, 1) := by decide +kernel
theorem dX0_sourceOf_19 : decode cX0_sourceOf 19 = .ok (.iaload, 1) := by decide +kernel
theorem dX0_sourceOf_20 : decode cX0_sourceOf 20 = .ok (.ireturn, 1) := by decide +kernel
set_option maxRecDepth 20000 in
theorem ggX0_setFixed_X0_hasCell : GoodIn wsX0_setFixed wsX0_hasCell := goodIn_r _ [7, 1, 8, 9, 10, 11, 12, 13, 14, 15, 16, 17, 18] (by decide +kernel) (by decide +kernel)
set_option maxRecDepth 20000 in
theorem gX0_setFixed_X0_hasCell : GoodIn wsX0_setFixed (wsV RX0 50 RX0 yX0_hasCell wsX0_hasCell) := goodIn_app (goodIn_of _ (by decide +kernel)) ggX0_setFixed_X0_hasCell
theorem dX0_setFixed_0 : decode cX0_setFixed 0 = .ok (.aload_n 0, 1) := by decide +kernel
theorem dX0_setFixed_1 : decode cX0_setFixed 1 = .ok (.iload_n 1, 1) := by decide +kernel
theorem dX0_setFixed_2 : decode cX0_setFixed 2 = .ok (.invokevirtual 50, 3) := by decide +kernel
theorem dX0_setFixed_5 : decode cX0_setFixed 5 = .ok (.ifCond .eq 14, 3) := by decide +kernel
theorem dX0_setFixed_8 : decode cX0_setFixed 8 = .ok (.iload_n 2, 1) := by decide +kernel
theorem dX0_setFixed_9 : decode cX0_setFixed 9 = .ok (.iconst (-1), 1) := by decide +kernel
theorem dX0_setFixed_10 : decode cX0_setFixed 10 = .ok (.if_icmp .lt 9, 3) := by decide +kernel
theorem dX0_setFixed_13 : decode cX0_setFixed 13 = .ok (.iload_n 2, 1) := by decide +kernel
theorem dX0_setFixed_14 : decode cX0_setFixed 14 = .ok (.bipush 16, 2) := by decide +kernel
theorem dX0_setFixed_16 : decode cX0_setFixed 16 = .ok (.if_icmp .lt 5, 3) := by decide +kernel
theorem dX0_setFixed_19 : decode cX0_setFixed 19 = .ok (.iconst 0, 1) := by decide +kernel
theorem dX0_setFixed_20 : decode cX0_setFixed 20 = .ok (.ireturn, 1) := by decide +kernel
theorem dX0_setFixed_21 : decode cX0_setFixed 21 = .ok (.iconst 0, 1) := by decide +kernel
theorem dX0_setFixed_22 : decode cX0_setFixed 22 = .ok (.istore_n 3, 1) := by decide +kernel
theorem dX0_setFixed_23 : decode cX0_setFixed 23 = .ok (.iload_n 3, 1) := by decide +kernel
theorem dX0_setFixed_24 : decode cX0_setFixed 24 = .ok (.aload_n 0, 1) := by decide +kernel
theorem dX0_setFixed_25 : decode cX0_setFixed 25 = .ok (.getfield 46, 3) := by decide +kernel
theorem dX0_setFixed_28 : decode cX0_setFixed 28 = .ok (.if_icmp .ge 31, 3) := by decide +kernel
theorem dX0_setFixed_31 : decode cX0_setFixed 31 = .ok (.iload_n 2, 1) := by decide +kernel
theorem dX0_setFixed_32 : decode cX0_setFixed 32 = .ok (.iconst (-1), 1) := by decide +kernel
theorem dX0_setFixed_33 : decode cX0_setFixed 33 = .ok (.if_icmp .eq 20, 3) := by decide +kernel
theorem dX0_setFixed_36 : decode cX0_setFixed 36 = .ok (.iload_n 3, 1) := by decide +kernel
theorem dX0_setFixed_37 : decode cX0_setFixed 37 = .ok (.iload_n 1, 1) := by decide +kernel
theorem dX0_setFixed_38 : decode cX0_setFixed 38 = .ok (.if_icmp .eq 15, 3) := by decide +kernel
theorem dX0_setFixed_41 : decode cX0_setFixed 41 = .ok (.aload_n 0, 1) := by decide +kernel
theorem dX0_setFixed_42 : decode cX0_setFixed 42 = .ok (.getfield 22, 3) := by decide +kernel
theorem dX0_setFixed_45 : decode cX0_setFixed 45 = .ok (.iload_n 3, 1) := by decide +kernel
theorem dX0_setFixed_46 : decode cX0_setFixed 46 = .ok (.iaload, 1) := by decide +kernel
theorem dX0_setFixed_47 : decode cX0_setFixed 47 = .ok (.iload_n 2, 1) := by decide +kernel
theorem dX0_setFixed_48 : decode cX0_setFixed 48 = .ok (.if_icmp .ne 5, 3) := by decide +kernel
theorem dX0_setFixed_51 : decode cX0_setFixed 51 = .ok (.iconst 0, 1) := by decide +kernel
theorem dX0_setFixed_52 : decode cX0_setFixed 52 = .ok (.ireturn, 1) := by decide +kernel
theorem dX0_setFixed_53 : decode cX0_setFixed 53 = .ok (.iinc 3 1, 3) := by decide +kernel
theorem dX0_setFixed_56 : decode cX0_setFixed 56 = .ok (.goto (-33), 3) := by decide +kernel
theorem dX0_setFixed_59 : decode cX0_setFixed 59 = .ok (.aload_n 0, 1) := by decide +kernel
theorem dX0_setFixed_60 : decode cX0_setFixed 60 = .ok (.getfield 22, 3) := by decide +kernel
theorem dX0_setFixed_63 : decode cX0_setFixed 63 = .ok (.iload_n 1, 1) := by decide +kernel
theorem dX0_setFixed_64 : decode cX0_setFixed 64 = .ok (.iload_n 2, 1) := by decide +kernel
theorem dX0_setFixed_65 : decode cX0_setFixed 65 = .ok (.iastore, 1) := by decide +kernel
theorem dX0_setFixed_66 : decode cX0_setFixed 66 = .ok (.iconst 1, 1) := by decide +kernel
theorem dX0_setFixed_67 : decode cX0_setFixed 67 = .ok (.ireturn, 1) := by decide +kernel
set_option maxRecDepth 20000 in
theorem ggX0_fixedTile_X0_hasCell : GoodIn wsX0_fixedTile wsX0_hasCell := goodIn_r _ [6, 7, 8, 9, 10, 11, 12, 13, 14, 15, 16, 17, 18] (by decide +kernel) (by decide +kernel)
set_option maxRecDepth 20000 in
theorem gX0_fixedTile_X0_hasCell : GoodIn wsX0_fixedTile (wsV RX0 50 RX0 yX0_hasCell wsX0_hasCell) := goodIn_app (goodIn_of _ (by decide +kernel)) ggX0_fixedTile_X0_hasCell
theorem dX0_fixedTile_0 : decode cX0_fixedTile 0 = .ok (.aload_n 0, 1) := by decide +kernel
theorem dX0_fixedTile_1 : decode cX0_fixedTile 1 = .ok (.iload_n 1, 1) := by decide +kernel
theorem dX0_fixedTile_2 : decode cX0_fixedTile 2 = .ok (.invokevirtual 50, 3) := by decide +kernel
theorem dX0_fixedTile_5 : decode cX0_fixedTile 5 = .ok (.ifCond .eq 12, 3) := by decide +kernel
theorem dX0_fixedTile_8 : decode cX0_fixedTile 8 = .ok (.aload_n 0, 1) := by decide +kernel
theorem dX0_fixedTile_9 : decode cX0_fixedTile 9 = .ok (.getfield 22, 3) := by decide +kernel
theorem dX0_fixedTile_12 : decode cX0_fixedTile 12 = .ok (.iload_n 1, 1) := by decide +kernel
theorem dX0_fixedTile_13 : decode cX0_fixedTile 13 = .ok (.iaload, 1) := by decide +kernel
theorem dX0_fixedTile_14 : decode cX0_fixedTile 14 = .ok (.goto 4, 3) := by decide +kernel
theorem dX0_fixedTile_17 : decode cX0_fixedTile 17 = .ok (.iconst (-1), 1) := by decide +kernel
theorem dX0_fixedTile_18 : decode cX0_fixedTile 18 = .ok (.ireturn, 1) := by decide +kernel
set_option maxRecDepth 20000 in
theorem ggX0_settingsOf_X0_hasCell : GoodIn wsX0_settingsOf wsX0_hasCell := goodIn_r _ [8, 9, 10, 11, 12, 13, 14, 15, 16, 17, 18, 19, 20] (by decide +kernel) (by decide +kernel)
set_option maxRecDepth 20000 in
theorem gX0_settingsOf_X0_hasCell : GoodIn wsX0_settingsOf (wsV RX0 50 RX0 yX0_hasCell wsX0_hasCell) := goodIn_app (goodIn_of _ (by decide +kernel)) ggX0_settingsOf_X0_hasCell
theorem dX0_settingsOf_0 : decode cX0_settingsOf 0 = .ok (.aload_n 0, 1) := by decide +kernel
theorem dX0_settingsOf_1 : decode cX0_settingsOf 1 = .ok (.iload_n 1, 1) := by decide +kernel
theorem dX0_settingsOf_2 : decode cX0_settingsOf 2 = .ok (.invokevirtual 50, 3) := by decide +kernel
theorem dX0_settingsOf_5 : decode cX0_settingsOf 5 = .ok (.ifCond .ne 5, 3) := by decide +kernel
theorem dX0_settingsOf_8 : decode cX0_settingsOf 8 = .ok (.lconst 0, 1) := by decide +kernel
theorem dX0_settingsOf_9 : decode cX0_settingsOf 9 = .ok (.lreturn, 1) := by decide +kernel
theorem dX0_settingsOf_10 : decode cX0_settingsOf 10 = .ok (.aload_n 0, 1) := by decide +kernel
theorem dX0_settingsOf_11 : decode cX0_settingsOf 11 = .ok (.getfield 15, 3) := by decide +kernel
theorem dX0_settingsOf_14 : decode cX0_settingsOf 14 = .ok (.iload_n 1, 1) := by decide +kernel
theorem dX0_settingsOf_15 : decode cX0_settingsOf 15 = .ok (.baload, 1) := by decide +kernel
theorem dX0_settingsOf_16 : decode cX0_settingsOf 16 = .ok (.ifCond .eq 7, 3) := by decide +kernel
theorem dX0_settingsOf_19 : decode cX0_settingsOf 19 = .ok (.iconst 1, 1) := by decide +kernel
theorem dX0_settingsOf_20 : decode cX0_settingsOf 20 = .ok (.goto 4, 3) := by decide +kernel
theorem dX0_settingsOf_23 : decode cX0_settingsOf 23 = .ok (.iconst 0, 1) := by decide +kernel
theorem dX0_settingsOf_24 : decode cX0_settingsOf 24 = .ok (.istore_n 2, 1) := by decide +kernel
theorem dX0_settingsOf_25 : decode cX0_settingsOf 25 = .ok (.aload_n 0, 1) := by decide +kernel
theorem dX0_settingsOf_26 : decode cX0_settingsOf 26 = .ok (.getfield 9, 3) := by decide +kernel
theorem dX0_settingsOf_29 : decode cX0_settingsOf 29 = .ok (.iload_n 1, 1) := by decide +kernel
theorem dX0_settingsOf_30 : decode cX0_settingsOf 30 = .ok (.iaload, 1) := by decide +kernel
theorem dX0_settingsOf_31 : decode cX0_settingsOf 31 = .ok (.iload_n 2, 1) := by decide +kernel
theorem dX0_settingsOf_32 : decode cX0_settingsOf 32 = .ok (.bipush 8, 2) := by decide +kernel
theorem dX0_settingsOf_34 : decode cX0_settingsOf 34 = .ok (.ishl, 1) := by decide +kernel
theorem dX0_settingsOf_35 : decode cX0_settingsOf 35 = .ok (.ior, 1) := by decide +kernel
theorem dX0_settingsOf_36 : decode cX0_settingsOf 36 = .ok (.aload_n 0, 1) := by decide +kernel
theorem dX0_settingsOf_37 : decode cX0_settingsOf 37 = .ok (.getfield 19, 3) := by decide +kernel
theorem dX0_settingsOf_40 : decode cX0_settingsOf 40 = .ok (.iload_n 1, 1) := by decide +kernel
theorem dX0_settingsOf_41 : decode cX0_settingsOf 41 = .ok (.iaload, 1) := by decide +kernel
theorem dX0_settingsOf_42 : decode cX0_settingsOf 42 = .ok (.bipush 9, 2) := by decide +kernel
theorem dX0_settingsOf_44 : decode cX0_settingsOf 44 = .ok (.ishl, 1) := by decide +kernel
theorem dX0_settingsOf_45 : decode cX0_settingsOf 45 = .ok (.ior, 1) := by decide +kernel
theorem dX0_settingsOf_46 : decode cX0_settingsOf 46 = .ok (.i2l, 1) := by decide +kernel
theorem dX0_settingsOf_47 : decode cX0_settingsOf 47 = .ok (.lreturn, 1) := by decide +kernel
set_option maxRecDepth 20000 in
theorem ggX0_hasRing_X0_orderIfReady : GoodIn wsX0_hasRing wsX0_orderIfReady := goodIn_r _ [9, 3, 1, 10, 11, 12, 13, 14, 8, 15, 2, 16, 17, 18, 19, 20, 21, 22, 23, 24, 25, 26] (by decide +kernel) (by decide +kernel)
set_option maxRecDepth 20000 in
theorem gX0_hasRing_X0_orderIfReady : GoodIn wsX0_hasRing (wsV RX0 60 RX0 yX0_orderIfReady wsX0_orderIfReady) := goodIn_app (goodIn_of _ (by decide +kernel)) ggX0_hasRing_X0_orderIfReady
theorem dX0_hasRing_0 : decode cX0_hasRing 0 = .ok (.aload_n 0, 1) := by decide +kernel
theorem dX0_hasRing_1 : decode cX0_hasRing 1 = .ok (.iconst 0, 1) := by decide +kernel
theorem dX0_hasRing_2 : decode cX0_hasRing 2 = .ok (.putfield 57, 3) := by decide +kernel
theorem dX0_hasRing_5 : decode cX0_hasRing 5 = .ok (.iconst 0, 1) := by decide +kernel
theorem dX0_hasRing_6 : decode cX0_hasRing 6 = .ok (.istore_n 1, 1) := by decide +kernel
theorem dX0_hasRing_7 : decode cX0_hasRing 7 = .ok (.iconst 0, 1) := by decide +kernel
theorem dX0_hasRing_8 : decode cX0_hasRing 8 = .ok (.istore_n 2, 1) := by decide +kernel
theorem dX0_hasRing_9 : decode cX0_hasRing 9 = .ok (.iload_n 2, 1) := by decide +kernel
theorem dX0_hasRing_10 : decode cX0_hasRing 10 = .ok (.aload_n 0, 1) := by decide +kernel
theorem dX0_hasRing_11 : decode cX0_hasRing 11 = .ok (.getfield 46, 3) := by decide +kernel
theorem dX0_hasRing_14 : decode cX0_hasRing 14 = .ok (.if_icmp .ge 38, 3) := by decide +kernel
theorem dX0_hasRing_17 : decode cX0_hasRing 17 = .ok (.aload_n 0, 1) := by decide +kernel
theorem dX0_hasRing_18 : decode cX0_hasRing 18 = .ok (.getfield 37, 3) := by decide +kernel
theorem dX0_hasRing_21 : decode cX0_hasRing 21 = .ok (.iload_n 2, 1) := by decide +kernel
theorem dX0_hasRing_22 : decode cX0_hasRing 22 = .ok (.aload_n 0, 1) := by decide +kernel
theorem dX0_hasRing_23 : decode cX0_hasRing 23 = .ok (.getfield 15, 3) := by decide +kernel
theorem dX0_hasRing_26 : decode cX0_hasRing 26 = .ok (.iload_n 2, 1) := by decide +kernel
theorem dX0_hasRing_27 : decode cX0_hasRing 27 = .ok (.baload, 1) := by decide +kernel
theorem dX0_hasRing_28 : decode cX0_hasRing 28 = .ok (.bastore, 1) := by decide +kernel
theorem dX0_hasRing_29 : decode cX0_hasRing 29 = .ok (.iload_n 1, 1) := by decide +kernel
theorem dX0_hasRing_30 : decode cX0_hasRing 30 = .ok (.aload_n 0, 1) := by decide +kernel
theorem dX0_hasRing_31 : decode cX0_hasRing 31 = .ok (.getfield 15, 3) := by decide +kernel
theorem dX0_hasRing_34 : decode cX0_hasRing 34 = .ok (.iload_n 2, 1) := by decide +kernel
theorem dX0_hasRing_35 : decode cX0_hasRing 35 = .ok (.baload, 1) := by decide +kernel
theorem dX0_hasRing_36 : decode cX0_hasRing 36 = .ok (.ifCond .eq 7, 3) := by decide +kernel
theorem dX0_hasRing_39 : decode cX0_hasRing 39 = .ok (.iconst 0, 1) := by decide +kernel
theorem dX0_hasRing_40 : decode cX0_hasRing 40 = .ok (.goto 4, 3) := by decide +kernel
theorem dX0_hasRing_43 : decode cX0_hasRing 43 = .ok (.iconst 1, 1) := by decide +kernel
theorem dX0_hasRing_44 : decode cX0_hasRing 44 = .ok (.iadd, 1) := by decide +kernel
theorem dX0_hasRing_45 : decode cX0_hasRing 45 = .ok (.istore_n 1, 1) := by decide +kernel
theorem dX0_hasRing_46 : decode cX0_hasRing 46 = .ok (.iinc 2 1, 3) := by decide +kernel
theorem dX0_hasRing_49 : decode cX0_hasRing 49 = .ok (.goto (-40), 3) := by decide +kernel
theorem dX0_hasRing_52 : decode cX0_hasRing 52 = .ok (.iconst 0, 1) := by decide +kernel
theorem dX0_hasRing_53 : decode cX0_hasRing 53 = .ok (.istore_n 2, 1) := by decide +kernel
theorem dX0_hasRing_54 : decode cX0_hasRing 54 = .ok (.iload_n 2, 1) := by decide +kernel
theorem dX0_hasRing_55 : decode cX0_hasRing 55 = .ok (.bipush 10, 2) := by decide +kernel
theorem dX0_hasRing_57 : decode cX0_hasRing 57 = .ok (.if_icmp .ge 38, 3) := by decide +kernel
theorem dX0_hasRing_60 : decode cX0_hasRing 60 = .ok (.aload_n 0, 1) := by decide +kernel
theorem dX0_hasRing_61 : decode cX0_hasRing 61 = .ok (.getfield 57, 3) := by decide +kernel
theorem dX0_hasRing_64 : decode cX0_hasRing 64 = .ok (.iload_n 1, 1) := by decide +kernel
theorem dX0_hasRing_65 : decode cX0_hasRing 65 = .ok (.if_icmp .ge 30, 3) := by decide +kernel
theorem dX0_hasRing_68 : decode cX0_hasRing 68 = .ok (.iconst 0, 1) := by decide +kernel
theorem dX0_hasRing_69 : decode cX0_hasRing 69 = .ok (.istore_n 3, 1) := by decide +kernel
theorem dX0_hasRing_70 : decode cX0_hasRing 70 = .ok (.iload_n 3, 1) := by decide +kernel
theorem dX0_hasRing_71 : decode cX0_hasRing 71 = .ok (.aload_n 0, 1) := by decide +kernel
theorem dX0_hasRing_72 : decode cX0_hasRing 72 = .ok (.getfield 46, 3) := by decide +kernel
theorem dX0_hasRing_75 : decode cX0_hasRing 75 = .ok (.if_icmp .ge 14, 3) := by decide +kernel
theorem dX0_hasRing_78 : decode cX0_hasRing 78 = .ok (.aload_n 0, 1) := by decide +kernel
theorem dX0_hasRing_79 : decode cX0_hasRing 79 = .ok (.iload_n 3, 1) := by decide +kernel
theorem dX0_hasRing_80 : decode cX0_hasRing 80 = .ok (.invokevirtual 60, 3) := by decide +kernel
theorem dX0_hasRing_83 : decode cX0_hasRing 83 = .ok (.iinc 3 1, 3) := by decide +kernel
theorem dX0_hasRing_86 : decode cX0_hasRing 86 = .ok (.goto (-16), 3) := by decide +kernel
theorem dX0_hasRing_89 : decode cX0_hasRing 89 = .ok (.iinc 2 1, 3) := by decide +kernel
theorem dX0_hasRing_92 : decode cX0_hasRing 92 = .ok (.goto (-38), 3) := by decide +kernel
theorem dX0_hasRing_95 : decode cX0_hasRing 95 = .ok (.aload_n 0, 1) := by decide +kernel
theorem dX0_hasRing_96 : decode cX0_hasRing 96 = .ok (.getfield 57, 3) := by decide +kernel
theorem dX0_hasRing_99 : decode cX0_hasRing 99 = .ok (.iload_n 1, 1) := by decide +kernel
theorem dX0_hasRing_100 : decode cX0_hasRing 100 = .ok (.if_icmp .ge 7, 3) := by decide +kernel
theorem dX0_hasRing_103 : decode cX0_hasRing 103 = .ok (.iconst 1, 1) := by decide +kernel
theorem dX0_hasRing_104 : decode cX0_hasRing 104 = .ok (.goto 4, 3) := by decide +kernel
theorem dX0_hasRing_107 : decode cX0_hasRing 107 = .ok (.iconst 0, 1) := by decide +kernel
theorem dX0_hasRing_108 : decode cX0_hasRing 108 = .ok (.ireturn, 1) := by decide +kernel
set_option maxRecDepth 20000 in
theorem ggX0_step_X0_tableGives : GoodIn wsX0_step wsX0_tableGives := goodIn_r _ [8, 9, 10, 11, 12, 7, 13, 14, 1, 26, 27, 28, 29, 30, 31, 32, 33, 34, 35, 36] (by decide +kernel) (by decide +kernel)
set_option maxRecDepth 20000 in
theorem gX0_step_X0_tableGives : GoodIn wsX0_step (wsV RX0 64 RX0 yX0_tableGives wsX0_tableGives) := goodIn_app (goodIn_of _ (by decide +kernel)) ggX0_step_X0_tableGives
set_option maxRecDepth 20000 in
theorem ggX0_step_X0_valueAt : GoodIn wsX0_step wsX0_valueAt := goodIn_r _ [13, 14, 1, 26, 27, 28, 29, 30, 31, 32, 33, 34, 35, 36] (by decide +kernel) (by decide +kernel)
set_option maxRecDepth 20000 in
theorem gX0_step_X0_valueAt : GoodIn wsX0_step (wsV RX0 68 RX0 yX0_valueAt wsX0_valueAt) := goodIn_app (goodIn_of _ (by decide +kernel)) ggX0_step_X0_valueAt
set_option maxRecDepth 20000 in
theorem ggX0_step_X0_stepRegisters : GoodIn wsX0_step wsX0_stepRegisters := goodIn_r _ [18, 19, 20, 21, 1, 22, 23, 24, 25, 4, 5, 6, 7, 8, 9, 10, 11, 12, 13, 14, 26, 27, 28, 29, 30, 31, 32, 33, 34, 35, 36] (by decide +kernel) (by decide +kernel)
set_option maxRecDepth 20000 in
theorem gX0_step_X0_stepRegisters : GoodIn wsX0_step (wsV RX0 71 RX0 yX0_stepRegisters wsX0_stepRegisters) := goodIn_app (goodIn_of _ (by decide +kernel)) ggX0_step_X0_stepRegisters
theorem dX0_step_0 : decode cX0_step 0 = .ok (.iconst 0, 1) := by decide +kernel
theorem dX0_step_1 : decode cX0_step 1 = .ok (.istore_n 2, 1) := by decide +kernel
theorem dX0_step_2 : decode cX0_step 2 = .ok (.iload_n 2, 1) := by decide +kernel
theorem dX0_step_3 : decode cX0_step 3 = .ok (.iconst 4, 1) := by decide +kernel
theorem dX0_step_4 : decode cX0_step 4 = .ok (.if_icmp .ge 23, 3) := by decide +kernel
theorem dX0_step_7 : decode cX0_step 7 = .ok (.aload_n 0, 1) := by decide +kernel
theorem dX0_step_8 : decode cX0_step 8 = .ok (.getfield 28, 3) := by decide +kernel
theorem dX0_step_11 : decode cX0_step 11 = .ok (.bipush 10, 2) := by decide +kernel
theorem dX0_step_13 : decode cX0_step 13 = .ok (.iload_n 2, 1) := by decide +kernel
theorem dX0_step_14 : decode cX0_step 14 = .ok (.iadd, 1) := by decide +kernel
theorem dX0_step_15 : decode cX0_step 15 = .ok (.iload_n 1, 1) := by decide +kernel
theorem dX0_step_16 : decode cX0_step 16 = .ok (.iload_n 2, 1) := by decide +kernel
theorem dX0_step_17 : decode cX0_step 17 = .ok (.ishr, 1) := by decide +kernel
theorem dX0_step_18 : decode cX0_step 18 = .ok (.iconst 1, 1) := by decide +kernel
theorem dX0_step_19 : decode cX0_step 19 = .ok (.iand, 1) := by decide +kernel
theorem dX0_step_20 : decode cX0_step 20 = .ok (.iastore, 1) := by decide +kernel
theorem dX0_step_21 : decode cX0_step 21 = .ok (.iinc 2 1, 3) := by decide +kernel
theorem dX0_step_24 : decode cX0_step 24 = .ok (.goto (-22), 3) := by decide +kernel
theorem dX0_step_27 : decode cX0_step 27 = .ok (.iconst 0, 1) := by decide +kernel
theorem dX0_step_28 : decode cX0_step 28 = .ok (.istore_n 2, 1) := by decide +kernel
theorem dX0_step_29 : decode cX0_step 29 = .ok (.iload_n 2, 1) := by decide +kernel
theorem dX0_step_30 : decode cX0_step 30 = .ok (.aload_n 0, 1) := by decide +kernel
theorem dX0_step_31 : decode cX0_step 31 = .ok (.getfield 57, 3) := by decide +kernel
theorem dX0_step_34 : decode cX0_step 34 = .ok (.if_icmp .ge 27, 3) := by decide +kernel
theorem dX0_step_37 : decode cX0_step 37 = .ok (.aload_n 0, 1) := by decide +kernel
theorem dX0_step_38 : decode cX0_step 38 = .ok (.getfield 34, 3) := by decide +kernel
theorem dX0_step_41 : decode cX0_step 41 = .ok (.iload_n 2, 1) := by decide +kernel
theorem dX0_step_42 : decode cX0_step 42 = .ok (.iaload, 1) := by decide +kernel
theorem dX0_step_43 : decode cX0_step 43 = .ok (.istore_n 3, 1) := by decide +kernel
theorem dX0_step_44 : decode cX0_step 44 = .ok (.aload_n 0, 1) := by decide +kernel
theorem dX0_step_45 : decode cX0_step 45 = .ok (.getfield 28, 3) := by decide +kernel
theorem dX0_step_48 : decode cX0_step 48 = .ok (.iload_n 3, 1) := by decide +kernel
theorem dX0_step_49 : decode cX0_step 49 = .ok (.aload_n 0, 1) := by decide +kernel
theorem dX0_step_50 : decode cX0_step 50 = .ok (.iload_n 3, 1) := by decide +kernel
theorem dX0_step_51 : decode cX0_step 51 = .ok (.invokevirtual 64, 3) := by decide +kernel
theorem dX0_step_54 : decode cX0_step 54 = .ok (.iastore, 1) := by decide +kernel
theorem dX0_step_55 : decode cX0_step 55 = .ok (.iinc 2 1, 3) := by decide +kernel
theorem dX0_step_58 : decode cX0_step 58 = .ok (.goto (-29), 3) := by decide +kernel
theorem dX0_step_61 : decode cX0_step 61 = .ok (.iconst 0, 1) := by decide +kernel
theorem dX0_step_62 : decode cX0_step 62 = .ok (.istore_n 2, 1) := by decide +kernel
theorem dX0_step_63 : decode cX0_step 63 = .ok (.iconst 0, 1) := by decide +kernel
theorem dX0_step_64 : decode cX0_step 64 = .ok (.istore_n 3, 1) := by decide +kernel
theorem dX0_step_65 : decode cX0_step 65 = .ok (.iload_n 3, 1) := by decide +kernel
theorem dX0_step_66 : decode cX0_step 66 = .ok (.iconst 4, 1) := by decide +kernel
theorem dX0_step_67 : decode cX0_step 67 = .ok (.if_icmp .ge 22, 3) := by decide +kernel
theorem dX0_step_70 : decode cX0_step 70 = .ok (.iload_n 2, 1) := by decide +kernel
theorem dX0_step_71 : decode cX0_step 71 = .ok (.aload_n 0, 1) := by decide +kernel
theorem dX0_step_72 : decode cX0_step 72 = .ok (.bipush 30, 2) := by decide +kernel
theorem dX0_step_74 : decode cX0_step 74 = .ok (.iload_n 3, 1) := by decide +kernel
theorem dX0_step_75 : decode cX0_step 75 = .ok (.iadd, 1) := by decide +kernel
theorem dX0_step_76 : decode cX0_step 76 = .ok (.invokevirtual 68, 3) := by decide +kernel
theorem dX0_step_79 : decode cX0_step 79 = .ok (.iload_n 3, 1) := by decide +kernel
theorem dX0_step_80 : decode cX0_step 80 = .ok (.ishl, 1) := by decide +kernel
theorem dX0_step_81 : decode cX0_step 81 = .ok (.ior, 1) := by decide +kernel
theorem dX0_step_82 : decode cX0_step 82 = .ok (.istore_n 2, 1) := by decide +kernel
theorem dX0_step_83 : decode cX0_step 83 = .ok (.iinc 3 1, 3) := by decide +kernel
theorem dX0_step_86 : decode cX0_step 86 = .ok (.goto (-21), 3) := by decide +kernel
theorem dX0_step_89 : decode cX0_step 89 = .ok (.aload_n 0, 1) := by decide +kernel
theorem dX0_step_90 : decode cX0_step 90 = .ok (.invokevirtual 71, 3) := by decide +kernel
theorem dX0_step_93 : decode cX0_step 93 = .ok (.iload_n 2, 1) := by decide +kernel
theorem dX0_step_94 : decode cX0_step 94 = .ok (.ireturn, 1) := by decide +kernel
theorem dX0_restart_0 : decode cX0_restart 0 = .ok (.iconst 0, 1) := by decide +kernel
theorem dX0_restart_1 : decode cX0_restart 1 = .ok (.istore_n 1, 1) := by decide +kernel
theorem dX0_restart_2 : decode cX0_restart 2 = .ok (.iload_n 1, 1) := by decide +kernel
theorem dX0_restart_3 : decode cX0_restart 3 = .ok (.aload_n 0, 1) := by decide +kernel
theorem dX0_restart_4 : decode cX0_restart 4 = .ok (.getfield 46, 3) := by decide +kernel
theorem dX0_restart_7 : decode cX0_restart 7 = .ok (.if_icmp .ge 30, 3) := by decide +kernel
theorem dX0_restart_10 : decode cX0_restart 10 = .ok (.aload_n 0, 1) := by decide +kernel
theorem dX0_restart_11 : decode cX0_restart 11 = .ok (.getfield 15, 3) := by decide +kernel
theorem dX0_restart_14 : decode cX0_restart 14 = .ok (.iload_n 1, 1) := by decide +kernel
theorem dX0_restart_15 : decode cX0_restart 15 = .ok (.baload, 1) := by decide +kernel
theorem dX0_restart_16 : decode cX0_restart 16 = .ok (.ifCond .eq 15, 3) := by decide +kernel
theorem dX0_restart_19 : decode cX0_restart 19 = .ok (.aload_n 0, 1) := by decide +kernel
theorem dX0_restart_20 : decode cX0_restart 20 = .ok (.getfield 28, 3) := by decide +kernel
theorem dX0_restart_23 : decode cX0_restart 23 = .ok (.iload_n 1, 1) := by decide +kernel
theorem dX0_restart_24 : decode cX0_restart 24 = .ok (.aload_n 0, 1) := by decide +kernel
theorem dX0_restart_25 : decode cX0_restart 25 = .ok (.getfield 19, 3) := by decide +kernel
theorem dX0_restart_28 : decode cX0_restart 28 = .ok (.iload_n 1, 1) := by decide +kernel
theorem dX0_restart_29 : decode cX0_restart 29 = .ok (.iaload, 1) := by decide +kernel
theorem dX0_restart_30 : decode cX0_restart 30 = .ok (.iastore, 1) := by decide +kernel
theorem dX0_restart_31 : decode cX0_restart 31 = .ok (.iinc 1 1, 3) := by decide +kernel
theorem dX0_restart_34 : decode cX0_restart 34 = .ok (.goto (-32), 3) := by decide +kernel
theorem dX0_restart_37 : decode cX0_restart 37 = .ok (.return_, 1) := by decide +kernel
theorem dX0_isInput_0 : decode cX0_isInput 0 = .ok (.iload_n 0, 1) := by decide +kernel
theorem dX0_isInput_1 : decode cX0_isInput 1 = .ok (.bipush 10, 2) := by decide +kernel
theorem dX0_isInput_3 : decode cX0_isInput 3 = .ok (.if_icmp .lt 13, 3) := by decide +kernel
theorem dX0_isInput_6 : decode cX0_isInput 6 = .ok (.iload_n 0, 1) := by decide +kernel
theorem dX0_isInput_7 : decode cX0_isInput 7 = .ok (.bipush 14, 2) := by decide +kernel
theorem dX0_isInput_9 : decode cX0_isInput 9 = .ok (.if_icmp .ge 7, 3) := by decide +kernel
theorem dX0_isInput_12 : decode cX0_isInput 12 = .ok (.iconst 1, 1) := by decide +kernel
theorem dX0_isInput_13 : decode cX0_isInput 13 = .ok (.goto 4, 3) := by decide +kernel
theorem dX0_isInput_16 : decode cX0_isInput 16 = .ok (.iconst 0, 1) := by decide +kernel
theorem dX0_isInput_17 : decode cX0_isInput 17 = .ok (.ireturn, 1) := by decide +kernel
set_option maxRecDepth 20000 in
theorem ggX0_orderIfReady_X0_hasCell : GoodIn wsX0_orderIfReady wsX0_hasCell := goodIn_r _ [9, 10, 11, 12, 13, 14, 15, 16, 17, 18, 19, 20, 21] (by decide +kernel) (by decide +kernel)
set_option maxRecDepth 20000 in
theorem gX0_orderIfReady_X0_hasCell : GoodIn wsX0_orderIfReady (wsV RX0 50 RX0 yX0_hasCell wsX0_hasCell) := goodIn_app (goodIn_of _ (by decide +kernel)) ggX0_orderIfReady_X0_hasCell
theorem dX0_orderIfReady_0 : decode cX0_orderIfReady 0 = .ok (.aload_n 0, 1) := by decide +kernel
theorem dX0_orderIfReady_1 : decode cX0_orderIfReady 1 = .ok (.getfield 37, 3) := by decide +kernel
theorem dX0_orderIfReady_4 : decode cX0_orderIfReady 4 = .ok (.iload_n 1, 1) := by decide +kernel
theorem dX0_orderIfReady_5 : decode cX0_orderIfReady 5 = .ok (.baload, 1) := by decide +kernel
theorem dX0_orderIfReady_6 : decode cX0_orderIfReady 6 = .ok (.ifCond .ne 12, 3) := by decide +kernel
theorem dX0_orderIfReady_9 : decode cX0_orderIfReady 9 = .ok (.aload_n 0, 1) := by decide +kernel
theorem dX0_orderIfReady_10 : decode cX0_orderIfReady 10 = .ok (.getfield 57, 3) := by decide +kernel
theorem dX0_orderIfReady_13 : decode cX0_orderIfReady 13 = .ok (.bipush 10, 2) := by decide +kernel
theorem dX0_orderIfReady_15 : decode cX0_orderIfReady 15 = .ok (.if_icmp .lt 4, 3) := by decide +kernel
theorem dX0_orderIfReady_18 : decode cX0_orderIfReady 18 = .ok (.return_, 1) := by decide +kernel
theorem dX0_orderIfReady_19 : decode cX0_orderIfReady 19 = .ok (.iconst 0, 1) := by decide +kernel
theorem dX0_orderIfReady_20 : decode cX0_orderIfReady 20 = .ok (.istore_n 2, 1) := by decide +kernel
theorem dX0_orderIfReady_21 : decode cX0_orderIfReady 21 = .ok (.iload_n 2, 1) := by decide +kernel
theorem dX0_orderIfReady_22 : decode cX0_orderIfReady 22 = .ok (.iconst 3, 1) := by decide +kernel
theorem dX0_orderIfReady_23 : decode cX0_orderIfReady 23 = .ok (.if_icmp .ge 38, 3) := by decide +kernel
theorem dX0_orderIfReady_26 : decode cX0_orderIfReady 26 = .ok (.aload_n 0, 1) := by decide +kernel
theorem dX0_orderIfReady_27 : decode cX0_orderIfReady 27 = .ok (.getfield 25, 3) := by decide +kernel
theorem dX0_orderIfReady_30 : decode cX0_orderIfReady 30 = .ok (.iload_n 1, 1) := by decide +kernel
theorem dX0_orderIfReady_31 : decode cX0_orderIfReady 31 = .ok (.iconst 3, 1) := by decide +kernel
theorem dX0_orderIfReady_32 : decode cX0_orderIfReady 32 = .ok (.imul, 1) := by decide +kernel
theorem dX0_orderIfReady_33 : decode cX0_orderIfReady 33 = .ok (.iload_n 2, 1) := by decide +kernel
theorem dX0_orderIfReady_34 : decode cX0_orderIfReady 34 = .ok (.iadd, 1) := by decide +kernel
theorem dX0_orderIfReady_35 : decode cX0_orderIfReady 35 = .ok (.iaload, 1) := by decide +kernel
theorem dX0_orderIfReady_36 : decode cX0_orderIfReady 36 = .ok (.istore_n 3, 1) := by decide +kernel
theorem dX0_orderIfReady_37 : decode cX0_orderIfReady 37 = .ok (.aload_n 0, 1) := by decide +kernel
theorem dX0_orderIfReady_38 : decode cX0_orderIfReady 38 = .ok (.iload_n 3, 1) := by decide +kernel
theorem dX0_orderIfReady_39 : decode cX0_orderIfReady 39 = .ok (.invokevirtual 50, 3) := by decide +kernel
theorem dX0_orderIfReady_42 : decode cX0_orderIfReady 42 = .ok (.ifCond .eq 13, 3) := by decide +kernel
theorem dX0_orderIfReady_45 : decode cX0_orderIfReady 45 = .ok (.aload_n 0, 1) := by decide +kernel
theorem dX0_orderIfReady_46 : decode cX0_orderIfReady 46 = .ok (.getfield 37, 3) := by decide +kernel
theorem dX0_orderIfReady_49 : decode cX0_orderIfReady 49 = .ok (.iload_n 3, 1) := by decide +kernel
theorem dX0_orderIfReady_50 : decode cX0_orderIfReady 50 = .ok (.baload, 1) := by decide +kernel
theorem dX0_orderIfReady_51 : decode cX0_orderIfReady 51 = .ok (.ifCond .ne 4, 3) := by decide +kernel
theorem dX0_orderIfReady_54 : decode cX0_orderIfReady 54 = .ok (.return_, 1) := by decide +kernel
theorem dX0_orderIfReady_55 : decode cX0_orderIfReady 55 = .ok (.iinc 2 1, 3) := by decide +kernel
theorem dX0_orderIfReady_58 : decode cX0_orderIfReady 58 = .ok (.goto (-37), 3) := by decide +kernel
theorem dX0_orderIfReady_61 : decode cX0_orderIfReady 61 = .ok (.aload_n 0, 1) := by decide +kernel
theorem dX0_orderIfReady_62 : decode cX0_orderIfReady 62 = .ok (.getfield 37, 3) := by decide +kernel
theorem dX0_orderIfReady_65 : decode cX0_orderIfReady 65 = .ok (.iload_n 1, 1) := by decide +kernel
theorem dX0_orderIfReady_66 : decode cX0_orderIfReady 66 = .ok (.iconst 1, 1) := by decide +kernel
theorem dX0_orderIfReady_67 : decode cX0_orderIfReady 67 = .ok (.bastore, 1) := by decide +kernel
theorem dX0_orderIfReady_68 : decode cX0_orderIfReady 68 = .ok (.aload_n 0, 1) := by decide +kernel
theorem dX0_orderIfReady_69 : decode cX0_orderIfReady 69 = .ok (.getfield 34, 3) := by decide +kernel
theorem dX0_orderIfReady_72 : decode cX0_orderIfReady 72 = .ok (.aload_n 0, 1) := by decide +kernel
theorem dX0_orderIfReady_73 : decode cX0_orderIfReady 73 = .ok (.getfield 57, 3) := by decide +kernel
theorem dX0_orderIfReady_76 : decode cX0_orderIfReady 76 = .ok (.iload_n 1, 1) := by decide +kernel
theorem dX0_orderIfReady_77 : decode cX0_orderIfReady 77 = .ok (.iastore, 1) := by decide +kernel
theorem dX0_orderIfReady_78 : decode cX0_orderIfReady 78 = .ok (.aload_n 0, 1) := by decide +kernel
theorem dX0_orderIfReady_79 : decode cX0_orderIfReady 79 = .ok (.dup, 1) := by decide +kernel
theorem dX0_orderIfReady_80 : decode cX0_orderIfReady 80 = .ok (.getfield 57, 3) := by decide +kernel
theorem dX0_orderIfReady_83 : decode cX0_orderIfReady 83 = .ok (.iconst 1, 1) := by decide +kernel
theorem dX0_orderIfReady_84 : decode cX0_orderIfReady 84 = .ok (.iadd, 1) := by decide +kernel
theorem dX0_orderIfReady_85 : decode cX0_orderIfReady 85 = .ok (.putfield 57, 3) := by decide +kernel
theorem dX0_orderIfReady_88 : decode cX0_orderIfReady 88 = .ok (.return_, 1) := by decide +kernel
set_option maxRecDepth 20000 in
theorem ggX0_stepRegisters_X0_tableGives : GoodIn wsX0_stepRegisters wsX0_tableGives := goodIn_r _ [13, 14, 15, 16, 17, 12, 18, 19, 4, 20, 21, 22, 23, 24, 25, 26, 27, 28, 29, 30] (by decide +kernel) (by decide +kernel)
set_option maxRecDepth 20000 in
theorem gX0_stepRegisters_X0_tableGives : GoodIn wsX0_stepRegisters (wsV RX0 64 RX0 yX0_tableGives wsX0_tableGives) := goodIn_app (goodIn_of _ (by decide +kernel)) ggX0_stepRegisters_X0_tableGives
theorem dX0_stepRegisters_0 : decode cX0_stepRegisters 0 = .ok (.iconst 0, 1) := by decide +kernel
theorem dX0_stepRegisters_1 : decode cX0_stepRegisters 1 = .ok (.istore_n 1, 1) := by decide +kernel
theorem dX0_stepRegisters_2 : decode cX0_stepRegisters 2 = .ok (.iload_n 1, 1) := by decide +kernel
theorem dX0_stepRegisters_3 : decode cX0_stepRegisters 3 = .ok (.aload_n 0, 1) := by decide +kernel
theorem dX0_stepRegisters_4 : decode cX0_stepRegisters 4 = .ok (.getfield 46, 3) := by decide +kernel
theorem dX0_stepRegisters_7 : decode cX0_stepRegisters 7 = .ok (.if_icmp .ge 38, 3) := by decide +kernel
theorem dX0_stepRegisters_10 : decode cX0_stepRegisters 10 = .ok (.aload_n 0, 1) := by decide +kernel
theorem dX0_stepRegisters_11 : decode cX0_stepRegisters 11 = .ok (.getfield 31, 3) := by decide +kernel
theorem dX0_stepRegisters_14 : decode cX0_stepRegisters 14 = .ok (.iload_n 1, 1) := by decide +kernel
theorem dX0_stepRegisters_15 : decode cX0_stepRegisters 15 = .ok (.aload_n 0, 1) := by decide +kernel
theorem dX0_stepRegisters_16 : decode cX0_stepRegisters 16 = .ok (.getfield 15, 3) := by decide +kernel
theorem dX0_stepRegisters_19 : decode cX0_stepRegisters 19 = .ok (.iload_n 1, 1) := by decide +kernel
theorem dX0_stepRegisters_20 : decode cX0_stepRegisters 20 = .ok (.baload, 1) := by decide +kernel
theorem dX0_stepRegisters_21 : decode cX0_stepRegisters 21 = .ok (.ifCond .eq 11, 3) := by decide +kernel
theorem dX0_stepRegisters_24 : decode cX0_stepRegisters 24 = .ok (.aload_n 0, 1) := by decide +kernel
theorem dX0_stepRegisters_25 : decode cX0_stepRegisters 25 = .ok (.iload_n 1, 1) := by decide +kernel
theorem dX0_stepRegisters_26 : decode cX0_stepRegisters 26 = .ok (.invokevirtual 64, 3) := by decide +kernel
theorem dX0_stepRegisters_29 : decode cX0_stepRegisters 29 = .ok (.goto 9, 3) := by decide +kernel
theorem dX0_stepRegisters_32 : decode cX0_stepRegisters 32 = .ok (.aload_n 0, 1) := by decide +kernel
theorem dX0_stepRegisters_33 : decode cX0_stepRegisters 33 = .ok (.getfield 28, 3) := by decide +kernel
theorem dX0_stepRegisters_36 : decode cX0_stepRegisters 36 = .ok (.iload_n 1, 1) := by decide +kernel
theorem dX0_stepRegisters_37 : decode cX0_stepRegisters 37 = .ok (.iaload, 1) := by decide +kernel
theorem dX0_stepRegisters_38 : decode cX0_stepRegisters 38 = .ok (.iastore, 1) := by decide +kernel
theorem dX0_stepRegisters_39 : decode cX0_stepRegisters 39 = .ok (.iinc 1 1, 3) := by decide +kernel
theorem dX0_stepRegisters_42 : decode cX0_stepRegisters 42 = .ok (.goto (-40), 3) := by decide +kernel
theorem dX0_stepRegisters_45 : decode cX0_stepRegisters 45 = .ok (.aload_n 0, 1) := by decide +kernel
theorem dX0_stepRegisters_46 : decode cX0_stepRegisters 46 = .ok (.getfield 31, 3) := by decide +kernel
theorem dX0_stepRegisters_49 : decode cX0_stepRegisters 49 = .ok (.iconst 0, 1) := by decide +kernel
theorem dX0_stepRegisters_50 : decode cX0_stepRegisters 50 = .ok (.aload_n 0, 1) := by decide +kernel
theorem dX0_stepRegisters_51 : decode cX0_stepRegisters 51 = .ok (.getfield 28, 3) := by decide +kernel
theorem dX0_stepRegisters_54 : decode cX0_stepRegisters 54 = .ok (.iconst 0, 1) := by decide +kernel
theorem dX0_stepRegisters_55 : decode cX0_stepRegisters 55 = .ok (.aload_n 0, 1) := by decide +kernel
theorem dX0_stepRegisters_56 : decode cX0_stepRegisters 56 = .ok (.getfield 46, 3) := by decide +kernel
theorem dX0_stepRegisters_59 : decode cX0_stepRegisters 59 = .ok (.invokestatic 74, 3) := by decide +kernel
theorem dX0_stepRegisters_62 : decode cX0_stepRegisters 62 = .ok (.return_, 1) := by decide +kernel
set_option maxRecDepth 20000 in
theorem ggX0_tableGives_X0_valueAt : GoodIn wsX0_tableGives wsX0_valueAt := goodIn_r _ [6, 7, 8, 9, 10, 11, 12, 13, 14, 15, 16, 17, 18, 19] (by decide +kernel) (by decide +kernel)
set_option maxRecDepth 20000 in
theorem gX0_tableGives_X0_valueAt : GoodIn wsX0_tableGives (wsV RX0 68 RX0 yX0_valueAt wsX0_valueAt) := goodIn_app (goodIn_of _ (by decide +kernel)) ggX0_tableGives_X0_valueAt
theorem dX0_tableGives_0 : decode cX0_tableGives 0 = .ok (.iconst 0, 1) := by decide +kernel
theorem dX0_tableGives_1 : decode cX0_tableGives 1 = .ok (.istore_n 2, 1) := by decide +kernel
theorem dX0_tableGives_2 : decode cX0_tableGives 2 = .ok (.iconst 0, 1) := by decide +kernel
theorem dX0_tableGives_3 : decode cX0_tableGives 3 = .ok (.istore_n 3, 1) := by decide +kernel
theorem dX0_tableGives_4 : decode cX0_tableGives 4 = .ok (.iload_n 3, 1) := by decide +kernel
theorem dX0_tableGives_5 : decode cX0_tableGives 5 = .ok (.iconst 3, 1) := by decide +kernel
theorem dX0_tableGives_6 : decode cX0_tableGives 6 = .ok (.if_icmp .ge 23, 3) := by decide +kernel
theorem dX0_tableGives_9 : decode cX0_tableGives 9 = .ok (.iload_n 2, 1) := by decide +kernel
theorem dX0_tableGives_10 : decode cX0_tableGives 10 = .ok (.aload_n 0, 1) := by decide +kernel
theorem dX0_tableGives_11 : decode cX0_tableGives 11 = .ok (.iload_n 1, 1) := by decide +kernel
theorem dX0_tableGives_12 : decode cX0_tableGives 12 = .ok (.iconst 3, 1) := by decide +kernel
theorem dX0_tableGives_13 : decode cX0_tableGives 13 = .ok (.imul, 1) := by decide +kernel
theorem dX0_tableGives_14 : decode cX0_tableGives 14 = .ok (.iload_n 3, 1) := by decide +kernel
theorem dX0_tableGives_15 : decode cX0_tableGives 15 = .ok (.iadd, 1) := by decide +kernel
theorem dX0_tableGives_16 : decode cX0_tableGives 16 = .ok (.invokevirtual 68, 3) := by decide +kernel
theorem dX0_tableGives_19 : decode cX0_tableGives 19 = .ok (.iload_n 3, 1) := by decide +kernel
theorem dX0_tableGives_20 : decode cX0_tableGives 20 = .ok (.ishl, 1) := by decide +kernel
theorem dX0_tableGives_21 : decode cX0_tableGives 21 = .ok (.ior, 1) := by decide +kernel
theorem dX0_tableGives_22 : decode cX0_tableGives 22 = .ok (.istore_n 2, 1) := by decide +kernel
theorem dX0_tableGives_23 : decode cX0_tableGives 23 = .ok (.iinc 3 1, 3) := by decide +kernel
theorem dX0_tableGives_26 : decode cX0_tableGives 26 = .ok (.goto (-22), 3) := by decide +kernel
theorem dX0_tableGives_29 : decode cX0_tableGives 29 = .ok (.aload_n 0, 1) := by decide +kernel
theorem dX0_tableGives_30 : decode cX0_tableGives 30 = .ok (.getfield 9, 3) := by decide +kernel
theorem dX0_tableGives_33 : decode cX0_tableGives 33 = .ok (.iload_n 1, 1) := by decide +kernel
theorem dX0_tableGives_34 : decode cX0_tableGives 34 = .ok (.iaload, 1) := by decide +kernel
theorem dX0_tableGives_35 : decode cX0_tableGives 35 = .ok (.iload_n 2, 1) := by decide +kernel
theorem dX0_tableGives_36 : decode cX0_tableGives 36 = .ok (.ishr, 1) := by decide +kernel
theorem dX0_tableGives_37 : decode cX0_tableGives 37 = .ok (.iconst 1, 1) := by decide +kernel
theorem dX0_tableGives_38 : decode cX0_tableGives 38 = .ok (.iand, 1) := by decide +kernel
theorem dX0_tableGives_39 : decode cX0_tableGives 39 = .ok (.ireturn, 1) := by decide +kernel
theorem dX0_valueAt_0 : decode cX0_valueAt 0 = .ok (.aload_n 0, 1) := by decide +kernel
theorem dX0_valueAt_1 : decode cX0_valueAt 1 = .ok (.getfield 25, 3) := by decide +kernel
theorem dX0_valueAt_4 : decode cX0_valueAt 4 = .ok (.iload_n 1, 1) := by decide +kernel
theorem dX0_valueAt_5 : decode cX0_valueAt 5 = .ok (.iaload, 1) := by decide +kernel
theorem dX0_valueAt_6 : decode cX0_valueAt 6 = .ok (.istore_n 2, 1) := by decide +kernel
theorem dX0_valueAt_7 : decode cX0_valueAt 7 = .ok (.iload_n 2, 1) := by decide +kernel
theorem dX0_valueAt_8 : decode cX0_valueAt 8 = .ok (.ifCond .lt 9, 3) := by decide +kernel
theorem dX0_valueAt_11 : decode cX0_valueAt 11 = .ok (.iload_n 2, 1) := by decide +kernel
theorem dX0_valueAt_12 : decode cX0_valueAt 12 = .ok (.bipush 14, 2) := by decide +kernel
theorem dX0_valueAt_14 : decode cX0_valueAt 14 = .ok (.if_icmp .lt 7, 3) := by decide +kernel
theorem dX0_valueAt_17 : decode cX0_valueAt 17 = .ok (.iconst 0, 1) := by decide +kernel
theorem dX0_valueAt_18 : decode cX0_valueAt 18 = .ok (.goto 9, 3) := by decide +kernel
theorem dX0_valueAt_21 : decode cX0_valueAt 21 = .ok (.aload_n 0, 1) := by decide +kernel
theorem dX0_valueAt_22 : decode cX0_valueAt 22 = .ok (.getfield 28, 3) := by decide +kernel
theorem dX0_valueAt_25 : decode cX0_valueAt 25 = .ok (.iload_n 2, 1) := by decide +kernel
theorem dX0_valueAt_26 : decode cX0_valueAt 26 = .ok (.iaload, 1) := by decide +kernel
theorem dX0_valueAt_27 : decode cX0_valueAt 27 = .ok (.ireturn, 1) := by decide +kernel
set_option maxRecDepth 20000 in
theorem ggX1_init_J7_fill_53178 : GoodIn wsX1_init wsJ7_fill_53178 := goodIn_r _ [12] (by decide +kernel) (by decide +kernel)
set_option maxRecDepth 20000 in
theorem gX1_init_J7_fill_53178 : GoodIn wsX1_init (va_wsS RX1 24 yJ7_fill_53178 wsJ7_fill_53178) := goodIn_app (goodIn_of _ (by decide +kernel)) ggX1_init_J7_fill_53178
set_option maxRecDepth 20000 in
theorem ggX1_init_X1_laySwitches : GoodIn wsX1_init wsX1_laySwitches := goodIn_r _ [17, 6, 18, 19, 16, 20, 21, 22, 23, 24, 25, 26, 27, 28, 29, 30, 31, 32, 33, 34, 35, 36, 5, 8, 7, 37, 38, 39, 40] (by decide +kernel) (by decide +kernel)
set_option maxRecDepth 20000 in
theorem gX1_init_X1_laySwitches : GoodIn wsX1_init (wsV RX1 30 RX1 yX1_laySwitches wsX1_laySwitches) := goodIn_app (goodIn_of _ (by decide +kernel)) ggX1_init_X1_laySwitches
theorem dX1_init_0 : decode cX1_init 0 = .ok (.aload_n 0, 1) := by decide +kernel
theorem dX1_init_1 : decode cX1_init 1 = .ok (.invokespecial 3, 3) := by decide +kernel
theorem dX1_init_4 : decode cX1_init 4 = .ok (.aload_n 0, 1) := by decide +kernel
theorem dX1_init_5 : decode cX1_init 5 = .ok (.sipush 720, 3) := by decide +kernel
theorem dX1_init_8 : decode cX1_init 8 = .ok (.newarray .int, 2) := by decide +kernel
theorem dX1_init_10 : decode cX1_init 10 = .ok (.putfield 9, 3) := by decide +kernel
theorem dX1_init_13 : decode cX1_init 13 = .ok (.aload_n 0, 1) := by decide +kernel
theorem dX1_init_14 : decode cX1_init 14 = .ok (.sipush 160, 3) := by decide +kernel
theorem dX1_init_17 : decode cX1_init 17 = .ok (.newarray .int, 2) := by decide +kernel
theorem dX1_init_19 : decode cX1_init 19 = .ok (.putfield 15, 3) := by decide +kernel
theorem dX1_init_22 : decode cX1_init 22 = .ok (.aload_n 0, 1) := by decide +kernel
theorem dX1_init_23 : decode cX1_init 23 = .ok (.sipush 1184, 3) := by decide +kernel
theorem dX1_init_26 : decode cX1_init 26 = .ok (.newarray .int, 2) := by decide +kernel
theorem dX1_init_28 : decode cX1_init 28 = .ok (.putfield 18, 3) := by decide +kernel
theorem dX1_init_31 : decode cX1_init 31 = .ok (.aload_n 0, 1) := by decide +kernel
theorem dX1_init_32 : decode cX1_init 32 = .ok (.sipush 148, 3) := by decide +kernel
theorem dX1_init_35 : decode cX1_init 35 = .ok (.newarray .int, 2) := by decide +kernel
theorem dX1_init_37 : decode cX1_init 37 = .ok (.putfield 21, 3) := by decide +kernel
theorem dX1_init_40 : decode cX1_init 40 = .ok (.aload_n 0, 1) := by decide +kernel
theorem dX1_init_41 : decode cX1_init 41 = .ok (.getfield 9, 3) := by decide +kernel
theorem dX1_init_44 : decode cX1_init 44 = .ok (.iconst (-1), 1) := by decide +kernel
theorem dX1_init_45 : decode cX1_init 45 = .ok (.invokestatic 24, 3) := by decide +kernel
theorem dX1_init_48 : decode cX1_init 48 = .ok (.aload_n 0, 1) := by decide +kernel
theorem dX1_init_49 : decode cX1_init 49 = .ok (.getfield 15, 3) := by decide +kernel
theorem dX1_init_52 : decode cX1_init 52 = .ok (.iconst (-1), 1) := by decide +kernel
theorem dX1_init_53 : decode cX1_init 53 = .ok (.invokestatic 24, 3) := by decide +kernel
theorem dX1_init_56 : decode cX1_init 56 = .ok (.iconst 0, 1) := by decide +kernel
theorem dX1_init_57 : decode cX1_init 57 = .ok (.istore_n 1, 1) := by decide +kernel
theorem dX1_init_58 : decode cX1_init 58 = .ok (.iload_n 1, 1) := by decide +kernel
theorem dX1_init_59 : decode cX1_init 59 = .ok (.bipush 16, 2) := by decide +kernel
theorem dX1_init_61 : decode cX1_init 61 = .ok (.if_icmp .ge 14, 3) := by decide +kernel
theorem dX1_init_64 : decode cX1_init 64 = .ok (.aload_n 0, 1) := by decide +kernel
theorem dX1_init_65 : decode cX1_init 65 = .ok (.iload_n 1, 1) := by decide +kernel
theorem dX1_init_66 : decode cX1_init 66 = .ok (.invokevirtual 30, 3) := by decide +kernel
theorem dX1_init_69 : decode cX1_init 69 = .ok (.iinc 1 1, 3) := by decide +kernel
theorem dX1_init_72 : decode cX1_init 72 = .ok (.goto (-14), 3) := by decide +kernel
theorem dX1_init_75 : decode cX1_init 75 = .ok (.return_, 1) := by decide +kernel
theorem dX1_isChannel_0 : decode cX1_isChannel 0 = .ok (.iload_n 0, 1) := by decide +kernel
theorem dX1_isChannel_1 : decode cX1_isChannel 1 = .ok (.ifCond .lt 21, 3) := by decide +kernel
theorem dX1_isChannel_4 : decode cX1_isChannel 4 = .ok (.iload_n 0, 1) := by decide +kernel
theorem dX1_isChannel_5 : decode cX1_isChannel 5 = .ok (.sipush 144, 3) := by decide +kernel
theorem dX1_isChannel_8 : decode cX1_isChannel 8 = .ok (.if_icmp .ge 14, 3) := by decide +kernel
theorem dX1_isChannel_11 : decode cX1_isChannel 11 = .ok (.iload_n 0, 1) := by decide +kernel
theorem dX1_isChannel_12 : decode cX1_isChannel 12 = .ok (.bipush 9, 2) := by decide +kernel
theorem dX1_isChannel_14 : decode cX1_isChannel 14 = .ok (.irem, 1) := by decide +kernel
theorem dX1_isChannel_15 : decode cX1_isChannel 15 = .ok (.ifCond .eq 7, 3) := by decide +kernel
theorem dX1_isChannel_18 : decode cX1_isChannel 18 = .ok (.iconst 1, 1) := by decide +kernel
theorem dX1_isChannel_19 : decode cX1_isChannel 19 = .ok (.goto 4, 3) := by decide +kernel
theorem dX1_isChannel_22 : decode cX1_isChannel 22 = .ok (.iconst 0, 1) := by decide +kernel
theorem dX1_isChannel_23 : decode cX1_isChannel 23 = .ok (.ireturn, 1) := by decide +kernel
theorem dX1_outletOf_0 : decode cX1_outletOf 0 = .ok (.iload_n 0, 1) := by decide +kernel
theorem dX1_outletOf_1 : decode cX1_outletOf 1 = .ok (.bipush 9, 2) := by decide +kernel
theorem dX1_outletOf_3 : decode cX1_outletOf 3 = .ok (.imul, 1) := by decide +kernel
theorem dX1_outletOf_4 : decode cX1_outletOf 4 = .ok (.ireturn, 1) := by decide +kernel
theorem dX1_channelOf_0 : decode cX1_channelOf 0 = .ok (.iload_n 0, 1) := by decide +kernel
theorem dX1_channelOf_1 : decode cX1_channelOf 1 = .ok (.bipush 9, 2) := by decide +kernel
theorem dX1_channelOf_3 : decode cX1_channelOf 3 = .ok (.imul, 1) := by decide +kernel
theorem dX1_channelOf_4 : decode cX1_channelOf 4 = .ok (.iconst 1, 1) := by decide +kernel
theorem dX1_channelOf_5 : decode cX1_channelOf 5 = .ok (.iadd, 1) := by decide +kernel
theorem dX1_channelOf_6 : decode cX1_channelOf 6 = .ok (.iload_n 1, 1) := by decide +kernel
theorem dX1_channelOf_7 : decode cX1_channelOf 7 = .ok (.iconst 2, 1) := by decide +kernel
theorem dX1_channelOf_8 : decode cX1_channelOf 8 = .ok (.imul, 1) := by decide +kernel
theorem dX1_channelOf_9 : decode cX1_channelOf 9 = .ok (.iadd, 1) := by decide +kernel
theorem dX1_channelOf_10 : decode cX1_channelOf 10 = .ok (.iload_n 2, 1) := by decide +kernel
theorem dX1_channelOf_11 : decode cX1_channelOf 11 = .ok (.iadd, 1) := by decide +kernel
theorem dX1_channelOf_12 : decode cX1_channelOf 12 = .ok (.ireturn, 1) := by decide +kernel
set_option maxRecDepth 20000 in
theorem ggX1_outputWire_X1_channelOf : GoodIn wsX1_outputWire wsX1_channelOf := goodIn_r _ [4] (by decide +kernel) (by decide +kernel)
set_option maxRecDepth 20000 in
theorem gX1_outputWire_X1_channelOf : GoodIn wsX1_outputWire (va_wsS RX1 34 yX1_channelOf wsX1_channelOf) := goodIn_app (goodIn_of _ (by decide +kernel)) ggX1_outputWire_X1_channelOf
theorem dX1_outputWire_0 : decode cX1_outputWire 0 = .ok (.iload_n 0, 1) := by decide +kernel
theorem dX1_outputWire_1 : decode cX1_outputWire 1 = .ok (.iconst 4, 1) := by decide +kernel
theorem dX1_outputWire_2 : decode cX1_outputWire 2 = .ok (.imul, 1) := by decide +kernel
theorem dX1_outputWire_3 : decode cX1_outputWire 3 = .ok (.iconst 4, 1) := by decide +kernel
theorem dX1_outputWire_4 : decode cX1_outputWire 4 = .ok (.iadd, 1) := by decide +kernel
theorem dX1_outputWire_5 : decode cX1_outputWire 5 = .ok (.iconst 1, 1) := by decide +kernel
theorem dX1_outputWire_6 : decode cX1_outputWire 6 = .ok (.isub, 1) := by decide +kernel
theorem dX1_outputWire_7 : decode cX1_outputWire 7 = .ok (.iconst 1, 1) := by decide +kernel
theorem dX1_outputWire_8 : decode cX1_outputWire 8 = .ok (.iconst 0, 1) := by decide +kernel
theorem dX1_outputWire_9 : decode cX1_outputWire 9 = .ok (.invokestatic 34, 3) := by decide +kernel
theorem dX1_outputWire_12 : decode cX1_outputWire 12 = .ok (.ireturn, 1) := by decide +kernel
theorem dX1_beforeChannel_0 : decode cX1_beforeChannel 0 = .ok (.iload_n 1, 1) := by decide +kernel
theorem dX1_beforeChannel_1 : decode cX1_beforeChannel 1 = .ok (.ifCond .lt 14, 3) := by decide +kernel
theorem dX1_beforeChannel_4 : decode cX1_beforeChannel 4 = .ok (.iload_n 1, 1) := by decide +kernel
theorem dX1_beforeChannel_5 : decode cX1_beforeChannel 5 = .ok (.sipush 144, 3) := by decide +kernel
theorem dX1_beforeChannel_8 : decode cX1_beforeChannel 8 = .ok (.if_icmp .ge 7, 3) := by decide +kernel
theorem dX1_beforeChannel_11 : decode cX1_beforeChannel 11 = .ok (.iconst 1, 1) := by decide +kernel
theorem dX1_beforeChannel_12 : decode cX1_beforeChannel 12 = .ok (.goto 4, 3) := by decide +kernel
theorem dX1_beforeChannel_15 : decode cX1_beforeChannel 15 = .ok (.iconst 0, 1) := by decide +kernel
theorem dX1_beforeChannel_16 : decode cX1_beforeChannel 16 = .ok (.istore_n 3, 1) := by decide +kernel
theorem dX1_beforeChannel_17 : decode cX1_beforeChannel 17 = .ok (.iload_n 2, 1) := by decide +kernel
theorem dX1_beforeChannel_18 : decode cX1_beforeChannel 18 = .ok (.ifCond .lt 12, 3) := by decide +kernel
theorem dX1_beforeChannel_21 : decode cX1_beforeChannel 21 = .ok (.iload_n 2, 1) := by decide +kernel
theorem dX1_beforeChannel_22 : decode cX1_beforeChannel 22 = .ok (.iconst 5, 1) := by decide +kernel
theorem dX1_beforeChannel_23 : decode cX1_beforeChannel 23 = .ok (.if_icmp .ge 7, 3) := by decide +kernel
theorem dX1_beforeChannel_26 : decode cX1_beforeChannel 26 = .ok (.iconst 1, 1) := by decide +kernel
theorem dX1_beforeChannel_27 : decode cX1_beforeChannel 27 = .ok (.goto 4, 3) := by decide +kernel
theorem dX1_beforeChannel_30 : decode cX1_beforeChannel 30 = .ok (.iconst 0, 1) := by decide +kernel
theorem dX1_beforeChannel_31 : decode cX1_beforeChannel 31 = .ok (.istore 4, 2) := by decide +kernel
theorem dX1_beforeChannel_33 : decode cX1_beforeChannel 33 = .ok (.iload_n 3, 1) := by decide +kernel
theorem dX1_beforeChannel_34 : decode cX1_beforeChannel 34 = .ok (.ifCond .eq 21, 3) := by decide +kernel
theorem dX1_beforeChannel_37 : decode cX1_beforeChannel 37 = .ok (.iload 4, 2) := by decide +kernel
theorem dX1_beforeChannel_39 : decode cX1_beforeChannel 39 = .ok (.ifCond .eq 16, 3) := by decide +kernel
theorem dX1_beforeChannel_42 : decode cX1_beforeChannel 42 = .ok (.aload_n 0, 1) := by decide +kernel
theorem dX1_beforeChannel_43 : decode cX1_beforeChannel 43 = .ok (.getfield 9, 3) := by decide +kernel
theorem dX1_beforeChannel_46 : decode cX1_beforeChannel 46 = .ok (.iload_n 1, 1) := by decide +kernel
theorem dX1_beforeChannel_47 : decode cX1_beforeChannel 47 = .ok (.iconst 5, 1) := by decide +kernel
theorem dX1_beforeChannel_48 : decode cX1_beforeChannel 48 = .ok (.imul, 1) := by decide +kernel
theorem dX1_beforeChannel_49 : decode cX1_beforeChannel 49 = .ok (.iload_n 2, 1) := by decide +kernel
theorem dX1_beforeChannel_50 : decode cX1_beforeChannel 50 = .ok (.iadd, 1) := by decide +kernel
theorem dX1_beforeChannel_51 : decode cX1_beforeChannel 51 = .ok (.iaload, 1) := by decide +kernel
theorem dX1_beforeChannel_52 : decode cX1_beforeChannel 52 = .ok (.goto 4, 3) := by decide +kernel
theorem dX1_beforeChannel_55 : decode cX1_beforeChannel 55 = .ok (.iconst (-1), 1) := by decide +kernel
theorem dX1_beforeChannel_56 : decode cX1_beforeChannel 56 = .ok (.ireturn, 1) := by decide +kernel
theorem dX1_beforePin_0 : decode cX1_beforePin 0 = .ok (.iload_n 1, 1) := by decide +kernel
theorem dX1_beforePin_1 : decode cX1_beforePin 1 = .ok (.ifCond .lt 23, 3) := by decide +kernel
theorem dX1_beforePin_4 : decode cX1_beforePin 4 = .ok (.iload_n 1, 1) := by decide +kernel
theorem dX1_beforePin_5 : decode cX1_beforePin 5 = .ok (.bipush 16, 2) := by decide +kernel
theorem dX1_beforePin_7 : decode cX1_beforePin 7 = .ok (.if_icmp .ge 17, 3) := by decide +kernel
theorem dX1_beforePin_10 : decode cX1_beforePin 10 = .ok (.iload_n 2, 1) := by decide +kernel
theorem dX1_beforePin_11 : decode cX1_beforePin 11 = .ok (.ifCond .lt 13, 3) := by decide +kernel
theorem dX1_beforePin_14 : decode cX1_beforePin 14 = .ok (.iload_n 2, 1) := by decide +kernel
theorem dX1_beforePin_15 : decode cX1_beforePin 15 = .ok (.bipush 10, 2) := by decide +kernel
theorem dX1_beforePin_17 : decode cX1_beforePin 17 = .ok (.if_icmp .ge 7, 3) := by decide +kernel
theorem dX1_beforePin_20 : decode cX1_beforePin 20 = .ok (.iconst 1, 1) := by decide +kernel
theorem dX1_beforePin_21 : decode cX1_beforePin 21 = .ok (.goto 4, 3) := by decide +kernel
theorem dX1_beforePin_24 : decode cX1_beforePin 24 = .ok (.iconst 0, 1) := by decide +kernel
theorem dX1_beforePin_25 : decode cX1_beforePin 25 = .ok (.istore_n 3, 1) := by decide +kernel
theorem dX1_beforePin_26 : decode cX1_beforePin 26 = .ok (.iload_n 3, 1) := by decide +kernel
theorem dX1_beforePin_27 : decode cX1_beforePin 27 = .ok (.ifCond .eq 17, 3) := by decide +kernel
theorem dX1_beforePin_30 : decode cX1_beforePin 30 = .ok (.aload_n 0, 1) := by decide +kernel
theorem dX1_beforePin_31 : decode cX1_beforePin 31 = .ok (.getfield 15, 3) := by decide +kernel
theorem dX1_beforePin_34 : decode cX1_beforePin 34 = .ok (.iload_n 1, 1) := by decide +kernel
theorem dX1_beforePin_35 : decode cX1_beforePin 35 = .ok (.bipush 10, 2) := by decide +kernel
theorem dX1_beforePin_37 : decode cX1_beforePin 37 = .ok (.imul, 1) := by decide +kernel
theorem dX1_beforePin_38 : decode cX1_beforePin 38 = .ok (.iload_n 2, 1) := by decide +kernel
theorem dX1_beforePin_39 : decode cX1_beforePin 39 = .ok (.iadd, 1) := by decide +kernel
theorem dX1_beforePin_40 : decode cX1_beforePin 40 = .ok (.iaload, 1) := by decide +kernel
theorem dX1_beforePin_41 : decode cX1_beforePin 41 = .ok (.goto 4, 3) := by decide +kernel
theorem dX1_beforePin_44 : decode cX1_beforePin 44 = .ok (.iconst (-1), 1) := by decide +kernel
theorem dX1_beforePin_45 : decode cX1_beforePin 45 = .ok (.ireturn, 1) := by decide +kernel
theorem dX1_channelAfter_0 : decode cX1_channelAfter 0 = .ok (.iload_n 1, 1) := by decide +kernel
theorem dX1_channelAfter_1 : decode cX1_channelAfter 1 = .ok (.ifCond .lt 18, 3) := by decide +kernel
theorem dX1_channelAfter_4 : decode cX1_channelAfter 4 = .ok (.iload_n 1, 1) := by decide +kernel
theorem dX1_channelAfter_5 : decode cX1_channelAfter 5 = .ok (.sipush 148, 3) := by decide +kernel
theorem dX1_channelAfter_8 : decode cX1_channelAfter 8 = .ok (.if_icmp .ge 11, 3) := by decide +kernel
theorem dX1_channelAfter_11 : decode cX1_channelAfter 11 = .ok (.iload_n 2, 1) := by decide +kernel
theorem dX1_channelAfter_12 : decode cX1_channelAfter 12 = .ok (.ifCond .lt 7, 3) := by decide +kernel
theorem dX1_channelAfter_15 : decode cX1_channelAfter 15 = .ok (.iconst 1, 1) := by decide +kernel
theorem dX1_channelAfter_16 : decode cX1_channelAfter 16 = .ok (.goto 4, 3) := by decide +kernel
theorem dX1_channelAfter_19 : decode cX1_channelAfter 19 = .ok (.iconst 0, 1) := by decide +kernel
theorem dX1_channelAfter_20 : decode cX1_channelAfter 20 = .ok (.istore_n 3, 1) := by decide +kernel
theorem dX1_channelAfter_21 : decode cX1_channelAfter 21 = .ok (.iload_n 3, 1) := by decide +kernel
theorem dX1_channelAfter_22 : decode cX1_channelAfter 22 = .ok (.ifCond .eq 27, 3) := by decide +kernel
theorem dX1_channelAfter_25 : decode cX1_channelAfter 25 = .ok (.iload_n 2, 1) := by decide +kernel
theorem dX1_channelAfter_26 : decode cX1_channelAfter 26 = .ok (.aload_n 0, 1) := by decide +kernel
theorem dX1_channelAfter_27 : decode cX1_channelAfter 27 = .ok (.getfield 21, 3) := by decide +kernel
theorem dX1_channelAfter_30 : decode cX1_channelAfter 30 = .ok (.iload_n 1, 1) := by decide +kernel
theorem dX1_channelAfter_31 : decode cX1_channelAfter 31 = .ok (.iaload, 1) := by decide +kernel
theorem dX1_channelAfter_32 : decode cX1_channelAfter 32 = .ok (.if_icmp .ge 17, 3) := by decide +kernel
theorem dX1_channelAfter_35 : decode cX1_channelAfter 35 = .ok (.aload_n 0, 1) := by decide +kernel
theorem dX1_channelAfter_36 : decode cX1_channelAfter 36 = .ok (.getfield 18, 3) := by decide +kernel
theorem dX1_channelAfter_39 : decode cX1_channelAfter 39 = .ok (.iload_n 1, 1) := by decide +kernel
theorem dX1_channelAfter_40 : decode cX1_channelAfter 40 = .ok (.bipush 8, 2) := by decide +kernel
theorem dX1_channelAfter_42 : decode cX1_channelAfter 42 = .ok (.imul, 1) := by decide +kernel
theorem dX1_channelAfter_43 : decode cX1_channelAfter 43 = .ok (.iload_n 2, 1) := by decide +kernel
theorem dX1_channelAfter_44 : decode cX1_channelAfter 44 = .ok (.iadd, 1) := by decide +kernel
theorem dX1_channelAfter_45 : decode cX1_channelAfter 45 = .ok (.iaload, 1) := by decide +kernel
theorem dX1_channelAfter_46 : decode cX1_channelAfter 46 = .ok (.goto 4, 3) := by decide +kernel
theorem dX1_channelAfter_49 : decode cX1_channelAfter 49 = .ok (.iconst (-1), 1) := by decide +kernel
theorem dX1_channelAfter_50 : decode cX1_channelAfter 50 = .ok (.ireturn, 1) := by decide +kernel
set_option maxRecDepth 20000 in
theorem ggX1_laySwitches_X1_outletOf : GoodIn wsX1_laySwitches wsX1_outletOf := goodIn_r _ [5] (by decide +kernel) (by decide +kernel)
set_option maxRecDepth 20000 in
theorem gX1_laySwitches_X1_outletOf : GoodIn wsX1_laySwitches (va_wsS RX1 38 yX1_outletOf wsX1_outletOf) := goodIn_app (goodIn_of _ (by decide +kernel)) ggX1_laySwitches_X1_outletOf
set_option maxRecDepth 20000 in
theorem ggX1_laySwitches_X1_wireInto : GoodIn wsX1_laySwitches wsX1_wireInto := goodIn_r _ [8, 9, 10, 11, 12, 4, 13] (by decide +kernel) (by decide +kernel)
set_option maxRecDepth 20000 in
theorem gX1_laySwitches_X1_wireInto : GoodIn wsX1_laySwitches (va_wsS RX1 42 yX1_wireInto wsX1_wireInto) := goodIn_app (goodIn_of _ (by decide +kernel)) ggX1_laySwitches_X1_wireInto
set_option maxRecDepth 20000 in
theorem ggX1_laySwitches_X1_layChannel : GoodIn wsX1_laySwitches wsX1_layChannel := goodIn_r _ [17, 11, 12, 4, 13, 2, 3, 5, 18, 19, 20, 21, 22, 23, 24, 6, 7, 8, 9, 10, 25, 26, 27, 28] (by decide +kernel) (by decide +kernel)
set_option maxRecDepth 20000 in
theorem gX1_laySwitches_X1_layChannel : GoodIn wsX1_laySwitches (wsV RX1 45 RX1 yX1_layChannel wsX1_layChannel) := goodIn_app (goodIn_of _ (by decide +kernel)) ggX1_laySwitches_X1_layChannel
theorem dX1_laySwitches_0 : decode cX1_laySwitches 0 = .ok (.aload_n 0, 1) := by decide +kernel
theorem dX1_laySwitches_1 : decode cX1_laySwitches 1 = .ok (.getfield 15, 3) := by decide +kernel
theorem dX1_laySwitches_4 : decode cX1_laySwitches 4 = .ok (.iload_n 1, 1) := by decide +kernel
theorem dX1_laySwitches_5 : decode cX1_laySwitches 5 = .ok (.bipush 10, 2) := by decide +kernel
theorem dX1_laySwitches_7 : decode cX1_laySwitches 7 = .ok (.imul, 1) := by decide +kernel
theorem dX1_laySwitches_8 : decode cX1_laySwitches 8 = .ok (.iconst 1, 1) := by decide +kernel
theorem dX1_laySwitches_9 : decode cX1_laySwitches 9 = .ok (.iadd, 1) := by decide +kernel
theorem dX1_laySwitches_10 : decode cX1_laySwitches 10 = .ok (.iload_n 1, 1) := by decide +kernel
theorem dX1_laySwitches_11 : decode cX1_laySwitches 11 = .ok (.invokestatic 38, 3) := by decide +kernel
theorem dX1_laySwitches_14 : decode cX1_laySwitches 14 = .ok (.iastore, 1) := by decide +kernel
theorem dX1_laySwitches_15 : decode cX1_laySwitches 15 = .ok (.iconst 0, 1) := by decide +kernel
theorem dX1_laySwitches_16 : decode cX1_laySwitches 16 = .ok (.istore_n 2, 1) := by decide +kernel
theorem dX1_laySwitches_17 : decode cX1_laySwitches 17 = .ok (.iload_n 2, 1) := by decide +kernel
theorem dX1_laySwitches_18 : decode cX1_laySwitches 18 = .ok (.iconst 4, 1) := by decide +kernel
theorem dX1_laySwitches_19 : decode cX1_laySwitches 19 = .ok (.if_icmp .ge 56, 3) := by decide +kernel
theorem dX1_laySwitches_22 : decode cX1_laySwitches 22 = .ok (.iconst 0, 1) := by decide +kernel
theorem dX1_laySwitches_23 : decode cX1_laySwitches 23 = .ok (.istore_n 3, 1) := by decide +kernel
theorem dX1_laySwitches_24 : decode cX1_laySwitches 24 = .ok (.iload_n 3, 1) := by decide +kernel
theorem dX1_laySwitches_25 : decode cX1_laySwitches 25 = .ok (.iconst 2, 1) := by decide +kernel
theorem dX1_laySwitches_26 : decode cX1_laySwitches 26 = .ok (.if_icmp .ge 43, 3) := by decide +kernel
theorem dX1_laySwitches_29 : decode cX1_laySwitches 29 = .ok (.iconst 2, 1) := by decide +kernel
theorem dX1_laySwitches_30 : decode cX1_laySwitches 30 = .ok (.iload_n 2, 1) := by decide +kernel
theorem dX1_laySwitches_31 : decode cX1_laySwitches 31 = .ok (.iconst 2, 1) := by decide +kernel
theorem dX1_laySwitches_32 : decode cX1_laySwitches 32 = .ok (.imul, 1) := by decide +kernel
theorem dX1_laySwitches_33 : decode cX1_laySwitches 33 = .ok (.iadd, 1) := by decide +kernel
theorem dX1_laySwitches_34 : decode cX1_laySwitches 34 = .ok (.iload_n 3, 1) := by decide +kernel
theorem dX1_laySwitches_35 : decode cX1_laySwitches 35 = .ok (.iadd, 1) := by decide +kernel
theorem dX1_laySwitches_36 : decode cX1_laySwitches 36 = .ok (.istore 4, 2) := by decide +kernel
theorem dX1_laySwitches_38 : decode cX1_laySwitches 38 = .ok (.aload_n 0, 1) := by decide +kernel
theorem dX1_laySwitches_39 : decode cX1_laySwitches 39 = .ok (.getfield 15, 3) := by decide +kernel
theorem dX1_laySwitches_42 : decode cX1_laySwitches 42 = .ok (.iload_n 1, 1) := by decide +kernel
theorem dX1_laySwitches_43 : decode cX1_laySwitches 43 = .ok (.bipush 10, 2) := by decide +kernel
theorem dX1_laySwitches_45 : decode cX1_laySwitches 45 = .ok (.imul, 1) := by decide +kernel
theorem dX1_laySwitches_46 : decode cX1_laySwitches 46 = .ok (.iload 4, 2) := by decide +kernel
theorem dX1_laySwitches_48 : decode cX1_laySwitches 48 = .ok (.iadd, 1) := by decide +kernel
theorem dX1_laySwitches_49 : decode cX1_laySwitches 49 = .ok (.iload_n 1, 1) := by decide +kernel
theorem dX1_laySwitches_50 : decode cX1_laySwitches 50 = .ok (.iload_n 2, 1) := by decide +kernel
theorem dX1_laySwitches_51 : decode cX1_laySwitches 51 = .ok (.iload_n 3, 1) := by decide +kernel
theorem dX1_laySwitches_52 : decode cX1_laySwitches 52 = .ok (.invokestatic 42, 3) := by decide +kernel
theorem dX1_laySwitches_55 : decode cX1_laySwitches 55 = .ok (.iastore, 1) := by decide +kernel
theorem dX1_laySwitches_56 : decode cX1_laySwitches 56 = .ok (.aload_n 0, 1) := by decide +kernel
theorem dX1_laySwitches_57 : decode cX1_laySwitches 57 = .ok (.iload_n 1, 1) := by decide +kernel
theorem dX1_laySwitches_58 : decode cX1_laySwitches 58 = .ok (.iload_n 2, 1) := by decide +kernel
theorem dX1_laySwitches_59 : decode cX1_laySwitches 59 = .ok (.iload_n 3, 1) := by decide +kernel
theorem dX1_laySwitches_60 : decode cX1_laySwitches 60 = .ok (.invokevirtual 45, 3) := by decide +kernel
theorem dX1_laySwitches_63 : decode cX1_laySwitches 63 = .ok (.iinc 3 1, 3) := by decide +kernel
theorem dX1_laySwitches_66 : decode cX1_laySwitches 66 = .ok (.goto (-42), 3) := by decide +kernel
theorem dX1_laySwitches_69 : decode cX1_laySwitches 69 = .ok (.iinc 2 1, 3) := by decide +kernel
theorem dX1_laySwitches_72 : decode cX1_laySwitches 72 = .ok (.goto (-55), 3) := by decide +kernel
theorem dX1_laySwitches_75 : decode cX1_laySwitches 75 = .ok (.return_, 1) := by decide +kernel
set_option maxRecDepth 20000 in
theorem ggX1_layChannel_X1_channelOf : GoodIn wsX1_layChannel wsX1_channelOf := goodIn_r _ [4] (by decide +kernel) (by decide +kernel)
set_option maxRecDepth 20000 in
theorem gX1_layChannel_X1_channelOf : GoodIn wsX1_layChannel (va_wsS RX1 34 yX1_channelOf wsX1_channelOf) := goodIn_app (goodIn_of _ (by decide +kernel)) ggX1_layChannel_X1_channelOf
set_option maxRecDepth 20000 in
theorem ggX1_layChannel_X1_outletOf : GoodIn wsX1_layChannel wsX1_outletOf := goodIn_r _ [7] (by decide +kernel) (by decide +kernel)
set_option maxRecDepth 20000 in
theorem gX1_layChannel_X1_outletOf : GoodIn wsX1_layChannel (va_wsS RX1 38 yX1_outletOf wsX1_outletOf) := goodIn_app (goodIn_of _ (by decide +kernel)) ggX1_layChannel_X1_outletOf
set_option maxRecDepth 20000 in
theorem ggX1_layChannel_X1_laySwitch : GoodIn wsX1_layChannel wsX1_laySwitch := goodIn_r _ [11, 12, 13, 14, 20, 21, 22, 23] (by decide +kernel) (by decide +kernel)
set_option maxRecDepth 20000 in
theorem gX1_layChannel_X1_laySwitch : GoodIn wsX1_layChannel (wsV RX1 49 RX1 yX1_laySwitch wsX1_laySwitch) := goodIn_app (goodIn_of _ (by decide +kernel)) ggX1_layChannel_X1_laySwitch
set_option maxRecDepth 20000 in
theorem ggX1_layChannel_X1_wireInto : GoodIn wsX1_layChannel wsX1_wireInto := goodIn_r _ [17, 18, 19, 1, 2, 3, 4] (by decide +kernel) (by decide +kernel)
set_option maxRecDepth 20000 in
theorem gX1_layChannel_X1_wireInto : GoodIn wsX1_layChannel (va_wsS RX1 42 yX1_wireInto wsX1_wireInto) := goodIn_app (goodIn_of _ (by decide +kernel)) ggX1_layChannel_X1_wireInto
theorem dX1_layChannel_0 : decode cX1_layChannel 0 = .ok (.iload_n 1, 1) := by decide +kernel
theorem dX1_layChannel_1 : decode cX1_layChannel 1 = .ok (.iload_n 2, 1) := by decide +kernel
theorem dX1_layChannel_2 : decode cX1_layChannel 2 = .ok (.iload_n 3, 1) := by decide +kernel
theorem dX1_layChannel_3 : decode cX1_layChannel 3 = .ok (.invokestatic 34, 3) := by decide +kernel
theorem dX1_layChannel_6 : decode cX1_layChannel 6 = .ok (.istore 4, 2) := by decide +kernel
theorem dX1_layChannel_8 : decode cX1_layChannel 8 = .ok (.aload_n 0, 1) := by decide +kernel
theorem dX1_layChannel_9 : decode cX1_layChannel 9 = .ok (.iload 4, 2) := by decide +kernel
theorem dX1_layChannel_11 : decode cX1_layChannel 11 = .ok (.iconst 1, 1) := by decide +kernel
theorem dX1_layChannel_12 : decode cX1_layChannel 12 = .ok (.iload_n 1, 1) := by decide +kernel
theorem dX1_layChannel_13 : decode cX1_layChannel 13 = .ok (.invokestatic 38, 3) := by decide +kernel
theorem dX1_layChannel_16 : decode cX1_layChannel 16 = .ok (.invokevirtual 49, 3) := by decide +kernel
theorem dX1_layChannel_19 : decode cX1_layChannel 19 = .ok (.iconst 1, 1) := by decide +kernel
theorem dX1_layChannel_20 : decode cX1_layChannel 20 = .ok (.istore 5, 2) := by decide +kernel
theorem dX1_layChannel_22 : decode cX1_layChannel 22 = .ok (.iload 5, 2) := by decide +kernel
theorem dX1_layChannel_24 : decode cX1_layChannel 24 = .ok (.iconst 4, 1) := by decide +kernel
theorem dX1_layChannel_25 : decode cX1_layChannel 25 = .ok (.if_icmp .ge 34, 3) := by decide +kernel
theorem dX1_layChannel_28 : decode cX1_layChannel 28 = .ok (.iload_n 2, 1) := by decide +kernel
theorem dX1_layChannel_29 : decode cX1_layChannel 29 = .ok (.iload 5, 2) := by decide +kernel
theorem dX1_layChannel_31 : decode cX1_layChannel 31 = .ok (.iadd, 1) := by decide +kernel
theorem dX1_layChannel_32 : decode cX1_layChannel 32 = .ok (.iconst 4, 1) := by decide +kernel
theorem dX1_layChannel_33 : decode cX1_layChannel 33 = .ok (.irem, 1) := by decide +kernel
theorem dX1_layChannel_34 : decode cX1_layChannel 34 = .ok (.istore 6, 2) := by decide +kernel
theorem dX1_layChannel_36 : decode cX1_layChannel 36 = .ok (.aload_n 0, 1) := by decide +kernel
theorem dX1_layChannel_37 : decode cX1_layChannel 37 = .ok (.iload 4, 2) := by decide +kernel
theorem dX1_layChannel_39 : decode cX1_layChannel 39 = .ok (.iconst 1, 1) := by decide +kernel
theorem dX1_layChannel_40 : decode cX1_layChannel 40 = .ok (.iload 5, 2) := by decide +kernel
theorem dX1_layChannel_42 : decode cX1_layChannel 42 = .ok (.iadd, 1) := by decide +kernel
theorem dX1_layChannel_43 : decode cX1_layChannel 43 = .ok (.iload_n 1, 1) := by decide +kernel
theorem dX1_layChannel_44 : decode cX1_layChannel 44 = .ok (.iload 6, 2) := by decide +kernel
theorem dX1_layChannel_46 : decode cX1_layChannel 46 = .ok (.iload_n 3, 1) := by decide +kernel
theorem dX1_layChannel_47 : decode cX1_layChannel 47 = .ok (.invokestatic 42, 3) := by decide +kernel
theorem dX1_layChannel_50 : decode cX1_layChannel 50 = .ok (.invokevirtual 49, 3) := by decide +kernel
theorem dX1_layChannel_53 : decode cX1_layChannel 53 = .ok (.iinc 5 1, 3) := by decide +kernel
theorem dX1_layChannel_56 : decode cX1_layChannel 56 = .ok (.goto (-34), 3) := by decide +kernel
theorem dX1_layChannel_59 : decode cX1_layChannel 59 = .ok (.return_, 1) := by decide +kernel
theorem dX1_laySwitch_0 : decode cX1_laySwitch 0 = .ok (.aload_n 0, 1) := by decide +kernel
theorem dX1_laySwitch_1 : decode cX1_laySwitch 1 = .ok (.getfield 9, 3) := by decide +kernel
theorem dX1_laySwitch_4 : decode cX1_laySwitch 4 = .ok (.iload_n 1, 1) := by decide +kernel
theorem dX1_laySwitch_5 : decode cX1_laySwitch 5 = .ok (.iconst 5, 1) := by decide +kernel
theorem dX1_laySwitch_6 : decode cX1_laySwitch 6 = .ok (.imul, 1) := by decide +kernel
theorem dX1_laySwitch_7 : decode cX1_laySwitch 7 = .ok (.iload_n 2, 1) := by decide +kernel
theorem dX1_laySwitch_8 : decode cX1_laySwitch 8 = .ok (.iadd, 1) := by decide +kernel
theorem dX1_laySwitch_9 : decode cX1_laySwitch 9 = .ok (.iload_n 3, 1) := by decide +kernel
theorem dX1_laySwitch_10 : decode cX1_laySwitch 10 = .ok (.iastore, 1) := by decide +kernel
theorem dX1_laySwitch_11 : decode cX1_laySwitch 11 = .ok (.iload_n 3, 1) := by decide +kernel
theorem dX1_laySwitch_12 : decode cX1_laySwitch 12 = .ok (.iconst (-1), 1) := by decide +kernel
theorem dX1_laySwitch_13 : decode cX1_laySwitch 13 = .ok (.if_icmp .eq 41, 3) := by decide +kernel
theorem dX1_laySwitch_16 : decode cX1_laySwitch 16 = .ok (.aload_n 0, 1) := by decide +kernel
theorem dX1_laySwitch_17 : decode cX1_laySwitch 17 = .ok (.getfield 21, 3) := by decide +kernel
theorem dX1_laySwitch_20 : decode cX1_laySwitch 20 = .ok (.iload_n 3, 1) := by decide +kernel
theorem dX1_laySwitch_21 : decode cX1_laySwitch 21 = .ok (.iaload, 1) := by decide +kernel
theorem dX1_laySwitch_22 : decode cX1_laySwitch 22 = .ok (.bipush 8, 2) := by decide +kernel
theorem dX1_laySwitch_24 : decode cX1_laySwitch 24 = .ok (.if_icmp .ge 30, 3) := by decide +kernel
theorem dX1_laySwitch_27 : decode cX1_laySwitch 27 = .ok (.aload_n 0, 1) := by decide +kernel
theorem dX1_laySwitch_28 : decode cX1_laySwitch 28 = .ok (.getfield 18, 3) := by decide +kernel
theorem dX1_laySwitch_31 : decode cX1_laySwitch 31 = .ok (.iload_n 3, 1) := by decide +kernel
theorem dX1_laySwitch_32 : decode cX1_laySwitch 32 = .ok (.bipush 8, 2) := by decide +kernel
theorem dX1_laySwitch_34 : decode cX1_laySwitch 34 = .ok (.imul, 1) := by decide +kernel
theorem dX1_laySwitch_35 : decode cX1_laySwitch 35 = .ok (.aload_n 0, 1) := by decide +kernel
theorem dX1_laySwitch_36 : decode cX1_laySwitch 36 = .ok (.getfield 21, 3) := by decide +kernel
theorem dX1_laySwitch_39 : decode cX1_laySwitch 39 = .ok (.iload_n 3, 1) := by decide +kernel
theorem dX1_laySwitch_40 : decode cX1_laySwitch 40 = .ok (.iaload, 1) := by decide +kernel
theorem dX1_laySwitch_41 : decode cX1_laySwitch 41 = .ok (.iadd, 1) := by decide +kernel
theorem dX1_laySwitch_42 : decode cX1_laySwitch 42 = .ok (.iload_n 1, 1) := by decide +kernel
theorem dX1_laySwitch_43 : decode cX1_laySwitch 43 = .ok (.iastore, 1) := by decide +kernel
theorem dX1_laySwitch_44 : decode cX1_laySwitch 44 = .ok (.aload_n 0, 1) := by decide +kernel
theorem dX1_laySwitch_45 : decode cX1_laySwitch 45 = .ok (.getfield 21, 3) := by decide +kernel
theorem dX1_laySwitch_48 : decode cX1_laySwitch 48 = .ok (.iload_n 3, 1) := by decide +kernel
theorem dX1_laySwitch_49 : decode cX1_laySwitch 49 = .ok (.dup2, 1) := by decide +kernel
theorem dX1_laySwitch_50 : decode cX1_laySwitch 50 = .ok (.iaload, 1) := by decide +kernel
theorem dX1_laySwitch_51 : decode cX1_laySwitch 51 = .ok (.iconst 1, 1) := by decide +kernel
theorem dX1_laySwitch_52 : decode cX1_laySwitch 52 = .ok (.iadd, 1) := by decide +kernel
theorem dX1_laySwitch_53 : decode cX1_laySwitch 53 = .ok (.iastore, 1) := by decide +kernel
theorem dX1_laySwitch_54 : decode cX1_laySwitch 54 = .ok (.return_, 1) := by decide +kernel
set_option maxRecDepth 20000 in
theorem ggX1_wireInto_X1_channelOf : GoodIn wsX1_wireInto wsX1_channelOf := goodIn_r _ [6] (by decide +kernel) (by decide +kernel)
set_option maxRecDepth 20000 in
theorem gX1_wireInto_X1_channelOf : GoodIn wsX1_wireInto (va_wsS RX1 34 yX1_channelOf wsX1_channelOf) := goodIn_app (goodIn_of _ (by decide +kernel)) ggX1_wireInto_X1_channelOf
theorem dX1_wireInto_0 : decode cX1_wireInto 0 = .ok (.iload_n 0, 1) := by decide +kernel
theorem dX1_wireInto_1 : decode cX1_wireInto 1 = .ok (.iconst 4, 1) := by decide +kernel
theorem dX1_wireInto_2 : decode cX1_wireInto 2 = .ok (.idiv, 1) := by decide +kernel
theorem dX1_wireInto_3 : decode cX1_wireInto 3 = .ok (.getstatic 52, 3) := by decide +kernel
theorem dX1_wireInto_6 : decode cX1_wireInto 6 = .ok (.iload_n 1, 1) := by decide +kernel
theorem dX1_wireInto_7 : decode cX1_wireInto 7 = .ok (.iaload, 1) := by decide +kernel
theorem dX1_wireInto_8 : decode cX1_wireInto 8 = .ok (.iadd, 1) := by decide +kernel
theorem dX1_wireInto_9 : decode cX1_wireInto 9 = .ok (.istore_n 3, 1) := by decide +kernel
theorem dX1_wireInto_10 : decode cX1_wireInto 10 = .ok (.iload_n 0, 1) := by decide +kernel
theorem dX1_wireInto_11 : decode cX1_wireInto 11 = .ok (.iconst 4, 1) := by decide +kernel
theorem dX1_wireInto_12 : decode cX1_wireInto 12 = .ok (.irem, 1) := by decide +kernel
theorem dX1_wireInto_13 : decode cX1_wireInto 13 = .ok (.getstatic 55, 3) := by decide +kernel
theorem dX1_wireInto_16 : decode cX1_wireInto 16 = .ok (.iload_n 1, 1) := by decide +kernel
theorem dX1_wireInto_17 : decode cX1_wireInto 17 = .ok (.iaload, 1) := by decide +kernel
theorem dX1_wireInto_18 : decode cX1_wireInto 18 = .ok (.iadd, 1) := by decide +kernel
theorem dX1_wireInto_19 : decode cX1_wireInto 19 = .ok (.istore 4, 2) := by decide +kernel
theorem dX1_wireInto_21 : decode cX1_wireInto 21 = .ok (.iload_n 3, 1) := by decide +kernel
theorem dX1_wireInto_22 : decode cX1_wireInto 22 = .ok (.ifCond .lt 39, 3) := by decide +kernel
theorem dX1_wireInto_25 : decode cX1_wireInto 25 = .ok (.iload_n 3, 1) := by decide +kernel
theorem dX1_wireInto_26 : decode cX1_wireInto 26 = .ok (.iconst 4, 1) := by decide +kernel
theorem dX1_wireInto_27 : decode cX1_wireInto 27 = .ok (.if_icmp .ge 34, 3) := by decide +kernel
theorem dX1_wireInto_30 : decode cX1_wireInto 30 = .ok (.iload 4, 2) := by decide +kernel
theorem dX1_wireInto_32 : decode cX1_wireInto 32 = .ok (.ifCond .lt 29, 3) := by decide +kernel
theorem dX1_wireInto_35 : decode cX1_wireInto 35 = .ok (.iload 4, 2) := by decide +kernel
theorem dX1_wireInto_37 : decode cX1_wireInto 37 = .ok (.iconst 4, 1) := by decide +kernel
theorem dX1_wireInto_38 : decode cX1_wireInto 38 = .ok (.if_icmp .ge 23, 3) := by decide +kernel
theorem dX1_wireInto_41 : decode cX1_wireInto 41 = .ok (.iload_n 1, 1) := by decide +kernel
theorem dX1_wireInto_42 : decode cX1_wireInto 42 = .ok (.iconst 2, 1) := by decide +kernel
theorem dX1_wireInto_43 : decode cX1_wireInto 43 = .ok (.iadd, 1) := by decide +kernel
theorem dX1_wireInto_44 : decode cX1_wireInto 44 = .ok (.iconst 4, 1) := by decide +kernel
theorem dX1_wireInto_45 : decode cX1_wireInto 45 = .ok (.irem, 1) := by decide +kernel
theorem dX1_wireInto_46 : decode cX1_wireInto 46 = .ok (.istore 5, 2) := by decide +kernel
theorem dX1_wireInto_48 : decode cX1_wireInto 48 = .ok (.iload_n 3, 1) := by decide +kernel
theorem dX1_wireInto_49 : decode cX1_wireInto 49 = .ok (.iconst 4, 1) := by decide +kernel
theorem dX1_wireInto_50 : decode cX1_wireInto 50 = .ok (.imul, 1) := by decide +kernel
theorem dX1_wireInto_51 : decode cX1_wireInto 51 = .ok (.iload 4, 2) := by decide +kernel
theorem dX1_wireInto_53 : decode cX1_wireInto 53 = .ok (.iadd, 1) := by decide +kernel
theorem dX1_wireInto_54 : decode cX1_wireInto 54 = .ok (.iload 5, 2) := by decide +kernel
theorem dX1_wireInto_56 : decode cX1_wireInto 56 = .ok (.iload_n 2, 1) := by decide +kernel
theorem dX1_wireInto_57 : decode cX1_wireInto 57 = .ok (.invokestatic 34, 3) := by decide +kernel
theorem dX1_wireInto_60 : decode cX1_wireInto 60 = .ok (.ireturn, 1) := by decide +kernel
theorem dX1_wireInto_61 : decode cX1_wireInto 61 = .ok (.iload_n 1, 1) := by decide +kernel
theorem dX1_wireInto_62 : decode cX1_wireInto 62 = .ok (.iconst 3, 1) := by decide +kernel
theorem dX1_wireInto_63 : decode cX1_wireInto 63 = .ok (.if_icmp .ne 15, 3) := by decide +kernel
theorem dX1_wireInto_66 : decode cX1_wireInto 66 = .ok (.iload_n 2, 1) := by decide +kernel
theorem dX1_wireInto_67 : decode cX1_wireInto 67 = .ok (.ifCond .ne 11, 3) := by decide +kernel
theorem dX1_wireInto_70 : decode cX1_wireInto 70 = .ok (.sipush 144, 3) := by decide +kernel
theorem dX1_wireInto_73 : decode cX1_wireInto 73 = .ok (.iload_n 3, 1) := by decide +kernel
theorem dX1_wireInto_74 : decode cX1_wireInto 74 = .ok (.iadd, 1) := by decide +kernel
theorem dX1_wireInto_75 : decode cX1_wireInto 75 = .ok (.goto 4, 3) := by decide +kernel
theorem dX1_wireInto_78 : decode cX1_wireInto 78 = .ok (.iconst (-1), 1) := by decide +kernel
theorem dX1_wireInto_79 : decode cX1_wireInto 79 = .ok (.ireturn, 1) := by decide +kernel
theorem dX2_init_0 : decode cX2_init 0 = .ok (.aload_n 0, 1) := by decide +kernel
theorem dX2_init_1 : decode cX2_init 1 = .ok (.invokespecial 3, 3) := by decide +kernel
theorem dX2_init_4 : decode cX2_init 4 = .ok (.aload_n 0, 1) := by decide +kernel
theorem dX2_init_5 : decode cX2_init 5 = .ok (.bipush 15, 2) := by decide +kernel
theorem dX2_init_7 : decode cX2_init 7 = .ok (.newarray .int, 2) := by decide +kernel
theorem dX2_init_9 : decode cX2_init 9 = .ok (.putfield 9, 3) := by decide +kernel
theorem dX2_init_12 : decode cX2_init 12 = .ok (.aload_n 0, 1) := by decide +kernel
theorem dX2_init_13 : decode cX2_init 13 = .ok (.bipush 34, 2) := by decide +kernel
theorem dX2_init_15 : decode cX2_init 15 = .ok (.newarray .int, 2) := by decide +kernel
theorem dX2_init_17 : decode cX2_init 17 = .ok (.putfield 15, 3) := by decide +kernel
theorem dX2_init_20 : decode cX2_init 20 = .ok (.return_, 1) := by decide +kernel
set_option maxRecDepth 20000 in
theorem ggX2_gather_X0_sourceOf : GoodIn wsX2_gather wsX0_sourceOf := goodIn_r _ [7, 8, 11, 12, 13, 14, 15, 16, 17, 18, 19, 20, 21] (by decide +kernel) (by decide +kernel)
set_option maxRecDepth 20000 in
theorem gX2_gather_X0_sourceOf : GoodIn wsX2_gather (wsV RX2 18 RX0 yX0_sourceOf wsX0_sourceOf) := goodIn_app (goodIn_of _ (by decide +kernel)) ggX2_gather_X0_sourceOf
theorem dX2_gather_0 : decode cX2_gather 0 = .ok (.iconst 0, 1) := by decide +kernel
theorem dX2_gather_1 : decode cX2_gather 1 = .ok (.istore_n 2, 1) := by decide +kernel
theorem dX2_gather_2 : decode cX2_gather 2 = .ok (.iconst 0, 1) := by decide +kernel
theorem dX2_gather_3 : decode cX2_gather 3 = .ok (.istore_n 3, 1) := by decide +kernel
theorem dX2_gather_4 : decode cX2_gather 4 = .ok (.iload_n 3, 1) := by decide +kernel
theorem dX2_gather_5 : decode cX2_gather 5 = .ok (.bipush 14, 2) := by decide +kernel
theorem dX2_gather_7 : decode cX2_gather 7 = .ok (.if_icmp .ge 59, 3) := by decide +kernel
theorem dX2_gather_10 : decode cX2_gather 10 = .ok (.aload_n 0, 1) := by decide +kernel
theorem dX2_gather_11 : decode cX2_gather 11 = .ok (.getfield 9, 3) := by decide +kernel
theorem dX2_gather_14 : decode cX2_gather 14 = .ok (.iload_n 3, 1) := by decide +kernel
theorem dX2_gather_15 : decode cX2_gather 15 = .ok (.iload_n 2, 1) := by decide +kernel
theorem dX2_gather_16 : decode cX2_gather 16 = .ok (.iastore, 1) := by decide +kernel
theorem dX2_gather_17 : decode cX2_gather 17 = .ok (.iconst 0, 1) := by decide +kernel
theorem dX2_gather_18 : decode cX2_gather 18 = .ok (.istore 4, 2) := by decide +kernel
theorem dX2_gather_20 : decode cX2_gather 20 = .ok (.iload 4, 2) := by decide +kernel
theorem dX2_gather_22 : decode cX2_gather 22 = .ok (.bipush 34, 2) := by decide +kernel
theorem dX2_gather_24 : decode cX2_gather 24 = .ok (.if_icmp .ge 36, 3) := by decide +kernel
theorem dX2_gather_27 : decode cX2_gather 27 = .ok (.iload_n 2, 1) := by decide +kernel
theorem dX2_gather_28 : decode cX2_gather 28 = .ok (.bipush 34, 2) := by decide +kernel
theorem dX2_gather_30 : decode cX2_gather 30 = .ok (.if_icmp .ge 30, 3) := by decide +kernel
theorem dX2_gather_33 : decode cX2_gather 33 = .ok (.aload_n 1, 1) := by decide +kernel
theorem dX2_gather_34 : decode cX2_gather 34 = .ok (.iload 4, 2) := by decide +kernel
theorem dX2_gather_36 : decode cX2_gather 36 = .ok (.invokevirtual 18, 3) := by decide +kernel
theorem dX2_gather_39 : decode cX2_gather 39 = .ok (.iload_n 3, 1) := by decide +kernel
theorem dX2_gather_40 : decode cX2_gather 40 = .ok (.if_icmp .ne 14, 3) := by decide +kernel
theorem dX2_gather_43 : decode cX2_gather 43 = .ok (.aload_n 0, 1) := by decide +kernel
theorem dX2_gather_44 : decode cX2_gather 44 = .ok (.getfield 15, 3) := by decide +kernel
theorem dX2_gather_47 : decode cX2_gather 47 = .ok (.iload_n 2, 1) := by decide +kernel
theorem dX2_gather_48 : decode cX2_gather 48 = .ok (.iload 4, 2) := by decide +kernel
theorem dX2_gather_50 : decode cX2_gather 50 = .ok (.iastore, 1) := by decide +kernel
theorem dX2_gather_51 : decode cX2_gather 51 = .ok (.iinc 2 1, 3) := by decide +kernel
theorem dX2_gather_54 : decode cX2_gather 54 = .ok (.iinc 4 1, 3) := by decide +kernel
theorem dX2_gather_57 : decode cX2_gather 57 = .ok (.goto (-37), 3) := by decide +kernel
theorem dX2_gather_60 : decode cX2_gather 60 = .ok (.iinc 3 1, 3) := by decide +kernel
theorem dX2_gather_63 : decode cX2_gather 63 = .ok (.goto (-59), 3) := by decide +kernel
theorem dX2_gather_66 : decode cX2_gather 66 = .ok (.aload_n 0, 1) := by decide +kernel
theorem dX2_gather_67 : decode cX2_gather 67 = .ok (.getfield 9, 3) := by decide +kernel
theorem dX2_gather_70 : decode cX2_gather 70 = .ok (.bipush 14, 2) := by decide +kernel
theorem dX2_gather_72 : decode cX2_gather 72 = .ok (.iload_n 2, 1) := by decide +kernel
theorem dX2_gather_73 : decode cX2_gather 73 = .ok (.iastore, 1) := by decide +kernel
theorem dX2_gather_74 : decode cX2_gather 74 = .ok (.return_, 1) := by decide +kernel
theorem dX2_sinksOf_0 : decode cX2_sinksOf 0 = .ok (.iload_n 1, 1) := by decide +kernel
theorem dX2_sinksOf_1 : decode cX2_sinksOf 1 = .ok (.ifCond .lt 9, 3) := by decide +kernel
theorem dX2_sinksOf_4 : decode cX2_sinksOf 4 = .ok (.iload_n 1, 1) := by decide +kernel
theorem dX2_sinksOf_5 : decode cX2_sinksOf 5 = .ok (.bipush 14, 2) := by decide +kernel
theorem dX2_sinksOf_7 : decode cX2_sinksOf 7 = .ok (.if_icmp .lt 7, 3) := by decide +kernel
theorem dX2_sinksOf_10 : decode cX2_sinksOf 10 = .ok (.iconst 0, 1) := by decide +kernel
theorem dX2_sinksOf_11 : decode cX2_sinksOf 11 = .ok (.goto 18, 3) := by decide +kernel
theorem dX2_sinksOf_14 : decode cX2_sinksOf 14 = .ok (.aload_n 0, 1) := by decide +kernel
theorem dX2_sinksOf_15 : decode cX2_sinksOf 15 = .ok (.getfield 9, 3) := by decide +kernel
theorem dX2_sinksOf_18 : decode cX2_sinksOf 18 = .ok (.iload_n 1, 1) := by decide +kernel
theorem dX2_sinksOf_19 : decode cX2_sinksOf 19 = .ok (.iconst 1, 1) := by decide +kernel
theorem dX2_sinksOf_20 : decode cX2_sinksOf 20 = .ok (.iadd, 1) := by decide +kernel
theorem dX2_sinksOf_21 : decode cX2_sinksOf 21 = .ok (.iaload, 1) := by decide +kernel
theorem dX2_sinksOf_22 : decode cX2_sinksOf 22 = .ok (.aload_n 0, 1) := by decide +kernel
theorem dX2_sinksOf_23 : decode cX2_sinksOf 23 = .ok (.getfield 9, 3) := by decide +kernel
theorem dX2_sinksOf_26 : decode cX2_sinksOf 26 = .ok (.iload_n 1, 1) := by decide +kernel
theorem dX2_sinksOf_27 : decode cX2_sinksOf 27 = .ok (.iaload, 1) := by decide +kernel
theorem dX2_sinksOf_28 : decode cX2_sinksOf 28 = .ok (.isub, 1) := by decide +kernel
theorem dX2_sinksOf_29 : decode cX2_sinksOf 29 = .ok (.ireturn, 1) := by decide +kernel
theorem dX2_sinkAt_0 : decode cX2_sinkAt 0 = .ok (.iload_n 1, 1) := by decide +kernel
theorem dX2_sinkAt_1 : decode cX2_sinkAt 1 = .ok (.ifCond .lt 13, 3) := by decide +kernel
theorem dX2_sinkAt_4 : decode cX2_sinkAt 4 = .ok (.iload_n 1, 1) := by decide +kernel
theorem dX2_sinkAt_5 : decode cX2_sinkAt 5 = .ok (.bipush 14, 2) := by decide +kernel
theorem dX2_sinkAt_7 : decode cX2_sinkAt 7 = .ok (.if_icmp .ge 7, 3) := by decide +kernel
theorem dX2_sinkAt_10 : decode cX2_sinkAt 10 = .ok (.iload_n 2, 1) := by decide +kernel
theorem dX2_sinkAt_11 : decode cX2_sinkAt 11 = .ok (.ifCond .ge 5, 3) := by decide +kernel
theorem dX2_sinkAt_14 : decode cX2_sinkAt 14 = .ok (.iconst (-1), 1) := by decide +kernel
theorem dX2_sinkAt_15 : decode cX2_sinkAt 15 = .ok (.ireturn, 1) := by decide +kernel
theorem dX2_sinkAt_16 : decode cX2_sinkAt 16 = .ok (.aload_n 0, 1) := by decide +kernel
theorem dX2_sinkAt_17 : decode cX2_sinkAt 17 = .ok (.getfield 9, 3) := by decide +kernel
theorem dX2_sinkAt_20 : decode cX2_sinkAt 20 = .ok (.iload_n 1, 1) := by decide +kernel
theorem dX2_sinkAt_21 : decode cX2_sinkAt 21 = .ok (.iaload, 1) := by decide +kernel
theorem dX2_sinkAt_22 : decode cX2_sinkAt 22 = .ok (.iload_n 2, 1) := by decide +kernel
theorem dX2_sinkAt_23 : decode cX2_sinkAt 23 = .ok (.iadd, 1) := by decide +kernel
theorem dX2_sinkAt_24 : decode cX2_sinkAt 24 = .ok (.istore_n 3, 1) := by decide +kernel
theorem dX2_sinkAt_25 : decode cX2_sinkAt 25 = .ok (.iload_n 3, 1) := by decide +kernel
theorem dX2_sinkAt_26 : decode cX2_sinkAt 26 = .ok (.aload_n 0, 1) := by decide +kernel
theorem dX2_sinkAt_27 : decode cX2_sinkAt 27 = .ok (.getfield 9, 3) := by decide +kernel
theorem dX2_sinkAt_30 : decode cX2_sinkAt 30 = .ok (.iload_n 1, 1) := by decide +kernel
theorem dX2_sinkAt_31 : decode cX2_sinkAt 31 = .ok (.iconst 1, 1) := by decide +kernel
theorem dX2_sinkAt_32 : decode cX2_sinkAt 32 = .ok (.iadd, 1) := by decide +kernel
theorem dX2_sinkAt_33 : decode cX2_sinkAt 33 = .ok (.iaload, 1) := by decide +kernel
theorem dX2_sinkAt_34 : decode cX2_sinkAt 34 = .ok (.if_icmp .ge 12, 3) := by decide +kernel
theorem dX2_sinkAt_37 : decode cX2_sinkAt 37 = .ok (.aload_n 0, 1) := by decide +kernel
theorem dX2_sinkAt_38 : decode cX2_sinkAt 38 = .ok (.getfield 15, 3) := by decide +kernel
theorem dX2_sinkAt_41 : decode cX2_sinkAt 41 = .ok (.iload_n 3, 1) := by decide +kernel
theorem dX2_sinkAt_42 : decode cX2_sinkAt 42 = .ok (.iaload, 1) := by decide +kernel
theorem dX2_sinkAt_43 : decode cX2_sinkAt 43 = .ok (.goto 4, 3) := by decide +kernel
theorem dX2_sinkAt_46 : decode cX2_sinkAt 46 = .ok (.iconst (-1), 1) := by decide +kernel
theorem dX2_sinkAt_47 : decode cX2_sinkAt 47 = .ok (.ireturn, 1) := by decide +kernel
theorem dX3_init_0 : decode cX3_init 0 = .ok (.aload_n 0, 1) := by decide +kernel
theorem dX3_init_1 : decode cX3_init 1 = .ok (.invokespecial 3, 3) := by decide +kernel
theorem dX3_init_4 : decode cX3_init 4 = .ok (.aload_n 0, 1) := by decide +kernel
theorem dX3_init_5 : decode cX3_init 5 = .ok (.aload_n 1, 1) := by decide +kernel
theorem dX3_init_6 : decode cX3_init 6 = .ok (.putfield 9, 3) := by decide +kernel
theorem dX3_init_9 : decode cX3_init 9 = .ok (.aload_n 0, 1) := by decide +kernel
theorem dX3_init_10 : decode cX3_init 10 = .ok (.aload_n 2, 1) := by decide +kernel
theorem dX3_init_11 : decode cX3_init 11 = .ok (.putfield 15, 3) := by decide +kernel
theorem dX3_init_14 : decode cX3_init 14 = .ok (.aload_n 0, 1) := by decide +kernel
theorem dX3_init_15 : decode cX3_init 15 = .ok (.bipush 16, 2) := by decide +kernel
theorem dX3_init_17 : decode cX3_init 17 = .ok (.newarray .int, 2) := by decide +kernel
theorem dX3_init_19 : decode cX3_init 19 = .ok (.putfield 19, 3) := by decide +kernel
theorem dX3_init_22 : decode cX3_init 22 = .ok (.aload_n 0, 1) := by decide +kernel
theorem dX3_init_23 : decode cX3_init 23 = .ok (.bipush 10, 2) := by decide +kernel
theorem dX3_init_25 : decode cX3_init 25 = .ok (.newarray .int, 2) := by decide +kernel
theorem dX3_init_27 : decode cX3_init 27 = .ok (.putfield 23, 3) := by decide +kernel
theorem dX3_init_30 : decode cX3_init 30 = .ok (.return_, 1) := by decide +kernel
theorem dX3_cellAt_0 : decode cX3_cellAt 0 = .ok (.iload_n 1, 1) := by decide +kernel
theorem dX3_cellAt_1 : decode cX3_cellAt 1 = .ok (.ifCond .lt 9, 3) := by decide +kernel
theorem dX3_cellAt_4 : decode cX3_cellAt 4 = .ok (.iload_n 1, 1) := by decide +kernel
theorem dX3_cellAt_5 : decode cX3_cellAt 5 = .ok (.bipush 16, 2) := by decide +kernel
theorem dX3_cellAt_7 : decode cX3_cellAt 7 = .ok (.if_icmp .lt 7, 3) := by decide +kernel
theorem dX3_cellAt_10 : decode cX3_cellAt 10 = .ok (.iconst (-1), 1) := by decide +kernel
theorem dX3_cellAt_11 : decode cX3_cellAt 11 = .ok (.goto 9, 3) := by decide +kernel
theorem dX3_cellAt_14 : decode cX3_cellAt 14 = .ok (.aload_n 0, 1) := by decide +kernel
theorem dX3_cellAt_15 : decode cX3_cellAt 15 = .ok (.getfield 19, 3) := by decide +kernel
theorem dX3_cellAt_18 : decode cX3_cellAt 18 = .ok (.iload_n 1, 1) := by decide +kernel
theorem dX3_cellAt_19 : decode cX3_cellAt 19 = .ok (.iaload, 1) := by decide +kernel
theorem dX3_cellAt_20 : decode cX3_cellAt 20 = .ok (.ireturn, 1) := by decide +kernel
theorem dX3_siteOf_0 : decode cX3_siteOf 0 = .ok (.iload_n 1, 1) := by decide +kernel
theorem dX3_siteOf_1 : decode cX3_siteOf 1 = .ok (.ifCond .lt 9, 3) := by decide +kernel
theorem dX3_siteOf_4 : decode cX3_siteOf 4 = .ok (.iload_n 1, 1) := by decide +kernel
theorem dX3_siteOf_5 : decode cX3_siteOf 5 = .ok (.bipush 14, 2) := by decide +kernel
theorem dX3_siteOf_7 : decode cX3_siteOf 7 = .ok (.if_icmp .lt 5, 3) := by decide +kernel
theorem dX3_siteOf_10 : decode cX3_siteOf 10 = .ok (.iconst (-1), 1) := by decide +kernel
theorem dX3_siteOf_11 : decode cX3_siteOf 11 = .ok (.ireturn, 1) := by decide +kernel
theorem dX3_siteOf_12 : decode cX3_siteOf 12 = .ok (.iload_n 1, 1) := by decide +kernel
theorem dX3_siteOf_13 : decode cX3_siteOf 13 = .ok (.bipush 10, 2) := by decide +kernel
theorem dX3_siteOf_15 : decode cX3_siteOf 15 = .ok (.if_icmp .ge 12, 3) := by decide +kernel
theorem dX3_siteOf_18 : decode cX3_siteOf 18 = .ok (.aload_n 0, 1) := by decide +kernel
theorem dX3_siteOf_19 : decode cX3_siteOf 19 = .ok (.getfield 23, 3) := by decide +kernel
theorem dX3_siteOf_22 : decode cX3_siteOf 22 = .ok (.iload_n 1, 1) := by decide +kernel
theorem dX3_siteOf_23 : decode cX3_siteOf 23 = .ok (.iaload, 1) := by decide +kernel
theorem dX3_siteOf_24 : decode cX3_siteOf 24 = .ok (.goto 9, 3) := by decide +kernel
theorem dX3_siteOf_27 : decode cX3_siteOf 27 = .ok (.iload_n 1, 1) := by decide +kernel
theorem dX3_siteOf_28 : decode cX3_siteOf 28 = .ok (.bipush 10, 2) := by decide +kernel
theorem dX3_siteOf_30 : decode cX3_siteOf 30 = .ok (.isub, 1) := by decide +kernel
theorem dX3_siteOf_31 : decode cX3_siteOf 31 = .ok (.iconst 4, 1) := by decide +kernel
theorem dX3_siteOf_32 : decode cX3_siteOf 32 = .ok (.imul, 1) := by decide +kernel
theorem dX3_siteOf_33 : decode cX3_siteOf 33 = .ok (.ireturn, 1) := by decide +kernel
theorem dX3_siteOfSink_0 : decode cX3_siteOfSink 0 = .ok (.iload_n 1, 1) := by decide +kernel
theorem dX3_siteOfSink_1 : decode cX3_siteOfSink 1 = .ok (.ifCond .lt 9, 3) := by decide +kernel
theorem dX3_siteOfSink_4 : decode cX3_siteOfSink 4 = .ok (.iload_n 1, 1) := by decide +kernel
theorem dX3_siteOfSink_5 : decode cX3_siteOfSink 5 = .ok (.bipush 34, 2) := by decide +kernel
theorem dX3_siteOfSink_7 : decode cX3_siteOfSink 7 = .ok (.if_icmp .lt 5, 3) := by decide +kernel
theorem dX3_siteOfSink_10 : decode cX3_siteOfSink 10 = .ok (.iconst (-1), 1) := by decide +kernel
theorem dX3_siteOfSink_11 : decode cX3_siteOfSink 11 = .ok (.ireturn, 1) := by decide +kernel
theorem dX3_siteOfSink_12 : decode cX3_siteOfSink 12 = .ok (.iload_n 1, 1) := by decide +kernel
theorem dX3_siteOfSink_13 : decode cX3_siteOfSink 13 = .ok (.bipush 30, 2) := by decide +kernel
theorem dX3_siteOfSink_15 : decode cX3_siteOfSink 15 = .ok (.if_icmp .ge 14, 3) := by decide +kernel
theorem dX3_siteOfSink_18 : decode cX3_siteOfSink 18 = .ok (.aload_n 0, 1) := by decide +kernel
theorem dX3_siteOfSink_19 : decode cX3_siteOfSink 19 = .ok (.getfield 23, 3) := by decide +kernel
theorem dX3_siteOfSink_22 : decode cX3_siteOfSink 22 = .ok (.iload_n 1, 1) := by decide +kernel
theorem dX3_siteOfSink_23 : decode cX3_siteOfSink 23 = .ok (.iconst 3, 1) := by decide +kernel
theorem dX3_siteOfSink_24 : decode cX3_siteOfSink 24 = .ok (.idiv, 1) := by decide +kernel
theorem dX3_siteOfSink_25 : decode cX3_siteOfSink 25 = .ok (.iaload, 1) := by decide +kernel
theorem dX3_siteOfSink_26 : decode cX3_siteOfSink 26 = .ok (.goto 13, 3) := by decide +kernel
theorem dX3_siteOfSink_29 : decode cX3_siteOfSink 29 = .ok (.iload_n 1, 1) := by decide +kernel
theorem dX3_siteOfSink_30 : decode cX3_siteOfSink 30 = .ok (.bipush 30, 2) := by decide +kernel
theorem dX3_siteOfSink_32 : decode cX3_siteOfSink 32 = .ok (.isub, 1) := by decide +kernel
theorem dX3_siteOfSink_33 : decode cX3_siteOfSink 33 = .ok (.iconst 1, 1) := by decide +kernel
theorem dX3_siteOfSink_34 : decode cX3_siteOfSink 34 = .ok (.iadd, 1) := by decide +kernel
theorem dX3_siteOfSink_35 : decode cX3_siteOfSink 35 = .ok (.iconst 4, 1) := by decide +kernel
theorem dX3_siteOfSink_36 : decode cX3_siteOfSink 36 = .ok (.imul, 1) := by decide +kernel
theorem dX3_siteOfSink_37 : decode cX3_siteOfSink 37 = .ok (.iconst 1, 1) := by decide +kernel
theorem dX3_siteOfSink_38 : decode cX3_siteOfSink 38 = .ok (.isub, 1) := by decide +kernel
theorem dX3_siteOfSink_39 : decode cX3_siteOfSink 39 = .ok (.ireturn, 1) := by decide +kernel
set_option maxRecDepth 20000 in
theorem ggX3_place_X3_putFirst : GoodIn wsX3_place wsX3_putFirst := goodIn_r _ [5, 6, 7, 8, 9, 10, 11, 12, 13, 14, 15, 16, 17, 18, 19, 20, 21, 22, 23, 24, 25, 26, 27, 28, 29, 4, 30, 31, 79, 80, 81, 82, 83, 84, 85, 86, 87, 88, 89, 90, 91, 92, 93] (by decide +kernel) (by decide +kernel)
set_option maxRecDepth 20000 in
theorem gX3_place_X3_putFirst : GoodIn wsX3_place (wsV RX3 26 RX3 yX3_putFirst wsX3_putFirst) := goodIn_app (goodIn_of _ (by decide +kernel)) ggX3_place_X3_putFirst
set_option maxRecDepth 20000 in
theorem ggX3_place_X3_sumOfSpans : GoodIn wsX3_place wsX3_sumOfSpans := goodIn_r _ [35, 36, 37, 38, 39, 40, 41, 42, 43, 44, 45, 4, 46, 47, 48, 49, 50, 51, 52, 53, 54, 55, 56, 57, 31, 58, 59, 60, 61, 62, 63, 64, 65, 66, 79, 80, 81, 82, 94, 95] (by decide +kernel) (by decide +kernel)
set_option maxRecDepth 20000 in
theorem gX3_place_X3_sumOfSpans : GoodIn wsX3_place (wsV RX3 29 RX3 yX3_sumOfSpans wsX3_sumOfSpans) := goodIn_app (goodIn_of _ (by decide +kernel)) ggX3_place_X3_sumOfSpans
set_option maxRecDepth 20000 in
theorem ggX3_place_X3_goThrough : GoodIn wsX3_place wsX3_goThrough := goodIn_r _ [70, 71, 72, 73, 4, 74, 7, 6, 18, 19, 20, 15, 21, 22, 23, 24, 25, 26, 17, 75, 76, 77, 78, 27, 28, 29, 30, 31, 32, 33, 34, 35, 36, 37, 38, 39, 40, 41, 42, 43, 44, 45, 46, 47, 48, 49, 50, 51, 52, 53, 54, 55, 56, 57, 58, 59, 60, 61, 62, 63, 64, 65, 66, 79, 80, 81, 82, 83, 84, 85, 86, 87, 88, 89, 90, 91, 92, 93, 94, 95] (by decide +kernel) (by decide +kernel)
set_option maxRecDepth 20000 in
theorem gX3_place_X3_goThrough : GoodIn wsX3_place (wsV RX3 33 RX3 yX3_goThrough wsX3_goThrough) := goodIn_app (goodIn_of _ (by decide +kernel)) ggX3_place_X3_goThrough
theorem dX3_place_0 : decode cX3_place 0 = .ok (.aload_n 0, 1) := by decide +kernel
theorem dX3_place_1 : decode cX3_place 1 = .ok (.invokevirtual 26, 3) := by decide +kernel
theorem dX3_place_4 : decode cX3_place 4 = .ok (.aload_n 0, 1) := by decide +kernel
theorem dX3_place_5 : decode cX3_place 5 = .ok (.invokevirtual 29, 3) := by decide +kernel
theorem dX3_place_8 : decode cX3_place 8 = .ok (.istore_n 1, 1) := by decide +kernel
theorem dX3_place_9 : decode cX3_place 9 = .ok (.iconst 0, 1) := by decide +kernel
theorem dX3_place_10 : decode cX3_place 10 = .ok (.istore_n 2, 1) := by decide +kernel
theorem dX3_place_11 : decode cX3_place 11 = .ok (.iload_n 2, 1) := by decide +kernel
theorem dX3_place_12 : decode cX3_place 12 = .ok (.bipush 20, 2) := by decide +kernel
theorem dX3_place_14 : decode cX3_place 14 = .ok (.if_icmp .ge 25, 3) := by decide +kernel
theorem dX3_place_17 : decode cX3_place 17 = .ok (.aload_n 0, 1) := by decide +kernel
theorem dX3_place_18 : decode cX3_place 18 = .ok (.iload_n 1, 1) := by decide +kernel
theorem dX3_place_19 : decode cX3_place 19 = .ok (.invokevirtual 33, 3) := by decide +kernel
theorem dX3_place_22 : decode cX3_place 22 = .ok (.istore_n 3, 1) := by decide +kernel
theorem dX3_place_23 : decode cX3_place 23 = .ok (.iload_n 3, 1) := by decide +kernel
theorem dX3_place_24 : decode cX3_place 24 = .ok (.iload_n 1, 1) := by decide +kernel
theorem dX3_place_25 : decode cX3_place 25 = .ok (.if_icmp .ne 6, 3) := by decide +kernel
theorem dX3_place_28 : decode cX3_place 28 = .ok (.goto 11, 3) := by decide +kernel
theorem dX3_place_31 : decode cX3_place 31 = .ok (.iload_n 3, 1) := by decide +kernel
theorem dX3_place_32 : decode cX3_place 32 = .ok (.istore_n 1, 1) := by decide +kernel
theorem dX3_place_33 : decode cX3_place 33 = .ok (.iinc 2 1, 3) := by decide +kernel
theorem dX3_place_36 : decode cX3_place 36 = .ok (.goto (-25), 3) := by decide +kernel
theorem dX3_place_39 : decode cX3_place 39 = .ok (.iload_n 1, 1) := by decide +kernel
theorem dX3_place_40 : decode cX3_place 40 = .ok (.ireturn, 1) := by decide +kernel
set_option maxRecDepth 20000 in
theorem ggX3_putFirst_J7_fill_53178 : GoodIn wsX3_putFirst wsJ7_fill_53178 := goodIn_r _ [6] (by decide +kernel) (by decide +kernel)
set_option maxRecDepth 20000 in
theorem gX3_putFirst_J7_fill_53178 : GoodIn wsX3_putFirst (va_wsS RX3 37 yJ7_fill_53178 wsJ7_fill_53178) := goodIn_app (goodIn_of _ (by decide +kernel)) ggX3_putFirst_J7_fill_53178
set_option maxRecDepth 20000 in
theorem ggX3_putFirst_X0_size : GoodIn wsX3_putFirst wsX0_size := goodIn_r _ [11, 12, 32, 33, 34, 35, 36, 37, 38, 39, 40, 41, 42] (by decide +kernel) (by decide +kernel)
set_option maxRecDepth 20000 in
theorem gX3_putFirst_X0_size : GoodIn wsX3_putFirst (wsV RX3 43 RX0 yX0_size wsX0_size) := goodIn_app (goodIn_of _ (by decide +kernel)) ggX3_putFirst_X0_size
set_option maxRecDepth 20000 in
theorem ggX3_putFirst_X0_fixedTile : GoodIn wsX3_putFirst wsX0_fixedTile := goodIn_r _ [16, 17, 18, 19, 20, 10, 21, 12, 32, 33, 34, 35, 36, 37, 38, 39, 40, 41, 42] (by decide +kernel) (by decide +kernel)
set_option maxRecDepth 20000 in
theorem gX3_putFirst_X0_fixedTile : GoodIn wsX3_putFirst (wsV RX3 48 RX0 yX0_fixedTile wsX0_fixedTile) := goodIn_app (goodIn_of _ (by decide +kernel)) ggX3_putFirst_X0_fixedTile
set_option maxRecDepth 20000 in
theorem ggX3_putFirst_X3_put : GoodIn wsX3_putFirst wsX3_put := goodIn_r _ [26, 1, 27, 28, 29, 30, 31] (by decide +kernel) (by decide +kernel)
set_option maxRecDepth 20000 in
theorem gX3_putFirst_X3_put : GoodIn wsX3_putFirst (wsV RX3 51 RX3 yX3_put wsX3_put) := goodIn_app (goodIn_of _ (by decide +kernel)) ggX3_putFirst_X3_put
theorem dX3_putFirst_0 : decode cX3_putFirst 0 = .ok (.aload_n 0, 1) := by decide +kernel
theorem dX3_putFirst_1 : decode cX3_putFirst 1 = .ok (.getfield 19, 3) := by decide +kernel
theorem dX3_putFirst_4 : decode cX3_putFirst 4 = .ok (.iconst (-1), 1) := by decide +kernel
theorem dX3_putFirst_5 : decode cX3_putFirst 5 = .ok (.invokestatic 37, 3) := by decide +kernel
theorem dX3_putFirst_8 : decode cX3_putFirst 8 = .ok (.iconst 0, 1) := by decide +kernel
theorem dX3_putFirst_9 : decode cX3_putFirst 9 = .ok (.istore_n 1, 1) := by decide +kernel
theorem dX3_putFirst_10 : decode cX3_putFirst 10 = .ok (.iload_n 1, 1) := by decide +kernel
theorem dX3_putFirst_11 : decode cX3_putFirst 11 = .ok (.aload_n 0, 1) := by decide +kernel
theorem dX3_putFirst_12 : decode cX3_putFirst 12 = .ok (.getfield 9, 3) := by decide +kernel
theorem dX3_putFirst_15 : decode cX3_putFirst 15 = .ok (.invokevirtual 43, 3) := by decide +kernel
theorem dX3_putFirst_18 : decode cX3_putFirst 18 = .ok (.if_icmp .ge 22, 3) := by decide +kernel
theorem dX3_putFirst_21 : decode cX3_putFirst 21 = .ok (.aload_n 0, 1) := by decide +kernel
theorem dX3_putFirst_22 : decode cX3_putFirst 22 = .ok (.iload_n 1, 1) := by decide +kernel
theorem dX3_putFirst_23 : decode cX3_putFirst 23 = .ok (.aload_n 0, 1) := by decide +kernel
theorem dX3_putFirst_24 : decode cX3_putFirst 24 = .ok (.getfield 9, 3) := by decide +kernel
theorem dX3_putFirst_27 : decode cX3_putFirst 27 = .ok (.iload_n 1, 1) := by decide +kernel
theorem dX3_putFirst_28 : decode cX3_putFirst 28 = .ok (.invokevirtual 48, 3) := by decide +kernel
theorem dX3_putFirst_31 : decode cX3_putFirst 31 = .ok (.invokevirtual 51, 3) := by decide +kernel
theorem dX3_putFirst_34 : decode cX3_putFirst 34 = .ok (.iinc 1 1, 3) := by decide +kernel
theorem dX3_putFirst_37 : decode cX3_putFirst 37 = .ok (.goto (-27), 3) := by decide +kernel
theorem dX3_putFirst_40 : decode cX3_putFirst 40 = .ok (.iconst 0, 1) := by decide +kernel
theorem dX3_putFirst_41 : decode cX3_putFirst 41 = .ok (.istore_n 1, 1) := by decide +kernel
theorem dX3_putFirst_42 : decode cX3_putFirst 42 = .ok (.iconst 0, 1) := by decide +kernel
theorem dX3_putFirst_43 : decode cX3_putFirst 43 = .ok (.istore_n 2, 1) := by decide +kernel
theorem dX3_putFirst_44 : decode cX3_putFirst 44 = .ok (.iload_n 2, 1) := by decide +kernel
theorem dX3_putFirst_45 : decode cX3_putFirst 45 = .ok (.aload_n 0, 1) := by decide +kernel
theorem dX3_putFirst_46 : decode cX3_putFirst 46 = .ok (.getfield 9, 3) := by decide +kernel
theorem dX3_putFirst_49 : decode cX3_putFirst 49 = .ok (.invokevirtual 43, 3) := by decide +kernel
theorem dX3_putFirst_52 : decode cX3_putFirst 52 = .ok (.if_icmp .ge 49, 3) := by decide +kernel
theorem dX3_putFirst_55 : decode cX3_putFirst 55 = .ok (.aload_n 0, 1) := by decide +kernel
theorem dX3_putFirst_56 : decode cX3_putFirst 56 = .ok (.getfield 9, 3) := by decide +kernel
theorem dX3_putFirst_59 : decode cX3_putFirst 59 = .ok (.iload_n 2, 1) := by decide +kernel
theorem dX3_putFirst_60 : decode cX3_putFirst 60 = .ok (.invokevirtual 48, 3) := by decide +kernel
theorem dX3_putFirst_63 : decode cX3_putFirst 63 = .ok (.iconst (-1), 1) := by decide +kernel
theorem dX3_putFirst_64 : decode cX3_putFirst 64 = .ok (.if_icmp .ne 31, 3) := by decide +kernel
theorem dX3_putFirst_67 : decode cX3_putFirst 67 = .ok (.iload_n 1, 1) := by decide +kernel
theorem dX3_putFirst_68 : decode cX3_putFirst 68 = .ok (.bipush 16, 2) := by decide +kernel
theorem dX3_putFirst_70 : decode cX3_putFirst 70 = .ok (.if_icmp .ge 19, 3) := by decide +kernel
theorem dX3_putFirst_73 : decode cX3_putFirst 73 = .ok (.aload_n 0, 1) := by decide +kernel
theorem dX3_putFirst_74 : decode cX3_putFirst 74 = .ok (.getfield 19, 3) := by decide +kernel
theorem dX3_putFirst_77 : decode cX3_putFirst 77 = .ok (.iload_n 1, 1) := by decide +kernel
theorem dX3_putFirst_78 : decode cX3_putFirst 78 = .ok (.iaload, 1) := by decide +kernel
theorem dX3_putFirst_79 : decode cX3_putFirst 79 = .ok (.iconst (-1), 1) := by decide +kernel
theorem dX3_putFirst_80 : decode cX3_putFirst 80 = .ok (.if_icmp .eq 9, 3) := by decide +kernel
theorem dX3_putFirst_83 : decode cX3_putFirst 83 = .ok (.iinc 1 1, 3) := by decide +kernel
theorem dX3_putFirst_86 : decode cX3_putFirst 86 = .ok (.goto (-19), 3) := by decide +kernel
theorem dX3_putFirst_89 : decode cX3_putFirst 89 = .ok (.aload_n 0, 1) := by decide +kernel
theorem dX3_putFirst_90 : decode cX3_putFirst 90 = .ok (.iload_n 2, 1) := by decide +kernel
theorem dX3_putFirst_91 : decode cX3_putFirst 91 = .ok (.iload_n 1, 1) := by decide +kernel
theorem dX3_putFirst_92 : decode cX3_putFirst 92 = .ok (.invokevirtual 51, 3) := by decide +kernel
theorem dX3_putFirst_95 : decode cX3_putFirst 95 = .ok (.iinc 2 1, 3) := by decide +kernel
theorem dX3_putFirst_98 : decode cX3_putFirst 98 = .ok (.goto (-54), 3) := by decide +kernel
theorem dX3_putFirst_101 : decode cX3_putFirst 101 = .ok (.return_, 1) := by decide +kernel
theorem dX3_put_0 : decode cX3_put 0 = .ok (.iload_n 2, 1) := by decide +kernel
theorem dX3_put_1 : decode cX3_put 1 = .ok (.ifCond .lt 9, 3) := by decide +kernel
theorem dX3_put_4 : decode cX3_put 4 = .ok (.iload_n 2, 1) := by decide +kernel
theorem dX3_put_5 : decode cX3_put 5 = .ok (.bipush 16, 2) := by decide +kernel
theorem dX3_put_7 : decode cX3_put 7 = .ok (.if_icmp .lt 4, 3) := by decide +kernel
theorem dX3_put_10 : decode cX3_put 10 = .ok (.return_, 1) := by decide +kernel
theorem dX3_put_11 : decode cX3_put 11 = .ok (.aload_n 0, 1) := by decide +kernel
theorem dX3_put_12 : decode cX3_put 12 = .ok (.getfield 19, 3) := by decide +kernel
theorem dX3_put_15 : decode cX3_put 15 = .ok (.iload_n 2, 1) := by decide +kernel
theorem dX3_put_16 : decode cX3_put 16 = .ok (.iload_n 1, 1) := by decide +kernel
theorem dX3_put_17 : decode cX3_put 17 = .ok (.iastore, 1) := by decide +kernel
theorem dX3_put_18 : decode cX3_put 18 = .ok (.iload_n 1, 1) := by decide +kernel
theorem dX3_put_19 : decode cX3_put 19 = .ok (.ifCond .lt 16, 3) := by decide +kernel
theorem dX3_put_22 : decode cX3_put 22 = .ok (.iload_n 1, 1) := by decide +kernel
theorem dX3_put_23 : decode cX3_put 23 = .ok (.bipush 10, 2) := by decide +kernel
theorem dX3_put_25 : decode cX3_put 25 = .ok (.if_icmp .ge 10, 3) := by decide +kernel
theorem dX3_put_28 : decode cX3_put 28 = .ok (.aload_n 0, 1) := by decide +kernel
theorem dX3_put_29 : decode cX3_put 29 = .ok (.getfield 23, 3) := by decide +kernel
theorem dX3_put_32 : decode cX3_put 32 = .ok (.iload_n 1, 1) := by decide +kernel
theorem dX3_put_33 : decode cX3_put 33 = .ok (.iload_n 2, 1) := by decide +kernel
theorem dX3_put_34 : decode cX3_put 34 = .ok (.iastore, 1) := by decide +kernel
theorem dX3_put_35 : decode cX3_put 35 = .ok (.return_, 1) := by decide +kernel
set_option maxRecDepth 20000 in
theorem ggX3_goThrough_X3_isFixed : GoodIn wsX3_goThrough wsX3_isFixed := goodIn_r _ [5, 6, 7, 8, 9, 10, 11, 12, 13, 14, 15, 16, 17, 18, 63, 64, 65, 66, 67, 68, 69, 70, 71, 72, 73, 74, 75, 76, 77] (by decide +kernel) (by decide +kernel)
set_option maxRecDepth 20000 in
theorem gX3_goThrough_X3_isFixed : GoodIn wsX3_goThrough (wsV RX3 55 RX3 yX3_isFixed wsX3_isFixed) := goodIn_app (goodIn_of _ (by decide +kernel)) ggX3_goThrough_X3_isFixed
set_option maxRecDepth 20000 in
theorem ggX3_goThrough_X3_exchangeIfBetter : GoodIn wsX3_goThrough wsX3_exchangeIfBetter := goodIn_r _ [22, 7, 23, 24, 25, 4, 26, 27, 28, 29, 30, 31, 32, 33, 34, 35, 36, 37, 38, 39, 40, 41, 42, 43, 44, 45, 46, 47, 48, 49, 50, 51, 52, 53, 54, 55, 56, 57, 58, 59, 60, 61, 62, 63, 64, 65, 66, 78, 79] (by decide +kernel) (by decide +kernel)
set_option maxRecDepth 20000 in
theorem gX3_goThrough_X3_exchangeIfBetter : GoodIn wsX3_goThrough (wsV RX3 59 RX3 yX3_exchangeIfBetter wsX3_exchangeIfBetter) := goodIn_app (goodIn_of _ (by decide +kernel)) ggX3_goThrough_X3_exchangeIfBetter
theorem dX3_goThrough_0 : decode cX3_goThrough 0 = .ok (.iload_n 1, 1) := by decide +kernel
theorem dX3_goThrough_1 : decode cX3_goThrough 1 = .ok (.istore_n 2, 1) := by decide +kernel
theorem dX3_goThrough_2 : decode cX3_goThrough 2 = .ok (.iconst 0, 1) := by decide +kernel
theorem dX3_goThrough_3 : decode cX3_goThrough 3 = .ok (.istore_n 3, 1) := by decide +kernel
theorem dX3_goThrough_4 : decode cX3_goThrough 4 = .ok (.iload_n 3, 1) := by decide +kernel
theorem dX3_goThrough_5 : decode cX3_goThrough 5 = .ok (.bipush 16, 2) := by decide +kernel
theorem dX3_goThrough_7 : decode cX3_goThrough 7 = .ok (.if_icmp .ge 53, 3) := by decide +kernel
theorem dX3_goThrough_10 : decode cX3_goThrough 10 = .ok (.iload_n 3, 1) := by decide +kernel
theorem dX3_goThrough_11 : decode cX3_goThrough 11 = .ok (.iconst 1, 1) := by decide +kernel
theorem dX3_goThrough_12 : decode cX3_goThrough 12 = .ok (.iadd, 1) := by decide +kernel
theorem dX3_goThrough_13 : decode cX3_goThrough 13 = .ok (.istore 4, 2) := by decide +kernel
theorem dX3_goThrough_15 : decode cX3_goThrough 15 = .ok (.iload 4, 2) := by decide +kernel
theorem dX3_goThrough_17 : decode cX3_goThrough 17 = .ok (.bipush 16, 2) := by decide +kernel
theorem dX3_goThrough_19 : decode cX3_goThrough 19 = .ok (.if_icmp .ge 35, 3) := by decide +kernel
theorem dX3_goThrough_22 : decode cX3_goThrough 22 = .ok (.aload_n 0, 1) := by decide +kernel
theorem dX3_goThrough_23 : decode cX3_goThrough 23 = .ok (.iload_n 3, 1) := by decide +kernel
theorem dX3_goThrough_24 : decode cX3_goThrough 24 = .ok (.invokevirtual 55, 3) := by decide +kernel
theorem dX3_goThrough_27 : decode cX3_goThrough 27 = .ok (.ifCond .ne 27, 3) := by decide +kernel
theorem dX3_goThrough_30 : decode cX3_goThrough 30 = .ok (.aload_n 0, 1) := by decide +kernel
theorem dX3_goThrough_31 : decode cX3_goThrough 31 = .ok (.iload 4, 2) := by decide +kernel
theorem dX3_goThrough_33 : decode cX3_goThrough 33 = .ok (.invokevirtual 55, 3) := by decide +kernel
theorem dX3_goThrough_36 : decode cX3_goThrough 36 = .ok (.ifCond .ne 12, 3) := by decide +kernel
theorem dX3_goThrough_39 : decode cX3_goThrough 39 = .ok (.aload_n 0, 1) := by decide +kernel
theorem dX3_goThrough_40 : decode cX3_goThrough 40 = .ok (.iload_n 3, 1) := by decide +kernel
theorem dX3_goThrough_41 : decode cX3_goThrough 41 = .ok (.iload 4, 2) := by decide +kernel
theorem dX3_goThrough_43 : decode cX3_goThrough 43 = .ok (.iload_n 2, 1) := by decide +kernel
theorem dX3_goThrough_44 : decode cX3_goThrough 44 = .ok (.invokevirtual 59, 3) := by decide +kernel
theorem dX3_goThrough_47 : decode cX3_goThrough 47 = .ok (.istore_n 2, 1) := by decide +kernel
theorem dX3_goThrough_48 : decode cX3_goThrough 48 = .ok (.iinc 4 1, 3) := by decide +kernel
theorem dX3_goThrough_51 : decode cX3_goThrough 51 = .ok (.goto (-36), 3) := by decide +kernel
theorem dX3_goThrough_54 : decode cX3_goThrough 54 = .ok (.iinc 3 1, 3) := by decide +kernel
theorem dX3_goThrough_57 : decode cX3_goThrough 57 = .ok (.goto (-53), 3) := by decide +kernel
theorem dX3_goThrough_60 : decode cX3_goThrough 60 = .ok (.iload_n 2, 1) := by decide +kernel
theorem dX3_goThrough_61 : decode cX3_goThrough 61 = .ok (.ireturn, 1) := by decide +kernel
set_option maxRecDepth 20000 in
theorem ggX3_isFixed_X0_fixedTile : GoodIn wsX3_isFixed wsX0_fixedTile := goodIn_r _ [7, 8, 9, 10, 11, 6, 12, 13, 18, 19, 20, 21, 22, 23, 24, 25, 26, 27, 28] (by decide +kernel) (by decide +kernel)
set_option maxRecDepth 20000 in
theorem gX3_isFixed_X0_fixedTile : GoodIn wsX3_isFixed (wsV RX3 48 RX0 yX0_fixedTile wsX0_fixedTile) := goodIn_app (goodIn_of _ (by decide +kernel)) ggX3_isFixed_X0_fixedTile
theorem dX3_isFixed_0 : decode cX3_isFixed 0 = .ok (.aload_n 0, 1) := by decide +kernel
theorem dX3_isFixed_1 : decode cX3_isFixed 1 = .ok (.getfield 9, 3) := by decide +kernel
theorem dX3_isFixed_4 : decode cX3_isFixed 4 = .ok (.aload_n 0, 1) := by decide +kernel
theorem dX3_isFixed_5 : decode cX3_isFixed 5 = .ok (.getfield 19, 3) := by decide +kernel
theorem dX3_isFixed_8 : decode cX3_isFixed 8 = .ok (.iload_n 1, 1) := by decide +kernel
theorem dX3_isFixed_9 : decode cX3_isFixed 9 = .ok (.iaload, 1) := by decide +kernel
theorem dX3_isFixed_10 : decode cX3_isFixed 10 = .ok (.invokevirtual 48, 3) := by decide +kernel
theorem dX3_isFixed_13 : decode cX3_isFixed 13 = .ok (.iconst (-1), 1) := by decide +kernel
theorem dX3_isFixed_14 : decode cX3_isFixed 14 = .ok (.if_icmp .eq 7, 3) := by decide +kernel
theorem dX3_isFixed_17 : decode cX3_isFixed 17 = .ok (.iconst 1, 1) := by decide +kernel
theorem dX3_isFixed_18 : decode cX3_isFixed 18 = .ok (.goto 4, 3) := by decide +kernel
theorem dX3_isFixed_21 : decode cX3_isFixed 21 = .ok (.iconst 0, 1) := by decide +kernel
theorem dX3_isFixed_22 : decode cX3_isFixed 22 = .ok (.ireturn, 1) := by decide +kernel
set_option maxRecDepth 20000 in
theorem ggX3_exchangeIfBetter_X3_put : GoodIn wsX3_exchangeIfBetter wsX3_put := goodIn_r _ [6, 1, 7, 43, 44, 45, 46] (by decide +kernel) (by decide +kernel)
set_option maxRecDepth 20000 in
theorem gX3_exchangeIfBetter_X3_put : GoodIn wsX3_exchangeIfBetter (wsV RX3 51 RX3 yX3_put wsX3_put) := goodIn_app (goodIn_of _ (by decide +kernel)) ggX3_exchangeIfBetter_X3_put
set_option maxRecDepth 20000 in
theorem ggX3_exchangeIfBetter_X3_sumOfSpans : GoodIn wsX3_exchangeIfBetter wsX3_sumOfSpans := goodIn_r _ [11, 12, 13, 14, 15, 16, 17, 18, 19, 20, 21, 5, 22, 23, 24, 25, 26, 27, 28, 29, 30, 31, 32, 33, 7, 34, 35, 36, 37, 38, 39, 40, 41, 42, 43, 44, 45, 46, 47, 48] (by decide +kernel) (by decide +kernel)
set_option maxRecDepth 20000 in
theorem gX3_exchangeIfBetter_X3_sumOfSpans : GoodIn wsX3_exchangeIfBetter (wsV RX3 29 RX3 yX3_sumOfSpans wsX3_sumOfSpans) := goodIn_app (goodIn_of _ (by decide +kernel)) ggX3_exchangeIfBetter_X3_sumOfSpans
theorem dX3_exchangeIfBetter_0 : decode cX3_exchangeIfBetter 0 = .ok (.aload_n 0, 1) := by decide +kernel
theorem dX3_exchangeIfBetter_1 : decode cX3_exchangeIfBetter 1 = .ok (.getfield 19, 3) := by decide +kernel
theorem dX3_exchangeIfBetter_4 : decode cX3_exchangeIfBetter 4 = .ok (.iload_n 1, 1) := by decide +kernel
theorem dX3_exchangeIfBetter_5 : decode cX3_exchangeIfBetter 5 = .ok (.iaload, 1) := by decide +kernel
theorem dX3_exchangeIfBetter_6 : decode cX3_exchangeIfBetter 6 = .ok (.istore 4, 2) := by decide +kernel
theorem dX3_exchangeIfBetter_8 : decode cX3_exchangeIfBetter 8 = .ok (.aload_n 0, 1) := by decide +kernel
theorem dX3_exchangeIfBetter_9 : decode cX3_exchangeIfBetter 9 = .ok (.getfield 19, 3) := by decide +kernel
theorem dX3_exchangeIfBetter_12 : decode cX3_exchangeIfBetter 12 = .ok (.iload_n 2, 1) := by decide +kernel
theorem dX3_exchangeIfBetter_13 : decode cX3_exchangeIfBetter 13 = .ok (.iaload, 1) := by decide +kernel
theorem dX3_exchangeIfBetter_14 : decode cX3_exchangeIfBetter 14 = .ok (.istore 5, 2) := by decide +kernel
theorem dX3_exchangeIfBetter_16 : decode cX3_exchangeIfBetter 16 = .ok (.iload 4, 2) := by decide +kernel
theorem dX3_exchangeIfBetter_18 : decode cX3_exchangeIfBetter 18 = .ok (.iload 5, 2) := by decide +kernel
theorem dX3_exchangeIfBetter_20 : decode cX3_exchangeIfBetter 20 = .ok (.if_icmp .ne 5, 3) := by decide +kernel
theorem dX3_exchangeIfBetter_23 : decode cX3_exchangeIfBetter 23 = .ok (.iload_n 3, 1) := by decide +kernel
theorem dX3_exchangeIfBetter_24 : decode cX3_exchangeIfBetter 24 = .ok (.ireturn, 1) := by decide +kernel
theorem dX3_exchangeIfBetter_25 : decode cX3_exchangeIfBetter 25 = .ok (.aload_n 0, 1) := by decide +kernel
theorem dX3_exchangeIfBetter_26 : decode cX3_exchangeIfBetter 26 = .ok (.iload 5, 2) := by decide +kernel
theorem dX3_exchangeIfBetter_28 : decode cX3_exchangeIfBetter 28 = .ok (.iload_n 1, 1) := by decide +kernel
theorem dX3_exchangeIfBetter_29 : decode cX3_exchangeIfBetter 29 = .ok (.invokevirtual 51, 3) := by decide +kernel
theorem dX3_exchangeIfBetter_32 : decode cX3_exchangeIfBetter 32 = .ok (.aload_n 0, 1) := by decide +kernel
theorem dX3_exchangeIfBetter_33 : decode cX3_exchangeIfBetter 33 = .ok (.iload 4, 2) := by decide +kernel
theorem dX3_exchangeIfBetter_35 : decode cX3_exchangeIfBetter 35 = .ok (.iload_n 2, 1) := by decide +kernel
theorem dX3_exchangeIfBetter_36 : decode cX3_exchangeIfBetter 36 = .ok (.invokevirtual 51, 3) := by decide +kernel
theorem dX3_exchangeIfBetter_39 : decode cX3_exchangeIfBetter 39 = .ok (.aload_n 0, 1) := by decide +kernel
theorem dX3_exchangeIfBetter_40 : decode cX3_exchangeIfBetter 40 = .ok (.invokevirtual 29, 3) := by decide +kernel
theorem dX3_exchangeIfBetter_43 : decode cX3_exchangeIfBetter 43 = .ok (.istore 6, 2) := by decide +kernel
theorem dX3_exchangeIfBetter_45 : decode cX3_exchangeIfBetter 45 = .ok (.iload 6, 2) := by decide +kernel
theorem dX3_exchangeIfBetter_47 : decode cX3_exchangeIfBetter 47 = .ok (.iload_n 3, 1) := by decide +kernel
theorem dX3_exchangeIfBetter_48 : decode cX3_exchangeIfBetter 48 = .ok (.if_icmp .ge 6, 3) := by decide +kernel
theorem dX3_exchangeIfBetter_51 : decode cX3_exchangeIfBetter 51 = .ok (.iload 6, 2) := by decide +kernel
theorem dX3_exchangeIfBetter_53 : decode cX3_exchangeIfBetter 53 = .ok (.ireturn, 1) := by decide +kernel
theorem dX3_exchangeIfBetter_54 : decode cX3_exchangeIfBetter 54 = .ok (.aload_n 0, 1) := by decide +kernel
theorem dX3_exchangeIfBetter_55 : decode cX3_exchangeIfBetter 55 = .ok (.iload 4, 2) := by decide +kernel
theorem dX3_exchangeIfBetter_57 : decode cX3_exchangeIfBetter 57 = .ok (.iload_n 1, 1) := by decide +kernel
theorem dX3_exchangeIfBetter_58 : decode cX3_exchangeIfBetter 58 = .ok (.invokevirtual 51, 3) := by decide +kernel
theorem dX3_exchangeIfBetter_61 : decode cX3_exchangeIfBetter 61 = .ok (.aload_n 0, 1) := by decide +kernel
theorem dX3_exchangeIfBetter_62 : decode cX3_exchangeIfBetter 62 = .ok (.iload 5, 2) := by decide +kernel
theorem dX3_exchangeIfBetter_64 : decode cX3_exchangeIfBetter 64 = .ok (.iload_n 2, 1) := by decide +kernel
theorem dX3_exchangeIfBetter_65 : decode cX3_exchangeIfBetter 65 = .ok (.invokevirtual 51, 3) := by decide +kernel
theorem dX3_exchangeIfBetter_68 : decode cX3_exchangeIfBetter 68 = .ok (.iload_n 3, 1) := by decide +kernel
theorem dX3_exchangeIfBetter_69 : decode cX3_exchangeIfBetter 69 = .ok (.ireturn, 1) := by decide +kernel
set_option maxRecDepth 20000 in
theorem ggX3_sumOfSpans_X2_sinksOf : GoodIn wsX3_sumOfSpans wsX2_sinksOf := goodIn_r _ [6, 7, 38, 39] (by decide +kernel) (by decide +kernel)
set_option maxRecDepth 20000 in
theorem gX3_sumOfSpans_X2_sinksOf : GoodIn wsX3_sumOfSpans (wsV RX3 63 RX2 yX2_sinksOf wsX2_sinksOf) := goodIn_app (goodIn_of _ (by decide +kernel)) ggX3_sumOfSpans_X2_sinksOf
set_option maxRecDepth 20000 in
theorem ggX3_sumOfSpans_X3_spanOf : GoodIn wsX3_sumOfSpans wsX3_spanOf := goodIn_r _ [12, 1, 13, 14, 15, 16, 17, 18, 19, 20, 21, 22, 11, 23, 24, 2, 3, 4, 5, 6, 7, 25, 26, 27, 28, 29, 30, 31, 32, 33, 34, 35, 36, 37, 38, 39] (by decide +kernel) (by decide +kernel)
set_option maxRecDepth 20000 in
theorem gX3_sumOfSpans_X3_spanOf : GoodIn wsX3_sumOfSpans (wsV RX3 68 RX3 yX3_spanOf wsX3_spanOf) := goodIn_app (goodIn_of _ (by decide +kernel)) ggX3_sumOfSpans_X3_spanOf
theorem dX3_sumOfSpans_0 : decode cX3_sumOfSpans 0 = .ok (.iconst 0, 1) := by decide +kernel
theorem dX3_sumOfSpans_1 : decode cX3_sumOfSpans 1 = .ok (.istore_n 1, 1) := by decide +kernel
theorem dX3_sumOfSpans_2 : decode cX3_sumOfSpans 2 = .ok (.iconst 0, 1) := by decide +kernel
theorem dX3_sumOfSpans_3 : decode cX3_sumOfSpans 3 = .ok (.istore_n 2, 1) := by decide +kernel
theorem dX3_sumOfSpans_4 : decode cX3_sumOfSpans 4 = .ok (.iload_n 2, 1) := by decide +kernel
theorem dX3_sumOfSpans_5 : decode cX3_sumOfSpans 5 = .ok (.bipush 14, 2) := by decide +kernel
theorem dX3_sumOfSpans_7 : decode cX3_sumOfSpans 7 = .ok (.if_icmp .ge 28, 3) := by decide +kernel
theorem dX3_sumOfSpans_10 : decode cX3_sumOfSpans 10 = .ok (.aload_n 0, 1) := by decide +kernel
theorem dX3_sumOfSpans_11 : decode cX3_sumOfSpans 11 = .ok (.getfield 15, 3) := by decide +kernel
theorem dX3_sumOfSpans_14 : decode cX3_sumOfSpans 14 = .ok (.iload_n 2, 1) := by decide +kernel
theorem dX3_sumOfSpans_15 : decode cX3_sumOfSpans 15 = .ok (.invokevirtual 63, 3) := by decide +kernel
theorem dX3_sumOfSpans_18 : decode cX3_sumOfSpans 18 = .ok (.ifCond .le 11, 3) := by decide +kernel
theorem dX3_sumOfSpans_21 : decode cX3_sumOfSpans 21 = .ok (.iload_n 1, 1) := by decide +kernel
theorem dX3_sumOfSpans_22 : decode cX3_sumOfSpans 22 = .ok (.aload_n 0, 1) := by decide +kernel
theorem dX3_sumOfSpans_23 : decode cX3_sumOfSpans 23 = .ok (.iload_n 2, 1) := by decide +kernel
theorem dX3_sumOfSpans_24 : decode cX3_sumOfSpans 24 = .ok (.invokevirtual 68, 3) := by decide +kernel
theorem dX3_sumOfSpans_27 : decode cX3_sumOfSpans 27 = .ok (.iadd, 1) := by decide +kernel
theorem dX3_sumOfSpans_28 : decode cX3_sumOfSpans 28 = .ok (.istore_n 1, 1) := by decide +kernel
theorem dX3_sumOfSpans_29 : decode cX3_sumOfSpans 29 = .ok (.iinc 2 1, 3) := by decide +kernel
theorem dX3_sumOfSpans_32 : decode cX3_sumOfSpans 32 = .ok (.goto (-28), 3) := by decide +kernel
theorem dX3_sumOfSpans_35 : decode cX3_sumOfSpans 35 = .ok (.iload_n 1, 1) := by decide +kernel
theorem dX3_sumOfSpans_36 : decode cX3_sumOfSpans 36 = .ok (.ireturn, 1) := by decide +kernel
set_option maxRecDepth 20000 in
theorem ggX3_spanOf_X3_siteOf : GoodIn wsX3_spanOf wsX3_siteOf := goodIn_r _ [13, 14, 30, 31, 32, 33] (by decide +kernel) (by decide +kernel)
set_option maxRecDepth 20000 in
theorem gX3_spanOf_X3_siteOf : GoodIn wsX3_spanOf (wsV RX3 71 RX3 yX3_siteOf wsX3_siteOf) := goodIn_app (goodIn_of _ (by decide +kernel)) ggX3_spanOf_X3_siteOf
set_option maxRecDepth 20000 in
theorem ggX3_spanOf_X2_sinksOf : GoodIn wsX3_spanOf wsX2_sinksOf := goodIn_r _ [19, 20, 34, 35] (by decide +kernel) (by decide +kernel)
set_option maxRecDepth 20000 in
theorem gX3_spanOf_X2_sinksOf : GoodIn wsX3_spanOf (wsV RX3 63 RX2 yX2_sinksOf wsX2_sinksOf) := goodIn_app (goodIn_of _ (by decide +kernel)) ggX3_spanOf_X2_sinksOf
set_option maxRecDepth 20000 in
theorem ggX3_spanOf_X2_sinkAt : GoodIn wsX3_spanOf wsX2_sinkAt := goodIn_r _ [24, 20, 25, 34, 35] (by decide +kernel) (by decide +kernel)
set_option maxRecDepth 20000 in
theorem gX3_spanOf_X2_sinkAt : GoodIn wsX3_spanOf (wsV RX3 74 RX2 yX2_sinkAt wsX2_sinkAt) := goodIn_app (goodIn_of _ (by decide +kernel)) ggX3_spanOf_X2_sinkAt
set_option maxRecDepth 20000 in
theorem ggX3_spanOf_X3_siteOfSink : GoodIn wsX3_spanOf wsX3_siteOfSink := goodIn_r _ [29, 14, 30, 31, 32, 33] (by decide +kernel) (by decide +kernel)
set_option maxRecDepth 20000 in
theorem gX3_spanOf_X3_siteOfSink : GoodIn wsX3_spanOf (wsV RX3 78 RX3 yX3_siteOfSink wsX3_siteOfSink) := goodIn_app (goodIn_of _ (by decide +kernel)) ggX3_spanOf_X3_siteOfSink
theorem dX3_spanOf_0 : decode cX3_spanOf 0 = .ok (.aload_n 0, 1) := by decide +kernel
theorem dX3_spanOf_1 : decode cX3_spanOf 1 = .ok (.iload_n 1, 1) := by decide +kernel
theorem dX3_spanOf_2 : decode cX3_spanOf 2 = .ok (.invokevirtual 71, 3) := by decide +kernel
theorem dX3_spanOf_5 : decode cX3_spanOf 5 = .ok (.istore_n 2, 1) := by decide +kernel
theorem dX3_spanOf_6 : decode cX3_spanOf 6 = .ok (.iload_n 2, 1) := by decide +kernel
theorem dX3_spanOf_7 : decode cX3_spanOf 7 = .ok (.iconst 4, 1) := by decide +kernel
theorem dX3_spanOf_8 : decode cX3_spanOf 8 = .ok (.idiv, 1) := by decide +kernel
theorem dX3_spanOf_9 : decode cX3_spanOf 9 = .ok (.istore_n 3, 1) := by decide +kernel
theorem dX3_spanOf_10 : decode cX3_spanOf 10 = .ok (.iload_n 3, 1) := by decide +kernel
theorem dX3_spanOf_11 : decode cX3_spanOf 11 = .ok (.istore 4, 2) := by decide +kernel
theorem dX3_spanOf_13 : decode cX3_spanOf 13 = .ok (.iload_n 2, 1) := by decide +kernel
theorem dX3_spanOf_14 : decode cX3_spanOf 14 = .ok (.iconst 4, 1) := by decide +kernel
theorem dX3_spanOf_15 : decode cX3_spanOf 15 = .ok (.irem, 1) := by decide +kernel
theorem dX3_spanOf_16 : decode cX3_spanOf 16 = .ok (.istore 5, 2) := by decide +kernel
theorem dX3_spanOf_18 : decode cX3_spanOf 18 = .ok (.iload 5, 2) := by decide +kernel
theorem dX3_spanOf_20 : decode cX3_spanOf 20 = .ok (.istore 6, 2) := by decide +kernel
theorem dX3_spanOf_22 : decode cX3_spanOf 22 = .ok (.iconst 0, 1) := by decide +kernel
theorem dX3_spanOf_23 : decode cX3_spanOf 23 = .ok (.istore 7, 2) := by decide +kernel
theorem dX3_spanOf_25 : decode cX3_spanOf 25 = .ok (.iload 7, 2) := by decide +kernel
theorem dX3_spanOf_27 : decode cX3_spanOf 27 = .ok (.aload_n 0, 1) := by decide +kernel
theorem dX3_spanOf_28 : decode cX3_spanOf 28 = .ok (.getfield 15, 3) := by decide +kernel
theorem dX3_spanOf_31 : decode cX3_spanOf 31 = .ok (.iload_n 1, 1) := by decide +kernel
theorem dX3_spanOf_32 : decode cX3_spanOf 32 = .ok (.invokevirtual 63, 3) := by decide +kernel
theorem dX3_spanOf_35 : decode cX3_spanOf 35 = .ok (.if_icmp .ge 62, 3) := by decide +kernel
theorem dX3_spanOf_38 : decode cX3_spanOf 38 = .ok (.aload_n 0, 1) := by decide +kernel
theorem dX3_spanOf_39 : decode cX3_spanOf 39 = .ok (.aload_n 0, 1) := by decide +kernel
theorem dX3_spanOf_40 : decode cX3_spanOf 40 = .ok (.getfield 15, 3) := by decide +kernel
theorem dX3_spanOf_43 : decode cX3_spanOf 43 = .ok (.iload_n 1, 1) := by decide +kernel
theorem dX3_spanOf_44 : decode cX3_spanOf 44 = .ok (.iload 7, 2) := by decide +kernel
theorem dX3_spanOf_46 : decode cX3_spanOf 46 = .ok (.invokevirtual 74, 3) := by decide +kernel
theorem dX3_spanOf_49 : decode cX3_spanOf 49 = .ok (.invokevirtual 78, 3) := by decide +kernel
theorem dX3_spanOf_52 : decode cX3_spanOf 52 = .ok (.istore_n 2, 1) := by decide +kernel
theorem dX3_spanOf_53 : decode cX3_spanOf 53 = .ok (.iload_n 3, 1) := by decide +kernel
theorem dX3_spanOf_54 : decode cX3_spanOf 54 = .ok (.iload_n 2, 1) := by decide +kernel
theorem dX3_spanOf_55 : decode cX3_spanOf 55 = .ok (.iconst 4, 1) := by decide +kernel
theorem dX3_spanOf_56 : decode cX3_spanOf 56 = .ok (.idiv, 1) := by decide +kernel
theorem dX3_spanOf_57 : decode cX3_spanOf 57 = .ok (.invokestatic 81, 3) := by decide +kernel
theorem dX3_spanOf_60 : decode cX3_spanOf 60 = .ok (.istore_n 3, 1) := by decide +kernel
theorem dX3_spanOf_61 : decode cX3_spanOf 61 = .ok (.iload 4, 2) := by decide +kernel
theorem dX3_spanOf_63 : decode cX3_spanOf 63 = .ok (.iload_n 2, 1) := by decide +kernel
theorem dX3_spanOf_64 : decode cX3_spanOf 64 = .ok (.iconst 4, 1) := by decide +kernel
theorem dX3_spanOf_65 : decode cX3_spanOf 65 = .ok (.idiv, 1) := by decide +kernel
theorem dX3_spanOf_66 : decode cX3_spanOf 66 = .ok (.invokestatic 86, 3) := by decide +kernel
theorem dX3_spanOf_69 : decode cX3_spanOf 69 = .ok (.istore 4, 2) := by decide +kernel
theorem dX3_spanOf_71 : decode cX3_spanOf 71 = .ok (.iload 5, 2) := by decide +kernel
theorem dX3_spanOf_73 : decode cX3_spanOf 73 = .ok (.iload_n 2, 1) := by decide +kernel
theorem dX3_spanOf_74 : decode cX3_spanOf 74 = .ok (.iconst 4, 1) := by decide +kernel
theorem dX3_spanOf_75 : decode cX3_spanOf 75 = .ok (.irem, 1) := by decide +kernel
theorem dX3_spanOf_76 : decode cX3_spanOf 76 = .ok (.invokestatic 81, 3) := by decide +kernel
theorem dX3_spanOf_79 : decode cX3_spanOf 79 = .ok (.istore 5, 2) := by decide +kernel
theorem dX3_spanOf_81 : decode cX3_spanOf 81 = .ok (.iload 6, 2) := by decide +kernel
theorem dX3_spanOf_83 : decode cX3_spanOf 83 = .ok (.iload_n 2, 1) := by decide +kernel
theorem dX3_spanOf_84 : decode cX3_spanOf 84 = .ok (.iconst 4, 1) := by decide +kernel
theorem dX3_spanOf_85 : decode cX3_spanOf 85 = .ok (.irem, 1) := by decide +kernel
theorem dX3_spanOf_86 : decode cX3_spanOf 86 = .ok (.invokestatic 86, 3) := by decide +kernel
theorem dX3_spanOf_89 : decode cX3_spanOf 89 = .ok (.istore 6, 2) := by decide +kernel
theorem dX3_spanOf_91 : decode cX3_spanOf 91 = .ok (.iinc 7 1, 3) := by decide +kernel
theorem dX3_spanOf_94 : decode cX3_spanOf 94 = .ok (.goto (-69), 3) := by decide +kernel
theorem dX3_spanOf_97 : decode cX3_spanOf 97 = .ok (.iload 6, 2) := by decide +kernel
theorem dX3_spanOf_99 : decode cX3_spanOf 99 = .ok (.iload 5, 2) := by decide +kernel
theorem dX3_spanOf_101 : decode cX3_spanOf 101 = .ok (.isub, 1) := by decide +kernel
theorem dX3_spanOf_102 : decode cX3_spanOf 102 = .ok (.iload 4, 2) := by decide +kernel
theorem dX3_spanOf_104 : decode cX3_spanOf 104 = .ok (.iadd, 1) := by decide +kernel
theorem dX3_spanOf_105 : decode cX3_spanOf 105 = .ok (.iload_n 3, 1) := by decide +kernel
theorem dX3_spanOf_106 : decode cX3_spanOf 106 = .ok (.isub, 1) := by decide +kernel
theorem dX3_spanOf_107 : decode cX3_spanOf 107 = .ok (.ireturn, 1) := by decide +kernel
set_option maxRecDepth 20000 in
theorem ggX4_init_X7_init : GoodIn wsX4_init wsX7_init := goodIn_r _ [22, 23, 2, 3, 11, 24, 16, 25, 37, 38, 39, 40] (by decide +kernel) (by decide +kernel)
set_option maxRecDepth 20000 in
theorem gX4_init_X7_init : GoodIn wsX4_init (wsX7_init) := ggX4_init_X7_init
theorem dX4_init_0 : decode cX4_init 0 = .ok (.aload_n 0, 1) := by decide +kernel
theorem dX4_init_1 : decode cX4_init 1 = .ok (.invokespecial 3, 3) := by decide +kernel
theorem dX4_init_4 : decode cX4_init 4 = .ok (.aload_n 0, 1) := by decide +kernel
