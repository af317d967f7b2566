theorem dX0_init_0 : decode cX0_init 0 = .ok (.aload_n 0, 1) := by decide +kernel
theorem dX0_init_1 : decode cX0_init 1 = .ok (.invokespecial 5, 3) := by decide +kernel
theorem dX0_init_4 : decode cX0_init 4 = .ok (.aload_n 0, 1) := by decide +kernel
theorem dX0_init_5 : decode cX0_init 5 = .ok (.new 11, 3) := by decide +kernel
theorem dX0_init_8 : decode cX0_init 8 = .ok (.dup, 1) := by decide +kernel
theorem dX0_init_9 : decode cX0_init 9 = .ok (.invokespecial 13, 3) := by decide +kernel
theorem dX0_init_12 : decode cX0_init 12 = .ok (.putfield 14, 3) := by decide +kernel
theorem dX0_init_15 : decode cX0_init 15 = .ok (.aload_n 0, 1) := by decide +kernel
theorem dX0_init_16 : decode cX0_init 16 = .ok (.new 11, 3) := by decide +kernel
theorem dX0_init_19 : decode cX0_init 19 = .ok (.dup, 1) := by decide +kernel
theorem dX0_init_20 : decode cX0_init 20 = .ok (.invokespecial 13, 3) := by decide +kernel
theorem dX0_init_23 : decode cX0_init 23 = .ok (.putfield 20, 3) := by decide +kernel
theorem dX0_init_26 : decode cX0_init 26 = .ok (.aload_n 0, 1) := by decide +kernel
theorem dX0_init_27 : decode cX0_init 27 = .ok (.bipush 24, 2) := by decide +kernel
theorem dX0_init_29 : decode cX0_init 29 = .ok (.bipush 24, 2) := by decide +kernel
theorem dX0_init_31 : decode cX0_init 31 = .ok (.multianewarray 23 2, 4) := by decide +kernel
theorem dX0_init_35 : decode cX0_init 35 = .ok (.putfield 25, 3) := by decide +kernel
theorem dX0_init_38 : decode cX0_init 38 = .ok (.aload_n 0, 1) := by decide +kernel
theorem dX0_init_39 : decode cX0_init 39 = .ok (.bipush 24, 2) := by decide +kernel
theorem dX0_init_41 : decode cX0_init 41 = .ok (.bipush 24, 2) := by decide +kernel
theorem dX0_init_43 : decode cX0_init 43 = .ok (.multianewarray 23 2, 4) := by decide +kernel
theorem dX0_init_47 : decode cX0_init 47 = .ok (.putfield 28, 3) := by decide +kernel
theorem dX0_init_50 : decode cX0_init 50 = .ok (.aload_n 0, 1) := by decide +kernel
theorem dX0_init_51 : decode cX0_init 51 = .ok (.bipush 24, 2) := by decide +kernel
theorem dX0_init_53 : decode cX0_init 53 = .ok (.newarray .int, 2) := by decide +kernel
theorem dX0_init_55 : decode cX0_init 55 = .ok (.putfield 31, 3) := by decide +kernel
theorem dX0_init_58 : decode cX0_init 58 = .ok (.aload_n 0, 1) := by decide +kernel
theorem dX0_init_59 : decode cX0_init 59 = .ok (.bipush 24, 2) := by decide +kernel
theorem dX0_init_61 : decode cX0_init 61 = .ok (.newarray .int, 2) := by decide +kernel
theorem dX0_init_63 : decode cX0_init 63 = .ok (.putfield 35, 3) := by decide +kernel
theorem dX0_init_66 : decode cX0_init 66 = .ok (.aload_n 0, 1) := by decide +kernel
theorem dX0_init_67 : decode cX0_init 67 = .ok (.bipush 24, 2) := by decide +kernel
theorem dX0_init_69 : decode cX0_init 69 = .ok (.newarray .int, 2) := by decide +kernel
theorem dX0_init_71 : decode cX0_init 71 = .ok (.putfield 38, 3) := by decide +kernel
theorem dX0_init_74 : decode cX0_init 74 = .ok (.aload_n 0, 1) := by decide +kernel
theorem dX0_init_75 : decode cX0_init 75 = .ok (.bipush 24, 2) := by decide +kernel
theorem dX0_init_77 : decode cX0_init 77 = .ok (.newarray .int, 2) := by decide +kernel
theorem dX0_init_79 : decode cX0_init 79 = .ok (.putfield 41, 3) := by decide +kernel
theorem dX0_init_82 : decode cX0_init 82 = .ok (.aload_n 0, 1) := by decide +kernel
theorem dX0_init_83 : decode cX0_init 83 = .ok (.bipush 24, 2) := by decide +kernel
theorem dX0_init_85 : decode cX0_init 85 = .ok (.newarray .int, 2) := by decide +kernel
theorem dX0_init_87 : decode cX0_init 87 = .ok (.putfield 44, 3) := by decide +kernel
theorem dX0_init_90 : decode cX0_init 90 = .ok (.aload_n 0, 1) := by decide +kernel
theorem dX0_init_91 : decode cX0_init 91 = .ok (.bipush 24, 2) := by decide +kernel
theorem dX0_init_93 : decode cX0_init 93 = .ok (.newarray .int, 2) := by decide +kernel
theorem dX0_init_95 : decode cX0_init 95 = .ok (.putfield 47, 3) := by decide +kernel
theorem dX0_init_98 : decode cX0_init 98 = .ok (.aload_n 0, 1) := by decide +kernel
theorem dX0_init_99 : decode cX0_init 99 = .ok (.bipush 24, 2) := by decide +kernel
theorem dX0_init_101 : decode cX0_init 101 = .ok (.newarray .boolean, 2) := by decide +kernel
theorem dX0_init_103 : decode cX0_init 103 = .ok (.putfield 50, 3) := by decide +kernel
theorem dX0_init_106 : decode cX0_init 106 = .ok (.return_, 1) := by decide +kernel
set_option maxRecDepth 20000 in
theorem ggX0_load_X3_fill : GoodIn wsX0_load wsX3_fill := goodIn_r _ [8, 9, 10, 11, 12, 13, 14, 15, 16, 17, 18, 19, 20, 21, 22, 34, 35, 36, 37, 38, 39, 40, 41] (by decide +kernel) (by decide +kernel)
set_option maxRecDepth 20000 in
theorem gX0_load_X3_fill : GoodIn wsX0_load (wsV RX0 54 RX3 yX3_fill wsX3_fill) := goodIn_app (goodIn_of _ (by decide +kernel)) ggX0_load_X3_fill
theorem dX0_load_0 : decode cX0_load 0 = .ok (.aload_n 0, 1) := by decide +kernel
theorem dX0_load_1 : decode cX0_load 1 = .ok (.getfield 14, 3) := by decide +kernel
theorem dX0_load_4 : decode cX0_load 4 = .ok (.aload_n 1, 1) := by decide +kernel
theorem dX0_load_5 : decode cX0_load 5 = .ok (.invokevirtual 54, 3) := by decide +kernel
theorem dX0_load_8 : decode cX0_load 8 = .ok (.aload_n 0, 1) := by decide +kernel
theorem dX0_load_9 : decode cX0_load 9 = .ok (.getfield 20, 3) := by decide +kernel
theorem dX0_load_12 : decode cX0_load 12 = .ok (.aload_n 2, 1) := by decide +kernel
theorem dX0_load_13 : decode cX0_load 13 = .ok (.invokevirtual 54, 3) := by decide +kernel
theorem dX0_load_16 : decode cX0_load 16 = .ok (.aload_n 0, 1) := by decide +kernel
theorem dX0_load_17 : decode cX0_load 17 = .ok (.getfield 14, 3) := by decide +kernel
theorem dX0_load_20 : decode cX0_load 20 = .ok (.getfield 58, 3) := by decide +kernel
theorem dX0_load_23 : decode cX0_load 23 = .ok (.aload_n 0, 1) := by decide +kernel
theorem dX0_load_24 : decode cX0_load 24 = .ok (.getfield 20, 3) := by decide +kernel
theorem dX0_load_27 : decode cX0_load 27 = .ok (.getfield 58, 3) := by decide +kernel
theorem dX0_load_30 : decode cX0_load 30 = .ok (.if_icmp .le 19, 3) := by decide +kernel
theorem dX0_load_33 : decode cX0_load 33 = .ok (.aload_n 0, 1) := by decide +kernel
theorem dX0_load_34 : decode cX0_load 34 = .ok (.getfield 14, 3) := by decide +kernel
theorem dX0_load_37 : decode cX0_load 37 = .ok (.aload_n 2, 1) := by decide +kernel
theorem dX0_load_38 : decode cX0_load 38 = .ok (.invokevirtual 54, 3) := by decide +kernel
theorem dX0_load_41 : decode cX0_load 41 = .ok (.aload_n 0, 1) := by decide +kernel
theorem dX0_load_42 : decode cX0_load 42 = .ok (.getfield 20, 3) := by decide +kernel
theorem dX0_load_45 : decode cX0_load 45 = .ok (.aload_n 1, 1) := by decide +kernel
theorem dX0_load_46 : decode cX0_load 46 = .ok (.invokevirtual 54, 3) := by decide +kernel
theorem dX0_load_49 : decode cX0_load 49 = .ok (.return_, 1) := by decide +kernel
theorem dX0_unitsGoing_0 : decode cX0_unitsGoing 0 = .ok (.aload_n 0, 1) := by decide +kernel
theorem dX0_unitsGoing_1 : decode cX0_unitsGoing 1 = .ok (.getfield 14, 3) := by decide +kernel
theorem dX0_unitsGoing_4 : decode cX0_unitsGoing 4 = .ok (.getfield 58, 3) := by decide +kernel
theorem dX0_unitsGoing_7 : decode cX0_unitsGoing 7 = .ok (.ireturn, 1) := by decide +kernel
set_option maxRecDepth 20000 in
theorem ggX0_leastCost_X0_begin : GoodIn wsX0_leastCost wsX0_begin := goodIn_r _ [11, 1, 2, 3, 12, 13, 14, 15, 16, 17, 5, 6, 18, 19, 20, 21, 22, 23, 66, 67, 68, 69, 70, 71, 72, 73, 74, 75, 76, 77, 78, 79, 80, 81] (by decide +kernel) (by decide +kernel)
set_option maxRecDepth 20000 in
theorem gX0_leastCost_X0_begin : GoodIn wsX0_leastCost (wsV RX0 62 RX0 yX0_begin wsX0_begin) := goodIn_app (goodIn_of _ (by decide +kernel)) ggX0_leastCost_X0_begin
set_option maxRecDepth 20000 in
theorem ggX0_leastCost_X0_sendAll : GoodIn wsX0_leastCost wsX0_sendAll := goodIn_r _ [27, 1, 28, 29, 30, 31, 32, 10, 33, 34, 3, 2, 35, 36, 20, 21, 22, 23, 37, 38, 39, 40, 41, 5, 18, 19, 42, 43, 44, 45, 46, 47, 48, 49, 50, 6, 51, 52, 53, 54, 55, 56, 57, 58, 59, 60, 15, 61, 62, 63, 64, 65, 66, 67, 68, 69, 70, 71, 72, 73, 74, 75, 76, 77, 78, 79, 80, 81] (by decide +kernel) (by decide +kernel)
set_option maxRecDepth 20000 in
theorem gX0_leastCost_X0_sendAll : GoodIn wsX0_leastCost (wsV RX0 69 RX0 yX0_sendAll wsX0_sendAll) := goodIn_app (goodIn_of _ (by decide +kernel)) ggX0_leastCost_X0_sendAll
theorem dX0_leastCost_0 : decode cX0_leastCost 0 = .ok (.aload_n 0, 1) := by decide +kernel
theorem dX0_leastCost_1 : decode cX0_leastCost 1 = .ok (.aload_n 1, 1) := by decide +kernel
theorem dX0_leastCost_2 : decode cX0_leastCost 2 = .ok (.invokevirtual 62, 3) := by decide +kernel
theorem dX0_leastCost_5 : decode cX0_leastCost 5 = .ok (.iconst 0, 1) := by decide +kernel
theorem dX0_leastCost_6 : decode cX0_leastCost 6 = .ok (.istore_n 2, 1) := by decide +kernel
theorem dX0_leastCost_7 : decode cX0_leastCost 7 = .ok (.iload_n 2, 1) := by decide +kernel
theorem dX0_leastCost_8 : decode cX0_leastCost 8 = .ok (.aload_n 0, 1) := by decide +kernel
theorem dX0_leastCost_9 : decode cX0_leastCost 9 = .ok (.getfield 14, 3) := by decide +kernel
theorem dX0_leastCost_12 : decode cX0_leastCost 12 = .ok (.getfield 66, 3) := by decide +kernel
theorem dX0_leastCost_15 : decode cX0_leastCost 15 = .ok (.if_icmp .ge 14, 3) := by decide +kernel
theorem dX0_leastCost_18 : decode cX0_leastCost 18 = .ok (.aload_n 0, 1) := by decide +kernel
theorem dX0_leastCost_19 : decode cX0_leastCost 19 = .ok (.iload_n 2, 1) := by decide +kernel
theorem dX0_leastCost_20 : decode cX0_leastCost 20 = .ok (.invokevirtual 69, 3) := by decide +kernel
theorem dX0_leastCost_23 : decode cX0_leastCost 23 = .ok (.iinc 2 1, 3) := by decide +kernel
theorem dX0_leastCost_26 : decode cX0_leastCost 26 = .ok (.goto (-19), 3) := by decide +kernel
theorem dX0_leastCost_29 : decode cX0_leastCost 29 = .ok (.aload_n 1, 1) := by decide +kernel
theorem dX0_leastCost_30 : decode cX0_leastCost 30 = .ok (.bipush 7, 2) := by decide +kernel
theorem dX0_leastCost_32 : decode cX0_leastCost 32 = .ok (.iaload, 1) := by decide +kernel
theorem dX0_leastCost_33 : decode cX0_leastCost 33 = .ok (.i2l, 1) := by decide +kernel
theorem dX0_leastCost_34 : decode cX0_leastCost 34 = .ok (.aload_n 0, 1) := by decide +kernel
theorem dX0_leastCost_35 : decode cX0_leastCost 35 = .ok (.getfield 20, 3) := by decide +kernel
theorem dX0_leastCost_38 : decode cX0_leastCost 38 = .ok (.getfield 58, 3) := by decide +kernel
theorem dX0_leastCost_41 : decode cX0_leastCost 41 = .ok (.aload_n 0, 1) := by decide +kernel
theorem dX0_leastCost_42 : decode cX0_leastCost 42 = .ok (.getfield 14, 3) := by decide +kernel
theorem dX0_leastCost_45 : decode cX0_leastCost 45 = .ok (.getfield 58, 3) := by decide +kernel
theorem dX0_leastCost_48 : decode cX0_leastCost 48 = .ok (.isub, 1) := by decide +kernel
theorem dX0_leastCost_49 : decode cX0_leastCost 49 = .ok (.i2l, 1) := by decide +kernel
theorem dX0_leastCost_50 : decode cX0_leastCost 50 = .ok (.lmul, 1) := by decide +kernel
theorem dX0_leastCost_51 : decode cX0_leastCost 51 = .ok (.lstore_n 2, 1) := by decide +kernel
theorem dX0_leastCost_52 : decode cX0_leastCost 52 = .ok (.iconst 0, 1) := by decide +kernel
theorem dX0_leastCost_53 : decode cX0_leastCost 53 = .ok (.istore 4, 2) := by decide +kernel
theorem dX0_leastCost_55 : decode cX0_leastCost 55 = .ok (.iload 4, 2) := by decide +kernel
theorem dX0_leastCost_57 : decode cX0_leastCost 57 = .ok (.aload_n 0, 1) := by decide +kernel
theorem dX0_leastCost_58 : decode cX0_leastCost 58 = .ok (.getfield 14, 3) := by decide +kernel
theorem dX0_leastCost_61 : decode cX0_leastCost 61 = .ok (.getfield 66, 3) := by decide +kernel
theorem dX0_leastCost_64 : decode cX0_leastCost 64 = .ok (.if_icmp .ge 56, 3) := by decide +kernel
theorem dX0_leastCost_67 : decode cX0_leastCost 67 = .ok (.iconst 0, 1) := by decide +kernel
theorem dX0_leastCost_68 : decode cX0_leastCost 68 = .ok (.istore 5, 2) := by decide +kernel
theorem dX0_leastCost_70 : decode cX0_leastCost 70 = .ok (.iload 5, 2) := by decide +kernel
theorem dX0_leastCost_72 : decode cX0_leastCost 72 = .ok (.aload_n 0, 1) := by decide +kernel
theorem dX0_leastCost_73 : decode cX0_leastCost 73 = .ok (.getfield 20, 3) := by decide +kernel
theorem dX0_leastCost_76 : decode cX0_leastCost 76 = .ok (.getfield 66, 3) := by decide +kernel
theorem dX0_leastCost_79 : decode cX0_leastCost 79 = .ok (.if_icmp .ge 35, 3) := by decide +kernel
theorem dX0_leastCost_82 : decode cX0_leastCost 82 = .ok (.lload_n 2, 1) := by decide +kernel
theorem dX0_leastCost_83 : decode cX0_leastCost 83 = .ok (.aload_n 0, 1) := by decide +kernel
theorem dX0_leastCost_84 : decode cX0_leastCost 84 = .ok (.getfield 25, 3) := by decide +kernel
theorem dX0_leastCost_87 : decode cX0_leastCost 87 = .ok (.iload 4, 2) := by decide +kernel
theorem dX0_leastCost_89 : decode cX0_leastCost 89 = .ok (.aaload, 1) := by decide +kernel
theorem dX0_leastCost_90 : decode cX0_leastCost 90 = .ok (.iload 5, 2) := by decide +kernel
theorem dX0_leastCost_92 : decode cX0_leastCost 92 = .ok (.iaload, 1) := by decide +kernel
theorem dX0_leastCost_93 : decode cX0_leastCost 93 = .ok (.i2l, 1) := by decide +kernel
theorem dX0_leastCost_94 : decode cX0_leastCost 94 = .ok (.aload_n 0, 1) := by decide +kernel
theorem dX0_leastCost_95 : decode cX0_leastCost 95 = .ok (.getfield 28, 3) := by decide +kernel
theorem dX0_leastCost_98 : decode cX0_leastCost 98 = .ok (.iload 4, 2) := by decide +kernel
theorem dX0_leastCost_100 : decode cX0_leastCost 100 = .ok (.aaload, 1) := by decide +kernel
theorem dX0_leastCost_101 : decode cX0_leastCost 101 = .ok (.iload 5, 2) := by decide +kernel
theorem dX0_leastCost_103 : decode cX0_leastCost 103 = .ok (.iaload, 1) := by decide +kernel
theorem dX0_leastCost_104 : decode cX0_leastCost 104 = .ok (.i2l, 1) := by decide +kernel
theorem dX0_leastCost_105 : decode cX0_leastCost 105 = .ok (.lmul, 1) := by decide +kernel
theorem dX0_leastCost_106 : decode cX0_leastCost 106 = .ok (.ladd, 1) := by decide +kernel
theorem dX0_leastCost_107 : decode cX0_leastCost 107 = .ok (.lstore_n 2, 1) := by decide +kernel
theorem dX0_leastCost_108 : decode cX0_leastCost 108 = .ok (.iinc 5 1, 3) := by decide +kernel
theorem dX0_leastCost_111 : decode cX0_leastCost 111 = .ok (.goto (-41), 3) := by decide +kernel
theorem dX0_leastCost_114 : decode cX0_leastCost 114 = .ok (.iinc 4 1, 3) := by decide +kernel
theorem dX0_leastCost_117 : decode cX0_leastCost 117 = .ok (.goto (-62), 3) := by decide +kernel
theorem dX0_leastCost_120 : decode cX0_leastCost 120 = .ok (.lload_n 2, 1) := by decide +kernel
theorem dX0_leastCost_121 : decode cX0_leastCost 121 = .ok (.lreturn, 1) := by decide +kernel
set_option maxRecDepth 20000 in
theorem ggX0_begin_J7_fill_53178 : GoodIn wsX0_begin wsJ7_fill_53178 := goodIn_r _ [17] (by decide +kernel) (by decide +kernel)
set_option maxRecDepth 20000 in
theorem gX0_begin_J7_fill_53178 : GoodIn wsX0_begin (va_wsS RX0 85 yJ7_fill_53178 wsJ7_fill_53178) := goodIn_app (goodIn_of _ (by decide +kernel)) ggX0_begin_J7_fill_53178
theorem dX0_begin_0 : decode cX0_begin 0 = .ok (.iconst 0, 1) := by decide +kernel
theorem dX0_begin_1 : decode cX0_begin 1 = .ok (.istore_n 2, 1) := by decide +kernel
theorem dX0_begin_2 : decode cX0_begin 2 = .ok (.iload_n 2, 1) := by decide +kernel
theorem dX0_begin_3 : decode cX0_begin 3 = .ok (.aload_n 0, 1) := by decide +kernel
theorem dX0_begin_4 : decode cX0_begin 4 = .ok (.getfield 14, 3) := by decide +kernel
theorem dX0_begin_7 : decode cX0_begin 7 = .ok (.getfield 66, 3) := by decide +kernel
theorem dX0_begin_10 : decode cX0_begin 10 = .ok (.if_icmp .ge 107, 3) := by decide +kernel
theorem dX0_begin_13 : decode cX0_begin 13 = .ok (.iconst 0, 1) := by decide +kernel
theorem dX0_begin_14 : decode cX0_begin 14 = .ok (.istore_n 3, 1) := by decide +kernel
theorem dX0_begin_15 : decode cX0_begin 15 = .ok (.iload_n 3, 1) := by decide +kernel
theorem dX0_begin_16 : decode cX0_begin 16 = .ok (.aload_n 0, 1) := by decide +kernel
theorem dX0_begin_17 : decode cX0_begin 17 = .ok (.getfield 20, 3) := by decide +kernel
theorem dX0_begin_20 : decode cX0_begin 20 = .ok (.getfield 66, 3) := by decide +kernel
theorem dX0_begin_23 : decode cX0_begin 23 = .ok (.if_icmp .ge 88, 3) := by decide +kernel
theorem dX0_begin_26 : decode cX0_begin 26 = .ok (.aload_n 0, 1) := by decide +kernel
theorem dX0_begin_27 : decode cX0_begin 27 = .ok (.getfield 14, 3) := by decide +kernel
theorem dX0_begin_30 : decode cX0_begin 30 = .ok (.getfield 73, 3) := by decide +kernel
theorem dX0_begin_33 : decode cX0_begin 33 = .ok (.iload_n 2, 1) := by decide +kernel
theorem dX0_begin_34 : decode cX0_begin 34 = .ok (.iaload, 1) := by decide +kernel
theorem dX0_begin_35 : decode cX0_begin 35 = .ok (.aload_n 0, 1) := by decide +kernel
theorem dX0_begin_36 : decode cX0_begin 36 = .ok (.getfield 20, 3) := by decide +kernel
theorem dX0_begin_39 : decode cX0_begin 39 = .ok (.getfield 73, 3) := by decide +kernel
theorem dX0_begin_42 : decode cX0_begin 42 = .ok (.iload_n 3, 1) := by decide +kernel
theorem dX0_begin_43 : decode cX0_begin 43 = .ok (.iaload, 1) := by decide +kernel
theorem dX0_begin_44 : decode cX0_begin 44 = .ok (.isub, 1) := by decide +kernel
theorem dX0_begin_45 : decode cX0_begin 45 = .ok (.invokestatic 76, 3) := by decide +kernel
theorem dX0_begin_48 : decode cX0_begin 48 = .ok (.istore 4, 2) := by decide +kernel
theorem dX0_begin_50 : decode cX0_begin 50 = .ok (.aload_n 0, 1) := by decide +kernel
theorem dX0_begin_51 : decode cX0_begin 51 = .ok (.getfield 14, 3) := by decide +kernel
theorem dX0_begin_54 : decode cX0_begin 54 = .ok (.getfield 82, 3) := by decide +kernel
theorem dX0_begin_57 : decode cX0_begin 57 = .ok (.iload_n 2, 1) := by decide +kernel
theorem dX0_begin_58 : decode cX0_begin 58 = .ok (.iaload, 1) := by decide +kernel
theorem dX0_begin_59 : decode cX0_begin 59 = .ok (.aload_n 0, 1) := by decide +kernel
theorem dX0_begin_60 : decode cX0_begin 60 = .ok (.getfield 20, 3) := by decide +kernel
theorem dX0_begin_63 : decode cX0_begin 63 = .ok (.getfield 82, 3) := by decide +kernel
theorem dX0_begin_66 : decode cX0_begin 66 = .ok (.iload_n 3, 1) := by decide +kernel
theorem dX0_begin_67 : decode cX0_begin 67 = .ok (.iaload, 1) := by decide +kernel
theorem dX0_begin_68 : decode cX0_begin 68 = .ok (.isub, 1) := by decide +kernel
theorem dX0_begin_69 : decode cX0_begin 69 = .ok (.invokestatic 76, 3) := by decide +kernel
theorem dX0_begin_72 : decode cX0_begin 72 = .ok (.istore 5, 2) := by decide +kernel
theorem dX0_begin_74 : decode cX0_begin 74 = .ok (.aload_n 0, 1) := by decide +kernel
theorem dX0_begin_75 : decode cX0_begin 75 = .ok (.getfield 25, 3) := by decide +kernel
theorem dX0_begin_78 : decode cX0_begin 78 = .ok (.iload_n 2, 1) := by decide +kernel
theorem dX0_begin_79 : decode cX0_begin 79 = .ok (.aaload, 1) := by decide +kernel
theorem dX0_begin_80 : decode cX0_begin 80 = .ok (.iload_n 3, 1) := by decide +kernel
theorem dX0_begin_81 : decode cX0_begin 81 = .ok (.aload_n 1, 1) := by decide +kernel
theorem dX0_begin_82 : decode cX0_begin 82 = .ok (.iconst 5, 1) := by decide +kernel
theorem dX0_begin_83 : decode cX0_begin 83 = .ok (.iaload, 1) := by decide +kernel
theorem dX0_begin_84 : decode cX0_begin 84 = .ok (.iload 4, 2) := by decide +kernel
theorem dX0_begin_86 : decode cX0_begin 86 = .ok (.imul, 1) := by decide +kernel
theorem dX0_begin_87 : decode cX0_begin 87 = .ok (.aload_n 1, 1) := by decide +kernel
theorem dX0_begin_88 : decode cX0_begin 88 = .ok (.bipush 6, 2) := by decide +kernel
theorem dX0_begin_90 : decode cX0_begin 90 = .ok (.iaload, 1) := by decide +kernel
theorem dX0_begin_91 : decode cX0_begin 91 = .ok (.iload 5, 2) := by decide +kernel
theorem dX0_begin_93 : decode cX0_begin 93 = .ok (.imul, 1) := by decide +kernel
theorem dX0_begin_94 : decode cX0_begin 94 = .ok (.iadd, 1) := by decide +kernel
theorem dX0_begin_95 : decode cX0_begin 95 = .ok (.iastore, 1) := by decide +kernel
theorem dX0_begin_96 : decode cX0_begin 96 = .ok (.aload_n 0, 1) := by decide +kernel
theorem dX0_begin_97 : decode cX0_begin 97 = .ok (.getfield 28, 3) := by decide +kernel
theorem dX0_begin_100 : decode cX0_begin 100 = .ok (.iload_n 2, 1) := by decide +kernel
theorem dX0_begin_101 : decode cX0_begin 101 = .ok (.aaload, 1) := by decide +kernel
theorem dX0_begin_102 : decode cX0_begin 102 = .ok (.iload_n 3, 1) := by decide +kernel
theorem dX0_begin_103 : decode cX0_begin 103 = .ok (.iconst 0, 1) := by decide +kernel
theorem dX0_begin_104 : decode cX0_begin 104 = .ok (.iastore, 1) := by decide +kernel
theorem dX0_begin_105 : decode cX0_begin 105 = .ok (.iinc 3 1, 3) := by decide +kernel
theorem dX0_begin_108 : decode cX0_begin 108 = .ok (.goto (-93), 3) := by decide +kernel
theorem dX0_begin_111 : decode cX0_begin 111 = .ok (.iinc 2 1, 3) := by decide +kernel
theorem dX0_begin_114 : decode cX0_begin 114 = .ok (.goto (-112), 3) := by decide +kernel
theorem dX0_begin_117 : decode cX0_begin 117 = .ok (.aload_n 0, 1) := by decide +kernel
theorem dX0_begin_118 : decode cX0_begin 118 = .ok (.getfield 31, 3) := by decide +kernel
theorem dX0_begin_121 : decode cX0_begin 121 = .ok (.iconst 0, 1) := by decide +kernel
theorem dX0_begin_122 : decode cX0_begin 122 = .ok (.invokestatic 85, 3) := by decide +kernel
theorem dX0_begin_125 : decode cX0_begin 125 = .ok (.aload_n 0, 1) := by decide +kernel
theorem dX0_begin_126 : decode cX0_begin 126 = .ok (.getfield 35, 3) := by decide +kernel
theorem dX0_begin_129 : decode cX0_begin 129 = .ok (.iconst 0, 1) := by decide +kernel
theorem dX0_begin_130 : decode cX0_begin 130 = .ok (.invokestatic 85, 3) := by decide +kernel
theorem dX0_begin_133 : decode cX0_begin 133 = .ok (.return_, 1) := by decide +kernel
set_option maxRecDepth 20000 in
theorem ggX0_sendAll_X0_nearestOpenTaker : GoodIn wsX0_sendAll wsX0_nearestOpenTaker := goodIn_r _ [8, 9, 10, 11, 3, 12, 13, 2, 14, 15, 16, 17, 18, 19, 20, 7, 21, 22, 23, 24, 25, 26, 27, 28, 29, 30, 31, 32, 33, 34, 1, 35, 52, 53, 54, 55, 56, 57, 58, 59, 60, 61, 62, 63, 64, 65, 66, 67] (by decide +kernel) (by decide +kernel)
set_option maxRecDepth 20000 in
theorem gX0_sendAll_X0_nearestOpenTaker : GoodIn wsX0_sendAll (wsV RX0 93 RX0 yX0_nearestOpenTaker wsX0_nearestOpenTaker) := goodIn_app (goodIn_of _ (by decide +kernel)) ggX0_sendAll_X0_nearestOpenTaker
set_option maxRecDepth 20000 in
theorem ggX0_sendAll_X0_changeRates : GoodIn wsX0_sendAll wsX0_changeRates := goodIn_r _ [39, 1, 11, 9, 24, 10, 13, 25, 3, 52, 53, 54, 55, 56, 57, 58, 59, 60, 61, 62, 63, 64, 65, 66, 67] (by decide +kernel) (by decide +kernel)
set_option maxRecDepth 20000 in
theorem gX0_sendAll_X0_changeRates : GoodIn wsX0_sendAll (wsV RX0 96 RX0 yX0_changeRates wsX0_changeRates) := goodIn_app (goodIn_of _ (by decide +kernel)) ggX0_sendAll_X0_changeRates
set_option maxRecDepth 20000 in
theorem ggX0_sendAll_X0_amountOnPath : GoodIn wsX0_sendAll wsX0_amountOnPath := goodIn_r _ [43, 1, 2, 10, 44, 45, 46, 47, 26, 22, 35, 52, 53, 54, 55, 56, 57, 58, 59, 60, 61, 62, 63, 64, 65, 66, 67] (by decide +kernel) (by decide +kernel)
set_option maxRecDepth 20000 in
theorem gX0_sendAll_X0_amountOnPath : GoodIn wsX0_sendAll (wsV RX0 99 RX0 yX0_amountOnPath wsX0_amountOnPath) := goodIn_app (goodIn_of _ (by decide +kernel)) ggX0_sendAll_X0_amountOnPath
set_option maxRecDepth 20000 in
theorem ggX0_sendAll_X0_send : GoodIn wsX0_sendAll wsX0_send := goodIn_r _ [51, 1, 2, 10, 26, 35, 22, 52, 53, 54, 55, 56, 57, 58, 59, 60, 61, 62, 63, 64, 65, 66, 67] (by decide +kernel) (by decide +kernel)
set_option maxRecDepth 20000 in
theorem gX0_sendAll_X0_send : GoodIn wsX0_sendAll (wsV RX0 103 RX0 yX0_send wsX0_send) := goodIn_app (goodIn_of _ (by decide +kernel)) ggX0_sendAll_X0_send
theorem dX0_sendAll_0 : decode cX0_sendAll 0 = .ok (.iconst 0, 1) := by decide +kernel
theorem dX0_sendAll_1 : decode cX0_sendAll 1 = .ok (.istore_n 2, 1) := by decide +kernel
theorem dX0_sendAll_2 : decode cX0_sendAll 2 = .ok (.iload_n 2, 1) := by decide +kernel
theorem dX0_sendAll_3 : decode cX0_sendAll 3 = .ok (.bipush 64, 2) := by decide +kernel
theorem dX0_sendAll_5 : decode cX0_sendAll 5 = .ok (.if_icmp .ge 55, 3) := by decide +kernel
theorem dX0_sendAll_8 : decode cX0_sendAll 8 = .ok (.aload_n 0, 1) := by decide +kernel
theorem dX0_sendAll_9 : decode cX0_sendAll 9 = .ok (.getfield 14, 3) := by decide +kernel
theorem dX0_sendAll_12 : decode cX0_sendAll 12 = .ok (.getfield 90, 3) := by decide +kernel
theorem dX0_sendAll_15 : decode cX0_sendAll 15 = .ok (.iload_n 1, 1) := by decide +kernel
theorem dX0_sendAll_16 : decode cX0_sendAll 16 = .ok (.iaload, 1) := by decide +kernel
theorem dX0_sendAll_17 : decode cX0_sendAll 17 = .ok (.ifCond .le 43, 3) := by decide +kernel
theorem dX0_sendAll_20 : decode cX0_sendAll 20 = .ok (.aload_n 0, 1) := by decide +kernel
theorem dX0_sendAll_21 : decode cX0_sendAll 21 = .ok (.iload_n 1, 1) := by decide +kernel
theorem dX0_sendAll_22 : decode cX0_sendAll 22 = .ok (.invokevirtual 93, 3) := by decide +kernel
theorem dX0_sendAll_25 : decode cX0_sendAll 25 = .ok (.istore_n 3, 1) := by decide +kernel
theorem dX0_sendAll_26 : decode cX0_sendAll 26 = .ok (.iload_n 3, 1) := by decide +kernel
theorem dX0_sendAll_27 : decode cX0_sendAll 27 = .ok (.iconst (-1), 1) := by decide +kernel
theorem dX0_sendAll_28 : decode cX0_sendAll 28 = .ok (.if_icmp .ne 4, 3) := by decide +kernel
theorem dX0_sendAll_31 : decode cX0_sendAll 31 = .ok (.return_, 1) := by decide +kernel
theorem dX0_sendAll_32 : decode cX0_sendAll 32 = .ok (.aload_n 0, 1) := by decide +kernel
theorem dX0_sendAll_33 : decode cX0_sendAll 33 = .ok (.aload_n 0, 1) := by decide +kernel
theorem dX0_sendAll_34 : decode cX0_sendAll 34 = .ok (.getfield 41, 3) := by decide +kernel
theorem dX0_sendAll_37 : decode cX0_sendAll 37 = .ok (.iload_n 3, 1) := by decide +kernel
theorem dX0_sendAll_38 : decode cX0_sendAll 38 = .ok (.iaload, 1) := by decide +kernel
theorem dX0_sendAll_39 : decode cX0_sendAll 39 = .ok (.invokevirtual 96, 3) := by decide +kernel
theorem dX0_sendAll_42 : decode cX0_sendAll 42 = .ok (.aload_n 0, 1) := by decide +kernel
theorem dX0_sendAll_43 : decode cX0_sendAll 43 = .ok (.iload_n 1, 1) := by decide +kernel
theorem dX0_sendAll_44 : decode cX0_sendAll 44 = .ok (.iload_n 3, 1) := by decide +kernel
theorem dX0_sendAll_45 : decode cX0_sendAll 45 = .ok (.aload_n 0, 1) := by decide +kernel
theorem dX0_sendAll_46 : decode cX0_sendAll 46 = .ok (.iload_n 1, 1) := by decide +kernel
theorem dX0_sendAll_47 : decode cX0_sendAll 47 = .ok (.iload_n 3, 1) := by decide +kernel
theorem dX0_sendAll_48 : decode cX0_sendAll 48 = .ok (.invokevirtual 99, 3) := by decide +kernel
theorem dX0_sendAll_51 : decode cX0_sendAll 51 = .ok (.invokevirtual 103, 3) := by decide +kernel
theorem dX0_sendAll_54 : decode cX0_sendAll 54 = .ok (.iinc 2 1, 3) := by decide +kernel
theorem dX0_sendAll_57 : decode cX0_sendAll 57 = .ok (.goto (-55), 3) := by decide +kernel
theorem dX0_sendAll_60 : decode cX0_sendAll 60 = .ok (.return_, 1) := by decide +kernel
set_option maxRecDepth 20000 in
theorem ggX0_nearestOpenTaker_J7_fill_53178 : GoodIn wsX0_nearestOpenTaker wsJ7_fill_53178 := goodIn_r _ [11] (by decide +kernel) (by decide +kernel)
set_option maxRecDepth 20000 in
theorem gX0_nearestOpenTaker_J7_fill_53178 : GoodIn wsX0_nearestOpenTaker (va_wsS RX0 85 yJ7_fill_53178 wsJ7_fill_53178) := goodIn_app (goodIn_of _ (by decide +kernel)) ggX0_nearestOpenTaker_J7_fill_53178
set_option maxRecDepth 20000 in
theorem ggX0_nearestOpenTaker_X0_reachGiver : GoodIn wsX0_nearestOpenTaker wsX0_reachGiver := goodIn_r _ [16, 1, 17, 2, 3, 18, 19, 20, 6, 4, 21, 32, 33, 34, 35, 36, 37, 38, 39, 40, 41, 42, 43, 44, 45, 46, 47] (by decide +kernel) (by decide +kernel)
set_option maxRecDepth 20000 in
theorem gX0_nearestOpenTaker_X0_reachGiver : GoodIn wsX0_nearestOpenTaker (wsV RX0 108 RX0 yX0_reachGiver wsX0_reachGiver) := goodIn_app (goodIn_of _ (by decide +kernel)) ggX0_nearestOpenTaker_X0_reachGiver
set_option maxRecDepth 20000 in
theorem ggX0_nearestOpenTaker_X0_nearestTaker : GoodIn wsX0_nearestOpenTaker wsX0_nearestTaker := goodIn_r _ [25, 5, 2, 3, 6, 4, 32, 33, 34, 35, 36, 37, 38, 39, 40, 41, 42, 43, 44, 45, 46, 47] (by decide +kernel) (by decide +kernel)
set_option maxRecDepth 20000 in
theorem gX0_nearestOpenTaker_X0_nearestTaker : GoodIn wsX0_nearestOpenTaker (wsV RX0 111 RX0 yX0_nearestTaker wsX0_nearestTaker) := goodIn_app (goodIn_of _ (by decide +kernel)) ggX0_nearestOpenTaker_X0_nearestTaker
set_option maxRecDepth 20000 in
theorem ggX0_nearestOpenTaker_X0_reachGiversOf : GoodIn wsX0_nearestOpenTaker wsX0_reachGiversOf := goodIn_r _ [29, 30, 3, 31, 1, 4, 12, 13, 14, 15, 16, 17, 2, 18, 19, 20, 6, 21, 32, 33, 34, 35, 36, 37, 38, 39, 40, 41, 42, 43, 44, 45, 46, 47] (by decide +kernel) (by decide +kernel)
set_option maxRecDepth 20000 in
theorem gX0_nearestOpenTaker_X0_reachGiversOf : GoodIn wsX0_nearestOpenTaker (wsV RX0 115 RX0 yX0_reachGiversOf wsX0_reachGiversOf) := goodIn_app (goodIn_of _ (by decide +kernel)) ggX0_nearestOpenTaker_X0_reachGiversOf
theorem dX0_nearestOpenTaker_0 : decode cX0_nearestOpenTaker 0 = .ok (.aload_n 0, 1) := by decide +kernel
theorem dX0_nearestOpenTaker_1 : decode cX0_nearestOpenTaker 1 = .ok (.getfield 38, 3) := by decide +kernel
theorem dX0_nearestOpenTaker_4 : decode cX0_nearestOpenTaker 4 = .ok (.iconst (-1), 1) := by decide +kernel
theorem dX0_nearestOpenTaker_5 : decode cX0_nearestOpenTaker 5 = .ok (.invokestatic 85, 3) := by decide +kernel
theorem dX0_nearestOpenTaker_8 : decode cX0_nearestOpenTaker 8 = .ok (.iconst 0, 1) := by decide +kernel
theorem dX0_nearestOpenTaker_9 : decode cX0_nearestOpenTaker 9 = .ok (.istore_n 2, 1) := by decide +kernel
theorem dX0_nearestOpenTaker_10 : decode cX0_nearestOpenTaker 10 = .ok (.iload_n 2, 1) := by decide +kernel
theorem dX0_nearestOpenTaker_11 : decode cX0_nearestOpenTaker 11 = .ok (.aload_n 0, 1) := by decide +kernel
theorem dX0_nearestOpenTaker_12 : decode cX0_nearestOpenTaker 12 = .ok (.getfield 20, 3) := by decide +kernel
theorem dX0_nearestOpenTaker_15 : decode cX0_nearestOpenTaker 15 = .ok (.getfield 66, 3) := by decide +kernel
theorem dX0_nearestOpenTaker_18 : decode cX0_nearestOpenTaker 18 = .ok (.if_icmp .ge 24, 3) := by decide +kernel
theorem dX0_nearestOpenTaker_21 : decode cX0_nearestOpenTaker 21 = .ok (.aload_n 0, 1) := by decide +kernel
theorem dX0_nearestOpenTaker_22 : decode cX0_nearestOpenTaker 22 = .ok (.getfield 41, 3) := by decide +kernel
theorem dX0_nearestOpenTaker_25 : decode cX0_nearestOpenTaker 25 = .ok (.iload_n 2, 1) := by decide +kernel
theorem dX0_nearestOpenTaker_26 : decode cX0_nearestOpenTaker 26 = .ok (.ldc 107, 2) := by decide +kernel
theorem dX0_nearestOpenTaker_28 : decode cX0_nearestOpenTaker 28 = .ok (.iastore, 1) := by decide +kernel
theorem dX0_nearestOpenTaker_29 : decode cX0_nearestOpenTaker 29 = .ok (.aload_n 0, 1) := by decide +kernel
theorem dX0_nearestOpenTaker_30 : decode cX0_nearestOpenTaker 30 = .ok (.getfield 50, 3) := by decide +kernel
theorem dX0_nearestOpenTaker_33 : decode cX0_nearestOpenTaker 33 = .ok (.iload_n 2, 1) := by decide +kernel
theorem dX0_nearestOpenTaker_34 : decode cX0_nearestOpenTaker 34 = .ok (.iconst 0, 1) := by decide +kernel
theorem dX0_nearestOpenTaker_35 : decode cX0_nearestOpenTaker 35 = .ok (.bastore, 1) := by decide +kernel
theorem dX0_nearestOpenTaker_36 : decode cX0_nearestOpenTaker 36 = .ok (.iinc 2 1, 3) := by decide +kernel
theorem dX0_nearestOpenTaker_39 : decode cX0_nearestOpenTaker 39 = .ok (.goto (-29), 3) := by decide +kernel
theorem dX0_nearestOpenTaker_42 : decode cX0_nearestOpenTaker 42 = .ok (.aload_n 0, 1) := by decide +kernel
theorem dX0_nearestOpenTaker_43 : decode cX0_nearestOpenTaker 43 = .ok (.iload_n 1, 1) := by decide +kernel
theorem dX0_nearestOpenTaker_44 : decode cX0_nearestOpenTaker 44 = .ok (.iconst 0, 1) := by decide +kernel
theorem dX0_nearestOpenTaker_45 : decode cX0_nearestOpenTaker 45 = .ok (.iconst (-1), 1) := by decide +kernel
theorem dX0_nearestOpenTaker_46 : decode cX0_nearestOpenTaker 46 = .ok (.invokevirtual 108, 3) := by decide +kernel
theorem dX0_nearestOpenTaker_49 : decode cX0_nearestOpenTaker 49 = .ok (.iconst 0, 1) := by decide +kernel
theorem dX0_nearestOpenTaker_50 : decode cX0_nearestOpenTaker 50 = .ok (.istore_n 2, 1) := by decide +kernel
theorem dX0_nearestOpenTaker_51 : decode cX0_nearestOpenTaker 51 = .ok (.iload_n 2, 1) := by decide +kernel
theorem dX0_nearestOpenTaker_52 : decode cX0_nearestOpenTaker 52 = .ok (.aload_n 0, 1) := by decide +kernel
theorem dX0_nearestOpenTaker_53 : decode cX0_nearestOpenTaker 53 = .ok (.getfield 20, 3) := by decide +kernel
theorem dX0_nearestOpenTaker_56 : decode cX0_nearestOpenTaker 56 = .ok (.getfield 66, 3) := by decide +kernel
theorem dX0_nearestOpenTaker_59 : decode cX0_nearestOpenTaker 59 = .ok (.if_icmp .ge 45, 3) := by decide +kernel
theorem dX0_nearestOpenTaker_62 : decode cX0_nearestOpenTaker 62 = .ok (.aload_n 0, 1) := by decide +kernel
theorem dX0_nearestOpenTaker_63 : decode cX0_nearestOpenTaker 63 = .ok (.invokevirtual 111, 3) := by decide +kernel
theorem dX0_nearestOpenTaker_66 : decode cX0_nearestOpenTaker 66 = .ok (.istore_n 3, 1) := by decide +kernel
theorem dX0_nearestOpenTaker_67 : decode cX0_nearestOpenTaker 67 = .ok (.iload_n 3, 1) := by decide +kernel
theorem dX0_nearestOpenTaker_68 : decode cX0_nearestOpenTaker 68 = .ok (.iconst (-1), 1) := by decide +kernel
theorem dX0_nearestOpenTaker_69 : decode cX0_nearestOpenTaker 69 = .ok (.if_icmp .eq 15, 3) := by decide +kernel
theorem dX0_nearestOpenTaker_72 : decode cX0_nearestOpenTaker 72 = .ok (.aload_n 0, 1) := by decide +kernel
theorem dX0_nearestOpenTaker_73 : decode cX0_nearestOpenTaker 73 = .ok (.getfield 20, 3) := by decide +kernel
theorem dX0_nearestOpenTaker_76 : decode cX0_nearestOpenTaker 76 = .ok (.getfield 90, 3) := by decide +kernel
theorem dX0_nearestOpenTaker_79 : decode cX0_nearestOpenTaker 79 = .ok (.iload_n 3, 1) := by decide +kernel
theorem dX0_nearestOpenTaker_80 : decode cX0_nearestOpenTaker 80 = .ok (.iaload, 1) := by decide +kernel
theorem dX0_nearestOpenTaker_81 : decode cX0_nearestOpenTaker 81 = .ok (.ifCond .le 5, 3) := by decide +kernel
theorem dX0_nearestOpenTaker_84 : decode cX0_nearestOpenTaker 84 = .ok (.iload_n 3, 1) := by decide +kernel
theorem dX0_nearestOpenTaker_85 : decode cX0_nearestOpenTaker 85 = .ok (.ireturn, 1) := by decide +kernel
theorem dX0_nearestOpenTaker_86 : decode cX0_nearestOpenTaker 86 = .ok (.aload_n 0, 1) := by decide +kernel
theorem dX0_nearestOpenTaker_87 : decode cX0_nearestOpenTaker 87 = .ok (.getfield 50, 3) := by decide +kernel
theorem dX0_nearestOpenTaker_90 : decode cX0_nearestOpenTaker 90 = .ok (.iload_n 3, 1) := by decide +kernel
theorem dX0_nearestOpenTaker_91 : decode cX0_nearestOpenTaker 91 = .ok (.iconst 1, 1) := by decide +kernel
theorem dX0_nearestOpenTaker_92 : decode cX0_nearestOpenTaker 92 = .ok (.bastore, 1) := by decide +kernel
theorem dX0_nearestOpenTaker_93 : decode cX0_nearestOpenTaker 93 = .ok (.aload_n 0, 1) := by decide +kernel
theorem dX0_nearestOpenTaker_94 : decode cX0_nearestOpenTaker 94 = .ok (.iload_n 3, 1) := by decide +kernel
theorem dX0_nearestOpenTaker_95 : decode cX0_nearestOpenTaker 95 = .ok (.invokevirtual 115, 3) := by decide +kernel
theorem dX0_nearestOpenTaker_98 : decode cX0_nearestOpenTaker 98 = .ok (.iinc 2 1, 3) := by decide +kernel
theorem dX0_nearestOpenTaker_101 : decode cX0_nearestOpenTaker 101 = .ok (.goto (-50), 3) := by decide +kernel
theorem dX0_nearestOpenTaker_104 : decode cX0_nearestOpenTaker 104 = .ok (.iconst (-1), 1) := by decide +kernel
theorem dX0_nearestOpenTaker_105 : decode cX0_nearestOpenTaker 105 = .ok (.ireturn, 1) := by decide +kernel
theorem dX0_nearestTaker_0 : decode cX0_nearestTaker 0 = .ok (.iconst (-1), 1) := by decide +kernel
theorem dX0_nearestTaker_1 : decode cX0_nearestTaker 1 = .ok (.istore_n 1, 1) := by decide +kernel
theorem dX0_nearestTaker_2 : decode cX0_nearestTaker 2 = .ok (.ldc 107, 2) := by decide +kernel
theorem dX0_nearestTaker_4 : decode cX0_nearestTaker 4 = .ok (.istore_n 2, 1) := by decide +kernel
theorem dX0_nearestTaker_5 : decode cX0_nearestTaker 5 = .ok (.iconst 0, 1) := by decide +kernel
theorem dX0_nearestTaker_6 : decode cX0_nearestTaker 6 = .ok (.istore_n 3, 1) := by decide +kernel
theorem dX0_nearestTaker_7 : decode cX0_nearestTaker 7 = .ok (.iload_n 3, 1) := by decide +kernel
theorem dX0_nearestTaker_8 : decode cX0_nearestTaker 8 = .ok (.aload_n 0, 1) := by decide +kernel
theorem dX0_nearestTaker_9 : decode cX0_nearestTaker 9 = .ok (.getfield 20, 3) := by decide +kernel
theorem dX0_nearestTaker_12 : decode cX0_nearestTaker 12 = .ok (.getfield 66, 3) := by decide +kernel
theorem dX0_nearestTaker_15 : decode cX0_nearestTaker 15 = .ok (.if_icmp .ge 37, 3) := by decide +kernel
theorem dX0_nearestTaker_18 : decode cX0_nearestTaker 18 = .ok (.aload_n 0, 1) := by decide +kernel
theorem dX0_nearestTaker_19 : decode cX0_nearestTaker 19 = .ok (.getfield 50, 3) := by decide +kernel
theorem dX0_nearestTaker_22 : decode cX0_nearestTaker 22 = .ok (.iload_n 3, 1) := by decide +kernel
theorem dX0_nearestTaker_23 : decode cX0_nearestTaker 23 = .ok (.baload, 1) := by decide +kernel
theorem dX0_nearestTaker_24 : decode cX0_nearestTaker 24 = .ok (.ifCond .ne 22, 3) := by decide +kernel
theorem dX0_nearestTaker_27 : decode cX0_nearestTaker 27 = .ok (.aload_n 0, 1) := by decide +kernel
theorem dX0_nearestTaker_28 : decode cX0_nearestTaker 28 = .ok (.getfield 41, 3) := by decide +kernel
theorem dX0_nearestTaker_31 : decode cX0_nearestTaker 31 = .ok (.iload_n 3, 1) := by decide +kernel
theorem dX0_nearestTaker_32 : decode cX0_nearestTaker 32 = .ok (.iaload, 1) := by decide +kernel
theorem dX0_nearestTaker_33 : decode cX0_nearestTaker 33 = .ok (.iload_n 2, 1) := by decide +kernel
theorem dX0_nearestTaker_34 : decode cX0_nearestTaker 34 = .ok (.if_icmp .ge 12, 3) := by decide +kernel
theorem dX0_nearestTaker_37 : decode cX0_nearestTaker 37 = .ok (.iload_n 3, 1) := by decide +kernel
theorem dX0_nearestTaker_38 : decode cX0_nearestTaker 38 = .ok (.istore_n 1, 1) := by decide +kernel
theorem dX0_nearestTaker_39 : decode cX0_nearestTaker 39 = .ok (.aload_n 0, 1) := by decide +kernel
theorem dX0_nearestTaker_40 : decode cX0_nearestTaker 40 = .ok (.getfield 41, 3) := by decide +kernel
theorem dX0_nearestTaker_43 : decode cX0_nearestTaker 43 = .ok (.iload_n 3, 1) := by decide +kernel
theorem dX0_nearestTaker_44 : decode cX0_nearestTaker 44 = .ok (.iaload, 1) := by decide +kernel
theorem dX0_nearestTaker_45 : decode cX0_nearestTaker 45 = .ok (.istore_n 2, 1) := by decide +kernel
theorem dX0_nearestTaker_46 : decode cX0_nearestTaker 46 = .ok (.iinc 3 1, 3) := by decide +kernel
theorem dX0_nearestTaker_49 : decode cX0_nearestTaker 49 = .ok (.goto (-42), 3) := by decide +kernel
theorem dX0_nearestTaker_52 : decode cX0_nearestTaker 52 = .ok (.iload_n 1, 1) := by decide +kernel
theorem dX0_nearestTaker_53 : decode cX0_nearestTaker 53 = .ok (.ireturn, 1) := by decide +kernel
set_option maxRecDepth 20000 in
theorem ggX0_reachGiversOf_X0_reachGiver : GoodIn wsX0_reachGiversOf wsX0_reachGiver := goodIn_r _ [10, 4, 11, 12, 2, 13, 14, 15, 16, 5, 17, 18, 19, 20, 21, 22, 23, 24, 25, 26, 27, 28, 29, 30, 31, 32, 33] (by decide +kernel) (by decide +kernel)
set_option maxRecDepth 20000 in
theorem gX0_reachGiversOf_X0_reachGiver : GoodIn wsX0_reachGiversOf (wsV RX0 108 RX0 yX0_reachGiver wsX0_reachGiver) := goodIn_app (goodIn_of _ (by decide +kernel)) ggX0_reachGiversOf_X0_reachGiver
theorem dX0_reachGiversOf_0 : decode cX0_reachGiversOf 0 = .ok (.iconst 0, 1) := by decide +kernel
theorem dX0_reachGiversOf_1 : decode cX0_reachGiversOf 1 = .ok (.istore_n 2, 1) := by decide +kernel
theorem dX0_reachGiversOf_2 : decode cX0_reachGiversOf 2 = .ok (.iload_n 2, 1) := by decide +kernel
theorem dX0_reachGiversOf_3 : decode cX0_reachGiversOf 3 = .ok (.aload_n 0, 1) := by decide +kernel
theorem dX0_reachGiversOf_4 : decode cX0_reachGiversOf 4 = .ok (.getfield 14, 3) := by decide +kernel
theorem dX0_reachGiversOf_7 : decode cX0_reachGiversOf 7 = .ok (.getfield 66, 3) := by decide +kernel
theorem dX0_reachGiversOf_10 : decode cX0_reachGiversOf 10 = .ok (.if_icmp .ge 42, 3) := by decide +kernel
theorem dX0_reachGiversOf_13 : decode cX0_reachGiversOf 13 = .ok (.aload_n 0, 1) := by decide +kernel
theorem dX0_reachGiversOf_14 : decode cX0_reachGiversOf 14 = .ok (.getfield 28, 3) := by decide +kernel
theorem dX0_reachGiversOf_17 : decode cX0_reachGiversOf 17 = .ok (.iload_n 2, 1) := by decide +kernel
theorem dX0_reachGiversOf_18 : decode cX0_reachGiversOf 18 = .ok (.aaload, 1) := by decide +kernel
theorem dX0_reachGiversOf_19 : decode cX0_reachGiversOf 19 = .ok (.iload_n 1, 1) := by decide +kernel
theorem dX0_reachGiversOf_20 : decode cX0_reachGiversOf 20 = .ok (.iaload, 1) := by decide +kernel
theorem dX0_reachGiversOf_21 : decode cX0_reachGiversOf 21 = .ok (.ifCond .le 25, 3) := by decide +kernel
theorem dX0_reachGiversOf_24 : decode cX0_reachGiversOf 24 = .ok (.aload_n 0, 1) := by decide +kernel
theorem dX0_reachGiversOf_25 : decode cX0_reachGiversOf 25 = .ok (.getfield 38, 3) := by decide +kernel
theorem dX0_reachGiversOf_28 : decode cX0_reachGiversOf 28 = .ok (.iload_n 2, 1) := by decide +kernel
theorem dX0_reachGiversOf_29 : decode cX0_reachGiversOf 29 = .ok (.iaload, 1) := by decide +kernel
theorem dX0_reachGiversOf_30 : decode cX0_reachGiversOf 30 = .ok (.iconst (-1), 1) := by decide +kernel
theorem dX0_reachGiversOf_31 : decode cX0_reachGiversOf 31 = .ok (.if_icmp .ne 15, 3) := by decide +kernel
theorem dX0_reachGiversOf_34 : decode cX0_reachGiversOf 34 = .ok (.aload_n 0, 1) := by decide +kernel
theorem dX0_reachGiversOf_35 : decode cX0_reachGiversOf 35 = .ok (.iload_n 2, 1) := by decide +kernel
theorem dX0_reachGiversOf_36 : decode cX0_reachGiversOf 36 = .ok (.aload_n 0, 1) := by decide +kernel
theorem dX0_reachGiversOf_37 : decode cX0_reachGiversOf 37 = .ok (.getfield 41, 3) := by decide +kernel
theorem dX0_reachGiversOf_40 : decode cX0_reachGiversOf 40 = .ok (.iload_n 1, 1) := by decide +kernel
theorem dX0_reachGiversOf_41 : decode cX0_reachGiversOf 41 = .ok (.iaload, 1) := by decide +kernel
theorem dX0_reachGiversOf_42 : decode cX0_reachGiversOf 42 = .ok (.iload_n 1, 1) := by decide +kernel
theorem dX0_reachGiversOf_43 : decode cX0_reachGiversOf 43 = .ok (.invokevirtual 108, 3) := by decide +kernel
theorem dX0_reachGiversOf_46 : decode cX0_reachGiversOf 46 = .ok (.iinc 2 1, 3) := by decide +kernel
theorem dX0_reachGiversOf_49 : decode cX0_reachGiversOf 49 = .ok (.goto (-47), 3) := by decide +kernel
theorem dX0_reachGiversOf_52 : decode cX0_reachGiversOf 52 = .ok (.return_, 1) := by decide +kernel
theorem dX0_reachGiver_0 : decode cX0_reachGiver 0 = .ok (.aload_n 0, 1) := by decide +kernel
theorem dX0_reachGiver_1 : decode cX0_reachGiver 1 = .ok (.getfield 38, 3) := by decide +kernel
theorem dX0_reachGiver_4 : decode cX0_reachGiver 4 = .ok (.iload_n 1, 1) := by decide +kernel
theorem dX0_reachGiver_5 : decode cX0_reachGiver 5 = .ok (.iload_n 2, 1) := by decide +kernel
theorem dX0_reachGiver_6 : decode cX0_reachGiver 6 = .ok (.iastore, 1) := by decide +kernel
theorem dX0_reachGiver_7 : decode cX0_reachGiver 7 = .ok (.aload_n 0, 1) := by decide +kernel
theorem dX0_reachGiver_8 : decode cX0_reachGiver 8 = .ok (.getfield 44, 3) := by decide +kernel
theorem dX0_reachGiver_11 : decode cX0_reachGiver 11 = .ok (.iload_n 1, 1) := by decide +kernel
theorem dX0_reachGiver_12 : decode cX0_reachGiver 12 = .ok (.iload_n 3, 1) := by decide +kernel
theorem dX0_reachGiver_13 : decode cX0_reachGiver 13 = .ok (.iastore, 1) := by decide +kernel
theorem dX0_reachGiver_14 : decode cX0_reachGiver 14 = .ok (.iconst 0, 1) := by decide +kernel
theorem dX0_reachGiver_15 : decode cX0_reachGiver 15 = .ok (.istore 4, 2) := by decide +kernel
theorem dX0_reachGiver_17 : decode cX0_reachGiver 17 = .ok (.iload 4, 2) := by decide +kernel
theorem dX0_reachGiver_19 : decode cX0_reachGiver 19 = .ok (.aload_n 0, 1) := by decide +kernel
theorem dX0_reachGiver_20 : decode cX0_reachGiver 20 = .ok (.getfield 20, 3) := by decide +kernel
theorem dX0_reachGiver_23 : decode cX0_reachGiver 23 = .ok (.getfield 66, 3) := by decide +kernel
theorem dX0_reachGiver_26 : decode cX0_reachGiver 26 = .ok (.if_icmp .ge 76, 3) := by decide +kernel
theorem dX0_reachGiver_29 : decode cX0_reachGiver 29 = .ok (.iload_n 2, 1) := by decide +kernel
theorem dX0_reachGiver_30 : decode cX0_reachGiver 30 = .ok (.aload_n 0, 1) := by decide +kernel
theorem dX0_reachGiver_31 : decode cX0_reachGiver 31 = .ok (.getfield 25, 3) := by decide +kernel
theorem dX0_reachGiver_34 : decode cX0_reachGiver 34 = .ok (.iload_n 1, 1) := by decide +kernel
theorem dX0_reachGiver_35 : decode cX0_reachGiver 35 = .ok (.aaload, 1) := by decide +kernel
theorem dX0_reachGiver_36 : decode cX0_reachGiver 36 = .ok (.iload 4, 2) := by decide +kernel
theorem dX0_reachGiver_38 : decode cX0_reachGiver 38 = .ok (.iaload, 1) := by decide +kernel
theorem dX0_reachGiver_39 : decode cX0_reachGiver 39 = .ok (.iadd, 1) := by decide +kernel
theorem dX0_reachGiver_40 : decode cX0_reachGiver 40 = .ok (.aload_n 0, 1) := by decide +kernel
theorem dX0_reachGiver_41 : decode cX0_reachGiver 41 = .ok (.getfield 31, 3) := by decide +kernel
theorem dX0_reachGiver_44 : decode cX0_reachGiver 44 = .ok (.iload_n 1, 1) := by decide +kernel
theorem dX0_reachGiver_45 : decode cX0_reachGiver 45 = .ok (.iaload, 1) := by decide +kernel
theorem dX0_reachGiver_46 : decode cX0_reachGiver 46 = .ok (.isub, 1) := by decide +kernel
theorem dX0_reachGiver_47 : decode cX0_reachGiver 47 = .ok (.aload_n 0, 1) := by decide +kernel
theorem dX0_reachGiver_48 : decode cX0_reachGiver 48 = .ok (.getfield 35, 3) := by decide +kernel
theorem dX0_reachGiver_51 : decode cX0_reachGiver 51 = .ok (.iload 4, 2) := by decide +kernel
theorem dX0_reachGiver_53 : decode cX0_reachGiver 53 = .ok (.iaload, 1) := by decide +kernel
theorem dX0_reachGiver_54 : decode cX0_reachGiver 54 = .ok (.isub, 1) := by decide +kernel
theorem dX0_reachGiver_55 : decode cX0_reachGiver 55 = .ok (.istore 5, 2) := by decide +kernel
theorem dX0_reachGiver_57 : decode cX0_reachGiver 57 = .ok (.aload_n 0, 1) := by decide +kernel
theorem dX0_reachGiver_58 : decode cX0_reachGiver 58 = .ok (.getfield 50, 3) := by decide +kernel
theorem dX0_reachGiver_61 : decode cX0_reachGiver 61 = .ok (.iload 4, 2) := by decide +kernel
theorem dX0_reachGiver_63 : decode cX0_reachGiver 63 = .ok (.baload, 1) := by decide +kernel
theorem dX0_reachGiver_64 : decode cX0_reachGiver 64 = .ok (.ifCond .ne 32, 3) := by decide +kernel
theorem dX0_reachGiver_67 : decode cX0_reachGiver 67 = .ok (.iload 5, 2) := by decide +kernel
theorem dX0_reachGiver_69 : decode cX0_reachGiver 69 = .ok (.aload_n 0, 1) := by decide +kernel
theorem dX0_reachGiver_70 : decode cX0_reachGiver 70 = .ok (.getfield 41, 3) := by decide +kernel
theorem dX0_reachGiver_73 : decode cX0_reachGiver 73 = .ok (.iload 4, 2) := by decide +kernel
theorem dX0_reachGiver_75 : decode cX0_reachGiver 75 = .ok (.iaload, 1) := by decide +kernel
theorem dX0_reachGiver_76 : decode cX0_reachGiver 76 = .ok (.if_icmp .ge 20, 3) := by decide +kernel
theorem dX0_reachGiver_79 : decode cX0_reachGiver 79 = .ok (.aload_n 0, 1) := by decide +kernel
theorem dX0_reachGiver_80 : decode cX0_reachGiver 80 = .ok (.getfield 41, 3) := by decide +kernel
theorem dX0_reachGiver_83 : decode cX0_reachGiver 83 = .ok (.iload 4, 2) := by decide +kernel
theorem dX0_reachGiver_85 : decode cX0_reachGiver 85 = .ok (.iload 5, 2) := by decide +kernel
theorem dX0_reachGiver_87 : decode cX0_reachGiver 87 = .ok (.iastore, 1) := by decide +kernel
theorem dX0_reachGiver_88 : decode cX0_reachGiver 88 = .ok (.aload_n 0, 1) := by decide +kernel
theorem dX0_reachGiver_89 : decode cX0_reachGiver 89 = .ok (.getfield 47, 3) := by decide +kernel
theorem dX0_reachGiver_92 : decode cX0_reachGiver 92 = .ok (.iload 4, 2) := by decide +kernel
theorem dX0_reachGiver_94 : decode cX0_reachGiver 94 = .ok (.iload_n 1, 1) := by decide +kernel
theorem dX0_reachGiver_95 : decode cX0_reachGiver 95 = .ok (.iastore, 1) := by decide +kernel
theorem dX0_reachGiver_96 : decode cX0_reachGiver 96 = .ok (.iinc 4 1, 3) := by decide +kernel
theorem dX0_reachGiver_99 : decode cX0_reachGiver 99 = .ok (.goto (-82), 3) := by decide +kernel
theorem dX0_reachGiver_102 : decode cX0_reachGiver 102 = .ok (.return_, 1) := by decide +kernel
theorem dX0_changeRates_0 : decode cX0_changeRates 0 = .ok (.iconst 0, 1) := by decide +kernel
theorem dX0_changeRates_1 : decode cX0_changeRates 1 = .ok (.istore_n 2, 1) := by decide +kernel
theorem dX0_changeRates_2 : decode cX0_changeRates 2 = .ok (.iload_n 2, 1) := by decide +kernel
theorem dX0_changeRates_3 : decode cX0_changeRates 3 = .ok (.aload_n 0, 1) := by decide +kernel
theorem dX0_changeRates_4 : decode cX0_changeRates 4 = .ok (.getfield 14, 3) := by decide +kernel
theorem dX0_changeRates_7 : decode cX0_changeRates 7 = .ok (.getfield 66, 3) := by decide +kernel
theorem dX0_changeRates_10 : decode cX0_changeRates 10 = .ok (.if_icmp .ge 36, 3) := by decide +kernel
theorem dX0_changeRates_13 : decode cX0_changeRates 13 = .ok (.aload_n 0, 1) := by decide +kernel
theorem dX0_changeRates_14 : decode cX0_changeRates 14 = .ok (.getfield 38, 3) := by decide +kernel
theorem dX0_changeRates_17 : decode cX0_changeRates 17 = .ok (.iload_n 2, 1) := by decide +kernel
theorem dX0_changeRates_18 : decode cX0_changeRates 18 = .ok (.iaload, 1) := by decide +kernel
theorem dX0_changeRates_19 : decode cX0_changeRates 19 = .ok (.iconst (-1), 1) := by decide +kernel
theorem dX0_changeRates_20 : decode cX0_changeRates 20 = .ok (.if_icmp .eq 20, 3) := by decide +kernel
theorem dX0_changeRates_23 : decode cX0_changeRates 23 = .ok (.aload_n 0, 1) := by decide +kernel
theorem dX0_changeRates_24 : decode cX0_changeRates 24 = .ok (.getfield 31, 3) := by decide +kernel
theorem dX0_changeRates_27 : decode cX0_changeRates 27 = .ok (.iload_n 2, 1) := by decide +kernel
theorem dX0_changeRates_28 : decode cX0_changeRates 28 = .ok (.dup2, 1) := by decide +kernel
theorem dX0_changeRates_29 : decode cX0_changeRates 29 = .ok (.iaload, 1) := by decide +kernel
theorem dX0_changeRates_30 : decode cX0_changeRates 30 = .ok (.iload_n 1, 1) := by decide +kernel
theorem dX0_changeRates_31 : decode cX0_changeRates 31 = .ok (.aload_n 0, 1) := by decide +kernel
theorem dX0_changeRates_32 : decode cX0_changeRates 32 = .ok (.getfield 38, 3) := by decide +kernel
theorem dX0_changeRates_35 : decode cX0_changeRates 35 = .ok (.iload_n 2, 1) := by decide +kernel
theorem dX0_changeRates_36 : decode cX0_changeRates 36 = .ok (.iaload, 1) := by decide +kernel
theorem dX0_changeRates_37 : decode cX0_changeRates 37 = .ok (.isub, 1) := by decide +kernel
theorem dX0_changeRates_38 : decode cX0_changeRates 38 = .ok (.iadd, 1) := by decide +kernel
theorem dX0_changeRates_39 : decode cX0_changeRates 39 = .ok (.iastore, 1) := by decide +kernel
theorem dX0_changeRates_40 : decode cX0_changeRates 40 = .ok (.iinc 2 1, 3) := by decide +kernel
theorem dX0_changeRates_43 : decode cX0_changeRates 43 = .ok (.goto (-41), 3) := by decide +kernel
theorem dX0_changeRates_46 : decode cX0_changeRates 46 = .ok (.iconst 0, 1) := by decide +kernel
theorem dX0_changeRates_47 : decode cX0_changeRates 47 = .ok (.istore_n 2, 1) := by decide +kernel
theorem dX0_changeRates_48 : decode cX0_changeRates 48 = .ok (.iload_n 2, 1) := by decide +kernel
theorem dX0_changeRates_49 : decode cX0_changeRates 49 = .ok (.aload_n 0, 1) := by decide +kernel
theorem dX0_changeRates_50 : decode cX0_changeRates 50 = .ok (.getfield 20, 3) := by decide +kernel
theorem dX0_changeRates_53 : decode cX0_changeRates 53 = .ok (.getfield 66, 3) := by decide +kernel
theorem dX0_changeRates_56 : decode cX0_changeRates 56 = .ok (.if_icmp .ge 35, 3) := by decide +kernel
theorem dX0_changeRates_59 : decode cX0_changeRates 59 = .ok (.aload_n 0, 1) := by decide +kernel
theorem dX0_changeRates_60 : decode cX0_changeRates 60 = .ok (.getfield 50, 3) := by decide +kernel
theorem dX0_changeRates_63 : decode cX0_changeRates 63 = .ok (.iload_n 2, 1) := by decide +kernel
theorem dX0_changeRates_64 : decode cX0_changeRates 64 = .ok (.baload, 1) := by decide +kernel
theorem dX0_changeRates_65 : decode cX0_changeRates 65 = .ok (.ifCond .eq 20, 3) := by decide +kernel
theorem dX0_changeRates_68 : decode cX0_changeRates 68 = .ok (.aload_n 0, 1) := by decide +kernel
theorem dX0_changeRates_69 : decode cX0_changeRates 69 = .ok (.getfield 35, 3) := by decide +kernel
theorem dX0_changeRates_72 : decode cX0_changeRates 72 = .ok (.iload_n 2, 1) := by decide +kernel
theorem dX0_changeRates_73 : decode cX0_changeRates 73 = .ok (.dup2, 1) := by decide +kernel
theorem dX0_changeRates_74 : decode cX0_changeRates 74 = .ok (.iaload, 1) := by decide +kernel
theorem dX0_changeRates_75 : decode cX0_changeRates 75 = .ok (.iload_n 1, 1) := by decide +kernel
theorem dX0_changeRates_76 : decode cX0_changeRates 76 = .ok (.aload_n 0, 1) := by decide +kernel
theorem dX0_changeRates_77 : decode cX0_changeRates 77 = .ok (.getfield 41, 3) := by decide +kernel
theorem dX0_changeRates_80 : decode cX0_changeRates 80 = .ok (.iload_n 2, 1) := by decide +kernel
theorem dX0_changeRates_81 : decode cX0_changeRates 81 = .ok (.iaload, 1) := by decide +kernel
theorem dX0_changeRates_82 : decode cX0_changeRates 82 = .ok (.isub, 1) := by decide +kernel
theorem dX0_changeRates_83 : decode cX0_changeRates 83 = .ok (.isub, 1) := by decide +kernel
theorem dX0_changeRates_84 : decode cX0_changeRates 84 = .ok (.iastore, 1) := by decide +kernel
theorem dX0_changeRates_85 : decode cX0_changeRates 85 = .ok (.iinc 2 1, 3) := by decide +kernel
theorem dX0_changeRates_88 : decode cX0_changeRates 88 = .ok (.goto (-40), 3) := by decide +kernel
theorem dX0_changeRates_91 : decode cX0_changeRates 91 = .ok (.return_, 1) := by decide +kernel
theorem dX0_amountOnPath_0 : decode cX0_amountOnPath 0 = .ok (.aload_n 0, 1) := by decide +kernel
theorem dX0_amountOnPath_1 : decode cX0_amountOnPath 1 = .ok (.getfield 14, 3) := by decide +kernel
theorem dX0_amountOnPath_4 : decode cX0_amountOnPath 4 = .ok (.getfield 90, 3) := by decide +kernel
theorem dX0_amountOnPath_7 : decode cX0_amountOnPath 7 = .ok (.iload_n 1, 1) := by decide +kernel
theorem dX0_amountOnPath_8 : decode cX0_amountOnPath 8 = .ok (.iaload, 1) := by decide +kernel
theorem dX0_amountOnPath_9 : decode cX0_amountOnPath 9 = .ok (.aload_n 0, 1) := by decide +kernel
theorem dX0_amountOnPath_10 : decode cX0_amountOnPath 10 = .ok (.getfield 20, 3) := by decide +kernel
theorem dX0_amountOnPath_13 : decode cX0_amountOnPath 13 = .ok (.getfield 90, 3) := by decide +kernel
theorem dX0_amountOnPath_16 : decode cX0_amountOnPath 16 = .ok (.iload_n 2, 1) := by decide +kernel
theorem dX0_amountOnPath_17 : decode cX0_amountOnPath 17 = .ok (.iaload, 1) := by decide +kernel
theorem dX0_amountOnPath_18 : decode cX0_amountOnPath 18 = .ok (.invokestatic 118, 3) := by decide +kernel
theorem dX0_amountOnPath_21 : decode cX0_amountOnPath 21 = .ok (.istore_n 3, 1) := by decide +kernel
theorem dX0_amountOnPath_22 : decode cX0_amountOnPath 22 = .ok (.aload_n 0, 1) := by decide +kernel
theorem dX0_amountOnPath_23 : decode cX0_amountOnPath 23 = .ok (.getfield 47, 3) := by decide +kernel
theorem dX0_amountOnPath_26 : decode cX0_amountOnPath 26 = .ok (.iload_n 2, 1) := by decide +kernel
theorem dX0_amountOnPath_27 : decode cX0_amountOnPath 27 = .ok (.iaload, 1) := by decide +kernel
theorem dX0_amountOnPath_28 : decode cX0_amountOnPath 28 = .ok (.istore 4, 2) := by decide +kernel
theorem dX0_amountOnPath_30 : decode cX0_amountOnPath 30 = .ok (.iconst 0, 1) := by decide +kernel
theorem dX0_amountOnPath_31 : decode cX0_amountOnPath 31 = .ok (.istore 5, 2) := by decide +kernel
theorem dX0_amountOnPath_33 : decode cX0_amountOnPath 33 = .ok (.iload 5, 2) := by decide +kernel
theorem dX0_amountOnPath_35 : decode cX0_amountOnPath 35 = .ok (.bipush 24, 2) := by decide +kernel
theorem dX0_amountOnPath_37 : decode cX0_amountOnPath 37 = .ok (.if_icmp .ge 54, 3) := by decide +kernel
theorem dX0_amountOnPath_40 : decode cX0_amountOnPath 40 = .ok (.aload_n 0, 1) := by decide +kernel
theorem dX0_amountOnPath_41 : decode cX0_amountOnPath 41 = .ok (.getfield 44, 3) := by decide +kernel
theorem dX0_amountOnPath_44 : decode cX0_amountOnPath 44 = .ok (.iload 4, 2) := by decide +kernel
theorem dX0_amountOnPath_46 : decode cX0_amountOnPath 46 = .ok (.iaload, 1) := by decide +kernel
theorem dX0_amountOnPath_47 : decode cX0_amountOnPath 47 = .ok (.iconst (-1), 1) := by decide +kernel
theorem dX0_amountOnPath_48 : decode cX0_amountOnPath 48 = .ok (.if_icmp .eq 43, 3) := by decide +kernel
theorem dX0_amountOnPath_51 : decode cX0_amountOnPath 51 = .ok (.iload_n 3, 1) := by decide +kernel
theorem dX0_amountOnPath_52 : decode cX0_amountOnPath 52 = .ok (.aload_n 0, 1) := by decide +kernel
theorem dX0_amountOnPath_53 : decode cX0_amountOnPath 53 = .ok (.getfield 28, 3) := by decide +kernel
theorem dX0_amountOnPath_56 : decode cX0_amountOnPath 56 = .ok (.iload 4, 2) := by decide +kernel
theorem dX0_amountOnPath_58 : decode cX0_amountOnPath 58 = .ok (.aaload, 1) := by decide +kernel
theorem dX0_amountOnPath_59 : decode cX0_amountOnPath 59 = .ok (.aload_n 0, 1) := by decide +kernel
theorem dX0_amountOnPath_60 : decode cX0_amountOnPath 60 = .ok (.getfield 44, 3) := by decide +kernel
theorem dX0_amountOnPath_63 : decode cX0_amountOnPath 63 = .ok (.iload 4, 2) := by decide +kernel
theorem dX0_amountOnPath_65 : decode cX0_amountOnPath 65 = .ok (.iaload, 1) := by decide +kernel
theorem dX0_amountOnPath_66 : decode cX0_amountOnPath 66 = .ok (.iaload, 1) := by decide +kernel
theorem dX0_amountOnPath_67 : decode cX0_amountOnPath 67 = .ok (.invokestatic 118, 3) := by decide +kernel
theorem dX0_amountOnPath_70 : decode cX0_amountOnPath 70 = .ok (.istore_n 3, 1) := by decide +kernel
theorem dX0_amountOnPath_71 : decode cX0_amountOnPath 71 = .ok (.aload_n 0, 1) := by decide +kernel
theorem dX0_amountOnPath_72 : decode cX0_amountOnPath 72 = .ok (.getfield 47, 3) := by decide +kernel
theorem dX0_amountOnPath_75 : decode cX0_amountOnPath 75 = .ok (.aload_n 0, 1) := by decide +kernel
theorem dX0_amountOnPath_76 : decode cX0_amountOnPath 76 = .ok (.getfield 44, 3) := by decide +kernel
theorem dX0_amountOnPath_79 : decode cX0_amountOnPath 79 = .ok (.iload 4, 2) := by decide +kernel
theorem dX0_amountOnPath_81 : decode cX0_amountOnPath 81 = .ok (.iaload, 1) := by decide +kernel
theorem dX0_amountOnPath_82 : decode cX0_amountOnPath 82 = .ok (.iaload, 1) := by decide +kernel
theorem dX0_amountOnPath_83 : decode cX0_amountOnPath 83 = .ok (.istore 4, 2) := by decide +kernel
theorem dX0_amountOnPath_85 : decode cX0_amountOnPath 85 = .ok (.iinc 5 1, 3) := by decide +kernel
theorem dX0_amountOnPath_88 : decode cX0_amountOnPath 88 = .ok (.goto (-55), 3) := by decide +kernel
theorem dX0_amountOnPath_91 : decode cX0_amountOnPath 91 = .ok (.iload_n 3, 1) := by decide +kernel
theorem dX0_amountOnPath_92 : decode cX0_amountOnPath 92 = .ok (.ireturn, 1) := by decide +kernel
theorem dX0_send_0 : decode cX0_send 0 = .ok (.aload_n 0, 1) := by decide +kernel
theorem dX0_send_1 : decode cX0_send 1 = .ok (.getfield 14, 3) := by decide +kernel
theorem dX0_send_4 : decode cX0_send 4 = .ok (.getfield 90, 3) := by decide +kernel
theorem dX0_send_7 : decode cX0_send 7 = .ok (.iload_n 1, 1) := by decide +kernel
theorem dX0_send_8 : decode cX0_send 8 = .ok (.dup2, 1) := by decide +kernel
theorem dX0_send_9 : decode cX0_send 9 = .ok (.iaload, 1) := by decide +kernel
theorem dX0_send_10 : decode cX0_send 10 = .ok (.iload_n 3, 1) := by decide +kernel
theorem dX0_send_11 : decode cX0_send 11 = .ok (.isub, 1) := by decide +kernel
theorem dX0_send_12 : decode cX0_send 12 = .ok (.iastore, 1) := by decide +kernel
theorem dX0_send_13 : decode cX0_send 13 = .ok (.aload_n 0, 1) := by decide +kernel
theorem dX0_send_14 : decode cX0_send 14 = .ok (.getfield 20, 3) := by decide +kernel
theorem dX0_send_17 : decode cX0_send 17 = .ok (.getfield 90, 3) := by decide +kernel
theorem dX0_send_20 : decode cX0_send 20 = .ok (.iload_n 2, 1) := by decide +kernel
theorem dX0_send_21 : decode cX0_send 21 = .ok (.dup2, 1) := by decide +kernel
theorem dX0_send_22 : decode cX0_send 22 = .ok (.iaload, 1) := by decide +kernel
theorem dX0_send_23 : decode cX0_send 23 = .ok (.iload_n 3, 1) := by decide +kernel
theorem dX0_send_24 : decode cX0_send 24 = .ok (.isub, 1) := by decide +kernel
theorem dX0_send_25 : decode cX0_send 25 = .ok (.iastore, 1) := by decide +kernel
theorem dX0_send_26 : decode cX0_send 26 = .ok (.aload_n 0, 1) := by decide +kernel
theorem dX0_send_27 : decode cX0_send 27 = .ok (.getfield 47, 3) := by decide +kernel
theorem dX0_send_30 : decode cX0_send 30 = .ok (.iload_n 2, 1) := by decide +kernel
theorem dX0_send_31 : decode cX0_send 31 = .ok (.iaload, 1) := by decide +kernel
theorem dX0_send_32 : decode cX0_send 32 = .ok (.istore 4, 2) := by decide +kernel
theorem dX0_send_34 : decode cX0_send 34 = .ok (.aload_n 0, 1) := by decide +kernel
theorem dX0_send_35 : decode cX0_send 35 = .ok (.getfield 28, 3) := by decide +kernel
theorem dX0_send_38 : decode cX0_send 38 = .ok (.iload 4, 2) := by decide +kernel
theorem dX0_send_40 : decode cX0_send 40 = .ok (.aaload, 1) := by decide +kernel
theorem dX0_send_41 : decode cX0_send 41 = .ok (.iload_n 2, 1) := by decide +kernel
theorem dX0_send_42 : decode cX0_send 42 = .ok (.dup2, 1) := by decide +kernel
theorem dX0_send_43 : decode cX0_send 43 = .ok (.iaload, 1) := by decide +kernel
theorem dX0_send_44 : decode cX0_send 44 = .ok (.iload_n 3, 1) := by decide +kernel
theorem dX0_send_45 : decode cX0_send 45 = .ok (.iadd, 1) := by decide +kernel
theorem dX0_send_46 : decode cX0_send 46 = .ok (.iastore, 1) := by decide +kernel
theorem dX0_send_47 : decode cX0_send 47 = .ok (.iconst 0, 1) := by decide +kernel
theorem dX0_send_48 : decode cX0_send 48 = .ok (.istore 5, 2) := by decide +kernel
theorem dX0_send_50 : decode cX0_send 50 = .ok (.iload 5, 2) := by decide +kernel
theorem dX0_send_52 : decode cX0_send 52 = .ok (.bipush 24, 2) := by decide +kernel
theorem dX0_send_54 : decode cX0_send 54 = .ok (.if_icmp .ge 66, 3) := by decide +kernel
theorem dX0_send_57 : decode cX0_send 57 = .ok (.aload_n 0, 1) := by decide +kernel
theorem dX0_send_58 : decode cX0_send 58 = .ok (.getfield 44, 3) := by decide +kernel
theorem dX0_send_61 : decode cX0_send 61 = .ok (.iload 4, 2) := by decide +kernel
theorem dX0_send_63 : decode cX0_send 63 = .ok (.iaload, 1) := by decide +kernel
theorem dX0_send_64 : decode cX0_send 64 = .ok (.iconst (-1), 1) := by decide +kernel
theorem dX0_send_65 : decode cX0_send 65 = .ok (.if_icmp .eq 55, 3) := by decide +kernel
theorem dX0_send_68 : decode cX0_send 68 = .ok (.aload_n 0, 1) := by decide +kernel
theorem dX0_send_69 : decode cX0_send 69 = .ok (.getfield 44, 3) := by decide +kernel
theorem dX0_send_72 : decode cX0_send 72 = .ok (.iload 4, 2) := by decide +kernel
theorem dX0_send_74 : decode cX0_send 74 = .ok (.iaload, 1) := by decide +kernel
theorem dX0_send_75 : decode cX0_send 75 = .ok (.istore 6, 2) := by decide +kernel
theorem dX0_send_77 : decode cX0_send 77 = .ok (.aload_n 0, 1) := by decide +kernel
theorem dX0_send_78 : decode cX0_send 78 = .ok (.getfield 28, 3) := by decide +kernel
theorem dX0_send_81 : decode cX0_send 81 = .ok (.iload 4, 2) := by decide +kernel
theorem dX0_send_83 : decode cX0_send 83 = .ok (.aaload, 1) := by decide +kernel
theorem dX0_send_84 : decode cX0_send 84 = .ok (.iload 6, 2) := by decide +kernel
theorem dX0_send_86 : decode cX0_send 86 = .ok (.dup2, 1) := by decide +kernel
theorem dX0_send_87 : decode cX0_send 87 = .ok (.iaload, 1) := by decide +kernel
theorem dX0_send_88 : decode cX0_send 88 = .ok (.iload_n 3, 1) := by decide +kernel
theorem dX0_send_89 : decode cX0_send 89 = .ok (.isub, 1) := by decide +kernel
theorem dX0_send_90 : decode cX0_send 90 = .ok (.iastore, 1) := by decide +kernel
theorem dX0_send_91 : decode cX0_send 91 = .ok (.aload_n 0, 1) := by decide +kernel
theorem dX0_send_92 : decode cX0_send 92 = .ok (.getfield 47, 3) := by decide +kernel
theorem dX0_send_95 : decode cX0_send 95 = .ok (.iload 6, 2) := by decide +kernel
theorem dX0_send_97 : decode cX0_send 97 = .ok (.iaload, 1) := by decide +kernel
theorem dX0_send_98 : decode cX0_send 98 = .ok (.istore 4, 2) := by decide +kernel
theorem dX0_send_100 : decode cX0_send 100 = .ok (.aload_n 0, 1) := by decide +kernel
theorem dX0_send_101 : decode cX0_send 101 = .ok (.getfield 28, 3) := by decide +kernel
theorem dX0_send_104 : decode cX0_send 104 = .ok (.iload 4, 2) := by decide +kernel
theorem dX0_send_106 : decode cX0_send 106 = .ok (.aaload, 1) := by decide +kernel
theorem dX0_send_107 : decode cX0_send 107 = .ok (.iload 6, 2) := by decide +kernel
theorem dX0_send_109 : decode cX0_send 109 = .ok (.dup2, 1) := by decide +kernel
theorem dX0_send_110 : decode cX0_send 110 = .ok (.iaload, 1) := by decide +kernel
theorem dX0_send_111 : decode cX0_send 111 = .ok (.iload_n 3, 1) := by decide +kernel
theorem dX0_send_112 : decode cX0_send 112 = .ok (.iadd, 1) := by decide +kernel
theorem dX0_send_113 : decode cX0_send 113 = .ok (.iastore, 1) := by decide +kernel
theorem dX0_send_114 : decode cX0_send 114 = .ok (.iinc 5 1, 3) := by decide +kernel
theorem dX0_send_117 : decode cX0_send 117 = .ok (.goto (-67), 3) := by decide +kernel
theorem dX0_send_120 : decode cX0_send 120 = .ok (.return_, 1) := by decide +kernel
theorem dX1_init_0 : decode cX1_init 0 = .ok (.aload_n 0, 1) := by decide +kernel
theorem dX1_init_1 : decode cX1_init 1 = .ok (.invokespecial 3, 3) := by decide +kernel
theorem dX1_init_4 : decode cX1_init 4 = .ok (.aload_n 0, 1) := by decide +kernel
theorem dX1_init_5 : decode cX1_init 5 = .ok (.iconst 5, 1) := by decide +kernel
theorem dX1_init_6 : decode cX1_init 6 = .ok (.sipush 200, 3) := by decide +kernel
theorem dX1_init_9 : decode cX1_init 9 = .ok (.multianewarray 11 2, 4) := by decide +kernel
theorem dX1_init_13 : decode cX1_init 13 = .ok (.putfield 13, 3) := by decide +kernel
theorem dX1_init_16 : decode cX1_init 16 = .ok (.aload_n 0, 1) := by decide +kernel
theorem dX1_init_17 : decode cX1_init 17 = .ok (.sipush 200, 3) := by decide +kernel
theorem dX1_init_20 : decode cX1_init 20 = .ok (.newarray .int, 2) := by decide +kernel
theorem dX1_init_22 : decode cX1_init 22 = .ok (.putfield 16, 3) := by decide +kernel
theorem dX1_init_25 : decode cX1_init 25 = .ok (.return_, 1) := by decide +kernel
theorem dX1_add_0 : decode cX1_add 0 = .ok (.aload_n 0, 1) := by decide +kernel
theorem dX1_add_1 : decode cX1_add 1 = .ok (.getfield 20, 3) := by decide +kernel
theorem dX1_add_4 : decode cX1_add 4 = .ok (.sipush 200, 3) := by decide +kernel
theorem dX1_add_7 : decode cX1_add 7 = .ok (.if_icmp .lt 4, 3) := by decide +kernel
theorem dX1_add_10 : decode cX1_add 10 = .ok (.return_, 1) := by decide +kernel
theorem dX1_add_11 : decode cX1_add 11 = .ok (.aload_n 0, 1) := by decide +kernel
theorem dX1_add_12 : decode cX1_add 12 = .ok (.getfield 13, 3) := by decide +kernel
theorem dX1_add_15 : decode cX1_add 15 = .ok (.iconst 0, 1) := by decide +kernel
theorem dX1_add_16 : decode cX1_add 16 = .ok (.aaload, 1) := by decide +kernel
theorem dX1_add_17 : decode cX1_add 17 = .ok (.aload_n 0, 1) := by decide +kernel
theorem dX1_add_18 : decode cX1_add 18 = .ok (.getfield 20, 3) := by decide +kernel
theorem dX1_add_21 : decode cX1_add 21 = .ok (.iload_n 1, 1) := by decide +kernel
theorem dX1_add_22 : decode cX1_add 22 = .ok (.iastore, 1) := by decide +kernel
theorem dX1_add_23 : decode cX1_add 23 = .ok (.aload_n 0, 1) := by decide +kernel
theorem dX1_add_24 : decode cX1_add 24 = .ok (.getfield 13, 3) := by decide +kernel
theorem dX1_add_27 : decode cX1_add 27 = .ok (.iconst 1, 1) := by decide +kernel
theorem dX1_add_28 : decode cX1_add 28 = .ok (.aaload, 1) := by decide +kernel
theorem dX1_add_29 : decode cX1_add 29 = .ok (.aload_n 0, 1) := by decide +kernel
theorem dX1_add_30 : decode cX1_add 30 = .ok (.getfield 20, 3) := by decide +kernel
theorem dX1_add_33 : decode cX1_add 33 = .ok (.iload_n 2, 1) := by decide +kernel
theorem dX1_add_34 : decode cX1_add 34 = .ok (.iastore, 1) := by decide +kernel
theorem dX1_add_35 : decode cX1_add 35 = .ok (.aload_n 0, 1) := by decide +kernel
theorem dX1_add_36 : decode cX1_add 36 = .ok (.getfield 13, 3) := by decide +kernel
theorem dX1_add_39 : decode cX1_add 39 = .ok (.iconst 2, 1) := by decide +kernel
theorem dX1_add_40 : decode cX1_add 40 = .ok (.aaload, 1) := by decide +kernel
theorem dX1_add_41 : decode cX1_add 41 = .ok (.aload_n 0, 1) := by decide +kernel
theorem dX1_add_42 : decode cX1_add 42 = .ok (.getfield 20, 3) := by decide +kernel
theorem dX1_add_45 : decode cX1_add 45 = .ok (.iload_n 3, 1) := by decide +kernel
theorem dX1_add_46 : decode cX1_add 46 = .ok (.iastore, 1) := by decide +kernel
theorem dX1_add_47 : decode cX1_add 47 = .ok (.aload_n 0, 1) := by decide +kernel
theorem dX1_add_48 : decode cX1_add 48 = .ok (.getfield 13, 3) := by decide +kernel
theorem dX1_add_51 : decode cX1_add 51 = .ok (.iconst 3, 1) := by decide +kernel
theorem dX1_add_52 : decode cX1_add 52 = .ok (.aaload, 1) := by decide +kernel
theorem dX1_add_53 : decode cX1_add 53 = .ok (.aload_n 0, 1) := by decide +kernel
theorem dX1_add_54 : decode cX1_add 54 = .ok (.getfield 20, 3) := by decide +kernel
theorem dX1_add_57 : decode cX1_add 57 = .ok (.iload 4, 2) := by decide +kernel
theorem dX1_add_59 : decode cX1_add 59 = .ok (.iastore, 1) := by decide +kernel
theorem dX1_add_60 : decode cX1_add 60 = .ok (.aload_n 0, 1) := by decide +kernel
theorem dX1_add_61 : decode cX1_add 61 = .ok (.getfield 13, 3) := by decide +kernel
theorem dX1_add_64 : decode cX1_add 64 = .ok (.iconst 4, 1) := by decide +kernel
theorem dX1_add_65 : decode cX1_add 65 = .ok (.aaload, 1) := by decide +kernel
theorem dX1_add_66 : decode cX1_add 66 = .ok (.aload_n 0, 1) := by decide +kernel
theorem dX1_add_67 : decode cX1_add 67 = .ok (.getfield 20, 3) := by decide +kernel
theorem dX1_add_70 : decode cX1_add 70 = .ok (.iload 5, 2) := by decide +kernel
theorem dX1_add_72 : decode cX1_add 72 = .ok (.iastore, 1) := by decide +kernel
theorem dX1_add_73 : decode cX1_add 73 = .ok (.aload_n 0, 1) := by decide +kernel
theorem dX1_add_74 : decode cX1_add 74 = .ok (.getfield 20, 3) := by decide +kernel
theorem dX1_add_77 : decode cX1_add 77 = .ok (.istore 6, 2) := by decide +kernel
theorem dX1_add_79 : decode cX1_add 79 = .ok (.iload 6, 2) := by decide +kernel
theorem dX1_add_81 : decode cX1_add 81 = .ok (.ifCond .le 46, 3) := by decide +kernel
theorem dX1_add_84 : decode cX1_add 84 = .ok (.aload_n 0, 1) := by decide +kernel
theorem dX1_add_85 : decode cX1_add 85 = .ok (.getfield 13, 3) := by decide +kernel
theorem dX1_add_88 : decode cX1_add 88 = .ok (.iconst 3, 1) := by decide +kernel
theorem dX1_add_89 : decode cX1_add 89 = .ok (.aaload, 1) := by decide +kernel
theorem dX1_add_90 : decode cX1_add 90 = .ok (.aload_n 0, 1) := by decide +kernel
theorem dX1_add_91 : decode cX1_add 91 = .ok (.getfield 16, 3) := by decide +kernel
theorem dX1_add_94 : decode cX1_add 94 = .ok (.iload 6, 2) := by decide +kernel
theorem dX1_add_96 : decode cX1_add 96 = .ok (.iconst 1, 1) := by decide +kernel
theorem dX1_add_97 : decode cX1_add 97 = .ok (.isub, 1) := by decide +kernel
theorem dX1_add_98 : decode cX1_add 98 = .ok (.iaload, 1) := by decide +kernel
theorem dX1_add_99 : decode cX1_add 99 = .ok (.iaload, 1) := by decide +kernel
theorem dX1_add_100 : decode cX1_add 100 = .ok (.iload 4, 2) := by decide +kernel
theorem dX1_add_102 : decode cX1_add 102 = .ok (.if_icmp .le 25, 3) := by decide +kernel
theorem dX1_add_105 : decode cX1_add 105 = .ok (.aload_n 0, 1) := by decide +kernel
theorem dX1_add_106 : decode cX1_add 106 = .ok (.getfield 16, 3) := by decide +kernel
theorem dX1_add_109 : decode cX1_add 109 = .ok (.iload 6, 2) := by decide +kernel
theorem dX1_add_111 : decode cX1_add 111 = .ok (.aload_n 0, 1) := by decide +kernel
theorem dX1_add_112 : decode cX1_add 112 = .ok (.getfield 16, 3) := by decide +kernel
theorem dX1_add_115 : decode cX1_add 115 = .ok (.iload 6, 2) := by decide +kernel
theorem dX1_add_117 : decode cX1_add 117 = .ok (.iconst 1, 1) := by decide +kernel
theorem dX1_add_118 : decode cX1_add 118 = .ok (.isub, 1) := by decide +kernel
theorem dX1_add_119 : decode cX1_add 119 = .ok (.iaload, 1) := by decide +kernel
theorem dX1_add_120 : decode cX1_add 120 = .ok (.iastore, 1) := by decide +kernel
theorem dX1_add_121 : decode cX1_add 121 = .ok (.iinc 6 (-1), 3) := by decide +kernel
theorem dX1_add_124 : decode cX1_add 124 = .ok (.goto (-45), 3) := by decide +kernel
theorem dX1_add_127 : decode cX1_add 127 = .ok (.aload_n 0, 1) := by decide +kernel
theorem dX1_add_128 : decode cX1_add 128 = .ok (.getfield 16, 3) := by decide +kernel
theorem dX1_add_131 : decode cX1_add 131 = .ok (.iload 6, 2) := by decide +kernel
theorem dX1_add_133 : decode cX1_add 133 = .ok (.aload_n 0, 1) := by decide +kernel
theorem dX1_add_134 : decode cX1_add 134 = .ok (.getfield 20, 3) := by decide +kernel
theorem dX1_add_137 : decode cX1_add 137 = .ok (.iastore, 1) := by decide +kernel
theorem dX1_add_138 : decode cX1_add 138 = .ok (.aload_n 0, 1) := by decide +kernel
theorem dX1_add_139 : decode cX1_add 139 = .ok (.dup, 1) := by decide +kernel
theorem dX1_add_140 : decode cX1_add 140 = .ok (.getfield 20, 3) := by decide +kernel
theorem dX1_add_143 : decode cX1_add 143 = .ok (.iconst 1, 1) := by decide +kernel
theorem dX1_add_144 : decode cX1_add 144 = .ok (.iadd, 1) := by decide +kernel
theorem dX1_add_145 : decode cX1_add 145 = .ok (.putfield 20, 3) := by decide +kernel
theorem dX1_add_148 : decode cX1_add 148 = .ok (.return_, 1) := by decide +kernel
theorem dX1_look_0 : decode cX1_look 0 = .ok (.aload_n 0, 1) := by decide +kernel
theorem dX1_look_1 : decode cX1_look 1 = .ok (.getfield 13, 3) := by decide +kernel
theorem dX1_look_4 : decode cX1_look 4 = .ok (.iload_n 2, 1) := by decide +kernel
theorem dX1_look_5 : decode cX1_look 5 = .ok (.aaload, 1) := by decide +kernel
theorem dX1_look_6 : decode cX1_look 6 = .ok (.aload_n 0, 1) := by decide +kernel
theorem dX1_look_7 : decode cX1_look 7 = .ok (.getfield 16, 3) := by decide +kernel
theorem dX1_look_10 : decode cX1_look 10 = .ok (.iload_n 1, 1) := by decide +kernel
theorem dX1_look_11 : decode cX1_look 11 = .ok (.iaload, 1) := by decide +kernel
theorem dX1_look_12 : decode cX1_look 12 = .ok (.iaload, 1) := by decide +kernel
theorem dX1_look_13 : decode cX1_look 13 = .ok (.ireturn, 1) := by decide +kernel
set_option maxRecDepth 20000 in
theorem ggX2_init_X5_init : GoodIn wsX2_init wsX5_init := goodIn_r _ [11, 12, 2, 3] (by decide +kernel) (by decide +kernel)
set_option maxRecDepth 20000 in
theorem gX2_init_X5_init_n9 : GoodIn wsX2_init (wsX5_init) := ggX2_init_X5_init
theorem dX2_init_0 : decode cX2_init 0 = .ok (.aload_n 0, 1) := by decide +kernel
theorem dX2_init_1 : decode cX2_init 1 = .ok (.invokespecial 1, 3) := by decide +kernel
theorem dX2_init_4 : decode cX2_init 4 = .ok (.aload_n 0, 1) := by decide +kernel
theorem dX2_init_5 : decode cX2_init 5 = .ok (.new 7, 3) := by decide +kernel
theorem dX2_init_8 : decode cX2_init 8 = .ok (.dup, 1) := by decide +kernel
theorem dX2_init_9 : decode cX2_init 9 = .ok (.invokespecial 9, 3) := by decide +kernel
theorem dX2_init_12 : decode cX2_init 12 = .ok (.putfield 10, 3) := by decide +kernel
theorem dX2_init_15 : decode cX2_init 15 = .ok (.aload_n 0, 1) := by decide +kernel
theorem dX2_init_16 : decode cX2_init 16 = .ok (.new 7, 3) := by decide +kernel
theorem dX2_init_19 : decode cX2_init 19 = .ok (.dup, 1) := by decide +kernel
theorem dX2_init_20 : decode cX2_init 20 = .ok (.invokespecial 9, 3) := by decide +kernel
theorem dX2_init_23 : decode cX2_init 23 = .ok (.putfield 16, 3) := by decide +kernel
theorem dX2_init_26 : decode cX2_init 26 = .ok (.aload_n 0, 1) := by decide +kernel
theorem dX2_init_27 : decode cX2_init 27 = .ok (.new 7, 3) := by decide +kernel
theorem dX2_init_30 : decode cX2_init 30 = .ok (.dup, 1) := by decide +kernel
theorem dX2_init_31 : decode cX2_init 31 = .ok (.invokespecial 9, 3) := by decide +kernel
theorem dX2_init_34 : decode cX2_init 34 = .ok (.putfield 19, 3) := by decide +kernel
theorem dX2_init_37 : decode cX2_init 37 = .ok (.return_, 1) := by decide +kernel
set_option maxRecDepth 20000 in
theorem ggX2_begin_X5_become : GoodIn wsX2_begin wsX5_become := goodIn_r _ [9, 10, 11, 12, 17, 18, 19] (by decide +kernel) (by decide +kernel)
set_option maxRecDepth 20000 in
theorem gX2_begin_X5_become : GoodIn wsX2_begin (wsV RX2 22 RX5 yX5_become wsX5_become) := goodIn_app (goodIn_of _ (by decide +kernel)) ggX2_begin_X5_become
theorem dX2_begin_0 : decode cX2_begin 0 = .ok (.aload_n 0, 1) := by decide +kernel
theorem dX2_begin_1 : decode cX2_begin 1 = .ok (.getfield 10, 3) := by decide +kernel
theorem dX2_begin_4 : decode cX2_begin 4 = .ok (.iconst 0, 1) := by decide +kernel
theorem dX2_begin_5 : decode cX2_begin 5 = .ok (.lconst 0, 1) := by decide +kernel
theorem dX2_begin_6 : decode cX2_begin 6 = .ok (.lconst 0, 1) := by decide +kernel
theorem dX2_begin_7 : decode cX2_begin 7 = .ok (.invokevirtual 22, 3) := by decide +kernel
theorem dX2_begin_10 : decode cX2_begin 10 = .ok (.aload_n 0, 1) := by decide +kernel
theorem dX2_begin_11 : decode cX2_begin 11 = .ok (.getfield 16, 3) := by decide +kernel
theorem dX2_begin_14 : decode cX2_begin 14 = .ok (.iconst 1, 1) := by decide +kernel
theorem dX2_begin_15 : decode cX2_begin 15 = .ok (.lconst 0, 1) := by decide +kernel
theorem dX2_begin_16 : decode cX2_begin 16 = .ok (.lconst 0, 1) := by decide +kernel
theorem dX2_begin_17 : decode cX2_begin 17 = .ok (.invokevirtual 22, 3) := by decide +kernel
theorem dX2_begin_20 : decode cX2_begin 20 = .ok (.aload_n 0, 1) := by decide +kernel
theorem dX2_begin_21 : decode cX2_begin 21 = .ok (.getfield 19, 3) := by decide +kernel
theorem dX2_begin_24 : decode cX2_begin 24 = .ok (.iconst 1, 1) := by decide +kernel
theorem dX2_begin_25 : decode cX2_begin 25 = .ok (.lconst 0, 1) := by decide +kernel
theorem dX2_begin_26 : decode cX2_begin 26 = .ok (.lconst 0, 1) := by decide +kernel
theorem dX2_begin_27 : decode cX2_begin 27 = .ok (.invokevirtual 22, 3) := by decide +kernel
theorem dX2_begin_30 : decode cX2_begin 30 = .ok (.aload_n 0, 1) := by decide +kernel
theorem dX2_begin_31 : decode cX2_begin 31 = .ok (.iconst 0, 1) := by decide +kernel
theorem dX2_begin_32 : decode cX2_begin 32 = .ok (.putfield 26, 3) := by decide +kernel
theorem dX2_begin_35 : decode cX2_begin 35 = .ok (.return_, 1) := by decide +kernel
set_option maxRecDepth 20000 in
theorem ggX2_closeItem_X9_link : GoodIn wsX2_closeItem wsX9_link := goodIn_r _ [10, 11, 12, 32, 33, 34, 35, 36, 37, 38, 39] (by decide +kernel) (by decide +kernel)
set_option maxRecDepth 20000 in
theorem gX2_closeItem_X9_link : GoodIn wsX2_closeItem (wsV RX2 37 RX9 yX9_link wsX9_link) := goodIn_app (goodIn_of _ (by decide +kernel)) ggX2_closeItem_X9_link
set_option maxRecDepth 20000 in
theorem ggX2_closeItem_X5_addBehind : GoodIn wsX2_closeItem wsX5_addBehind := goodIn_r _ [17, 18, 19, 20, 29, 30, 31] (by decide +kernel) (by decide +kernel)
set_option maxRecDepth 20000 in
theorem gX2_closeItem_X5_addBehind : GoodIn wsX2_closeItem (wsV RX2 43 RX5 yX5_addBehind wsX5_addBehind) := goodIn_app (goodIn_of _ (by decide +kernel)) ggX2_closeItem_X5_addBehind
set_option maxRecDepth 20000 in
theorem ggX2_closeItem_X5_become : GoodIn wsX2_closeItem wsX5_become := goodIn_r _ [24, 18, 19, 20, 29, 30, 31] (by decide +kernel) (by decide +kernel)
set_option maxRecDepth 20000 in
theorem gX2_closeItem_X5_become : GoodIn wsX2_closeItem (wsV RX2 22 RX5 yX5_become wsX5_become) := goodIn_app (goodIn_of _ (by decide +kernel)) ggX2_closeItem_X5_become
theorem dX2_closeItem_0 : decode cX2_closeItem 0 = .ok (.aload_n 1, 1) := by decide +kernel
theorem dX2_closeItem_1 : decode cX2_closeItem 1 = .ok (.aload_n 0, 1) := by decide +kernel
theorem dX2_closeItem_2 : decode cX2_closeItem 2 = .ok (.getfield 16, 3) := by decide +kernel
theorem dX2_closeItem_5 : decode cX2_closeItem 5 = .ok (.getfield 30, 3) := by decide +kernel
theorem dX2_closeItem_8 : decode cX2_closeItem 8 = .ok (.aload_n 0, 1) := by decide +kernel
theorem dX2_closeItem_9 : decode cX2_closeItem 9 = .ok (.getfield 19, 3) := by decide +kernel
theorem dX2_closeItem_12 : decode cX2_closeItem 12 = .ok (.getfield 34, 3) := by decide +kernel
theorem dX2_closeItem_15 : decode cX2_closeItem 15 = .ok (.invokevirtual 37, 3) := by decide +kernel
theorem dX2_closeItem_18 : decode cX2_closeItem 18 = .ok (.aload_n 0, 1) := by decide +kernel
theorem dX2_closeItem_19 : decode cX2_closeItem 19 = .ok (.getfield 16, 3) := by decide +kernel
theorem dX2_closeItem_22 : decode cX2_closeItem 22 = .ok (.aload_n 0, 1) := by decide +kernel
theorem dX2_closeItem_23 : decode cX2_closeItem 23 = .ok (.getfield 19, 3) := by decide +kernel
theorem dX2_closeItem_26 : decode cX2_closeItem 26 = .ok (.invokevirtual 43, 3) := by decide +kernel
theorem dX2_closeItem_29 : decode cX2_closeItem 29 = .ok (.aload_n 0, 1) := by decide +kernel
theorem dX2_closeItem_30 : decode cX2_closeItem 30 = .ok (.getfield 19, 3) := by decide +kernel
theorem dX2_closeItem_33 : decode cX2_closeItem 33 = .ok (.iconst 1, 1) := by decide +kernel
theorem dX2_closeItem_34 : decode cX2_closeItem 34 = .ok (.lconst 0, 1) := by decide +kernel
theorem dX2_closeItem_35 : decode cX2_closeItem 35 = .ok (.lconst 0, 1) := by decide +kernel
theorem dX2_closeItem_36 : decode cX2_closeItem 36 = .ok (.invokevirtual 22, 3) := by decide +kernel
theorem dX2_closeItem_39 : decode cX2_closeItem 39 = .ok (.aload_n 0, 1) := by decide +kernel
theorem dX2_closeItem_40 : decode cX2_closeItem 40 = .ok (.iconst 0, 1) := by decide +kernel
theorem dX2_closeItem_41 : decode cX2_closeItem 41 = .ok (.putfield 26, 3) := by decide +kernel
theorem dX2_closeItem_44 : decode cX2_closeItem 44 = .ok (.return_, 1) := by decide +kernel
set_option maxRecDepth 20000 in
theorem ggX2_closeSeq_X2_closeItem : GoodIn wsX2_closeSeq wsX2_closeItem := goodIn_r _ [7, 2, 8, 9, 10, 11, 12, 13, 14, 15, 16, 17, 18, 19, 20, 21, 22, 23, 24, 25, 26, 27, 28, 29, 30, 35, 36, 37, 38, 39, 40, 41, 42, 43, 44, 45, 46, 47, 48, 49] (by decide +kernel) (by decide +kernel)
set_option maxRecDepth 20000 in
theorem gX2_closeSeq_X2_closeItem : GoodIn wsX2_closeSeq (wsV RX2 47 RX2 yX2_closeItem wsX2_closeItem) := goodIn_app (goodIn_of _ (by decide +kernel)) ggX2_closeSeq_X2_closeItem
set_option maxRecDepth 20000 in
theorem ggX2_closeSeq_X5_addChoice : GoodIn wsX2_closeSeq wsX5_addChoice := goodIn_r _ [34, 24, 25, 26, 39, 40, 41] (by decide +kernel) (by decide +kernel)
set_option maxRecDepth 20000 in
theorem gX2_closeSeq_X5_addChoice : GoodIn wsX2_closeSeq (wsV RX2 51 RX5 yX5_addChoice wsX5_addChoice) := goodIn_app (goodIn_of _ (by decide +kernel)) ggX2_closeSeq_X5_addChoice
set_option maxRecDepth 20000 in
theorem ggX2_closeSeq_X5_become : GoodIn wsX2_closeSeq wsX5_become := goodIn_r _ [30, 24, 25, 26, 39, 40, 41] (by decide +kernel) (by decide +kernel)
set_option maxRecDepth 20000 in
theorem gX2_closeSeq_X5_become : GoodIn wsX2_closeSeq (wsV RX2 22 RX5 yX5_become wsX5_become) := goodIn_app (goodIn_of _ (by decide +kernel)) ggX2_closeSeq_X5_become
theorem dX2_closeSeq_0 : decode cX2_closeSeq 0 = .ok (.aload_n 0, 1) := by decide +kernel
theorem dX2_closeSeq_1 : decode cX2_closeSeq 1 = .ok (.aload_n 1, 1) := by decide +kernel
theorem dX2_closeSeq_2 : decode cX2_closeSeq 2 = .ok (.invokevirtual 47, 3) := by decide +kernel
theorem dX2_closeSeq_5 : decode cX2_closeSeq 5 = .ok (.aload_n 0, 1) := by decide +kernel
theorem dX2_closeSeq_6 : decode cX2_closeSeq 6 = .ok (.getfield 10, 3) := by decide +kernel
theorem dX2_closeSeq_9 : decode cX2_closeSeq 9 = .ok (.aload_n 0, 1) := by decide +kernel
theorem dX2_closeSeq_10 : decode cX2_closeSeq 10 = .ok (.getfield 16, 3) := by decide +kernel
theorem dX2_closeSeq_13 : decode cX2_closeSeq 13 = .ok (.invokevirtual 51, 3) := by decide +kernel
theorem dX2_closeSeq_16 : decode cX2_closeSeq 16 = .ok (.aload_n 0, 1) := by decide +kernel
theorem dX2_closeSeq_17 : decode cX2_closeSeq 17 = .ok (.getfield 16, 3) := by decide +kernel
theorem dX2_closeSeq_20 : decode cX2_closeSeq 20 = .ok (.iconst 1, 1) := by decide +kernel
theorem dX2_closeSeq_21 : decode cX2_closeSeq 21 = .ok (.lconst 0, 1) := by decide +kernel
theorem dX2_closeSeq_22 : decode cX2_closeSeq 22 = .ok (.lconst 0, 1) := by decide +kernel
theorem dX2_closeSeq_23 : decode cX2_closeSeq 23 = .ok (.invokevirtual 22, 3) := by decide +kernel
theorem dX2_closeSeq_26 : decode cX2_closeSeq 26 = .ok (.return_, 1) := by decide +kernel
theorem dX3_init_0 : decode cX3_init 0 = .ok (.aload_n 0, 1) := by decide +kernel
theorem dX3_init_1 : decode cX3_init 1 = .ok (.invokespecial 3, 3) := by decide +kernel
theorem dX3_init_4 : decode cX3_init 4 = .ok (.aload_n 0, 1) := by decide +kernel
theorem dX3_init_5 : decode cX3_init 5 = .ok (.bipush 24, 2) := by decide +kernel
theorem dX3_init_7 : decode cX3_init 7 = .ok (.newarray .int, 2) := by decide +kernel
theorem dX3_init_9 : decode cX3_init 9 = .ok (.putfield 9, 3) := by decide +kernel
theorem dX3_init_12 : decode cX3_init 12 = .ok (.aload_n 0, 1) := by decide +kernel
theorem dX3_init_13 : decode cX3_init 13 = .ok (.bipush 24, 2) := by decide +kernel
theorem dX3_init_15 : decode cX3_init 15 = .ok (.newarray .int, 2) := by decide +kernel
theorem dX3_init_17 : decode cX3_init 17 = .ok (.putfield 15, 3) := by decide +kernel
theorem dX3_init_20 : decode cX3_init 20 = .ok (.aload_n 0, 1) := by decide +kernel
theorem dX3_init_21 : decode cX3_init 21 = .ok (.bipush 24, 2) := by decide +kernel
theorem dX3_init_23 : decode cX3_init 23 = .ok (.newarray .int, 2) := by decide +kernel
theorem dX3_init_25 : decode cX3_init 25 = .ok (.putfield 18, 3) := by decide +kernel
theorem dX3_init_28 : decode cX3_init 28 = .ok (.return_, 1) := by decide +kernel
set_option maxRecDepth 20000 in
theorem ggX3_fill_X4_isRest : GoodIn wsX3_fill wsX4_isRest := goodIn_r _ [13, 14, 20, 21, 22] (by decide +kernel) (by decide +kernel)
set_option maxRecDepth 20000 in
theorem gX3_fill_X4_isRest : GoodIn wsX3_fill (wsV RX3 31 RX4 yX4_isRest wsX4_isRest) := goodIn_app (goodIn_of _ (by decide +kernel)) ggX3_fill_X4_isRest
theorem dX3_fill_0 : decode cX3_fill 0 = .ok (.aload_n 0, 1) := by decide +kernel
theorem dX3_fill_1 : decode cX3_fill 1 = .ok (.iconst 0, 1) := by decide +kernel
theorem dX3_fill_2 : decode cX3_fill 2 = .ok (.putfield 21, 3) := by decide +kernel
theorem dX3_fill_5 : decode cX3_fill 5 = .ok (.aload_n 0, 1) := by decide +kernel
theorem dX3_fill_6 : decode cX3_fill 6 = .ok (.iconst 0, 1) := by decide +kernel
theorem dX3_fill_7 : decode cX3_fill 7 = .ok (.putfield 25, 3) := by decide +kernel
theorem dX3_fill_10 : decode cX3_fill 10 = .ok (.iconst 0, 1) := by decide +kernel
theorem dX3_fill_11 : decode cX3_fill 11 = .ok (.istore_n 2, 1) := by decide +kernel
theorem dX3_fill_12 : decode cX3_fill 12 = .ok (.iconst 0, 1) := by decide +kernel
theorem dX3_fill_13 : decode cX3_fill 13 = .ok (.istore_n 3, 1) := by decide +kernel
theorem dX3_fill_14 : decode cX3_fill 14 = .ok (.iload_n 3, 1) := by decide +kernel
theorem dX3_fill_15 : decode cX3_fill 15 = .ok (.aload_n 1, 1) := by decide +kernel
theorem dX3_fill_16 : decode cX3_fill 16 = .ok (.getfield 28, 3) := by decide +kernel
theorem dX3_fill_19 : decode cX3_fill 19 = .ok (.if_icmp .ge 91, 3) := by decide +kernel
theorem dX3_fill_22 : decode cX3_fill 22 = .ok (.aload_n 1, 1) := by decide +kernel
theorem dX3_fill_23 : decode cX3_fill 23 = .ok (.iload_n 3, 1) := by decide +kernel
theorem dX3_fill_24 : decode cX3_fill 24 = .ok (.invokevirtual 31, 3) := by decide +kernel
theorem dX3_fill_27 : decode cX3_fill 27 = .ok (.ifCond .ne 68, 3) := by decide +kernel
theorem dX3_fill_30 : decode cX3_fill 30 = .ok (.aload_n 0, 1) := by decide +kernel
theorem dX3_fill_31 : decode cX3_fill 31 = .ok (.getfield 9, 3) := by decide +kernel
theorem dX3_fill_34 : decode cX3_fill 34 = .ok (.aload_n 0, 1) := by decide +kernel
theorem dX3_fill_35 : decode cX3_fill 35 = .ok (.getfield 21, 3) := by decide +kernel
theorem dX3_fill_38 : decode cX3_fill 38 = .ok (.aload_n 1, 1) := by decide +kernel
theorem dX3_fill_39 : decode cX3_fill 39 = .ok (.getfield 35, 3) := by decide +kernel
theorem dX3_fill_42 : decode cX3_fill 42 = .ok (.iload_n 3, 1) := by decide +kernel
theorem dX3_fill_43 : decode cX3_fill 43 = .ok (.iaload, 1) := by decide +kernel
theorem dX3_fill_44 : decode cX3_fill 44 = .ok (.iastore, 1) := by decide +kernel
theorem dX3_fill_45 : decode cX3_fill 45 = .ok (.aload_n 0, 1) := by decide +kernel
theorem dX3_fill_46 : decode cX3_fill 46 = .ok (.getfield 15, 3) := by decide +kernel
theorem dX3_fill_49 : decode cX3_fill 49 = .ok (.aload_n 0, 1) := by decide +kernel
theorem dX3_fill_50 : decode cX3_fill 50 = .ok (.getfield 21, 3) := by decide +kernel
theorem dX3_fill_53 : decode cX3_fill 53 = .ok (.iload_n 2, 1) := by decide +kernel
theorem dX3_fill_54 : decode cX3_fill 54 = .ok (.iastore, 1) := by decide +kernel
theorem dX3_fill_55 : decode cX3_fill 55 = .ok (.aload_n 0, 1) := by decide +kernel
theorem dX3_fill_56 : decode cX3_fill 56 = .ok (.getfield 18, 3) := by decide +kernel
theorem dX3_fill_59 : decode cX3_fill 59 = .ok (.aload_n 0, 1) := by decide +kernel
theorem dX3_fill_60 : decode cX3_fill 60 = .ok (.getfield 21, 3) := by decide +kernel
theorem dX3_fill_63 : decode cX3_fill 63 = .ok (.aload_n 1, 1) := by decide +kernel
theorem dX3_fill_64 : decode cX3_fill 64 = .ok (.getfield 36, 3) := by decide +kernel
theorem dX3_fill_67 : decode cX3_fill 67 = .ok (.iload_n 3, 1) := by decide +kernel
theorem dX3_fill_68 : decode cX3_fill 68 = .ok (.iaload, 1) := by decide +kernel
theorem dX3_fill_69 : decode cX3_fill 69 = .ok (.iastore, 1) := by decide +kernel
theorem dX3_fill_70 : decode cX3_fill 70 = .ok (.aload_n 0, 1) := by decide +kernel
theorem dX3_fill_71 : decode cX3_fill 71 = .ok (.dup, 1) := by decide +kernel
theorem dX3_fill_72 : decode cX3_fill 72 = .ok (.getfield 25, 3) := by decide +kernel
theorem dX3_fill_75 : decode cX3_fill 75 = .ok (.aload_n 1, 1) := by decide +kernel
theorem dX3_fill_76 : decode cX3_fill 76 = .ok (.getfield 36, 3) := by decide +kernel
theorem dX3_fill_79 : decode cX3_fill 79 = .ok (.iload_n 3, 1) := by decide +kernel
theorem dX3_fill_80 : decode cX3_fill 80 = .ok (.iaload, 1) := by decide +kernel
theorem dX3_fill_81 : decode cX3_fill 81 = .ok (.iadd, 1) := by decide +kernel
theorem dX3_fill_82 : decode cX3_fill 82 = .ok (.putfield 25, 3) := by decide +kernel
theorem dX3_fill_85 : decode cX3_fill 85 = .ok (.aload_n 0, 1) := by decide +kernel
theorem dX3_fill_86 : decode cX3_fill 86 = .ok (.dup, 1) := by decide +kernel
theorem dX3_fill_87 : decode cX3_fill 87 = .ok (.getfield 21, 3) := by decide +kernel
theorem dX3_fill_90 : decode cX3_fill 90 = .ok (.iconst 1, 1) := by decide +kernel
theorem dX3_fill_91 : decode cX3_fill 91 = .ok (.iadd, 1) := by decide +kernel
theorem dX3_fill_92 : decode cX3_fill 92 = .ok (.putfield 21, 3) := by decide +kernel
theorem dX3_fill_95 : decode cX3_fill 95 = .ok (.iload_n 2, 1) := by decide +kernel
theorem dX3_fill_96 : decode cX3_fill 96 = .ok (.aload_n 1, 1) := by decide +kernel
theorem dX3_fill_97 : decode cX3_fill 97 = .ok (.getfield 36, 3) := by decide +kernel
theorem dX3_fill_100 : decode cX3_fill 100 = .ok (.iload_n 3, 1) := by decide +kernel
theorem dX3_fill_101 : decode cX3_fill 101 = .ok (.iaload, 1) := by decide +kernel
theorem dX3_fill_102 : decode cX3_fill 102 = .ok (.iadd, 1) := by decide +kernel
theorem dX3_fill_103 : decode cX3_fill 103 = .ok (.istore_n 2, 1) := by decide +kernel
theorem dX3_fill_104 : decode cX3_fill 104 = .ok (.iinc 3 1, 3) := by decide +kernel
theorem dX3_fill_107 : decode cX3_fill 107 = .ok (.goto (-93), 3) := by decide +kernel
theorem dX3_fill_110 : decode cX3_fill 110 = .ok (.return_, 1) := by decide +kernel
theorem dX4_init_0 : decode cX4_init 0 = .ok (.aload_n 0, 1) := by decide +kernel
theorem dX4_init_1 : decode cX4_init 1 = .ok (.invokespecial 3, 3) := by decide +kernel
theorem dX4_init_4 : decode cX4_init 4 = .ok (.aload_n 0, 1) := by decide +kernel
theorem dX4_init_5 : decode cX4_init 5 = .ok (.iload_n 1, 1) := by decide +kernel
theorem dX4_init_6 : decode cX4_init 6 = .ok (.newarray .int, 2) := by decide +kernel
theorem dX4_init_8 : decode cX4_init 8 = .ok (.putfield 9, 3) := by decide +kernel
theorem dX4_init_11 : decode cX4_init 11 = .ok (.aload_n 0, 1) := by decide +kernel
theorem dX4_init_12 : decode cX4_init 12 = .ok (.iload_n 1, 1) := by decide +kernel
theorem dX4_init_13 : decode cX4_init 13 = .ok (.newarray .int, 2) := by decide +kernel
theorem dX4_init_15 : decode cX4_init 15 = .ok (.putfield 15, 3) := by decide +kernel
theorem dX4_init_18 : decode cX4_init 18 = .ok (.return_, 1) := by decide +kernel
theorem dX4_isFull_0 : decode cX4_isFull 0 = .ok (.aload_n 0, 1) := by decide +kernel
theorem dX4_isFull_1 : decode cX4_isFull 1 = .ok (.getfield 18, 3) := by decide +kernel
theorem dX4_isFull_4 : decode cX4_isFull 4 = .ok (.aload_n 0, 1) := by decide +kernel
theorem dX4_isFull_5 : decode cX4_isFull 5 = .ok (.getfield 9, 3) := by decide +kernel
theorem dX4_isFull_8 : decode cX4_isFull 8 = .ok (.arraylength, 1) := by decide +kernel
theorem dX4_isFull_9 : decode cX4_isFull 9 = .ok (.if_icmp .lt 7, 3) := by decide +kernel
theorem dX4_isFull_12 : decode cX4_isFull 12 = .ok (.iconst 1, 1) := by decide +kernel
theorem dX4_isFull_13 : decode cX4_isFull 13 = .ok (.goto 4, 3) := by decide +kernel
theorem dX4_isFull_16 : decode cX4_isFull 16 = .ok (.iconst 0, 1) := by decide +kernel
theorem dX4_isFull_17 : decode cX4_isFull 17 = .ok (.ireturn, 1) := by decide +kernel
theorem dX4_isRest_0 : decode cX4_isRest 0 = .ok (.aload_n 0, 1) := by decide +kernel
theorem dX4_isRest_1 : decode cX4_isRest 1 = .ok (.getfield 9, 3) := by decide +kernel
theorem dX4_isRest_4 : decode cX4_isRest 4 = .ok (.iload_n 1, 1) := by decide +kernel
theorem dX4_isRest_5 : decode cX4_isRest 5 = .ok (.iaload, 1) := by decide +kernel
theorem dX4_isRest_6 : decode cX4_isRest 6 = .ok (.iconst (-1), 1) := by decide +kernel
theorem dX4_isRest_7 : decode cX4_isRest 7 = .ok (.if_icmp .ne 7, 3) := by decide +kernel
theorem dX4_isRest_10 : decode cX4_isRest 10 = .ok (.iconst 1, 1) := by decide +kernel
theorem dX4_isRest_11 : decode cX4_isRest 11 = .ok (.goto 4, 3) := by decide +kernel
theorem dX4_isRest_14 : decode cX4_isRest 14 = .ok (.iconst 0, 1) := by decide +kernel
theorem dX4_isRest_15 : decode cX4_isRest 15 = .ok (.ireturn, 1) := by decide +kernel
theorem dX4_lengthOfAll_0 : decode cX4_lengthOfAll 0 = .ok (.iconst 0, 1) := by decide +kernel
theorem dX4_lengthOfAll_1 : decode cX4_lengthOfAll 1 = .ok (.istore_n 1, 1) := by decide +kernel
theorem dX4_lengthOfAll_2 : decode cX4_lengthOfAll 2 = .ok (.iconst 0, 1) := by decide +kernel
theorem dX4_lengthOfAll_3 : decode cX4_lengthOfAll 3 = .ok (.istore_n 2, 1) := by decide +kernel
theorem dX4_lengthOfAll_4 : decode cX4_lengthOfAll 4 = .ok (.iload_n 2, 1) := by decide +kernel
theorem dX4_lengthOfAll_5 : decode cX4_lengthOfAll 5 = .ok (.aload_n 0, 1) := by decide +kernel
theorem dX4_lengthOfAll_6 : decode cX4_lengthOfAll 6 = .ok (.getfield 18, 3) := by decide +kernel
theorem dX4_lengthOfAll_9 : decode cX4_lengthOfAll 9 = .ok (.if_icmp .ge 18, 3) := by decide +kernel
theorem dX4_lengthOfAll_12 : decode cX4_lengthOfAll 12 = .ok (.iload_n 1, 1) := by decide +kernel
theorem dX4_lengthOfAll_13 : decode cX4_lengthOfAll 13 = .ok (.aload_n 0, 1) := by decide +kernel
theorem dX4_lengthOfAll_14 : decode cX4_lengthOfAll 14 = .ok (.getfield 15, 3) := by decide +kernel
theorem dX4_lengthOfAll_17 : decode cX4_lengthOfAll 17 = .ok (.iload_n 2, 1) := by decide +kernel
theorem dX4_lengthOfAll_18 : decode cX4_lengthOfAll 18 = .ok (.iaload, 1) := by decide +kernel
theorem dX4_lengthOfAll_19 : decode cX4_lengthOfAll 19 = .ok (.iadd, 1) := by decide +kernel
theorem dX4_lengthOfAll_20 : decode cX4_lengthOfAll 20 = .ok (.istore_n 1, 1) := by decide +kernel
theorem dX4_lengthOfAll_21 : decode cX4_lengthOfAll 21 = .ok (.iinc 2 1, 3) := by decide +kernel
theorem dX4_lengthOfAll_24 : decode cX4_lengthOfAll 24 = .ok (.goto (-20), 3) := by decide +kernel
theorem dX4_lengthOfAll_27 : decode cX4_lengthOfAll 27 = .ok (.iload_n 1, 1) := by decide +kernel
theorem dX4_lengthOfAll_28 : decode cX4_lengthOfAll 28 = .ok (.ireturn, 1) := by decide +kernel
theorem dX4_append_0 : decode cX4_append 0 = .ok (.aload_n 0, 1) := by decide +kernel
theorem dX4_append_1 : decode cX4_append 1 = .ok (.getfield 9, 3) := by decide +kernel
theorem dX4_append_4 : decode cX4_append 4 = .ok (.aload_n 0, 1) := by decide +kernel
theorem dX4_append_5 : decode cX4_append 5 = .ok (.getfield 18, 3) := by decide +kernel
theorem dX4_append_8 : decode cX4_append 8 = .ok (.iload_n 1, 1) := by decide +kernel
theorem dX4_append_9 : decode cX4_append 9 = .ok (.iastore, 1) := by decide +kernel
theorem dX4_append_10 : decode cX4_append 10 = .ok (.aload_n 0, 1) := by decide +kernel
theorem dX4_append_11 : decode cX4_append 11 = .ok (.getfield 15, 3) := by decide +kernel
theorem dX4_append_14 : decode cX4_append 14 = .ok (.aload_n 0, 1) := by decide +kernel
theorem dX4_append_15 : decode cX4_append 15 = .ok (.getfield 18, 3) := by decide +kernel
theorem dX4_append_18 : decode cX4_append 18 = .ok (.iload_n 2, 1) := by decide +kernel
theorem dX4_append_19 : decode cX4_append 19 = .ok (.iastore, 1) := by decide +kernel
theorem dX4_append_20 : decode cX4_append 20 = .ok (.aload_n 0, 1) := by decide +kernel
theorem dX4_append_21 : decode cX4_append 21 = .ok (.dup, 1) := by decide +kernel
theorem dX4_append_22 : decode cX4_append 22 = .ok (.getfield 18, 3) := by decide +kernel
theorem dX4_append_25 : decode cX4_append 25 = .ok (.iconst 1, 1) := by decide +kernel
theorem dX4_append_26 : decode cX4_append 26 = .ok (.iadd, 1) := by decide +kernel
theorem dX4_append_27 : decode cX4_append 27 = .ok (.putfield 18, 3) := by decide +kernel
theorem dX4_append_30 : decode cX4_append 30 = .ok (.return_, 1) := by decide +kernel
theorem dX5_init_0 : decode cX5_init 0 = .ok (.aload_n 0, 1) := by decide +kernel
theorem dX5_init_1 : decode cX5_init 1 = .ok (.invokespecial 1, 3) := by decide +kernel
theorem dX5_init_4 : decode cX5_init 4 = .ok (.return_, 1) := by decide +kernel
theorem dX5_become_0 : decode cX5_become 0 = .ok (.aload_n 0, 1) := by decide +kernel
theorem dX5_become_1 : decode cX5_become 1 = .ok (.iload_n 1, 1) := by decide +kernel
theorem dX5_become_2 : decode cX5_become 2 = .ok (.putfield 7, 3) := by decide +kernel
theorem dX5_become_5 : decode cX5_become 5 = .ok (.aload_n 0, 1) := by decide +kernel
theorem dX5_become_6 : decode cX5_become 6 = .ok (.lload_n 2, 1) := by decide +kernel
theorem dX5_become_7 : decode cX5_become 7 = .ok (.putfield 13, 3) := by decide +kernel
theorem dX5_become_10 : decode cX5_become 10 = .ok (.aload_n 0, 1) := by decide +kernel
theorem dX5_become_11 : decode cX5_become 11 = .ok (.lload 4, 2) := by decide +kernel
theorem dX5_become_13 : decode cX5_become 13 = .ok (.putfield 17, 3) := by decide +kernel
theorem dX5_become_16 : decode cX5_become 16 = .ok (.return_, 1) := by decide +kernel
theorem dX5_addChoice_0 : decode cX5_addChoice 0 = .ok (.aload_n 0, 1) := by decide +kernel
theorem dX5_addChoice_1 : decode cX5_addChoice 1 = .ok (.aload_n 0, 1) := by decide +kernel
theorem dX5_addChoice_2 : decode cX5_addChoice 2 = .ok (.getfield 7, 3) := by decide +kernel
theorem dX5_addChoice_5 : decode cX5_addChoice 5 = .ok (.ifCond .ne 10, 3) := by decide +kernel
theorem dX5_addChoice_8 : decode cX5_addChoice 8 = .ok (.aload_n 1, 1) := by decide +kernel
theorem dX5_addChoice_9 : decode cX5_addChoice 9 = .ok (.getfield 7, 3) := by decide +kernel
theorem dX5_addChoice_12 : decode cX5_addChoice 12 = .ok (.ifCond .eq 7, 3) := by decide +kernel
theorem dX5_addChoice_15 : decode cX5_addChoice 15 = .ok (.iconst 1, 1) := by decide +kernel
theorem dX5_addChoice_16 : decode cX5_addChoice 16 = .ok (.goto 4, 3) := by decide +kernel
theorem dX5_addChoice_19 : decode cX5_addChoice 19 = .ok (.iconst 0, 1) := by decide +kernel
theorem dX5_addChoice_20 : decode cX5_addChoice 20 = .ok (.putfield 7, 3) := by decide +kernel
theorem dX5_addChoice_23 : decode cX5_addChoice 23 = .ok (.aload_n 0, 1) := by decide +kernel
theorem dX5_addChoice_24 : decode cX5_addChoice 24 = .ok (.dup, 1) := by decide +kernel
theorem dX5_addChoice_25 : decode cX5_addChoice 25 = .ok (.getfield 13, 3) := by decide +kernel
theorem dX5_addChoice_28 : decode cX5_addChoice 28 = .ok (.aload_n 1, 1) := by decide +kernel
theorem dX5_addChoice_29 : decode cX5_addChoice 29 = .ok (.getfield 13, 3) := by decide +kernel
theorem dX5_addChoice_32 : decode cX5_addChoice 32 = .ok (.lor, 1) := by decide +kernel
theorem dX5_addChoice_33 : decode cX5_addChoice 33 = .ok (.putfield 13, 3) := by decide +kernel
theorem dX5_addChoice_36 : decode cX5_addChoice 36 = .ok (.aload_n 0, 1) := by decide +kernel
theorem dX5_addChoice_37 : decode cX5_addChoice 37 = .ok (.dup, 1) := by decide +kernel
theorem dX5_addChoice_38 : decode cX5_addChoice 38 = .ok (.getfield 17, 3) := by decide +kernel
theorem dX5_addChoice_41 : decode cX5_addChoice 41 = .ok (.aload_n 1, 1) := by decide +kernel
theorem dX5_addChoice_42 : decode cX5_addChoice 42 = .ok (.getfield 17, 3) := by decide +kernel
theorem dX5_addChoice_45 : decode cX5_addChoice 45 = .ok (.lor, 1) := by decide +kernel
theorem dX5_addChoice_46 : decode cX5_addChoice 46 = .ok (.putfield 17, 3) := by decide +kernel
theorem dX5_addChoice_49 : decode cX5_addChoice 49 = .ok (.return_, 1) := by decide +kernel
theorem dX5_addBehind_0 : decode cX5_addBehind 0 = .ok (.aload_n 0, 1) := by decide +kernel
theorem dX5_addBehind_1 : decode cX5_addBehind 1 = .ok (.aload_n 0, 1) := by decide +kernel
theorem dX5_addBehind_2 : decode cX5_addBehind 2 = .ok (.getfield 7, 3) := by decide +kernel
theorem dX5_addBehind_5 : decode cX5_addBehind 5 = .ok (.ifCond .eq 15, 3) := by decide +kernel
theorem dX5_addBehind_8 : decode cX5_addBehind 8 = .ok (.aload_n 0, 1) := by decide +kernel
theorem dX5_addBehind_9 : decode cX5_addBehind 9 = .ok (.getfield 13, 3) := by decide +kernel
theorem dX5_addBehind_12 : decode cX5_addBehind 12 = .ok (.aload_n 1, 1) := by decide +kernel
theorem dX5_addBehind_13 : decode cX5_addBehind 13 = .ok (.getfield 13, 3) := by decide +kernel
theorem dX5_addBehind_16 : decode cX5_addBehind 16 = .ok (.lor, 1) := by decide +kernel
theorem dX5_addBehind_17 : decode cX5_addBehind 17 = .ok (.goto 7, 3) := by decide +kernel
theorem dX5_addBehind_20 : decode cX5_addBehind 20 = .ok (.aload_n 0, 1) := by decide +kernel
theorem dX5_addBehind_21 : decode cX5_addBehind 21 = .ok (.getfield 13, 3) := by decide +kernel
theorem dX5_addBehind_24 : decode cX5_addBehind 24 = .ok (.putfield 13, 3) := by decide +kernel
theorem dX5_addBehind_27 : decode cX5_addBehind 27 = .ok (.aload_n 0, 1) := by decide +kernel
theorem dX5_addBehind_28 : decode cX5_addBehind 28 = .ok (.aload_n 1, 1) := by decide +kernel
theorem dX5_addBehind_29 : decode cX5_addBehind 29 = .ok (.getfield 7, 3) := by decide +kernel
theorem dX5_addBehind_32 : decode cX5_addBehind 32 = .ok (.ifCond .eq 15, 3) := by decide +kernel
theorem dX5_addBehind_35 : decode cX5_addBehind 35 = .ok (.aload_n 0, 1) := by decide +kernel
theorem dX5_addBehind_36 : decode cX5_addBehind 36 = .ok (.getfield 17, 3) := by decide +kernel
theorem dX5_addBehind_39 : decode cX5_addBehind 39 = .ok (.aload_n 1, 1) := by decide +kernel
theorem dX5_addBehind_40 : decode cX5_addBehind 40 = .ok (.getfield 17, 3) := by decide +kernel
theorem dX5_addBehind_43 : decode cX5_addBehind 43 = .ok (.lor, 1) := by decide +kernel
theorem dX5_addBehind_44 : decode cX5_addBehind 44 = .ok (.goto 7, 3) := by decide +kernel
theorem dX5_addBehind_47 : decode cX5_addBehind 47 = .ok (.aload_n 1, 1) := by decide +kernel
theorem dX5_addBehind_48 : decode cX5_addBehind 48 = .ok (.getfield 17, 3) := by decide +kernel
theorem dX5_addBehind_51 : decode cX5_addBehind 51 = .ok (.putfield 17, 3) := by decide +kernel
theorem dX5_addBehind_54 : decode cX5_addBehind 54 = .ok (.aload_n 0, 1) := by decide +kernel
theorem dX5_addBehind_55 : decode cX5_addBehind 55 = .ok (.aload_n 0, 1) := by decide +kernel
theorem dX5_addBehind_56 : decode cX5_addBehind 56 = .ok (.getfield 7, 3) := by decide +kernel
theorem dX5_addBehind_59 : decode cX5_addBehind 59 = .ok (.ifCond .eq 14, 3) := by decide +kernel
theorem dX5_addBehind_62 : decode cX5_addBehind 62 = .ok (.aload_n 1, 1) := by decide +kernel
theorem dX5_addBehind_63 : decode cX5_addBehind 63 = .ok (.getfield 7, 3) := by decide +kernel
theorem dX5_addBehind_66 : decode cX5_addBehind 66 = .ok (.ifCond .eq 7, 3) := by decide +kernel
theorem dX5_addBehind_69 : decode cX5_addBehind 69 = .ok (.iconst 1, 1) := by decide +kernel
theorem dX5_addBehind_70 : decode cX5_addBehind 70 = .ok (.goto 4, 3) := by decide +kernel
theorem dX5_addBehind_73 : decode cX5_addBehind 73 = .ok (.iconst 0, 1) := by decide +kernel
theorem dX5_addBehind_74 : decode cX5_addBehind 74 = .ok (.putfield 7, 3) := by decide +kernel
theorem dX5_addBehind_77 : decode cX5_addBehind 77 = .ok (.return_, 1) := by decide +kernel
theorem dX6_init_0 : decode cX6_init 0 = .ok (.aload_n 0, 1) := by decide +kernel
theorem dX6_init_1 : decode cX6_init 1 = .ok (.invokespecial 3, 3) := by decide +kernel
theorem dX6_init_4 : decode cX6_init 4 = .ok (.aload_n 0, 1) := by decide +kernel
theorem dX6_init_5 : decode cX6_init 5 = .ok (.bipush 24, 2) := by decide +kernel
theorem dX6_init_7 : decode cX6_init 7 = .ok (.newarray .int, 2) := by decide +kernel
theorem dX6_init_9 : decode cX6_init 9 = .ok (.putfield 9, 3) := by decide +kernel
theorem dX6_init_12 : decode cX6_init 12 = .ok (.return_, 1) := by decide +kernel
set_option maxRecDepth 20000 in
theorem ggX6_look_X6_signOf : GoodIn wsX6_look wsX6_signOf := goodIn_r _ [7, 8, 9, 10, 11, 12, 13, 14, 15, 16, 17, 6, 18, 19, 20, 21, 22, 23, 24, 27, 28, 29] (by decide +kernel) (by decide +kernel)
set_option maxRecDepth 20000 in
theorem gX6_look_X6_signOf : GoodIn wsX6_look (va_wsS RX6 22 yX6_signOf wsX6_signOf) := goodIn_app (goodIn_of _ (by decide +kernel)) ggX6_look_X6_signOf
theorem dX6_look_0 : decode cX6_look 0 = .ok (.aload_n 0, 1) := by decide +kernel
theorem dX6_look_1 : decode cX6_look 1 = .ok (.iconst 0, 1) := by decide +kernel
theorem dX6_look_2 : decode cX6_look 2 = .ok (.putfield 15, 3) := by decide +kernel
theorem dX6_look_5 : decode cX6_look 5 = .ok (.iload_n 2, 1) := by decide +kernel
theorem dX6_look_6 : decode cX6_look 6 = .ok (.ifCond .eq 8, 3) := by decide +kernel
theorem dX6_look_9 : decode cX6_look 9 = .ok (.iload_n 2, 1) := by decide +kernel
theorem dX6_look_10 : decode cX6_look 10 = .ok (.iconst 3, 1) := by decide +kernel
theorem dX6_look_11 : decode cX6_look 11 = .ok (.if_icmp .ne 7, 3) := by decide +kernel
theorem dX6_look_14 : decode cX6_look 14 = .ok (.iconst 0, 1) := by decide +kernel
theorem dX6_look_15 : decode cX6_look 15 = .ok (.goto 4, 3) := by decide +kernel
theorem dX6_look_18 : decode cX6_look 18 = .ok (.iconst 1, 1) := by decide +kernel
theorem dX6_look_19 : decode cX6_look 19 = .ok (.istore_n 3, 1) := by decide +kernel
theorem dX6_look_20 : decode cX6_look 20 = .ok (.iload_n 3, 1) := by decide +kernel
theorem dX6_look_21 : decode cX6_look 21 = .ok (.istore 4, 2) := by decide +kernel
theorem dX6_look_23 : decode cX6_look 23 = .ok (.iload 4, 2) := by decide +kernel
theorem dX6_look_25 : decode cX6_look 25 = .ok (.aload_n 1, 1) := by decide +kernel
theorem dX6_look_26 : decode cX6_look 26 = .ok (.getfield 19, 3) := by decide +kernel
theorem dX6_look_29 : decode cX6_look 29 = .ok (.if_icmp .ge 35, 3) := by decide +kernel
theorem dX6_look_32 : decode cX6_look 32 = .ok (.aload_n 0, 1) := by decide +kernel
theorem dX6_look_33 : decode cX6_look 33 = .ok (.getfield 9, 3) := by decide +kernel
theorem dX6_look_36 : decode cX6_look 36 = .ok (.aload_n 0, 1) := by decide +kernel
theorem dX6_look_37 : decode cX6_look 37 = .ok (.getfield 15, 3) := by decide +kernel
theorem dX6_look_40 : decode cX6_look 40 = .ok (.aload_n 1, 1) := by decide +kernel
theorem dX6_look_41 : decode cX6_look 41 = .ok (.iload 4, 2) := by decide +kernel
theorem dX6_look_43 : decode cX6_look 43 = .ok (.iload_n 2, 1) := by decide +kernel
theorem dX6_look_44 : decode cX6_look 44 = .ok (.invokestatic 22, 3) := by decide +kernel
theorem dX6_look_47 : decode cX6_look 47 = .ok (.iastore, 1) := by decide +kernel
theorem dX6_look_48 : decode cX6_look 48 = .ok (.aload_n 0, 1) := by decide +kernel
theorem dX6_look_49 : decode cX6_look 49 = .ok (.dup, 1) := by decide +kernel
theorem dX6_look_50 : decode cX6_look 50 = .ok (.getfield 15, 3) := by decide +kernel
theorem dX6_look_53 : decode cX6_look 53 = .ok (.iconst 1, 1) := by decide +kernel
theorem dX6_look_54 : decode cX6_look 54 = .ok (.iadd, 1) := by decide +kernel
theorem dX6_look_55 : decode cX6_look 55 = .ok (.putfield 15, 3) := by decide +kernel
theorem dX6_look_58 : decode cX6_look 58 = .ok (.iinc 4 1, 3) := by decide +kernel
theorem dX6_look_61 : decode cX6_look 61 = .ok (.goto (-38), 3) := by decide +kernel
theorem dX6_look_64 : decode cX6_look 64 = .ok (.return_, 1) := by decide +kernel
set_option maxRecDepth 20000 in
theorem ggX6_signOf_X4_isRest : GoodIn wsX6_signOf wsX4_isRest := goodIn_r _ [7, 8, 19, 20, 21] (by decide +kernel) (by decide +kernel)
set_option maxRecDepth 20000 in
theorem gX6_signOf_X4_isRest : GoodIn wsX6_signOf (wsV RX6 26 RX4 yX4_isRest wsX4_isRest) := goodIn_app (goodIn_of _ (by decide +kernel)) ggX6_signOf_X4_isRest
set_option maxRecDepth 20000 in
theorem ggX6_signOf_X6_interval : GoodIn wsX6_signOf wsX6_interval := goodIn_r _ [12, 1, 3, 4, 5, 6, 7, 8, 19, 20, 21] (by decide +kernel) (by decide +kernel)
set_option maxRecDepth 20000 in
theorem gX6_signOf_X6_interval : GoodIn wsX6_signOf (va_wsS RX6 33 yX6_interval wsX6_interval) := goodIn_app (goodIn_of _ (by decide +kernel)) ggX6_signOf_X6_interval
set_option maxRecDepth 20000 in
theorem ggX6_signOf_X6_turnOfInterval : GoodIn wsX6_signOf wsX6_turnOfInterval := goodIn_r _ [15, 9, 10, 11, 12, 1, 3, 4, 5, 6, 7, 8, 16, 17, 18, 19, 20, 21] (by decide +kernel) (by decide +kernel)
set_option maxRecDepth 20000 in
theorem gX6_signOf_X6_turnOfInterval : GoodIn wsX6_signOf (va_wsS RX6 37 yX6_turnOfInterval wsX6_turnOfInterval) := goodIn_app (goodIn_of _ (by decide +kernel)) ggX6_signOf_X6_turnOfInterval
set_option maxRecDepth 20000 in
theorem ggX6_signOf_X6_turn : GoodIn wsX6_signOf wsX6_turn := goodIn_r _ [18] (by decide +kernel) (by decide +kernel)
set_option maxRecDepth 20000 in
theorem gX6_signOf_X6_turn : GoodIn wsX6_signOf (va_wsS RX6 43 yX6_turn wsX6_turn) := goodIn_app (goodIn_of _ (by decide +kernel)) ggX6_signOf_X6_turn
theorem dX6_signOf_0 : decode cX6_signOf 0 = .ok (.iload_n 2, 1) := by decide +kernel
theorem dX6_signOf_1 : decode cX6_signOf 1 = .ok (.tableswitch 71 0 3 #[31, 52, 58, 64], 31) := by decide +kernel
theorem dX6_signOf_32 : decode cX6_signOf 32 = .ok (.aload_n 0, 1) := by decide +kernel
theorem dX6_signOf_33 : decode cX6_signOf 33 = .ok (.iload_n 1, 1) := by decide +kernel
theorem dX6_signOf_34 : decode cX6_signOf 34 = .ok (.invokevirtual 26, 3) := by decide +kernel
theorem dX6_signOf_37 : decode cX6_signOf 37 = .ok (.ifCond .eq 9, 3) := by decide +kernel
theorem dX6_signOf_40 : decode cX6_signOf 40 = .ok (.sipush (-1000), 3) := by decide +kernel
theorem dX6_signOf_43 : decode cX6_signOf 43 = .ok (.goto 9, 3) := by decide +kernel
theorem dX6_signOf_46 : decode cX6_signOf 46 = .ok (.aload_n 0, 1) := by decide +kernel
theorem dX6_signOf_47 : decode cX6_signOf 47 = .ok (.getfield 30, 3) := by decide +kernel
theorem dX6_signOf_50 : decode cX6_signOf 50 = .ok (.iload_n 1, 1) := by decide +kernel
theorem dX6_signOf_51 : decode cX6_signOf 51 = .ok (.iaload, 1) := by decide +kernel
theorem dX6_signOf_52 : decode cX6_signOf 52 = .ok (.ireturn, 1) := by decide +kernel
theorem dX6_signOf_53 : decode cX6_signOf 53 = .ok (.aload_n 0, 1) := by decide +kernel
theorem dX6_signOf_54 : decode cX6_signOf 54 = .ok (.iload_n 1, 1) := by decide +kernel
theorem dX6_signOf_55 : decode cX6_signOf 55 = .ok (.invokestatic 33, 3) := by decide +kernel
theorem dX6_signOf_58 : decode cX6_signOf 58 = .ok (.ireturn, 1) := by decide +kernel
theorem dX6_signOf_59 : decode cX6_signOf 59 = .ok (.aload_n 0, 1) := by decide +kernel
theorem dX6_signOf_60 : decode cX6_signOf 60 = .ok (.iload_n 1, 1) := by decide +kernel
theorem dX6_signOf_61 : decode cX6_signOf 61 = .ok (.invokestatic 37, 3) := by decide +kernel
theorem dX6_signOf_64 : decode cX6_signOf 64 = .ok (.ireturn, 1) := by decide +kernel
theorem dX6_signOf_65 : decode cX6_signOf 65 = .ok (.aload_n 0, 1) := by decide +kernel
theorem dX6_signOf_66 : decode cX6_signOf 66 = .ok (.getfield 40, 3) := by decide +kernel
theorem dX6_signOf_69 : decode cX6_signOf 69 = .ok (.iload_n 1, 1) := by decide +kernel
theorem dX6_signOf_70 : decode cX6_signOf 70 = .ok (.iaload, 1) := by decide +kernel
theorem dX6_signOf_71 : decode cX6_signOf 71 = .ok (.ireturn, 1) := by decide +kernel
theorem dX6_signOf_72 : decode cX6_signOf 72 = .ok (.aload_n 0, 1) := by decide +kernel
theorem dX6_signOf_73 : decode cX6_signOf 73 = .ok (.getfield 40, 3) := by decide +kernel
theorem dX6_signOf_76 : decode cX6_signOf 76 = .ok (.iload_n 1, 1) := by decide +kernel
theorem dX6_signOf_77 : decode cX6_signOf 77 = .ok (.iaload, 1) := by decide +kernel
theorem dX6_signOf_78 : decode cX6_signOf 78 = .ok (.aload_n 0, 1) := by decide +kernel
theorem dX6_signOf_79 : decode cX6_signOf 79 = .ok (.getfield 40, 3) := by decide +kernel
theorem dX6_signOf_82 : decode cX6_signOf 82 = .ok (.iload_n 1, 1) := by decide +kernel
theorem dX6_signOf_83 : decode cX6_signOf 83 = .ok (.iconst 1, 1) := by decide +kernel
theorem dX6_signOf_84 : decode cX6_signOf 84 = .ok (.isub, 1) := by decide +kernel
theorem dX6_signOf_85 : decode cX6_signOf 85 = .ok (.iaload, 1) := by decide +kernel
theorem dX6_signOf_86 : decode cX6_signOf 86 = .ok (.isub, 1) := by decide +kernel
theorem dX6_signOf_87 : decode cX6_signOf 87 = .ok (.invokestatic 43, 3) := by decide +kernel
theorem dX6_signOf_90 : decode cX6_signOf 90 = .ok (.ireturn, 1) := by decide +kernel
set_option maxRecDepth 20000 in
theorem ggX6_interval_X4_isRest : GoodIn wsX6_interval wsX4_isRest := goodIn_r _ [6, 7, 8, 9, 10] (by decide +kernel) (by decide +kernel)
set_option maxRecDepth 20000 in
theorem gX6_interval_X4_isRest : GoodIn wsX6_interval (wsV RX6 26 RX4 yX4_isRest wsX4_isRest) := goodIn_app (goodIn_of _ (by decide +kernel)) ggX6_interval_X4_isRest
theorem dX6_interval_0 : decode cX6_interval 0 = .ok (.aload_n 0, 1) := by decide +kernel
theorem dX6_interval_1 : decode cX6_interval 1 = .ok (.iload_n 1, 1) := by decide +kernel
theorem dX6_interval_2 : decode cX6_interval 2 = .ok (.invokevirtual 26, 3) := by decide +kernel
theorem dX6_interval_5 : decode cX6_interval 5 = .ok (.ifCond .ne 13, 3) := by decide +kernel
theorem dX6_interval_8 : decode cX6_interval 8 = .ok (.aload_n 0, 1) := by decide +kernel
theorem dX6_interval_9 : decode cX6_interval 9 = .ok (.iload_n 1, 1) := by decide +kernel
theorem dX6_interval_10 : decode cX6_interval 10 = .ok (.iconst 1, 1) := by decide +kernel
theorem dX6_interval_11 : decode cX6_interval 11 = .ok (.isub, 1) := by decide +kernel
theorem dX6_interval_12 : decode cX6_interval 12 = .ok (.invokevirtual 26, 3) := by decide +kernel
theorem dX6_interval_15 : decode cX6_interval 15 = .ok (.ifCond .eq 7, 3) := by decide +kernel
theorem dX6_interval_18 : decode cX6_interval 18 = .ok (.sipush (-1000), 3) := by decide +kernel
theorem dX6_interval_21 : decode cX6_interval 21 = .ok (.ireturn, 1) := by decide +kernel
theorem dX6_interval_22 : decode cX6_interval 22 = .ok (.aload_n 0, 1) := by decide +kernel
theorem dX6_interval_23 : decode cX6_interval 23 = .ok (.getfield 30, 3) := by decide +kernel
theorem dX6_interval_26 : decode cX6_interval 26 = .ok (.iload_n 1, 1) := by decide +kernel
theorem dX6_interval_27 : decode cX6_interval 27 = .ok (.iaload, 1) := by decide +kernel
theorem dX6_interval_28 : decode cX6_interval 28 = .ok (.aload_n 0, 1) := by decide +kernel
theorem dX6_interval_29 : decode cX6_interval 29 = .ok (.getfield 30, 3) := by decide +kernel
theorem dX6_interval_32 : decode cX6_interval 32 = .ok (.iload_n 1, 1) := by decide +kernel
theorem dX6_interval_33 : decode cX6_interval 33 = .ok (.iconst 1, 1) := by decide +kernel
theorem dX6_interval_34 : decode cX6_interval 34 = .ok (.isub, 1) := by decide +kernel
theorem dX6_interval_35 : decode cX6_interval 35 = .ok (.iaload, 1) := by decide +kernel
theorem dX6_interval_36 : decode cX6_interval 36 = .ok (.isub, 1) := by decide +kernel
theorem dX6_interval_37 : decode cX6_interval 37 = .ok (.ireturn, 1) := by decide +kernel
set_option maxRecDepth 20000 in
theorem ggX6_turnOfInterval_X6_interval : GoodIn wsX6_turnOfInterval wsX6_interval := goodIn_r _ [4, 5, 6, 7, 8, 9, 10, 11, 15, 16, 17] (by decide +kernel) (by decide +kernel)
set_option maxRecDepth 20000 in
theorem gX6_turnOfInterval_X6_interval : GoodIn wsX6_turnOfInterval (va_wsS RX6 33 yX6_interval wsX6_interval) := goodIn_app (goodIn_of _ (by decide +kernel)) ggX6_turnOfInterval_X6_interval
set_option maxRecDepth 20000 in
theorem ggX6_turnOfInterval_X6_turn : GoodIn wsX6_turnOfInterval wsX6_turn := goodIn_r _ [14] (by decide +kernel) (by decide +kernel)
set_option maxRecDepth 20000 in
theorem gX6_turnOfInterval_X6_turn : GoodIn wsX6_turnOfInterval (va_wsS RX6 43 yX6_turn wsX6_turn) := goodIn_app (goodIn_of _ (by decide +kernel)) ggX6_turnOfInterval_X6_turn
theorem dX6_turnOfInterval_0 : decode cX6_turnOfInterval 0 = .ok (.aload_n 0, 1) := by decide +kernel
theorem dX6_turnOfInterval_1 : decode cX6_turnOfInterval 1 = .ok (.iload_n 1, 1) := by decide +kernel
theorem dX6_turnOfInterval_2 : decode cX6_turnOfInterval 2 = .ok (.invokestatic 33, 3) := by decide +kernel
theorem dX6_turnOfInterval_5 : decode cX6_turnOfInterval 5 = .ok (.istore_n 2, 1) := by decide +kernel
theorem dX6_turnOfInterval_6 : decode cX6_turnOfInterval 6 = .ok (.iload_n 2, 1) := by decide +kernel
theorem dX6_turnOfInterval_7 : decode cX6_turnOfInterval 7 = .ok (.sipush (-1000), 3) := by decide +kernel
theorem dX6_turnOfInterval_10 : decode cX6_turnOfInterval 10 = .ok (.if_icmp .ne 9, 3) := by decide +kernel
theorem dX6_turnOfInterval_13 : decode cX6_turnOfInterval 13 = .ok (.sipush (-1000), 3) := by decide +kernel
theorem dX6_turnOfInterval_16 : decode cX6_turnOfInterval 16 = .ok (.goto 7, 3) := by decide +kernel
theorem dX6_turnOfInterval_19 : decode cX6_turnOfInterval 19 = .ok (.iload_n 2, 1) := by decide +kernel
theorem dX6_turnOfInterval_20 : decode cX6_turnOfInterval 20 = .ok (.invokestatic 43, 3) := by decide +kernel
theorem dX6_turnOfInterval_23 : decode cX6_turnOfInterval 23 = .ok (.ireturn, 1) := by decide +kernel
theorem dX6_turn_0 : decode cX6_turn 0 = .ok (.iload_n 0, 1) := by decide +kernel
theorem dX6_turn_1 : decode cX6_turn 1 = .ok (.ifCond .ne 5, 3) := by decide +kernel
theorem dX6_turn_4 : decode cX6_turn 4 = .ok (.iconst 0, 1) := by decide +kernel
theorem dX6_turn_5 : decode cX6_turn 5 = .ok (.ireturn, 1) := by decide +kernel
theorem dX6_turn_6 : decode cX6_turn 6 = .ok (.iload_n 0, 1) := by decide +kernel
theorem dX6_turn_7 : decode cX6_turn 7 = .ok (.ifCond .le 7, 3) := by decide +kernel
theorem dX6_turn_10 : decode cX6_turn 10 = .ok (.iconst 1, 1) := by decide +kernel
theorem dX6_turn_11 : decode cX6_turn 11 = .ok (.goto 4, 3) := by decide +kernel
theorem dX6_turn_14 : decode cX6_turn 14 = .ok (.iconst (-1), 1) := by decide +kernel
theorem dX6_turn_15 : decode cX6_turn 15 = .ok (.ireturn, 1) := by decide +kernel
theorem dX7_init_0 : decode cX7_init 0 = .ok (.aload_n 0, 1) := by decide +kernel
theorem dX7_init_1 : decode cX7_init 1 = .ok (.invokespecial 1, 3) := by decide +kernel
theorem dX7_init_4 : decode cX7_init 4 = .ok (.aload_n 0, 1) := by decide +kernel
theorem dX7_init_5 : decode cX7_init 5 = .ok (.sipush 160, 3) := by decide +kernel
theorem dX7_init_8 : decode cX7_init 8 = .ok (.newarray .int, 2) := by decide +kernel
theorem dX7_init_10 : decode cX7_init 10 = .ok (.putfield 9, 3) := by decide +kernel
theorem dX7_init_13 : decode cX7_init 13 = .ok (.return_, 1) := by decide +kernel
theorem dX7_hasRoomFor_0 : decode cX7_hasRoomFor 0 = .ok (.aload_n 0, 1) := by decide +kernel
theorem dX7_hasRoomFor_1 : decode cX7_hasRoomFor 1 = .ok (.getfield 13, 3) := by decide +kernel
theorem dX7_hasRoomFor_4 : decode cX7_hasRoomFor 4 = .ok (.iload_n 1, 1) := by decide +kernel
theorem dX7_hasRoomFor_5 : decode cX7_hasRoomFor 5 = .ok (.iadd, 1) := by decide +kernel
theorem dX7_hasRoomFor_6 : decode cX7_hasRoomFor 6 = .ok (.sipush 160, 3) := by decide +kernel
theorem dX7_hasRoomFor_9 : decode cX7_hasRoomFor 9 = .ok (.if_icmp .gt 7, 3) := by decide +kernel
theorem dX7_hasRoomFor_12 : decode cX7_hasRoomFor 12 = .ok (.iconst 1, 1) := by decide +kernel
theorem dX7_hasRoomFor_13 : decode cX7_hasRoomFor 13 = .ok (.goto 4, 3) := by decide +kernel
theorem dX7_hasRoomFor_16 : decode cX7_hasRoomFor 16 = .ok (.iconst 0, 1) := by decide +kernel
theorem dX7_hasRoomFor_17 : decode cX7_hasRoomFor 17 = .ok (.ireturn, 1) := by decide +kernel
theorem dX7_append_0 : decode cX7_append 0 = .ok (.iload_n 3, 1) := by decide +kernel
theorem dX7_append_1 : decode cX7_append 1 = .ok (.iconst 1, 1) := by decide +kernel
theorem dX7_append_2 : decode cX7_append 2 = .ok (.isub, 1) := by decide +kernel
theorem dX7_append_3 : decode cX7_append 3 = .ok (.istore 4, 2) := by decide +kernel
theorem dX7_append_5 : decode cX7_append 5 = .ok (.iload 4, 2) := by decide +kernel
theorem dX7_append_7 : decode cX7_append 7 = .ok (.ifCond .lt 40, 3) := by decide +kernel
theorem dX7_append_10 : decode cX7_append 10 = .ok (.aload_n 0, 1) := by decide +kernel
theorem dX7_append_11 : decode cX7_append 11 = .ok (.getfield 9, 3) := by decide +kernel
theorem dX7_append_14 : decode cX7_append 14 = .ok (.aload_n 0, 1) := by decide +kernel
theorem dX7_append_15 : decode cX7_append 15 = .ok (.getfield 13, 3) := by decide +kernel
theorem dX7_append_18 : decode cX7_append 18 = .ok (.lload_n 1, 1) := by decide +kernel
theorem dX7_append_19 : decode cX7_append 19 = .ok (.bipush 8, 2) := by decide +kernel
theorem dX7_append_21 : decode cX7_append 21 = .ok (.iload 4, 2) := by decide +kernel
theorem dX7_append_23 : decode cX7_append 23 = .ok (.imul, 1) := by decide +kernel
theorem dX7_append_24 : decode cX7_append 24 = .ok (.lushr, 1) := by decide +kernel
theorem dX7_append_25 : decode cX7_append 25 = .ok (.l2i, 1) := by decide +kernel
theorem dX7_append_26 : decode cX7_append 26 = .ok (.sipush 255, 3) := by decide +kernel
theorem dX7_append_29 : decode cX7_append 29 = .ok (.iand, 1) := by decide +kernel
theorem dX7_append_30 : decode cX7_append 30 = .ok (.iastore, 1) := by decide +kernel
theorem dX7_append_31 : decode cX7_append 31 = .ok (.aload_n 0, 1) := by decide +kernel
theorem dX7_append_32 : decode cX7_append 32 = .ok (.dup, 1) := by decide +kernel
theorem dX7_append_33 : decode cX7_append 33 = .ok (.getfield 13, 3) := by decide +kernel
theorem dX7_append_36 : decode cX7_append 36 = .ok (.iconst 1, 1) := by decide +kernel
theorem dX7_append_37 : decode cX7_append 37 = .ok (.iadd, 1) := by decide +kernel
theorem dX7_append_38 : decode cX7_append 38 = .ok (.putfield 13, 3) := by decide +kernel
theorem dX7_append_41 : decode cX7_append 41 = .ok (.iinc 4 (-1), 3) := by decide +kernel
theorem dX7_append_44 : decode cX7_append 44 = .ok (.goto (-39), 3) := by decide +kernel
theorem dX7_append_47 : decode cX7_append 47 = .ok (.return_, 1) := by decide +kernel
theorem dX7_hasDigitAt_0 : decode cX7_hasDigitAt 0 = .ok (.iload_n 1, 1) := by decide +kernel
theorem dX7_hasDigitAt_1 : decode cX7_hasDigitAt 1 = .ok (.aload_n 0, 1) := by decide +kernel
theorem dX7_hasDigitAt_2 : decode cX7_hasDigitAt 2 = .ok (.getfield 13, 3) := by decide +kernel
theorem dX7_hasDigitAt_5 : decode cX7_hasDigitAt 5 = .ok (.if_icmp .ge 29, 3) := by decide +kernel
theorem dX7_hasDigitAt_8 : decode cX7_hasDigitAt 8 = .ok (.aload_n 0, 1) := by decide +kernel
theorem dX7_hasDigitAt_9 : decode cX7_hasDigitAt 9 = .ok (.getfield 9, 3) := by decide +kernel
theorem dX7_hasDigitAt_12 : decode cX7_hasDigitAt 12 = .ok (.iload_n 1, 1) := by decide +kernel
theorem dX7_hasDigitAt_13 : decode cX7_hasDigitAt 13 = .ok (.iaload, 1) := by decide +kernel
theorem dX7_hasDigitAt_14 : decode cX7_hasDigitAt 14 = .ok (.bipush 48, 2) := by decide +kernel
theorem dX7_hasDigitAt_16 : decode cX7_hasDigitAt 16 = .ok (.if_icmp .lt 18, 3) := by decide +kernel
theorem dX7_hasDigitAt_19 : decode cX7_hasDigitAt 19 = .ok (.aload_n 0, 1) := by decide +kernel
theorem dX7_hasDigitAt_20 : decode cX7_hasDigitAt 20 = .ok (.getfield 9, 3) := by decide +kernel
theorem dX7_hasDigitAt_23 : decode cX7_hasDigitAt 23 = .ok (.iload_n 1, 1) := by decide +kernel
theorem dX7_hasDigitAt_24 : decode cX7_hasDigitAt 24 = .ok (.iaload, 1) := by decide +kernel
theorem dX7_hasDigitAt_25 : decode cX7_hasDigitAt 25 = .ok (.bipush 57, 2) := by decide +kernel
theorem dX7_hasDigitAt_27 : decode cX7_hasDigitAt 27 = .ok (.if_icmp .gt 7, 3) := by decide +kernel
theorem dX7_hasDigitAt_30 : decode cX7_hasDigitAt 30 = .ok (.iconst 1, 1) := by decide +kernel
theorem dX7_hasDigitAt_31 : decode cX7_hasDigitAt 31 = .ok (.goto 4, 3) := by decide +kernel
theorem dX7_hasDigitAt_34 : decode cX7_hasDigitAt 34 = .ok (.iconst 0, 1) := by decide +kernel
theorem dX7_hasDigitAt_35 : decode cX7_hasDigitAt 35 = .ok (.ireturn, 1) := by decide +kernel
theorem dX8_init_0 : decode cX8_init 0 = .ok (.aload_n 0, 1) := by decide +kernel
theorem dX8_init_1 : decode cX8_init 1 = .ok (.invokespecial 5, 3) := by decide +kernel
theorem dX8_init_4 : decode cX8_init 4 = .ok (.aload_n 0, 1) := by decide +kernel
theorem dX8_init_5 : decode cX8_init 5 = .ok (.bipush 25, 2) := by decide +kernel
theorem dX8_init_7 : decode cX8_init 7 = .ok (.bipush 25, 2) := by decide +kernel
theorem dX8_init_9 : decode cX8_init 9 = .ok (.multianewarray 11 2, 4) := by decide +kernel
theorem dX8_init_13 : decode cX8_init 13 = .ok (.putfield 13, 3) := by decide +kernel
theorem dX8_init_16 : decode cX8_init 16 = .ok (.aload_n 0, 1) := by decide +kernel
theorem dX8_init_17 : decode cX8_init 17 = .ok (.bipush 24, 2) := by decide +kernel
theorem dX8_init_19 : decode cX8_init 19 = .ok (.bipush 24, 2) := by decide +kernel
theorem dX8_init_21 : decode cX8_init 21 = .ok (.multianewarray 11 2, 4) := by decide +kernel
theorem dX8_init_25 : decode cX8_init 25 = .ok (.putfield 18, 3) := by decide +kernel
theorem dX8_init_28 : decode cX8_init 28 = .ok (.aload_n 0, 1) := by decide +kernel
theorem dX8_init_29 : decode cX8_init 29 = .ok (.bipush 25, 2) := by decide +kernel
theorem dX8_init_31 : decode cX8_init 31 = .ok (.newarray .int, 2) := by decide +kernel
theorem dX8_init_33 : decode cX8_init 33 = .ok (.putfield 21, 3) := by decide +kernel
theorem dX8_init_36 : decode cX8_init 36 = .ok (.aload_n 0, 1) := by decide +kernel
theorem dX8_init_37 : decode cX8_init 37 = .ok (.bipush 25, 2) := by decide +kernel
theorem dX8_init_39 : decode cX8_init 39 = .ok (.newarray .int, 2) := by decide +kernel
theorem dX8_init_41 : decode cX8_init 41 = .ok (.putfield 25, 3) := by decide +kernel
theorem dX8_init_44 : decode cX8_init 44 = .ok (.return_, 1) := by decide +kernel
set_option maxRecDepth 20000 in
theorem ggX8_wholeCost_X8_begin : GoodIn wsX8_wholeCost wsX8_begin := goodIn_r _ [7, 8, 9, 10, 11, 12, 13, 14, 15, 16, 17, 18, 54, 55, 56, 57, 58, 59, 60, 61, 62, 63] (by decide +kernel) (by decide +kernel)
set_option maxRecDepth 20000 in
theorem gX8_wholeCost_X8_begin : GoodIn wsX8_wholeCost (wsV RX8 28 RX8 yX8_begin wsX8_begin) := goodIn_app (goodIn_of _ (by decide +kernel)) ggX8_wholeCost_X8_begin
set_option maxRecDepth 20000 in
theorem ggX8_wholeCost_X8_clearCells : GoodIn wsX8_wholeCost wsX8_clearCells := goodIn_r _ [22, 2, 1, 23, 64, 65, 66, 54, 55, 56, 57, 58, 59, 60, 61, 62, 63] (by decide +kernel) (by decide +kernel)
set_option maxRecDepth 20000 in
theorem gX8_wholeCost_X8_clearCells : GoodIn wsX8_wholeCost (wsV RX8 32 RX8 yX8_clearCells wsX8_clearCells) := goodIn_app (goodIn_of _ (by decide +kernel)) ggX8_wholeCost_X8_clearCells
set_option maxRecDepth 20000 in
theorem ggX8_wholeCost_X8_goThrough : GoodIn wsX8_wholeCost wsX8_goThrough := goodIn_r _ [27, 2, 28, 29, 1, 18, 30, 31, 32, 6, 33, 9, 8, 34, 35, 16, 36, 37, 38, 39, 40, 11, 41, 12, 42, 43, 44, 45, 46, 47, 48, 49, 14, 15, 17, 10, 50, 51, 52, 53, 64, 65, 66, 54, 55, 56, 57, 58, 59, 60, 61, 62, 63] (by decide +kernel) (by decide +kernel)
set_option maxRecDepth 20000 in
theorem gX8_wholeCost_X8_goThrough : GoodIn wsX8_wholeCost (wsV RX8 36 RX8 yX8_goThrough wsX8_goThrough) := goodIn_app (goodIn_of _ (by decide +kernel)) ggX8_wholeCost_X8_goThrough
theorem dX8_wholeCost_0 : decode cX8_wholeCost 0 = .ok (.aload_n 0, 1) := by decide +kernel
theorem dX8_wholeCost_1 : decode cX8_wholeCost 1 = .ok (.aload_n 1, 1) := by decide +kernel
theorem dX8_wholeCost_2 : decode cX8_wholeCost 2 = .ok (.iload 5, 2) := by decide +kernel
theorem dX8_wholeCost_4 : decode cX8_wholeCost 4 = .ok (.invokevirtual 28, 3) := by decide +kernel
theorem dX8_wholeCost_7 : decode cX8_wholeCost 7 = .ok (.aload_n 0, 1) := by decide +kernel
theorem dX8_wholeCost_8 : decode cX8_wholeCost 8 = .ok (.aload_n 2, 1) := by decide +kernel
theorem dX8_wholeCost_9 : decode cX8_wholeCost 9 = .ok (.aload_n 3, 1) := by decide +kernel
theorem dX8_wholeCost_10 : decode cX8_wholeCost 10 = .ok (.invokevirtual 32, 3) := by decide +kernel
theorem dX8_wholeCost_13 : decode cX8_wholeCost 13 = .ok (.aload_n 0, 1) := by decide +kernel
theorem dX8_wholeCost_14 : decode cX8_wholeCost 14 = .ok (.getfield 13, 3) := by decide +kernel
theorem dX8_wholeCost_17 : decode cX8_wholeCost 17 = .ok (.iconst 0, 1) := by decide +kernel
theorem dX8_wholeCost_18 : decode cX8_wholeCost 18 = .ok (.aaload, 1) := by decide +kernel
theorem dX8_wholeCost_19 : decode cX8_wholeCost 19 = .ok (.iconst 0, 1) := by decide +kernel
theorem dX8_wholeCost_20 : decode cX8_wholeCost 20 = .ok (.iconst 0, 1) := by decide +kernel
theorem dX8_wholeCost_21 : decode cX8_wholeCost 21 = .ok (.iastore, 1) := by decide +kernel
theorem dX8_wholeCost_22 : decode cX8_wholeCost 22 = .ok (.aload_n 0, 1) := by decide +kernel
theorem dX8_wholeCost_23 : decode cX8_wholeCost 23 = .ok (.aload_n 2, 1) := by decide +kernel
theorem dX8_wholeCost_24 : decode cX8_wholeCost 24 = .ok (.aload_n 3, 1) := by decide +kernel
theorem dX8_wholeCost_25 : decode cX8_wholeCost 25 = .ok (.iload 4, 2) := by decide +kernel
theorem dX8_wholeCost_27 : decode cX8_wholeCost 27 = .ok (.invokevirtual 36, 3) := by decide +kernel
theorem dX8_wholeCost_30 : decode cX8_wholeCost 30 = .ok (.aload_n 0, 1) := by decide +kernel
theorem dX8_wholeCost_31 : decode cX8_wholeCost 31 = .ok (.getfield 13, 3) := by decide +kernel
theorem dX8_wholeCost_34 : decode cX8_wholeCost 34 = .ok (.aload_n 2, 1) := by decide +kernel
theorem dX8_wholeCost_35 : decode cX8_wholeCost 35 = .ok (.getfield 40, 3) := by decide +kernel
theorem dX8_wholeCost_38 : decode cX8_wholeCost 38 = .ok (.aaload, 1) := by decide +kernel
theorem dX8_wholeCost_39 : decode cX8_wholeCost 39 = .ok (.aload_n 3, 1) := by decide +kernel
theorem dX8_wholeCost_40 : decode cX8_wholeCost 40 = .ok (.getfield 40, 3) := by decide +kernel
theorem dX8_wholeCost_43 : decode cX8_wholeCost 43 = .ok (.iaload, 1) := by decide +kernel
theorem dX8_wholeCost_44 : decode cX8_wholeCost 44 = .ok (.bipush 32, 2) := by decide +kernel
theorem dX8_wholeCost_46 : decode cX8_wholeCost 46 = .ok (.idiv, 1) := by decide +kernel
theorem dX8_wholeCost_47 : decode cX8_wholeCost 47 = .ok (.ireturn, 1) := by decide +kernel
set_option maxRecDepth 20000 in
theorem ggX8_seekEnds_X4_lengthOfAll : GoodIn wsX8_seekEnds wsX4_lengthOfAll := goodIn_r _ [11, 12, 13, 81, 82, 83] (by decide +kernel) (by decide +kernel)
set_option maxRecDepth 20000 in
theorem gX8_seekEnds_X4_lengthOfAll : GoodIn wsX8_seekEnds (wsV RX8 46 RX4 yX4_lengthOfAll wsX4_lengthOfAll) := goodIn_app (goodIn_of _ (by decide +kernel)) ggX8_seekEnds_X4_lengthOfAll
set_option maxRecDepth 20000 in
theorem ggX8_seekEnds_X8_begin : GoodIn wsX8_seekEnds wsX8_begin := goodIn_r _ [18, 19, 20, 21, 22, 23, 24, 1, 2, 3, 4, 25, 71, 72, 73, 74, 75, 76, 77, 78, 79, 80] (by decide +kernel) (by decide +kernel)
set_option maxRecDepth 20000 in
theorem gX8_seekEnds_X8_begin : GoodIn wsX8_seekEnds (wsV RX8 28 RX8 yX8_begin wsX8_begin) := goodIn_app (goodIn_of _ (by decide +kernel)) ggX8_seekEnds_X8_begin
set_option maxRecDepth 20000 in
theorem ggX8_seekEnds_J7_fill_53178 : GoodIn wsX8_seekEnds wsJ7_fill_53178 := goodIn_r _ [29] (by decide +kernel) (by decide +kernel)
set_option maxRecDepth 20000 in
theorem gX8_seekEnds_J7_fill_53178 : GoodIn wsX8_seekEnds (va_wsS RX8 57 yJ7_fill_53178 wsJ7_fill_53178) := goodIn_app (goodIn_of _ (by decide +kernel)) ggX8_seekEnds_J7_fill_53178
set_option maxRecDepth 20000 in
theorem ggX8_seekEnds_X8_seekEndsBy : GoodIn wsX8_seekEnds wsX8_seekEndsBy := goodIn_r _ [33, 34, 35, 5, 36, 37, 38, 39, 17, 40, 6, 41, 42, 43, 44, 45, 46, 25, 47, 48, 49, 50, 20, 19, 51, 52, 3, 53, 54, 55, 56, 57, 22, 58, 23, 59, 60, 61, 62, 63, 64, 65, 66, 1, 2, 4, 21, 67, 68, 69, 70, 81, 82, 83, 71, 72, 73, 74, 75, 76, 77, 78, 79, 80] (by decide +kernel) (by decide +kernel)
set_option maxRecDepth 20000 in
theorem gX8_seekEnds_X8_seekEndsBy : GoodIn wsX8_seekEnds (wsV RX8 62 RX8 yX8_seekEndsBy wsX8_seekEndsBy) := goodIn_app (goodIn_of _ (by decide +kernel)) ggX8_seekEnds_X8_seekEndsBy
theorem dX8_seekEnds_0 : decode cX8_seekEnds 0 = .ok (.aload_n 0, 1) := by decide +kernel
theorem dX8_seekEnds_1 : decode cX8_seekEnds 1 = .ok (.aload_n 1, 1) := by decide +kernel
theorem dX8_seekEnds_2 : decode cX8_seekEnds 2 = .ok (.iload 5, 2) := by decide +kernel
theorem dX8_seekEnds_4 : decode cX8_seekEnds 4 = .ok (.aload_n 1, 1) := by decide +kernel
theorem dX8_seekEnds_5 : decode cX8_seekEnds 5 = .ok (.iconst 2, 1) := by decide +kernel
theorem dX8_seekEnds_6 : decode cX8_seekEnds 6 = .ok (.iaload, 1) := by decide +kernel
theorem dX8_seekEnds_7 : decode cX8_seekEnds 7 = .ok (.aload_n 2, 1) := by decide +kernel
theorem dX8_seekEnds_8 : decode cX8_seekEnds 8 = .ok (.invokevirtual 46, 3) := by decide +kernel
theorem dX8_seekEnds_11 : decode cX8_seekEnds 11 = .ok (.imul, 1) := by decide +kernel
theorem dX8_seekEnds_12 : decode cX8_seekEnds 12 = .ok (.invokestatic 50, 3) := by decide +kernel
theorem dX8_seekEnds_15 : decode cX8_seekEnds 15 = .ok (.invokevirtual 28, 3) := by decide +kernel
theorem dX8_seekEnds_18 : decode cX8_seekEnds 18 = .ok (.aload_n 0, 1) := by decide +kernel
theorem dX8_seekEnds_19 : decode cX8_seekEnds 19 = .ok (.getfield 21, 3) := by decide +kernel
theorem dX8_seekEnds_22 : decode cX8_seekEnds 22 = .ok (.ldc 56, 2) := by decide +kernel
theorem dX8_seekEnds_24 : decode cX8_seekEnds 24 = .ok (.invokestatic 57, 3) := by decide +kernel
theorem dX8_seekEnds_27 : decode cX8_seekEnds 27 = .ok (.iconst 0, 1) := by decide +kernel
theorem dX8_seekEnds_28 : decode cX8_seekEnds 28 = .ok (.istore 6, 2) := by decide +kernel
theorem dX8_seekEnds_30 : decode cX8_seekEnds 30 = .ok (.iload 6, 2) := by decide +kernel
theorem dX8_seekEnds_32 : decode cX8_seekEnds 32 = .ok (.iload 4, 2) := by decide +kernel
theorem dX8_seekEnds_34 : decode cX8_seekEnds 34 = .ok (.if_icmp .gt 31, 3) := by decide +kernel
theorem dX8_seekEnds_37 : decode cX8_seekEnds 37 = .ok (.aload_n 0, 1) := by decide +kernel
theorem dX8_seekEnds_38 : decode cX8_seekEnds 38 = .ok (.aload_n 2, 1) := by decide +kernel
theorem dX8_seekEnds_39 : decode cX8_seekEnds 39 = .ok (.aload_n 3, 1) := by decide +kernel
theorem dX8_seekEnds_40 : decode cX8_seekEnds 40 = .ok (.iload 6, 2) := by decide +kernel
theorem dX8_seekEnds_42 : decode cX8_seekEnds 42 = .ok (.ineg, 1) := by decide +kernel
theorem dX8_seekEnds_43 : decode cX8_seekEnds 43 = .ok (.invokevirtual 62, 3) := by decide +kernel
theorem dX8_seekEnds_46 : decode cX8_seekEnds 46 = .ok (.iload 6, 2) := by decide +kernel
theorem dX8_seekEnds_48 : decode cX8_seekEnds 48 = .ok (.ifCond .le 11, 3) := by decide +kernel
theorem dX8_seekEnds_51 : decode cX8_seekEnds 51 = .ok (.aload_n 0, 1) := by decide +kernel
theorem dX8_seekEnds_52 : decode cX8_seekEnds 52 = .ok (.aload_n 2, 1) := by decide +kernel
theorem dX8_seekEnds_53 : decode cX8_seekEnds 53 = .ok (.aload_n 3, 1) := by decide +kernel
theorem dX8_seekEnds_54 : decode cX8_seekEnds 54 = .ok (.iload 6, 2) := by decide +kernel
theorem dX8_seekEnds_56 : decode cX8_seekEnds 56 = .ok (.invokevirtual 62, 3) := by decide +kernel
theorem dX8_seekEnds_59 : decode cX8_seekEnds 59 = .ok (.iinc 6 1, 3) := by decide +kernel
theorem dX8_seekEnds_62 : decode cX8_seekEnds 62 = .ok (.goto (-32), 3) := by decide +kernel
theorem dX8_seekEnds_65 : decode cX8_seekEnds 65 = .ok (.return_, 1) := by decide +kernel
theorem dX8_endCost_0 : decode cX8_endCost 0 = .ok (.aload_n 0, 1) := by decide +kernel
theorem dX8_endCost_1 : decode cX8_endCost 1 = .ok (.getfield 21, 3) := by decide +kernel
theorem dX8_endCost_4 : decode cX8_endCost 4 = .ok (.iload_n 1, 1) := by decide +kernel
theorem dX8_endCost_5 : decode cX8_endCost 5 = .ok (.iaload, 1) := by decide +kernel
theorem dX8_endCost_6 : decode cX8_endCost 6 = .ok (.bipush 32, 2) := by decide +kernel
theorem dX8_endCost_8 : decode cX8_endCost 8 = .ok (.idiv, 1) := by decide +kernel
theorem dX8_endCost_9 : decode cX8_endCost 9 = .ok (.ireturn, 1) := by decide +kernel
theorem dX8_endPlace_0 : decode cX8_endPlace 0 = .ok (.bipush 24, 2) := by decide +kernel
theorem dX8_endPlace_2 : decode cX8_endPlace 2 = .ok (.aload_n 0, 1) := by decide +kernel
theorem dX8_endPlace_3 : decode cX8_endPlace 3 = .ok (.getfield 21, 3) := by decide +kernel
theorem dX8_endPlace_6 : decode cX8_endPlace 6 = .ok (.iload_n 1, 1) := by decide +kernel
theorem dX8_endPlace_7 : decode cX8_endPlace 7 = .ok (.iaload, 1) := by decide +kernel
theorem dX8_endPlace_8 : decode cX8_endPlace 8 = .ok (.bipush 32, 2) := by decide +kernel
theorem dX8_endPlace_10 : decode cX8_endPlace 10 = .ok (.irem, 1) := by decide +kernel
theorem dX8_endPlace_11 : decode cX8_endPlace 11 = .ok (.isub, 1) := by decide +kernel
theorem dX8_endPlace_12 : decode cX8_endPlace 12 = .ok (.ireturn, 1) := by decide +kernel
theorem dX8_endShift_0 : decode cX8_endShift 0 = .ok (.aload_n 0, 1) := by decide +kernel
theorem dX8_endShift_1 : decode cX8_endShift 1 = .ok (.getfield 25, 3) := by decide +kernel
theorem dX8_endShift_4 : decode cX8_endShift 4 = .ok (.iload_n 1, 1) := by decide +kernel
theorem dX8_endShift_5 : decode cX8_endShift 5 = .ok (.iaload, 1) := by decide +kernel
theorem dX8_endShift_6 : decode cX8_endShift 6 = .ok (.ireturn, 1) := by decide +kernel
theorem dX8_begin_0 : decode cX8_begin 0 = .ok (.aload_n 0, 1) := by decide +kernel
theorem dX8_begin_1 : decode cX8_begin 1 = .ok (.aload_n 1, 1) := by decide +kernel
theorem dX8_begin_2 : decode cX8_begin 2 = .ok (.iconst 0, 1) := by decide +kernel
theorem dX8_begin_3 : decode cX8_begin 3 = .ok (.iaload, 1) := by decide +kernel
theorem dX8_begin_4 : decode cX8_begin 4 = .ok (.bipush 32, 2) := by decide +kernel
theorem dX8_begin_6 : decode cX8_begin 6 = .ok (.imul, 1) := by decide +kernel
theorem dX8_begin_7 : decode cX8_begin 7 = .ok (.putfield 65, 3) := by decide +kernel
theorem dX8_begin_10 : decode cX8_begin 10 = .ok (.aload_n 0, 1) := by decide +kernel
theorem dX8_begin_11 : decode cX8_begin 11 = .ok (.aload_n 1, 1) := by decide +kernel
theorem dX8_begin_12 : decode cX8_begin 12 = .ok (.iconst 4, 1) := by decide +kernel
theorem dX8_begin_13 : decode cX8_begin 13 = .ok (.iaload, 1) := by decide +kernel
theorem dX8_begin_14 : decode cX8_begin 14 = .ok (.bipush 32, 2) := by decide +kernel
theorem dX8_begin_16 : decode cX8_begin 16 = .ok (.imul, 1) := by decide +kernel
theorem dX8_begin_17 : decode cX8_begin 17 = .ok (.putfield 68, 3) := by decide +kernel
theorem dX8_begin_20 : decode cX8_begin 20 = .ok (.aload_n 0, 1) := by decide +kernel
theorem dX8_begin_21 : decode cX8_begin 21 = .ok (.aload_n 1, 1) := by decide +kernel
theorem dX8_begin_22 : decode cX8_begin 22 = .ok (.iconst 1, 1) := by decide +kernel
theorem dX8_begin_23 : decode cX8_begin 23 = .ok (.iaload, 1) := by decide +kernel
theorem dX8_begin_24 : decode cX8_begin 24 = .ok (.bipush 32, 2) := by decide +kernel
theorem dX8_begin_26 : decode cX8_begin 26 = .ok (.imul, 1) := by decide +kernel
theorem dX8_begin_27 : decode cX8_begin 27 = .ok (.putfield 71, 3) := by decide +kernel
theorem dX8_begin_30 : decode cX8_begin 30 = .ok (.aload_n 0, 1) := by decide +kernel
theorem dX8_begin_31 : decode cX8_begin 31 = .ok (.aload_n 1, 1) := by decide +kernel
theorem dX8_begin_32 : decode cX8_begin 32 = .ok (.iconst 2, 1) := by decide +kernel
theorem dX8_begin_33 : decode cX8_begin 33 = .ok (.iaload, 1) := by decide +kernel
theorem dX8_begin_34 : decode cX8_begin 34 = .ok (.bipush 32, 2) := by decide +kernel
theorem dX8_begin_36 : decode cX8_begin 36 = .ok (.imul, 1) := by decide +kernel
theorem dX8_begin_37 : decode cX8_begin 37 = .ok (.putfield 74, 3) := by decide +kernel
theorem dX8_begin_40 : decode cX8_begin 40 = .ok (.aload_n 0, 1) := by decide +kernel
theorem dX8_begin_41 : decode cX8_begin 41 = .ok (.aload_n 1, 1) := by decide +kernel
theorem dX8_begin_42 : decode cX8_begin 42 = .ok (.iconst 3, 1) := by decide +kernel
theorem dX8_begin_43 : decode cX8_begin 43 = .ok (.iaload, 1) := by decide +kernel
theorem dX8_begin_44 : decode cX8_begin 44 = .ok (.bipush 32, 2) := by decide +kernel
theorem dX8_begin_46 : decode cX8_begin 46 = .ok (.imul, 1) := by decide +kernel
theorem dX8_begin_47 : decode cX8_begin 47 = .ok (.putfield 77, 3) := by decide +kernel
theorem dX8_begin_50 : decode cX8_begin 50 = .ok (.aload_n 0, 1) := by decide +kernel
theorem dX8_begin_51 : decode cX8_begin 51 = .ok (.iload_n 2, 1) := by decide +kernel
theorem dX8_begin_52 : decode cX8_begin 52 = .ok (.ldc 80, 2) := by decide +kernel
theorem dX8_begin_54 : decode cX8_begin 54 = .ok (.invokestatic 50, 3) := by decide +kernel
theorem dX8_begin_57 : decode cX8_begin 57 = .ok (.bipush 32, 2) := by decide +kernel
theorem dX8_begin_59 : decode cX8_begin 59 = .ok (.imul, 1) := by decide +kernel
theorem dX8_begin_60 : decode cX8_begin 60 = .ok (.bipush 32, 2) := by decide +kernel
theorem dX8_begin_62 : decode cX8_begin 62 = .ok (.iadd, 1) := by decide +kernel
theorem dX8_begin_63 : decode cX8_begin 63 = .ok (.iconst 1, 1) := by decide +kernel
theorem dX8_begin_64 : decode cX8_begin 64 = .ok (.isub, 1) := by decide +kernel
theorem dX8_begin_65 : decode cX8_begin 65 = .ok (.putfield 81, 3) := by decide +kernel
theorem dX8_begin_68 : decode cX8_begin 68 = .ok (.return_, 1) := by decide +kernel
set_option maxRecDepth 20000 in
theorem ggX8_seekEndsBy_X8_clearCells : GoodIn wsX8_seekEndsBy wsX8_clearCells := goodIn_r _ [9, 1, 2, 10, 51, 52, 53, 54, 55, 56, 57, 58, 59, 60, 61, 62, 63] (by decide +kernel) (by decide +kernel)
set_option maxRecDepth 20000 in
theorem gX8_seekEndsBy_X8_clearCells : GoodIn wsX8_seekEndsBy (wsV RX8 32 RX8 yX8_clearCells wsX8_clearCells) := goodIn_app (goodIn_of _ (by decide +kernel)) ggX8_seekEndsBy_X8_clearCells
set_option maxRecDepth 20000 in
theorem ggX8_seekEndsBy_X8_goThrough : GoodIn wsX8_seekEndsBy wsX8_goThrough := goodIn_r _ [14, 1, 15, 16, 2, 17, 18, 19, 20, 8, 21, 22, 23, 24, 25, 26, 27, 28, 29, 30, 31, 32, 33, 34, 35, 36, 37, 38, 39, 40, 41, 42, 43, 44, 45, 46, 47, 48, 49, 50, 51, 52, 53, 54, 55, 56, 57, 58, 59, 60, 61, 62, 63] (by decide +kernel) (by decide +kernel)
set_option maxRecDepth 20000 in
theorem gX8_seekEndsBy_X8_goThrough : GoodIn wsX8_seekEndsBy (wsV RX8 36 RX8 yX8_goThrough wsX8_goThrough) := goodIn_app (goodIn_of _ (by decide +kernel)) ggX8_seekEndsBy_X8_goThrough
theorem dX8_seekEndsBy_0 : decode cX8_seekEndsBy 0 = .ok (.aload_n 0, 1) := by decide +kernel
theorem dX8_seekEndsBy_1 : decode cX8_seekEndsBy 1 = .ok (.aload_n 1, 1) := by decide +kernel
theorem dX8_seekEndsBy_2 : decode cX8_seekEndsBy 2 = .ok (.aload_n 2, 1) := by decide +kernel
theorem dX8_seekEndsBy_3 : decode cX8_seekEndsBy 3 = .ok (.invokevirtual 32, 3) := by decide +kernel
theorem dX8_seekEndsBy_6 : decode cX8_seekEndsBy 6 = .ok (.iconst 0, 1) := by decide +kernel
theorem dX8_seekEndsBy_7 : decode cX8_seekEndsBy 7 = .ok (.istore 4, 2) := by decide +kernel
theorem dX8_seekEndsBy_9 : decode cX8_seekEndsBy 9 = .ok (.iload 4, 2) := by decide +kernel
theorem dX8_seekEndsBy_11 : decode cX8_seekEndsBy 11 = .ok (.aload_n 2, 1) := by decide +kernel
theorem dX8_seekEndsBy_12 : decode cX8_seekEndsBy 12 = .ok (.getfield 40, 3) := by decide +kernel
theorem dX8_seekEndsBy_15 : decode cX8_seekEndsBy 15 = .ok (.if_icmp .gt 23, 3) := by decide +kernel
theorem dX8_seekEndsBy_18 : decode cX8_seekEndsBy 18 = .ok (.aload_n 0, 1) := by decide +kernel
theorem dX8_seekEndsBy_19 : decode cX8_seekEndsBy 19 = .ok (.getfield 13, 3) := by decide +kernel
theorem dX8_seekEndsBy_22 : decode cX8_seekEndsBy 22 = .ok (.iconst 0, 1) := by decide +kernel
theorem dX8_seekEndsBy_23 : decode cX8_seekEndsBy 23 = .ok (.aaload, 1) := by decide +kernel
theorem dX8_seekEndsBy_24 : decode cX8_seekEndsBy 24 = .ok (.iload 4, 2) := by decide +kernel
theorem dX8_seekEndsBy_26 : decode cX8_seekEndsBy 26 = .ok (.bipush 24, 2) := by decide +kernel
theorem dX8_seekEndsBy_28 : decode cX8_seekEndsBy 28 = .ok (.iload 4, 2) := by decide +kernel
theorem dX8_seekEndsBy_30 : decode cX8_seekEndsBy 30 = .ok (.isub, 1) := by decide +kernel
theorem dX8_seekEndsBy_31 : decode cX8_seekEndsBy 31 = .ok (.iastore, 1) := by decide +kernel
theorem dX8_seekEndsBy_32 : decode cX8_seekEndsBy 32 = .ok (.iinc 4 1, 3) := by decide +kernel
theorem dX8_seekEndsBy_35 : decode cX8_seekEndsBy 35 = .ok (.goto (-26), 3) := by decide +kernel
theorem dX8_seekEndsBy_38 : decode cX8_seekEndsBy 38 = .ok (.aload_n 0, 1) := by decide +kernel
theorem dX8_seekEndsBy_39 : decode cX8_seekEndsBy 39 = .ok (.aload_n 1, 1) := by decide +kernel
theorem dX8_seekEndsBy_40 : decode cX8_seekEndsBy 40 = .ok (.aload_n 2, 1) := by decide +kernel
theorem dX8_seekEndsBy_41 : decode cX8_seekEndsBy 41 = .ok (.iload_n 3, 1) := by decide +kernel
theorem dX8_seekEndsBy_42 : decode cX8_seekEndsBy 42 = .ok (.invokevirtual 36, 3) := by decide +kernel
theorem dX8_seekEndsBy_45 : decode cX8_seekEndsBy 45 = .ok (.iconst 0, 1) := by decide +kernel
theorem dX8_seekEndsBy_46 : decode cX8_seekEndsBy 46 = .ok (.istore 4, 2) := by decide +kernel
theorem dX8_seekEndsBy_48 : decode cX8_seekEndsBy 48 = .ok (.iload 4, 2) := by decide +kernel
theorem dX8_seekEndsBy_50 : decode cX8_seekEndsBy 50 = .ok (.aload_n 2, 1) := by decide +kernel
theorem dX8_seekEndsBy_51 : decode cX8_seekEndsBy 51 = .ok (.getfield 40, 3) := by decide +kernel
theorem dX8_seekEndsBy_54 : decode cX8_seekEndsBy 54 = .ok (.if_icmp .gt 58, 3) := by decide +kernel
theorem dX8_seekEndsBy_57 : decode cX8_seekEndsBy 57 = .ok (.aload_n 0, 1) := by decide +kernel
theorem dX8_seekEndsBy_58 : decode cX8_seekEndsBy 58 = .ok (.getfield 13, 3) := by decide +kernel
theorem dX8_seekEndsBy_61 : decode cX8_seekEndsBy 61 = .ok (.aload_n 1, 1) := by decide +kernel
theorem dX8_seekEndsBy_62 : decode cX8_seekEndsBy 62 = .ok (.getfield 40, 3) := by decide +kernel
theorem dX8_seekEndsBy_65 : decode cX8_seekEndsBy 65 = .ok (.aaload, 1) := by decide +kernel
theorem dX8_seekEndsBy_66 : decode cX8_seekEndsBy 66 = .ok (.iload 4, 2) := by decide +kernel
theorem dX8_seekEndsBy_68 : decode cX8_seekEndsBy 68 = .ok (.iaload, 1) := by decide +kernel
theorem dX8_seekEndsBy_69 : decode cX8_seekEndsBy 69 = .ok (.istore 5, 2) := by decide +kernel
theorem dX8_seekEndsBy_71 : decode cX8_seekEndsBy 71 = .ok (.iload 5, 2) := by decide +kernel
theorem dX8_seekEndsBy_73 : decode cX8_seekEndsBy 73 = .ok (.bipush 32, 2) := by decide +kernel
theorem dX8_seekEndsBy_75 : decode cX8_seekEndsBy 75 = .ok (.idiv, 1) := by decide +kernel
theorem dX8_seekEndsBy_76 : decode cX8_seekEndsBy 76 = .ok (.aload_n 0, 1) := by decide +kernel
theorem dX8_seekEndsBy_77 : decode cX8_seekEndsBy 77 = .ok (.getfield 21, 3) := by decide +kernel
theorem dX8_seekEndsBy_80 : decode cX8_seekEndsBy 80 = .ok (.iload 4, 2) := by decide +kernel
theorem dX8_seekEndsBy_82 : decode cX8_seekEndsBy 82 = .ok (.iaload, 1) := by decide +kernel
theorem dX8_seekEndsBy_83 : decode cX8_seekEndsBy 83 = .ok (.bipush 32, 2) := by decide +kernel
theorem dX8_seekEndsBy_85 : decode cX8_seekEndsBy 85 = .ok (.idiv, 1) := by decide +kernel
theorem dX8_seekEndsBy_86 : decode cX8_seekEndsBy 86 = .ok (.if_icmp .ge 20, 3) := by decide +kernel
theorem dX8_seekEndsBy_89 : decode cX8_seekEndsBy 89 = .ok (.aload_n 0, 1) := by decide +kernel
theorem dX8_seekEndsBy_90 : decode cX8_seekEndsBy 90 = .ok (.getfield 21, 3) := by decide +kernel
theorem dX8_seekEndsBy_93 : decode cX8_seekEndsBy 93 = .ok (.iload 4, 2) := by decide +kernel
theorem dX8_seekEndsBy_95 : decode cX8_seekEndsBy 95 = .ok (.iload 5, 2) := by decide +kernel
theorem dX8_seekEndsBy_97 : decode cX8_seekEndsBy 97 = .ok (.iastore, 1) := by decide +kernel
theorem dX8_seekEndsBy_98 : decode cX8_seekEndsBy 98 = .ok (.aload_n 0, 1) := by decide +kernel
theorem dX8_seekEndsBy_99 : decode cX8_seekEndsBy 99 = .ok (.getfield 25, 3) := by decide +kernel
theorem dX8_seekEndsBy_102 : decode cX8_seekEndsBy 102 = .ok (.iload 4, 2) := by decide +kernel
theorem dX8_seekEndsBy_104 : decode cX8_seekEndsBy 104 = .ok (.iload_n 3, 1) := by decide +kernel
theorem dX8_seekEndsBy_105 : decode cX8_seekEndsBy 105 = .ok (.iastore, 1) := by decide +kernel
theorem dX8_seekEndsBy_106 : decode cX8_seekEndsBy 106 = .ok (.iinc 4 1, 3) := by decide +kernel
theorem dX8_seekEndsBy_109 : decode cX8_seekEndsBy 109 = .ok (.goto (-61), 3) := by decide +kernel
theorem dX8_seekEndsBy_112 : decode cX8_seekEndsBy 112 = .ok (.return_, 1) := by decide +kernel
theorem dX8_clearCells_0 : decode cX8_clearCells 0 = .ok (.iconst 0, 1) := by decide +kernel
theorem dX8_clearCells_1 : decode cX8_clearCells 1 = .ok (.istore_n 3, 1) := by decide +kernel
theorem dX8_clearCells_2 : decode cX8_clearCells 2 = .ok (.iload_n 3, 1) := by decide +kernel
theorem dX8_clearCells_3 : decode cX8_clearCells 3 = .ok (.aload_n 1, 1) := by decide +kernel
theorem dX8_clearCells_4 : decode cX8_clearCells 4 = .ok (.getfield 40, 3) := by decide +kernel
theorem dX8_clearCells_7 : decode cX8_clearCells 7 = .ok (.if_icmp .gt 38, 3) := by decide +kernel
theorem dX8_clearCells_10 : decode cX8_clearCells 10 = .ok (.iconst 0, 1) := by decide +kernel
theorem dX8_clearCells_11 : decode cX8_clearCells 11 = .ok (.istore 4, 2) := by decide +kernel
theorem dX8_clearCells_13 : decode cX8_clearCells 13 = .ok (.iload 4, 2) := by decide +kernel
theorem dX8_clearCells_15 : decode cX8_clearCells 15 = .ok (.aload_n 2, 1) := by decide +kernel
theorem dX8_clearCells_16 : decode cX8_clearCells 16 = .ok (.getfield 40, 3) := by decide +kernel
theorem dX8_clearCells_19 : decode cX8_clearCells 19 = .ok (.if_icmp .gt 20, 3) := by decide +kernel
theorem dX8_clearCells_22 : decode cX8_clearCells 22 = .ok (.aload_n 0, 1) := by decide +kernel
theorem dX8_clearCells_23 : decode cX8_clearCells 23 = .ok (.getfield 13, 3) := by decide +kernel
theorem dX8_clearCells_26 : decode cX8_clearCells 26 = .ok (.iload_n 3, 1) := by decide +kernel
theorem dX8_clearCells_27 : decode cX8_clearCells 27 = .ok (.aaload, 1) := by decide +kernel
theorem dX8_clearCells_28 : decode cX8_clearCells 28 = .ok (.iload 4, 2) := by decide +kernel
theorem dX8_clearCells_30 : decode cX8_clearCells 30 = .ok (.ldc 56, 2) := by decide +kernel
theorem dX8_clearCells_32 : decode cX8_clearCells 32 = .ok (.iastore, 1) := by decide +kernel
theorem dX8_clearCells_33 : decode cX8_clearCells 33 = .ok (.iinc 4 1, 3) := by decide +kernel
theorem dX8_clearCells_36 : decode cX8_clearCells 36 = .ok (.goto (-23), 3) := by decide +kernel
theorem dX8_clearCells_39 : decode cX8_clearCells 39 = .ok (.iinc 3 1, 3) := by decide +kernel
theorem dX8_clearCells_42 : decode cX8_clearCells 42 = .ok (.goto (-40), 3) := by decide +kernel
theorem dX8_clearCells_45 : decode cX8_clearCells 45 = .ok (.return_, 1) := by decide +kernel
set_option maxRecDepth 20000 in
theorem ggX8_goThrough_X8_pairCost : GoodIn wsX8_goThrough wsX8_pairCost := goodIn_r _ [10, 11, 12, 13, 14, 15, 16, 43, 44, 45, 46, 47, 48, 49, 50, 51, 52] (by decide +kernel) (by decide +kernel)
set_option maxRecDepth 20000 in
theorem gX8_goThrough_X8_pairCost : GoodIn wsX8_goThrough (wsV RX8 87 RX8 yX8_pairCost wsX8_pairCost) := goodIn_app (goodIn_of _ (by decide +kernel)) ggX8_goThrough_X8_pairCost
set_option maxRecDepth 20000 in
theorem ggX8_goThrough_X8_stepOn : GoodIn wsX8_goThrough wsX8_stepOn := goodIn_r _ [20, 4, 1, 21, 22, 23, 24, 25, 26, 9, 27, 28, 29, 30, 31, 2, 32, 33, 15, 34, 5, 35, 13, 14, 16, 36, 37, 38, 39, 43, 44, 45, 46, 47, 48, 49, 50, 51, 52, 40, 41, 42] (by decide +kernel) (by decide +kernel)
set_option maxRecDepth 20000 in
theorem gX8_goThrough_X8_stepOn : GoodIn wsX8_goThrough (wsV RX8 91 RX8 yX8_stepOn wsX8_stepOn) := goodIn_app (goodIn_of _ (by decide +kernel)) ggX8_goThrough_X8_stepOn
theorem dX8_goThrough_0 : decode cX8_goThrough 0 = .ok (.iconst 0, 1) := by decide +kernel
theorem dX8_goThrough_1 : decode cX8_goThrough 1 = .ok (.istore 4, 2) := by decide +kernel
theorem dX8_goThrough_3 : decode cX8_goThrough 3 = .ok (.iload 4, 2) := by decide +kernel
theorem dX8_goThrough_5 : decode cX8_goThrough 5 = .ok (.aload_n 1, 1) := by decide +kernel
theorem dX8_goThrough_6 : decode cX8_goThrough 6 = .ok (.getfield 40, 3) := by decide +kernel
theorem dX8_goThrough_9 : decode cX8_goThrough 9 = .ok (.if_icmp .ge 56, 3) := by decide +kernel
theorem dX8_goThrough_12 : decode cX8_goThrough 12 = .ok (.iconst 0, 1) := by decide +kernel
theorem dX8_goThrough_13 : decode cX8_goThrough 13 = .ok (.istore 5, 2) := by decide +kernel
theorem dX8_goThrough_15 : decode cX8_goThrough 15 = .ok (.iload 5, 2) := by decide +kernel
theorem dX8_goThrough_17 : decode cX8_goThrough 17 = .ok (.aload_n 2, 1) := by decide +kernel
theorem dX8_goThrough_18 : decode cX8_goThrough 18 = .ok (.getfield 40, 3) := by decide +kernel
theorem dX8_goThrough_21 : decode cX8_goThrough 21 = .ok (.if_icmp .ge 38, 3) := by decide +kernel
theorem dX8_goThrough_24 : decode cX8_goThrough 24 = .ok (.aload_n 0, 1) := by decide +kernel
theorem dX8_goThrough_25 : decode cX8_goThrough 25 = .ok (.getfield 18, 3) := by decide +kernel
theorem dX8_goThrough_28 : decode cX8_goThrough 28 = .ok (.iload 4, 2) := by decide +kernel
theorem dX8_goThrough_30 : decode cX8_goThrough 30 = .ok (.aaload, 1) := by decide +kernel
theorem dX8_goThrough_31 : decode cX8_goThrough 31 = .ok (.iload 5, 2) := by decide +kernel
theorem dX8_goThrough_33 : decode cX8_goThrough 33 = .ok (.aload_n 0, 1) := by decide +kernel
theorem dX8_goThrough_34 : decode cX8_goThrough 34 = .ok (.aload_n 1, 1) := by decide +kernel
theorem dX8_goThrough_35 : decode cX8_goThrough 35 = .ok (.getfield 84, 3) := by decide +kernel
theorem dX8_goThrough_38 : decode cX8_goThrough 38 = .ok (.iload 4, 2) := by decide +kernel
theorem dX8_goThrough_40 : decode cX8_goThrough 40 = .ok (.iaload, 1) := by decide +kernel
theorem dX8_goThrough_41 : decode cX8_goThrough 41 = .ok (.aload_n 2, 1) := by decide +kernel
theorem dX8_goThrough_42 : decode cX8_goThrough 42 = .ok (.getfield 84, 3) := by decide +kernel
theorem dX8_goThrough_45 : decode cX8_goThrough 45 = .ok (.iload 5, 2) := by decide +kernel
theorem dX8_goThrough_47 : decode cX8_goThrough 47 = .ok (.iaload, 1) := by decide +kernel
theorem dX8_goThrough_48 : decode cX8_goThrough 48 = .ok (.iload_n 3, 1) := by decide +kernel
theorem dX8_goThrough_49 : decode cX8_goThrough 49 = .ok (.invokevirtual 87, 3) := by decide +kernel
theorem dX8_goThrough_52 : decode cX8_goThrough 52 = .ok (.iastore, 1) := by decide +kernel
theorem dX8_goThrough_53 : decode cX8_goThrough 53 = .ok (.iinc 5 1, 3) := by decide +kernel
theorem dX8_goThrough_56 : decode cX8_goThrough 56 = .ok (.goto (-41), 3) := by decide +kernel
theorem dX8_goThrough_59 : decode cX8_goThrough 59 = .ok (.iinc 4 1, 3) := by decide +kernel
theorem dX8_goThrough_62 : decode cX8_goThrough 62 = .ok (.goto (-59), 3) := by decide +kernel
theorem dX8_goThrough_65 : decode cX8_goThrough 65 = .ok (.iconst 0, 1) := by decide +kernel
theorem dX8_goThrough_66 : decode cX8_goThrough 66 = .ok (.istore 4, 2) := by decide +kernel
theorem dX8_goThrough_68 : decode cX8_goThrough 68 = .ok (.iload 4, 2) := by decide +kernel
theorem dX8_goThrough_70 : decode cX8_goThrough 70 = .ok (.aload_n 1, 1) := by decide +kernel
theorem dX8_goThrough_71 : decode cX8_goThrough 71 = .ok (.getfield 40, 3) := by decide +kernel
theorem dX8_goThrough_74 : decode cX8_goThrough 74 = .ok (.if_icmp .gt 54, 3) := by decide +kernel
theorem dX8_goThrough_77 : decode cX8_goThrough 77 = .ok (.iconst 0, 1) := by decide +kernel
theorem dX8_goThrough_78 : decode cX8_goThrough 78 = .ok (.istore 5, 2) := by decide +kernel
theorem dX8_goThrough_80 : decode cX8_goThrough 80 = .ok (.iload 5, 2) := by decide +kernel
theorem dX8_goThrough_82 : decode cX8_goThrough 82 = .ok (.aload_n 2, 1) := by decide +kernel
theorem dX8_goThrough_83 : decode cX8_goThrough 83 = .ok (.getfield 40, 3) := by decide +kernel
theorem dX8_goThrough_86 : decode cX8_goThrough 86 = .ok (.if_icmp .gt 36, 3) := by decide +kernel
theorem dX8_goThrough_89 : decode cX8_goThrough 89 = .ok (.aload_n 0, 1) := by decide +kernel
theorem dX8_goThrough_90 : decode cX8_goThrough 90 = .ok (.getfield 13, 3) := by decide +kernel
theorem dX8_goThrough_93 : decode cX8_goThrough 93 = .ok (.iload 4, 2) := by decide +kernel
theorem dX8_goThrough_95 : decode cX8_goThrough 95 = .ok (.aaload, 1) := by decide +kernel
theorem dX8_goThrough_96 : decode cX8_goThrough 96 = .ok (.iload 5, 2) := by decide +kernel
theorem dX8_goThrough_98 : decode cX8_goThrough 98 = .ok (.iaload, 1) := by decide +kernel
theorem dX8_goThrough_99 : decode cX8_goThrough 99 = .ok (.aload_n 0, 1) := by decide +kernel
theorem dX8_goThrough_100 : decode cX8_goThrough 100 = .ok (.getfield 81, 3) := by decide +kernel
theorem dX8_goThrough_103 : decode cX8_goThrough 103 = .ok (.if_icmp .gt 13, 3) := by decide +kernel
theorem dX8_goThrough_106 : decode cX8_goThrough 106 = .ok (.aload_n 0, 1) := by decide +kernel
theorem dX8_goThrough_107 : decode cX8_goThrough 107 = .ok (.aload_n 1, 1) := by decide +kernel
theorem dX8_goThrough_108 : decode cX8_goThrough 108 = .ok (.aload_n 2, 1) := by decide +kernel
theorem dX8_goThrough_109 : decode cX8_goThrough 109 = .ok (.iload 4, 2) := by decide +kernel
theorem dX8_goThrough_111 : decode cX8_goThrough 111 = .ok (.iload 5, 2) := by decide +kernel
theorem dX8_goThrough_113 : decode cX8_goThrough 113 = .ok (.invokevirtual 91, 3) := by decide +kernel
theorem dX8_goThrough_116 : decode cX8_goThrough 116 = .ok (.iinc 5 1, 3) := by decide +kernel
theorem dX8_goThrough_119 : decode cX8_goThrough 119 = .ok (.goto (-39), 3) := by decide +kernel
theorem dX8_goThrough_122 : decode cX8_goThrough 122 = .ok (.iinc 4 1, 3) := by decide +kernel
theorem dX8_goThrough_125 : decode cX8_goThrough 125 = .ok (.goto (-57), 3) := by decide +kernel
theorem dX8_goThrough_128 : decode cX8_goThrough 128 = .ok (.return_, 1) := by decide +kernel
theorem dX8_pairCost_0 : decode cX8_pairCost 0 = .ok (.iload_n 1, 1) := by decide +kernel
theorem dX8_pairCost_1 : decode cX8_pairCost 1 = .ok (.iconst (-1), 1) := by decide +kernel
theorem dX8_pairCost_2 : decode cX8_pairCost 2 = .ok (.if_icmp .ne 10, 3) := by decide +kernel
theorem dX8_pairCost_5 : decode cX8_pairCost 5 = .ok (.iload_n 2, 1) := by decide +kernel
theorem dX8_pairCost_6 : decode cX8_pairCost 6 = .ok (.iconst (-1), 1) := by decide +kernel
theorem dX8_pairCost_7 : decode cX8_pairCost 7 = .ok (.if_icmp .ne 5, 3) := by decide +kernel
theorem dX8_pairCost_10 : decode cX8_pairCost 10 = .ok (.iconst 0, 1) := by decide +kernel
theorem dX8_pairCost_11 : decode cX8_pairCost 11 = .ok (.ireturn, 1) := by decide +kernel
theorem dX8_pairCost_12 : decode cX8_pairCost 12 = .ok (.iload_n 1, 1) := by decide +kernel
theorem dX8_pairCost_13 : decode cX8_pairCost 13 = .ok (.iconst (-1), 1) := by decide +kernel
theorem dX8_pairCost_14 : decode cX8_pairCost 14 = .ok (.if_icmp .eq 8, 3) := by decide +kernel
theorem dX8_pairCost_17 : decode cX8_pairCost 17 = .ok (.iload_n 2, 1) := by decide +kernel
theorem dX8_pairCost_18 : decode cX8_pairCost 18 = .ok (.iconst (-1), 1) := by decide +kernel
theorem dX8_pairCost_19 : decode cX8_pairCost 19 = .ok (.if_icmp .ne 8, 3) := by decide +kernel
theorem dX8_pairCost_22 : decode cX8_pairCost 22 = .ok (.aload_n 0, 1) := by decide +kernel
theorem dX8_pairCost_23 : decode cX8_pairCost 23 = .ok (.getfield 68, 3) := by decide +kernel
theorem dX8_pairCost_26 : decode cX8_pairCost 26 = .ok (.ireturn, 1) := by decide +kernel
theorem dX8_pairCost_27 : decode cX8_pairCost 27 = .ok (.aload_n 0, 1) := by decide +kernel
theorem dX8_pairCost_28 : decode cX8_pairCost 28 = .ok (.getfield 65, 3) := by decide +kernel
theorem dX8_pairCost_31 : decode cX8_pairCost 31 = .ok (.iload_n 1, 1) := by decide +kernel
theorem dX8_pairCost_32 : decode cX8_pairCost 32 = .ok (.iload_n 3, 1) := by decide +kernel
theorem dX8_pairCost_33 : decode cX8_pairCost 33 = .ok (.iadd, 1) := by decide +kernel
theorem dX8_pairCost_34 : decode cX8_pairCost 34 = .ok (.iload_n 2, 1) := by decide +kernel
theorem dX8_pairCost_35 : decode cX8_pairCost 35 = .ok (.isub, 1) := by decide +kernel
theorem dX8_pairCost_36 : decode cX8_pairCost 36 = .ok (.invokestatic 95, 3) := by decide +kernel
theorem dX8_pairCost_39 : decode cX8_pairCost 39 = .ok (.imul, 1) := by decide +kernel
theorem dX8_pairCost_40 : decode cX8_pairCost 40 = .ok (.ireturn, 1) := by decide +kernel
set_option maxRecDepth 20000 in
theorem ggX8_stepOn_X8_offer : GoodIn wsX8_stepOn wsX8_offer := goodIn_r _ [10, 1, 29, 30, 31, 32, 33, 34, 35, 36, 37, 38] (by decide +kernel) (by decide +kernel)
set_option maxRecDepth 20000 in
theorem gX8_stepOn_X8_offer : GoodIn wsX8_stepOn (wsV RX8 102 RX8 yX8_offer wsX8_offer) := goodIn_app (goodIn_of _ (by decide +kernel)) ggX8_stepOn_X8_offer
set_option maxRecDepth 20000 in
theorem ggX8_stepOn_X8_stepWithSeveralOfB : GoodIn wsX8_stepOn wsX8_stepWithSeveralOfB := goodIn_r _ [14, 15, 1, 4, 2, 16, 17, 18, 19, 20, 21, 22, 23, 24, 29, 30, 31, 32, 33, 34, 35, 36, 37, 38, 39, 40, 41] (by decide +kernel) (by decide +kernel)
set_option maxRecDepth 20000 in
theorem gX8_stepOn_X8_stepWithSeveralOfB : GoodIn wsX8_stepOn (wsV RX8 106 RX8 yX8_stepWithSeveralOfB wsX8_stepWithSeveralOfB) := goodIn_app (goodIn_of _ (by decide +kernel)) ggX8_stepOn_X8_stepWithSeveralOfB
set_option maxRecDepth 20000 in
theorem ggX8_stepOn_X8_stepWithSeveralOfA : GoodIn wsX8_stepOn wsX8_stepWithSeveralOfA := goodIn_r _ [28, 1, 15, 4, 2, 16, 17, 18, 19, 20, 21, 22, 23, 24, 6, 7, 8, 9, 10, 29, 30, 31, 32, 33, 34, 35, 36, 37, 38, 39, 40, 41] (by decide +kernel) (by decide +kernel)
set_option maxRecDepth 20000 in
theorem gX8_stepOn_X8_stepWithSeveralOfA : GoodIn wsX8_stepOn (wsV RX8 109 RX8 yX8_stepWithSeveralOfA wsX8_stepWithSeveralOfA) := goodIn_app (goodIn_of _ (by decide +kernel)) ggX8_stepOn_X8_stepWithSeveralOfA
theorem dX8_stepOn_0 : decode cX8_stepOn 0 = .ok (.aload_n 0, 1) := by decide +kernel
theorem dX8_stepOn_1 : decode cX8_stepOn 1 = .ok (.getfield 13, 3) := by decide +kernel
theorem dX8_stepOn_4 : decode cX8_stepOn 4 = .ok (.iload_n 3, 1) := by decide +kernel
theorem dX8_stepOn_5 : decode cX8_stepOn 5 = .ok (.aaload, 1) := by decide +kernel
theorem dX8_stepOn_6 : decode cX8_stepOn 6 = .ok (.iload 4, 2) := by decide +kernel
theorem dX8_stepOn_8 : decode cX8_stepOn 8 = .ok (.iaload, 1) := by decide +kernel
theorem dX8_stepOn_9 : decode cX8_stepOn 9 = .ok (.istore 5, 2) := by decide +kernel
theorem dX8_stepOn_11 : decode cX8_stepOn 11 = .ok (.iload_n 3, 1) := by decide +kernel
theorem dX8_stepOn_12 : decode cX8_stepOn 12 = .ok (.aload_n 1, 1) := by decide +kernel
theorem dX8_stepOn_13 : decode cX8_stepOn 13 = .ok (.getfield 40, 3) := by decide +kernel
theorem dX8_stepOn_16 : decode cX8_stepOn 16 = .ok (.if_icmp .ge 7, 3) := by decide +kernel
theorem dX8_stepOn_19 : decode cX8_stepOn 19 = .ok (.iconst 1, 1) := by decide +kernel
theorem dX8_stepOn_20 : decode cX8_stepOn 20 = .ok (.goto 4, 3) := by decide +kernel
theorem dX8_stepOn_23 : decode cX8_stepOn 23 = .ok (.iconst 0, 1) := by decide +kernel
theorem dX8_stepOn_24 : decode cX8_stepOn 24 = .ok (.istore 6, 2) := by decide +kernel
theorem dX8_stepOn_26 : decode cX8_stepOn 26 = .ok (.iload 4, 2) := by decide +kernel
theorem dX8_stepOn_28 : decode cX8_stepOn 28 = .ok (.aload_n 2, 1) := by decide +kernel
theorem dX8_stepOn_29 : decode cX8_stepOn 29 = .ok (.getfield 40, 3) := by decide +kernel
theorem dX8_stepOn_32 : decode cX8_stepOn 32 = .ok (.if_icmp .ge 7, 3) := by decide +kernel
theorem dX8_stepOn_35 : decode cX8_stepOn 35 = .ok (.iconst 1, 1) := by decide +kernel
theorem dX8_stepOn_36 : decode cX8_stepOn 36 = .ok (.goto 4, 3) := by decide +kernel
theorem dX8_stepOn_39 : decode cX8_stepOn 39 = .ok (.iconst 0, 1) := by decide +kernel
theorem dX8_stepOn_40 : decode cX8_stepOn 40 = .ok (.istore 7, 2) := by decide +kernel
theorem dX8_stepOn_42 : decode cX8_stepOn 42 = .ok (.iload 6, 2) := by decide +kernel
theorem dX8_stepOn_44 : decode cX8_stepOn 44 = .ok (.ifCond .eq 26, 3) := by decide +kernel
theorem dX8_stepOn_47 : decode cX8_stepOn 47 = .ok (.aload_n 0, 1) := by decide +kernel
theorem dX8_stepOn_48 : decode cX8_stepOn 48 = .ok (.iload_n 3, 1) := by decide +kernel
theorem dX8_stepOn_49 : decode cX8_stepOn 49 = .ok (.iconst 1, 1) := by decide +kernel
theorem dX8_stepOn_50 : decode cX8_stepOn 50 = .ok (.iadd, 1) := by decide +kernel
theorem dX8_stepOn_51 : decode cX8_stepOn 51 = .ok (.iload 4, 2) := by decide +kernel
theorem dX8_stepOn_53 : decode cX8_stepOn 53 = .ok (.iload 5, 2) := by decide +kernel
theorem dX8_stepOn_55 : decode cX8_stepOn 55 = .ok (.aload_n 0, 1) := by decide +kernel
theorem dX8_stepOn_56 : decode cX8_stepOn 56 = .ok (.getfield 74, 3) := by decide +kernel
theorem dX8_stepOn_59 : decode cX8_stepOn 59 = .ok (.aload_n 1, 1) := by decide +kernel
theorem dX8_stepOn_60 : decode cX8_stepOn 60 = .ok (.getfield 99, 3) := by decide +kernel
theorem dX8_stepOn_63 : decode cX8_stepOn 63 = .ok (.iload_n 3, 1) := by decide +kernel
theorem dX8_stepOn_64 : decode cX8_stepOn 64 = .ok (.iaload, 1) := by decide +kernel
theorem dX8_stepOn_65 : decode cX8_stepOn 65 = .ok (.imul, 1) := by decide +kernel
theorem dX8_stepOn_66 : decode cX8_stepOn 66 = .ok (.iadd, 1) := by decide +kernel
theorem dX8_stepOn_67 : decode cX8_stepOn 67 = .ok (.invokevirtual 102, 3) := by decide +kernel
theorem dX8_stepOn_70 : decode cX8_stepOn 70 = .ok (.iload 7, 2) := by decide +kernel
theorem dX8_stepOn_72 : decode cX8_stepOn 72 = .ok (.ifCond .eq 27, 3) := by decide +kernel
theorem dX8_stepOn_75 : decode cX8_stepOn 75 = .ok (.aload_n 0, 1) := by decide +kernel
theorem dX8_stepOn_76 : decode cX8_stepOn 76 = .ok (.iload_n 3, 1) := by decide +kernel
theorem dX8_stepOn_77 : decode cX8_stepOn 77 = .ok (.iload 4, 2) := by decide +kernel
theorem dX8_stepOn_79 : decode cX8_stepOn 79 = .ok (.iconst 1, 1) := by decide +kernel
theorem dX8_stepOn_80 : decode cX8_stepOn 80 = .ok (.iadd, 1) := by decide +kernel
theorem dX8_stepOn_81 : decode cX8_stepOn 81 = .ok (.iload 5, 2) := by decide +kernel
theorem dX8_stepOn_83 : decode cX8_stepOn 83 = .ok (.aload_n 0, 1) := by decide +kernel
theorem dX8_stepOn_84 : decode cX8_stepOn 84 = .ok (.getfield 77, 3) := by decide +kernel
theorem dX8_stepOn_87 : decode cX8_stepOn 87 = .ok (.aload_n 2, 1) := by decide +kernel
theorem dX8_stepOn_88 : decode cX8_stepOn 88 = .ok (.getfield 99, 3) := by decide +kernel
theorem dX8_stepOn_91 : decode cX8_stepOn 91 = .ok (.iload 4, 2) := by decide +kernel
theorem dX8_stepOn_93 : decode cX8_stepOn 93 = .ok (.iaload, 1) := by decide +kernel
theorem dX8_stepOn_94 : decode cX8_stepOn 94 = .ok (.imul, 1) := by decide +kernel
theorem dX8_stepOn_95 : decode cX8_stepOn 95 = .ok (.iadd, 1) := by decide +kernel
theorem dX8_stepOn_96 : decode cX8_stepOn 96 = .ok (.invokevirtual 102, 3) := by decide +kernel
theorem dX8_stepOn_99 : decode cX8_stepOn 99 = .ok (.iload 6, 2) := by decide +kernel
theorem dX8_stepOn_101 : decode cX8_stepOn 101 = .ok (.ifCond .eq 26, 3) := by decide +kernel
theorem dX8_stepOn_104 : decode cX8_stepOn 104 = .ok (.iload 7, 2) := by decide +kernel
theorem dX8_stepOn_106 : decode cX8_stepOn 106 = .ok (.ifCond .eq 21, 3) := by decide +kernel
theorem dX8_stepOn_109 : decode cX8_stepOn 109 = .ok (.aload_n 0, 1) := by decide +kernel
theorem dX8_stepOn_110 : decode cX8_stepOn 110 = .ok (.aload_n 1, 1) := by decide +kernel
theorem dX8_stepOn_111 : decode cX8_stepOn 111 = .ok (.aload_n 2, 1) := by decide +kernel
theorem dX8_stepOn_112 : decode cX8_stepOn 112 = .ok (.iload_n 3, 1) := by decide +kernel
theorem dX8_stepOn_113 : decode cX8_stepOn 113 = .ok (.iload 4, 2) := by decide +kernel
theorem dX8_stepOn_115 : decode cX8_stepOn 115 = .ok (.invokevirtual 106, 3) := by decide +kernel
theorem dX8_stepOn_118 : decode cX8_stepOn 118 = .ok (.aload_n 0, 1) := by decide +kernel
theorem dX8_stepOn_119 : decode cX8_stepOn 119 = .ok (.aload_n 1, 1) := by decide +kernel
theorem dX8_stepOn_120 : decode cX8_stepOn 120 = .ok (.aload_n 2, 1) := by decide +kernel
theorem dX8_stepOn_121 : decode cX8_stepOn 121 = .ok (.iload_n 3, 1) := by decide +kernel
theorem dX8_stepOn_122 : decode cX8_stepOn 122 = .ok (.iload 4, 2) := by decide +kernel
theorem dX8_stepOn_124 : decode cX8_stepOn 124 = .ok (.invokevirtual 109, 3) := by decide +kernel
theorem dX8_stepOn_127 : decode cX8_stepOn 127 = .ok (.return_, 1) := by decide +kernel
theorem dX8_stepWithSeveralOfB_0 : decode cX8_stepWithSeveralOfB 0 = .ok (.aload_n 0, 1) := by decide +kernel
theorem dX8_stepWithSeveralOfB_1 : decode cX8_stepWithSeveralOfB 1 = .ok (.getfield 18, 3) := by decide +kernel
theorem dX8_stepWithSeveralOfB_4 : decode cX8_stepWithSeveralOfB 4 = .ok (.iload_n 3, 1) := by decide +kernel
theorem dX8_stepWithSeveralOfB_5 : decode cX8_stepWithSeveralOfB 5 = .ok (.aaload, 1) := by decide +kernel
theorem dX8_stepWithSeveralOfB_6 : decode cX8_stepWithSeveralOfB 6 = .ok (.astore 5, 2) := by decide +kernel
theorem dX8_stepWithSeveralOfB_8 : decode cX8_stepWithSeveralOfB 8 = .ok (.aload_n 0, 1) := by decide +kernel
theorem dX8_stepWithSeveralOfB_9 : decode cX8_stepWithSeveralOfB 9 = .ok (.getfield 13, 3) := by decide +kernel
theorem dX8_stepWithSeveralOfB_12 : decode cX8_stepWithSeveralOfB 12 = .ok (.iload_n 3, 1) := by decide +kernel
theorem dX8_stepWithSeveralOfB_13 : decode cX8_stepWithSeveralOfB 13 = .ok (.iconst 1, 1) := by decide +kernel
theorem dX8_stepWithSeveralOfB_14 : decode cX8_stepWithSeveralOfB 14 = .ok (.iadd, 1) := by decide +kernel
theorem dX8_stepWithSeveralOfB_15 : decode cX8_stepWithSeveralOfB 15 = .ok (.aaload, 1) := by decide +kernel
theorem dX8_stepWithSeveralOfB_16 : decode cX8_stepWithSeveralOfB 16 = .ok (.astore 6, 2) := by decide +kernel
theorem dX8_stepWithSeveralOfB_18 : decode cX8_stepWithSeveralOfB 18 = .ok (.aload_n 0, 1) := by decide +kernel
theorem dX8_stepWithSeveralOfB_19 : decode cX8_stepWithSeveralOfB 19 = .ok (.getfield 13, 3) := by decide +kernel
theorem dX8_stepWithSeveralOfB_22 : decode cX8_stepWithSeveralOfB 22 = .ok (.iload_n 3, 1) := by decide +kernel
theorem dX8_stepWithSeveralOfB_23 : decode cX8_stepWithSeveralOfB 23 = .ok (.aaload, 1) := by decide +kernel
theorem dX8_stepWithSeveralOfB_24 : decode cX8_stepWithSeveralOfB 24 = .ok (.iload 4, 2) := by decide +kernel
theorem dX8_stepWithSeveralOfB_26 : decode cX8_stepWithSeveralOfB 26 = .ok (.iaload, 1) := by decide +kernel
theorem dX8_stepWithSeveralOfB_27 : decode cX8_stepWithSeveralOfB 27 = .ok (.istore 7, 2) := by decide +kernel
theorem dX8_stepWithSeveralOfB_29 : decode cX8_stepWithSeveralOfB 29 = .ok (.aload_n 1, 1) := by decide +kernel
theorem dX8_stepWithSeveralOfB_30 : decode cX8_stepWithSeveralOfB 30 = .ok (.getfield 99, 3) := by decide +kernel
theorem dX8_stepWithSeveralOfB_33 : decode cX8_stepWithSeveralOfB 33 = .ok (.iload_n 3, 1) := by decide +kernel
theorem dX8_stepWithSeveralOfB_34 : decode cX8_stepWithSeveralOfB 34 = .ok (.iaload, 1) := by decide +kernel
theorem dX8_stepWithSeveralOfB_35 : decode cX8_stepWithSeveralOfB 35 = .ok (.istore 8, 2) := by decide +kernel
theorem dX8_stepWithSeveralOfB_37 : decode cX8_stepWithSeveralOfB 37 = .ok (.aload_n 2, 1) := by decide +kernel
theorem dX8_stepWithSeveralOfB_38 : decode cX8_stepWithSeveralOfB 38 = .ok (.getfield 40, 3) := by decide +kernel
theorem dX8_stepWithSeveralOfB_41 : decode cX8_stepWithSeveralOfB 41 = .ok (.iload 4, 2) := by decide +kernel
theorem dX8_stepWithSeveralOfB_43 : decode cX8_stepWithSeveralOfB 43 = .ok (.iconst 4, 1) := by decide +kernel
theorem dX8_stepWithSeveralOfB_44 : decode cX8_stepWithSeveralOfB 44 = .ok (.iadd, 1) := by decide +kernel
theorem dX8_stepWithSeveralOfB_45 : decode cX8_stepWithSeveralOfB 45 = .ok (.invokestatic 50, 3) := by decide +kernel
theorem dX8_stepWithSeveralOfB_48 : decode cX8_stepWithSeveralOfB 48 = .ok (.istore 9, 2) := by decide +kernel
theorem dX8_stepWithSeveralOfB_50 : decode cX8_stepWithSeveralOfB 50 = .ok (.iload 4, 2) := by decide +kernel
theorem dX8_stepWithSeveralOfB_52 : decode cX8_stepWithSeveralOfB 52 = .ok (.istore 10, 2) := by decide +kernel
theorem dX8_stepWithSeveralOfB_54 : decode cX8_stepWithSeveralOfB 54 = .ok (.iload 10, 2) := by decide +kernel
theorem dX8_stepWithSeveralOfB_56 : decode cX8_stepWithSeveralOfB 56 = .ok (.iload 9, 2) := by decide +kernel
theorem dX8_stepWithSeveralOfB_58 : decode cX8_stepWithSeveralOfB 58 = .ok (.if_icmp .ge 76, 3) := by decide +kernel
theorem dX8_stepWithSeveralOfB_61 : decode cX8_stepWithSeveralOfB 61 = .ok (.iload 7, 2) := by decide +kernel
theorem dX8_stepWithSeveralOfB_63 : decode cX8_stepWithSeveralOfB 63 = .ok (.aload_n 0, 1) := by decide +kernel
theorem dX8_stepWithSeveralOfB_64 : decode cX8_stepWithSeveralOfB 64 = .ok (.getfield 81, 3) := by decide +kernel
theorem dX8_stepWithSeveralOfB_67 : decode cX8_stepWithSeveralOfB 67 = .ok (.if_icmp .gt 67, 3) := by decide +kernel
theorem dX8_stepWithSeveralOfB_70 : decode cX8_stepWithSeveralOfB 70 = .ok (.iload 7, 2) := by decide +kernel
theorem dX8_stepWithSeveralOfB_72 : decode cX8_stepWithSeveralOfB 72 = .ok (.aload 5, 2) := by decide +kernel
theorem dX8_stepWithSeveralOfB_74 : decode cX8_stepWithSeveralOfB 74 = .ok (.iload 10, 2) := by decide +kernel
theorem dX8_stepWithSeveralOfB_76 : decode cX8_stepWithSeveralOfB 76 = .ok (.iaload, 1) := by decide +kernel
theorem dX8_stepWithSeveralOfB_77 : decode cX8_stepWithSeveralOfB 77 = .ok (.iadd, 1) := by decide +kernel
theorem dX8_stepWithSeveralOfB_78 : decode cX8_stepWithSeveralOfB 78 = .ok (.istore 7, 2) := by decide +kernel
theorem dX8_stepWithSeveralOfB_80 : decode cX8_stepWithSeveralOfB 80 = .ok (.iload 8, 2) := by decide +kernel
theorem dX8_stepWithSeveralOfB_82 : decode cX8_stepWithSeveralOfB 82 = .ok (.aload_n 2, 1) := by decide +kernel
theorem dX8_stepWithSeveralOfB_83 : decode cX8_stepWithSeveralOfB 83 = .ok (.getfield 99, 3) := by decide +kernel
theorem dX8_stepWithSeveralOfB_86 : decode cX8_stepWithSeveralOfB 86 = .ok (.iload 10, 2) := by decide +kernel
theorem dX8_stepWithSeveralOfB_88 : decode cX8_stepWithSeveralOfB 88 = .ok (.iaload, 1) := by decide +kernel
theorem dX8_stepWithSeveralOfB_89 : decode cX8_stepWithSeveralOfB 89 = .ok (.isub, 1) := by decide +kernel
theorem dX8_stepWithSeveralOfB_90 : decode cX8_stepWithSeveralOfB 90 = .ok (.istore 8, 2) := by decide +kernel
theorem dX8_stepWithSeveralOfB_92 : decode cX8_stepWithSeveralOfB 92 = .ok (.iload 7, 2) := by decide +kernel
theorem dX8_stepWithSeveralOfB_94 : decode cX8_stepWithSeveralOfB 94 = .ok (.aload_n 0, 1) := by decide +kernel
theorem dX8_stepWithSeveralOfB_95 : decode cX8_stepWithSeveralOfB 95 = .ok (.getfield 71, 3) := by decide +kernel
theorem dX8_stepWithSeveralOfB_98 : decode cX8_stepWithSeveralOfB 98 = .ok (.iload 8, 2) := by decide +kernel
theorem dX8_stepWithSeveralOfB_100 : decode cX8_stepWithSeveralOfB 100 = .ok (.invokestatic 95, 3) := by decide +kernel
theorem dX8_stepWithSeveralOfB_103 : decode cX8_stepWithSeveralOfB 103 = .ok (.imul, 1) := by decide +kernel
theorem dX8_stepWithSeveralOfB_104 : decode cX8_stepWithSeveralOfB 104 = .ok (.iadd, 1) := by decide +kernel
theorem dX8_stepWithSeveralOfB_105 : decode cX8_stepWithSeveralOfB 105 = .ok (.istore 11, 2) := by decide +kernel
theorem dX8_stepWithSeveralOfB_107 : decode cX8_stepWithSeveralOfB 107 = .ok (.iload 11, 2) := by decide +kernel
theorem dX8_stepWithSeveralOfB_109 : decode cX8_stepWithSeveralOfB 109 = .ok (.aload 6, 2) := by decide +kernel
theorem dX8_stepWithSeveralOfB_111 : decode cX8_stepWithSeveralOfB 111 = .ok (.iload 10, 2) := by decide +kernel
theorem dX8_stepWithSeveralOfB_113 : decode cX8_stepWithSeveralOfB 113 = .ok (.iconst 1, 1) := by decide +kernel
theorem dX8_stepWithSeveralOfB_114 : decode cX8_stepWithSeveralOfB 114 = .ok (.iadd, 1) := by decide +kernel
theorem dX8_stepWithSeveralOfB_115 : decode cX8_stepWithSeveralOfB 115 = .ok (.iaload, 1) := by decide +kernel
theorem dX8_stepWithSeveralOfB_116 : decode cX8_stepWithSeveralOfB 116 = .ok (.if_icmp .ge 12, 3) := by decide +kernel
theorem dX8_stepWithSeveralOfB_119 : decode cX8_stepWithSeveralOfB 119 = .ok (.aload 6, 2) := by decide +kernel
theorem dX8_stepWithSeveralOfB_121 : decode cX8_stepWithSeveralOfB 121 = .ok (.iload 10, 2) := by decide +kernel
theorem dX8_stepWithSeveralOfB_123 : decode cX8_stepWithSeveralOfB 123 = .ok (.iconst 1, 1) := by decide +kernel
theorem dX8_stepWithSeveralOfB_124 : decode cX8_stepWithSeveralOfB 124 = .ok (.iadd, 1) := by decide +kernel
theorem dX8_stepWithSeveralOfB_125 : decode cX8_stepWithSeveralOfB 125 = .ok (.iload 11, 2) := by decide +kernel
theorem dX8_stepWithSeveralOfB_127 : decode cX8_stepWithSeveralOfB 127 = .ok (.iastore, 1) := by decide +kernel
theorem dX8_stepWithSeveralOfB_128 : decode cX8_stepWithSeveralOfB 128 = .ok (.iinc 10 1, 3) := by decide +kernel
theorem dX8_stepWithSeveralOfB_131 : decode cX8_stepWithSeveralOfB 131 = .ok (.goto (-77), 3) := by decide +kernel
theorem dX8_stepWithSeveralOfB_134 : decode cX8_stepWithSeveralOfB 134 = .ok (.return_, 1) := by decide +kernel
set_option maxRecDepth 20000 in
theorem ggX8_stepWithSeveralOfA_X8_offer : GoodIn wsX8_stepWithSeveralOfA wsX8_offer := goodIn_r _ [18, 1, 19, 20, 21, 22, 23, 24, 25, 26, 27, 28] (by decide +kernel) (by decide +kernel)
set_option maxRecDepth 20000 in
theorem gX8_stepWithSeveralOfA_X8_offer : GoodIn wsX8_stepWithSeveralOfA (wsV RX8 102 RX8 yX8_offer wsX8_offer) := goodIn_app (goodIn_of _ (by decide +kernel)) ggX8_stepWithSeveralOfA_X8_offer
theorem dX8_stepWithSeveralOfA_0 : decode cX8_stepWithSeveralOfA 0 = .ok (.aload_n 0, 1) := by decide +kernel
theorem dX8_stepWithSeveralOfA_1 : decode cX8_stepWithSeveralOfA 1 = .ok (.getfield 13, 3) := by decide +kernel
theorem dX8_stepWithSeveralOfA_4 : decode cX8_stepWithSeveralOfA 4 = .ok (.iload_n 3, 1) := by decide +kernel
theorem dX8_stepWithSeveralOfA_5 : decode cX8_stepWithSeveralOfA 5 = .ok (.aaload, 1) := by decide +kernel
theorem dX8_stepWithSeveralOfA_6 : decode cX8_stepWithSeveralOfA 6 = .ok (.iload 4, 2) := by decide +kernel
theorem dX8_stepWithSeveralOfA_8 : decode cX8_stepWithSeveralOfA 8 = .ok (.iaload, 1) := by decide +kernel
theorem dX8_stepWithSeveralOfA_9 : decode cX8_stepWithSeveralOfA 9 = .ok (.aload_n 0, 1) := by decide +kernel
theorem dX8_stepWithSeveralOfA_10 : decode cX8_stepWithSeveralOfA 10 = .ok (.getfield 18, 3) := by decide +kernel
theorem dX8_stepWithSeveralOfA_13 : decode cX8_stepWithSeveralOfA 13 = .ok (.iload_n 3, 1) := by decide +kernel
theorem dX8_stepWithSeveralOfA_14 : decode cX8_stepWithSeveralOfA 14 = .ok (.aaload, 1) := by decide +kernel
theorem dX8_stepWithSeveralOfA_15 : decode cX8_stepWithSeveralOfA 15 = .ok (.iload 4, 2) := by decide +kernel
theorem dX8_stepWithSeveralOfA_17 : decode cX8_stepWithSeveralOfA 17 = .ok (.iaload, 1) := by decide +kernel
theorem dX8_stepWithSeveralOfA_18 : decode cX8_stepWithSeveralOfA 18 = .ok (.iadd, 1) := by decide +kernel
theorem dX8_stepWithSeveralOfA_19 : decode cX8_stepWithSeveralOfA 19 = .ok (.istore 5, 2) := by decide +kernel
theorem dX8_stepWithSeveralOfA_21 : decode cX8_stepWithSeveralOfA 21 = .ok (.aload_n 2, 1) := by decide +kernel
theorem dX8_stepWithSeveralOfA_22 : decode cX8_stepWithSeveralOfA 22 = .ok (.getfield 99, 3) := by decide +kernel
theorem dX8_stepWithSeveralOfA_25 : decode cX8_stepWithSeveralOfA 25 = .ok (.iload 4, 2) := by decide +kernel
theorem dX8_stepWithSeveralOfA_27 : decode cX8_stepWithSeveralOfA 27 = .ok (.iaload, 1) := by decide +kernel
theorem dX8_stepWithSeveralOfA_28 : decode cX8_stepWithSeveralOfA 28 = .ok (.aload_n 1, 1) := by decide +kernel
theorem dX8_stepWithSeveralOfA_29 : decode cX8_stepWithSeveralOfA 29 = .ok (.getfield 99, 3) := by decide +kernel
theorem dX8_stepWithSeveralOfA_32 : decode cX8_stepWithSeveralOfA 32 = .ok (.iload_n 3, 1) := by decide +kernel
theorem dX8_stepWithSeveralOfA_33 : decode cX8_stepWithSeveralOfA 33 = .ok (.iaload, 1) := by decide +kernel
theorem dX8_stepWithSeveralOfA_34 : decode cX8_stepWithSeveralOfA 34 = .ok (.isub, 1) := by decide +kernel
theorem dX8_stepWithSeveralOfA_35 : decode cX8_stepWithSeveralOfA 35 = .ok (.istore 6, 2) := by decide +kernel
theorem dX8_stepWithSeveralOfA_37 : decode cX8_stepWithSeveralOfA 37 = .ok (.aload_n 1, 1) := by decide +kernel
theorem dX8_stepWithSeveralOfA_38 : decode cX8_stepWithSeveralOfA 38 = .ok (.getfield 40, 3) := by decide +kernel
theorem dX8_stepWithSeveralOfA_41 : decode cX8_stepWithSeveralOfA 41 = .ok (.iload_n 3, 1) := by decide +kernel
theorem dX8_stepWithSeveralOfA_42 : decode cX8_stepWithSeveralOfA 42 = .ok (.iconst 4, 1) := by decide +kernel
theorem dX8_stepWithSeveralOfA_43 : decode cX8_stepWithSeveralOfA 43 = .ok (.iadd, 1) := by decide +kernel
theorem dX8_stepWithSeveralOfA_44 : decode cX8_stepWithSeveralOfA 44 = .ok (.invokestatic 50, 3) := by decide +kernel
theorem dX8_stepWithSeveralOfA_47 : decode cX8_stepWithSeveralOfA 47 = .ok (.istore 7, 2) := by decide +kernel
theorem dX8_stepWithSeveralOfA_49 : decode cX8_stepWithSeveralOfA 49 = .ok (.iload_n 3, 1) := by decide +kernel
theorem dX8_stepWithSeveralOfA_50 : decode cX8_stepWithSeveralOfA 50 = .ok (.iconst 1, 1) := by decide +kernel
theorem dX8_stepWithSeveralOfA_51 : decode cX8_stepWithSeveralOfA 51 = .ok (.iadd, 1) := by decide +kernel
theorem dX8_stepWithSeveralOfA_52 : decode cX8_stepWithSeveralOfA 52 = .ok (.istore 8, 2) := by decide +kernel
theorem dX8_stepWithSeveralOfA_54 : decode cX8_stepWithSeveralOfA 54 = .ok (.iload 8, 2) := by decide +kernel
theorem dX8_stepWithSeveralOfA_56 : decode cX8_stepWithSeveralOfA 56 = .ok (.iload 7, 2) := by decide +kernel
theorem dX8_stepWithSeveralOfA_58 : decode cX8_stepWithSeveralOfA 58 = .ok (.if_icmp .ge 70, 3) := by decide +kernel
theorem dX8_stepWithSeveralOfA_61 : decode cX8_stepWithSeveralOfA 61 = .ok (.iload 5, 2) := by decide +kernel
theorem dX8_stepWithSeveralOfA_63 : decode cX8_stepWithSeveralOfA 63 = .ok (.aload_n 0, 1) := by decide +kernel
theorem dX8_stepWithSeveralOfA_64 : decode cX8_stepWithSeveralOfA 64 = .ok (.getfield 81, 3) := by decide +kernel
theorem dX8_stepWithSeveralOfA_67 : decode cX8_stepWithSeveralOfA 67 = .ok (.if_icmp .gt 61, 3) := by decide +kernel
theorem dX8_stepWithSeveralOfA_70 : decode cX8_stepWithSeveralOfA 70 = .ok (.iload 5, 2) := by decide +kernel
theorem dX8_stepWithSeveralOfA_72 : decode cX8_stepWithSeveralOfA 72 = .ok (.aload_n 0, 1) := by decide +kernel
theorem dX8_stepWithSeveralOfA_73 : decode cX8_stepWithSeveralOfA 73 = .ok (.getfield 18, 3) := by decide +kernel
theorem dX8_stepWithSeveralOfA_76 : decode cX8_stepWithSeveralOfA 76 = .ok (.iload 8, 2) := by decide +kernel
theorem dX8_stepWithSeveralOfA_78 : decode cX8_stepWithSeveralOfA 78 = .ok (.aaload, 1) := by decide +kernel
theorem dX8_stepWithSeveralOfA_79 : decode cX8_stepWithSeveralOfA 79 = .ok (.iload 4, 2) := by decide +kernel
theorem dX8_stepWithSeveralOfA_81 : decode cX8_stepWithSeveralOfA 81 = .ok (.iaload, 1) := by decide +kernel
theorem dX8_stepWithSeveralOfA_82 : decode cX8_stepWithSeveralOfA 82 = .ok (.iadd, 1) := by decide +kernel
theorem dX8_stepWithSeveralOfA_83 : decode cX8_stepWithSeveralOfA 83 = .ok (.istore 5, 2) := by decide +kernel
theorem dX8_stepWithSeveralOfA_85 : decode cX8_stepWithSeveralOfA 85 = .ok (.iload 6, 2) := by decide +kernel
theorem dX8_stepWithSeveralOfA_87 : decode cX8_stepWithSeveralOfA 87 = .ok (.aload_n 1, 1) := by decide +kernel
theorem dX8_stepWithSeveralOfA_88 : decode cX8_stepWithSeveralOfA 88 = .ok (.getfield 99, 3) := by decide +kernel
theorem dX8_stepWithSeveralOfA_91 : decode cX8_stepWithSeveralOfA 91 = .ok (.iload 8, 2) := by decide +kernel
theorem dX8_stepWithSeveralOfA_93 : decode cX8_stepWithSeveralOfA 93 = .ok (.iaload, 1) := by decide +kernel
theorem dX8_stepWithSeveralOfA_94 : decode cX8_stepWithSeveralOfA 94 = .ok (.isub, 1) := by decide +kernel
theorem dX8_stepWithSeveralOfA_95 : decode cX8_stepWithSeveralOfA 95 = .ok (.istore 6, 2) := by decide +kernel
theorem dX8_stepWithSeveralOfA_97 : decode cX8_stepWithSeveralOfA 97 = .ok (.aload_n 0, 1) := by decide +kernel
theorem dX8_stepWithSeveralOfA_98 : decode cX8_stepWithSeveralOfA 98 = .ok (.iload 8, 2) := by decide +kernel
theorem dX8_stepWithSeveralOfA_100 : decode cX8_stepWithSeveralOfA 100 = .ok (.iconst 1, 1) := by decide +kernel
theorem dX8_stepWithSeveralOfA_101 : decode cX8_stepWithSeveralOfA 101 = .ok (.iadd, 1) := by decide +kernel
theorem dX8_stepWithSeveralOfA_102 : decode cX8_stepWithSeveralOfA 102 = .ok (.iload 4, 2) := by decide +kernel
theorem dX8_stepWithSeveralOfA_104 : decode cX8_stepWithSeveralOfA 104 = .ok (.iconst 1, 1) := by decide +kernel
theorem dX8_stepWithSeveralOfA_105 : decode cX8_stepWithSeveralOfA 105 = .ok (.iadd, 1) := by decide +kernel
theorem dX8_stepWithSeveralOfA_106 : decode cX8_stepWithSeveralOfA 106 = .ok (.iload 5, 2) := by decide +kernel
theorem dX8_stepWithSeveralOfA_108 : decode cX8_stepWithSeveralOfA 108 = .ok (.aload_n 0, 1) := by decide +kernel
theorem dX8_stepWithSeveralOfA_109 : decode cX8_stepWithSeveralOfA 109 = .ok (.getfield 71, 3) := by decide +kernel
theorem dX8_stepWithSeveralOfA_112 : decode cX8_stepWithSeveralOfA 112 = .ok (.iload 6, 2) := by decide +kernel
theorem dX8_stepWithSeveralOfA_114 : decode cX8_stepWithSeveralOfA 114 = .ok (.invokestatic 95, 3) := by decide +kernel
theorem dX8_stepWithSeveralOfA_117 : decode cX8_stepWithSeveralOfA 117 = .ok (.imul, 1) := by decide +kernel
theorem dX8_stepWithSeveralOfA_118 : decode cX8_stepWithSeveralOfA 118 = .ok (.iadd, 1) := by decide +kernel
theorem dX8_stepWithSeveralOfA_119 : decode cX8_stepWithSeveralOfA 119 = .ok (.invokevirtual 102, 3) := by decide +kernel
theorem dX8_stepWithSeveralOfA_122 : decode cX8_stepWithSeveralOfA 122 = .ok (.iinc 8 1, 3) := by decide +kernel
theorem dX8_stepWithSeveralOfA_125 : decode cX8_stepWithSeveralOfA 125 = .ok (.goto (-71), 3) := by decide +kernel
theorem dX8_stepWithSeveralOfA_128 : decode cX8_stepWithSeveralOfA 128 = .ok (.return_, 1) := by decide +kernel
theorem dX8_offer_0 : decode cX8_offer 0 = .ok (.iload_n 3, 1) := by decide +kernel
theorem dX8_offer_1 : decode cX8_offer 1 = .ok (.aload_n 0, 1) := by decide +kernel
theorem dX8_offer_2 : decode cX8_offer 2 = .ok (.getfield 13, 3) := by decide +kernel
theorem dX8_offer_5 : decode cX8_offer 5 = .ok (.iload_n 1, 1) := by decide +kernel
theorem dX8_offer_6 : decode cX8_offer 6 = .ok (.aaload, 1) := by decide +kernel
theorem dX8_offer_7 : decode cX8_offer 7 = .ok (.iload_n 2, 1) := by decide +kernel
theorem dX8_offer_8 : decode cX8_offer 8 = .ok (.iaload, 1) := by decide +kernel
theorem dX8_offer_9 : decode cX8_offer 9 = .ok (.if_icmp .ge 12, 3) := by decide +kernel
theorem dX8_offer_12 : decode cX8_offer 12 = .ok (.aload_n 0, 1) := by decide +kernel
theorem dX8_offer_13 : decode cX8_offer 13 = .ok (.getfield 13, 3) := by decide +kernel
theorem dX8_offer_16 : decode cX8_offer 16 = .ok (.iload_n 1, 1) := by decide +kernel
theorem dX8_offer_17 : decode cX8_offer 17 = .ok (.aaload, 1) := by decide +kernel
theorem dX8_offer_18 : decode cX8_offer 18 = .ok (.iload_n 2, 1) := by decide +kernel
theorem dX8_offer_19 : decode cX8_offer 19 = .ok (.iload_n 3, 1) := by decide +kernel
theorem dX8_offer_20 : decode cX8_offer 20 = .ok (.iastore, 1) := by decide +kernel
theorem dX8_offer_21 : decode cX8_offer 21 = .ok (.return_, 1) := by decide +kernel
theorem dX9_init_0 : decode cX9_init 0 = .ok (.aload_n 0, 1) := by decide +kernel
theorem dX9_init_1 : decode cX9_init 1 = .ok (.invokespecial 3, 3) := by decide +kernel
theorem dX9_init_4 : decode cX9_init 4 = .ok (.aload_n 0, 1) := by decide +kernel
theorem dX9_init_5 : decode cX9_init 5 = .ok (.bipush 50, 2) := by decide +kernel
theorem dX9_init_7 : decode cX9_init 7 = .ok (.newarray .int, 2) := by decide +kernel
theorem dX9_init_9 : decode cX9_init 9 = .ok (.putfield 11, 3) := by decide +kernel
theorem dX9_init_12 : decode cX9_init 12 = .ok (.aload_n 0, 1) := by decide +kernel
theorem dX9_init_13 : decode cX9_init 13 = .ok (.bipush 50, 2) := by decide +kernel
theorem dX9_init_15 : decode cX9_init 15 = .ok (.newarray .int, 2) := by decide +kernel
theorem dX9_init_17 : decode cX9_init 17 = .ok (.putfield 15, 3) := by decide +kernel
theorem dX9_init_20 : decode cX9_init 20 = .ok (.aload_n 0, 1) := by decide +kernel
theorem dX9_init_21 : decode cX9_init 21 = .ok (.bipush 50, 2) := by decide +kernel
theorem dX9_init_23 : decode cX9_init 23 = .ok (.newarray .long, 2) := by decide +kernel
theorem dX9_init_25 : decode cX9_init 25 = .ok (.putfield 18, 3) := by decide +kernel
theorem dX9_init_28 : decode cX9_init 28 = .ok (.aload_n 0, 1) := by decide +kernel
theorem dX9_init_29 : decode cX9_init 29 = .ok (.bipush 24, 2) := by decide +kernel
theorem dX9_init_31 : decode cX9_init 31 = .ok (.newarray .long, 2) := by decide +kernel
theorem dX9_init_33 : decode cX9_init 33 = .ok (.putfield 22, 3) := by decide +kernel
theorem dX9_init_36 : decode cX9_init 36 = .ok (.return_, 1) := by decide +kernel
theorem dX9_isFull_0 : decode cX9_isFull 0 = .ok (.aload_n 0, 1) := by decide +kernel
theorem dX9_isFull_1 : decode cX9_isFull 1 = .ok (.getfield 25, 3) := by decide +kernel
theorem dX9_isFull_4 : decode cX9_isFull 4 = .ok (.bipush 50, 2) := by decide +kernel
theorem dX9_isFull_6 : decode cX9_isFull 6 = .ok (.if_icmp .lt 7, 3) := by decide +kernel
theorem dX9_isFull_9 : decode cX9_isFull 9 = .ok (.iconst 1, 1) := by decide +kernel
theorem dX9_isFull_10 : decode cX9_isFull 10 = .ok (.goto 4, 3) := by decide +kernel
theorem dX9_isFull_13 : decode cX9_isFull 13 = .ok (.iconst 0, 1) := by decide +kernel
theorem dX9_isFull_14 : decode cX9_isFull 14 = .ok (.ireturn, 1) := by decide +kernel
theorem dX9_addAtom_0 : decode cX9_addAtom 0 = .ok (.aload_n 0, 1) := by decide +kernel
theorem dX9_addAtom_1 : decode cX9_addAtom 1 = .ok (.getfield 11, 3) := by decide +kernel
theorem dX9_addAtom_4 : decode cX9_addAtom 4 = .ok (.aload_n 0, 1) := by decide +kernel
theorem dX9_addAtom_5 : decode cX9_addAtom 5 = .ok (.getfield 25, 3) := by decide +kernel
theorem dX9_addAtom_8 : decode cX9_addAtom 8 = .ok (.iload_n 1, 1) := by decide +kernel
theorem dX9_addAtom_9 : decode cX9_addAtom 9 = .ok (.iastore, 1) := by decide +kernel
theorem dX9_addAtom_10 : decode cX9_addAtom 10 = .ok (.aload_n 0, 1) := by decide +kernel
theorem dX9_addAtom_11 : decode cX9_addAtom 11 = .ok (.getfield 15, 3) := by decide +kernel
theorem dX9_addAtom_14 : decode cX9_addAtom 14 = .ok (.aload_n 0, 1) := by decide +kernel
theorem dX9_addAtom_15 : decode cX9_addAtom 15 = .ok (.getfield 25, 3) := by decide +kernel
theorem dX9_addAtom_18 : decode cX9_addAtom 18 = .ok (.iload_n 2, 1) := by decide +kernel
theorem dX9_addAtom_19 : decode cX9_addAtom 19 = .ok (.iastore, 1) := by decide +kernel
theorem dX9_addAtom_20 : decode cX9_addAtom 20 = .ok (.aload_n 0, 1) := by decide +kernel
theorem dX9_addAtom_21 : decode cX9_addAtom 21 = .ok (.getfield 18, 3) := by decide +kernel
theorem dX9_addAtom_24 : decode cX9_addAtom 24 = .ok (.aload_n 0, 1) := by decide +kernel
theorem dX9_addAtom_25 : decode cX9_addAtom 25 = .ok (.getfield 25, 3) := by decide +kernel
theorem dX9_addAtom_28 : decode cX9_addAtom 28 = .ok (.lconst 0, 1) := by decide +kernel
theorem dX9_addAtom_29 : decode cX9_addAtom 29 = .ok (.lastore, 1) := by decide +kernel
theorem dX9_addAtom_30 : decode cX9_addAtom 30 = .ok (.aload_n 0, 1) := by decide +kernel
theorem dX9_addAtom_31 : decode cX9_addAtom 31 = .ok (.dup, 1) := by decide +kernel
theorem dX9_addAtom_32 : decode cX9_addAtom 32 = .ok (.getfield 25, 3) := by decide +kernel
theorem dX9_addAtom_35 : decode cX9_addAtom 35 = .ok (.iconst 1, 1) := by decide +kernel
theorem dX9_addAtom_36 : decode cX9_addAtom 36 = .ok (.iadd, 1) := by decide +kernel
theorem dX9_addAtom_37 : decode cX9_addAtom 37 = .ok (.putfield 25, 3) := by decide +kernel
theorem dX9_addAtom_40 : decode cX9_addAtom 40 = .ok (.lconst 1, 1) := by decide +kernel
theorem dX9_addAtom_41 : decode cX9_addAtom 41 = .ok (.aload_n 0, 1) := by decide +kernel
theorem dX9_addAtom_42 : decode cX9_addAtom 42 = .ok (.getfield 25, 3) := by decide +kernel
theorem dX9_addAtom_45 : decode cX9_addAtom 45 = .ok (.iconst 1, 1) := by decide +kernel
theorem dX9_addAtom_46 : decode cX9_addAtom 46 = .ok (.isub, 1) := by decide +kernel
theorem dX9_addAtom_47 : decode cX9_addAtom 47 = .ok (.lshl, 1) := by decide +kernel
theorem dX9_addAtom_48 : decode cX9_addAtom 48 = .ok (.lreturn, 1) := by decide +kernel
theorem dX9_link_0 : decode cX9_link 0 = .ok (.iconst 0, 1) := by decide +kernel
theorem dX9_link_1 : decode cX9_link 1 = .ok (.istore 5, 2) := by decide +kernel
theorem dX9_link_3 : decode cX9_link 3 = .ok (.iload 5, 2) := by decide +kernel
theorem dX9_link_5 : decode cX9_link 5 = .ok (.aload_n 0, 1) := by decide +kernel
theorem dX9_link_6 : decode cX9_link 6 = .ok (.getfield 25, 3) := by decide +kernel
theorem dX9_link_9 : decode cX9_link 9 = .ok (.if_icmp .ge 31, 3) := by decide +kernel
theorem dX9_link_12 : decode cX9_link 12 = .ok (.lload_n 1, 1) := by decide +kernel
theorem dX9_link_13 : decode cX9_link 13 = .ok (.iload 5, 2) := by decide +kernel
theorem dX9_link_15 : decode cX9_link 15 = .ok (.lushr, 1) := by decide +kernel
theorem dX9_link_16 : decode cX9_link 16 = .ok (.lconst 1, 1) := by decide +kernel
theorem dX9_link_17 : decode cX9_link 17 = .ok (.land, 1) := by decide +kernel
theorem dX9_link_18 : decode cX9_link 18 = .ok (.lconst 0, 1) := by decide +kernel
theorem dX9_link_19 : decode cX9_link 19 = .ok (.lcmp, 1) := by decide +kernel
theorem dX9_link_20 : decode cX9_link 20 = .ok (.ifCond .eq 14, 3) := by decide +kernel
theorem dX9_link_23 : decode cX9_link 23 = .ok (.aload_n 0, 1) := by decide +kernel
theorem dX9_link_24 : decode cX9_link 24 = .ok (.getfield 18, 3) := by decide +kernel
theorem dX9_link_27 : decode cX9_link 27 = .ok (.iload 5, 2) := by decide +kernel
theorem dX9_link_29 : decode cX9_link 29 = .ok (.dup2, 1) := by decide +kernel
theorem dX9_link_30 : decode cX9_link 30 = .ok (.laload, 1) := by decide +kernel
theorem dX9_link_31 : decode cX9_link 31 = .ok (.lload_n 3, 1) := by decide +kernel
theorem dX9_link_32 : decode cX9_link 32 = .ok (.lor, 1) := by decide +kernel
theorem dX9_link_33 : decode cX9_link 33 = .ok (.lastore, 1) := by decide +kernel
theorem dX9_link_34 : decode cX9_link 34 = .ok (.iinc 5 1, 3) := by decide +kernel
theorem dX9_link_37 : decode cX9_link 37 = .ok (.goto (-34), 3) := by decide +kernel
theorem dX9_link_40 : decode cX9_link 40 = .ok (.return_, 1) := by decide +kernel
set_option maxRecDepth 20000 in
theorem ggX9_hold_X9_atomsFor : GoodIn wsX9_hold wsX9_atomsFor := goodIn_r _ [9, 10, 11, 12, 15, 16, 17, 18, 19, 20, 21, 22] (by decide +kernel) (by decide +kernel)
set_option maxRecDepth 20000 in
theorem gX9_hold_X9_atomsFor : GoodIn wsX9_hold (wsV RX9 40 RX9 yX9_atomsFor wsX9_atomsFor) := goodIn_app (goodIn_of _ (by decide +kernel)) ggX9_hold_X9_atomsFor
theorem dX9_hold_0 : decode cX9_hold 0 = .ok (.aload_n 0, 1) := by decide +kernel
theorem dX9_hold_1 : decode cX9_hold 1 = .ok (.aload_n 1, 1) := by decide +kernel
theorem dX9_hold_2 : decode cX9_hold 2 = .ok (.getfield 29, 3) := by decide +kernel
theorem dX9_hold_5 : decode cX9_hold 5 = .ok (.putfield 34, 3) := by decide +kernel
theorem dX9_hold_8 : decode cX9_hold 8 = .ok (.iconst 0, 1) := by decide +kernel
theorem dX9_hold_9 : decode cX9_hold 9 = .ok (.istore_n 2, 1) := by decide +kernel
theorem dX9_hold_10 : decode cX9_hold 10 = .ok (.iload_n 2, 1) := by decide +kernel
theorem dX9_hold_11 : decode cX9_hold 11 = .ok (.aload_n 0, 1) := by decide +kernel
theorem dX9_hold_12 : decode cX9_hold 12 = .ok (.getfield 34, 3) := by decide +kernel
theorem dX9_hold_15 : decode cX9_hold 15 = .ok (.if_icmp .ge 25, 3) := by decide +kernel
theorem dX9_hold_18 : decode cX9_hold 18 = .ok (.aload_n 0, 1) := by decide +kernel
theorem dX9_hold_19 : decode cX9_hold 19 = .ok (.getfield 22, 3) := by decide +kernel
theorem dX9_hold_22 : decode cX9_hold 22 = .ok (.iload_n 2, 1) := by decide +kernel
theorem dX9_hold_23 : decode cX9_hold 23 = .ok (.aload_n 0, 1) := by decide +kernel
theorem dX9_hold_24 : decode cX9_hold 24 = .ok (.aload_n 1, 1) := by decide +kernel
theorem dX9_hold_25 : decode cX9_hold 25 = .ok (.getfield 37, 3) := by decide +kernel
theorem dX9_hold_28 : decode cX9_hold 28 = .ok (.iload_n 2, 1) := by decide +kernel
theorem dX9_hold_29 : decode cX9_hold 29 = .ok (.iaload, 1) := by decide +kernel
theorem dX9_hold_30 : decode cX9_hold 30 = .ok (.invokevirtual 40, 3) := by decide +kernel
theorem dX9_hold_33 : decode cX9_hold 33 = .ok (.lastore, 1) := by decide +kernel
theorem dX9_hold_34 : decode cX9_hold 34 = .ok (.iinc 2 1, 3) := by decide +kernel
theorem dX9_hold_37 : decode cX9_hold 37 = .ok (.goto (-27), 3) := by decide +kernel
theorem dX9_hold_40 : decode cX9_hold 40 = .ok (.return_, 1) := by decide +kernel
theorem dX9_atomsFor_0 : decode cX9_atomsFor 0 = .ok (.lconst 0, 1) := by decide +kernel
theorem dX9_atomsFor_1 : decode cX9_atomsFor 1 = .ok (.lstore_n 2, 1) := by decide +kernel
theorem dX9_atomsFor_2 : decode cX9_atomsFor 2 = .ok (.iconst 0, 1) := by decide +kernel
theorem dX9_atomsFor_3 : decode cX9_atomsFor 3 = .ok (.istore 4, 2) := by decide +kernel
theorem dX9_atomsFor_5 : decode cX9_atomsFor 5 = .ok (.iload 4, 2) := by decide +kernel
theorem dX9_atomsFor_7 : decode cX9_atomsFor 7 = .ok (.aload_n 0, 1) := by decide +kernel
theorem dX9_atomsFor_8 : decode cX9_atomsFor 8 = .ok (.getfield 25, 3) := by decide +kernel
theorem dX9_atomsFor_11 : decode cX9_atomsFor 11 = .ok (.if_icmp .ge 38, 3) := by decide +kernel
theorem dX9_atomsFor_14 : decode cX9_atomsFor 14 = .ok (.aload_n 0, 1) := by decide +kernel
theorem dX9_atomsFor_15 : decode cX9_atomsFor 15 = .ok (.getfield 11, 3) := by decide +kernel
theorem dX9_atomsFor_18 : decode cX9_atomsFor 18 = .ok (.iload 4, 2) := by decide +kernel
theorem dX9_atomsFor_20 : decode cX9_atomsFor 20 = .ok (.iaload, 1) := by decide +kernel
theorem dX9_atomsFor_21 : decode cX9_atomsFor 21 = .ok (.iload_n 1, 1) := by decide +kernel
theorem dX9_atomsFor_22 : decode cX9_atomsFor 22 = .ok (.if_icmp .gt 21, 3) := by decide +kernel
theorem dX9_atomsFor_25 : decode cX9_atomsFor 25 = .ok (.iload_n 1, 1) := by decide +kernel
theorem dX9_atomsFor_26 : decode cX9_atomsFor 26 = .ok (.aload_n 0, 1) := by decide +kernel
theorem dX9_atomsFor_27 : decode cX9_atomsFor 27 = .ok (.getfield 15, 3) := by decide +kernel
theorem dX9_atomsFor_30 : decode cX9_atomsFor 30 = .ok (.iload 4, 2) := by decide +kernel
theorem dX9_atomsFor_32 : decode cX9_atomsFor 32 = .ok (.iaload, 1) := by decide +kernel
theorem dX9_atomsFor_33 : decode cX9_atomsFor 33 = .ok (.if_icmp .gt 10, 3) := by decide +kernel
theorem dX9_atomsFor_36 : decode cX9_atomsFor 36 = .ok (.lload_n 2, 1) := by decide +kernel
theorem dX9_atomsFor_37 : decode cX9_atomsFor 37 = .ok (.lconst 1, 1) := by decide +kernel
theorem dX9_atomsFor_38 : decode cX9_atomsFor 38 = .ok (.iload 4, 2) := by decide +kernel
theorem dX9_atomsFor_40 : decode cX9_atomsFor 40 = .ok (.lshl, 1) := by decide +kernel
theorem dX9_atomsFor_41 : decode cX9_atomsFor 41 = .ok (.lor, 1) := by decide +kernel
theorem dX9_atomsFor_42 : decode cX9_atomsFor 42 = .ok (.lstore_n 2, 1) := by decide +kernel
theorem dX9_atomsFor_43 : decode cX9_atomsFor 43 = .ok (.iinc 4 1, 3) := by decide +kernel
theorem dX9_atomsFor_46 : decode cX9_atomsFor 46 = .ok (.goto (-41), 3) := by decide +kernel
theorem dX9_atomsFor_49 : decode cX9_atomsFor 49 = .ok (.lload_n 2, 1) := by decide +kernel
theorem dX9_atomsFor_50 : decode cX9_atomsFor 50 = .ok (.lreturn, 1) := by decide +kernel
set_option maxRecDepth 20000 in
theorem ggX9_longestFrom_X9_followers : GoodIn wsX9_longestFrom wsX9_followers := goodIn_r _ [9, 10, 11, 12, 13, 14, 15, 16, 17, 18, 19] (by decide +kernel) (by decide +kernel)
set_option maxRecDepth 20000 in
theorem gX9_longestFrom_X9_followers : GoodIn wsX9_longestFrom (wsV RX9 51 RX9 yX9_followers wsX9_followers) := goodIn_app (goodIn_of _ (by decide +kernel)) ggX9_longestFrom_X9_followers
theorem dX9_longestFrom_0 : decode cX9_longestFrom 0 = .ok (.iconst 0, 1) := by decide +kernel
theorem dX9_longestFrom_1 : decode cX9_longestFrom 1 = .ok (.istore_n 2, 1) := by decide +kernel
theorem dX9_longestFrom_2 : decode cX9_longestFrom 2 = .ok (.aload_n 0, 1) := by decide +kernel
theorem dX9_longestFrom_3 : decode cX9_longestFrom 3 = .ok (.getfield 44, 3) := by decide +kernel
theorem dX9_longestFrom_6 : decode cX9_longestFrom 6 = .ok (.lstore_n 3, 1) := by decide +kernel
theorem dX9_longestFrom_7 : decode cX9_longestFrom 7 = .ok (.iload_n 1, 1) := by decide +kernel
theorem dX9_longestFrom_8 : decode cX9_longestFrom 8 = .ok (.istore 5, 2) := by decide +kernel
theorem dX9_longestFrom_10 : decode cX9_longestFrom 10 = .ok (.iload 5, 2) := by decide +kernel
theorem dX9_longestFrom_12 : decode cX9_longestFrom 12 = .ok (.aload_n 0, 1) := by decide +kernel
theorem dX9_longestFrom_13 : decode cX9_longestFrom 13 = .ok (.getfield 34, 3) := by decide +kernel
theorem dX9_longestFrom_16 : decode cX9_longestFrom 16 = .ok (.if_icmp .ge 52, 3) := by decide +kernel
theorem dX9_longestFrom_19 : decode cX9_longestFrom 19 = .ok (.lload_n 3, 1) := by decide +kernel
theorem dX9_longestFrom_20 : decode cX9_longestFrom 20 = .ok (.lconst 0, 1) := by decide +kernel
theorem dX9_longestFrom_21 : decode cX9_longestFrom 21 = .ok (.lcmp, 1) := by decide +kernel
theorem dX9_longestFrom_22 : decode cX9_longestFrom 22 = .ok (.ifCond .eq 46, 3) := by decide +kernel
theorem dX9_longestFrom_25 : decode cX9_longestFrom 25 = .ok (.lload_n 3, 1) := by decide +kernel
theorem dX9_longestFrom_26 : decode cX9_longestFrom 26 = .ok (.aload_n 0, 1) := by decide +kernel
theorem dX9_longestFrom_27 : decode cX9_longestFrom 27 = .ok (.getfield 22, 3) := by decide +kernel
theorem dX9_longestFrom_30 : decode cX9_longestFrom 30 = .ok (.iload 5, 2) := by decide +kernel
theorem dX9_longestFrom_32 : decode cX9_longestFrom 32 = .ok (.laload, 1) := by decide +kernel
theorem dX9_longestFrom_33 : decode cX9_longestFrom 33 = .ok (.land, 1) := by decide +kernel
theorem dX9_longestFrom_34 : decode cX9_longestFrom 34 = .ok (.lstore 6, 2) := by decide +kernel
theorem dX9_longestFrom_36 : decode cX9_longestFrom 36 = .ok (.lload 6, 2) := by decide +kernel
theorem dX9_longestFrom_38 : decode cX9_longestFrom 38 = .ok (.aload_n 0, 1) := by decide +kernel
theorem dX9_longestFrom_39 : decode cX9_longestFrom 39 = .ok (.getfield 48, 3) := by decide +kernel
theorem dX9_longestFrom_42 : decode cX9_longestFrom 42 = .ok (.land, 1) := by decide +kernel
theorem dX9_longestFrom_43 : decode cX9_longestFrom 43 = .ok (.lconst 0, 1) := by decide +kernel
theorem dX9_longestFrom_44 : decode cX9_longestFrom 44 = .ok (.lcmp, 1) := by decide +kernel
theorem dX9_longestFrom_45 : decode cX9_longestFrom 45 = .ok (.ifCond .eq 10, 3) := by decide +kernel
theorem dX9_longestFrom_48 : decode cX9_longestFrom 48 = .ok (.iload 5, 2) := by decide +kernel
theorem dX9_longestFrom_50 : decode cX9_longestFrom 50 = .ok (.iload_n 1, 1) := by decide +kernel
theorem dX9_longestFrom_51 : decode cX9_longestFrom 51 = .ok (.isub, 1) := by decide +kernel
theorem dX9_longestFrom_52 : decode cX9_longestFrom 52 = .ok (.iconst 1, 1) := by decide +kernel
theorem dX9_longestFrom_53 : decode cX9_longestFrom 53 = .ok (.iadd, 1) := by decide +kernel
theorem dX9_longestFrom_54 : decode cX9_longestFrom 54 = .ok (.istore_n 2, 1) := by decide +kernel
theorem dX9_longestFrom_55 : decode cX9_longestFrom 55 = .ok (.aload_n 0, 1) := by decide +kernel
theorem dX9_longestFrom_56 : decode cX9_longestFrom 56 = .ok (.lload 6, 2) := by decide +kernel
theorem dX9_longestFrom_58 : decode cX9_longestFrom 58 = .ok (.invokevirtual 51, 3) := by decide +kernel
theorem dX9_longestFrom_61 : decode cX9_longestFrom 61 = .ok (.lstore_n 3, 1) := by decide +kernel
theorem dX9_longestFrom_62 : decode cX9_longestFrom 62 = .ok (.iinc 5 1, 3) := by decide +kernel
theorem dX9_longestFrom_65 : decode cX9_longestFrom 65 = .ok (.goto (-55), 3) := by decide +kernel
theorem dX9_longestFrom_68 : decode cX9_longestFrom 68 = .ok (.iload_n 2, 1) := by decide +kernel
theorem dX9_longestFrom_69 : decode cX9_longestFrom 69 = .ok (.ireturn, 1) := by decide +kernel
theorem dX9_followers_0 : decode cX9_followers 0 = .ok (.lconst 0, 1) := by decide +kernel
theorem dX9_followers_1 : decode cX9_followers 1 = .ok (.lstore_n 3, 1) := by decide +kernel
theorem dX9_followers_2 : decode cX9_followers 2 = .ok (.iconst 0, 1) := by decide +kernel
theorem dX9_followers_3 : decode cX9_followers 3 = .ok (.istore 5, 2) := by decide +kernel
theorem dX9_followers_5 : decode cX9_followers 5 = .ok (.iload 5, 2) := by decide +kernel
theorem dX9_followers_7 : decode cX9_followers 7 = .ok (.aload_n 0, 1) := by decide +kernel
theorem dX9_followers_8 : decode cX9_followers 8 = .ok (.getfield 25, 3) := by decide +kernel
theorem dX9_followers_11 : decode cX9_followers 11 = .ok (.if_icmp .ge 39, 3) := by decide +kernel
theorem dX9_followers_14 : decode cX9_followers 14 = .ok (.lload_n 1, 1) := by decide +kernel
theorem dX9_followers_15 : decode cX9_followers 15 = .ok (.iload 5, 2) := by decide +kernel
theorem dX9_followers_17 : decode cX9_followers 17 = .ok (.lushr, 1) := by decide +kernel
theorem dX9_followers_18 : decode cX9_followers 18 = .ok (.lconst 0, 1) := by decide +kernel
theorem dX9_followers_19 : decode cX9_followers 19 = .ok (.lcmp, 1) := by decide +kernel
theorem dX9_followers_20 : decode cX9_followers 20 = .ok (.ifCond .eq 30, 3) := by decide +kernel
theorem dX9_followers_23 : decode cX9_followers 23 = .ok (.lload_n 1, 1) := by decide +kernel
theorem dX9_followers_24 : decode cX9_followers 24 = .ok (.iload 5, 2) := by decide +kernel
theorem dX9_followers_26 : decode cX9_followers 26 = .ok (.lushr, 1) := by decide +kernel
theorem dX9_followers_27 : decode cX9_followers 27 = .ok (.lconst 1, 1) := by decide +kernel
theorem dX9_followers_28 : decode cX9_followers 28 = .ok (.land, 1) := by decide +kernel
theorem dX9_followers_29 : decode cX9_followers 29 = .ok (.lconst 0, 1) := by decide +kernel
theorem dX9_followers_30 : decode cX9_followers 30 = .ok (.lcmp, 1) := by decide +kernel
theorem dX9_followers_31 : decode cX9_followers 31 = .ok (.ifCond .eq 13, 3) := by decide +kernel
theorem dX9_followers_34 : decode cX9_followers 34 = .ok (.lload_n 3, 1) := by decide +kernel
theorem dX9_followers_35 : decode cX9_followers 35 = .ok (.aload_n 0, 1) := by decide +kernel
theorem dX9_followers_36 : decode cX9_followers 36 = .ok (.getfield 18, 3) := by decide +kernel
theorem dX9_followers_39 : decode cX9_followers 39 = .ok (.iload 5, 2) := by decide +kernel
theorem dX9_followers_41 : decode cX9_followers 41 = .ok (.laload, 1) := by decide +kernel
theorem dX9_followers_42 : decode cX9_followers 42 = .ok (.lor, 1) := by decide +kernel
theorem dX9_followers_43 : decode cX9_followers 43 = .ok (.lstore_n 3, 1) := by decide +kernel
theorem dX9_followers_44 : decode cX9_followers 44 = .ok (.iinc 5 1, 3) := by decide +kernel
theorem dX9_followers_47 : decode cX9_followers 47 = .ok (.goto (-42), 3) := by decide +kernel
theorem dX9_followers_50 : decode cX9_followers 50 = .ok (.lload_n 3, 1) := by decide +kernel
theorem dX9_followers_51 : decode cX9_followers 51 = .ok (.lreturn, 1) := by decide +kernel
set_option maxRecDepth 20000 in
theorem ggX10_init_X2_init : GoodIn wsX10_init wsX2_init := goodIn_r _ [9, 10, 2, 3, 11, 12, 13, 14, 15, 16, 17, 18, 19, 33, 34, 35, 29, 30, 31, 32] (by decide +kernel) (by decide +kernel)
set_option maxRecDepth 20000 in
theorem gX10_init_X2_init_n15 : GoodIn wsX10_init (wsX2_init) := ggX10_init_X2_init
theorem dX10_init_0 : decode cX10_init 0 = .ok (.aload_n 0, 1) := by decide +kernel
theorem dX10_init_1 : decode cX10_init 1 = .ok (.invokespecial 1, 3) := by decide +kernel
theorem dX10_init_4 : decode cX10_init 4 = .ok (.aload_n 0, 1) := by decide +kernel
theorem dX10_init_5 : decode cX10_init 5 = .ok (.bipush 9, 2) := by decide +kernel
theorem dX10_init_7 : decode cX10_init 7 = .ok (.anewarray 9, 3) := by decide +kernel
theorem dX10_init_10 : decode cX10_init 10 = .ok (.putfield 11, 3) := by decide +kernel
theorem dX10_init_13 : decode cX10_init 13 = .ok (.iconst 0, 1) := by decide +kernel
theorem dX10_init_14 : decode cX10_init 14 = .ok (.istore_n 1, 1) := by decide +kernel
theorem dX10_init_15 : decode cX10_init 15 = .ok (.iload_n 1, 1) := by decide +kernel
theorem dX10_init_16 : decode cX10_init 16 = .ok (.bipush 8, 2) := by decide +kernel
theorem dX10_init_18 : decode cX10_init 18 = .ok (.if_icmp .gt 22, 3) := by decide +kernel
theorem dX10_init_21 : decode cX10_init 21 = .ok (.aload_n 0, 1) := by decide +kernel
theorem dX10_init_22 : decode cX10_init 22 = .ok (.getfield 11, 3) := by decide +kernel
theorem dX10_init_25 : decode cX10_init 25 = .ok (.iload_n 1, 1) := by decide +kernel
theorem dX10_init_26 : decode cX10_init 26 = .ok (.new 9, 3) := by decide +kernel
theorem dX10_init_29 : decode cX10_init 29 = .ok (.dup, 1) := by decide +kernel
theorem dX10_init_30 : decode cX10_init 30 = .ok (.invokespecial 15, 3) := by decide +kernel
theorem dX10_init_33 : decode cX10_init 33 = .ok (.aastore, 1) := by decide +kernel
theorem dX10_init_34 : decode cX10_init 34 = .ok (.iinc 1 1, 3) := by decide +kernel
theorem dX10_init_37 : decode cX10_init 37 = .ok (.goto (-22), 3) := by decide +kernel
theorem dX10_init_40 : decode cX10_init 40 = .ok (.return_, 1) := by decide +kernel
set_option maxRecDepth 20000 in
theorem ggX10_read_X2_begin : GoodIn wsX10_read wsX2_begin := goodIn_r _ [16, 17, 18, 19, 20, 21, 22, 23, 24, 25, 26, 27, 28, 144, 145, 146, 147, 148, 149, 150] (by decide +kernel) (by decide +kernel)
set_option maxRecDepth 20000 in
theorem gX10_read_X2_begin : GoodIn wsX10_read (wsV RX10 31 RX2 yX2_begin wsX2_begin) := goodIn_app (goodIn_of _ (by decide +kernel)) ggX10_read_X2_begin
set_option maxRecDepth 20000 in
theorem ggX10_read_X10_readToken : GoodIn wsX10_read wsX10_readToken := goodIn_r _ [33, 2, 34, 35, 36, 6, 37, 38, 39, 40, 41, 42, 43, 44, 45, 46, 32, 47, 48, 49, 50, 51, 135, 136, 137, 138, 139, 140, 141, 142, 143, 151, 152] (by decide +kernel) (by decide +kernel)
set_option maxRecDepth 20000 in
theorem gX10_read_X10_readToken : GoodIn wsX10_read (wsV RX10 36 RX10 yX10_readToken wsX10_readToken) := goodIn_app (goodIn_of _ (by decide +kernel)) ggX10_read_X10_readToken
set_option maxRecDepth 20000 in
theorem ggX10_read_X10_take : GoodIn wsX10_read wsX10_take := goodIn_r _ [55, 6, 4, 48, 5, 3, 56, 57, 58, 32, 59, 60, 61, 62, 63, 64, 65, 66, 67, 68, 69, 70, 71, 72, 73, 74, 75, 76, 77, 78, 79, 80, 15, 81, 18, 82, 19, 83, 20, 84, 85, 86, 87, 88, 89, 90, 91, 24, 92, 26, 27, 28, 21, 22, 23, 25, 93, 94, 95, 96, 97, 98, 99, 100, 101, 102, 103, 104, 105, 106, 107, 12, 13, 14, 16, 17, 108, 109, 110, 111, 7, 112, 8, 10, 113, 114, 115, 116, 117, 118, 119, 120, 121, 122, 123, 124, 125, 126, 135, 136, 137, 138, 139, 140, 141, 142, 143, 144, 145, 146, 147, 127, 128, 129, 130, 131, 132, 133, 134, 148, 149, 150] (by decide +kernel) (by decide +kernel)
set_option maxRecDepth 20000 in
theorem gX10_read_X10_take : GoodIn wsX10_read (wsV RX10 40 RX10 yX10_take wsX10_take) := goodIn_app (goodIn_of _ (by decide +kernel)) ggX10_read_X10_take
set_option maxRecDepth 20000 in
theorem ggX10_read_X2_closeSeq : GoodIn wsX10_read wsX2_closeSeq := goodIn_r _ [116, 17, 18, 117, 79, 80, 15, 81, 82, 19, 83, 20, 84, 85, 86, 75, 87, 77, 88, 89, 90, 91, 24, 92, 26, 27, 28, 21, 22, 23, 25, 118, 119, 120, 121, 144, 145, 146, 147, 148, 149, 150, 127, 128, 129, 130, 131, 132, 133, 134] (by decide +kernel) (by decide +kernel)
set_option maxRecDepth 20000 in
theorem gX10_read_X2_closeSeq : GoodIn wsX10_read (wsV RX10 47 RX2 yX2_closeSeq wsX2_closeSeq) := goodIn_app (goodIn_of _ (by decide +kernel)) ggX10_read_X2_closeSeq
theorem dX10_read_0 : decode cX10_read 0 = .ok (.aload_n 2, 1) := by decide +kernel
theorem dX10_read_1 : decode cX10_read 1 = .ok (.iconst 0, 1) := by decide +kernel
theorem dX10_read_2 : decode cX10_read 2 = .ok (.putfield 16, 3) := by decide +kernel
theorem dX10_read_5 : decode cX10_read 5 = .ok (.aload_n 0, 1) := by decide +kernel
theorem dX10_read_6 : decode cX10_read 6 = .ok (.iconst 0, 1) := by decide +kernel
theorem dX10_read_7 : decode cX10_read 7 = .ok (.putfield 22, 3) := by decide +kernel
theorem dX10_read_10 : decode cX10_read 10 = .ok (.aload_n 0, 1) := by decide +kernel
theorem dX10_read_11 : decode cX10_read 11 = .ok (.iconst 0, 1) := by decide +kernel
theorem dX10_read_12 : decode cX10_read 12 = .ok (.putfield 25, 3) := by decide +kernel
theorem dX10_read_15 : decode cX10_read 15 = .ok (.aload_n 0, 1) := by decide +kernel
theorem dX10_read_16 : decode cX10_read 16 = .ok (.iconst 0, 1) := by decide +kernel
theorem dX10_read_17 : decode cX10_read 17 = .ok (.putfield 28, 3) := by decide +kernel
theorem dX10_read_20 : decode cX10_read 20 = .ok (.aload_n 0, 1) := by decide +kernel
theorem dX10_read_21 : decode cX10_read 21 = .ok (.getfield 11, 3) := by decide +kernel
theorem dX10_read_24 : decode cX10_read 24 = .ok (.iconst 0, 1) := by decide +kernel
theorem dX10_read_25 : decode cX10_read 25 = .ok (.aaload, 1) := by decide +kernel
theorem dX10_read_26 : decode cX10_read 26 = .ok (.invokevirtual 31, 3) := by decide +kernel
theorem dX10_read_29 : decode cX10_read 29 = .ok (.iconst 0, 1) := by decide +kernel
theorem dX10_read_30 : decode cX10_read 30 = .ok (.istore_n 3, 1) := by decide +kernel
theorem dX10_read_31 : decode cX10_read 31 = .ok (.iload_n 3, 1) := by decide +kernel
theorem dX10_read_32 : decode cX10_read 32 = .ok (.sipush 160, 3) := by decide +kernel
theorem dX10_read_35 : decode cX10_read 35 = .ok (.if_icmp .gt 39, 3) := by decide +kernel
theorem dX10_read_38 : decode cX10_read 38 = .ok (.aload_n 0, 1) := by decide +kernel
theorem dX10_read_39 : decode cX10_read 39 = .ok (.aload_n 1, 1) := by decide +kernel
theorem dX10_read_40 : decode cX10_read 40 = .ok (.invokevirtual 36, 3) := by decide +kernel
theorem dX10_read_43 : decode cX10_read 43 = .ok (.aload_n 0, 1) := by decide +kernel
theorem dX10_read_44 : decode cX10_read 44 = .ok (.aload_n 2, 1) := by decide +kernel
theorem dX10_read_45 : decode cX10_read 45 = .ok (.invokevirtual 40, 3) := by decide +kernel
theorem dX10_read_48 : decode cX10_read 48 = .ok (.istore 4, 2) := by decide +kernel
theorem dX10_read_50 : decode cX10_read 50 = .ok (.iload 4, 2) := by decide +kernel
theorem dX10_read_52 : decode cX10_read 52 = .ok (.ifCond .eq 6, 3) := by decide +kernel
theorem dX10_read_55 : decode cX10_read 55 = .ok (.iload 4, 2) := by decide +kernel
theorem dX10_read_57 : decode cX10_read 57 = .ok (.ireturn, 1) := by decide +kernel
theorem dX10_read_58 : decode cX10_read 58 = .ok (.aload_n 0, 1) := by decide +kernel
theorem dX10_read_59 : decode cX10_read 59 = .ok (.getfield 44, 3) := by decide +kernel
theorem dX10_read_62 : decode cX10_read 62 = .ok (.ifCond .ne 6, 3) := by decide +kernel
theorem dX10_read_65 : decode cX10_read 65 = .ok (.goto 9, 3) := by decide +kernel
theorem dX10_read_68 : decode cX10_read 68 = .ok (.iinc 3 1, 3) := by decide +kernel
theorem dX10_read_71 : decode cX10_read 71 = .ok (.goto (-40), 3) := by decide +kernel
theorem dX10_read_74 : decode cX10_read 74 = .ok (.aload_n 0, 1) := by decide +kernel
theorem dX10_read_75 : decode cX10_read 75 = .ok (.getfield 11, 3) := by decide +kernel
theorem dX10_read_78 : decode cX10_read 78 = .ok (.iconst 0, 1) := by decide +kernel
theorem dX10_read_79 : decode cX10_read 79 = .ok (.aaload, 1) := by decide +kernel
theorem dX10_read_80 : decode cX10_read 80 = .ok (.aload_n 2, 1) := by decide +kernel
theorem dX10_read_81 : decode cX10_read 81 = .ok (.invokevirtual 47, 3) := by decide +kernel
theorem dX10_read_84 : decode cX10_read 84 = .ok (.aload_n 2, 1) := by decide +kernel
theorem dX10_read_85 : decode cX10_read 85 = .ok (.aload_n 0, 1) := by decide +kernel
theorem dX10_read_86 : decode cX10_read 86 = .ok (.getfield 11, 3) := by decide +kernel
theorem dX10_read_89 : decode cX10_read 89 = .ok (.iconst 0, 1) := by decide +kernel
theorem dX10_read_90 : decode cX10_read 90 = .ok (.aaload, 1) := by decide +kernel
theorem dX10_read_91 : decode cX10_read 91 = .ok (.getfield 51, 3) := by decide +kernel
theorem dX10_read_94 : decode cX10_read 94 = .ok (.getfield 55, 3) := by decide +kernel
theorem dX10_read_97 : decode cX10_read 97 = .ok (.putfield 61, 3) := by decide +kernel
theorem dX10_read_100 : decode cX10_read 100 = .ok (.aload_n 2, 1) := by decide +kernel
theorem dX10_read_101 : decode cX10_read 101 = .ok (.aload_n 0, 1) := by decide +kernel
theorem dX10_read_102 : decode cX10_read 102 = .ok (.getfield 11, 3) := by decide +kernel
theorem dX10_read_105 : decode cX10_read 105 = .ok (.iconst 0, 1) := by decide +kernel
theorem dX10_read_106 : decode cX10_read 106 = .ok (.aaload, 1) := by decide +kernel
theorem dX10_read_107 : decode cX10_read 107 = .ok (.getfield 51, 3) := by decide +kernel
theorem dX10_read_110 : decode cX10_read 110 = .ok (.getfield 62, 3) := by decide +kernel
theorem dX10_read_113 : decode cX10_read 113 = .ok (.putfield 65, 3) := by decide +kernel
theorem dX10_read_116 : decode cX10_read 116 = .ok (.iconst 0, 1) := by decide +kernel
theorem dX10_read_117 : decode cX10_read 117 = .ok (.ireturn, 1) := by decide +kernel
set_option maxRecDepth 20000 in
theorem ggX10_readToken_X7_hasDigitAt : GoodIn wsX10_readToken wsX7_hasDigitAt := goodIn_r _ [10, 11, 12, 31, 32] (by decide +kernel) (by decide +kernel)
set_option maxRecDepth 20000 in
theorem gX10_readToken_X7_hasDigitAt : GoodIn wsX10_readToken (wsV RX10 76 RX7 yX7_hasDigitAt wsX7_hasDigitAt) := goodIn_app (goodIn_of _ (by decide +kernel)) ggX10_readToken_X7_hasDigitAt
set_option maxRecDepth 20000 in
theorem ggX10_readToken_X10_readNumber : GoodIn wsX10_readToken wsX10_readNumber := goodIn_r _ [17, 1, 2, 3, 5, 18, 6, 7, 8, 9, 10, 11, 12, 22, 23, 24, 25, 26, 27, 28, 29, 30, 31, 32] (by decide +kernel) (by decide +kernel)
set_option maxRecDepth 20000 in
theorem gX10_readToken_X10_readNumber : GoodIn wsX10_readToken (wsV RX10 80 RX10 yX10_readNumber wsX10_readNumber) := goodIn_app (goodIn_of _ (by decide +kernel)) ggX10_readToken_X10_readNumber
set_option maxRecDepth 20000 in
theorem ggX10_readToken_X10_markOrNone : GoodIn wsX10_readToken wsX10_markOrNone := goodIn_r _ [21] (by decide +kernel) (by decide +kernel)
set_option maxRecDepth 20000 in
theorem gX10_readToken_X10_markOrNone : GoodIn wsX10_readToken (va_wsS RX10 84 yX10_markOrNone wsX10_markOrNone) := goodIn_app (goodIn_of _ (by decide +kernel)) ggX10_readToken_X10_markOrNone
theorem dX10_readToken_0 : decode cX10_readToken 0 = .ok (.aload_n 0, 1) := by decide +kernel
theorem dX10_readToken_1 : decode cX10_readToken 1 = .ok (.getfield 22, 3) := by decide +kernel
theorem dX10_readToken_4 : decode cX10_readToken 4 = .ok (.aload_n 1, 1) := by decide +kernel
theorem dX10_readToken_5 : decode cX10_readToken 5 = .ok (.getfield 66, 3) := by decide +kernel
theorem dX10_readToken_8 : decode cX10_readToken 8 = .ok (.if_icmp .ge 30, 3) := by decide +kernel
theorem dX10_readToken_11 : decode cX10_readToken 11 = .ok (.aload_n 1, 1) := by decide +kernel
theorem dX10_readToken_12 : decode cX10_readToken 12 = .ok (.getfield 69, 3) := by decide +kernel
theorem dX10_readToken_15 : decode cX10_readToken 15 = .ok (.aload_n 0, 1) := by decide +kernel
theorem dX10_readToken_16 : decode cX10_readToken 16 = .ok (.getfield 22, 3) := by decide +kernel
theorem dX10_readToken_19 : decode cX10_readToken 19 = .ok (.iaload, 1) := by decide +kernel
theorem dX10_readToken_20 : decode cX10_readToken 20 = .ok (.bipush 32, 2) := by decide +kernel
theorem dX10_readToken_22 : decode cX10_readToken 22 = .ok (.if_icmp .ne 16, 3) := by decide +kernel
theorem dX10_readToken_25 : decode cX10_readToken 25 = .ok (.aload_n 0, 1) := by decide +kernel
theorem dX10_readToken_26 : decode cX10_readToken 26 = .ok (.dup, 1) := by decide +kernel
theorem dX10_readToken_27 : decode cX10_readToken 27 = .ok (.getfield 22, 3) := by decide +kernel
theorem dX10_readToken_30 : decode cX10_readToken 30 = .ok (.iconst 1, 1) := by decide +kernel
theorem dX10_readToken_31 : decode cX10_readToken 31 = .ok (.iadd, 1) := by decide +kernel
theorem dX10_readToken_32 : decode cX10_readToken 32 = .ok (.putfield 22, 3) := by decide +kernel
theorem dX10_readToken_35 : decode cX10_readToken 35 = .ok (.goto (-35), 3) := by decide +kernel
theorem dX10_readToken_38 : decode cX10_readToken 38 = .ok (.aload_n 0, 1) := by decide +kernel
theorem dX10_readToken_39 : decode cX10_readToken 39 = .ok (.aload_n 0, 1) := by decide +kernel
theorem dX10_readToken_40 : decode cX10_readToken 40 = .ok (.getfield 22, 3) := by decide +kernel
theorem dX10_readToken_43 : decode cX10_readToken 43 = .ok (.putfield 73, 3) := by decide +kernel
theorem dX10_readToken_46 : decode cX10_readToken 46 = .ok (.aload_n 0, 1) := by decide +kernel
theorem dX10_readToken_47 : decode cX10_readToken 47 = .ok (.getfield 22, 3) := by decide +kernel
theorem dX10_readToken_50 : decode cX10_readToken 50 = .ok (.aload_n 1, 1) := by decide +kernel
theorem dX10_readToken_51 : decode cX10_readToken 51 = .ok (.getfield 66, 3) := by decide +kernel
theorem dX10_readToken_54 : decode cX10_readToken 54 = .ok (.if_icmp .lt 9, 3) := by decide +kernel
theorem dX10_readToken_57 : decode cX10_readToken 57 = .ok (.aload_n 0, 1) := by decide +kernel
theorem dX10_readToken_58 : decode cX10_readToken 58 = .ok (.iconst 0, 1) := by decide +kernel
theorem dX10_readToken_59 : decode cX10_readToken 59 = .ok (.putfield 44, 3) := by decide +kernel
theorem dX10_readToken_62 : decode cX10_readToken 62 = .ok (.return_, 1) := by decide +kernel
theorem dX10_readToken_63 : decode cX10_readToken 63 = .ok (.aload_n 1, 1) := by decide +kernel
theorem dX10_readToken_64 : decode cX10_readToken 64 = .ok (.getfield 69, 3) := by decide +kernel
theorem dX10_readToken_67 : decode cX10_readToken 67 = .ok (.aload_n 0, 1) := by decide +kernel
theorem dX10_readToken_68 : decode cX10_readToken 68 = .ok (.getfield 22, 3) := by decide +kernel
theorem dX10_readToken_71 : decode cX10_readToken 71 = .ok (.iaload, 1) := by decide +kernel
theorem dX10_readToken_72 : decode cX10_readToken 72 = .ok (.bipush 45, 2) := by decide +kernel
theorem dX10_readToken_74 : decode cX10_readToken 74 = .ok (.if_icmp .ne 7, 3) := by decide +kernel
theorem dX10_readToken_77 : decode cX10_readToken 77 = .ok (.iconst 1, 1) := by decide +kernel
theorem dX10_readToken_78 : decode cX10_readToken 78 = .ok (.goto 4, 3) := by decide +kernel
theorem dX10_readToken_81 : decode cX10_readToken 81 = .ok (.iconst 0, 1) := by decide +kernel
theorem dX10_readToken_82 : decode cX10_readToken 82 = .ok (.istore_n 2, 1) := by decide +kernel
theorem dX10_readToken_83 : decode cX10_readToken 83 = .ok (.aload_n 1, 1) := by decide +kernel
theorem dX10_readToken_84 : decode cX10_readToken 84 = .ok (.iload_n 2, 1) := by decide +kernel
theorem dX10_readToken_85 : decode cX10_readToken 85 = .ok (.ifCond .eq 12, 3) := by decide +kernel
theorem dX10_readToken_88 : decode cX10_readToken 88 = .ok (.aload_n 0, 1) := by decide +kernel
theorem dX10_readToken_89 : decode cX10_readToken 89 = .ok (.getfield 22, 3) := by decide +kernel
theorem dX10_readToken_92 : decode cX10_readToken 92 = .ok (.iconst 1, 1) := by decide +kernel
theorem dX10_readToken_93 : decode cX10_readToken 93 = .ok (.iadd, 1) := by decide +kernel
theorem dX10_readToken_94 : decode cX10_readToken 94 = .ok (.goto 7, 3) := by decide +kernel
theorem dX10_readToken_97 : decode cX10_readToken 97 = .ok (.aload_n 0, 1) := by decide +kernel
theorem dX10_readToken_98 : decode cX10_readToken 98 = .ok (.getfield 22, 3) := by decide +kernel
theorem dX10_readToken_101 : decode cX10_readToken 101 = .ok (.invokevirtual 76, 3) := by decide +kernel
theorem dX10_readToken_104 : decode cX10_readToken 104 = .ok (.ifCond .eq 12, 3) := by decide +kernel
theorem dX10_readToken_107 : decode cX10_readToken 107 = .ok (.aload_n 0, 1) := by decide +kernel
theorem dX10_readToken_108 : decode cX10_readToken 108 = .ok (.aload_n 1, 1) := by decide +kernel
theorem dX10_readToken_109 : decode cX10_readToken 109 = .ok (.iload_n 2, 1) := by decide +kernel
theorem dX10_readToken_110 : decode cX10_readToken 110 = .ok (.invokevirtual 80, 3) := by decide +kernel
theorem dX10_readToken_113 : decode cX10_readToken 113 = .ok (.goto 29, 3) := by decide +kernel
theorem dX10_readToken_116 : decode cX10_readToken 116 = .ok (.aload_n 0, 1) := by decide +kernel
theorem dX10_readToken_117 : decode cX10_readToken 117 = .ok (.aload_n 1, 1) := by decide +kernel
theorem dX10_readToken_118 : decode cX10_readToken 118 = .ok (.getfield 69, 3) := by decide +kernel
theorem dX10_readToken_121 : decode cX10_readToken 121 = .ok (.aload_n 0, 1) := by decide +kernel
theorem dX10_readToken_122 : decode cX10_readToken 122 = .ok (.getfield 22, 3) := by decide +kernel
theorem dX10_readToken_125 : decode cX10_readToken 125 = .ok (.iaload, 1) := by decide +kernel
theorem dX10_readToken_126 : decode cX10_readToken 126 = .ok (.invokestatic 84, 3) := by decide +kernel
theorem dX10_readToken_129 : decode cX10_readToken 129 = .ok (.putfield 44, 3) := by decide +kernel
theorem dX10_readToken_132 : decode cX10_readToken 132 = .ok (.aload_n 0, 1) := by decide +kernel
theorem dX10_readToken_133 : decode cX10_readToken 133 = .ok (.dup, 1) := by decide +kernel
theorem dX10_readToken_134 : decode cX10_readToken 134 = .ok (.getfield 22, 3) := by decide +kernel
theorem dX10_readToken_137 : decode cX10_readToken 137 = .ok (.iconst 1, 1) := by decide +kernel
theorem dX10_readToken_138 : decode cX10_readToken 138 = .ok (.iadd, 1) := by decide +kernel
theorem dX10_readToken_139 : decode cX10_readToken 139 = .ok (.putfield 22, 3) := by decide +kernel
theorem dX10_readToken_142 : decode cX10_readToken 142 = .ok (.return_, 1) := by decide +kernel
set_option maxRecDepth 20000 in
theorem ggX10_readNumber_X7_hasDigitAt : GoodIn wsX10_readNumber wsX7_hasDigitAt := goodIn_r _ [10, 11, 12, 22, 23] (by decide +kernel) (by decide +kernel)
set_option maxRecDepth 20000 in
theorem gX10_readNumber_X7_hasDigitAt : GoodIn wsX10_readNumber (wsV RX10 76 RX7 yX7_hasDigitAt wsX7_hasDigitAt) := goodIn_app (goodIn_of _ (by decide +kernel)) ggX10_readNumber_X7_hasDigitAt
theorem dX10_readNumber_0 : decode cX10_readNumber 0 = .ok (.iload_n 2, 1) := by decide +kernel
theorem dX10_readNumber_1 : decode cX10_readNumber 1 = .ok (.ifCond .eq 12, 3) := by decide +kernel
theorem dX10_readNumber_4 : decode cX10_readNumber 4 = .ok (.aload_n 0, 1) := by decide +kernel
theorem dX10_readNumber_5 : decode cX10_readNumber 5 = .ok (.getfield 22, 3) := by decide +kernel
theorem dX10_readNumber_8 : decode cX10_readNumber 8 = .ok (.iconst 1, 1) := by decide +kernel
theorem dX10_readNumber_9 : decode cX10_readNumber 9 = .ok (.iadd, 1) := by decide +kernel
theorem dX10_readNumber_10 : decode cX10_readNumber 10 = .ok (.goto 7, 3) := by decide +kernel
theorem dX10_readNumber_13 : decode cX10_readNumber 13 = .ok (.aload_n 0, 1) := by decide +kernel
theorem dX10_readNumber_14 : decode cX10_readNumber 14 = .ok (.getfield 22, 3) := by decide +kernel
theorem dX10_readNumber_17 : decode cX10_readNumber 17 = .ok (.istore_n 3, 1) := by decide +kernel
theorem dX10_readNumber_18 : decode cX10_readNumber 18 = .ok (.iconst 0, 1) := by decide +kernel
theorem dX10_readNumber_19 : decode cX10_readNumber 19 = .ok (.istore 4, 2) := by decide +kernel
theorem dX10_readNumber_21 : decode cX10_readNumber 21 = .ok (.aload_n 0, 1) := by decide +kernel
theorem dX10_readNumber_22 : decode cX10_readNumber 22 = .ok (.iload_n 3, 1) := by decide +kernel
theorem dX10_readNumber_23 : decode cX10_readNumber 23 = .ok (.putfield 22, 3) := by decide +kernel
theorem dX10_readNumber_26 : decode cX10_readNumber 26 = .ok (.aload_n 0, 1) := by decide +kernel
theorem dX10_readNumber_27 : decode cX10_readNumber 27 = .ok (.getfield 22, 3) := by decide +kernel
theorem dX10_readNumber_30 : decode cX10_readNumber 30 = .ok (.aload_n 1, 1) := by decide +kernel
theorem dX10_readNumber_31 : decode cX10_readNumber 31 = .ok (.getfield 66, 3) := by decide +kernel
theorem dX10_readNumber_34 : decode cX10_readNumber 34 = .ok (.if_icmp .ge 57, 3) := by decide +kernel
theorem dX10_readNumber_37 : decode cX10_readNumber 37 = .ok (.aload_n 1, 1) := by decide +kernel
theorem dX10_readNumber_38 : decode cX10_readNumber 38 = .ok (.aload_n 0, 1) := by decide +kernel
theorem dX10_readNumber_39 : decode cX10_readNumber 39 = .ok (.getfield 22, 3) := by decide +kernel
theorem dX10_readNumber_42 : decode cX10_readNumber 42 = .ok (.invokevirtual 76, 3) := by decide +kernel
theorem dX10_readNumber_45 : decode cX10_readNumber 45 = .ok (.ifCond .eq 46, 3) := by decide +kernel
theorem dX10_readNumber_48 : decode cX10_readNumber 48 = .ok (.aload_n 0, 1) := by decide +kernel
theorem dX10_readNumber_49 : decode cX10_readNumber 49 = .ok (.getfield 22, 3) := by decide +kernel
theorem dX10_readNumber_52 : decode cX10_readNumber 52 = .ok (.iload_n 3, 1) := by decide +kernel
theorem dX10_readNumber_53 : decode cX10_readNumber 53 = .ok (.isub, 1) := by decide +kernel
theorem dX10_readNumber_54 : decode cX10_readNumber 54 = .ok (.iconst 3, 1) := by decide +kernel
theorem dX10_readNumber_55 : decode cX10_readNumber 55 = .ok (.if_icmp .ge 23, 3) := by decide +kernel
theorem dX10_readNumber_58 : decode cX10_readNumber 58 = .ok (.bipush 10, 2) := by decide +kernel
theorem dX10_readNumber_60 : decode cX10_readNumber 60 = .ok (.iload 4, 2) := by decide +kernel
theorem dX10_readNumber_62 : decode cX10_readNumber 62 = .ok (.imul, 1) := by decide +kernel
theorem dX10_readNumber_63 : decode cX10_readNumber 63 = .ok (.aload_n 1, 1) := by decide +kernel
theorem dX10_readNumber_64 : decode cX10_readNumber 64 = .ok (.getfield 69, 3) := by decide +kernel
theorem dX10_readNumber_67 : decode cX10_readNumber 67 = .ok (.aload_n 0, 1) := by decide +kernel
theorem dX10_readNumber_68 : decode cX10_readNumber 68 = .ok (.getfield 22, 3) := by decide +kernel
theorem dX10_readNumber_71 : decode cX10_readNumber 71 = .ok (.iaload, 1) := by decide +kernel
theorem dX10_readNumber_72 : decode cX10_readNumber 72 = .ok (.iadd, 1) := by decide +kernel
theorem dX10_readNumber_73 : decode cX10_readNumber 73 = .ok (.bipush 48, 2) := by decide +kernel
theorem dX10_readNumber_75 : decode cX10_readNumber 75 = .ok (.isub, 1) := by decide +kernel
theorem dX10_readNumber_76 : decode cX10_readNumber 76 = .ok (.istore 4, 2) := by decide +kernel
theorem dX10_readNumber_78 : decode cX10_readNumber 78 = .ok (.aload_n 0, 1) := by decide +kernel
theorem dX10_readNumber_79 : decode cX10_readNumber 79 = .ok (.dup, 1) := by decide +kernel
theorem dX10_readNumber_80 : decode cX10_readNumber 80 = .ok (.getfield 22, 3) := by decide +kernel
theorem dX10_readNumber_83 : decode cX10_readNumber 83 = .ok (.iconst 1, 1) := by decide +kernel
theorem dX10_readNumber_84 : decode cX10_readNumber 84 = .ok (.iadd, 1) := by decide +kernel
theorem dX10_readNumber_85 : decode cX10_readNumber 85 = .ok (.putfield 22, 3) := by decide +kernel
theorem dX10_readNumber_88 : decode cX10_readNumber 88 = .ok (.goto (-62), 3) := by decide +kernel
theorem dX10_readNumber_91 : decode cX10_readNumber 91 = .ok (.aload_n 0, 1) := by decide +kernel
theorem dX10_readNumber_92 : decode cX10_readNumber 92 = .ok (.aload_n 0, 1) := by decide +kernel
theorem dX10_readNumber_93 : decode cX10_readNumber 93 = .ok (.getfield 22, 3) := by decide +kernel
theorem dX10_readNumber_96 : decode cX10_readNumber 96 = .ok (.iload_n 3, 1) := by decide +kernel
theorem dX10_readNumber_97 : decode cX10_readNumber 97 = .ok (.isub, 1) := by decide +kernel
theorem dX10_readNumber_98 : decode cX10_readNumber 98 = .ok (.iconst 3, 1) := by decide +kernel
theorem dX10_readNumber_99 : decode cX10_readNumber 99 = .ok (.if_icmp .gt 8, 3) := by decide +kernel
theorem dX10_readNumber_102 : decode cX10_readNumber 102 = .ok (.bipush 48, 2) := by decide +kernel
theorem dX10_readNumber_104 : decode cX10_readNumber 104 = .ok (.goto 4, 3) := by decide +kernel
theorem dX10_readNumber_107 : decode cX10_readNumber 107 = .ok (.iconst (-1), 1) := by decide +kernel
theorem dX10_readNumber_108 : decode cX10_readNumber 108 = .ok (.putfield 44, 3) := by decide +kernel
theorem dX10_readNumber_111 : decode cX10_readNumber 111 = .ok (.aload_n 0, 1) := by decide +kernel
theorem dX10_readNumber_112 : decode cX10_readNumber 112 = .ok (.iload_n 2, 1) := by decide +kernel
theorem dX10_readNumber_113 : decode cX10_readNumber 113 = .ok (.ifCond .eq 9, 3) := by decide +kernel
theorem dX10_readNumber_116 : decode cX10_readNumber 116 = .ok (.iload 4, 2) := by decide +kernel
theorem dX10_readNumber_118 : decode cX10_readNumber 118 = .ok (.ineg, 1) := by decide +kernel
theorem dX10_readNumber_119 : decode cX10_readNumber 119 = .ok (.goto 5, 3) := by decide +kernel
theorem dX10_readNumber_122 : decode cX10_readNumber 122 = .ok (.iload 4, 2) := by decide +kernel
theorem dX10_readNumber_124 : decode cX10_readNumber 124 = .ok (.putfield 88, 3) := by decide +kernel
theorem dX10_readNumber_127 : decode cX10_readNumber 127 = .ok (.return_, 1) := by decide +kernel
theorem dX10_markOrNone_0 : decode cX10_markOrNone 0 = .ok (.iload_n 0, 1) := by decide +kernel
theorem dX10_markOrNone_1 : decode cX10_markOrNone 1 = .ok (.lookupswitch 101 #[(40, 99), (41, 99), (42, 99), (43, 99), (44, 99), (46, 99), (63, 99), (91, 99), (93, 99), (114, 99), (124, 99)], 99) := by decide +kernel
theorem dX10_markOrNone_100 : decode cX10_markOrNone 100 = .ok (.iload_n 0, 1) := by decide +kernel
theorem dX10_markOrNone_101 : decode cX10_markOrNone 101 = .ok (.ireturn, 1) := by decide +kernel
theorem dX10_markOrNone_102 : decode cX10_markOrNone 102 = .ok (.iconst (-1), 1) := by decide +kernel
theorem dX10_markOrNone_103 : decode cX10_markOrNone 103 = .ok (.ireturn, 1) := by decide +kernel
set_option maxRecDepth 20000 in
theorem ggX10_take_X10_takeWithinBrackets : GoodIn wsX10_take wsX10_takeWithinBrackets := goodIn_r _ [10, 1, 2, 3, 11, 12, 13, 14, 15, 9, 16, 17, 18, 19, 20, 4, 5, 21, 22, 23, 24, 25, 26, 27, 28, 29, 30, 31, 32, 33, 34, 35, 36, 37, 38, 39, 40, 41, 42, 43, 44, 45, 46, 47, 48, 49, 50, 51, 52, 53, 54, 55, 56, 57, 58, 59, 60, 61, 62, 98, 99, 100, 101, 102, 103, 104, 105, 106, 107, 108, 109, 110, 111, 112, 113, 114, 115, 116, 117, 118, 119, 120, 121] (by decide +kernel) (by decide +kernel)
set_option maxRecDepth 20000 in
theorem gX10_take_X10_takeWithinBrackets : GoodIn wsX10_take (wsV RX10 91 RX10 yX10_takeWithinBrackets wsX10_takeWithinBrackets) := goodIn_app (goodIn_of _ (by decide +kernel)) ggX10_take_X10_takeWithinBrackets
set_option maxRecDepth 20000 in
theorem ggX10_take_X10_takeAtom : GoodIn wsX10_take wsX10_takeAtom := goodIn_r _ [20, 4, 5, 21, 22, 23, 24, 25, 26, 27, 28, 29, 30, 31, 32, 33, 34, 35, 36, 37, 38, 39, 40, 41, 42, 43, 44, 45, 46, 47, 48, 49, 50, 51, 52, 53, 54, 55, 56, 57, 58, 59, 60, 61, 62, 98, 99, 100, 101, 102, 103, 104, 105, 106, 107, 108, 109, 110, 111, 112, 113, 114, 115, 116, 117, 118, 119, 120, 121] (by decide +kernel) (by decide +kernel)
set_option maxRecDepth 20000 in
theorem gX10_take_X10_takeAtom : GoodIn wsX10_take (wsV RX10 94 RX10 yX10_takeAtom wsX10_takeAtom) := goodIn_app (goodIn_of _ (by decide +kernel)) ggX10_take_X10_takeAtom
set_option maxRecDepth 20000 in
theorem ggX10_take_X10_openBrackets : GoodIn wsX10_take wsX10_openBrackets := goodIn_r _ [66, 2, 23, 24, 25, 26, 27, 28, 98, 99, 100, 101, 102, 103, 104, 105, 106, 111, 112, 113, 114, 115, 116, 117, 118] (by decide +kernel) (by decide +kernel)
set_option maxRecDepth 20000 in
theorem gX10_take_X10_openBrackets : GoodIn wsX10_take (wsV RX10 100 RX10 yX10_openBrackets wsX10_openBrackets) := goodIn_app (goodIn_of _ (by decide +kernel)) ggX10_take_X10_openBrackets
set_option maxRecDepth 20000 in
theorem ggX10_take_X10_openGroup : GoodIn wsX10_take wsX10_openGroup := goodIn_r _ [70, 5, 4, 29, 30, 31, 32, 33, 34, 35, 36, 37, 38, 39, 40, 41, 26, 42, 28, 43, 44, 45, 46, 47, 48, 49, 50, 51, 52, 53, 54, 55, 71, 72, 73, 74, 75, 98, 99, 100, 101, 102, 103, 104, 105, 106, 107, 108, 109, 110, 119, 120, 121, 111, 112, 113, 114, 115, 116, 117, 118] (by decide +kernel) (by decide +kernel)
set_option maxRecDepth 20000 in
theorem gX10_take_X10_openGroup : GoodIn wsX10_take (wsV RX10 103 RX10 yX10_openGroup wsX10_openGroup) := goodIn_app (goodIn_of _ (by decide +kernel)) ggX10_take_X10_openGroup
set_option maxRecDepth 20000 in
theorem ggX10_take_X10_closeGroup : GoodIn wsX10_take wsX10_closeGroup := goodIn_r _ [79, 5, 4, 21, 80, 81, 82, 83, 22, 84, 85, 86, 32, 87, 75, 34, 88, 30, 31, 33, 35, 36, 37, 38, 39, 40, 41, 26, 42, 28, 43, 44, 45, 46, 47, 48, 49, 50, 51, 52, 53, 54, 55, 89, 90, 91, 92, 62, 98, 99, 100, 101, 102, 103, 104, 105, 106, 107, 108, 109, 110, 119, 120, 121, 111, 112, 113, 114, 115, 116, 117, 118] (by decide +kernel) (by decide +kernel)
set_option maxRecDepth 20000 in
theorem gX10_take_X10_closeGroup : GoodIn wsX10_take (wsV RX10 106 RX10 yX10_closeGroup wsX10_closeGroup) := goodIn_app (goodIn_of _ (by decide +kernel)) ggX10_take_X10_closeGroup
set_option maxRecDepth 20000 in
theorem ggX10_take_X2_closeSeq : GoodIn wsX10_take wsX2_closeSeq := goodIn_r _ [87, 75, 34, 88, 30, 31, 32, 33, 35, 36, 37, 38, 39, 40, 41, 26, 42, 28, 43, 44, 45, 46, 47, 48, 49, 50, 51, 52, 53, 54, 55, 89, 90, 91, 92, 107, 108, 109, 110, 119, 120, 121, 111, 112, 113, 114, 115, 116, 117, 118] (by decide +kernel) (by decide +kernel)
set_option maxRecDepth 20000 in
theorem gX10_take_X2_closeSeq : GoodIn wsX10_take (wsV RX10 47 RX2 yX2_closeSeq wsX2_closeSeq) := goodIn_app (goodIn_of _ (by decide +kernel)) ggX10_take_X2_closeSeq
set_option maxRecDepth 20000 in
theorem ggX10_take_X10_repeat : GoodIn wsX10_take wsX10_repeat := goodIn_r _ [96, 4, 5, 22, 1, 21, 83, 82, 81, 97, 40, 41, 26, 42, 28, 43, 98, 99, 100, 101, 102, 103, 104, 105, 106, 107, 108, 109, 110, 119, 120, 121, 111, 112, 113, 114, 115, 116, 117, 118] (by decide +kernel) (by decide +kernel)
set_option maxRecDepth 20000 in
theorem gX10_take_X10_repeat : GoodIn wsX10_take (wsV RX10 109 RX10 yX10_repeat wsX10_repeat) := goodIn_app (goodIn_of _ (by decide +kernel)) ggX10_take_X10_repeat
theorem dX10_take_0 : decode cX10_take 0 = .ok (.aload_n 0, 1) := by decide +kernel
theorem dX10_take_1 : decode cX10_take 1 = .ok (.getfield 44, 3) := by decide +kernel
theorem dX10_take_4 : decode cX10_take 4 = .ok (.iconst (-1), 1) := by decide +kernel
theorem dX10_take_5 : decode cX10_take 5 = .ok (.if_icmp .ne 5, 3) := by decide +kernel
theorem dX10_take_8 : decode cX10_take 8 = .ok (.iconst 1, 1) := by decide +kernel
theorem dX10_take_9 : decode cX10_take 9 = .ok (.ireturn, 1) := by decide +kernel
theorem dX10_take_10 : decode cX10_take 10 = .ok (.aload_n 0, 1) := by decide +kernel
theorem dX10_take_11 : decode cX10_take 11 = .ok (.getfield 28, 3) := by decide +kernel
theorem dX10_take_14 : decode cX10_take 14 = .ok (.ifCond .eq 9, 3) := by decide +kernel
theorem dX10_take_17 : decode cX10_take 17 = .ok (.aload_n 0, 1) := by decide +kernel
theorem dX10_take_18 : decode cX10_take 18 = .ok (.aload_n 1, 1) := by decide +kernel
theorem dX10_take_19 : decode cX10_take 19 = .ok (.invokevirtual 91, 3) := by decide +kernel
theorem dX10_take_22 : decode cX10_take 22 = .ok (.ireturn, 1) := by decide +kernel
theorem dX10_take_23 : decode cX10_take 23 = .ok (.aload_n 0, 1) := by decide +kernel
theorem dX10_take_24 : decode cX10_take 24 = .ok (.getfield 44, 3) := by decide +kernel
theorem dX10_take_27 : decode cX10_take 27 = .ok (.lookupswitch 187 #[(0, 174), (40, 141), (41, 147), (42, 168), (43, 168), (46, 111), (48, 97), (63, 168), (91, 135), (114, 123), (124, 153)], 97) := by decide +kernel
theorem dX10_take_124 : decode cX10_take 124 = .ok (.aload_n 0, 1) := by decide +kernel
theorem dX10_take_125 : decode cX10_take 125 = .ok (.aload_n 1, 1) := by decide +kernel
theorem dX10_take_126 : decode cX10_take 126 = .ok (.aload_n 0, 1) := by decide +kernel
theorem dX10_take_127 : decode cX10_take 127 = .ok (.getfield 88, 3) := by decide +kernel
theorem dX10_take_130 : decode cX10_take 130 = .ok (.aload_n 0, 1) := by decide +kernel
theorem dX10_take_131 : decode cX10_take 131 = .ok (.getfield 88, 3) := by decide +kernel
theorem dX10_take_134 : decode cX10_take 134 = .ok (.invokevirtual 94, 3) := by decide +kernel
theorem dX10_take_137 : decode cX10_take 137 = .ok (.ireturn, 1) := by decide +kernel
theorem dX10_take_138 : decode cX10_take 138 = .ok (.aload_n 0, 1) := by decide +kernel
theorem dX10_take_139 : decode cX10_take 139 = .ok (.aload_n 1, 1) := by decide +kernel
theorem dX10_take_140 : decode cX10_take 140 = .ok (.sipush (-999), 3) := by decide +kernel
theorem dX10_take_143 : decode cX10_take 143 = .ok (.sipush 999, 3) := by decide +kernel
theorem dX10_take_146 : decode cX10_take 146 = .ok (.invokevirtual 94, 3) := by decide +kernel
theorem dX10_take_149 : decode cX10_take 149 = .ok (.ireturn, 1) := by decide +kernel
theorem dX10_take_150 : decode cX10_take 150 = .ok (.aload_n 0, 1) := by decide +kernel
theorem dX10_take_151 : decode cX10_take 151 = .ok (.aload_n 1, 1) := by decide +kernel
theorem dX10_take_152 : decode cX10_take 152 = .ok (.sipush (-1000), 3) := by decide +kernel
theorem dX10_take_155 : decode cX10_take 155 = .ok (.sipush (-1000), 3) := by decide +kernel
theorem dX10_take_158 : decode cX10_take 158 = .ok (.invokevirtual 94, 3) := by decide +kernel
theorem dX10_take_161 : decode cX10_take 161 = .ok (.ireturn, 1) := by decide +kernel
theorem dX10_take_162 : decode cX10_take 162 = .ok (.aload_n 0, 1) := by decide +kernel
theorem dX10_take_163 : decode cX10_take 163 = .ok (.aload_n 1, 1) := by decide +kernel
theorem dX10_take_164 : decode cX10_take 164 = .ok (.invokevirtual 100, 3) := by decide +kernel
theorem dX10_take_167 : decode cX10_take 167 = .ok (.ireturn, 1) := by decide +kernel
theorem dX10_take_168 : decode cX10_take 168 = .ok (.aload_n 0, 1) := by decide +kernel
theorem dX10_take_169 : decode cX10_take 169 = .ok (.aload_n 1, 1) := by decide +kernel
theorem dX10_take_170 : decode cX10_take 170 = .ok (.invokevirtual 103, 3) := by decide +kernel
theorem dX10_take_173 : decode cX10_take 173 = .ok (.ireturn, 1) := by decide +kernel
theorem dX10_take_174 : decode cX10_take 174 = .ok (.aload_n 0, 1) := by decide +kernel
theorem dX10_take_175 : decode cX10_take 175 = .ok (.aload_n 1, 1) := by decide +kernel
theorem dX10_take_176 : decode cX10_take 176 = .ok (.invokevirtual 106, 3) := by decide +kernel
theorem dX10_take_179 : decode cX10_take 179 = .ok (.ireturn, 1) := by decide +kernel
theorem dX10_take_180 : decode cX10_take 180 = .ok (.aload_n 0, 1) := by decide +kernel
theorem dX10_take_181 : decode cX10_take 181 = .ok (.getfield 11, 3) := by decide +kernel
theorem dX10_take_184 : decode cX10_take 184 = .ok (.aload_n 0, 1) := by decide +kernel
theorem dX10_take_185 : decode cX10_take 185 = .ok (.getfield 25, 3) := by decide +kernel
theorem dX10_take_188 : decode cX10_take 188 = .ok (.aaload, 1) := by decide +kernel
theorem dX10_take_189 : decode cX10_take 189 = .ok (.aload_n 1, 1) := by decide +kernel
theorem dX10_take_190 : decode cX10_take 190 = .ok (.invokevirtual 47, 3) := by decide +kernel
theorem dX10_take_193 : decode cX10_take 193 = .ok (.iconst 0, 1) := by decide +kernel
theorem dX10_take_194 : decode cX10_take 194 = .ok (.ireturn, 1) := by decide +kernel
theorem dX10_take_195 : decode cX10_take 195 = .ok (.aload_n 0, 1) := by decide +kernel
theorem dX10_take_196 : decode cX10_take 196 = .ok (.aload_n 1, 1) := by decide +kernel
theorem dX10_take_197 : decode cX10_take 197 = .ok (.invokevirtual 109, 3) := by decide +kernel
theorem dX10_take_200 : decode cX10_take 200 = .ok (.ireturn, 1) := by decide +kernel
theorem dX10_take_201 : decode cX10_take 201 = .ok (.aload_n 0, 1) := by decide +kernel
theorem dX10_take_202 : decode cX10_take 202 = .ok (.getfield 25, 3) := by decide +kernel
theorem dX10_take_205 : decode cX10_take 205 = .ok (.ifCond .le 7, 3) := by decide +kernel
theorem dX10_take_208 : decode cX10_take 208 = .ok (.iconst 2, 1) := by decide +kernel
theorem dX10_take_209 : decode cX10_take 209 = .ok (.goto 4, 3) := by decide +kernel
theorem dX10_take_212 : decode cX10_take 212 = .ok (.iconst 0, 1) := by decide +kernel
theorem dX10_take_213 : decode cX10_take 213 = .ok (.ireturn, 1) := by decide +kernel
theorem dX10_take_214 : decode cX10_take 214 = .ok (.iconst 2, 1) := by decide +kernel
theorem dX10_take_215 : decode cX10_take 215 = .ok (.ireturn, 1) := by decide +kernel
set_option maxRecDepth 20000 in
theorem ggX10_takeWithinBrackets_X10_tokenDue : GoodIn wsX10_takeWithinBrackets wsX10_tokenDue := goodIn_r _ [10, 2, 59, 60, 61, 62, 63, 64, 65, 66, 67] (by decide +kernel) (by decide +kernel)
set_option maxRecDepth 20000 in
theorem gX10_takeWithinBrackets_X10_tokenDue : GoodIn wsX10_takeWithinBrackets (wsV RX10 112 RX10 yX10_tokenDue wsX10_tokenDue) := goodIn_app (goodIn_of _ (by decide +kernel)) ggX10_takeWithinBrackets_X10_tokenDue
set_option maxRecDepth 20000 in
theorem ggX10_takeWithinBrackets_X10_takeAtom : GoodIn wsX10_takeWithinBrackets wsX10_takeAtom := goodIn_r _ [14, 15, 16, 17, 18, 19, 20, 21, 22, 23, 24, 25, 26, 27, 28, 29, 30, 31, 32, 33, 34, 35, 36, 37, 38, 39, 40, 41, 42, 43, 44, 45, 46, 47, 48, 49, 50, 51, 52, 53, 54, 55, 56, 57, 58, 59, 60, 61, 62, 63, 64, 65, 66, 67, 68, 69, 70, 71, 72, 73, 74, 75, 76, 77, 78, 79, 80, 81, 82] (by decide +kernel) (by decide +kernel)
set_option maxRecDepth 20000 in
theorem gX10_takeWithinBrackets_X10_takeAtom : GoodIn wsX10_takeWithinBrackets (wsV RX10 94 RX10 yX10_takeAtom wsX10_takeAtom) := goodIn_app (goodIn_of _ (by decide +kernel)) ggX10_takeWithinBrackets_X10_takeAtom
theorem dX10_takeWithinBrackets_0 : decode cX10_takeWithinBrackets 0 = .ok (.aload_n 0, 1) := by decide +kernel
theorem dX10_takeWithinBrackets_1 : decode cX10_takeWithinBrackets 1 = .ok (.getfield 44, 3) := by decide +kernel
theorem dX10_takeWithinBrackets_4 : decode cX10_takeWithinBrackets 4 = .ok (.aload_n 0, 1) := by decide +kernel
theorem dX10_takeWithinBrackets_5 : decode cX10_takeWithinBrackets 5 = .ok (.invokevirtual 112, 3) := by decide +kernel
theorem dX10_takeWithinBrackets_8 : decode cX10_takeWithinBrackets 8 = .ok (.if_icmp .eq 5, 3) := by decide +kernel
theorem dX10_takeWithinBrackets_11 : decode cX10_takeWithinBrackets 11 = .ok (.iconst 2, 1) := by decide +kernel
theorem dX10_takeWithinBrackets_12 : decode cX10_takeWithinBrackets 12 = .ok (.ireturn, 1) := by decide +kernel
theorem dX10_takeWithinBrackets_13 : decode cX10_takeWithinBrackets 13 = .ok (.aload_n 0, 1) := by decide +kernel
theorem dX10_takeWithinBrackets_14 : decode cX10_takeWithinBrackets 14 = .ok (.getfield 28, 3) := by decide +kernel
theorem dX10_takeWithinBrackets_17 : decode cX10_takeWithinBrackets 17 = .ok (.tableswitch 79 1 3 #[27, 42, 49], 27) := by decide +kernel
theorem dX10_takeWithinBrackets_44 : decode cX10_takeWithinBrackets 44 = .ok (.aload_n 0, 1) := by decide +kernel
theorem dX10_takeWithinBrackets_45 : decode cX10_takeWithinBrackets 45 = .ok (.aload_n 0, 1) := by decide +kernel
theorem dX10_takeWithinBrackets_46 : decode cX10_takeWithinBrackets 46 = .ok (.getfield 88, 3) := by decide +kernel
theorem dX10_takeWithinBrackets_49 : decode cX10_takeWithinBrackets 49 = .ok (.putfield 116, 3) := by decide +kernel
theorem dX10_takeWithinBrackets_52 : decode cX10_takeWithinBrackets 52 = .ok (.aload_n 0, 1) := by decide +kernel
theorem dX10_takeWithinBrackets_53 : decode cX10_takeWithinBrackets 53 = .ok (.iconst 2, 1) := by decide +kernel
theorem dX10_takeWithinBrackets_54 : decode cX10_takeWithinBrackets 54 = .ok (.putfield 28, 3) := by decide +kernel
theorem dX10_takeWithinBrackets_57 : decode cX10_takeWithinBrackets 57 = .ok (.iconst 0, 1) := by decide +kernel
theorem dX10_takeWithinBrackets_58 : decode cX10_takeWithinBrackets 58 = .ok (.ireturn, 1) := by decide +kernel
theorem dX10_takeWithinBrackets_59 : decode cX10_takeWithinBrackets 59 = .ok (.aload_n 0, 1) := by decide +kernel
theorem dX10_takeWithinBrackets_60 : decode cX10_takeWithinBrackets 60 = .ok (.iconst 3, 1) := by decide +kernel
theorem dX10_takeWithinBrackets_61 : decode cX10_takeWithinBrackets 61 = .ok (.putfield 28, 3) := by decide +kernel
theorem dX10_takeWithinBrackets_64 : decode cX10_takeWithinBrackets 64 = .ok (.iconst 0, 1) := by decide +kernel
theorem dX10_takeWithinBrackets_65 : decode cX10_takeWithinBrackets 65 = .ok (.ireturn, 1) := by decide +kernel
theorem dX10_takeWithinBrackets_66 : decode cX10_takeWithinBrackets 66 = .ok (.aload_n 0, 1) := by decide +kernel
theorem dX10_takeWithinBrackets_67 : decode cX10_takeWithinBrackets 67 = .ok (.aload_n 0, 1) := by decide +kernel
theorem dX10_takeWithinBrackets_68 : decode cX10_takeWithinBrackets 68 = .ok (.getfield 88, 3) := by decide +kernel
theorem dX10_takeWithinBrackets_71 : decode cX10_takeWithinBrackets 71 = .ok (.putfield 119, 3) := by decide +kernel
theorem dX10_takeWithinBrackets_74 : decode cX10_takeWithinBrackets 74 = .ok (.aload_n 0, 1) := by decide +kernel
theorem dX10_takeWithinBrackets_75 : decode cX10_takeWithinBrackets 75 = .ok (.iconst 4, 1) := by decide +kernel
theorem dX10_takeWithinBrackets_76 : decode cX10_takeWithinBrackets 76 = .ok (.putfield 28, 3) := by decide +kernel
theorem dX10_takeWithinBrackets_79 : decode cX10_takeWithinBrackets 79 = .ok (.aload_n 0, 1) := by decide +kernel
theorem dX10_takeWithinBrackets_80 : decode cX10_takeWithinBrackets 80 = .ok (.getfield 119, 3) := by decide +kernel
theorem dX10_takeWithinBrackets_83 : decode cX10_takeWithinBrackets 83 = .ok (.aload_n 0, 1) := by decide +kernel
theorem dX10_takeWithinBrackets_84 : decode cX10_takeWithinBrackets 84 = .ok (.getfield 116, 3) := by decide +kernel
theorem dX10_takeWithinBrackets_87 : decode cX10_takeWithinBrackets 87 = .ok (.if_icmp .ge 7, 3) := by decide +kernel
theorem dX10_takeWithinBrackets_90 : decode cX10_takeWithinBrackets 90 = .ok (.iconst 3, 1) := by decide +kernel
theorem dX10_takeWithinBrackets_91 : decode cX10_takeWithinBrackets 91 = .ok (.goto 4, 3) := by decide +kernel
theorem dX10_takeWithinBrackets_94 : decode cX10_takeWithinBrackets 94 = .ok (.iconst 0, 1) := by decide +kernel
theorem dX10_takeWithinBrackets_95 : decode cX10_takeWithinBrackets 95 = .ok (.ireturn, 1) := by decide +kernel
theorem dX10_takeWithinBrackets_96 : decode cX10_takeWithinBrackets 96 = .ok (.aload_n 0, 1) := by decide +kernel
theorem dX10_takeWithinBrackets_97 : decode cX10_takeWithinBrackets 97 = .ok (.iconst 0, 1) := by decide +kernel
theorem dX10_takeWithinBrackets_98 : decode cX10_takeWithinBrackets 98 = .ok (.putfield 28, 3) := by decide +kernel
theorem dX10_takeWithinBrackets_101 : decode cX10_takeWithinBrackets 101 = .ok (.aload_n 0, 1) := by decide +kernel
theorem dX10_takeWithinBrackets_102 : decode cX10_takeWithinBrackets 102 = .ok (.aload_n 1, 1) := by decide +kernel
theorem dX10_takeWithinBrackets_103 : decode cX10_takeWithinBrackets 103 = .ok (.aload_n 0, 1) := by decide +kernel
theorem dX10_takeWithinBrackets_104 : decode cX10_takeWithinBrackets 104 = .ok (.getfield 116, 3) := by decide +kernel
theorem dX10_takeWithinBrackets_107 : decode cX10_takeWithinBrackets 107 = .ok (.aload_n 0, 1) := by decide +kernel
theorem dX10_takeWithinBrackets_108 : decode cX10_takeWithinBrackets 108 = .ok (.getfield 119, 3) := by decide +kernel
theorem dX10_takeWithinBrackets_111 : decode cX10_takeWithinBrackets 111 = .ok (.invokevirtual 94, 3) := by decide +kernel
theorem dX10_takeWithinBrackets_114 : decode cX10_takeWithinBrackets 114 = .ok (.ireturn, 1) := by decide +kernel
