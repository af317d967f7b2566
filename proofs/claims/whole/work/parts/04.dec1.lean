theorem dX10_tokenDue_0 : decode cX10_tokenDue 0 = .ok (.aload_n 0, 1) := by decide +kernel
theorem dX10_tokenDue_1 : decode cX10_tokenDue 1 = .ok (.getfield 28, 3) := by decide +kernel
theorem dX10_tokenDue_4 : decode cX10_tokenDue 4 = .ok (.lookupswitch 34 #[(2, 28), (4, 31)], 28) := by decide +kernel
theorem dX10_tokenDue_32 : decode cX10_tokenDue 32 = .ok (.bipush 44, 2) := by decide +kernel
theorem dX10_tokenDue_34 : decode cX10_tokenDue 34 = .ok (.ireturn, 1) := by decide +kernel
theorem dX10_tokenDue_35 : decode cX10_tokenDue 35 = .ok (.bipush 93, 2) := by decide +kernel
theorem dX10_tokenDue_37 : decode cX10_tokenDue 37 = .ok (.ireturn, 1) := by decide +kernel
theorem dX10_tokenDue_38 : decode cX10_tokenDue 38 = .ok (.bipush 48, 2) := by decide +kernel
theorem dX10_tokenDue_40 : decode cX10_tokenDue 40 = .ok (.ireturn, 1) := by decide +kernel
set_option maxRecDepth 20000 in
theorem ggX10_takeAtom_X9_isFull : GoodIn wsX10_takeAtom wsX9_isFull := goodIn_r _ [9, 10, 58, 59, 60, 61, 62, 63, 64, 65] (by decide +kernel) (by decide +kernel)
set_option maxRecDepth 20000 in
theorem gX10_takeAtom_X9_isFull : GoodIn wsX10_takeAtom (wsV RX10 122 RX9 yX9_isFull wsX9_isFull) := goodIn_app (goodIn_of _ (by decide +kernel)) ggX10_takeAtom_X9_isFull
set_option maxRecDepth 20000 in
theorem ggX10_takeAtom_X2_closeItem : GoodIn wsX10_takeAtom wsX2_closeItem := goodIn_r _ [15, 16, 17, 18, 19, 20, 21, 22, 23, 8, 24, 10, 25, 26, 27, 28, 29, 30, 31, 32, 33, 34, 35, 36, 37, 54, 55, 56, 57, 66, 67, 68, 58, 59, 60, 61, 62, 63, 64, 65] (by decide +kernel) (by decide +kernel)
set_option maxRecDepth 20000 in
theorem gX10_takeAtom_X2_closeItem : GoodIn wsX10_takeAtom (wsV RX10 126 RX2 yX2_closeItem wsX2_closeItem) := goodIn_app (goodIn_of _ (by decide +kernel)) ggX10_takeAtom_X2_closeItem
set_option maxRecDepth 20000 in
theorem ggX10_takeAtom_X9_addAtom : GoodIn wsX10_takeAtom wsX9_addAtom := goodIn_r _ [41, 42, 10, 43, 25, 58, 59, 60, 61, 62, 63, 64, 65] (by decide +kernel) (by decide +kernel)
set_option maxRecDepth 20000 in
theorem gX10_takeAtom_X9_addAtom : GoodIn wsX10_takeAtom (wsV RX10 129 RX9 yX9_addAtom wsX9_addAtom) := goodIn_app (goodIn_of _ (by decide +kernel)) ggX10_takeAtom_X9_addAtom
set_option maxRecDepth 20000 in
theorem ggX10_takeAtom_X5_become : GoodIn wsX10_takeAtom wsX5_become := goodIn_r _ [37, 31, 32, 33, 66, 67, 68] (by decide +kernel) (by decide +kernel)
set_option maxRecDepth 20000 in
theorem gX10_takeAtom_X5_become : GoodIn wsX10_takeAtom (wsV RX10 136 RX5 yX5_become wsX5_become) := goodIn_app (goodIn_of _ (by decide +kernel)) ggX10_takeAtom_X5_become
theorem dX10_takeAtom_0 : decode cX10_takeAtom 0 = .ok (.aload_n 1, 1) := by decide +kernel
theorem dX10_takeAtom_1 : decode cX10_takeAtom 1 = .ok (.invokevirtual 122, 3) := by decide +kernel
theorem dX10_takeAtom_4 : decode cX10_takeAtom 4 = .ok (.ifCond .eq 5, 3) := by decide +kernel
theorem dX10_takeAtom_7 : decode cX10_takeAtom 7 = .ok (.iconst 4, 1) := by decide +kernel
theorem dX10_takeAtom_8 : decode cX10_takeAtom 8 = .ok (.ireturn, 1) := by decide +kernel
theorem dX10_takeAtom_9 : decode cX10_takeAtom 9 = .ok (.aload_n 0, 1) := by decide +kernel
theorem dX10_takeAtom_10 : decode cX10_takeAtom 10 = .ok (.getfield 11, 3) := by decide +kernel
theorem dX10_takeAtom_13 : decode cX10_takeAtom 13 = .ok (.aload_n 0, 1) := by decide +kernel
theorem dX10_takeAtom_14 : decode cX10_takeAtom 14 = .ok (.getfield 25, 3) := by decide +kernel
theorem dX10_takeAtom_17 : decode cX10_takeAtom 17 = .ok (.aaload, 1) := by decide +kernel
theorem dX10_takeAtom_18 : decode cX10_takeAtom 18 = .ok (.astore 4, 2) := by decide +kernel
theorem dX10_takeAtom_20 : decode cX10_takeAtom 20 = .ok (.aload 4, 2) := by decide +kernel
theorem dX10_takeAtom_22 : decode cX10_takeAtom 22 = .ok (.aload_n 1, 1) := by decide +kernel
theorem dX10_takeAtom_23 : decode cX10_takeAtom 23 = .ok (.invokevirtual 126, 3) := by decide +kernel
theorem dX10_takeAtom_26 : decode cX10_takeAtom 26 = .ok (.aload_n 1, 1) := by decide +kernel
theorem dX10_takeAtom_27 : decode cX10_takeAtom 27 = .ok (.iload_n 2, 1) := by decide +kernel
theorem dX10_takeAtom_28 : decode cX10_takeAtom 28 = .ok (.iload_n 3, 1) := by decide +kernel
theorem dX10_takeAtom_29 : decode cX10_takeAtom 29 = .ok (.invokevirtual 129, 3) := by decide +kernel
theorem dX10_takeAtom_32 : decode cX10_takeAtom 32 = .ok (.lstore 5, 2) := by decide +kernel
theorem dX10_takeAtom_34 : decode cX10_takeAtom 34 = .ok (.aload 4, 2) := by decide +kernel
theorem dX10_takeAtom_36 : decode cX10_takeAtom 36 = .ok (.getfield 133, 3) := by decide +kernel
theorem dX10_takeAtom_39 : decode cX10_takeAtom 39 = .ok (.iconst 0, 1) := by decide +kernel
theorem dX10_takeAtom_40 : decode cX10_takeAtom 40 = .ok (.lload 5, 2) := by decide +kernel
theorem dX10_takeAtom_42 : decode cX10_takeAtom 42 = .ok (.lload 5, 2) := by decide +kernel
theorem dX10_takeAtom_44 : decode cX10_takeAtom 44 = .ok (.invokevirtual 136, 3) := by decide +kernel
theorem dX10_takeAtom_47 : decode cX10_takeAtom 47 = .ok (.aload 4, 2) := by decide +kernel
theorem dX10_takeAtom_49 : decode cX10_takeAtom 49 = .ok (.iconst 1, 1) := by decide +kernel
theorem dX10_takeAtom_50 : decode cX10_takeAtom 50 = .ok (.putfield 140, 3) := by decide +kernel
theorem dX10_takeAtom_53 : decode cX10_takeAtom 53 = .ok (.iconst 0, 1) := by decide +kernel
theorem dX10_takeAtom_54 : decode cX10_takeAtom 54 = .ok (.ireturn, 1) := by decide +kernel
set_option maxRecDepth 20000 in
theorem ggX10_openBrackets_X9_isFull : GoodIn wsX10_openBrackets wsX9_isFull := goodIn_r _ [6, 7, 17, 18, 19, 20, 21, 22, 23, 24] (by decide +kernel) (by decide +kernel)
set_option maxRecDepth 20000 in
theorem gX10_openBrackets_X9_isFull : GoodIn wsX10_openBrackets (wsV RX10 122 RX9 yX9_isFull wsX9_isFull) := goodIn_app (goodIn_of _ (by decide +kernel)) ggX10_openBrackets_X9_isFull
theorem dX10_openBrackets_0 : decode cX10_openBrackets 0 = .ok (.aload_n 1, 1) := by decide +kernel
theorem dX10_openBrackets_1 : decode cX10_openBrackets 1 = .ok (.invokevirtual 122, 3) := by decide +kernel
theorem dX10_openBrackets_4 : decode cX10_openBrackets 4 = .ok (.ifCond .eq 5, 3) := by decide +kernel
theorem dX10_openBrackets_7 : decode cX10_openBrackets 7 = .ok (.iconst 4, 1) := by decide +kernel
theorem dX10_openBrackets_8 : decode cX10_openBrackets 8 = .ok (.ireturn, 1) := by decide +kernel
theorem dX10_openBrackets_9 : decode cX10_openBrackets 9 = .ok (.aload_n 0, 1) := by decide +kernel
theorem dX10_openBrackets_10 : decode cX10_openBrackets 10 = .ok (.iconst 1, 1) := by decide +kernel
theorem dX10_openBrackets_11 : decode cX10_openBrackets 11 = .ok (.putfield 28, 3) := by decide +kernel
theorem dX10_openBrackets_14 : decode cX10_openBrackets 14 = .ok (.iconst 0, 1) := by decide +kernel
theorem dX10_openBrackets_15 : decode cX10_openBrackets 15 = .ok (.ireturn, 1) := by decide +kernel
set_option maxRecDepth 20000 in
theorem ggX10_openGroup_X2_closeItem : GoodIn wsX10_openGroup wsX2_closeItem := goodIn_r _ [7, 8, 9, 10, 11, 12, 13, 14, 15, 16, 17, 18, 19, 20, 21, 22, 23, 24, 25, 26, 27, 28, 29, 30, 31, 46, 47, 48, 49, 50, 51, 52, 53, 54, 55, 56, 57, 58, 59, 60] (by decide +kernel) (by decide +kernel)
set_option maxRecDepth 20000 in
theorem gX10_openGroup_X2_closeItem : GoodIn wsX10_openGroup (wsV RX10 126 RX2 yX2_closeItem wsX2_closeItem) := goodIn_app (goodIn_of _ (by decide +kernel)) ggX10_openGroup_X2_closeItem
set_option maxRecDepth 20000 in
theorem ggX10_openGroup_X2_begin : GoodIn wsX10_openGroup wsX2_begin := goodIn_r _ [35, 36, 8, 10, 12, 28, 29, 30, 23, 31, 25, 26, 27, 46, 47, 48, 49, 50, 51, 52] (by decide +kernel) (by decide +kernel)
set_option maxRecDepth 20000 in
theorem gX10_openGroup_X2_begin : GoodIn wsX10_openGroup (wsV RX10 31 RX2 yX2_begin wsX2_begin) := goodIn_app (goodIn_of _ (by decide +kernel)) ggX10_openGroup_X2_begin
theorem dX10_openGroup_0 : decode cX10_openGroup 0 = .ok (.aload_n 0, 1) := by decide +kernel
theorem dX10_openGroup_1 : decode cX10_openGroup 1 = .ok (.getfield 25, 3) := by decide +kernel
theorem dX10_openGroup_4 : decode cX10_openGroup 4 = .ok (.bipush 8, 2) := by decide +kernel
theorem dX10_openGroup_6 : decode cX10_openGroup 6 = .ok (.if_icmp .lt 5, 3) := by decide +kernel
theorem dX10_openGroup_9 : decode cX10_openGroup 9 = .ok (.iconst 4, 1) := by decide +kernel
theorem dX10_openGroup_10 : decode cX10_openGroup 10 = .ok (.ireturn, 1) := by decide +kernel
theorem dX10_openGroup_11 : decode cX10_openGroup 11 = .ok (.aload_n 0, 1) := by decide +kernel
theorem dX10_openGroup_12 : decode cX10_openGroup 12 = .ok (.getfield 11, 3) := by decide +kernel
theorem dX10_openGroup_15 : decode cX10_openGroup 15 = .ok (.aload_n 0, 1) := by decide +kernel
theorem dX10_openGroup_16 : decode cX10_openGroup 16 = .ok (.getfield 25, 3) := by decide +kernel
theorem dX10_openGroup_19 : decode cX10_openGroup 19 = .ok (.aaload, 1) := by decide +kernel
theorem dX10_openGroup_20 : decode cX10_openGroup 20 = .ok (.aload_n 1, 1) := by decide +kernel
theorem dX10_openGroup_21 : decode cX10_openGroup 21 = .ok (.invokevirtual 126, 3) := by decide +kernel
theorem dX10_openGroup_24 : decode cX10_openGroup 24 = .ok (.aload_n 0, 1) := by decide +kernel
theorem dX10_openGroup_25 : decode cX10_openGroup 25 = .ok (.dup, 1) := by decide +kernel
theorem dX10_openGroup_26 : decode cX10_openGroup 26 = .ok (.getfield 25, 3) := by decide +kernel
theorem dX10_openGroup_29 : decode cX10_openGroup 29 = .ok (.iconst 1, 1) := by decide +kernel
theorem dX10_openGroup_30 : decode cX10_openGroup 30 = .ok (.iadd, 1) := by decide +kernel
theorem dX10_openGroup_31 : decode cX10_openGroup 31 = .ok (.putfield 25, 3) := by decide +kernel
theorem dX10_openGroup_34 : decode cX10_openGroup 34 = .ok (.aload_n 0, 1) := by decide +kernel
theorem dX10_openGroup_35 : decode cX10_openGroup 35 = .ok (.getfield 11, 3) := by decide +kernel
theorem dX10_openGroup_38 : decode cX10_openGroup 38 = .ok (.aload_n 0, 1) := by decide +kernel
theorem dX10_openGroup_39 : decode cX10_openGroup 39 = .ok (.getfield 25, 3) := by decide +kernel
theorem dX10_openGroup_42 : decode cX10_openGroup 42 = .ok (.aaload, 1) := by decide +kernel
theorem dX10_openGroup_43 : decode cX10_openGroup 43 = .ok (.invokevirtual 31, 3) := by decide +kernel
theorem dX10_openGroup_46 : decode cX10_openGroup 46 = .ok (.iconst 0, 1) := by decide +kernel
theorem dX10_openGroup_47 : decode cX10_openGroup 47 = .ok (.ireturn, 1) := by decide +kernel
set_option maxRecDepth 20000 in
theorem ggX10_closeGroup_X2_closeSeq : GoodIn wsX10_closeGroup wsX2_closeSeq := goodIn_r _ [13, 14, 15, 16, 17, 18, 12, 19, 20, 21, 22, 23, 24, 25, 26, 27, 28, 29, 30, 31, 32, 33, 34, 35, 36, 37, 38, 39, 40, 41, 42, 43, 44, 45, 46, 57, 58, 59, 60, 61, 62, 63, 64, 65, 66, 67, 68, 69, 70, 71] (by decide +kernel) (by decide +kernel)
set_option maxRecDepth 20000 in
theorem gX10_closeGroup_X2_closeSeq : GoodIn wsX10_closeGroup (wsV RX10 47 RX2 yX2_closeSeq wsX2_closeSeq) := goodIn_app (goodIn_of _ (by decide +kernel)) ggX10_closeGroup_X2_closeSeq
set_option maxRecDepth 20000 in
theorem ggX10_closeGroup_X5_become : GoodIn wsX10_closeGroup wsX5_become := goodIn_r _ [42, 36, 37, 38, 61, 62, 63] (by decide +kernel) (by decide +kernel)
set_option maxRecDepth 20000 in
theorem gX10_closeGroup_X5_become : GoodIn wsX10_closeGroup (wsV RX10 136 RX5 yX5_become wsX5_become) := goodIn_app (goodIn_of _ (by decide +kernel)) ggX10_closeGroup_X5_become
theorem dX10_closeGroup_0 : decode cX10_closeGroup 0 = .ok (.aload_n 0, 1) := by decide +kernel
theorem dX10_closeGroup_1 : decode cX10_closeGroup 1 = .ok (.getfield 25, 3) := by decide +kernel
theorem dX10_closeGroup_4 : decode cX10_closeGroup 4 = .ok (.ifCond .ne 5, 3) := by decide +kernel
theorem dX10_closeGroup_7 : decode cX10_closeGroup 7 = .ok (.iconst 2, 1) := by decide +kernel
theorem dX10_closeGroup_8 : decode cX10_closeGroup 8 = .ok (.ireturn, 1) := by decide +kernel
theorem dX10_closeGroup_9 : decode cX10_closeGroup 9 = .ok (.aload_n 0, 1) := by decide +kernel
theorem dX10_closeGroup_10 : decode cX10_closeGroup 10 = .ok (.getfield 11, 3) := by decide +kernel
theorem dX10_closeGroup_13 : decode cX10_closeGroup 13 = .ok (.aload_n 0, 1) := by decide +kernel
theorem dX10_closeGroup_14 : decode cX10_closeGroup 14 = .ok (.getfield 25, 3) := by decide +kernel
theorem dX10_closeGroup_17 : decode cX10_closeGroup 17 = .ok (.aaload, 1) := by decide +kernel
theorem dX10_closeGroup_18 : decode cX10_closeGroup 18 = .ok (.astore_n 2, 1) := by decide +kernel
theorem dX10_closeGroup_19 : decode cX10_closeGroup 19 = .ok (.aload_n 2, 1) := by decide +kernel
theorem dX10_closeGroup_20 : decode cX10_closeGroup 20 = .ok (.aload_n 1, 1) := by decide +kernel
theorem dX10_closeGroup_21 : decode cX10_closeGroup 21 = .ok (.invokevirtual 47, 3) := by decide +kernel
theorem dX10_closeGroup_24 : decode cX10_closeGroup 24 = .ok (.aload_n 0, 1) := by decide +kernel
theorem dX10_closeGroup_25 : decode cX10_closeGroup 25 = .ok (.dup, 1) := by decide +kernel
theorem dX10_closeGroup_26 : decode cX10_closeGroup 26 = .ok (.getfield 25, 3) := by decide +kernel
theorem dX10_closeGroup_29 : decode cX10_closeGroup 29 = .ok (.iconst 1, 1) := by decide +kernel
theorem dX10_closeGroup_30 : decode cX10_closeGroup 30 = .ok (.isub, 1) := by decide +kernel
theorem dX10_closeGroup_31 : decode cX10_closeGroup 31 = .ok (.putfield 25, 3) := by decide +kernel
theorem dX10_closeGroup_34 : decode cX10_closeGroup 34 = .ok (.aload_n 0, 1) := by decide +kernel
theorem dX10_closeGroup_35 : decode cX10_closeGroup 35 = .ok (.getfield 11, 3) := by decide +kernel
theorem dX10_closeGroup_38 : decode cX10_closeGroup 38 = .ok (.aload_n 0, 1) := by decide +kernel
theorem dX10_closeGroup_39 : decode cX10_closeGroup 39 = .ok (.getfield 25, 3) := by decide +kernel
theorem dX10_closeGroup_42 : decode cX10_closeGroup 42 = .ok (.aaload, 1) := by decide +kernel
theorem dX10_closeGroup_43 : decode cX10_closeGroup 43 = .ok (.astore_n 3, 1) := by decide +kernel
theorem dX10_closeGroup_44 : decode cX10_closeGroup 44 = .ok (.aload_n 3, 1) := by decide +kernel
theorem dX10_closeGroup_45 : decode cX10_closeGroup 45 = .ok (.getfield 133, 3) := by decide +kernel
theorem dX10_closeGroup_48 : decode cX10_closeGroup 48 = .ok (.aload_n 2, 1) := by decide +kernel
theorem dX10_closeGroup_49 : decode cX10_closeGroup 49 = .ok (.getfield 51, 3) := by decide +kernel
theorem dX10_closeGroup_52 : decode cX10_closeGroup 52 = .ok (.getfield 144, 3) := by decide +kernel
theorem dX10_closeGroup_55 : decode cX10_closeGroup 55 = .ok (.aload_n 2, 1) := by decide +kernel
theorem dX10_closeGroup_56 : decode cX10_closeGroup 56 = .ok (.getfield 51, 3) := by decide +kernel
theorem dX10_closeGroup_59 : decode cX10_closeGroup 59 = .ok (.getfield 55, 3) := by decide +kernel
theorem dX10_closeGroup_62 : decode cX10_closeGroup 62 = .ok (.aload_n 2, 1) := by decide +kernel
theorem dX10_closeGroup_63 : decode cX10_closeGroup 63 = .ok (.getfield 51, 3) := by decide +kernel
theorem dX10_closeGroup_66 : decode cX10_closeGroup 66 = .ok (.getfield 62, 3) := by decide +kernel
theorem dX10_closeGroup_69 : decode cX10_closeGroup 69 = .ok (.invokevirtual 136, 3) := by decide +kernel
theorem dX10_closeGroup_72 : decode cX10_closeGroup 72 = .ok (.aload_n 3, 1) := by decide +kernel
theorem dX10_closeGroup_73 : decode cX10_closeGroup 73 = .ok (.iconst 1, 1) := by decide +kernel
theorem dX10_closeGroup_74 : decode cX10_closeGroup 74 = .ok (.putfield 140, 3) := by decide +kernel
theorem dX10_closeGroup_77 : decode cX10_closeGroup 77 = .ok (.iconst 0, 1) := by decide +kernel
theorem dX10_closeGroup_78 : decode cX10_closeGroup 78 = .ok (.ireturn, 1) := by decide +kernel
set_option maxRecDepth 20000 in
theorem ggX10_repeat_X9_link : GoodIn wsX10_repeat wsX9_link := goodIn_r _ [13, 14, 15, 32, 33, 34, 35, 36, 37, 38, 39] (by decide +kernel) (by decide +kernel)
set_option maxRecDepth 20000 in
theorem gX10_repeat_X9_link : GoodIn wsX10_repeat (wsV RX10 147 RX9 yX9_link wsX9_link) := goodIn_app (goodIn_of _ (by decide +kernel)) ggX10_repeat_X9_link
theorem dX10_repeat_0 : decode cX10_repeat 0 = .ok (.aload_n 0, 1) := by decide +kernel
theorem dX10_repeat_1 : decode cX10_repeat 1 = .ok (.getfield 11, 3) := by decide +kernel
theorem dX10_repeat_4 : decode cX10_repeat 4 = .ok (.aload_n 0, 1) := by decide +kernel
theorem dX10_repeat_5 : decode cX10_repeat 5 = .ok (.getfield 25, 3) := by decide +kernel
theorem dX10_repeat_8 : decode cX10_repeat 8 = .ok (.aaload, 1) := by decide +kernel
theorem dX10_repeat_9 : decode cX10_repeat 9 = .ok (.astore_n 2, 1) := by decide +kernel
theorem dX10_repeat_10 : decode cX10_repeat 10 = .ok (.aload_n 2, 1) := by decide +kernel
theorem dX10_repeat_11 : decode cX10_repeat 11 = .ok (.getfield 140, 3) := by decide +kernel
theorem dX10_repeat_14 : decode cX10_repeat 14 = .ok (.ifCond .ne 5, 3) := by decide +kernel
theorem dX10_repeat_17 : decode cX10_repeat 17 = .ok (.iconst 2, 1) := by decide +kernel
theorem dX10_repeat_18 : decode cX10_repeat 18 = .ok (.ireturn, 1) := by decide +kernel
theorem dX10_repeat_19 : decode cX10_repeat 19 = .ok (.aload_n 0, 1) := by decide +kernel
theorem dX10_repeat_20 : decode cX10_repeat 20 = .ok (.getfield 44, 3) := by decide +kernel
theorem dX10_repeat_23 : decode cX10_repeat 23 = .ok (.bipush 63, 2) := by decide +kernel
theorem dX10_repeat_25 : decode cX10_repeat 25 = .ok (.if_icmp .eq 21, 3) := by decide +kernel
theorem dX10_repeat_28 : decode cX10_repeat 28 = .ok (.aload_n 1, 1) := by decide +kernel
theorem dX10_repeat_29 : decode cX10_repeat 29 = .ok (.aload_n 2, 1) := by decide +kernel
theorem dX10_repeat_30 : decode cX10_repeat 30 = .ok (.getfield 133, 3) := by decide +kernel
theorem dX10_repeat_33 : decode cX10_repeat 33 = .ok (.getfield 62, 3) := by decide +kernel
theorem dX10_repeat_36 : decode cX10_repeat 36 = .ok (.aload_n 2, 1) := by decide +kernel
theorem dX10_repeat_37 : decode cX10_repeat 37 = .ok (.getfield 133, 3) := by decide +kernel
theorem dX10_repeat_40 : decode cX10_repeat 40 = .ok (.getfield 55, 3) := by decide +kernel
theorem dX10_repeat_43 : decode cX10_repeat 43 = .ok (.invokevirtual 147, 3) := by decide +kernel
theorem dX10_repeat_46 : decode cX10_repeat 46 = .ok (.aload_n 0, 1) := by decide +kernel
theorem dX10_repeat_47 : decode cX10_repeat 47 = .ok (.getfield 44, 3) := by decide +kernel
theorem dX10_repeat_50 : decode cX10_repeat 50 = .ok (.bipush 43, 2) := by decide +kernel
theorem dX10_repeat_52 : decode cX10_repeat 52 = .ok (.if_icmp .eq 11, 3) := by decide +kernel
theorem dX10_repeat_55 : decode cX10_repeat 55 = .ok (.aload_n 2, 1) := by decide +kernel
theorem dX10_repeat_56 : decode cX10_repeat 56 = .ok (.getfield 133, 3) := by decide +kernel
theorem dX10_repeat_59 : decode cX10_repeat 59 = .ok (.iconst 1, 1) := by decide +kernel
theorem dX10_repeat_60 : decode cX10_repeat 60 = .ok (.putfield 144, 3) := by decide +kernel
theorem dX10_repeat_63 : decode cX10_repeat 63 = .ok (.aload_n 2, 1) := by decide +kernel
theorem dX10_repeat_64 : decode cX10_repeat 64 = .ok (.iconst 0, 1) := by decide +kernel
theorem dX10_repeat_65 : decode cX10_repeat 65 = .ok (.putfield 140, 3) := by decide +kernel
theorem dX10_repeat_68 : decode cX10_repeat 68 = .ok (.iconst 0, 1) := by decide +kernel
theorem dX10_repeat_69 : decode cX10_repeat 69 = .ok (.ireturn, 1) := by decide +kernel
set_option maxRecDepth 20000 in
theorem ggX11_init_X4_init : GoodIn wsX11_init wsX4_init := goodIn_r _ [43, 44, 2, 3, 9, 45, 46, 142, 143, 144] (by decide +kernel) (by decide +kernel)
set_option maxRecDepth 20000 in
theorem gX11_init_X4_init : GoodIn wsX11_init (wsX4_init) := ggX11_init_X4_init
set_option maxRecDepth 20000 in
theorem ggX11_init_J7_fill_53178 : GoodIn wsX11_init wsJ7_fill_53178 := goodIn_r _ [50] (by decide +kernel) (by decide +kernel)
set_option maxRecDepth 20000 in
theorem gX11_init_J7_fill_53178 : GoodIn wsX11_init (va_wsS RX11 26 yJ7_fill_53178 wsJ7_fill_53178) := goodIn_app (goodIn_of _ (by decide +kernel)) ggX11_init_J7_fill_53178
set_option maxRecDepth 20000 in
theorem ggX11_init_X7_init : GoodIn wsX11_init wsX7_init := goodIn_r _ [52, 53, 2, 3, 9, 54, 145, 146] (by decide +kernel) (by decide +kernel)
set_option maxRecDepth 20000 in
theorem gX11_init_X7_init_n34 : GoodIn wsX11_init (wsX7_init) := ggX11_init_X7_init
set_option maxRecDepth 20000 in
theorem ggX11_init_X10_init : GoodIn wsX11_init wsX10_init := goodIn_r _ [57, 58, 2, 3, 59, 60, 61, 62, 63, 64, 65, 66, 67, 68, 69, 70, 71, 72, 73, 74, 147, 148, 149, 150, 151, 152, 153, 154, 155, 190, 191, 192, 193, 194, 195, 196] (by decide +kernel) (by decide +kernel)
set_option maxRecDepth 20000 in
theorem gX11_init_X10_init : GoodIn wsX11_init (wsX10_init) := ggX11_init_X10_init
set_option maxRecDepth 20000 in
theorem ggX11_init_X9_init : GoodIn wsX11_init wsX9_init := goodIn_r _ [76, 77, 2, 3, 9, 78, 79, 80, 81, 82, 156, 157, 158, 159, 160, 161, 162, 163] (by decide +kernel) (by decide +kernel)
set_option maxRecDepth 20000 in
theorem gX11_init_X9_init_n48 : GoodIn wsX11_init (wsX9_init) := ggX11_init_X9_init
set_option maxRecDepth 20000 in
theorem ggX11_init_X6_init : GoodIn wsX11_init wsX6_init := goodIn_r _ [84, 85, 2, 3, 9, 86, 164, 165] (by decide +kernel) (by decide +kernel)
set_option maxRecDepth 20000 in
theorem gX11_init_X6_init_n58 : GoodIn wsX11_init (wsX6_init) := ggX11_init_X6_init
set_option maxRecDepth 20000 in
theorem ggX11_init_X8_init : GoodIn wsX11_init wsX8_init := goodIn_r _ [88, 89, 2, 3, 90, 9, 91, 92, 93, 94, 166, 167, 168, 169, 170, 171, 172, 173, 174, 175] (by decide +kernel) (by decide +kernel)
set_option maxRecDepth 20000 in
theorem gX11_init_X8_init_n65 : GoodIn wsX11_init (wsX8_init) := ggX11_init_X8_init
set_option maxRecDepth 20000 in
theorem ggX11_init_X1_init : GoodIn wsX11_init wsX1_init := goodIn_r _ [96, 97, 2, 3, 98, 9, 99, 100, 176, 177, 178] (by decide +kernel) (by decide +kernel)
set_option maxRecDepth 20000 in
theorem gX11_init_X1_init_n72 : GoodIn wsX11_init (wsX1_init) := ggX11_init_X1_init
set_option maxRecDepth 20000 in
theorem ggX11_init_X0_init : GoodIn wsX11_init wsX0_init := goodIn_r _ [102, 103, 2, 3, 104, 105, 106, 107, 108, 109, 9, 110, 111, 112, 113, 114, 115, 116, 117, 118, 119, 120, 121, 122, 123, 124, 125, 197, 198, 199, 200, 201, 179, 180, 181, 182, 183, 184, 185, 186, 187, 188, 189] (by decide +kernel) (by decide +kernel)
set_option maxRecDepth 20000 in
theorem gX11_init_X0_init_n79 : GoodIn wsX11_init (wsX0_init) := ggX11_init_X0_init
theorem dX11_init_0 : decode cX11_init 0 = .ok (.aload_n 0, 1) := by decide +kernel
theorem dX11_init_1 : decode cX11_init 1 = .ok (.invokespecial 1, 3) := by decide +kernel
theorem dX11_init_4 : decode cX11_init 4 = .ok (.aload_n 0, 1) := by decide +kernel
theorem dX11_init_5 : decode cX11_init 5 = .ok (.bipush 8, 2) := by decide +kernel
theorem dX11_init_7 : decode cX11_init 7 = .ok (.anewarray 9, 3) := by decide +kernel
theorem dX11_init_10 : decode cX11_init 10 = .ok (.putfield 11, 3) := by decide +kernel
theorem dX11_init_13 : decode cX11_init 13 = .ok (.iconst 0, 1) := by decide +kernel
theorem dX11_init_14 : decode cX11_init 14 = .ok (.istore_n 1, 1) := by decide +kernel
theorem dX11_init_15 : decode cX11_init 15 = .ok (.iload_n 1, 1) := by decide +kernel
theorem dX11_init_16 : decode cX11_init 16 = .ok (.bipush 8, 2) := by decide +kernel
theorem dX11_init_18 : decode cX11_init 18 = .ok (.if_icmp .ge 24, 3) := by decide +kernel
theorem dX11_init_21 : decode cX11_init 21 = .ok (.aload_n 0, 1) := by decide +kernel
theorem dX11_init_22 : decode cX11_init 22 = .ok (.getfield 11, 3) := by decide +kernel
theorem dX11_init_25 : decode cX11_init 25 = .ok (.iload_n 1, 1) := by decide +kernel
theorem dX11_init_26 : decode cX11_init 26 = .ok (.new 9, 3) := by decide +kernel
theorem dX11_init_29 : decode cX11_init 29 = .ok (.dup, 1) := by decide +kernel
theorem dX11_init_30 : decode cX11_init 30 = .ok (.bipush 24, 2) := by decide +kernel
theorem dX11_init_32 : decode cX11_init 32 = .ok (.invokespecial 15, 3) := by decide +kernel
theorem dX11_init_35 : decode cX11_init 35 = .ok (.aastore, 1) := by decide +kernel
theorem dX11_init_36 : decode cX11_init 36 = .ok (.iinc 1 1, 3) := by decide +kernel
theorem dX11_init_39 : decode cX11_init 39 = .ok (.goto (-24), 3) := by decide +kernel
theorem dX11_init_42 : decode cX11_init 42 = .ok (.aload_n 0, 1) := by decide +kernel
theorem dX11_init_43 : decode cX11_init 43 = .ok (.new 9, 3) := by decide +kernel
theorem dX11_init_46 : decode cX11_init 46 = .ok (.dup, 1) := by decide +kernel
theorem dX11_init_47 : decode cX11_init 47 = .ok (.bipush 12, 2) := by decide +kernel
theorem dX11_init_49 : decode cX11_init 49 = .ok (.invokespecial 15, 3) := by decide +kernel
theorem dX11_init_52 : decode cX11_init 52 = .ok (.putfield 18, 3) := by decide +kernel
theorem dX11_init_55 : decode cX11_init 55 = .ok (.aload_n 0, 1) := by decide +kernel
theorem dX11_init_56 : decode cX11_init 56 = .ok (.bipush 8, 2) := by decide +kernel
theorem dX11_init_58 : decode cX11_init 58 = .ok (.newarray .int, 2) := by decide +kernel
theorem dX11_init_60 : decode cX11_init 60 = .ok (.putfield 22, 3) := by decide +kernel
theorem dX11_init_63 : decode cX11_init 63 = .ok (.aload_n 0, 1) := by decide +kernel
theorem dX11_init_64 : decode cX11_init 64 = .ok (.getfield 22, 3) := by decide +kernel
theorem dX11_init_67 : decode cX11_init 67 = .ok (.iconst 1, 1) := by decide +kernel
theorem dX11_init_68 : decode cX11_init 68 = .ok (.invokestatic 26, 3) := by decide +kernel
theorem dX11_init_71 : decode cX11_init 71 = .ok (.aload_n 0, 1) := by decide +kernel
theorem dX11_init_72 : decode cX11_init 72 = .ok (.new 32, 3) := by decide +kernel
theorem dX11_init_75 : decode cX11_init 75 = .ok (.dup, 1) := by decide +kernel
theorem dX11_init_76 : decode cX11_init 76 = .ok (.invokespecial 34, 3) := by decide +kernel
theorem dX11_init_79 : decode cX11_init 79 = .ok (.putfield 35, 3) := by decide +kernel
theorem dX11_init_82 : decode cX11_init 82 = .ok (.aload_n 0, 1) := by decide +kernel
theorem dX11_init_83 : decode cX11_init 83 = .ok (.new 39, 3) := by decide +kernel
theorem dX11_init_86 : decode cX11_init 86 = .ok (.dup, 1) := by decide +kernel
theorem dX11_init_87 : decode cX11_init 87 = .ok (.invokespecial 41, 3) := by decide +kernel
theorem dX11_init_90 : decode cX11_init 90 = .ok (.putfield 42, 3) := by decide +kernel
theorem dX11_init_93 : decode cX11_init 93 = .ok (.aload_n 0, 1) := by decide +kernel
theorem dX11_init_94 : decode cX11_init 94 = .ok (.new 46, 3) := by decide +kernel
theorem dX11_init_97 : decode cX11_init 97 = .ok (.dup, 1) := by decide +kernel
theorem dX11_init_98 : decode cX11_init 98 = .ok (.invokespecial 48, 3) := by decide +kernel
theorem dX11_init_101 : decode cX11_init 101 = .ok (.putfield 49, 3) := by decide +kernel
theorem dX11_init_104 : decode cX11_init 104 = .ok (.aload_n 0, 1) := by decide +kernel
theorem dX11_init_105 : decode cX11_init 105 = .ok (.new 46, 3) := by decide +kernel
theorem dX11_init_108 : decode cX11_init 108 = .ok (.dup, 1) := by decide +kernel
theorem dX11_init_109 : decode cX11_init 109 = .ok (.invokespecial 48, 3) := by decide +kernel
theorem dX11_init_112 : decode cX11_init 112 = .ok (.putfield 53, 3) := by decide +kernel
theorem dX11_init_115 : decode cX11_init 115 = .ok (.aload_n 0, 1) := by decide +kernel
theorem dX11_init_116 : decode cX11_init 116 = .ok (.new 56, 3) := by decide +kernel
theorem dX11_init_119 : decode cX11_init 119 = .ok (.dup, 1) := by decide +kernel
theorem dX11_init_120 : decode cX11_init 120 = .ok (.invokespecial 58, 3) := by decide +kernel
theorem dX11_init_123 : decode cX11_init 123 = .ok (.putfield 59, 3) := by decide +kernel
theorem dX11_init_126 : decode cX11_init 126 = .ok (.aload_n 0, 1) := by decide +kernel
theorem dX11_init_127 : decode cX11_init 127 = .ok (.new 63, 3) := by decide +kernel
theorem dX11_init_130 : decode cX11_init 130 = .ok (.dup, 1) := by decide +kernel
theorem dX11_init_131 : decode cX11_init 131 = .ok (.invokespecial 65, 3) := by decide +kernel
theorem dX11_init_134 : decode cX11_init 134 = .ok (.putfield 66, 3) := by decide +kernel
theorem dX11_init_137 : decode cX11_init 137 = .ok (.aload_n 0, 1) := by decide +kernel
theorem dX11_init_138 : decode cX11_init 138 = .ok (.new 70, 3) := by decide +kernel
theorem dX11_init_141 : decode cX11_init 141 = .ok (.dup, 1) := by decide +kernel
theorem dX11_init_142 : decode cX11_init 142 = .ok (.invokespecial 72, 3) := by decide +kernel
theorem dX11_init_145 : decode cX11_init 145 = .ok (.putfield 73, 3) := by decide +kernel
theorem dX11_init_148 : decode cX11_init 148 = .ok (.aload_n 0, 1) := by decide +kernel
theorem dX11_init_149 : decode cX11_init 149 = .ok (.new 77, 3) := by decide +kernel
theorem dX11_init_152 : decode cX11_init 152 = .ok (.dup, 1) := by decide +kernel
theorem dX11_init_153 : decode cX11_init 153 = .ok (.invokespecial 79, 3) := by decide +kernel
theorem dX11_init_156 : decode cX11_init 156 = .ok (.putfield 80, 3) := by decide +kernel
theorem dX11_init_159 : decode cX11_init 159 = .ok (.aload_n 0, 1) := by decide +kernel
theorem dX11_init_160 : decode cX11_init 160 = .ok (.bipush 8, 2) := by decide +kernel
theorem dX11_init_162 : decode cX11_init 162 = .ok (.newarray .int, 2) := by decide +kernel
theorem dX11_init_164 : decode cX11_init 164 = .ok (.putfield 84, 3) := by decide +kernel
theorem dX11_init_167 : decode cX11_init 167 = .ok (.return_, 1) := by decide +kernel
theorem dX11_tune_0 : decode cX11_tune 0 = .ok (.aload_n 0, 1) := by decide +kernel
theorem dX11_tune_1 : decode cX11_tune 1 = .ok (.getfield 87, 3) := by decide +kernel
theorem dX11_tune_4 : decode cX11_tune 4 = .ok (.bipush 8, 2) := by decide +kernel
theorem dX11_tune_6 : decode cX11_tune 6 = .ok (.if_icmp .lt 6, 3) := by decide +kernel
theorem dX11_tune_9 : decode cX11_tune 9 = .ok (.bipush (-3), 2) := by decide +kernel
theorem dX11_tune_11 : decode cX11_tune 11 = .ok (.ireturn, 1) := by decide +kernel
theorem dX11_tune_12 : decode cX11_tune 12 = .ok (.aload_n 0, 1) := by decide +kernel
theorem dX11_tune_13 : decode cX11_tune 13 = .ok (.dup, 1) := by decide +kernel
theorem dX11_tune_14 : decode cX11_tune 14 = .ok (.getfield 87, 3) := by decide +kernel
theorem dX11_tune_17 : decode cX11_tune 17 = .ok (.iconst 1, 1) := by decide +kernel
theorem dX11_tune_18 : decode cX11_tune 18 = .ok (.iadd, 1) := by decide +kernel
theorem dX11_tune_19 : decode cX11_tune 19 = .ok (.putfield 87, 3) := by decide +kernel
theorem dX11_tune_22 : decode cX11_tune 22 = .ok (.aload_n 0, 1) := by decide +kernel
theorem dX11_tune_23 : decode cX11_tune 23 = .ok (.getfield 87, 3) := by decide +kernel
theorem dX11_tune_26 : decode cX11_tune 26 = .ok (.iconst 1, 1) := by decide +kernel
theorem dX11_tune_27 : decode cX11_tune 27 = .ok (.isub, 1) := by decide +kernel
theorem dX11_tune_28 : decode cX11_tune 28 = .ok (.ireturn, 1) := by decide +kernel
set_option maxRecDepth 20000 in
theorem ggX11_note_X11_isTune : GoodIn wsX11_note wsX11_isTune := goodIn_r _ [6, 7, 24, 25, 26, 27, 28, 29, 30, 31, 32, 33, 34, 35, 36, 37, 38, 39] (by decide +kernel) (by decide +kernel)
set_option maxRecDepth 20000 in
theorem gX11_note_X11_isTune : GoodIn wsX11_note (wsV RX11 91 RX11 yX11_isTune wsX11_isTune) := goodIn_app (goodIn_of _ (by decide +kernel)) ggX11_note_X11_isTune
set_option maxRecDepth 20000 in
theorem ggX11_note_X11_addNote : GoodIn wsX11_note wsX11_addNote := goodIn_r _ [10, 11, 12, 13, 14, 15, 16, 17, 18, 19, 20, 21, 22, 23, 40, 41, 42] (by decide +kernel) (by decide +kernel)
set_option maxRecDepth 20000 in
theorem gX11_note_X11_addNote : GoodIn wsX11_note (va_wsS RX11 95 yX11_addNote wsX11_addNote) := goodIn_app (goodIn_of _ (by decide +kernel)) ggX11_note_X11_addNote
theorem dX11_note_0 : decode cX11_note 0 = .ok (.aload_n 0, 1) := by decide +kernel
theorem dX11_note_1 : decode cX11_note 1 = .ok (.iload_n 1, 1) := by decide +kernel
theorem dX11_note_2 : decode cX11_note 2 = .ok (.invokevirtual 91, 3) := by decide +kernel
theorem dX11_note_5 : decode cX11_note 5 = .ok (.ifCond .ne 5, 3) := by decide +kernel
theorem dX11_note_8 : decode cX11_note 8 = .ok (.iconst (-1), 1) := by decide +kernel
theorem dX11_note_9 : decode cX11_note 9 = .ok (.ireturn, 1) := by decide +kernel
theorem dX11_note_10 : decode cX11_note 10 = .ok (.aload_n 0, 1) := by decide +kernel
theorem dX11_note_11 : decode cX11_note 11 = .ok (.getfield 11, 3) := by decide +kernel
theorem dX11_note_14 : decode cX11_note 14 = .ok (.iload_n 1, 1) := by decide +kernel
theorem dX11_note_15 : decode cX11_note 15 = .ok (.aaload, 1) := by decide +kernel
theorem dX11_note_16 : decode cX11_note 16 = .ok (.iload_n 2, 1) := by decide +kernel
theorem dX11_note_17 : decode cX11_note 17 = .ok (.iload_n 3, 1) := by decide +kernel
theorem dX11_note_18 : decode cX11_note 18 = .ok (.invokestatic 95, 3) := by decide +kernel
theorem dX11_note_21 : decode cX11_note 21 = .ok (.ireturn, 1) := by decide +kernel
set_option maxRecDepth 20000 in
theorem ggX11_query_X11_addNote : GoodIn wsX11_query wsX11_addNote := goodIn_r _ [5, 6, 7, 8, 9, 10, 11, 12, 13, 14, 15, 16, 17, 18, 35, 36, 37] (by decide +kernel) (by decide +kernel)
set_option maxRecDepth 20000 in
theorem gX11_query_X11_addNote : GoodIn wsX11_query (va_wsS RX11 95 yX11_addNote wsX11_addNote) := goodIn_app (goodIn_of _ (by decide +kernel)) ggX11_query_X11_addNote
theorem dX11_query_0 : decode cX11_query 0 = .ok (.aload_n 0, 1) := by decide +kernel
theorem dX11_query_1 : decode cX11_query 1 = .ok (.getfield 18, 3) := by decide +kernel
theorem dX11_query_4 : decode cX11_query 4 = .ok (.iload_n 1, 1) := by decide +kernel
theorem dX11_query_5 : decode cX11_query 5 = .ok (.iload_n 2, 1) := by decide +kernel
theorem dX11_query_6 : decode cX11_query 6 = .ok (.invokestatic 95, 3) := by decide +kernel
theorem dX11_query_9 : decode cX11_query 9 = .ok (.ireturn, 1) := by decide +kernel
theorem dX11_forget_0 : decode cX11_forget 0 = .ok (.aload_n 0, 1) := by decide +kernel
theorem dX11_forget_1 : decode cX11_forget 1 = .ok (.getfield 18, 3) := by decide +kernel
theorem dX11_forget_4 : decode cX11_forget 4 = .ok (.getfield 99, 3) := by decide +kernel
theorem dX11_forget_7 : decode cX11_forget 7 = .ok (.istore_n 1, 1) := by decide +kernel
theorem dX11_forget_8 : decode cX11_forget 8 = .ok (.aload_n 0, 1) := by decide +kernel
theorem dX11_forget_9 : decode cX11_forget 9 = .ok (.getfield 18, 3) := by decide +kernel
theorem dX11_forget_12 : decode cX11_forget 12 = .ok (.iconst 0, 1) := by decide +kernel
theorem dX11_forget_13 : decode cX11_forget 13 = .ok (.putfield 99, 3) := by decide +kernel
theorem dX11_forget_16 : decode cX11_forget 16 = .ok (.iload_n 1, 1) := by decide +kernel
theorem dX11_forget_17 : decode cX11_forget 17 = .ok (.ireturn, 1) := by decide +kernel
theorem dX11_price_0 : decode cX11_price 0 = .ok (.iload_n 1, 1) := by decide +kernel
theorem dX11_price_1 : decode cX11_price 1 = .ok (.ifCond .lt 9, 3) := by decide +kernel
theorem dX11_price_4 : decode cX11_price 4 = .ok (.iload_n 1, 1) := by decide +kernel
theorem dX11_price_5 : decode cX11_price 5 = .ok (.bipush 8, 2) := by decide +kernel
theorem dX11_price_7 : decode cX11_price 7 = .ok (.if_icmp .lt 5, 3) := by decide +kernel
theorem dX11_price_10 : decode cX11_price 10 = .ok (.iconst (-1), 1) := by decide +kernel
theorem dX11_price_11 : decode cX11_price 11 = .ok (.ireturn, 1) := by decide +kernel
theorem dX11_price_12 : decode cX11_price 12 = .ok (.iload_n 2, 1) := by decide +kernel
theorem dX11_price_13 : decode cX11_price 13 = .ok (.ifCond .lt 10, 3) := by decide +kernel
theorem dX11_price_16 : decode cX11_price 16 = .ok (.iload_n 2, 1) := by decide +kernel
theorem dX11_price_17 : decode cX11_price 17 = .ok (.sipush 1000, 3) := by decide +kernel
theorem dX11_price_20 : decode cX11_price 20 = .ok (.if_icmp .le 6, 3) := by decide +kernel
theorem dX11_price_23 : decode cX11_price 23 = .ok (.bipush (-2), 2) := by decide +kernel
theorem dX11_price_25 : decode cX11_price 25 = .ok (.ireturn, 1) := by decide +kernel
theorem dX11_price_26 : decode cX11_price 26 = .ok (.aload_n 0, 1) := by decide +kernel
theorem dX11_price_27 : decode cX11_price 27 = .ok (.getfield 22, 3) := by decide +kernel
theorem dX11_price_30 : decode cX11_price 30 = .ok (.iload_n 1, 1) := by decide +kernel
theorem dX11_price_31 : decode cX11_price 31 = .ok (.iaload, 1) := by decide +kernel
theorem dX11_price_32 : decode cX11_price 32 = .ok (.istore_n 3, 1) := by decide +kernel
theorem dX11_price_33 : decode cX11_price 33 = .ok (.aload_n 0, 1) := by decide +kernel
theorem dX11_price_34 : decode cX11_price 34 = .ok (.getfield 22, 3) := by decide +kernel
theorem dX11_price_37 : decode cX11_price 37 = .ok (.iload_n 1, 1) := by decide +kernel
theorem dX11_price_38 : decode cX11_price 38 = .ok (.iload_n 2, 1) := by decide +kernel
theorem dX11_price_39 : decode cX11_price 39 = .ok (.iastore, 1) := by decide +kernel
theorem dX11_price_40 : decode cX11_price 40 = .ok (.iload_n 3, 1) := by decide +kernel
theorem dX11_price_41 : decode cX11_price 41 = .ok (.ireturn, 1) := by decide +kernel
set_option maxRecDepth 20000 in
theorem ggX11_type_X7_hasRoomFor : GoodIn wsX11_type wsX7_hasRoomFor := goodIn_r _ [7, 8, 30, 31] (by decide +kernel) (by decide +kernel)
set_option maxRecDepth 20000 in
theorem gX11_type_X7_hasRoomFor : GoodIn wsX11_type (wsV RX11 102 RX7 yX7_hasRoomFor wsX7_hasRoomFor) := goodIn_app (goodIn_of _ (by decide +kernel)) ggX11_type_X7_hasRoomFor
set_option maxRecDepth 20000 in
theorem ggX11_type_X7_append : GoodIn wsX11_type wsX7_append := goodIn_r _ [12, 13, 8, 30, 31] (by decide +kernel) (by decide +kernel)
set_option maxRecDepth 20000 in
theorem gX11_type_X7_append : GoodIn wsX11_type (wsV RX11 105 RX7 yX7_append wsX7_append) := goodIn_app (goodIn_of _ (by decide +kernel)) ggX11_type_X7_append
theorem dX11_type_0 : decode cX11_type 0 = .ok (.iload_n 3, 1) := by decide +kernel
theorem dX11_type_1 : decode cX11_type 1 = .ok (.iconst 1, 1) := by decide +kernel
theorem dX11_type_2 : decode cX11_type 2 = .ok (.if_icmp .lt 9, 3) := by decide +kernel
theorem dX11_type_5 : decode cX11_type 5 = .ok (.iload_n 3, 1) := by decide +kernel
theorem dX11_type_6 : decode cX11_type 6 = .ok (.bipush 8, 2) := by decide +kernel
theorem dX11_type_8 : decode cX11_type 8 = .ok (.if_icmp .le 6, 3) := by decide +kernel
theorem dX11_type_11 : decode cX11_type 11 = .ok (.bipush (-2), 2) := by decide +kernel
theorem dX11_type_13 : decode cX11_type 13 = .ok (.ireturn, 1) := by decide +kernel
theorem dX11_type_14 : decode cX11_type 14 = .ok (.aload_n 0, 1) := by decide +kernel
theorem dX11_type_15 : decode cX11_type 15 = .ok (.getfield 35, 3) := by decide +kernel
theorem dX11_type_18 : decode cX11_type 18 = .ok (.iload_n 3, 1) := by decide +kernel
theorem dX11_type_19 : decode cX11_type 19 = .ok (.invokevirtual 102, 3) := by decide +kernel
theorem dX11_type_22 : decode cX11_type 22 = .ok (.ifCond .ne 6, 3) := by decide +kernel
theorem dX11_type_25 : decode cX11_type 25 = .ok (.bipush (-3), 2) := by decide +kernel
theorem dX11_type_27 : decode cX11_type 27 = .ok (.ireturn, 1) := by decide +kernel
theorem dX11_type_28 : decode cX11_type 28 = .ok (.aload_n 0, 1) := by decide +kernel
theorem dX11_type_29 : decode cX11_type 29 = .ok (.getfield 35, 3) := by decide +kernel
theorem dX11_type_32 : decode cX11_type 32 = .ok (.lload_n 1, 1) := by decide +kernel
theorem dX11_type_33 : decode cX11_type 33 = .ok (.iload_n 3, 1) := by decide +kernel
theorem dX11_type_34 : decode cX11_type 34 = .ok (.invokevirtual 105, 3) := by decide +kernel
theorem dX11_type_37 : decode cX11_type 37 = .ok (.aload_n 0, 1) := by decide +kernel
theorem dX11_type_38 : decode cX11_type 38 = .ok (.getfield 35, 3) := by decide +kernel
theorem dX11_type_41 : decode cX11_type 41 = .ok (.getfield 109, 3) := by decide +kernel
theorem dX11_type_44 : decode cX11_type 44 = .ok (.ireturn, 1) := by decide +kernel
set_option maxRecDepth 20000 in
theorem ggX11_word_X10_read : GoodIn wsX11_word wsX10_read := goodIn_r _ [14, 15, 16, 17, 18, 19, 20, 21, 22, 23, 24, 25, 26, 27, 28, 29, 30, 31, 32, 33, 34, 35, 36, 37, 38, 39, 40, 41, 42, 43, 44, 45, 13, 46, 47, 48, 49, 50, 51, 52, 53, 54, 55, 56, 57, 58, 59, 60, 61, 62, 63, 64, 65, 66, 67, 68, 69, 70, 71, 72, 73, 74, 75, 76, 77, 78, 79, 80, 81, 82, 83, 84, 85, 86, 87, 88, 89, 90, 91, 92, 93, 94, 95, 96, 97, 98, 99, 100, 101, 102, 103, 104, 105, 106, 107, 108, 109, 110, 111, 112, 113, 114, 115, 116, 117, 118, 119, 120, 121, 122, 123, 124, 125, 126, 127, 128, 129, 130, 131, 132, 133, 134, 135, 136, 137, 138, 139, 167, 168, 169, 170, 171, 172, 173, 174, 158, 159, 160, 161, 162, 163, 164, 165, 166, 175, 176, 177, 178, 179, 180, 181, 156, 157] (by decide +kernel) (by decide +kernel)
set_option maxRecDepth 20000 in
theorem gX11_word_X10_read : GoodIn wsX11_word (wsV RX11 110 RX10 yX10_read wsX10_read) := goodIn_app (goodIn_of _ (by decide +kernel)) ggX11_word_X10_read
theorem dX11_word_0 : decode cX11_word 0 = .ok (.aload_n 0, 1) := by decide +kernel
theorem dX11_word_1 : decode cX11_word 1 = .ok (.aload_n 0, 1) := by decide +kernel
theorem dX11_word_2 : decode cX11_word 2 = .ok (.getfield 42, 3) := by decide +kernel
theorem dX11_word_5 : decode cX11_word 5 = .ok (.aload_n 0, 1) := by decide +kernel
theorem dX11_word_6 : decode cX11_word 6 = .ok (.getfield 35, 3) := by decide +kernel
theorem dX11_word_9 : decode cX11_word 9 = .ok (.aload_n 0, 1) := by decide +kernel
theorem dX11_word_10 : decode cX11_word 10 = .ok (.getfield 53, 3) := by decide +kernel
theorem dX11_word_13 : decode cX11_word 13 = .ok (.invokevirtual 110, 3) := by decide +kernel
theorem dX11_word_16 : decode cX11_word 16 = .ok (.putfield 114, 3) := by decide +kernel
theorem dX11_word_19 : decode cX11_word 19 = .ok (.aload_n 0, 1) := by decide +kernel
theorem dX11_word_20 : decode cX11_word 20 = .ok (.getfield 35, 3) := by decide +kernel
theorem dX11_word_23 : decode cX11_word 23 = .ok (.iconst 0, 1) := by decide +kernel
theorem dX11_word_24 : decode cX11_word 24 = .ok (.putfield 109, 3) := by decide +kernel
theorem dX11_word_27 : decode cX11_word 27 = .ok (.aload_n 0, 1) := by decide +kernel
theorem dX11_word_28 : decode cX11_word 28 = .ok (.getfield 114, 3) := by decide +kernel
theorem dX11_word_31 : decode cX11_word 31 = .ok (.ifCond .eq 14, 3) := by decide +kernel
theorem dX11_word_34 : decode cX11_word 34 = .ok (.bipush (-10), 2) := by decide +kernel
theorem dX11_word_36 : decode cX11_word 36 = .ok (.aload_n 0, 1) := by decide +kernel
theorem dX11_word_37 : decode cX11_word 37 = .ok (.getfield 42, 3) := by decide +kernel
theorem dX11_word_40 : decode cX11_word 40 = .ok (.getfield 117, 3) := by decide +kernel
theorem dX11_word_43 : decode cX11_word 43 = .ok (.isub, 1) := by decide +kernel
theorem dX11_word_44 : decode cX11_word 44 = .ok (.ireturn, 1) := by decide +kernel
theorem dX11_word_45 : decode cX11_word 45 = .ok (.aload_n 0, 1) := by decide +kernel
theorem dX11_word_46 : decode cX11_word 46 = .ok (.getfield 49, 3) := by decide +kernel
theorem dX11_word_49 : decode cX11_word 49 = .ok (.astore_n 1, 1) := by decide +kernel
theorem dX11_word_50 : decode cX11_word 50 = .ok (.aload_n 0, 1) := by decide +kernel
theorem dX11_word_51 : decode cX11_word 51 = .ok (.aload_n 0, 1) := by decide +kernel
theorem dX11_word_52 : decode cX11_word 52 = .ok (.getfield 53, 3) := by decide +kernel
theorem dX11_word_55 : decode cX11_word 55 = .ok (.putfield 49, 3) := by decide +kernel
theorem dX11_word_58 : decode cX11_word 58 = .ok (.aload_n 0, 1) := by decide +kernel
theorem dX11_word_59 : decode cX11_word 59 = .ok (.aload_n 1, 1) := by decide +kernel
theorem dX11_word_60 : decode cX11_word 60 = .ok (.putfield 53, 3) := by decide +kernel
theorem dX11_word_63 : decode cX11_word 63 = .ok (.aload_n 0, 1) := by decide +kernel
theorem dX11_word_64 : decode cX11_word 64 = .ok (.iconst 1, 1) := by decide +kernel
theorem dX11_word_65 : decode cX11_word 65 = .ok (.putfield 120, 3) := by decide +kernel
theorem dX11_word_68 : decode cX11_word 68 = .ok (.aload_n 0, 1) := by decide +kernel
theorem dX11_word_69 : decode cX11_word 69 = .ok (.getfield 49, 3) := by decide +kernel
theorem dX11_word_72 : decode cX11_word 72 = .ok (.getfield 124, 3) := by decide +kernel
theorem dX11_word_75 : decode cX11_word 75 = .ok (.ireturn, 1) := by decide +kernel
theorem dX11_fault_0 : decode cX11_fault 0 = .ok (.aload_n 0, 1) := by decide +kernel
theorem dX11_fault_1 : decode cX11_fault 1 = .ok (.getfield 114, 3) := by decide +kernel
theorem dX11_fault_4 : decode cX11_fault 4 = .ok (.ireturn, 1) := by decide +kernel
set_option maxRecDepth 20000 in
theorem ggX11_find_X11_findInTune : GoodIn wsX11_find wsX11_findInTune := goodIn_r _ [9, 10, 11, 12, 13, 1, 14, 15, 16, 17, 18, 19, 20, 21, 22, 23, 24, 25, 26, 27, 28, 29, 30, 31, 32, 33, 34, 35, 36, 37, 38, 39, 40, 41, 42, 43, 44, 45, 46, 47, 48, 49, 50, 51, 52, 53, 54, 55, 56, 57, 58, 59, 60, 61, 62, 63, 64, 65, 66, 67, 68, 69, 70, 71, 72, 73, 74, 75, 76, 77, 78, 79, 80, 81, 82, 83, 84, 85, 86, 87, 88, 89, 90, 91, 92, 96, 97, 98, 99, 100, 101, 102, 103, 104, 105, 106, 107, 108, 93, 94, 95] (by decide +kernel) (by decide +kernel)
set_option maxRecDepth 20000 in
theorem gX11_find_X11_findInTune : GoodIn wsX11_find (wsV RX11 128 RX11 yX11_findInTune wsX11_findInTune) := goodIn_app (goodIn_of _ (by decide +kernel)) ggX11_find_X11_findInTune
theorem dX11_find_0 : decode cX11_find 0 = .ok (.iload_n 1, 1) := by decide +kernel
theorem dX11_find_1 : decode cX11_find 1 = .ok (.ifCond .lt 8, 3) := by decide +kernel
theorem dX11_find_4 : decode cX11_find 4 = .ok (.iload_n 1, 1) := by decide +kernel
theorem dX11_find_5 : decode cX11_find 5 = .ok (.iconst 5, 1) := by decide +kernel
theorem dX11_find_6 : decode cX11_find 6 = .ok (.if_icmp .lt 6, 3) := by decide +kernel
theorem dX11_find_9 : decode cX11_find 9 = .ok (.bipush (-2), 2) := by decide +kernel
theorem dX11_find_11 : decode cX11_find 11 = .ok (.ireturn, 1) := by decide +kernel
theorem dX11_find_12 : decode cX11_find 12 = .ok (.aload_n 0, 1) := by decide +kernel
theorem dX11_find_13 : decode cX11_find 13 = .ok (.getfield 73, 3) := by decide +kernel
theorem dX11_find_16 : decode cX11_find 16 = .ok (.iconst 0, 1) := by decide +kernel
theorem dX11_find_17 : decode cX11_find 17 = .ok (.putfield 127, 3) := by decide +kernel
theorem dX11_find_20 : decode cX11_find 20 = .ok (.aload_n 0, 1) := by decide +kernel
theorem dX11_find_21 : decode cX11_find 21 = .ok (.getfield 120, 3) := by decide +kernel
theorem dX11_find_24 : decode cX11_find 24 = .ok (.ifCond .ne 5, 3) := by decide +kernel
theorem dX11_find_27 : decode cX11_find 27 = .ok (.iconst 0, 1) := by decide +kernel
theorem dX11_find_28 : decode cX11_find 28 = .ok (.ireturn, 1) := by decide +kernel
theorem dX11_find_29 : decode cX11_find 29 = .ok (.iconst 0, 1) := by decide +kernel
theorem dX11_find_30 : decode cX11_find 30 = .ok (.istore_n 2, 1) := by decide +kernel
theorem dX11_find_31 : decode cX11_find 31 = .ok (.iload_n 2, 1) := by decide +kernel
theorem dX11_find_32 : decode cX11_find 32 = .ok (.aload_n 0, 1) := by decide +kernel
theorem dX11_find_33 : decode cX11_find 33 = .ok (.getfield 87, 3) := by decide +kernel
theorem dX11_find_36 : decode cX11_find 36 = .ok (.if_icmp .ge 15, 3) := by decide +kernel
theorem dX11_find_39 : decode cX11_find 39 = .ok (.aload_n 0, 1) := by decide +kernel
theorem dX11_find_40 : decode cX11_find 40 = .ok (.iload_n 2, 1) := by decide +kernel
theorem dX11_find_41 : decode cX11_find 41 = .ok (.iload_n 1, 1) := by decide +kernel
theorem dX11_find_42 : decode cX11_find 42 = .ok (.invokevirtual 128, 3) := by decide +kernel
theorem dX11_find_45 : decode cX11_find 45 = .ok (.iinc 2 1, 3) := by decide +kernel
theorem dX11_find_48 : decode cX11_find 48 = .ok (.goto (-17), 3) := by decide +kernel
theorem dX11_find_51 : decode cX11_find 51 = .ok (.aload_n 0, 1) := by decide +kernel
theorem dX11_find_52 : decode cX11_find 52 = .ok (.getfield 73, 3) := by decide +kernel
theorem dX11_find_55 : decode cX11_find 55 = .ok (.getfield 127, 3) := by decide +kernel
theorem dX11_find_58 : decode cX11_find 58 = .ok (.ireturn, 1) := by decide +kernel
set_option maxRecDepth 20000 in
theorem ggX11_near_X8_seekEnds : GoodIn wsX11_near wsX8_seekEnds := goodIn_r _ [12, 13, 14, 15, 16, 17, 18, 19, 20, 21, 22, 23, 24, 25, 26, 27, 28, 11, 29, 30, 31, 32, 33, 34, 35, 36, 37, 38, 39, 40, 41, 42, 43, 44, 45, 46, 47, 48, 49, 50, 51, 52, 53, 54, 55, 56, 57, 58, 59, 60, 61, 62, 63, 64, 65, 66, 67, 68, 69, 70, 71, 72, 73, 74, 75, 76, 77, 78, 79, 80, 81, 127, 128, 129, 130, 131, 132, 133, 134, 135, 136, 137, 138, 139] (by decide +kernel) (by decide +kernel)
set_option maxRecDepth 20000 in
theorem gX11_near_X8_seekEnds : GoodIn wsX11_near (wsV RX11 132 RX8 yX8_seekEnds wsX8_seekEnds) := goodIn_app (goodIn_of _ (by decide +kernel)) ggX11_near_X8_seekEnds
set_option maxRecDepth 20000 in
theorem ggX11_near_X11_addEnds : GoodIn wsX11_near wsX11_addEnds := goodIn_r _ [86, 7, 87, 4, 1, 88, 89, 90, 11, 91, 17, 92, 93, 94, 95, 96, 97, 98, 99, 47, 100, 101, 102, 103, 104, 105, 106, 107, 108, 109, 110, 111, 112, 113, 114, 115, 116, 117, 118, 119, 120, 121, 122, 123, 137, 138, 139, 127, 128, 129, 130, 131, 132, 133, 134, 135, 136, 124, 125, 126] (by decide +kernel) (by decide +kernel)
set_option maxRecDepth 20000 in
theorem gX11_near_X11_addEnds : GoodIn wsX11_near (wsV RX11 136 RX11 yX11_addEnds wsX11_addEnds) := goodIn_app (goodIn_of _ (by decide +kernel)) ggX11_near_X11_addEnds
theorem dX11_near_0 : decode cX11_near 0 = .ok (.iload_n 1, 1) := by decide +kernel
theorem dX11_near_1 : decode cX11_near 1 = .ok (.ifCond .lt 13, 3) := by decide +kernel
theorem dX11_near_4 : decode cX11_near 4 = .ok (.iload_n 2, 1) := by decide +kernel
theorem dX11_near_5 : decode cX11_near 5 = .ok (.ifCond .lt 9, 3) := by decide +kernel
theorem dX11_near_8 : decode cX11_near 8 = .ok (.iload_n 2, 1) := by decide +kernel
theorem dX11_near_9 : decode cX11_near 9 = .ok (.bipush 24, 2) := by decide +kernel
theorem dX11_near_11 : decode cX11_near 11 = .ok (.if_icmp .le 6, 3) := by decide +kernel
theorem dX11_near_14 : decode cX11_near 14 = .ok (.bipush (-2), 2) := by decide +kernel
theorem dX11_near_16 : decode cX11_near 16 = .ok (.ireturn, 1) := by decide +kernel
theorem dX11_near_17 : decode cX11_near 17 = .ok (.aload_n 0, 1) := by decide +kernel
theorem dX11_near_18 : decode cX11_near 18 = .ok (.getfield 73, 3) := by decide +kernel
theorem dX11_near_21 : decode cX11_near 21 = .ok (.iconst 0, 1) := by decide +kernel
theorem dX11_near_22 : decode cX11_near 22 = .ok (.putfield 127, 3) := by decide +kernel
theorem dX11_near_25 : decode cX11_near 25 = .ok (.iconst 0, 1) := by decide +kernel
theorem dX11_near_26 : decode cX11_near 26 = .ok (.istore_n 3, 1) := by decide +kernel
theorem dX11_near_27 : decode cX11_near 27 = .ok (.iload_n 3, 1) := by decide +kernel
theorem dX11_near_28 : decode cX11_near 28 = .ok (.aload_n 0, 1) := by decide +kernel
theorem dX11_near_29 : decode cX11_near 29 = .ok (.getfield 87, 3) := by decide +kernel
theorem dX11_near_32 : decode cX11_near 32 = .ok (.if_icmp .ge 38, 3) := by decide +kernel
theorem dX11_near_35 : decode cX11_near 35 = .ok (.aload_n 0, 1) := by decide +kernel
theorem dX11_near_36 : decode cX11_near 36 = .ok (.getfield 66, 3) := by decide +kernel
theorem dX11_near_39 : decode cX11_near 39 = .ok (.aload_n 0, 1) := by decide +kernel
theorem dX11_near_40 : decode cX11_near 40 = .ok (.getfield 22, 3) := by decide +kernel
theorem dX11_near_43 : decode cX11_near 43 = .ok (.aload_n 0, 1) := by decide +kernel
theorem dX11_near_44 : decode cX11_near 44 = .ok (.getfield 18, 3) := by decide +kernel
theorem dX11_near_47 : decode cX11_near 47 = .ok (.aload_n 0, 1) := by decide +kernel
theorem dX11_near_48 : decode cX11_near 48 = .ok (.getfield 11, 3) := by decide +kernel
theorem dX11_near_51 : decode cX11_near 51 = .ok (.iload_n 3, 1) := by decide +kernel
theorem dX11_near_52 : decode cX11_near 52 = .ok (.aaload, 1) := by decide +kernel
theorem dX11_near_53 : decode cX11_near 53 = .ok (.iload_n 2, 1) := by decide +kernel
theorem dX11_near_54 : decode cX11_near 54 = .ok (.iload_n 1, 1) := by decide +kernel
theorem dX11_near_55 : decode cX11_near 55 = .ok (.invokevirtual 132, 3) := by decide +kernel
theorem dX11_near_58 : decode cX11_near 58 = .ok (.aload_n 0, 1) := by decide +kernel
theorem dX11_near_59 : decode cX11_near 59 = .ok (.iload_n 3, 1) := by decide +kernel
theorem dX11_near_60 : decode cX11_near 60 = .ok (.iload_n 1, 1) := by decide +kernel
theorem dX11_near_61 : decode cX11_near 61 = .ok (.invokevirtual 136, 3) := by decide +kernel
theorem dX11_near_64 : decode cX11_near 64 = .ok (.iinc 3 1, 3) := by decide +kernel
theorem dX11_near_67 : decode cX11_near 67 = .ok (.goto (-40), 3) := by decide +kernel
theorem dX11_near_70 : decode cX11_near 70 = .ok (.aload_n 0, 1) := by decide +kernel
theorem dX11_near_71 : decode cX11_near 71 = .ok (.getfield 73, 3) := by decide +kernel
theorem dX11_near_74 : decode cX11_near 74 = .ok (.getfield 127, 3) := by decide +kernel
theorem dX11_near_77 : decode cX11_near 77 = .ok (.ireturn, 1) := by decide +kernel
set_option maxRecDepth 20000 in
theorem ggX11_found_X1_look : GoodIn wsX11_found wsX1_look := goodIn_r _ [9, 10, 11, 28, 29, 30] (by decide +kernel) (by decide +kernel)
set_option maxRecDepth 20000 in
theorem gX11_found_X1_look : GoodIn wsX11_found (wsV RX11 146 RX1 yX1_look wsX1_look) := goodIn_app (goodIn_of _ (by decide +kernel)) ggX11_found_X1_look
theorem dX11_found_0 : decode cX11_found 0 = .ok (.iload_n 1, 1) := by decide +kernel
theorem dX11_found_1 : decode cX11_found 1 = .ok (.ifCond .lt 23, 3) := by decide +kernel
theorem dX11_found_4 : decode cX11_found 4 = .ok (.iload_n 1, 1) := by decide +kernel
theorem dX11_found_5 : decode cX11_found 5 = .ok (.aload_n 0, 1) := by decide +kernel
theorem dX11_found_6 : decode cX11_found 6 = .ok (.getfield 73, 3) := by decide +kernel
theorem dX11_found_9 : decode cX11_found 9 = .ok (.getfield 127, 3) := by decide +kernel
theorem dX11_found_12 : decode cX11_found 12 = .ok (.if_icmp .ge 12, 3) := by decide +kernel
theorem dX11_found_15 : decode cX11_found 15 = .ok (.iload_n 2, 1) := by decide +kernel
theorem dX11_found_16 : decode cX11_found 16 = .ok (.ifCond .lt 8, 3) := by decide +kernel
theorem dX11_found_19 : decode cX11_found 19 = .ok (.iload_n 2, 1) := by decide +kernel
theorem dX11_found_20 : decode cX11_found 20 = .ok (.iconst 5, 1) := by decide +kernel
theorem dX11_found_21 : decode cX11_found 21 = .ok (.if_icmp .lt 13, 3) := by decide +kernel
theorem dX11_found_24 : decode cX11_found 24 = .ok (.new 139, 3) := by decide +kernel
theorem dX11_found_27 : decode cX11_found 27 = .ok (.dup, 1) := by decide +kernel
theorem dX11_found_28 : decode cX11_found 28 = .ok (.ldc 141, 2) := by decide +kernel
theorem dX11_found_30 : decode cX11_found 30 = .ok (.invokespecial 143, 3) := by decide +kernel
theorem dX11_found_33 : decode cX11_found 33 = .ok (.athrow, 1) := by decide +kernel
theorem dX11_found_34 : decode cX11_found 34 = .ok (.aload_n 0, 1) := by decide +kernel
theorem dX11_found_35 : decode cX11_found 35 = .ok (.getfield 73, 3) := by decide +kernel
theorem dX11_found_38 : decode cX11_found 38 = .ok (.iload_n 1, 1) := by decide +kernel
theorem dX11_found_39 : decode cX11_found 39 = .ok (.iload_n 2, 1) := by decide +kernel
theorem dX11_found_40 : decode cX11_found 40 = .ok (.invokevirtual 146, 3) := by decide +kernel
theorem dX11_found_43 : decode cX11_found 43 = .ok (.ireturn, 1) := by decide +kernel
set_option maxRecDepth 20000 in
theorem ggX11_distance_X11_isTune : GoodIn wsX11_distance wsX11_isTune := goodIn_r _ [9, 10, 68, 69, 70, 71, 72, 73, 74, 75, 76, 77, 78, 79, 80, 81, 82, 83] (by decide +kernel) (by decide +kernel)
set_option maxRecDepth 20000 in
theorem gX11_distance_X11_isTune : GoodIn wsX11_distance (wsV RX11 91 RX11 yX11_isTune wsX11_isTune) := goodIn_app (goodIn_of _ (by decide +kernel)) ggX11_distance_X11_isTune
set_option maxRecDepth 20000 in
theorem ggX11_distance_X8_wholeCost : GoodIn wsX11_distance wsX8_wholeCost := goodIn_r _ [15, 16, 17, 18, 19, 20, 14, 21, 22, 23, 24, 25, 26, 27, 28, 29, 30, 31, 32, 33, 34, 35, 36, 37, 38, 39, 40, 41, 42, 43, 44, 45, 46, 47, 48, 49, 50, 51, 52, 53, 54, 55, 56, 57, 58, 59, 60, 61, 62, 63, 64, 65, 66, 67, 84, 85, 86, 87, 88, 89, 90, 91, 92, 93, 94, 95, 96] (by decide +kernel) (by decide +kernel)
set_option maxRecDepth 20000 in
theorem gX11_distance_X8_wholeCost : GoodIn wsX11_distance (wsV RX11 151 RX8 yX8_wholeCost wsX8_wholeCost) := goodIn_app (goodIn_of _ (by decide +kernel)) ggX11_distance_X8_wholeCost
theorem dX11_distance_0 : decode cX11_distance 0 = .ok (.aload_n 0, 1) := by decide +kernel
theorem dX11_distance_1 : decode cX11_distance 1 = .ok (.iload_n 1, 1) := by decide +kernel
theorem dX11_distance_2 : decode cX11_distance 2 = .ok (.invokevirtual 91, 3) := by decide +kernel
theorem dX11_distance_5 : decode cX11_distance 5 = .ok (.ifCond .eq 11, 3) := by decide +kernel
theorem dX11_distance_8 : decode cX11_distance 8 = .ok (.aload_n 0, 1) := by decide +kernel
theorem dX11_distance_9 : decode cX11_distance 9 = .ok (.iload_n 2, 1) := by decide +kernel
theorem dX11_distance_10 : decode cX11_distance 10 = .ok (.invokevirtual 91, 3) := by decide +kernel
theorem dX11_distance_13 : decode cX11_distance 13 = .ok (.ifCond .ne 5, 3) := by decide +kernel
theorem dX11_distance_16 : decode cX11_distance 16 = .ok (.iconst (-1), 1) := by decide +kernel
theorem dX11_distance_17 : decode cX11_distance 17 = .ok (.ireturn, 1) := by decide +kernel
theorem dX11_distance_18 : decode cX11_distance 18 = .ok (.iload_n 3, 1) := by decide +kernel
theorem dX11_distance_19 : decode cX11_distance 19 = .ok (.bipush (-24), 2) := by decide +kernel
theorem dX11_distance_21 : decode cX11_distance 21 = .ok (.if_icmp .lt 9, 3) := by decide +kernel
theorem dX11_distance_24 : decode cX11_distance 24 = .ok (.iload_n 3, 1) := by decide +kernel
theorem dX11_distance_25 : decode cX11_distance 25 = .ok (.bipush 24, 2) := by decide +kernel
theorem dX11_distance_27 : decode cX11_distance 27 = .ok (.if_icmp .le 6, 3) := by decide +kernel
theorem dX11_distance_30 : decode cX11_distance 30 = .ok (.bipush (-2), 2) := by decide +kernel
theorem dX11_distance_32 : decode cX11_distance 32 = .ok (.ireturn, 1) := by decide +kernel
theorem dX11_distance_33 : decode cX11_distance 33 = .ok (.aload_n 0, 1) := by decide +kernel
theorem dX11_distance_34 : decode cX11_distance 34 = .ok (.getfield 66, 3) := by decide +kernel
theorem dX11_distance_37 : decode cX11_distance 37 = .ok (.aload_n 0, 1) := by decide +kernel
theorem dX11_distance_38 : decode cX11_distance 38 = .ok (.getfield 22, 3) := by decide +kernel
theorem dX11_distance_41 : decode cX11_distance 41 = .ok (.aload_n 0, 1) := by decide +kernel
theorem dX11_distance_42 : decode cX11_distance 42 = .ok (.getfield 11, 3) := by decide +kernel
theorem dX11_distance_45 : decode cX11_distance 45 = .ok (.iload_n 1, 1) := by decide +kernel
theorem dX11_distance_46 : decode cX11_distance 46 = .ok (.aaload, 1) := by decide +kernel
theorem dX11_distance_47 : decode cX11_distance 47 = .ok (.aload_n 0, 1) := by decide +kernel
theorem dX11_distance_48 : decode cX11_distance 48 = .ok (.getfield 11, 3) := by decide +kernel
theorem dX11_distance_51 : decode cX11_distance 51 = .ok (.iload_n 2, 1) := by decide +kernel
theorem dX11_distance_52 : decode cX11_distance 52 = .ok (.aaload, 1) := by decide +kernel
theorem dX11_distance_53 : decode cX11_distance 53 = .ok (.iload_n 3, 1) := by decide +kernel
theorem dX11_distance_54 : decode cX11_distance 54 = .ok (.ldc 150, 2) := by decide +kernel
theorem dX11_distance_56 : decode cX11_distance 56 = .ok (.invokevirtual 151, 3) := by decide +kernel
theorem dX11_distance_59 : decode cX11_distance 59 = .ok (.ireturn, 1) := by decide +kernel
set_option maxRecDepth 20000 in
theorem ggX11_freight_X11_isTune : GoodIn wsX11_freight wsX11_isTune := goodIn_r _ [9, 10, 103, 104, 105, 106, 107, 108, 109, 110, 111, 112, 113, 114, 115, 116, 117, 118] (by decide +kernel) (by decide +kernel)
set_option maxRecDepth 20000 in
theorem gX11_freight_X11_isTune : GoodIn wsX11_freight (wsV RX11 91 RX11 yX11_isTune wsX11_isTune) := goodIn_app (goodIn_of _ (by decide +kernel)) ggX11_freight_X11_isTune
set_option maxRecDepth 20000 in
theorem ggX11_freight_X0_load : GoodIn wsX11_freight wsX0_load := goodIn_r _ [15, 16, 17, 18, 19, 20, 21, 22, 23, 24, 25, 26, 27, 28, 29, 30, 31, 32, 33, 34, 35, 36, 37, 119, 120, 121, 122, 123, 124, 125, 126, 127, 128, 129, 130, 131, 132, 133, 134, 135, 136, 137] (by decide +kernel) (by decide +kernel)
set_option maxRecDepth 20000 in
theorem gX11_freight_X0_load : GoodIn wsX11_freight (wsV RX11 157 RX0 yX0_load wsX0_load) := goodIn_app (goodIn_of _ (by decide +kernel)) ggX11_freight_X0_load
set_option maxRecDepth 20000 in
theorem ggX11_freight_X0_leastCost : GoodIn wsX11_freight wsX0_leastCost := goodIn_r _ [41, 16, 42, 17, 18, 43, 44, 45, 46, 47, 14, 48, 49, 50, 51, 52, 53, 54, 55, 56, 57, 58, 59, 60, 61, 62, 63, 64, 65, 66, 67, 68, 69, 70, 71, 72, 73, 74, 75, 76, 77, 78, 79, 80, 81, 82, 83, 84, 85, 86, 87, 88, 89, 90, 91, 92, 93, 94, 95, 96, 97, 98, 99, 100, 101, 102, 119, 120, 121, 122, 123, 124, 125, 126, 127, 128, 129, 130, 131, 132, 133, 134] (by decide +kernel) (by decide +kernel)
set_option maxRecDepth 20000 in
theorem gX11_freight_X0_leastCost : GoodIn wsX11_freight (wsV RX11 161 RX0 yX0_leastCost wsX0_leastCost) := goodIn_app (goodIn_of _ (by decide +kernel)) ggX11_freight_X0_leastCost
theorem dX11_freight_0 : decode cX11_freight 0 = .ok (.aload_n 0, 1) := by decide +kernel
theorem dX11_freight_1 : decode cX11_freight 1 = .ok (.iload_n 1, 1) := by decide +kernel
theorem dX11_freight_2 : decode cX11_freight 2 = .ok (.invokevirtual 91, 3) := by decide +kernel
theorem dX11_freight_5 : decode cX11_freight 5 = .ok (.ifCond .eq 11, 3) := by decide +kernel
theorem dX11_freight_8 : decode cX11_freight 8 = .ok (.aload_n 0, 1) := by decide +kernel
theorem dX11_freight_9 : decode cX11_freight 9 = .ok (.iload_n 2, 1) := by decide +kernel
theorem dX11_freight_10 : decode cX11_freight 10 = .ok (.invokevirtual 91, 3) := by decide +kernel
theorem dX11_freight_13 : decode cX11_freight 13 = .ok (.ifCond .ne 7, 3) := by decide +kernel
theorem dX11_freight_16 : decode cX11_freight 16 = .ok (.ldc2_w 155, 3) := by decide +kernel
theorem dX11_freight_19 : decode cX11_freight 19 = .ok (.lreturn, 1) := by decide +kernel
theorem dX11_freight_20 : decode cX11_freight 20 = .ok (.aload_n 0, 1) := by decide +kernel
theorem dX11_freight_21 : decode cX11_freight 21 = .ok (.getfield 80, 3) := by decide +kernel
theorem dX11_freight_24 : decode cX11_freight 24 = .ok (.aload_n 0, 1) := by decide +kernel
theorem dX11_freight_25 : decode cX11_freight 25 = .ok (.getfield 11, 3) := by decide +kernel
theorem dX11_freight_28 : decode cX11_freight 28 = .ok (.iload_n 1, 1) := by decide +kernel
theorem dX11_freight_29 : decode cX11_freight 29 = .ok (.aaload, 1) := by decide +kernel
theorem dX11_freight_30 : decode cX11_freight 30 = .ok (.aload_n 0, 1) := by decide +kernel
theorem dX11_freight_31 : decode cX11_freight 31 = .ok (.getfield 11, 3) := by decide +kernel
theorem dX11_freight_34 : decode cX11_freight 34 = .ok (.iload_n 2, 1) := by decide +kernel
theorem dX11_freight_35 : decode cX11_freight 35 = .ok (.aaload, 1) := by decide +kernel
theorem dX11_freight_36 : decode cX11_freight 36 = .ok (.invokevirtual 157, 3) := by decide +kernel
theorem dX11_freight_39 : decode cX11_freight 39 = .ok (.aload_n 0, 1) := by decide +kernel
theorem dX11_freight_40 : decode cX11_freight 40 = .ok (.getfield 80, 3) := by decide +kernel
theorem dX11_freight_43 : decode cX11_freight 43 = .ok (.aload_n 0, 1) := by decide +kernel
theorem dX11_freight_44 : decode cX11_freight 44 = .ok (.getfield 22, 3) := by decide +kernel
theorem dX11_freight_47 : decode cX11_freight 47 = .ok (.invokevirtual 161, 3) := by decide +kernel
theorem dX11_freight_50 : decode cX11_freight 50 = .ok (.lreturn, 1) := by decide +kernel
set_option maxRecDepth 20000 in
theorem ggX11_share_X11_isTune : GoodIn wsX11_share wsX11_isTune := goodIn_r _ [13, 14, 111, 112, 113, 114, 115, 116, 117, 118, 119, 120, 121, 122, 123, 124, 125, 126] (by decide +kernel) (by decide +kernel)
set_option maxRecDepth 20000 in
theorem gX11_share_X11_isTune : GoodIn wsX11_share (wsV RX11 91 RX11 yX11_isTune wsX11_isTune) := goodIn_app (goodIn_of _ (by decide +kernel)) ggX11_share_X11_isTune
set_option maxRecDepth 20000 in
theorem ggX11_share_X0_load : GoodIn wsX11_share wsX0_load := goodIn_r _ [19, 20, 21, 22, 23, 24, 25, 26, 27, 28, 29, 30, 31, 32, 33, 34, 35, 36, 37, 38, 39, 40, 41, 127, 128, 129, 130, 131, 132, 133, 134, 135, 136, 137, 138, 139, 140, 141, 142, 143, 144, 145] (by decide +kernel) (by decide +kernel)
set_option maxRecDepth 20000 in
theorem gX11_share_X0_load : GoodIn wsX11_share (wsV RX11 157 RX0 yX0_load wsX0_load) := goodIn_app (goodIn_of _ (by decide +kernel)) ggX11_share_X0_load
set_option maxRecDepth 20000 in
theorem ggX11_share_X0_unitsGoing : GoodIn wsX11_share wsX0_unitsGoing := goodIn_r _ [45, 20, 22, 127, 128, 129, 130, 131, 132, 133, 134, 135, 136, 137, 138, 139, 140, 141, 142] (by decide +kernel) (by decide +kernel)
set_option maxRecDepth 20000 in
theorem gX11_share_X0_unitsGoing : GoodIn wsX11_share (wsV RX11 167 RX0 yX0_unitsGoing wsX0_unitsGoing) := goodIn_app (goodIn_of _ (by decide +kernel)) ggX11_share_X0_unitsGoing
set_option maxRecDepth 20000 in
theorem ggX11_share_X0_leastCost : GoodIn wsX11_share wsX0_leastCost := goodIn_r _ [49, 20, 50, 21, 22, 51, 52, 53, 54, 55, 18, 56, 57, 58, 59, 60, 61, 62, 63, 64, 65, 66, 67, 68, 69, 70, 71, 72, 73, 74, 75, 76, 77, 78, 79, 80, 81, 82, 83, 84, 85, 86, 87, 88, 89, 90, 91, 92, 93, 94, 95, 96, 97, 98, 99, 100, 101, 102, 103, 104, 105, 106, 107, 108, 109, 110, 127, 128, 129, 130, 131, 132, 133, 134, 135, 136, 137, 138, 139, 140, 141, 142] (by decide +kernel) (by decide +kernel)
set_option maxRecDepth 20000 in
theorem gX11_share_X0_leastCost : GoodIn wsX11_share (wsV RX11 161 RX0 yX0_leastCost wsX0_leastCost) := goodIn_app (goodIn_of _ (by decide +kernel)) ggX11_share_X0_leastCost
theorem dX11_share_0 : decode cX11_share 0 = .ok (.aload_n 0, 1) := by decide +kernel
theorem dX11_share_1 : decode cX11_share 1 = .ok (.iload_n 1, 1) := by decide +kernel
theorem dX11_share_2 : decode cX11_share 2 = .ok (.invokevirtual 91, 3) := by decide +kernel
theorem dX11_share_5 : decode cX11_share 5 = .ok (.ifCond .eq 11, 3) := by decide +kernel
theorem dX11_share_8 : decode cX11_share 8 = .ok (.aload_n 0, 1) := by decide +kernel
theorem dX11_share_9 : decode cX11_share 9 = .ok (.iload_n 2, 1) := by decide +kernel
theorem dX11_share_10 : decode cX11_share 10 = .ok (.invokevirtual 91, 3) := by decide +kernel
theorem dX11_share_13 : decode cX11_share 13 = .ok (.ifCond .ne 13, 3) := by decide +kernel
theorem dX11_share_16 : decode cX11_share 16 = .ok (.new 139, 3) := by decide +kernel
theorem dX11_share_19 : decode cX11_share 19 = .ok (.dup, 1) := by decide +kernel
theorem dX11_share_20 : decode cX11_share 20 = .ok (.ldc 165, 2) := by decide +kernel
theorem dX11_share_22 : decode cX11_share 22 = .ok (.invokespecial 143, 3) := by decide +kernel
theorem dX11_share_25 : decode cX11_share 25 = .ok (.athrow, 1) := by decide +kernel
theorem dX11_share_26 : decode cX11_share 26 = .ok (.aload_n 0, 1) := by decide +kernel
theorem dX11_share_27 : decode cX11_share 27 = .ok (.getfield 80, 3) := by decide +kernel
theorem dX11_share_30 : decode cX11_share 30 = .ok (.aload_n 0, 1) := by decide +kernel
theorem dX11_share_31 : decode cX11_share 31 = .ok (.getfield 11, 3) := by decide +kernel
theorem dX11_share_34 : decode cX11_share 34 = .ok (.iload_n 1, 1) := by decide +kernel
theorem dX11_share_35 : decode cX11_share 35 = .ok (.aaload, 1) := by decide +kernel
theorem dX11_share_36 : decode cX11_share 36 = .ok (.aload_n 0, 1) := by decide +kernel
theorem dX11_share_37 : decode cX11_share 37 = .ok (.getfield 11, 3) := by decide +kernel
theorem dX11_share_40 : decode cX11_share 40 = .ok (.iload_n 2, 1) := by decide +kernel
theorem dX11_share_41 : decode cX11_share 41 = .ok (.aaload, 1) := by decide +kernel
theorem dX11_share_42 : decode cX11_share 42 = .ok (.invokevirtual 157, 3) := by decide +kernel
theorem dX11_share_45 : decode cX11_share 45 = .ok (.aload_n 0, 1) := by decide +kernel
theorem dX11_share_46 : decode cX11_share 46 = .ok (.getfield 80, 3) := by decide +kernel
theorem dX11_share_49 : decode cX11_share 49 = .ok (.invokevirtual 167, 3) := by decide +kernel
theorem dX11_share_52 : decode cX11_share 52 = .ok (.istore_n 3, 1) := by decide +kernel
theorem dX11_share_53 : decode cX11_share 53 = .ok (.iload_n 3, 1) := by decide +kernel
theorem dX11_share_54 : decode cX11_share 54 = .ok (.ifCond .ne 13, 3) := by decide +kernel
theorem dX11_share_57 : decode cX11_share 57 = .ok (.new 171, 3) := by decide +kernel
theorem dX11_share_60 : decode cX11_share 60 = .ok (.dup, 1) := by decide +kernel
theorem dX11_share_61 : decode cX11_share 61 = .ok (.ldc 173, 2) := by decide +kernel
theorem dX11_share_63 : decode cX11_share 63 = .ok (.invokespecial 175, 3) := by decide +kernel
theorem dX11_share_66 : decode cX11_share 66 = .ok (.athrow, 1) := by decide +kernel
theorem dX11_share_67 : decode cX11_share 67 = .ok (.ldc2_w 176, 3) := by decide +kernel
theorem dX11_share_70 : decode cX11_share 70 = .ok (.aload_n 0, 1) := by decide +kernel
theorem dX11_share_71 : decode cX11_share 71 = .ok (.getfield 80, 3) := by decide +kernel
theorem dX11_share_74 : decode cX11_share 74 = .ok (.aload_n 0, 1) := by decide +kernel
theorem dX11_share_75 : decode cX11_share 75 = .ok (.getfield 22, 3) := by decide +kernel
theorem dX11_share_78 : decode cX11_share 78 = .ok (.invokevirtual 161, 3) := by decide +kernel
theorem dX11_share_81 : decode cX11_share 81 = .ok (.lmul, 1) := by decide +kernel
theorem dX11_share_82 : decode cX11_share 82 = .ok (.iload_n 3, 1) := by decide +kernel
theorem dX11_share_83 : decode cX11_share 83 = .ok (.i2l, 1) := by decide +kernel
theorem dX11_share_84 : decode cX11_share 84 = .ok (.ldiv, 1) := by decide +kernel
theorem dX11_share_85 : decode cX11_share 85 = .ok (.lreturn, 1) := by decide +kernel
set_option maxRecDepth 20000 in
theorem ggX11_families_X11_areNear : GoodIn wsX11_families wsX11_areNear := goodIn_r _ [9, 10, 11, 12, 13, 14, 15, 16, 17, 18, 19, 20, 21, 22, 23, 24, 25, 26, 27, 28, 29, 30, 31, 32, 33, 34, 35, 36, 37, 38, 39, 40, 41, 42, 43, 44, 45, 46, 47, 48, 49, 50, 51, 52, 53, 54, 55, 56, 57, 58, 59, 60, 61, 62, 63, 64, 65, 66, 67, 68, 74, 75, 76, 77, 78, 79, 80, 81, 82, 83, 84, 85, 86, 87, 88, 89, 90, 91, 92, 93, 94, 95, 96, 97, 98, 99, 100, 101, 102] (by decide +kernel) (by decide +kernel)
set_option maxRecDepth 20000 in
theorem gX11_families_X11_areNear : GoodIn wsX11_families (wsV RX11 181 RX11 yX11_areNear wsX11_areNear) := goodIn_app (goodIn_of _ (by decide +kernel)) ggX11_families_X11_areNear
set_option maxRecDepth 20000 in
theorem ggX11_families_X11_joinFamilies : GoodIn wsX11_families wsX11_joinFamilies := goodIn_r _ [72, 73, 30, 31, 32, 2, 3, 74, 75, 76, 77, 78, 79, 80, 81, 82, 83, 84, 85, 86, 87, 88, 89] (by decide +kernel) (by decide +kernel)
set_option maxRecDepth 20000 in
theorem gX11_families_X11_joinFamilies : GoodIn wsX11_families (wsV RX11 185 RX11 yX11_joinFamilies wsX11_joinFamilies) := goodIn_app (goodIn_of _ (by decide +kernel)) ggX11_families_X11_joinFamilies
theorem dX11_families_0 : decode cX11_families 0 = .ok (.iload_n 1, 1) := by decide +kernel
theorem dX11_families_1 : decode cX11_families 1 = .ok (.ifCond .ge 6, 3) := by decide +kernel
theorem dX11_families_4 : decode cX11_families 4 = .ok (.bipush (-2), 2) := by decide +kernel
theorem dX11_families_6 : decode cX11_families 6 = .ok (.ireturn, 1) := by decide +kernel
theorem dX11_families_7 : decode cX11_families 7 = .ok (.aload_n 0, 1) := by decide +kernel
theorem dX11_families_8 : decode cX11_families 8 = .ok (.aload_n 0, 1) := by decide +kernel
theorem dX11_families_9 : decode cX11_families 9 = .ok (.getfield 87, 3) := by decide +kernel
theorem dX11_families_12 : decode cX11_families 12 = .ok (.putfield 178, 3) := by decide +kernel
theorem dX11_families_15 : decode cX11_families 15 = .ok (.aload_n 0, 1) := by decide +kernel
theorem dX11_families_16 : decode cX11_families 16 = .ok (.getfield 87, 3) := by decide +kernel
theorem dX11_families_19 : decode cX11_families 19 = .ok (.istore_n 2, 1) := by decide +kernel
theorem dX11_families_20 : decode cX11_families 20 = .ok (.iconst 0, 1) := by decide +kernel
theorem dX11_families_21 : decode cX11_families 21 = .ok (.istore_n 3, 1) := by decide +kernel
theorem dX11_families_22 : decode cX11_families 22 = .ok (.iload_n 3, 1) := by decide +kernel
theorem dX11_families_23 : decode cX11_families 23 = .ok (.aload_n 0, 1) := by decide +kernel
theorem dX11_families_24 : decode cX11_families 24 = .ok (.getfield 87, 3) := by decide +kernel
theorem dX11_families_27 : decode cX11_families 27 = .ok (.if_icmp .ge 16, 3) := by decide +kernel
theorem dX11_families_30 : decode cX11_families 30 = .ok (.aload_n 0, 1) := by decide +kernel
theorem dX11_families_31 : decode cX11_families 31 = .ok (.getfield 84, 3) := by decide +kernel
theorem dX11_families_34 : decode cX11_families 34 = .ok (.iload_n 3, 1) := by decide +kernel
theorem dX11_families_35 : decode cX11_families 35 = .ok (.iload_n 3, 1) := by decide +kernel
theorem dX11_families_36 : decode cX11_families 36 = .ok (.iastore, 1) := by decide +kernel
theorem dX11_families_37 : decode cX11_families 37 = .ok (.iinc 3 1, 3) := by decide +kernel
theorem dX11_families_40 : decode cX11_families 40 = .ok (.goto (-18), 3) := by decide +kernel
theorem dX11_families_43 : decode cX11_families 43 = .ok (.iconst 0, 1) := by decide +kernel
theorem dX11_families_44 : decode cX11_families 44 = .ok (.istore_n 3, 1) := by decide +kernel
theorem dX11_families_45 : decode cX11_families 45 = .ok (.iload_n 3, 1) := by decide +kernel
theorem dX11_families_46 : decode cX11_families 46 = .ok (.aload_n 0, 1) := by decide +kernel
theorem dX11_families_47 : decode cX11_families 47 = .ok (.getfield 87, 3) := by decide +kernel
theorem dX11_families_50 : decode cX11_families 50 = .ok (.if_icmp .ge 86, 3) := by decide +kernel
theorem dX11_families_53 : decode cX11_families 53 = .ok (.iload_n 3, 1) := by decide +kernel
theorem dX11_families_54 : decode cX11_families 54 = .ok (.iconst 1, 1) := by decide +kernel
theorem dX11_families_55 : decode cX11_families 55 = .ok (.iadd, 1) := by decide +kernel
theorem dX11_families_56 : decode cX11_families 56 = .ok (.istore 4, 2) := by decide +kernel
theorem dX11_families_58 : decode cX11_families 58 = .ok (.iload 4, 2) := by decide +kernel
theorem dX11_families_60 : decode cX11_families 60 = .ok (.aload_n 0, 1) := by decide +kernel
theorem dX11_families_61 : decode cX11_families 61 = .ok (.getfield 87, 3) := by decide +kernel
theorem dX11_families_64 : decode cX11_families 64 = .ok (.if_icmp .ge 66, 3) := by decide +kernel
theorem dX11_families_67 : decode cX11_families 67 = .ok (.aload_n 0, 1) := by decide +kernel
theorem dX11_families_68 : decode cX11_families 68 = .ok (.getfield 84, 3) := by decide +kernel
theorem dX11_families_71 : decode cX11_families 71 = .ok (.iload_n 3, 1) := by decide +kernel
theorem dX11_families_72 : decode cX11_families 72 = .ok (.iaload, 1) := by decide +kernel
theorem dX11_families_73 : decode cX11_families 73 = .ok (.aload_n 0, 1) := by decide +kernel
theorem dX11_families_74 : decode cX11_families 74 = .ok (.getfield 84, 3) := by decide +kernel
theorem dX11_families_77 : decode cX11_families 77 = .ok (.iload 4, 2) := by decide +kernel
theorem dX11_families_79 : decode cX11_families 79 = .ok (.iaload, 1) := by decide +kernel
theorem dX11_families_80 : decode cX11_families 80 = .ok (.if_icmp .eq 44, 3) := by decide +kernel
theorem dX11_families_83 : decode cX11_families 83 = .ok (.aload_n 0, 1) := by decide +kernel
theorem dX11_families_84 : decode cX11_families 84 = .ok (.aload_n 0, 1) := by decide +kernel
theorem dX11_families_85 : decode cX11_families 85 = .ok (.getfield 11, 3) := by decide +kernel
theorem dX11_families_88 : decode cX11_families 88 = .ok (.iload_n 3, 1) := by decide +kernel
theorem dX11_families_89 : decode cX11_families 89 = .ok (.aaload, 1) := by decide +kernel
theorem dX11_families_90 : decode cX11_families 90 = .ok (.aload_n 0, 1) := by decide +kernel
theorem dX11_families_91 : decode cX11_families 91 = .ok (.getfield 11, 3) := by decide +kernel
theorem dX11_families_94 : decode cX11_families 94 = .ok (.iload 4, 2) := by decide +kernel
theorem dX11_families_96 : decode cX11_families 96 = .ok (.aaload, 1) := by decide +kernel
theorem dX11_families_97 : decode cX11_families 97 = .ok (.iload_n 1, 1) := by decide +kernel
theorem dX11_families_98 : decode cX11_families 98 = .ok (.invokevirtual 181, 3) := by decide +kernel
theorem dX11_families_101 : decode cX11_families 101 = .ok (.ifCond .eq 23, 3) := by decide +kernel
theorem dX11_families_104 : decode cX11_families 104 = .ok (.aload_n 0, 1) := by decide +kernel
theorem dX11_families_105 : decode cX11_families 105 = .ok (.aload_n 0, 1) := by decide +kernel
theorem dX11_families_106 : decode cX11_families 106 = .ok (.getfield 84, 3) := by decide +kernel
theorem dX11_families_109 : decode cX11_families 109 = .ok (.iload_n 3, 1) := by decide +kernel
theorem dX11_families_110 : decode cX11_families 110 = .ok (.iaload, 1) := by decide +kernel
theorem dX11_families_111 : decode cX11_families 111 = .ok (.aload_n 0, 1) := by decide +kernel
theorem dX11_families_112 : decode cX11_families 112 = .ok (.getfield 84, 3) := by decide +kernel
theorem dX11_families_115 : decode cX11_families 115 = .ok (.iload 4, 2) := by decide +kernel
theorem dX11_families_117 : decode cX11_families 117 = .ok (.iaload, 1) := by decide +kernel
theorem dX11_families_118 : decode cX11_families 118 = .ok (.invokevirtual 185, 3) := by decide +kernel
theorem dX11_families_121 : decode cX11_families 121 = .ok (.iinc 2 (-1), 3) := by decide +kernel
theorem dX11_families_124 : decode cX11_families 124 = .ok (.iinc 4 1, 3) := by decide +kernel
theorem dX11_families_127 : decode cX11_families 127 = .ok (.goto (-69), 3) := by decide +kernel
theorem dX11_families_130 : decode cX11_families 130 = .ok (.iinc 3 1, 3) := by decide +kernel
theorem dX11_families_133 : decode cX11_families 133 = .ok (.goto (-88), 3) := by decide +kernel
theorem dX11_families_136 : decode cX11_families 136 = .ok (.iload_n 2, 1) := by decide +kernel
theorem dX11_families_137 : decode cX11_families 137 = .ok (.ireturn, 1) := by decide +kernel
set_option maxRecDepth 20000 in
theorem ggX11_family_X11_isTune : GoodIn wsX11_family wsX11_isTune := goodIn_r _ [7, 8, 9, 10, 11, 12, 13, 14, 15, 16, 17, 18, 19, 20, 21, 22, 23, 24] (by decide +kernel) (by decide +kernel)
set_option maxRecDepth 20000 in
theorem gX11_family_X11_isTune : GoodIn wsX11_family (wsV RX11 91 RX11 yX11_isTune wsX11_isTune) := goodIn_app (goodIn_of _ (by decide +kernel)) ggX11_family_X11_isTune
theorem dX11_family_0 : decode cX11_family 0 = .ok (.aload_n 0, 1) := by decide +kernel
theorem dX11_family_1 : decode cX11_family 1 = .ok (.iload_n 1, 1) := by decide +kernel
theorem dX11_family_2 : decode cX11_family 2 = .ok (.invokevirtual 91, 3) := by decide +kernel
theorem dX11_family_5 : decode cX11_family 5 = .ok (.ifCond .eq 11, 3) := by decide +kernel
theorem dX11_family_8 : decode cX11_family 8 = .ok (.iload_n 1, 1) := by decide +kernel
theorem dX11_family_9 : decode cX11_family 9 = .ok (.aload_n 0, 1) := by decide +kernel
theorem dX11_family_10 : decode cX11_family 10 = .ok (.getfield 178, 3) := by decide +kernel
theorem dX11_family_13 : decode cX11_family 13 = .ok (.if_icmp .lt 5, 3) := by decide +kernel
theorem dX11_family_16 : decode cX11_family 16 = .ok (.iconst (-1), 1) := by decide +kernel
theorem dX11_family_17 : decode cX11_family 17 = .ok (.ireturn, 1) := by decide +kernel
theorem dX11_family_18 : decode cX11_family 18 = .ok (.aload_n 0, 1) := by decide +kernel
theorem dX11_family_19 : decode cX11_family 19 = .ok (.getfield 84, 3) := by decide +kernel
theorem dX11_family_22 : decode cX11_family 22 = .ok (.iload_n 1, 1) := by decide +kernel
theorem dX11_family_23 : decode cX11_family 23 = .ok (.iaload, 1) := by decide +kernel
theorem dX11_family_24 : decode cX11_family 24 = .ok (.ireturn, 1) := by decide +kernel
set_option maxRecDepth 20000 in
theorem ggX11_told_X11_countNotes : GoodIn wsX11_told wsX11_countNotes := goodIn_r _ [12, 1, 13, 3, 14, 15, 16, 17, 18, 19, 20, 21, 22, 23, 24, 25, 26, 27, 28, 29, 30, 31, 32] (by decide +kernel) (by decide +kernel)
set_option maxRecDepth 20000 in
theorem gX11_told_X11_countNotes : GoodIn wsX11_told (wsV RX11 188 RX11 yX11_countNotes wsX11_countNotes) := goodIn_app (goodIn_of _ (by decide +kernel)) ggX11_told_X11_countNotes
theorem dX11_told_0 : decode cX11_told 0 = .ok (.iload_n 1, 1) := by decide +kernel
theorem dX11_told_1 : decode cX11_told 1 = .ok (.tableswitch 69 0 4 #[35, 40, 45, 53, 61], 35) := by decide +kernel
theorem dX11_told_36 : decode cX11_told 36 = .ok (.aload_n 0, 1) := by decide +kernel
theorem dX11_told_37 : decode cX11_told 37 = .ok (.getfield 87, 3) := by decide +kernel
theorem dX11_told_40 : decode cX11_told 40 = .ok (.ireturn, 1) := by decide +kernel
theorem dX11_told_41 : decode cX11_told 41 = .ok (.aload_n 0, 1) := by decide +kernel
theorem dX11_told_42 : decode cX11_told 42 = .ok (.invokevirtual 188, 3) := by decide +kernel
theorem dX11_told_45 : decode cX11_told 45 = .ok (.ireturn, 1) := by decide +kernel
theorem dX11_told_46 : decode cX11_told 46 = .ok (.aload_n 0, 1) := by decide +kernel
theorem dX11_told_47 : decode cX11_told 47 = .ok (.getfield 18, 3) := by decide +kernel
theorem dX11_told_50 : decode cX11_told 50 = .ok (.getfield 99, 3) := by decide +kernel
theorem dX11_told_53 : decode cX11_told 53 = .ok (.ireturn, 1) := by decide +kernel
theorem dX11_told_54 : decode cX11_told 54 = .ok (.aload_n 0, 1) := by decide +kernel
theorem dX11_told_55 : decode cX11_told 55 = .ok (.getfield 35, 3) := by decide +kernel
theorem dX11_told_58 : decode cX11_told 58 = .ok (.getfield 109, 3) := by decide +kernel
theorem dX11_told_61 : decode cX11_told 61 = .ok (.ireturn, 1) := by decide +kernel
theorem dX11_told_62 : decode cX11_told 62 = .ok (.aload_n 0, 1) := by decide +kernel
theorem dX11_told_63 : decode cX11_told 63 = .ok (.getfield 73, 3) := by decide +kernel
theorem dX11_told_66 : decode cX11_told 66 = .ok (.getfield 127, 3) := by decide +kernel
theorem dX11_told_69 : decode cX11_told 69 = .ok (.ireturn, 1) := by decide +kernel
theorem dX11_told_70 : decode cX11_told 70 = .ok (.bipush (-2), 2) := by decide +kernel
theorem dX11_told_72 : decode cX11_told 72 = .ok (.ireturn, 1) := by decide +kernel
theorem dX11_isTune_0 : decode cX11_isTune 0 = .ok (.iload_n 1, 1) := by decide +kernel
theorem dX11_isTune_1 : decode cX11_isTune 1 = .ok (.ifCond .lt 15, 3) := by decide +kernel
theorem dX11_isTune_4 : decode cX11_isTune 4 = .ok (.iload_n 1, 1) := by decide +kernel
theorem dX11_isTune_5 : decode cX11_isTune 5 = .ok (.aload_n 0, 1) := by decide +kernel
theorem dX11_isTune_6 : decode cX11_isTune 6 = .ok (.getfield 87, 3) := by decide +kernel
theorem dX11_isTune_9 : decode cX11_isTune 9 = .ok (.if_icmp .ge 7, 3) := by decide +kernel
theorem dX11_isTune_12 : decode cX11_isTune 12 = .ok (.iconst 1, 1) := by decide +kernel
theorem dX11_isTune_13 : decode cX11_isTune 13 = .ok (.goto 4, 3) := by decide +kernel
theorem dX11_isTune_16 : decode cX11_isTune 16 = .ok (.iconst 0, 1) := by decide +kernel
theorem dX11_isTune_17 : decode cX11_isTune 17 = .ok (.ireturn, 1) := by decide +kernel
set_option maxRecDepth 20000 in
theorem ggX11_addNote_X4_isFull : GoodIn wsX11_addNote wsX4_isFull := goodIn_r _ [6, 7, 8, 14, 15, 16] (by decide +kernel) (by decide +kernel)
set_option maxRecDepth 20000 in
theorem gX11_addNote_X4_isFull : GoodIn wsX11_addNote (wsV RX11 191 RX4 yX4_isFull wsX4_isFull) := goodIn_app (goodIn_of _ (by decide +kernel)) ggX11_addNote_X4_isFull
set_option maxRecDepth 20000 in
theorem ggX11_addNote_X4_append : GoodIn wsX11_addNote wsX4_append := goodIn_r _ [12, 8, 7, 13, 14, 15, 16] (by decide +kernel) (by decide +kernel)
set_option maxRecDepth 20000 in
theorem gX11_addNote_X4_append : GoodIn wsX11_addNote (wsV RX11 195 RX4 yX4_append wsX4_append) := goodIn_app (goodIn_of _ (by decide +kernel)) ggX11_addNote_X4_append
theorem dX11_addNote_0 : decode cX11_addNote 0 = .ok (.iload_n 1, 1) := by decide +kernel
theorem dX11_addNote_1 : decode cX11_addNote 1 = .ok (.iconst (-1), 1) := by decide +kernel
theorem dX11_addNote_2 : decode cX11_addNote 2 = .ok (.if_icmp .lt 20, 3) := by decide +kernel
theorem dX11_addNote_5 : decode cX11_addNote 5 = .ok (.iload_n 1, 1) := by decide +kernel
theorem dX11_addNote_6 : decode cX11_addNote 6 = .ok (.bipush 127, 2) := by decide +kernel
theorem dX11_addNote_8 : decode cX11_addNote 8 = .ok (.if_icmp .gt 14, 3) := by decide +kernel
theorem dX11_addNote_11 : decode cX11_addNote 11 = .ok (.iload_n 2, 1) := by decide +kernel
theorem dX11_addNote_12 : decode cX11_addNote 12 = .ok (.iconst 1, 1) := by decide +kernel
theorem dX11_addNote_13 : decode cX11_addNote 13 = .ok (.if_icmp .lt 9, 3) := by decide +kernel
theorem dX11_addNote_16 : decode cX11_addNote 16 = .ok (.iload_n 2, 1) := by decide +kernel
theorem dX11_addNote_17 : decode cX11_addNote 17 = .ok (.bipush 64, 2) := by decide +kernel
theorem dX11_addNote_19 : decode cX11_addNote 19 = .ok (.if_icmp .le 6, 3) := by decide +kernel
theorem dX11_addNote_22 : decode cX11_addNote 22 = .ok (.bipush (-2), 2) := by decide +kernel
theorem dX11_addNote_24 : decode cX11_addNote 24 = .ok (.ireturn, 1) := by decide +kernel
theorem dX11_addNote_25 : decode cX11_addNote 25 = .ok (.aload_n 0, 1) := by decide +kernel
theorem dX11_addNote_26 : decode cX11_addNote 26 = .ok (.invokevirtual 191, 3) := by decide +kernel
theorem dX11_addNote_29 : decode cX11_addNote 29 = .ok (.ifCond .eq 6, 3) := by decide +kernel
theorem dX11_addNote_32 : decode cX11_addNote 32 = .ok (.bipush (-3), 2) := by decide +kernel
theorem dX11_addNote_34 : decode cX11_addNote 34 = .ok (.ireturn, 1) := by decide +kernel
theorem dX11_addNote_35 : decode cX11_addNote 35 = .ok (.aload_n 0, 1) := by decide +kernel
theorem dX11_addNote_36 : decode cX11_addNote 36 = .ok (.iload_n 1, 1) := by decide +kernel
theorem dX11_addNote_37 : decode cX11_addNote 37 = .ok (.iload_n 2, 1) := by decide +kernel
theorem dX11_addNote_38 : decode cX11_addNote 38 = .ok (.invokevirtual 195, 3) := by decide +kernel
theorem dX11_addNote_41 : decode cX11_addNote 41 = .ok (.aload_n 0, 1) := by decide +kernel
theorem dX11_addNote_42 : decode cX11_addNote 42 = .ok (.getfield 99, 3) := by decide +kernel
theorem dX11_addNote_45 : decode cX11_addNote 45 = .ok (.ireturn, 1) := by decide +kernel
theorem dX11_countNotes_0 : decode cX11_countNotes 0 = .ok (.iconst 0, 1) := by decide +kernel
theorem dX11_countNotes_1 : decode cX11_countNotes 1 = .ok (.istore_n 1, 1) := by decide +kernel
theorem dX11_countNotes_2 : decode cX11_countNotes 2 = .ok (.iconst 0, 1) := by decide +kernel
theorem dX11_countNotes_3 : decode cX11_countNotes 3 = .ok (.istore_n 2, 1) := by decide +kernel
theorem dX11_countNotes_4 : decode cX11_countNotes 4 = .ok (.iload_n 2, 1) := by decide +kernel
theorem dX11_countNotes_5 : decode cX11_countNotes 5 = .ok (.aload_n 0, 1) := by decide +kernel
theorem dX11_countNotes_6 : decode cX11_countNotes 6 = .ok (.getfield 87, 3) := by decide +kernel
theorem dX11_countNotes_9 : decode cX11_countNotes 9 = .ok (.if_icmp .ge 21, 3) := by decide +kernel
theorem dX11_countNotes_12 : decode cX11_countNotes 12 = .ok (.iload_n 1, 1) := by decide +kernel
theorem dX11_countNotes_13 : decode cX11_countNotes 13 = .ok (.aload_n 0, 1) := by decide +kernel
theorem dX11_countNotes_14 : decode cX11_countNotes 14 = .ok (.getfield 11, 3) := by decide +kernel
theorem dX11_countNotes_17 : decode cX11_countNotes 17 = .ok (.iload_n 2, 1) := by decide +kernel
theorem dX11_countNotes_18 : decode cX11_countNotes 18 = .ok (.aaload, 1) := by decide +kernel
theorem dX11_countNotes_19 : decode cX11_countNotes 19 = .ok (.getfield 99, 3) := by decide +kernel
theorem dX11_countNotes_22 : decode cX11_countNotes 22 = .ok (.iadd, 1) := by decide +kernel
theorem dX11_countNotes_23 : decode cX11_countNotes 23 = .ok (.istore_n 1, 1) := by decide +kernel
theorem dX11_countNotes_24 : decode cX11_countNotes 24 = .ok (.iinc 2 1, 3) := by decide +kernel
theorem dX11_countNotes_27 : decode cX11_countNotes 27 = .ok (.goto (-23), 3) := by decide +kernel
theorem dX11_countNotes_30 : decode cX11_countNotes 30 = .ok (.iload_n 1, 1) := by decide +kernel
theorem dX11_countNotes_31 : decode cX11_countNotes 31 = .ok (.ireturn, 1) := by decide +kernel
set_option maxRecDepth 20000 in
theorem ggX11_findInTune_X6_look : GoodIn wsX11_findInTune wsX6_look := goodIn_r _ [10, 11, 12, 13, 14, 15, 9, 16, 17, 18, 19, 20, 21, 22, 23, 24, 25, 26, 27, 28, 29, 30, 31, 32, 33, 85, 86, 87, 88, 89] (by decide +kernel) (by decide +kernel)
set_option maxRecDepth 20000 in
theorem gX11_findInTune_X6_look : GoodIn wsX11_findInTune (wsV RX11 197 RX6 yX6_look wsX6_look) := goodIn_app (goodIn_of _ (by decide +kernel)) ggX11_findInTune_X6_look
set_option maxRecDepth 20000 in
theorem ggX11_findInTune_X9_hold : GoodIn wsX11_findInTune wsX9_hold := goodIn_r _ [38, 39, 40, 41, 42, 43, 44, 45, 37, 46, 47, 48, 49, 85, 86, 90, 91, 92, 93, 94, 95, 96, 97] (by decide +kernel) (by decide +kernel)
set_option maxRecDepth 20000 in
theorem gX11_findInTune_X9_hold : GoodIn wsX11_findInTune (wsV RX11 200 RX9 yX9_hold wsX9_hold) := goodIn_app (goodIn_of _ (by decide +kernel)) ggX11_findInTune_X9_hold
set_option maxRecDepth 20000 in
theorem ggX11_findInTune_X9_longestFrom : GoodIn wsX11_findInTune wsX9_longestFrom := goodIn_r _ [53, 54, 40, 41, 55, 56, 57, 58, 37, 59, 47, 60, 90, 91, 92, 93, 94, 95, 96, 97] (by decide +kernel) (by decide +kernel)
set_option maxRecDepth 20000 in
theorem gX11_findInTune_X9_longestFrom : GoodIn wsX11_findInTune (wsV RX11 205 RX9 yX9_longestFrom wsX9_longestFrom) := goodIn_app (goodIn_of _ (by decide +kernel)) ggX11_findInTune_X9_longestFrom
set_option maxRecDepth 20000 in
theorem ggX11_findInTune_X1_add : GoodIn wsX11_findInTune wsX1_add := goodIn_r _ [65, 66, 67, 68, 98, 99, 100] (by decide +kernel) (by decide +kernel)
set_option maxRecDepth 20000 in
theorem gX11_findInTune_X1_add : GoodIn wsX11_findInTune (wsV RX11 209 RX1 yX1_add wsX1_add) := goodIn_app (goodIn_of _ (by decide +kernel)) ggX11_findInTune_X1_add
theorem dX11_findInTune_0 : decode cX11_findInTune 0 = .ok (.aload_n 0, 1) := by decide +kernel
theorem dX11_findInTune_1 : decode cX11_findInTune 1 = .ok (.getfield 59, 3) := by decide +kernel
theorem dX11_findInTune_4 : decode cX11_findInTune 4 = .ok (.aload_n 0, 1) := by decide +kernel
theorem dX11_findInTune_5 : decode cX11_findInTune 5 = .ok (.getfield 11, 3) := by decide +kernel
theorem dX11_findInTune_8 : decode cX11_findInTune 8 = .ok (.iload_n 1, 1) := by decide +kernel
theorem dX11_findInTune_9 : decode cX11_findInTune 9 = .ok (.aaload, 1) := by decide +kernel
theorem dX11_findInTune_10 : decode cX11_findInTune 10 = .ok (.iload_n 2, 1) := by decide +kernel
theorem dX11_findInTune_11 : decode cX11_findInTune 11 = .ok (.invokevirtual 197, 3) := by decide +kernel
theorem dX11_findInTune_14 : decode cX11_findInTune 14 = .ok (.aload_n 0, 1) := by decide +kernel
theorem dX11_findInTune_15 : decode cX11_findInTune 15 = .ok (.getfield 49, 3) := by decide +kernel
theorem dX11_findInTune_18 : decode cX11_findInTune 18 = .ok (.aload_n 0, 1) := by decide +kernel
theorem dX11_findInTune_19 : decode cX11_findInTune 19 = .ok (.getfield 59, 3) := by decide +kernel
theorem dX11_findInTune_22 : decode cX11_findInTune 22 = .ok (.invokevirtual 200, 3) := by decide +kernel
theorem dX11_findInTune_25 : decode cX11_findInTune 25 = .ok (.iconst 0, 1) := by decide +kernel
theorem dX11_findInTune_26 : decode cX11_findInTune 26 = .ok (.istore_n 3, 1) := by decide +kernel
theorem dX11_findInTune_27 : decode cX11_findInTune 27 = .ok (.iload_n 3, 1) := by decide +kernel
theorem dX11_findInTune_28 : decode cX11_findInTune 28 = .ok (.aload_n 0, 1) := by decide +kernel
theorem dX11_findInTune_29 : decode cX11_findInTune 29 = .ok (.getfield 59, 3) := by decide +kernel
theorem dX11_findInTune_32 : decode cX11_findInTune 32 = .ok (.getfield 204, 3) := by decide +kernel
theorem dX11_findInTune_35 : decode cX11_findInTune 35 = .ok (.if_icmp .ge 37, 3) := by decide +kernel
theorem dX11_findInTune_38 : decode cX11_findInTune 38 = .ok (.aload_n 0, 1) := by decide +kernel
theorem dX11_findInTune_39 : decode cX11_findInTune 39 = .ok (.getfield 49, 3) := by decide +kernel
theorem dX11_findInTune_42 : decode cX11_findInTune 42 = .ok (.iload_n 3, 1) := by decide +kernel
theorem dX11_findInTune_43 : decode cX11_findInTune 43 = .ok (.invokevirtual 205, 3) := by decide +kernel
theorem dX11_findInTune_46 : decode cX11_findInTune 46 = .ok (.istore 4, 2) := by decide +kernel
theorem dX11_findInTune_48 : decode cX11_findInTune 48 = .ok (.iload 4, 2) := by decide +kernel
theorem dX11_findInTune_50 : decode cX11_findInTune 50 = .ok (.ifCond .le 16, 3) := by decide +kernel
theorem dX11_findInTune_53 : decode cX11_findInTune 53 = .ok (.aload_n 0, 1) := by decide +kernel
theorem dX11_findInTune_54 : decode cX11_findInTune 54 = .ok (.getfield 73, 3) := by decide +kernel
theorem dX11_findInTune_57 : decode cX11_findInTune 57 = .ok (.iload_n 1, 1) := by decide +kernel
theorem dX11_findInTune_58 : decode cX11_findInTune 58 = .ok (.iload_n 3, 1) := by decide +kernel
theorem dX11_findInTune_59 : decode cX11_findInTune 59 = .ok (.iload 4, 2) := by decide +kernel
theorem dX11_findInTune_61 : decode cX11_findInTune 61 = .ok (.iconst 0, 1) := by decide +kernel
theorem dX11_findInTune_62 : decode cX11_findInTune 62 = .ok (.iconst 0, 1) := by decide +kernel
theorem dX11_findInTune_63 : decode cX11_findInTune 63 = .ok (.invokevirtual 209, 3) := by decide +kernel
theorem dX11_findInTune_66 : decode cX11_findInTune 66 = .ok (.iinc 3 1, 3) := by decide +kernel
theorem dX11_findInTune_69 : decode cX11_findInTune 69 = .ok (.goto (-42), 3) := by decide +kernel
theorem dX11_findInTune_72 : decode cX11_findInTune 72 = .ok (.return_, 1) := by decide +kernel
set_option maxRecDepth 20000 in
theorem ggX11_addEnds_X8_endCost : GoodIn wsX11_addEnds wsX8_endCost := goodIn_r _ [9, 10, 47, 48, 49, 50, 51, 52, 53, 54, 55, 56] (by decide +kernel) (by decide +kernel)
set_option maxRecDepth 20000 in
theorem gX11_addEnds_X8_endCost : GoodIn wsX11_addEnds (wsV RX11 213 RX8 yX8_endCost wsX8_endCost) := goodIn_app (goodIn_of _ (by decide +kernel)) ggX11_addEnds_X8_endCost
set_option maxRecDepth 20000 in
theorem ggX11_addEnds_X8_endPlace : GoodIn wsX11_addEnds wsX8_endPlace := goodIn_r _ [14, 10, 47, 48, 49, 50, 51, 52, 53, 54, 55, 56] (by decide +kernel) (by decide +kernel)
set_option maxRecDepth 20000 in
theorem gX11_addEnds_X8_endPlace : GoodIn wsX11_addEnds (wsV RX11 216 RX8 yX8_endPlace wsX8_endPlace) := goodIn_app (goodIn_of _ (by decide +kernel)) ggX11_addEnds_X8_endPlace
set_option maxRecDepth 20000 in
theorem ggX11_addEnds_X8_endShift : GoodIn wsX11_addEnds wsX8_endShift := goodIn_r _ [18, 19, 47, 48, 49, 50, 51, 52, 53, 54, 55, 56] (by decide +kernel) (by decide +kernel)
set_option maxRecDepth 20000 in
theorem gX11_addEnds_X8_endShift : GoodIn wsX11_addEnds (wsV RX11 219 RX8 yX8_endShift wsX8_endShift) := goodIn_app (goodIn_of _ (by decide +kernel)) ggX11_addEnds_X8_endShift
set_option maxRecDepth 20000 in
theorem ggX11_addEnds_X1_add : GoodIn wsX11_addEnds wsX1_add := goodIn_r _ [24, 25, 26, 27, 57, 58, 59] (by decide +kernel) (by decide +kernel)
set_option maxRecDepth 20000 in
theorem gX11_addEnds_X1_add : GoodIn wsX11_addEnds (wsV RX11 209 RX1 yX1_add wsX1_add) := goodIn_app (goodIn_of _ (by decide +kernel)) ggX11_addEnds_X1_add
theorem dX11_addEnds_0 : decode cX11_addEnds 0 = .ok (.iconst 0, 1) := by decide +kernel
theorem dX11_addEnds_1 : decode cX11_addEnds 1 = .ok (.istore_n 3, 1) := by decide +kernel
theorem dX11_addEnds_2 : decode cX11_addEnds 2 = .ok (.iload_n 3, 1) := by decide +kernel
theorem dX11_addEnds_3 : decode cX11_addEnds 3 = .ok (.aload_n 0, 1) := by decide +kernel
theorem dX11_addEnds_4 : decode cX11_addEnds 4 = .ok (.getfield 11, 3) := by decide +kernel
theorem dX11_addEnds_7 : decode cX11_addEnds 7 = .ok (.iload_n 1, 1) := by decide +kernel
theorem dX11_addEnds_8 : decode cX11_addEnds 8 = .ok (.aaload, 1) := by decide +kernel
theorem dX11_addEnds_9 : decode cX11_addEnds 9 = .ok (.getfield 99, 3) := by decide +kernel
theorem dX11_addEnds_12 : decode cX11_addEnds 12 = .ok (.if_icmp .gt 52, 3) := by decide +kernel
theorem dX11_addEnds_15 : decode cX11_addEnds 15 = .ok (.aload_n 0, 1) := by decide +kernel
theorem dX11_addEnds_16 : decode cX11_addEnds 16 = .ok (.getfield 66, 3) := by decide +kernel
theorem dX11_addEnds_19 : decode cX11_addEnds 19 = .ok (.iload_n 3, 1) := by decide +kernel
theorem dX11_addEnds_20 : decode cX11_addEnds 20 = .ok (.invokevirtual 213, 3) := by decide +kernel
theorem dX11_addEnds_23 : decode cX11_addEnds 23 = .ok (.istore 4, 2) := by decide +kernel
theorem dX11_addEnds_25 : decode cX11_addEnds 25 = .ok (.iload 4, 2) := by decide +kernel
theorem dX11_addEnds_27 : decode cX11_addEnds 27 = .ok (.iload_n 2, 1) := by decide +kernel
theorem dX11_addEnds_28 : decode cX11_addEnds 28 = .ok (.if_icmp .gt 30, 3) := by decide +kernel
theorem dX11_addEnds_31 : decode cX11_addEnds 31 = .ok (.aload_n 0, 1) := by decide +kernel
theorem dX11_addEnds_32 : decode cX11_addEnds 32 = .ok (.getfield 73, 3) := by decide +kernel
theorem dX11_addEnds_35 : decode cX11_addEnds 35 = .ok (.iload_n 1, 1) := by decide +kernel
theorem dX11_addEnds_36 : decode cX11_addEnds 36 = .ok (.aload_n 0, 1) := by decide +kernel
theorem dX11_addEnds_37 : decode cX11_addEnds 37 = .ok (.getfield 66, 3) := by decide +kernel
theorem dX11_addEnds_40 : decode cX11_addEnds 40 = .ok (.iload_n 3, 1) := by decide +kernel
theorem dX11_addEnds_41 : decode cX11_addEnds 41 = .ok (.invokevirtual 216, 3) := by decide +kernel
theorem dX11_addEnds_44 : decode cX11_addEnds 44 = .ok (.iload_n 3, 1) := by decide +kernel
theorem dX11_addEnds_45 : decode cX11_addEnds 45 = .ok (.iload 4, 2) := by decide +kernel
theorem dX11_addEnds_47 : decode cX11_addEnds 47 = .ok (.aload_n 0, 1) := by decide +kernel
theorem dX11_addEnds_48 : decode cX11_addEnds 48 = .ok (.getfield 66, 3) := by decide +kernel
theorem dX11_addEnds_51 : decode cX11_addEnds 51 = .ok (.iload_n 3, 1) := by decide +kernel
theorem dX11_addEnds_52 : decode cX11_addEnds 52 = .ok (.invokevirtual 219, 3) := by decide +kernel
theorem dX11_addEnds_55 : decode cX11_addEnds 55 = .ok (.invokevirtual 209, 3) := by decide +kernel
theorem dX11_addEnds_58 : decode cX11_addEnds 58 = .ok (.iinc 3 1, 3) := by decide +kernel
theorem dX11_addEnds_61 : decode cX11_addEnds 61 = .ok (.goto (-59), 3) := by decide +kernel
theorem dX11_addEnds_64 : decode cX11_addEnds 64 = .ok (.return_, 1) := by decide +kernel
set_option maxRecDepth 20000 in
theorem ggX11_areNear_X8_wholeCost : GoodIn wsX11_areNear wsX8_wholeCost := goodIn_r _ [7, 8, 9, 10, 11, 12, 6, 13, 14, 15, 16, 17, 18, 19, 20, 21, 22, 23, 24, 25, 26, 27, 28, 29, 30, 31, 32, 33, 34, 35, 36, 37, 38, 39, 40, 41, 42, 43, 44, 45, 46, 47, 48, 49, 50, 51, 52, 53, 54, 55, 56, 57, 58, 59, 76, 77, 78, 79, 80, 81, 82, 83, 84, 85, 86, 87, 88] (by decide +kernel) (by decide +kernel)
set_option maxRecDepth 20000 in
theorem gX11_areNear_X8_wholeCost : GoodIn wsX11_areNear (wsV RX11 151 RX8 yX8_wholeCost wsX8_wholeCost) := goodIn_app (goodIn_of _ (by decide +kernel)) ggX11_areNear_X8_wholeCost
theorem dX11_areNear_0 : decode cX11_areNear 0 = .ok (.aload_n 0, 1) := by decide +kernel
theorem dX11_areNear_1 : decode cX11_areNear 1 = .ok (.getfield 66, 3) := by decide +kernel
theorem dX11_areNear_4 : decode cX11_areNear 4 = .ok (.aload_n 0, 1) := by decide +kernel
theorem dX11_areNear_5 : decode cX11_areNear 5 = .ok (.getfield 22, 3) := by decide +kernel
theorem dX11_areNear_8 : decode cX11_areNear 8 = .ok (.aload_n 1, 1) := by decide +kernel
theorem dX11_areNear_9 : decode cX11_areNear 9 = .ok (.aload_n 2, 1) := by decide +kernel
theorem dX11_areNear_10 : decode cX11_areNear 10 = .ok (.iconst 0, 1) := by decide +kernel
theorem dX11_areNear_11 : decode cX11_areNear 11 = .ok (.iload_n 3, 1) := by decide +kernel
theorem dX11_areNear_12 : decode cX11_areNear 12 = .ok (.invokevirtual 151, 3) := by decide +kernel
theorem dX11_areNear_15 : decode cX11_areNear 15 = .ok (.iload_n 3, 1) := by decide +kernel
theorem dX11_areNear_16 : decode cX11_areNear 16 = .ok (.if_icmp .le 22, 3) := by decide +kernel
theorem dX11_areNear_19 : decode cX11_areNear 19 = .ok (.aload_n 0, 1) := by decide +kernel
theorem dX11_areNear_20 : decode cX11_areNear 20 = .ok (.getfield 66, 3) := by decide +kernel
theorem dX11_areNear_23 : decode cX11_areNear 23 = .ok (.aload_n 0, 1) := by decide +kernel
theorem dX11_areNear_24 : decode cX11_areNear 24 = .ok (.getfield 22, 3) := by decide +kernel
theorem dX11_areNear_27 : decode cX11_areNear 27 = .ok (.aload_n 2, 1) := by decide +kernel
theorem dX11_areNear_28 : decode cX11_areNear 28 = .ok (.aload_n 1, 1) := by decide +kernel
theorem dX11_areNear_29 : decode cX11_areNear 29 = .ok (.iconst 0, 1) := by decide +kernel
theorem dX11_areNear_30 : decode cX11_areNear 30 = .ok (.iload_n 3, 1) := by decide +kernel
theorem dX11_areNear_31 : decode cX11_areNear 31 = .ok (.invokevirtual 151, 3) := by decide +kernel
theorem dX11_areNear_34 : decode cX11_areNear 34 = .ok (.iload_n 3, 1) := by decide +kernel
theorem dX11_areNear_35 : decode cX11_areNear 35 = .ok (.if_icmp .gt 7, 3) := by decide +kernel
theorem dX11_areNear_38 : decode cX11_areNear 38 = .ok (.iconst 1, 1) := by decide +kernel
theorem dX11_areNear_39 : decode cX11_areNear 39 = .ok (.goto 4, 3) := by decide +kernel
theorem dX11_areNear_42 : decode cX11_areNear 42 = .ok (.iconst 0, 1) := by decide +kernel
theorem dX11_areNear_43 : decode cX11_areNear 43 = .ok (.ireturn, 1) := by decide +kernel
theorem dX11_joinFamilies_0 : decode cX11_joinFamilies 0 = .ok (.iload_n 1, 1) := by decide +kernel
theorem dX11_joinFamilies_1 : decode cX11_joinFamilies 1 = .ok (.iload_n 2, 1) := by decide +kernel
theorem dX11_joinFamilies_2 : decode cX11_joinFamilies 2 = .ok (.invokestatic 222, 3) := by decide +kernel
theorem dX11_joinFamilies_5 : decode cX11_joinFamilies 5 = .ok (.istore_n 3, 1) := by decide +kernel
theorem dX11_joinFamilies_6 : decode cX11_joinFamilies 6 = .ok (.iconst 0, 1) := by decide +kernel
theorem dX11_joinFamilies_7 : decode cX11_joinFamilies 7 = .ok (.istore 4, 2) := by decide +kernel
theorem dX11_joinFamilies_9 : decode cX11_joinFamilies 9 = .ok (.iload 4, 2) := by decide +kernel
theorem dX11_joinFamilies_11 : decode cX11_joinFamilies 11 = .ok (.aload_n 0, 1) := by decide +kernel
theorem dX11_joinFamilies_12 : decode cX11_joinFamilies 12 = .ok (.getfield 178, 3) := by decide +kernel
theorem dX11_joinFamilies_15 : decode cX11_joinFamilies 15 = .ok (.if_icmp .ge 39, 3) := by decide +kernel
theorem dX11_joinFamilies_18 : decode cX11_joinFamilies 18 = .ok (.aload_n 0, 1) := by decide +kernel
theorem dX11_joinFamilies_19 : decode cX11_joinFamilies 19 = .ok (.getfield 84, 3) := by decide +kernel
theorem dX11_joinFamilies_22 : decode cX11_joinFamilies 22 = .ok (.iload 4, 2) := by decide +kernel
theorem dX11_joinFamilies_24 : decode cX11_joinFamilies 24 = .ok (.iaload, 1) := by decide +kernel
theorem dX11_joinFamilies_25 : decode cX11_joinFamilies 25 = .ok (.iload_n 1, 1) := by decide +kernel
theorem dX11_joinFamilies_26 : decode cX11_joinFamilies 26 = .ok (.if_icmp .eq 14, 3) := by decide +kernel
theorem dX11_joinFamilies_29 : decode cX11_joinFamilies 29 = .ok (.aload_n 0, 1) := by decide +kernel
theorem dX11_joinFamilies_30 : decode cX11_joinFamilies 30 = .ok (.getfield 84, 3) := by decide +kernel
theorem dX11_joinFamilies_33 : decode cX11_joinFamilies 33 = .ok (.iload 4, 2) := by decide +kernel
theorem dX11_joinFamilies_35 : decode cX11_joinFamilies 35 = .ok (.iaload, 1) := by decide +kernel
theorem dX11_joinFamilies_36 : decode cX11_joinFamilies 36 = .ok (.iload_n 2, 1) := by decide +kernel
theorem dX11_joinFamilies_37 : decode cX11_joinFamilies 37 = .ok (.if_icmp .ne 11, 3) := by decide +kernel
theorem dX11_joinFamilies_40 : decode cX11_joinFamilies 40 = .ok (.aload_n 0, 1) := by decide +kernel
theorem dX11_joinFamilies_41 : decode cX11_joinFamilies 41 = .ok (.getfield 84, 3) := by decide +kernel
theorem dX11_joinFamilies_44 : decode cX11_joinFamilies 44 = .ok (.iload 4, 2) := by decide +kernel
theorem dX11_joinFamilies_46 : decode cX11_joinFamilies 46 = .ok (.iload_n 3, 1) := by decide +kernel
theorem dX11_joinFamilies_47 : decode cX11_joinFamilies 47 = .ok (.iastore, 1) := by decide +kernel
theorem dX11_joinFamilies_48 : decode cX11_joinFamilies 48 = .ok (.iinc 4 1, 3) := by decide +kernel
theorem dX11_joinFamilies_51 : decode cX11_joinFamilies 51 = .ok (.goto (-42), 3) := by decide +kernel
theorem dX11_joinFamilies_54 : decode cX11_joinFamilies 54 = .ok (.return_, 1) := by decide +kernel
theorem dX12_init_0 : decode cX12_init 0 = .ok (.aload_n 0, 1) := by decide +kernel
theorem dX12_init_1 : decode cX12_init 1 = .ok (.invokespecial 3, 3) := by decide +kernel
theorem dX12_init_4 : decode cX12_init 4 = .ok (.aload_n 0, 1) := by decide +kernel
theorem dX12_init_5 : decode cX12_init 5 = .ok (.sipush 216, 3) := by decide +kernel
theorem dX12_init_8 : decode cX12_init 8 = .ok (.newarray .int, 2) := by decide +kernel
theorem dX12_init_10 : decode cX12_init 10 = .ok (.putfield 11, 3) := by decide +kernel
theorem dX12_init_13 : decode cX12_init 13 = .ok (.aload_n 0, 1) := by decide +kernel
theorem dX12_init_14 : decode cX12_init 14 = .ok (.sipush 216, 3) := by decide +kernel
theorem dX12_init_17 : decode cX12_init 17 = .ok (.newarray .int, 2) := by decide +kernel
theorem dX12_init_19 : decode cX12_init 19 = .ok (.putfield 15, 3) := by decide +kernel
theorem dX12_init_22 : decode cX12_init 22 = .ok (.aload_n 0, 1) := by decide +kernel
theorem dX12_init_23 : decode cX12_init 23 = .ok (.bipush 9, 2) := by decide +kernel
theorem dX12_init_25 : decode cX12_init 25 = .ok (.newarray .int, 2) := by decide +kernel
theorem dX12_init_27 : decode cX12_init 27 = .ok (.putfield 18, 3) := by decide +kernel
theorem dX12_init_30 : decode cX12_init 30 = .ok (.aload_n 0, 1) := by decide +kernel
theorem dX12_init_31 : decode cX12_init 31 = .ok (.bipush 8, 2) := by decide +kernel
theorem dX12_init_33 : decode cX12_init 33 = .ok (.newarray .int, 2) := by decide +kernel
theorem dX12_init_35 : decode cX12_init 35 = .ok (.dup, 1) := by decide +kernel
theorem dX12_init_36 : decode cX12_init 36 = .ok (.iconst 0, 1) := by decide +kernel
theorem dX12_init_37 : decode cX12_init 37 = .ok (.iconst 1, 1) := by decide +kernel
theorem dX12_init_38 : decode cX12_init 38 = .ok (.iastore, 1) := by decide +kernel
theorem dX12_init_39 : decode cX12_init 39 = .ok (.dup, 1) := by decide +kernel
theorem dX12_init_40 : decode cX12_init 40 = .ok (.iconst 1, 1) := by decide +kernel
theorem dX12_init_41 : decode cX12_init 41 = .ok (.iconst 1, 1) := by decide +kernel
theorem dX12_init_42 : decode cX12_init 42 = .ok (.iastore, 1) := by decide +kernel
theorem dX12_init_43 : decode cX12_init 43 = .ok (.dup, 1) := by decide +kernel
theorem dX12_init_44 : decode cX12_init 44 = .ok (.iconst 2, 1) := by decide +kernel
theorem dX12_init_45 : decode cX12_init 45 = .ok (.iconst 1, 1) := by decide +kernel
theorem dX12_init_46 : decode cX12_init 46 = .ok (.iastore, 1) := by decide +kernel
theorem dX12_init_47 : decode cX12_init 47 = .ok (.dup, 1) := by decide +kernel
theorem dX12_init_48 : decode cX12_init 48 = .ok (.iconst 3, 1) := by decide +kernel
theorem dX12_init_49 : decode cX12_init 49 = .ok (.iconst 1, 1) := by decide +kernel
theorem dX12_init_50 : decode cX12_init 50 = .ok (.iastore, 1) := by decide +kernel
theorem dX12_init_51 : decode cX12_init 51 = .ok (.dup, 1) := by decide +kernel
theorem dX12_init_52 : decode cX12_init 52 = .ok (.iconst 4, 1) := by decide +kernel
theorem dX12_init_53 : decode cX12_init 53 = .ok (.iconst 1, 1) := by decide +kernel
theorem dX12_init_54 : decode cX12_init 54 = .ok (.iastore, 1) := by decide +kernel
theorem dX12_init_55 : decode cX12_init 55 = .ok (.dup, 1) := by decide +kernel
theorem dX12_init_56 : decode cX12_init 56 = .ok (.iconst 5, 1) := by decide +kernel
theorem dX12_init_57 : decode cX12_init 57 = .ok (.iconst 1, 1) := by decide +kernel
theorem dX12_init_58 : decode cX12_init 58 = .ok (.iastore, 1) := by decide +kernel
theorem dX12_init_59 : decode cX12_init 59 = .ok (.dup, 1) := by decide +kernel
theorem dX12_init_60 : decode cX12_init 60 = .ok (.bipush 6, 2) := by decide +kernel
theorem dX12_init_62 : decode cX12_init 62 = .ok (.iconst 1, 1) := by decide +kernel
theorem dX12_init_63 : decode cX12_init 63 = .ok (.iastore, 1) := by decide +kernel
theorem dX12_init_64 : decode cX12_init 64 = .ok (.dup, 1) := by decide +kernel
theorem dX12_init_65 : decode cX12_init 65 = .ok (.bipush 7, 2) := by decide +kernel
theorem dX12_init_67 : decode cX12_init 67 = .ok (.iconst 1, 1) := by decide +kernel
theorem dX12_init_68 : decode cX12_init 68 = .ok (.iastore, 1) := by decide +kernel
theorem dX12_init_69 : decode cX12_init 69 = .ok (.putfield 21, 3) := by decide +kernel
theorem dX12_init_72 : decode cX12_init 72 = .ok (.aload_n 0, 1) := by decide +kernel
theorem dX12_init_73 : decode cX12_init 73 = .ok (.sipush 160, 3) := by decide +kernel
theorem dX12_init_76 : decode cX12_init 76 = .ok (.newarray .byte, 2) := by decide +kernel
theorem dX12_init_78 : decode cX12_init 78 = .ok (.putfield 24, 3) := by decide +kernel
theorem dX12_init_81 : decode cX12_init 81 = .ok (.aload_n 0, 1) := by decide +kernel
theorem dX12_init_82 : decode cX12_init 82 = .ok (.sipush 1000, 3) := by decide +kernel
theorem dX12_init_85 : decode cX12_init 85 = .ok (.newarray .int, 2) := by decide +kernel
theorem dX12_init_87 : decode cX12_init 87 = .ok (.putfield 28, 3) := by decide +kernel
theorem dX12_init_90 : decode cX12_init 90 = .ok (.aload_n 0, 1) := by decide +kernel
theorem dX12_init_91 : decode cX12_init 91 = .ok (.sipush 1000, 3) := by decide +kernel
theorem dX12_init_94 : decode cX12_init 94 = .ok (.newarray .int, 2) := by decide +kernel
theorem dX12_init_96 : decode cX12_init 96 = .ok (.putfield 31, 3) := by decide +kernel
theorem dX12_init_99 : decode cX12_init 99 = .ok (.aload_n 0, 1) := by decide +kernel
theorem dX12_init_100 : decode cX12_init 100 = .ok (.sipush 1000, 3) := by decide +kernel
theorem dX12_init_103 : decode cX12_init 103 = .ok (.newarray .int, 2) := by decide +kernel
theorem dX12_init_105 : decode cX12_init 105 = .ok (.putfield 34, 3) := by decide +kernel
theorem dX12_init_108 : decode cX12_init 108 = .ok (.aload_n 0, 1) := by decide +kernel
theorem dX12_init_109 : decode cX12_init 109 = .ok (.iconst (-1), 1) := by decide +kernel
theorem dX12_init_110 : decode cX12_init 110 = .ok (.putfield 37, 3) := by decide +kernel
theorem dX12_init_113 : decode cX12_init 113 = .ok (.aload_n 0, 1) := by decide +kernel
theorem dX12_init_114 : decode cX12_init 114 = .ok (.bipush 24, 2) := by decide +kernel
theorem dX12_init_116 : decode cX12_init 116 = .ok (.newarray .int, 2) := by decide +kernel
theorem dX12_init_118 : decode cX12_init 118 = .ok (.putfield 41, 3) := by decide +kernel
theorem dX12_init_121 : decode cX12_init 121 = .ok (.aload_n 0, 1) := by decide +kernel
theorem dX12_init_122 : decode cX12_init 122 = .ok (.sipush 1000, 3) := by decide +kernel
theorem dX12_init_125 : decode cX12_init 125 = .ok (.newarray .int, 2) := by decide +kernel
theorem dX12_init_127 : decode cX12_init 127 = .ok (.putfield 44, 3) := by decide +kernel
theorem dX12_init_130 : decode cX12_init 130 = .ok (.aload_n 0, 1) := by decide +kernel
theorem dX12_init_131 : decode cX12_init 131 = .ok (.sipush 625, 3) := by decide +kernel
theorem dX12_init_134 : decode cX12_init 134 = .ok (.newarray .int, 2) := by decide +kernel
theorem dX12_init_136 : decode cX12_init 136 = .ok (.putfield 47, 3) := by decide +kernel
theorem dX12_init_139 : decode cX12_init 139 = .ok (.aload_n 0, 1) := by decide +kernel
theorem dX12_init_140 : decode cX12_init 140 = .ok (.sipush 325, 3) := by decide +kernel
theorem dX12_init_143 : decode cX12_init 143 = .ok (.newarray .int, 2) := by decide +kernel
theorem dX12_init_145 : decode cX12_init 145 = .ok (.putfield 50, 3) := by decide +kernel
theorem dX12_init_148 : decode cX12_init 148 = .ok (.aload_n 0, 1) := by decide +kernel
theorem dX12_init_149 : decode cX12_init 149 = .ok (.sipush 325, 3) := by decide +kernel
theorem dX12_init_152 : decode cX12_init 152 = .ok (.newarray .int, 2) := by decide +kernel
theorem dX12_init_154 : decode cX12_init 154 = .ok (.putfield 53, 3) := by decide +kernel
theorem dX12_init_157 : decode cX12_init 157 = .ok (.aload_n 0, 1) := by decide +kernel
theorem dX12_init_158 : decode cX12_init 158 = .ok (.bipush 25, 2) := by decide +kernel
theorem dX12_init_160 : decode cX12_init 160 = .ok (.newarray .int, 2) := by decide +kernel
theorem dX12_init_162 : decode cX12_init 162 = .ok (.putfield 56, 3) := by decide +kernel
theorem dX12_init_165 : decode cX12_init 165 = .ok (.aload_n 0, 1) := by decide +kernel
theorem dX12_init_166 : decode cX12_init 166 = .ok (.bipush 25, 2) := by decide +kernel
theorem dX12_init_168 : decode cX12_init 168 = .ok (.newarray .int, 2) := by decide +kernel
theorem dX12_init_170 : decode cX12_init 170 = .ok (.putfield 59, 3) := by decide +kernel
theorem dX12_init_173 : decode cX12_init 173 = .ok (.aload_n 0, 1) := by decide +kernel
theorem dX12_init_174 : decode cX12_init 174 = .ok (.bipush 25, 2) := by decide +kernel
theorem dX12_init_176 : decode cX12_init 176 = .ok (.newarray .int, 2) := by decide +kernel
theorem dX12_init_178 : decode cX12_init 178 = .ok (.putfield 62, 3) := by decide +kernel
theorem dX12_init_181 : decode cX12_init 181 = .ok (.aload_n 0, 1) := by decide +kernel
theorem dX12_init_182 : decode cX12_init 182 = .ok (.bipush 24, 2) := by decide +kernel
theorem dX12_init_184 : decode cX12_init 184 = .ok (.newarray .int, 2) := by decide +kernel
theorem dX12_init_186 : decode cX12_init 186 = .ok (.putfield 65, 3) := by decide +kernel
theorem dX12_init_189 : decode cX12_init 189 = .ok (.aload_n 0, 1) := by decide +kernel
theorem dX12_init_190 : decode cX12_init 190 = .ok (.bipush 24, 2) := by decide +kernel
theorem dX12_init_192 : decode cX12_init 192 = .ok (.newarray .int, 2) := by decide +kernel
theorem dX12_init_194 : decode cX12_init 194 = .ok (.putfield 68, 3) := by decide +kernel
theorem dX12_init_197 : decode cX12_init 197 = .ok (.aload_n 0, 1) := by decide +kernel
theorem dX12_init_198 : decode cX12_init 198 = .ok (.sipush 576, 3) := by decide +kernel
theorem dX12_init_201 : decode cX12_init 201 = .ok (.newarray .int, 2) := by decide +kernel
theorem dX12_init_203 : decode cX12_init 203 = .ok (.putfield 71, 3) := by decide +kernel
theorem dX12_init_206 : decode cX12_init 206 = .ok (.aload_n 0, 1) := by decide +kernel
theorem dX12_init_207 : decode cX12_init 207 = .ok (.sipush 576, 3) := by decide +kernel
theorem dX12_init_210 : decode cX12_init 210 = .ok (.newarray .long, 2) := by decide +kernel
theorem dX12_init_212 : decode cX12_init 212 = .ok (.putfield 74, 3) := by decide +kernel
theorem dX12_init_215 : decode cX12_init 215 = .ok (.aload_n 0, 1) := by decide +kernel
theorem dX12_init_216 : decode cX12_init 216 = .ok (.bipush 48, 2) := by decide +kernel
theorem dX12_init_218 : decode cX12_init 218 = .ok (.newarray .long, 2) := by decide +kernel
theorem dX12_init_220 : decode cX12_init 220 = .ok (.putfield 78, 3) := by decide +kernel
theorem dX12_init_223 : decode cX12_init 223 = .ok (.aload_n 0, 1) := by decide +kernel
theorem dX12_init_224 : decode cX12_init 224 = .ok (.bipush 48, 2) := by decide +kernel
theorem dX12_init_226 : decode cX12_init 226 = .ok (.newarray .int, 2) := by decide +kernel
theorem dX12_init_228 : decode cX12_init 228 = .ok (.putfield 81, 3) := by decide +kernel
theorem dX12_init_231 : decode cX12_init 231 = .ok (.aload_n 0, 1) := by decide +kernel
theorem dX12_init_232 : decode cX12_init 232 = .ok (.bipush 8, 2) := by decide +kernel
theorem dX12_init_234 : decode cX12_init 234 = .ok (.newarray .int, 2) := by decide +kernel
theorem dX12_init_236 : decode cX12_init 236 = .ok (.putfield 84, 3) := by decide +kernel
theorem dX12_init_239 : decode cX12_init 239 = .ok (.return_, 1) := by decide +kernel
theorem dX12_thrown_0 : decode cX12_thrown 0 = .ok (.aload_n 0, 1) := by decide +kernel
theorem dX12_thrown_1 : decode cX12_thrown 1 = .ok (.getfield 87, 3) := by decide +kernel
theorem dX12_thrown_4 : decode cX12_thrown 4 = .ok (.ireturn, 1) := by decide +kernel
theorem dX12_tune_0 : decode cX12_tune 0 = .ok (.aload_n 0, 1) := by decide +kernel
theorem dX12_tune_1 : decode cX12_tune 1 = .ok (.iconst 0, 1) := by decide +kernel
theorem dX12_tune_2 : decode cX12_tune 2 = .ok (.putfield 87, 3) := by decide +kernel
theorem dX12_tune_5 : decode cX12_tune 5 = .ok (.aload_n 0, 1) := by decide +kernel
theorem dX12_tune_6 : decode cX12_tune 6 = .ok (.getfield 90, 3) := by decide +kernel
theorem dX12_tune_9 : decode cX12_tune 9 = .ok (.bipush 8, 2) := by decide +kernel
theorem dX12_tune_11 : decode cX12_tune 11 = .ok (.if_icmp .ne 6, 3) := by decide +kernel
theorem dX12_tune_14 : decode cX12_tune 14 = .ok (.bipush (-3), 2) := by decide +kernel
theorem dX12_tune_16 : decode cX12_tune 16 = .ok (.ireturn, 1) := by decide +kernel
theorem dX12_tune_17 : decode cX12_tune 17 = .ok (.aload_n 0, 1) := by decide +kernel
theorem dX12_tune_18 : decode cX12_tune 18 = .ok (.getfield 18, 3) := by decide +kernel
theorem dX12_tune_21 : decode cX12_tune 21 = .ok (.aload_n 0, 1) := by decide +kernel
theorem dX12_tune_22 : decode cX12_tune 22 = .ok (.getfield 90, 3) := by decide +kernel
theorem dX12_tune_25 : decode cX12_tune 25 = .ok (.iconst 0, 1) := by decide +kernel
theorem dX12_tune_26 : decode cX12_tune 26 = .ok (.iastore, 1) := by decide +kernel
theorem dX12_tune_27 : decode cX12_tune 27 = .ok (.aload_n 0, 1) := by decide +kernel
theorem dX12_tune_28 : decode cX12_tune 28 = .ok (.dup, 1) := by decide +kernel
theorem dX12_tune_29 : decode cX12_tune 29 = .ok (.getfield 90, 3) := by decide +kernel
theorem dX12_tune_32 : decode cX12_tune 32 = .ok (.iconst 1, 1) := by decide +kernel
theorem dX12_tune_33 : decode cX12_tune 33 = .ok (.iadd, 1) := by decide +kernel
theorem dX12_tune_34 : decode cX12_tune 34 = .ok (.putfield 90, 3) := by decide +kernel
theorem dX12_tune_37 : decode cX12_tune 37 = .ok (.aload_n 0, 1) := by decide +kernel
theorem dX12_tune_38 : decode cX12_tune 38 = .ok (.getfield 90, 3) := by decide +kernel
theorem dX12_tune_41 : decode cX12_tune 41 = .ok (.iconst 1, 1) := by decide +kernel
theorem dX12_tune_42 : decode cX12_tune 42 = .ok (.isub, 1) := by decide +kernel
theorem dX12_tune_43 : decode cX12_tune 43 = .ok (.ireturn, 1) := by decide +kernel
theorem dX12_add_0 : decode cX12_add 0 = .ok (.iload_n 2, 1) := by decide +kernel
theorem dX12_add_1 : decode cX12_add 1 = .ok (.iconst (-1), 1) := by decide +kernel
theorem dX12_add_2 : decode cX12_add 2 = .ok (.if_icmp .lt 20, 3) := by decide +kernel
theorem dX12_add_5 : decode cX12_add 5 = .ok (.iload_n 2, 1) := by decide +kernel
theorem dX12_add_6 : decode cX12_add 6 = .ok (.bipush 127, 2) := by decide +kernel
theorem dX12_add_8 : decode cX12_add 8 = .ok (.if_icmp .gt 14, 3) := by decide +kernel
theorem dX12_add_11 : decode cX12_add 11 = .ok (.iload_n 3, 1) := by decide +kernel
theorem dX12_add_12 : decode cX12_add 12 = .ok (.iconst 1, 1) := by decide +kernel
theorem dX12_add_13 : decode cX12_add 13 = .ok (.if_icmp .lt 9, 3) := by decide +kernel
theorem dX12_add_16 : decode cX12_add 16 = .ok (.iload_n 3, 1) := by decide +kernel
theorem dX12_add_17 : decode cX12_add 17 = .ok (.bipush 64, 2) := by decide +kernel
theorem dX12_add_19 : decode cX12_add 19 = .ok (.if_icmp .le 6, 3) := by decide +kernel
theorem dX12_add_22 : decode cX12_add 22 = .ok (.bipush (-2), 2) := by decide +kernel
theorem dX12_add_24 : decode cX12_add 24 = .ok (.ireturn, 1) := by decide +kernel
theorem dX12_add_25 : decode cX12_add 25 = .ok (.aload_n 0, 1) := by decide +kernel
theorem dX12_add_26 : decode cX12_add 26 = .ok (.getfield 18, 3) := by decide +kernel
theorem dX12_add_29 : decode cX12_add 29 = .ok (.iload_n 1, 1) := by decide +kernel
theorem dX12_add_30 : decode cX12_add 30 = .ok (.iaload, 1) := by decide +kernel
theorem dX12_add_31 : decode cX12_add 31 = .ok (.iload 4, 2) := by decide +kernel
theorem dX12_add_33 : decode cX12_add 33 = .ok (.if_icmp .ne 6, 3) := by decide +kernel
theorem dX12_add_36 : decode cX12_add 36 = .ok (.bipush (-3), 2) := by decide +kernel
theorem dX12_add_38 : decode cX12_add 38 = .ok (.ireturn, 1) := by decide +kernel
theorem dX12_add_39 : decode cX12_add 39 = .ok (.aload_n 0, 1) := by decide +kernel
theorem dX12_add_40 : decode cX12_add 40 = .ok (.getfield 11, 3) := by decide +kernel
theorem dX12_add_43 : decode cX12_add 43 = .ok (.bipush 24, 2) := by decide +kernel
theorem dX12_add_45 : decode cX12_add 45 = .ok (.iload_n 1, 1) := by decide +kernel
theorem dX12_add_46 : decode cX12_add 46 = .ok (.imul, 1) := by decide +kernel
theorem dX12_add_47 : decode cX12_add 47 = .ok (.aload_n 0, 1) := by decide +kernel
theorem dX12_add_48 : decode cX12_add 48 = .ok (.getfield 18, 3) := by decide +kernel
theorem dX12_add_51 : decode cX12_add 51 = .ok (.iload_n 1, 1) := by decide +kernel
theorem dX12_add_52 : decode cX12_add 52 = .ok (.iaload, 1) := by decide +kernel
theorem dX12_add_53 : decode cX12_add 53 = .ok (.iadd, 1) := by decide +kernel
theorem dX12_add_54 : decode cX12_add 54 = .ok (.iload_n 2, 1) := by decide +kernel
theorem dX12_add_55 : decode cX12_add 55 = .ok (.iastore, 1) := by decide +kernel
theorem dX12_add_56 : decode cX12_add 56 = .ok (.aload_n 0, 1) := by decide +kernel
theorem dX12_add_57 : decode cX12_add 57 = .ok (.getfield 15, 3) := by decide +kernel
theorem dX12_add_60 : decode cX12_add 60 = .ok (.bipush 24, 2) := by decide +kernel
theorem dX12_add_62 : decode cX12_add 62 = .ok (.iload_n 1, 1) := by decide +kernel
theorem dX12_add_63 : decode cX12_add 63 = .ok (.imul, 1) := by decide +kernel
theorem dX12_add_64 : decode cX12_add 64 = .ok (.aload_n 0, 1) := by decide +kernel
theorem dX12_add_65 : decode cX12_add 65 = .ok (.getfield 18, 3) := by decide +kernel
theorem dX12_add_68 : decode cX12_add 68 = .ok (.iload_n 1, 1) := by decide +kernel
theorem dX12_add_69 : decode cX12_add 69 = .ok (.iaload, 1) := by decide +kernel
theorem dX12_add_70 : decode cX12_add 70 = .ok (.iadd, 1) := by decide +kernel
theorem dX12_add_71 : decode cX12_add 71 = .ok (.iload_n 3, 1) := by decide +kernel
theorem dX12_add_72 : decode cX12_add 72 = .ok (.iastore, 1) := by decide +kernel
theorem dX12_add_73 : decode cX12_add 73 = .ok (.aload_n 0, 1) := by decide +kernel
theorem dX12_add_74 : decode cX12_add 74 = .ok (.getfield 18, 3) := by decide +kernel
theorem dX12_add_77 : decode cX12_add 77 = .ok (.iload_n 1, 1) := by decide +kernel
theorem dX12_add_78 : decode cX12_add 78 = .ok (.dup2, 1) := by decide +kernel
theorem dX12_add_79 : decode cX12_add 79 = .ok (.iaload, 1) := by decide +kernel
theorem dX12_add_80 : decode cX12_add 80 = .ok (.iconst 1, 1) := by decide +kernel
theorem dX12_add_81 : decode cX12_add 81 = .ok (.iadd, 1) := by decide +kernel
theorem dX12_add_82 : decode cX12_add 82 = .ok (.iastore, 1) := by decide +kernel
theorem dX12_add_83 : decode cX12_add 83 = .ok (.aload_n 0, 1) := by decide +kernel
theorem dX12_add_84 : decode cX12_add 84 = .ok (.getfield 18, 3) := by decide +kernel
theorem dX12_add_87 : decode cX12_add 87 = .ok (.iload_n 1, 1) := by decide +kernel
theorem dX12_add_88 : decode cX12_add 88 = .ok (.iaload, 1) := by decide +kernel
theorem dX12_add_89 : decode cX12_add 89 = .ok (.ireturn, 1) := by decide +kernel
theorem dX12_isTune_0 : decode cX12_isTune 0 = .ok (.aload_n 0, 1) := by decide +kernel
theorem dX12_isTune_1 : decode cX12_isTune 1 = .ok (.iconst 0, 1) := by decide +kernel
theorem dX12_isTune_2 : decode cX12_isTune 2 = .ok (.putfield 87, 3) := by decide +kernel
theorem dX12_isTune_5 : decode cX12_isTune 5 = .ok (.iload_n 1, 1) := by decide +kernel
theorem dX12_isTune_6 : decode cX12_isTune 6 = .ok (.ifCond .lt 15, 3) := by decide +kernel
theorem dX12_isTune_9 : decode cX12_isTune 9 = .ok (.iload_n 1, 1) := by decide +kernel
theorem dX12_isTune_10 : decode cX12_isTune 10 = .ok (.aload_n 0, 1) := by decide +kernel
theorem dX12_isTune_11 : decode cX12_isTune 11 = .ok (.getfield 90, 3) := by decide +kernel
theorem dX12_isTune_14 : decode cX12_isTune 14 = .ok (.if_icmp .ge 7, 3) := by decide +kernel
theorem dX12_isTune_17 : decode cX12_isTune 17 = .ok (.iconst 1, 1) := by decide +kernel
theorem dX12_isTune_18 : decode cX12_isTune 18 = .ok (.goto 4, 3) := by decide +kernel
theorem dX12_isTune_21 : decode cX12_isTune 21 = .ok (.iconst 0, 1) := by decide +kernel
theorem dX12_isTune_22 : decode cX12_isTune 22 = .ok (.ireturn, 1) := by decide +kernel
set_option maxRecDepth 20000 in
theorem ggX12_note_X12_isTune : GoodIn wsX12_note wsX12_isTune := goodIn_r _ [5, 6, 7, 15, 16, 17, 18, 19, 20, 21, 22, 23, 24, 25, 26, 27, 28, 29, 30, 31, 32, 33, 34, 35, 36, 37, 38, 39, 40, 41, 42, 43, 44, 45, 46, 47, 48, 49, 50, 51, 52, 53, 54, 55] (by decide +kernel) (by decide +kernel)
set_option maxRecDepth 20000 in
theorem gX12_note_X12_isTune : GoodIn wsX12_note (wsV RX12 93 RX12 yX12_isTune wsX12_isTune) := goodIn_app (goodIn_of _ (by decide +kernel)) ggX12_note_X12_isTune
set_option maxRecDepth 20000 in
theorem ggX12_note_X12_add : GoodIn wsX12_note wsX12_add := goodIn_r _ [11, 12, 13, 14, 15, 16, 17, 18, 19, 20, 21, 22, 23, 24, 25, 26, 27, 28, 29, 30, 31, 32, 33, 34, 35, 36, 37, 38, 39, 40, 41, 42, 43, 44, 45, 46, 47, 48, 49, 50, 51, 52, 53, 54, 55] (by decide +kernel) (by decide +kernel)
set_option maxRecDepth 20000 in
theorem gX12_note_X12_add : GoodIn wsX12_note (wsV RX12 97 RX12 yX12_add wsX12_add) := goodIn_app (goodIn_of _ (by decide +kernel)) ggX12_note_X12_add
theorem dX12_note_0 : decode cX12_note 0 = .ok (.aload_n 0, 1) := by decide +kernel
theorem dX12_note_1 : decode cX12_note 1 = .ok (.iload_n 1, 1) := by decide +kernel
theorem dX12_note_2 : decode cX12_note 2 = .ok (.invokevirtual 93, 3) := by decide +kernel
theorem dX12_note_5 : decode cX12_note 5 = .ok (.ifCond .eq 15, 3) := by decide +kernel
theorem dX12_note_8 : decode cX12_note 8 = .ok (.aload_n 0, 1) := by decide +kernel
theorem dX12_note_9 : decode cX12_note 9 = .ok (.iload_n 1, 1) := by decide +kernel
theorem dX12_note_10 : decode cX12_note 10 = .ok (.iload_n 2, 1) := by decide +kernel
theorem dX12_note_11 : decode cX12_note 11 = .ok (.iload_n 3, 1) := by decide +kernel
theorem dX12_note_12 : decode cX12_note 12 = .ok (.bipush 24, 2) := by decide +kernel
theorem dX12_note_14 : decode cX12_note 14 = .ok (.invokevirtual 97, 3) := by decide +kernel
theorem dX12_note_17 : decode cX12_note 17 = .ok (.goto 4, 3) := by decide +kernel
theorem dX12_note_20 : decode cX12_note 20 = .ok (.iconst (-1), 1) := by decide +kernel
theorem dX12_note_21 : decode cX12_note 21 = .ok (.ireturn, 1) := by decide +kernel
set_option maxRecDepth 20000 in
theorem ggX12_query_X12_add : GoodIn wsX12_query wsX12_add := goodIn_r _ [6, 7, 8, 9, 10, 11, 12, 13, 14, 15, 16, 17, 18, 19, 20, 21, 22, 23, 24, 25, 26, 27, 28, 29, 30, 31, 32, 33, 34, 35, 36, 37, 38, 39, 40, 41, 42, 43, 44, 45, 46, 47, 48, 49, 50] (by decide +kernel) (by decide +kernel)
set_option maxRecDepth 20000 in
theorem gX12_query_X12_add : GoodIn wsX12_query (wsV RX12 97 RX12 yX12_add wsX12_add) := goodIn_app (goodIn_of _ (by decide +kernel)) ggX12_query_X12_add
theorem dX12_query_0 : decode cX12_query 0 = .ok (.aload_n 0, 1) := by decide +kernel
theorem dX12_query_1 : decode cX12_query 1 = .ok (.iconst 0, 1) := by decide +kernel
theorem dX12_query_2 : decode cX12_query 2 = .ok (.putfield 87, 3) := by decide +kernel
theorem dX12_query_5 : decode cX12_query 5 = .ok (.aload_n 0, 1) := by decide +kernel
theorem dX12_query_6 : decode cX12_query 6 = .ok (.bipush 8, 2) := by decide +kernel
theorem dX12_query_8 : decode cX12_query 8 = .ok (.iload_n 1, 1) := by decide +kernel
theorem dX12_query_9 : decode cX12_query 9 = .ok (.iload_n 2, 1) := by decide +kernel
theorem dX12_query_10 : decode cX12_query 10 = .ok (.bipush 12, 2) := by decide +kernel
theorem dX12_query_12 : decode cX12_query 12 = .ok (.invokevirtual 97, 3) := by decide +kernel
theorem dX12_query_15 : decode cX12_query 15 = .ok (.ireturn, 1) := by decide +kernel
theorem dX12_forget_0 : decode cX12_forget 0 = .ok (.aload_n 0, 1) := by decide +kernel
theorem dX12_forget_1 : decode cX12_forget 1 = .ok (.iconst 0, 1) := by decide +kernel
theorem dX12_forget_2 : decode cX12_forget 2 = .ok (.putfield 87, 3) := by decide +kernel
theorem dX12_forget_5 : decode cX12_forget 5 = .ok (.aload_n 0, 1) := by decide +kernel
theorem dX12_forget_6 : decode cX12_forget 6 = .ok (.getfield 18, 3) := by decide +kernel
theorem dX12_forget_9 : decode cX12_forget 9 = .ok (.bipush 8, 2) := by decide +kernel
theorem dX12_forget_11 : decode cX12_forget 11 = .ok (.iaload, 1) := by decide +kernel
theorem dX12_forget_12 : decode cX12_forget 12 = .ok (.istore_n 1, 1) := by decide +kernel
theorem dX12_forget_13 : decode cX12_forget 13 = .ok (.aload_n 0, 1) := by decide +kernel
theorem dX12_forget_14 : decode cX12_forget 14 = .ok (.getfield 18, 3) := by decide +kernel
theorem dX12_forget_17 : decode cX12_forget 17 = .ok (.bipush 8, 2) := by decide +kernel
theorem dX12_forget_19 : decode cX12_forget 19 = .ok (.iconst 0, 1) := by decide +kernel
theorem dX12_forget_20 : decode cX12_forget 20 = .ok (.iastore, 1) := by decide +kernel
theorem dX12_forget_21 : decode cX12_forget 21 = .ok (.iload_n 1, 1) := by decide +kernel
theorem dX12_forget_22 : decode cX12_forget 22 = .ok (.ireturn, 1) := by decide +kernel
theorem dX12_price_0 : decode cX12_price 0 = .ok (.aload_n 0, 1) := by decide +kernel
theorem dX12_price_1 : decode cX12_price 1 = .ok (.iconst 0, 1) := by decide +kernel
theorem dX12_price_2 : decode cX12_price 2 = .ok (.putfield 87, 3) := by decide +kernel
theorem dX12_price_5 : decode cX12_price 5 = .ok (.iload_n 1, 1) := by decide +kernel
theorem dX12_price_6 : decode cX12_price 6 = .ok (.ifCond .lt 9, 3) := by decide +kernel
theorem dX12_price_9 : decode cX12_price 9 = .ok (.iload_n 1, 1) := by decide +kernel
theorem dX12_price_10 : decode cX12_price 10 = .ok (.bipush 7, 2) := by decide +kernel
theorem dX12_price_12 : decode cX12_price 12 = .ok (.if_icmp .le 5, 3) := by decide +kernel
theorem dX12_price_15 : decode cX12_price 15 = .ok (.iconst (-1), 1) := by decide +kernel
theorem dX12_price_16 : decode cX12_price 16 = .ok (.ireturn, 1) := by decide +kernel
theorem dX12_price_17 : decode cX12_price 17 = .ok (.iload_n 2, 1) := by decide +kernel
theorem dX12_price_18 : decode cX12_price 18 = .ok (.ifCond .lt 10, 3) := by decide +kernel
theorem dX12_price_21 : decode cX12_price 21 = .ok (.iload_n 2, 1) := by decide +kernel
theorem dX12_price_22 : decode cX12_price 22 = .ok (.sipush 1000, 3) := by decide +kernel
theorem dX12_price_25 : decode cX12_price 25 = .ok (.if_icmp .le 6, 3) := by decide +kernel
theorem dX12_price_28 : decode cX12_price 28 = .ok (.bipush (-2), 2) := by decide +kernel
theorem dX12_price_30 : decode cX12_price 30 = .ok (.ireturn, 1) := by decide +kernel
theorem dX12_price_31 : decode cX12_price 31 = .ok (.aload_n 0, 1) := by decide +kernel
theorem dX12_price_32 : decode cX12_price 32 = .ok (.getfield 21, 3) := by decide +kernel
theorem dX12_price_35 : decode cX12_price 35 = .ok (.iload_n 1, 1) := by decide +kernel
theorem dX12_price_36 : decode cX12_price 36 = .ok (.iaload, 1) := by decide +kernel
theorem dX12_price_37 : decode cX12_price 37 = .ok (.istore_n 3, 1) := by decide +kernel
theorem dX12_price_38 : decode cX12_price 38 = .ok (.aload_n 0, 1) := by decide +kernel
theorem dX12_price_39 : decode cX12_price 39 = .ok (.getfield 21, 3) := by decide +kernel
theorem dX12_price_42 : decode cX12_price 42 = .ok (.iload_n 1, 1) := by decide +kernel
theorem dX12_price_43 : decode cX12_price 43 = .ok (.iload_n 2, 1) := by decide +kernel
theorem dX12_price_44 : decode cX12_price 44 = .ok (.iastore, 1) := by decide +kernel
theorem dX12_price_45 : decode cX12_price 45 = .ok (.iload_n 3, 1) := by decide +kernel
theorem dX12_price_46 : decode cX12_price 46 = .ok (.ireturn, 1) := by decide +kernel
theorem dX12_type_0 : decode cX12_type 0 = .ok (.aload_n 0, 1) := by decide +kernel
theorem dX12_type_1 : decode cX12_type 1 = .ok (.iconst 0, 1) := by decide +kernel
theorem dX12_type_2 : decode cX12_type 2 = .ok (.putfield 87, 3) := by decide +kernel
theorem dX12_type_5 : decode cX12_type 5 = .ok (.iload_n 3, 1) := by decide +kernel
theorem dX12_type_6 : decode cX12_type 6 = .ok (.iconst 1, 1) := by decide +kernel
theorem dX12_type_7 : decode cX12_type 7 = .ok (.if_icmp .lt 9, 3) := by decide +kernel
theorem dX12_type_10 : decode cX12_type 10 = .ok (.iload_n 3, 1) := by decide +kernel
theorem dX12_type_11 : decode cX12_type 11 = .ok (.bipush 8, 2) := by decide +kernel
theorem dX12_type_13 : decode cX12_type 13 = .ok (.if_icmp .le 6, 3) := by decide +kernel
theorem dX12_type_16 : decode cX12_type 16 = .ok (.bipush (-2), 2) := by decide +kernel
theorem dX12_type_18 : decode cX12_type 18 = .ok (.ireturn, 1) := by decide +kernel
theorem dX12_type_19 : decode cX12_type 19 = .ok (.aload_n 0, 1) := by decide +kernel
theorem dX12_type_20 : decode cX12_type 20 = .ok (.getfield 101, 3) := by decide +kernel
theorem dX12_type_23 : decode cX12_type 23 = .ok (.iload_n 3, 1) := by decide +kernel
theorem dX12_type_24 : decode cX12_type 24 = .ok (.iadd, 1) := by decide +kernel
theorem dX12_type_25 : decode cX12_type 25 = .ok (.sipush 160, 3) := by decide +kernel
theorem dX12_type_28 : decode cX12_type 28 = .ok (.if_icmp .le 6, 3) := by decide +kernel
theorem dX12_type_31 : decode cX12_type 31 = .ok (.bipush (-3), 2) := by decide +kernel
theorem dX12_type_33 : decode cX12_type 33 = .ok (.ireturn, 1) := by decide +kernel
theorem dX12_type_34 : decode cX12_type 34 = .ok (.iload_n 3, 1) := by decide +kernel
theorem dX12_type_35 : decode cX12_type 35 = .ok (.iconst 1, 1) := by decide +kernel
theorem dX12_type_36 : decode cX12_type 36 = .ok (.isub, 1) := by decide +kernel
theorem dX12_type_37 : decode cX12_type 37 = .ok (.istore 4, 2) := by decide +kernel
theorem dX12_type_39 : decode cX12_type 39 = .ok (.iload 4, 2) := by decide +kernel
theorem dX12_type_41 : decode cX12_type 41 = .ok (.ifCond .lt 37, 3) := by decide +kernel
theorem dX12_type_44 : decode cX12_type 44 = .ok (.aload_n 0, 1) := by decide +kernel
theorem dX12_type_45 : decode cX12_type 45 = .ok (.getfield 24, 3) := by decide +kernel
theorem dX12_type_48 : decode cX12_type 48 = .ok (.aload_n 0, 1) := by decide +kernel
theorem dX12_type_49 : decode cX12_type 49 = .ok (.getfield 101, 3) := by decide +kernel
theorem dX12_type_52 : decode cX12_type 52 = .ok (.lload_n 1, 1) := by decide +kernel
theorem dX12_type_53 : decode cX12_type 53 = .ok (.bipush 8, 2) := by decide +kernel
theorem dX12_type_55 : decode cX12_type 55 = .ok (.iload 4, 2) := by decide +kernel
theorem dX12_type_57 : decode cX12_type 57 = .ok (.imul, 1) := by decide +kernel
theorem dX12_type_58 : decode cX12_type 58 = .ok (.lshr, 1) := by decide +kernel
theorem dX12_type_59 : decode cX12_type 59 = .ok (.l2i, 1) := by decide +kernel
theorem dX12_type_60 : decode cX12_type 60 = .ok (.i2b, 1) := by decide +kernel
theorem dX12_type_61 : decode cX12_type 61 = .ok (.bastore, 1) := by decide +kernel
theorem dX12_type_62 : decode cX12_type 62 = .ok (.aload_n 0, 1) := by decide +kernel
theorem dX12_type_63 : decode cX12_type 63 = .ok (.dup, 1) := by decide +kernel
theorem dX12_type_64 : decode cX12_type 64 = .ok (.getfield 101, 3) := by decide +kernel
theorem dX12_type_67 : decode cX12_type 67 = .ok (.iconst 1, 1) := by decide +kernel
theorem dX12_type_68 : decode cX12_type 68 = .ok (.iadd, 1) := by decide +kernel
theorem dX12_type_69 : decode cX12_type 69 = .ok (.putfield 101, 3) := by decide +kernel
theorem dX12_type_72 : decode cX12_type 72 = .ok (.iinc 4 (-1), 3) := by decide +kernel
theorem dX12_type_75 : decode cX12_type 75 = .ok (.goto (-36), 3) := by decide +kernel
theorem dX12_type_78 : decode cX12_type 78 = .ok (.aload_n 0, 1) := by decide +kernel
theorem dX12_type_79 : decode cX12_type 79 = .ok (.getfield 101, 3) := by decide +kernel
theorem dX12_type_82 : decode cX12_type 82 = .ok (.ireturn, 1) := by decide +kernel
theorem dX12_isDigit_0 : decode cX12_isDigit 0 = .ok (.iload_n 1, 1) := by decide +kernel
theorem dX12_isDigit_1 : decode cX12_isDigit 1 = .ok (.aload_n 0, 1) := by decide +kernel
theorem dX12_isDigit_2 : decode cX12_isDigit 2 = .ok (.getfield 101, 3) := by decide +kernel
theorem dX12_isDigit_5 : decode cX12_isDigit 5 = .ok (.if_icmp .ge 29, 3) := by decide +kernel
theorem dX12_isDigit_8 : decode cX12_isDigit 8 = .ok (.aload_n 0, 1) := by decide +kernel
theorem dX12_isDigit_9 : decode cX12_isDigit 9 = .ok (.getfield 24, 3) := by decide +kernel
theorem dX12_isDigit_12 : decode cX12_isDigit 12 = .ok (.iload_n 1, 1) := by decide +kernel
theorem dX12_isDigit_13 : decode cX12_isDigit 13 = .ok (.baload, 1) := by decide +kernel
theorem dX12_isDigit_14 : decode cX12_isDigit 14 = .ok (.bipush 48, 2) := by decide +kernel
theorem dX12_isDigit_16 : decode cX12_isDigit 16 = .ok (.if_icmp .lt 18, 3) := by decide +kernel
theorem dX12_isDigit_19 : decode cX12_isDigit 19 = .ok (.aload_n 0, 1) := by decide +kernel
theorem dX12_isDigit_20 : decode cX12_isDigit 20 = .ok (.getfield 24, 3) := by decide +kernel
theorem dX12_isDigit_23 : decode cX12_isDigit 23 = .ok (.iload_n 1, 1) := by decide +kernel
theorem dX12_isDigit_24 : decode cX12_isDigit 24 = .ok (.baload, 1) := by decide +kernel
theorem dX12_isDigit_25 : decode cX12_isDigit 25 = .ok (.bipush 57, 2) := by decide +kernel
theorem dX12_isDigit_27 : decode cX12_isDigit 27 = .ok (.if_icmp .gt 7, 3) := by decide +kernel
theorem dX12_isDigit_30 : decode cX12_isDigit 30 = .ok (.iconst 1, 1) := by decide +kernel
theorem dX12_isDigit_31 : decode cX12_isDigit 31 = .ok (.goto 4, 3) := by decide +kernel
theorem dX12_isDigit_34 : decode cX12_isDigit 34 = .ok (.iconst 0, 1) := by decide +kernel
theorem dX12_isDigit_35 : decode cX12_isDigit 35 = .ok (.ireturn, 1) := by decide +kernel
set_option maxRecDepth 20000 in
theorem ggX12_next_X12_isDigit : GoodIn wsX12_next wsX12_isDigit := goodIn_r _ [11, 2, 3, 101, 102, 103, 104, 105, 106, 107, 108, 109, 110, 111, 112, 113, 114, 115, 116, 117, 118, 119, 120, 121, 122, 123, 124, 125, 126, 127, 128, 129, 130, 131, 132, 133, 134, 135, 136, 137, 138, 139, 140, 141] (by decide +kernel) (by decide +kernel)
set_option maxRecDepth 20000 in
theorem gX12_next_X12_isDigit : GoodIn wsX12_next (wsV RX12 113 RX12 yX12_isDigit wsX12_isDigit) := goodIn_app (goodIn_of _ (by decide +kernel)) ggX12_next_X12_isDigit
set_option maxRecDepth 20000 in
theorem ggX12_next_J0_indexOf_0f7a4 : GoodIn wsX12_next wsJ0_indexOf_0f7a4 := goodIn_r _ [16, 17, 18, 19, 15, 20, 21, 22, 23, 24, 25, 26, 27, 28, 29, 30, 31, 32, 33, 34, 35, 36, 37, 38, 39, 40, 41, 42, 43, 44, 45, 46, 47, 48, 49, 50, 51, 52, 53, 54, 55, 56, 57, 58, 59, 60, 61, 62, 63, 64, 65, 66, 67, 68, 69, 70, 71, 72, 73, 74, 75, 76, 77, 78, 79, 80, 81, 82, 83, 84, 85, 86, 87, 88, 89, 90, 91, 92, 93, 94, 95, 96, 97, 98, 99, 100] (by decide +kernel) (by decide +kernel)
set_option maxRecDepth 20000 in
theorem gX12_next_J0_indexOf_0f7a4 : GoodIn wsX12_next (wsV RX12 121 RJ0 yJ0_indexOf_0f7a4 wsJ0_indexOf_0f7a4) := goodIn_app (goodIn_of _ (by decide +kernel)) ggX12_next_J0_indexOf_0f7a4
theorem dX12_next_0 : decode cX12_next 0 = .ok (.aload_n 0, 1) := by decide +kernel
theorem dX12_next_1 : decode cX12_next 1 = .ok (.getfield 104, 3) := by decide +kernel
theorem dX12_next_4 : decode cX12_next 4 = .ok (.aload_n 0, 1) := by decide +kernel
theorem dX12_next_5 : decode cX12_next 5 = .ok (.getfield 101, 3) := by decide +kernel
theorem dX12_next_8 : decode cX12_next 8 = .ok (.if_icmp .ge 30, 3) := by decide +kernel
theorem dX12_next_11 : decode cX12_next 11 = .ok (.aload_n 0, 1) := by decide +kernel
theorem dX12_next_12 : decode cX12_next 12 = .ok (.getfield 24, 3) := by decide +kernel
theorem dX12_next_15 : decode cX12_next 15 = .ok (.aload_n 0, 1) := by decide +kernel
theorem dX12_next_16 : decode cX12_next 16 = .ok (.getfield 104, 3) := by decide +kernel
theorem dX12_next_19 : decode cX12_next 19 = .ok (.baload, 1) := by decide +kernel
theorem dX12_next_20 : decode cX12_next 20 = .ok (.bipush 32, 2) := by decide +kernel
theorem dX12_next_22 : decode cX12_next 22 = .ok (.if_icmp .ne 16, 3) := by decide +kernel
theorem dX12_next_25 : decode cX12_next 25 = .ok (.aload_n 0, 1) := by decide +kernel
theorem dX12_next_26 : decode cX12_next 26 = .ok (.dup, 1) := by decide +kernel
theorem dX12_next_27 : decode cX12_next 27 = .ok (.getfield 104, 3) := by decide +kernel
theorem dX12_next_30 : decode cX12_next 30 = .ok (.iconst 1, 1) := by decide +kernel
theorem dX12_next_31 : decode cX12_next 31 = .ok (.iadd, 1) := by decide +kernel
theorem dX12_next_32 : decode cX12_next 32 = .ok (.putfield 104, 3) := by decide +kernel
theorem dX12_next_35 : decode cX12_next 35 = .ok (.goto (-35), 3) := by decide +kernel
theorem dX12_next_38 : decode cX12_next 38 = .ok (.aload_n 0, 1) := by decide +kernel
theorem dX12_next_39 : decode cX12_next 39 = .ok (.aload_n 0, 1) := by decide +kernel
theorem dX12_next_40 : decode cX12_next 40 = .ok (.getfield 104, 3) := by decide +kernel
theorem dX12_next_43 : decode cX12_next 43 = .ok (.putfield 107, 3) := by decide +kernel
theorem dX12_next_46 : decode cX12_next 46 = .ok (.aload_n 0, 1) := by decide +kernel
theorem dX12_next_47 : decode cX12_next 47 = .ok (.getfield 104, 3) := by decide +kernel
theorem dX12_next_50 : decode cX12_next 50 = .ok (.aload_n 0, 1) := by decide +kernel
theorem dX12_next_51 : decode cX12_next 51 = .ok (.getfield 101, 3) := by decide +kernel
theorem dX12_next_54 : decode cX12_next 54 = .ok (.if_icmp .ne 9, 3) := by decide +kernel
theorem dX12_next_57 : decode cX12_next 57 = .ok (.aload_n 0, 1) := by decide +kernel
theorem dX12_next_58 : decode cX12_next 58 = .ok (.iconst 0, 1) := by decide +kernel
theorem dX12_next_59 : decode cX12_next 59 = .ok (.putfield 110, 3) := by decide +kernel
theorem dX12_next_62 : decode cX12_next 62 = .ok (.return_, 1) := by decide +kernel
theorem dX12_next_63 : decode cX12_next 63 = .ok (.aload_n 0, 1) := by decide +kernel
theorem dX12_next_64 : decode cX12_next 64 = .ok (.getfield 24, 3) := by decide +kernel
theorem dX12_next_67 : decode cX12_next 67 = .ok (.aload_n 0, 1) := by decide +kernel
theorem dX12_next_68 : decode cX12_next 68 = .ok (.getfield 104, 3) := by decide +kernel
theorem dX12_next_71 : decode cX12_next 71 = .ok (.baload, 1) := by decide +kernel
theorem dX12_next_72 : decode cX12_next 72 = .ok (.istore_n 1, 1) := by decide +kernel
theorem dX12_next_73 : decode cX12_next 73 = .ok (.iload_n 1, 1) := by decide +kernel
theorem dX12_next_74 : decode cX12_next 74 = .ok (.bipush 45, 2) := by decide +kernel
theorem dX12_next_76 : decode cX12_next 76 = .ok (.if_icmp .ne 7, 3) := by decide +kernel
theorem dX12_next_79 : decode cX12_next 79 = .ok (.iconst 1, 1) := by decide +kernel
theorem dX12_next_80 : decode cX12_next 80 = .ok (.goto 4, 3) := by decide +kernel
theorem dX12_next_83 : decode cX12_next 83 = .ok (.iconst 0, 1) := by decide +kernel
theorem dX12_next_84 : decode cX12_next 84 = .ok (.istore_n 2, 1) := by decide +kernel
theorem dX12_next_85 : decode cX12_next 85 = .ok (.aload_n 0, 1) := by decide +kernel
theorem dX12_next_86 : decode cX12_next 86 = .ok (.aload_n 0, 1) := by decide +kernel
theorem dX12_next_87 : decode cX12_next 87 = .ok (.getfield 104, 3) := by decide +kernel
theorem dX12_next_90 : decode cX12_next 90 = .ok (.invokevirtual 113, 3) := by decide +kernel
theorem dX12_next_93 : decode cX12_next 93 = .ok (.ifCond .ne 20, 3) := by decide +kernel
theorem dX12_next_96 : decode cX12_next 96 = .ok (.iload_n 2, 1) := by decide +kernel
theorem dX12_next_97 : decode cX12_next 97 = .ok (.ifCond .eq 141, 3) := by decide +kernel
theorem dX12_next_100 : decode cX12_next 100 = .ok (.aload_n 0, 1) := by decide +kernel
theorem dX12_next_101 : decode cX12_next 101 = .ok (.aload_n 0, 1) := by decide +kernel
theorem dX12_next_102 : decode cX12_next 102 = .ok (.getfield 104, 3) := by decide +kernel
theorem dX12_next_105 : decode cX12_next 105 = .ok (.iconst 1, 1) := by decide +kernel
theorem dX12_next_106 : decode cX12_next 106 = .ok (.iadd, 1) := by decide +kernel
theorem dX12_next_107 : decode cX12_next 107 = .ok (.invokevirtual 113, 3) := by decide +kernel
theorem dX12_next_110 : decode cX12_next 110 = .ok (.ifCond .eq 128, 3) := by decide +kernel
theorem dX12_next_113 : decode cX12_next 113 = .ok (.aload_n 0, 1) := by decide +kernel
theorem dX12_next_114 : decode cX12_next 114 = .ok (.dup, 1) := by decide +kernel
theorem dX12_next_115 : decode cX12_next 115 = .ok (.getfield 104, 3) := by decide +kernel
theorem dX12_next_118 : decode cX12_next 118 = .ok (.iload_n 2, 1) := by decide +kernel
theorem dX12_next_119 : decode cX12_next 119 = .ok (.ifCond .eq 7, 3) := by decide +kernel
theorem dX12_next_122 : decode cX12_next 122 = .ok (.iconst 1, 1) := by decide +kernel
theorem dX12_next_123 : decode cX12_next 123 = .ok (.goto 4, 3) := by decide +kernel
theorem dX12_next_126 : decode cX12_next 126 = .ok (.iconst 0, 1) := by decide +kernel
theorem dX12_next_127 : decode cX12_next 127 = .ok (.iadd, 1) := by decide +kernel
theorem dX12_next_128 : decode cX12_next 128 = .ok (.putfield 104, 3) := by decide +kernel
theorem dX12_next_131 : decode cX12_next 131 = .ok (.iconst 0, 1) := by decide +kernel
theorem dX12_next_132 : decode cX12_next 132 = .ok (.istore_n 3, 1) := by decide +kernel
theorem dX12_next_133 : decode cX12_next 133 = .ok (.aload_n 0, 1) := by decide +kernel
theorem dX12_next_134 : decode cX12_next 134 = .ok (.iconst 0, 1) := by decide +kernel
theorem dX12_next_135 : decode cX12_next 135 = .ok (.putfield 116, 3) := by decide +kernel
theorem dX12_next_138 : decode cX12_next 138 = .ok (.aload_n 0, 1) := by decide +kernel
theorem dX12_next_139 : decode cX12_next 139 = .ok (.aload_n 0, 1) := by decide +kernel
theorem dX12_next_140 : decode cX12_next 140 = .ok (.getfield 104, 3) := by decide +kernel
theorem dX12_next_143 : decode cX12_next 143 = .ok (.invokevirtual 113, 3) := by decide +kernel
theorem dX12_next_146 : decode cX12_next 146 = .ok (.ifCond .eq 55, 3) := by decide +kernel
theorem dX12_next_149 : decode cX12_next 149 = .ok (.aload_n 0, 1) := by decide +kernel
theorem dX12_next_150 : decode cX12_next 150 = .ok (.iload_n 3, 1) := by decide +kernel
theorem dX12_next_151 : decode cX12_next 151 = .ok (.iconst 3, 1) := by decide +kernel
theorem dX12_next_152 : decode cX12_next 152 = .ok (.if_icmp .ge 26, 3) := by decide +kernel
theorem dX12_next_155 : decode cX12_next 155 = .ok (.bipush 10, 2) := by decide +kernel
theorem dX12_next_157 : decode cX12_next 157 = .ok (.aload_n 0, 1) := by decide +kernel
theorem dX12_next_158 : decode cX12_next 158 = .ok (.getfield 116, 3) := by decide +kernel
theorem dX12_next_161 : decode cX12_next 161 = .ok (.imul, 1) := by decide +kernel
theorem dX12_next_162 : decode cX12_next 162 = .ok (.aload_n 0, 1) := by decide +kernel
theorem dX12_next_163 : decode cX12_next 163 = .ok (.getfield 24, 3) := by decide +kernel
theorem dX12_next_166 : decode cX12_next 166 = .ok (.aload_n 0, 1) := by decide +kernel
theorem dX12_next_167 : decode cX12_next 167 = .ok (.getfield 104, 3) := by decide +kernel
theorem dX12_next_170 : decode cX12_next 170 = .ok (.baload, 1) := by decide +kernel
theorem dX12_next_171 : decode cX12_next 171 = .ok (.iadd, 1) := by decide +kernel
theorem dX12_next_172 : decode cX12_next 172 = .ok (.bipush 48, 2) := by decide +kernel
theorem dX12_next_174 : decode cX12_next 174 = .ok (.isub, 1) := by decide +kernel
theorem dX12_next_175 : decode cX12_next 175 = .ok (.goto 7, 3) := by decide +kernel
theorem dX12_next_178 : decode cX12_next 178 = .ok (.aload_n 0, 1) := by decide +kernel
theorem dX12_next_179 : decode cX12_next 179 = .ok (.getfield 116, 3) := by decide +kernel
theorem dX12_next_182 : decode cX12_next 182 = .ok (.putfield 116, 3) := by decide +kernel
theorem dX12_next_185 : decode cX12_next 185 = .ok (.iinc 3 1, 3) := by decide +kernel
theorem dX12_next_188 : decode cX12_next 188 = .ok (.aload_n 0, 1) := by decide +kernel
theorem dX12_next_189 : decode cX12_next 189 = .ok (.dup, 1) := by decide +kernel
theorem dX12_next_190 : decode cX12_next 190 = .ok (.getfield 104, 3) := by decide +kernel
theorem dX12_next_193 : decode cX12_next 193 = .ok (.iconst 1, 1) := by decide +kernel
theorem dX12_next_194 : decode cX12_next 194 = .ok (.iadd, 1) := by decide +kernel
theorem dX12_next_195 : decode cX12_next 195 = .ok (.putfield 104, 3) := by decide +kernel
theorem dX12_next_198 : decode cX12_next 198 = .ok (.goto (-60), 3) := by decide +kernel
theorem dX12_next_201 : decode cX12_next 201 = .ok (.aload_n 0, 1) := by decide +kernel
theorem dX12_next_202 : decode cX12_next 202 = .ok (.iload_n 2, 1) := by decide +kernel
theorem dX12_next_203 : decode cX12_next 203 = .ok (.ifCond .eq 11, 3) := by decide +kernel
theorem dX12_next_206 : decode cX12_next 206 = .ok (.aload_n 0, 1) := by decide +kernel
theorem dX12_next_207 : decode cX12_next 207 = .ok (.getfield 116, 3) := by decide +kernel
theorem dX12_next_210 : decode cX12_next 210 = .ok (.ineg, 1) := by decide +kernel
theorem dX12_next_211 : decode cX12_next 211 = .ok (.goto 7, 3) := by decide +kernel
theorem dX12_next_214 : decode cX12_next 214 = .ok (.aload_n 0, 1) := by decide +kernel
theorem dX12_next_215 : decode cX12_next 215 = .ok (.getfield 116, 3) := by decide +kernel
theorem dX12_next_218 : decode cX12_next 218 = .ok (.putfield 116, 3) := by decide +kernel
theorem dX12_next_221 : decode cX12_next 221 = .ok (.aload_n 0, 1) := by decide +kernel
theorem dX12_next_222 : decode cX12_next 222 = .ok (.iload_n 3, 1) := by decide +kernel
theorem dX12_next_223 : decode cX12_next 223 = .ok (.iconst 3, 1) := by decide +kernel
theorem dX12_next_224 : decode cX12_next 224 = .ok (.if_icmp .le 7, 3) := by decide +kernel
theorem dX12_next_227 : decode cX12_next 227 = .ok (.iconst 3, 1) := by decide +kernel
theorem dX12_next_228 : decode cX12_next 228 = .ok (.goto 4, 3) := by decide +kernel
theorem dX12_next_231 : decode cX12_next 231 = .ok (.iconst 1, 1) := by decide +kernel
theorem dX12_next_232 : decode cX12_next 232 = .ok (.putfield 110, 3) := by decide +kernel
theorem dX12_next_235 : decode cX12_next 235 = .ok (.goto 40, 3) := by decide +kernel
theorem dX12_next_238 : decode cX12_next 238 = .ok (.aload_n 0, 1) := by decide +kernel
theorem dX12_next_239 : decode cX12_next 239 = .ok (.iload_n 1, 1) := by decide +kernel
theorem dX12_next_240 : decode cX12_next 240 = .ok (.putfield 116, 3) := by decide +kernel
theorem dX12_next_243 : decode cX12_next 243 = .ok (.aload_n 0, 1) := by decide +kernel
theorem dX12_next_244 : decode cX12_next 244 = .ok (.iload_n 1, 1) := by decide +kernel
theorem dX12_next_245 : decode cX12_next 245 = .ok (.ifCond .le 16, 3) := by decide +kernel
theorem dX12_next_248 : decode cX12_next 248 = .ok (.ldc 119, 2) := by decide +kernel
theorem dX12_next_250 : decode cX12_next 250 = .ok (.iload_n 1, 1) := by decide +kernel
theorem dX12_next_251 : decode cX12_next 251 = .ok (.invokevirtual 121, 3) := by decide +kernel
theorem dX12_next_254 : decode cX12_next 254 = .ok (.ifCond .lt 7, 3) := by decide +kernel
theorem dX12_next_257 : decode cX12_next 257 = .ok (.iconst 2, 1) := by decide +kernel
theorem dX12_next_258 : decode cX12_next 258 = .ok (.goto 4, 3) := by decide +kernel
theorem dX12_next_261 : decode cX12_next 261 = .ok (.iconst 3, 1) := by decide +kernel
theorem dX12_next_262 : decode cX12_next 262 = .ok (.putfield 110, 3) := by decide +kernel
theorem dX12_next_265 : decode cX12_next 265 = .ok (.aload_n 0, 1) := by decide +kernel
theorem dX12_next_266 : decode cX12_next 266 = .ok (.dup, 1) := by decide +kernel
theorem dX12_next_267 : decode cX12_next 267 = .ok (.getfield 104, 3) := by decide +kernel
theorem dX12_next_270 : decode cX12_next 270 = .ok (.iconst 1, 1) := by decide +kernel
theorem dX12_next_271 : decode cX12_next 271 = .ok (.iadd, 1) := by decide +kernel
theorem dX12_next_272 : decode cX12_next 272 = .ok (.putfield 104, 3) := by decide +kernel
theorem dX12_next_275 : decode cX12_next 275 = .ok (.return_, 1) := by decide +kernel
theorem dX12_fault_0 : decode cX12_fault 0 = .ok (.aload_n 0, 1) := by decide +kernel
theorem dX12_fault_1 : decode cX12_fault 1 = .ok (.getfield 127, 3) := by decide +kernel
theorem dX12_fault_4 : decode cX12_fault 4 = .ok (.ifCond .ne 16, 3) := by decide +kernel
theorem dX12_fault_7 : decode cX12_fault 7 = .ok (.aload_n 0, 1) := by decide +kernel
theorem dX12_fault_8 : decode cX12_fault 8 = .ok (.iload_n 1, 1) := by decide +kernel
theorem dX12_fault_9 : decode cX12_fault 9 = .ok (.putfield 127, 3) := by decide +kernel
theorem dX12_fault_12 : decode cX12_fault 12 = .ok (.aload_n 0, 1) := by decide +kernel
theorem dX12_fault_13 : decode cX12_fault 13 = .ok (.aload_n 0, 1) := by decide +kernel
theorem dX12_fault_14 : decode cX12_fault 14 = .ok (.getfield 107, 3) := by decide +kernel
theorem dX12_fault_17 : decode cX12_fault 17 = .ok (.putfield 130, 3) := by decide +kernel
theorem dX12_fault_20 : decode cX12_fault 20 = .ok (.return_, 1) := by decide +kernel
theorem dX12_good_0 : decode cX12_good 0 = .ok (.aload_n 0, 1) := by decide +kernel
theorem dX12_good_1 : decode cX12_good 1 = .ok (.getfield 127, 3) := by decide +kernel
theorem dX12_good_4 : decode cX12_good 4 = .ok (.ifCond .ne 7, 3) := by decide +kernel
theorem dX12_good_7 : decode cX12_good 7 = .ok (.iconst 1, 1) := by decide +kernel
theorem dX12_good_8 : decode cX12_good 8 = .ok (.goto 4, 3) := by decide +kernel
theorem dX12_good_11 : decode cX12_good 11 = .ok (.iconst 0, 1) := by decide +kernel
theorem dX12_good_12 : decode cX12_good 12 = .ok (.ireturn, 1) := by decide +kernel
set_option maxRecDepth 20000 in
theorem ggX12_is_X12_good : GoodIn wsX12_is wsX12_good := goodIn_r _ [7, 8, 9, 10, 11, 12, 13, 14, 15, 16, 17, 18, 19, 20, 21, 22, 23, 24, 25, 26, 27, 28, 29, 30, 31, 32, 33, 34, 35, 36, 37, 38, 39, 40, 41, 42, 43, 44, 45, 46, 47, 48, 49] (by decide +kernel) (by decide +kernel)
set_option maxRecDepth 20000 in
theorem gX12_is_X12_good : GoodIn wsX12_is (wsV RX12 133 RX12 yX12_good wsX12_good) := goodIn_app (goodIn_of _ (by decide +kernel)) ggX12_is_X12_good
theorem dX12_is_0 : decode cX12_is 0 = .ok (.aload_n 0, 1) := by decide +kernel
theorem dX12_is_1 : decode cX12_is 1 = .ok (.invokevirtual 133, 3) := by decide +kernel
theorem dX12_is_4 : decode cX12_is 4 = .ok (.ifCond .eq 23, 3) := by decide +kernel
theorem dX12_is_7 : decode cX12_is 7 = .ok (.aload_n 0, 1) := by decide +kernel
theorem dX12_is_8 : decode cX12_is 8 = .ok (.getfield 110, 3) := by decide +kernel
theorem dX12_is_11 : decode cX12_is 11 = .ok (.iconst 2, 1) := by decide +kernel
theorem dX12_is_12 : decode cX12_is 12 = .ok (.if_icmp .ne 15, 3) := by decide +kernel
theorem dX12_is_15 : decode cX12_is 15 = .ok (.aload_n 0, 1) := by decide +kernel
theorem dX12_is_16 : decode cX12_is 16 = .ok (.getfield 116, 3) := by decide +kernel
theorem dX12_is_19 : decode cX12_is 19 = .ok (.iload_n 1, 1) := by decide +kernel
theorem dX12_is_20 : decode cX12_is 20 = .ok (.if_icmp .ne 7, 3) := by decide +kernel
theorem dX12_is_23 : decode cX12_is 23 = .ok (.iconst 1, 1) := by decide +kernel
theorem dX12_is_24 : decode cX12_is 24 = .ok (.goto 4, 3) := by decide +kernel
theorem dX12_is_27 : decode cX12_is 27 = .ok (.iconst 0, 1) := by decide +kernel
theorem dX12_is_28 : decode cX12_is 28 = .ok (.ireturn, 1) := by decide +kernel
set_option maxRecDepth 20000 in
theorem ggX12_misplaced_X12_fault : GoodIn wsX12_misplaced wsX12_fault := goodIn_r _ [6, 7, 8, 9, 10, 11, 12, 13, 14, 15, 16, 17, 18, 19, 20, 21, 22, 23, 24, 25, 26, 27, 28, 29, 30, 31, 32, 33, 34, 35, 36, 37, 38, 39, 40, 41, 42, 43, 44, 45, 46, 47, 48, 49, 50] (by decide +kernel) (by decide +kernel)
set_option maxRecDepth 20000 in
theorem gX12_misplaced_X12_fault : GoodIn wsX12_misplaced (wsV RX12 137 RX12 yX12_fault wsX12_fault) := goodIn_app (goodIn_of _ (by decide +kernel)) ggX12_misplaced_X12_fault
theorem dX12_misplaced_0 : decode cX12_misplaced 0 = .ok (.aload_n 0, 1) := by decide +kernel
theorem dX12_misplaced_1 : decode cX12_misplaced 1 = .ok (.aload_n 0, 1) := by decide +kernel
theorem dX12_misplaced_2 : decode cX12_misplaced 2 = .ok (.getfield 110, 3) := by decide +kernel
theorem dX12_misplaced_5 : decode cX12_misplaced 5 = .ok (.iconst 3, 1) := by decide +kernel
theorem dX12_misplaced_6 : decode cX12_misplaced 6 = .ok (.if_icmp .ne 7, 3) := by decide +kernel
theorem dX12_misplaced_9 : decode cX12_misplaced 9 = .ok (.iconst 1, 1) := by decide +kernel
theorem dX12_misplaced_10 : decode cX12_misplaced 10 = .ok (.goto 4, 3) := by decide +kernel
theorem dX12_misplaced_13 : decode cX12_misplaced 13 = .ok (.iconst 2, 1) := by decide +kernel
theorem dX12_misplaced_14 : decode cX12_misplaced 14 = .ok (.invokevirtual 137, 3) := by decide +kernel
theorem dX12_misplaced_17 : decode cX12_misplaced 17 = .ok (.return_, 1) := by decide +kernel
set_option maxRecDepth 20000 in
theorem ggX12_take_X12_is : GoodIn wsX12_take wsX12_is := goodIn_r _ [5, 6, 7, 8, 9, 10, 4, 11, 12, 123, 124, 125, 126, 127, 128, 129, 130, 131, 132, 133, 134, 135, 136, 137, 138, 139, 140, 141, 142, 143, 144, 145, 146, 147, 148, 149, 150, 151, 152, 153, 154, 155, 156, 157, 158, 159, 160, 161, 162, 163] (by decide +kernel) (by decide +kernel)
set_option maxRecDepth 20000 in
theorem gX12_take_X12_is : GoodIn wsX12_take (wsV RX12 141 RX12 yX12_is wsX12_is) := goodIn_app (goodIn_of _ (by decide +kernel)) ggX12_take_X12_is
set_option maxRecDepth 20000 in
theorem ggX12_take_X12_misplaced : GoodIn wsX12_take wsX12_misplaced := goodIn_r _ [16, 6, 17, 18, 19, 4, 20, 12, 21, 22, 123, 124, 125, 126, 127, 128, 129, 130, 131, 132, 133, 134, 135, 136, 137, 138, 139, 140, 141, 142, 143, 144, 145, 146, 147, 148, 149, 150, 151, 152, 153, 154, 155, 156, 157, 158, 159, 160, 161, 162, 163] (by decide +kernel) (by decide +kernel)
set_option maxRecDepth 20000 in
theorem gX12_take_X12_misplaced : GoodIn wsX12_take (wsV RX12 144 RX12 yX12_misplaced wsX12_misplaced) := goodIn_app (goodIn_of _ (by decide +kernel)) ggX12_take_X12_misplaced
set_option maxRecDepth 20000 in
theorem ggX12_take_X12_next : GoodIn wsX12_take wsX12_next := goodIn_r _ [26, 27, 28, 29, 21, 6, 7, 30, 31, 32, 4, 33, 34, 35, 36, 37, 38, 39, 40, 41, 42, 43, 44, 45, 46, 47, 48, 49, 50, 51, 52, 53, 54, 55, 56, 57, 58, 59, 60, 61, 62, 63, 64, 65, 66, 67, 68, 69, 70, 71, 72, 73, 74, 75, 76, 77, 78, 79, 80, 81, 82, 83, 84, 85, 86, 87, 88, 89, 90, 91, 92, 93, 94, 95, 96, 97, 98, 99, 100, 101, 102, 103, 104, 105, 106, 107, 108, 109, 110, 111, 112, 113, 114, 115, 116, 117, 118, 119, 120, 121, 122, 123, 124, 125, 126, 127, 128, 129, 130, 131, 132, 133, 134, 135, 136, 137, 138, 139, 140, 141, 142, 143, 144, 145, 146, 147, 148, 149, 150, 151, 152, 153, 154, 155, 156, 157, 158, 159, 160, 161, 162, 163] (by decide +kernel) (by decide +kernel)
set_option maxRecDepth 20000 in
theorem gX12_take_X12_next : GoodIn wsX12_take (wsV RX12 147 RX12 yX12_next wsX12_next) := goodIn_app (goodIn_of _ (by decide +kernel)) ggX12_take_X12_next
theorem dX12_take_0 : decode cX12_take 0 = .ok (.aload_n 0, 1) := by decide +kernel
theorem dX12_take_1 : decode cX12_take 1 = .ok (.iload_n 1, 1) := by decide +kernel
theorem dX12_take_2 : decode cX12_take 2 = .ok (.invokevirtual 141, 3) := by decide +kernel
theorem dX12_take_5 : decode cX12_take 5 = .ok (.ifCond .ne 10, 3) := by decide +kernel
theorem dX12_take_8 : decode cX12_take 8 = .ok (.aload_n 0, 1) := by decide +kernel
theorem dX12_take_9 : decode cX12_take 9 = .ok (.invokevirtual 144, 3) := by decide +kernel
theorem dX12_take_12 : decode cX12_take 12 = .ok (.goto 7, 3) := by decide +kernel
theorem dX12_take_15 : decode cX12_take 15 = .ok (.aload_n 0, 1) := by decide +kernel
theorem dX12_take_16 : decode cX12_take 16 = .ok (.invokevirtual 147, 3) := by decide +kernel
theorem dX12_take_19 : decode cX12_take 19 = .ok (.return_, 1) := by decide +kernel
theorem dX12_node_0 : decode cX12_node 0 = .ok (.aload_n 0, 1) := by decide +kernel
theorem dX12_node_1 : decode cX12_node 1 = .ok (.getfield 28, 3) := by decide +kernel
theorem dX12_node_4 : decode cX12_node 4 = .ok (.aload_n 0, 1) := by decide +kernel
theorem dX12_node_5 : decode cX12_node 5 = .ok (.getfield 150, 3) := by decide +kernel
theorem dX12_node_8 : decode cX12_node 8 = .ok (.iload_n 1, 1) := by decide +kernel
theorem dX12_node_9 : decode cX12_node 9 = .ok (.iastore, 1) := by decide +kernel
theorem dX12_node_10 : decode cX12_node 10 = .ok (.aload_n 0, 1) := by decide +kernel
theorem dX12_node_11 : decode cX12_node 11 = .ok (.getfield 31, 3) := by decide +kernel
theorem dX12_node_14 : decode cX12_node 14 = .ok (.aload_n 0, 1) := by decide +kernel
theorem dX12_node_15 : decode cX12_node 15 = .ok (.getfield 150, 3) := by decide +kernel
theorem dX12_node_18 : decode cX12_node 18 = .ok (.iload_n 2, 1) := by decide +kernel
theorem dX12_node_19 : decode cX12_node 19 = .ok (.iastore, 1) := by decide +kernel
theorem dX12_node_20 : decode cX12_node 20 = .ok (.aload_n 0, 1) := by decide +kernel
theorem dX12_node_21 : decode cX12_node 21 = .ok (.getfield 34, 3) := by decide +kernel
theorem dX12_node_24 : decode cX12_node 24 = .ok (.aload_n 0, 1) := by decide +kernel
theorem dX12_node_25 : decode cX12_node 25 = .ok (.getfield 150, 3) := by decide +kernel
theorem dX12_node_28 : decode cX12_node 28 = .ok (.iload_n 3, 1) := by decide +kernel
theorem dX12_node_29 : decode cX12_node 29 = .ok (.iastore, 1) := by decide +kernel
theorem dX12_node_30 : decode cX12_node 30 = .ok (.aload_n 0, 1) := by decide +kernel
theorem dX12_node_31 : decode cX12_node 31 = .ok (.dup, 1) := by decide +kernel
theorem dX12_node_32 : decode cX12_node 32 = .ok (.getfield 150, 3) := by decide +kernel
theorem dX12_node_35 : decode cX12_node 35 = .ok (.iconst 1, 1) := by decide +kernel
theorem dX12_node_36 : decode cX12_node 36 = .ok (.iadd, 1) := by decide +kernel
theorem dX12_node_37 : decode cX12_node 37 = .ok (.putfield 150, 3) := by decide +kernel
theorem dX12_node_40 : decode cX12_node 40 = .ok (.aload_n 0, 1) := by decide +kernel
theorem dX12_node_41 : decode cX12_node 41 = .ok (.getfield 150, 3) := by decide +kernel
theorem dX12_node_44 : decode cX12_node 44 = .ok (.iconst 1, 1) := by decide +kernel
theorem dX12_node_45 : decode cX12_node 45 = .ok (.isub, 1) := by decide +kernel
theorem dX12_node_46 : decode cX12_node 46 = .ok (.ireturn, 1) := by decide +kernel
set_option maxRecDepth 20000 in
theorem ggX12_alternatives_X12_row : GoodIn wsX12_alternatives wsX12_row := goodIn_r _ [152, 9, 117, 118, 119, 4, 120, 121, 122, 123, 124, 11, 12, 13, 14, 15, 5, 6, 7, 8, 10, 153, 154, 155, 0, 1, 2, 3, 16, 17, 18, 19, 20, 21, 22, 23, 24, 25, 26, 27, 28, 29, 30, 31, 32, 33, 34, 35, 36, 37, 38, 39, 40, 41, 42, 43, 44, 45, 46, 47, 48, 49, 50, 51, 52, 53, 54, 55, 56, 57, 58, 59, 60, 61, 62, 63, 64, 65, 66, 67, 68, 69, 70, 71, 72, 73, 74, 75, 76, 77, 78, 79, 80, 81, 82, 83, 84, 85, 86, 87, 88, 89, 90, 91, 92, 93, 94, 95, 96, 97, 98, 99, 100, 101, 102, 103, 104, 105, 106, 107, 108, 109, 110, 111, 112, 113, 114, 115, 116, 125, 126, 127, 128, 129, 130, 131, 132, 133, 134, 135, 136, 137, 138, 139, 140, 141, 142, 143, 144, 145, 146, 147, 148, 149, 150, 151, 156, 157, 158, 159, 160, 161, 162, 163, 164, 165, 166, 167, 168, 169, 170, 171, 172, 173, 174, 175, 176, 177, 178, 179, 180, 181, 182, 183, 184, 185, 186, 187, 188, 189, 190, 191, 192, 193, 194, 195, 196] (by decide +kernel) (by decide +kernel)
set_option maxRecDepth 20000 in
theorem gX12_alternatives_X12_row : GoodIn wsX12_alternatives (wsV RX12 153 RX12 yX12_row wsX12_row) := goodIn_app (goodIn_of _ (by decide +kernel)) ggX12_alternatives_X12_row
set_option maxRecDepth 20000 in
theorem ggX12_alternatives_X12_is : GoodIn wsX12_alternatives wsX12_is := goodIn_r _ [8, 9, 10, 11, 12, 13, 4, 14, 15, 156, 157, 158, 159, 160, 161, 162, 163, 164, 165, 166, 167, 168, 169, 170, 171, 172, 173, 174, 175, 176, 177, 178, 179, 180, 181, 182, 183, 184, 185, 186, 187, 188, 189, 190, 191, 192, 193, 194, 195, 196] (by decide +kernel) (by decide +kernel)
set_option maxRecDepth 20000 in
theorem gX12_alternatives_X12_is : GoodIn wsX12_alternatives (wsV RX12 141 RX12 yX12_is wsX12_is) := goodIn_app (goodIn_of _ (by decide +kernel)) ggX12_alternatives_X12_is
set_option maxRecDepth 20000 in
theorem ggX12_alternatives_X12_next : GoodIn wsX12_alternatives wsX12_next := goodIn_r _ [19, 20, 21, 22, 23, 9, 10, 24, 25, 26, 4, 27, 28, 29, 30, 31, 32, 33, 34, 35, 36, 37, 38, 39, 40, 41, 42, 43, 44, 45, 46, 47, 48, 49, 50, 51, 52, 53, 54, 55, 56, 57, 58, 59, 60, 61, 62, 63, 64, 65, 66, 67, 68, 69, 70, 71, 72, 73, 74, 75, 76, 77, 78, 79, 80, 81, 82, 83, 84, 85, 86, 87, 88, 89, 90, 91, 92, 93, 94, 95, 96, 97, 98, 99, 100, 101, 102, 103, 104, 105, 106, 107, 108, 109, 110, 111, 112, 113, 114, 115, 116, 156, 157, 158, 159, 160, 161, 162, 163, 164, 165, 166, 167, 168, 169, 170, 171, 172, 173, 174, 175, 176, 177, 178, 179, 180, 181, 182, 183, 184, 185, 186, 187, 188, 189, 190, 191, 192, 193, 194, 195, 196] (by decide +kernel) (by decide +kernel)
set_option maxRecDepth 20000 in
theorem gX12_alternatives_X12_next : GoodIn wsX12_alternatives (wsV RX12 147 RX12 yX12_next wsX12_next) := goodIn_app (goodIn_of _ (by decide +kernel)) ggX12_alternatives_X12_next
set_option maxRecDepth 20000 in
theorem ggX12_alternatives_X12_node : GoodIn wsX12_alternatives wsX12_node := goodIn_r _ [120, 121, 122, 123, 124, 156, 157, 158, 159, 160, 161, 162, 163, 164, 165, 166, 167, 168, 169, 170, 171, 172, 173, 174, 175, 176, 177, 178, 179, 180, 181, 182, 183, 184, 185, 186, 187, 188, 189, 190, 191, 192, 193, 194, 195, 196] (by decide +kernel) (by decide +kernel)
set_option maxRecDepth 20000 in
theorem gX12_alternatives_X12_node : GoodIn wsX12_alternatives (wsV RX12 157 RX12 yX12_node wsX12_node) := goodIn_app (goodIn_of _ (by decide +kernel)) ggX12_alternatives_X12_node
theorem dX12_alternatives_0 : decode cX12_alternatives 0 = .ok (.aload_n 0, 1) := by decide +kernel
theorem dX12_alternatives_1 : decode cX12_alternatives 1 = .ok (.invokevirtual 153, 3) := by decide +kernel
theorem dX12_alternatives_4 : decode cX12_alternatives 4 = .ok (.istore_n 1, 1) := by decide +kernel
theorem dX12_alternatives_5 : decode cX12_alternatives 5 = .ok (.aload_n 0, 1) := by decide +kernel
theorem dX12_alternatives_6 : decode cX12_alternatives 6 = .ok (.bipush 124, 2) := by decide +kernel
theorem dX12_alternatives_8 : decode cX12_alternatives 8 = .ok (.invokevirtual 141, 3) := by decide +kernel
theorem dX12_alternatives_11 : decode cX12_alternatives 11 = .ok (.ifCond .eq 21, 3) := by decide +kernel
theorem dX12_alternatives_14 : decode cX12_alternatives 14 = .ok (.aload_n 0, 1) := by decide +kernel
theorem dX12_alternatives_15 : decode cX12_alternatives 15 = .ok (.invokevirtual 147, 3) := by decide +kernel
theorem dX12_alternatives_18 : decode cX12_alternatives 18 = .ok (.aload_n 0, 1) := by decide +kernel
theorem dX12_alternatives_19 : decode cX12_alternatives 19 = .ok (.iconst 5, 1) := by decide +kernel
theorem dX12_alternatives_20 : decode cX12_alternatives 20 = .ok (.iload_n 1, 1) := by decide +kernel
theorem dX12_alternatives_21 : decode cX12_alternatives 21 = .ok (.aload_n 0, 1) := by decide +kernel
theorem dX12_alternatives_22 : decode cX12_alternatives 22 = .ok (.invokevirtual 153, 3) := by decide +kernel
theorem dX12_alternatives_25 : decode cX12_alternatives 25 = .ok (.invokevirtual 157, 3) := by decide +kernel
theorem dX12_alternatives_28 : decode cX12_alternatives 28 = .ok (.istore_n 1, 1) := by decide +kernel
theorem dX12_alternatives_29 : decode cX12_alternatives 29 = .ok (.goto (-24), 3) := by decide +kernel
theorem dX12_alternatives_32 : decode cX12_alternatives 32 = .ok (.iload_n 1, 1) := by decide +kernel
theorem dX12_alternatives_33 : decode cX12_alternatives 33 = .ok (.ireturn, 1) := by decide +kernel
set_option maxRecDepth 20000 in
theorem ggX12_row_X12_node : GoodIn wsX12_row wsX12_node := goodIn_r _ [6, 7, 8, 9, 10, 156, 157, 158, 159, 160, 161, 162, 163, 164, 165, 166, 167, 168, 169, 170, 171, 172, 173, 174, 175, 176, 177, 178, 179, 180, 181, 182, 183, 184, 185, 186, 187, 188, 189, 190, 191, 192, 193, 194, 195, 196] (by decide +kernel) (by decide +kernel)
set_option maxRecDepth 20000 in
theorem gX12_row_X12_node : GoodIn wsX12_row (wsV RX12 157 RX12 yX12_node wsX12_node) := goodIn_app (goodIn_of _ (by decide +kernel)) ggX12_row_X12_node
set_option maxRecDepth 20000 in
theorem ggX12_row_X12_good : GoodIn wsX12_row wsX12_good := goodIn_r _ [14, 15, 156, 157, 158, 159, 160, 161, 162, 163, 164, 165, 166, 167, 168, 169, 170, 171, 172, 173, 174, 175, 176, 177, 178, 179, 180, 181, 182, 183, 184, 185, 186, 187, 188, 189, 190, 191, 192, 193, 194, 195, 196] (by decide +kernel) (by decide +kernel)
set_option maxRecDepth 20000 in
theorem gX12_row_X12_good : GoodIn wsX12_row (wsV RX12 133 RX12 yX12_good wsX12_good) := goodIn_app (goodIn_of _ (by decide +kernel)) ggX12_row_X12_good
set_option maxRecDepth 20000 in
theorem ggX12_row_X12_is : GoodIn wsX12_row wsX12_is := goodIn_r _ [19, 1, 20, 11, 12, 13, 5, 14, 15, 156, 157, 158, 159, 160, 161, 162, 163, 164, 165, 166, 167, 168, 169, 170, 171, 172, 173, 174, 175, 176, 177, 178, 179, 180, 181, 182, 183, 184, 185, 186, 187, 188, 189, 190, 191, 192, 193, 194, 195, 196] (by decide +kernel) (by decide +kernel)
set_option maxRecDepth 20000 in
theorem gX12_row_X12_is : GoodIn wsX12_row (wsV RX12 141 RX12 yX12_is wsX12_is) := goodIn_app (goodIn_of _ (by decide +kernel)) ggX12_row_X12_is
set_option maxRecDepth 20000 in
theorem ggX12_row_X12_item : GoodIn wsX12_row wsX12_item := goodIn_r _ [152, 20, 153, 154, 155, 5, 16, 17, 18, 19, 1, 11, 12, 13, 14, 15, 2, 3, 4, 6, 7, 8, 9, 10, 28, 29, 30, 31, 32, 33, 34, 35, 36, 37, 38, 39, 40, 41, 42, 43, 44, 45, 46, 47, 48, 49, 50, 51, 52, 53, 54, 55, 56, 57, 58, 59, 60, 61, 62, 63, 64, 65, 66, 67, 68, 69, 70, 71, 72, 73, 74, 75, 76, 77, 78, 79, 80, 81, 82, 83, 84, 85, 86, 87, 88, 89, 90, 91, 92, 93, 94, 95, 96, 97, 98, 99, 100, 101, 102, 103, 104, 105, 106, 107, 108, 109, 110, 111, 112, 113, 114, 115, 116, 117, 118, 119, 120, 121, 122, 123, 124, 125, 126, 127, 128, 24, 25, 26, 27, 129, 130, 131, 132, 133, 134, 135, 136, 137, 138, 139, 140, 141, 142, 143, 144, 145, 146, 147, 148, 149, 150, 151, 0, 21, 22, 23, 156, 157, 158, 159, 160, 161, 162, 163, 164, 165, 166, 167, 168, 169, 170, 171, 172, 173, 174, 175, 176, 177, 178, 179, 180, 181, 182, 183, 184, 185, 186, 187, 188, 189, 190, 191, 192, 193, 194, 195, 196] (by decide +kernel) (by decide +kernel)
set_option maxRecDepth 20000 in
theorem gX12_row_X12_item : GoodIn wsX12_row (wsV RX12 161 RX12 yX12_item wsX12_item) := goodIn_app (goodIn_of _ (by decide +kernel)) ggX12_row_X12_item
theorem dX12_row_0 : decode cX12_row 0 = .ok (.aload_n 0, 1) := by decide +kernel
theorem dX12_row_1 : decode cX12_row 1 = .ok (.iconst 0, 1) := by decide +kernel
theorem dX12_row_2 : decode cX12_row 2 = .ok (.iconst 0, 1) := by decide +kernel
theorem dX12_row_3 : decode cX12_row 3 = .ok (.iconst 0, 1) := by decide +kernel
theorem dX12_row_4 : decode cX12_row 4 = .ok (.invokevirtual 157, 3) := by decide +kernel
theorem dX12_row_7 : decode cX12_row 7 = .ok (.istore_n 1, 1) := by decide +kernel
theorem dX12_row_8 : decode cX12_row 8 = .ok (.aload_n 0, 1) := by decide +kernel
theorem dX12_row_9 : decode cX12_row 9 = .ok (.invokevirtual 133, 3) := by decide +kernel
theorem dX12_row_12 : decode cX12_row 12 = .ok (.ifCond .eq 61, 3) := by decide +kernel
theorem dX12_row_15 : decode cX12_row 15 = .ok (.aload_n 0, 1) := by decide +kernel
theorem dX12_row_16 : decode cX12_row 16 = .ok (.getfield 110, 3) := by decide +kernel
theorem dX12_row_19 : decode cX12_row 19 = .ok (.iconst 1, 1) := by decide +kernel
theorem dX12_row_20 : decode cX12_row 20 = .ok (.if_icmp .eq 39, 3) := by decide +kernel
theorem dX12_row_23 : decode cX12_row 23 = .ok (.aload_n 0, 1) := by decide +kernel
theorem dX12_row_24 : decode cX12_row 24 = .ok (.bipush 46, 2) := by decide +kernel
theorem dX12_row_26 : decode cX12_row 26 = .ok (.invokevirtual 141, 3) := by decide +kernel
theorem dX12_row_29 : decode cX12_row 29 = .ok (.ifCond .ne 30, 3) := by decide +kernel
theorem dX12_row_32 : decode cX12_row 32 = .ok (.aload_n 0, 1) := by decide +kernel
theorem dX12_row_33 : decode cX12_row 33 = .ok (.bipush 114, 2) := by decide +kernel
theorem dX12_row_35 : decode cX12_row 35 = .ok (.invokevirtual 141, 3) := by decide +kernel
theorem dX12_row_38 : decode cX12_row 38 = .ok (.ifCond .ne 21, 3) := by decide +kernel
theorem dX12_row_41 : decode cX12_row 41 = .ok (.aload_n 0, 1) := by decide +kernel
theorem dX12_row_42 : decode cX12_row 42 = .ok (.bipush 91, 2) := by decide +kernel
theorem dX12_row_44 : decode cX12_row 44 = .ok (.invokevirtual 141, 3) := by decide +kernel
theorem dX12_row_47 : decode cX12_row 47 = .ok (.ifCond .ne 12, 3) := by decide +kernel
theorem dX12_row_50 : decode cX12_row 50 = .ok (.aload_n 0, 1) := by decide +kernel
theorem dX12_row_51 : decode cX12_row 51 = .ok (.bipush 40, 2) := by decide +kernel
theorem dX12_row_53 : decode cX12_row 53 = .ok (.invokevirtual 141, 3) := by decide +kernel
theorem dX12_row_56 : decode cX12_row 56 = .ok (.ifCond .eq 17, 3) := by decide +kernel
theorem dX12_row_59 : decode cX12_row 59 = .ok (.aload_n 0, 1) := by decide +kernel
theorem dX12_row_60 : decode cX12_row 60 = .ok (.iconst 4, 1) := by decide +kernel
theorem dX12_row_61 : decode cX12_row 61 = .ok (.iload_n 1, 1) := by decide +kernel
theorem dX12_row_62 : decode cX12_row 62 = .ok (.aload_n 0, 1) := by decide +kernel
theorem dX12_row_63 : decode cX12_row 63 = .ok (.invokevirtual 161, 3) := by decide +kernel
theorem dX12_row_66 : decode cX12_row 66 = .ok (.invokevirtual 157, 3) := by decide +kernel
theorem dX12_row_69 : decode cX12_row 69 = .ok (.istore_n 1, 1) := by decide +kernel
theorem dX12_row_70 : decode cX12_row 70 = .ok (.goto (-62), 3) := by decide +kernel
theorem dX12_row_73 : decode cX12_row 73 = .ok (.iload_n 1, 1) := by decide +kernel
theorem dX12_row_74 : decode cX12_row 74 = .ok (.ireturn, 1) := by decide +kernel
set_option maxRecDepth 20000 in
theorem ggX12_item_X12_atom : GoodIn wsX12_item wsX12_atom := goodIn_r _ [129, 130, 131, 10, 1, 6, 7, 8, 5, 9, 11, 12, 13, 14, 15, 132, 133, 134, 135, 31, 136, 24, 25, 26, 27, 28, 29, 30, 32, 33, 34, 35, 36, 37, 38, 39, 40, 41, 42, 43, 44, 45, 46, 47, 48, 49, 50, 51, 52, 53, 54, 55, 56, 57, 58, 59, 60, 61, 62, 63, 64, 65, 66, 67, 68, 69, 70, 71, 72, 73, 74, 75, 76, 77, 78, 79, 80, 81, 82, 83, 84, 85, 86, 87, 88, 89, 90, 91, 92, 93, 94, 95, 96, 97, 98, 99, 100, 101, 102, 103, 104, 105, 106, 107, 108, 109, 110, 111, 112, 113, 114, 115, 116, 117, 118, 119, 120, 121, 122, 123, 124, 137, 138, 139, 140, 141, 142, 143, 144, 145, 146, 147, 16, 17, 18, 19, 20, 21, 22, 23, 148, 149, 150, 151, 125, 126, 127, 128, 0, 2, 3, 4, 152, 153, 154, 155, 156, 157, 158, 159, 160, 161, 162, 163, 164, 165, 166, 167, 168, 169, 170, 171, 172, 173, 174, 175, 176, 177, 178, 179, 180, 181, 182, 183, 184, 185, 186, 187, 188, 189, 190, 191, 192, 193, 194, 195, 196] (by decide +kernel) (by decide +kernel)
set_option maxRecDepth 20000 in
theorem gX12_item_X12_atom : GoodIn wsX12_item (wsV RX12 164 RX12 yX12_atom wsX12_atom) := goodIn_app (goodIn_of _ (by decide +kernel)) ggX12_item_X12_atom
set_option maxRecDepth 20000 in
theorem ggX12_item_X12_is : GoodIn wsX12_item wsX12_is := goodIn_r _ [9, 10, 1, 11, 12, 13, 5, 14, 15, 156, 157, 158, 159, 160, 161, 162, 163, 164, 165, 166, 167, 168, 169, 170, 171, 172, 173, 174, 175, 176, 177, 178, 179, 180, 181, 182, 183, 184, 185, 186, 187, 188, 189, 190, 191, 192, 193, 194, 195, 196] (by decide +kernel) (by decide +kernel)
set_option maxRecDepth 20000 in
theorem gX12_item_X12_is : GoodIn wsX12_item (wsV RX12 141 RX12 yX12_is wsX12_is) := goodIn_app (goodIn_of _ (by decide +kernel)) ggX12_item_X12_is
set_option maxRecDepth 20000 in
theorem ggX12_item_X12_node : GoodIn wsX12_item wsX12_node := goodIn_r _ [19, 20, 21, 22, 23, 156, 157, 158, 159, 160, 161, 162, 163, 164, 165, 166, 167, 168, 169, 170, 171, 172, 173, 174, 175, 176, 177, 178, 179, 180, 181, 182, 183, 184, 185, 186, 187, 188, 189, 190, 191, 192, 193, 194, 195, 196] (by decide +kernel) (by decide +kernel)
set_option maxRecDepth 20000 in
theorem gX12_item_X12_node : GoodIn wsX12_item (wsV RX12 157 RX12 yX12_node wsX12_node) := goodIn_app (goodIn_of _ (by decide +kernel)) ggX12_item_X12_node
set_option maxRecDepth 20000 in
theorem ggX12_item_X12_next : GoodIn wsX12_item wsX12_next := goodIn_r _ [27, 28, 29, 30, 31, 10, 1, 32, 33, 34, 5, 35, 36, 37, 38, 39, 40, 41, 42, 43, 44, 45, 46, 47, 48, 49, 50, 51, 52, 53, 54, 55, 56, 57, 58, 59, 60, 61, 62, 63, 64, 65, 66, 67, 68, 69, 70, 71, 72, 73, 74, 75, 76, 77, 78, 79, 80, 81, 82, 83, 84, 85, 86, 87, 88, 89, 90, 91, 92, 93, 94, 95, 96, 97, 98, 99, 100, 101, 102, 103, 104, 105, 106, 107, 108, 109, 110, 111, 112, 113, 114, 115, 116, 117, 118, 119, 120, 121, 122, 123, 124, 156, 157, 158, 159, 160, 161, 162, 163, 164, 165, 166, 167, 168, 169, 170, 171, 172, 173, 174, 175, 176, 177, 178, 179, 180, 181, 182, 183, 184, 185, 186, 187, 188, 189, 190, 191, 192, 193, 194, 195, 196] (by decide +kernel) (by decide +kernel)
set_option maxRecDepth 20000 in
theorem gX12_item_X12_next : GoodIn wsX12_item (wsV RX12 147 RX12 yX12_next wsX12_next) := goodIn_app (goodIn_of _ (by decide +kernel)) ggX12_item_X12_next
theorem dX12_item_0 : decode cX12_item 0 = .ok (.aload_n 0, 1) := by decide +kernel
theorem dX12_item_1 : decode cX12_item 1 = .ok (.invokevirtual 164, 3) := by decide +kernel
theorem dX12_item_4 : decode cX12_item 4 = .ok (.istore_n 1, 1) := by decide +kernel
theorem dX12_item_5 : decode cX12_item 5 = .ok (.aload_n 0, 1) := by decide +kernel
theorem dX12_item_6 : decode cX12_item 6 = .ok (.bipush 42, 2) := by decide +kernel
theorem dX12_item_8 : decode cX12_item 8 = .ok (.invokevirtual 141, 3) := by decide +kernel
theorem dX12_item_11 : decode cX12_item 11 = .ok (.ifCond .ne 21, 3) := by decide +kernel
theorem dX12_item_14 : decode cX12_item 14 = .ok (.aload_n 0, 1) := by decide +kernel
theorem dX12_item_15 : decode cX12_item 15 = .ok (.bipush 43, 2) := by decide +kernel
theorem dX12_item_17 : decode cX12_item 17 = .ok (.invokevirtual 141, 3) := by decide +kernel
theorem dX12_item_20 : decode cX12_item 20 = .ok (.ifCond .ne 12, 3) := by decide +kernel
theorem dX12_item_23 : decode cX12_item 23 = .ok (.aload_n 0, 1) := by decide +kernel
theorem dX12_item_24 : decode cX12_item 24 = .ok (.bipush 63, 2) := by decide +kernel
theorem dX12_item_26 : decode cX12_item 26 = .ok (.invokevirtual 141, 3) := by decide +kernel
theorem dX12_item_29 : decode cX12_item 29 = .ok (.ifCond .eq 44, 3) := by decide +kernel
theorem dX12_item_32 : decode cX12_item 32 = .ok (.aload_n 0, 1) := by decide +kernel
theorem dX12_item_33 : decode cX12_item 33 = .ok (.aload_n 0, 1) := by decide +kernel
theorem dX12_item_34 : decode cX12_item 34 = .ok (.getfield 116, 3) := by decide +kernel
theorem dX12_item_37 : decode cX12_item 37 = .ok (.bipush 42, 2) := by decide +kernel
theorem dX12_item_39 : decode cX12_item 39 = .ok (.if_icmp .ne 8, 3) := by decide +kernel
theorem dX12_item_42 : decode cX12_item 42 = .ok (.bipush 6, 2) := by decide +kernel
theorem dX12_item_44 : decode cX12_item 44 = .ok (.goto 19, 3) := by decide +kernel
theorem dX12_item_47 : decode cX12_item 47 = .ok (.aload_n 0, 1) := by decide +kernel
theorem dX12_item_48 : decode cX12_item 48 = .ok (.getfield 116, 3) := by decide +kernel
theorem dX12_item_51 : decode cX12_item 51 = .ok (.bipush 43, 2) := by decide +kernel
theorem dX12_item_53 : decode cX12_item 53 = .ok (.if_icmp .ne 8, 3) := by decide +kernel
theorem dX12_item_56 : decode cX12_item 56 = .ok (.bipush 7, 2) := by decide +kernel
theorem dX12_item_58 : decode cX12_item 58 = .ok (.goto 5, 3) := by decide +kernel
theorem dX12_item_61 : decode cX12_item 61 = .ok (.bipush 8, 2) := by decide +kernel
theorem dX12_item_63 : decode cX12_item 63 = .ok (.iload_n 1, 1) := by decide +kernel
theorem dX12_item_64 : decode cX12_item 64 = .ok (.iconst 0, 1) := by decide +kernel
theorem dX12_item_65 : decode cX12_item 65 = .ok (.invokevirtual 157, 3) := by decide +kernel
theorem dX12_item_68 : decode cX12_item 68 = .ok (.istore_n 1, 1) := by decide +kernel
theorem dX12_item_69 : decode cX12_item 69 = .ok (.aload_n 0, 1) := by decide +kernel
theorem dX12_item_70 : decode cX12_item 70 = .ok (.invokevirtual 147, 3) := by decide +kernel
theorem dX12_item_73 : decode cX12_item 73 = .ok (.iload_n 1, 1) := by decide +kernel
theorem dX12_item_74 : decode cX12_item 74 = .ok (.ireturn, 1) := by decide +kernel
set_option maxRecDepth 20000 in
theorem ggX12_atom_X12_is : GoodIn wsX12_atom wsX12_is := goodIn_r _ [9, 3, 4, 10, 11, 12, 8, 13, 14, 156, 157, 158, 159, 160, 161, 162, 163, 164, 165, 166, 167, 168, 169, 170, 171, 172, 173, 174, 175, 176, 177, 178, 179, 180, 181, 182, 183, 184, 185, 186, 187, 188, 189, 190, 191, 192, 193, 194, 195, 196] (by decide +kernel) (by decide +kernel)
set_option maxRecDepth 20000 in
theorem gX12_atom_X12_is : GoodIn wsX12_atom (wsV RX12 141 RX12 yX12_is wsX12_is) := goodIn_app (goodIn_of _ (by decide +kernel)) ggX12_atom_X12_is
set_option maxRecDepth 20000 in
theorem ggX12_atom_X12_fault : GoodIn wsX12_atom wsX12_fault := goodIn_r _ [18, 14, 19, 20, 156, 157, 158, 159, 160, 161, 162, 163, 164, 165, 166, 167, 168, 169, 170, 171, 172, 173, 174, 175, 176, 177, 178, 179, 180, 181, 182, 183, 184, 185, 186, 187, 188, 189, 190, 191, 192, 193, 194, 195, 196] (by decide +kernel) (by decide +kernel)
set_option maxRecDepth 20000 in
theorem gX12_atom_X12_fault : GoodIn wsX12_atom (wsV RX12 137 RX12 yX12_fault wsX12_fault) := goodIn_app (goodIn_of _ (by decide +kernel)) ggX12_atom_X12_fault
set_option maxRecDepth 20000 in
theorem ggX12_atom_X12_next : GoodIn wsX12_atom wsX12_next := goodIn_r _ [24, 25, 26, 27, 19, 3, 4, 28, 29, 30, 8, 31, 32, 33, 34, 35, 36, 37, 38, 39, 40, 41, 42, 43, 44, 45, 46, 47, 48, 49, 50, 51, 52, 53, 54, 55, 56, 57, 58, 59, 60, 61, 62, 63, 64, 65, 66, 67, 68, 69, 70, 71, 72, 73, 74, 75, 76, 77, 78, 79, 80, 81, 82, 83, 84, 85, 86, 87, 88, 89, 90, 91, 92, 93, 94, 95, 96, 97, 98, 99, 100, 101, 102, 103, 104, 105, 106, 107, 108, 109, 110, 111, 112, 113, 114, 115, 116, 117, 118, 119, 120, 156, 157, 158, 159, 160, 161, 162, 163, 164, 165, 166, 167, 168, 169, 170, 171, 172, 173, 174, 175, 176, 177, 178, 179, 180, 181, 182, 183, 184, 185, 186, 187, 188, 189, 190, 191, 192, 193, 194, 195, 196] (by decide +kernel) (by decide +kernel)
set_option maxRecDepth 20000 in
theorem gX12_atom_X12_next : GoodIn wsX12_atom (wsV RX12 147 RX12 yX12_next wsX12_next) := goodIn_app (goodIn_of _ (by decide +kernel)) ggX12_atom_X12_next
set_option maxRecDepth 20000 in
theorem ggX12_atom_X12_alternatives : GoodIn wsX12_atom wsX12_alternatives := goodIn_r _ [144, 145, 146, 147, 8, 5, 6, 7, 9, 3, 4, 10, 11, 12, 13, 14, 21, 22, 23, 24, 25, 26, 27, 19, 28, 29, 30, 31, 32, 33, 34, 35, 36, 37, 38, 39, 40, 41, 42, 43, 44, 45, 46, 47, 48, 49, 50, 51, 52, 53, 54, 55, 56, 57, 58, 59, 60, 61, 62, 63, 64, 65, 66, 67, 68, 69, 70, 71, 72, 73, 74, 75, 76, 77, 78, 79, 80, 81, 82, 83, 84, 85, 86, 87, 88, 89, 90, 91, 92, 93, 94, 95, 96, 97, 98, 99, 100, 101, 102, 103, 104, 105, 106, 107, 108, 109, 110, 111, 112, 113, 114, 115, 116, 117, 118, 119, 120, 132, 133, 134, 135, 136, 137, 138, 139, 0, 1, 2, 15, 16, 17, 18, 20, 121, 122, 123, 124, 125, 126, 127, 128, 129, 130, 131, 140, 141, 142, 143, 148, 149, 150, 151, 152, 153, 154, 155, 156, 157, 158, 159, 160, 161, 162, 163, 164, 165, 166, 167, 168, 169, 170, 171, 172, 173, 174, 175, 176, 177, 178, 179, 180, 181, 182, 183, 184, 185, 186, 187, 188, 189, 190, 191, 192, 193, 194, 195, 196] (by decide +kernel) (by decide +kernel)
set_option maxRecDepth 20000 in
theorem gX12_atom_X12_alternatives : GoodIn wsX12_atom (wsV RX12 170 RX12 yX12_alternatives wsX12_alternatives) := goodIn_app (goodIn_of _ (by decide +kernel)) ggX12_atom_X12_alternatives
set_option maxRecDepth 20000 in
theorem ggX12_atom_X12_take : GoodIn wsX12_atom wsX12_take := goodIn_r _ [127, 5, 6, 7, 8, 9, 3, 4, 10, 11, 12, 13, 14, 128, 129, 130, 131, 15, 16, 17, 18, 19, 20, 21, 22, 23, 24, 25, 26, 27, 28, 29, 30, 31, 32, 33, 34, 35, 36, 37, 38, 39, 40, 41, 42, 43, 44, 45, 46, 47, 48, 49, 50, 51, 52, 53, 54, 55, 56, 57, 58, 59, 60, 61, 62, 63, 64, 65, 66, 67, 68, 69, 70, 71, 72, 73, 74, 75, 76, 77, 78, 79, 80, 81, 82, 83, 84, 85, 86, 87, 88, 89, 90, 91, 92, 93, 94, 95, 96, 97, 98, 99, 100, 101, 102, 103, 104, 105, 106, 107, 108, 109, 110, 111, 112, 113, 114, 115, 116, 117, 118, 119, 120, 156, 157, 158, 159, 160, 161, 162, 163, 164, 165, 166, 167, 168, 169, 170, 171, 172, 173, 174, 175, 176, 177, 178, 179, 180, 181, 182, 183, 184, 185, 186, 187, 188, 189, 190, 191, 192, 193, 194, 195, 196] (by decide +kernel) (by decide +kernel)
set_option maxRecDepth 20000 in
theorem gX12_atom_X12_take : GoodIn wsX12_atom (wsV RX12 173 RX12 yX12_take wsX12_take) := goodIn_app (goodIn_of _ (by decide +kernel)) ggX12_atom_X12_take
set_option maxRecDepth 20000 in
theorem ggX12_atom_X12_node : GoodIn wsX12_atom wsX12_node := goodIn_r _ [135, 136, 137, 138, 139, 156, 157, 158, 159, 160, 161, 162, 163, 164, 165, 166, 167, 168, 169, 170, 171, 172, 173, 174, 175, 176, 177, 178, 179, 180, 181, 182, 183, 184, 185, 186, 187, 188, 189, 190, 191, 192, 193, 194, 195, 196] (by decide +kernel) (by decide +kernel)
set_option maxRecDepth 20000 in
theorem gX12_atom_X12_node : GoodIn wsX12_atom (wsV RX12 157 RX12 yX12_node wsX12_node) := goodIn_app (goodIn_of _ (by decide +kernel)) ggX12_atom_X12_node
set_option maxRecDepth 20000 in
theorem ggX12_atom_X12_range : GoodIn wsX12_atom wsX12_range := goodIn_r _ [143, 3, 4, 21, 22, 23, 8, 24, 25, 26, 27, 19, 28, 29, 30, 31, 32, 33, 34, 35, 36, 37, 38, 39, 40, 41, 42, 43, 44, 45, 46, 47, 48, 49, 50, 51, 52, 53, 54, 55, 56, 57, 58, 59, 60, 61, 62, 63, 64, 65, 66, 67, 68, 69, 70, 71, 72, 73, 74, 75, 76, 77, 78, 79, 80, 81, 82, 83, 84, 85, 86, 87, 88, 89, 90, 91, 92, 93, 94, 95, 96, 97, 98, 99, 100, 101, 102, 103, 104, 105, 106, 107, 108, 109, 110, 111, 112, 113, 114, 115, 116, 117, 118, 119, 120, 10, 11, 12, 13, 14, 128, 129, 130, 131, 15, 16, 17, 18, 20, 124, 125, 126, 127, 5, 6, 7, 9, 132, 133, 134, 135, 136, 137, 138, 139, 156, 157, 158, 159, 160, 161, 162, 163, 164, 165, 166, 167, 168, 169, 170, 171, 172, 173, 174, 175, 176, 177, 178, 179, 180, 181, 182, 183, 184, 185, 186, 187, 188, 189, 190, 191, 192, 193, 194, 195, 196] (by decide +kernel) (by decide +kernel)
set_option maxRecDepth 20000 in
theorem gX12_atom_X12_range : GoodIn wsX12_atom (wsV RX12 179 RX12 yX12_range wsX12_range) := goodIn_app (goodIn_of _ (by decide +kernel)) ggX12_atom_X12_range
theorem dX12_atom_0 : decode cX12_atom 0 = .ok (.aload_n 0, 1) := by decide +kernel
theorem dX12_atom_1 : decode cX12_atom 1 = .ok (.bipush 40, 2) := by decide +kernel
theorem dX12_atom_3 : decode cX12_atom 3 = .ok (.invokevirtual 141, 3) := by decide +kernel
theorem dX12_atom_6 : decode cX12_atom 6 = .ok (.ifCond .eq 56, 3) := by decide +kernel
theorem dX12_atom_9 : decode cX12_atom 9 = .ok (.aload_n 0, 1) := by decide +kernel
theorem dX12_atom_10 : decode cX12_atom 10 = .ok (.getfield 167, 3) := by decide +kernel
theorem dX12_atom_13 : decode cX12_atom 13 = .ok (.bipush 8, 2) := by decide +kernel
theorem dX12_atom_15 : decode cX12_atom 15 = .ok (.if_icmp .ne 10, 3) := by decide +kernel
theorem dX12_atom_18 : decode cX12_atom 18 = .ok (.aload_n 0, 1) := by decide +kernel
theorem dX12_atom_19 : decode cX12_atom 19 = .ok (.iconst 4, 1) := by decide +kernel
theorem dX12_atom_20 : decode cX12_atom 20 = .ok (.invokevirtual 137, 3) := by decide +kernel
theorem dX12_atom_23 : decode cX12_atom 23 = .ok (.iconst 0, 1) := by decide +kernel
theorem dX12_atom_24 : decode cX12_atom 24 = .ok (.ireturn, 1) := by decide +kernel
theorem dX12_atom_25 : decode cX12_atom 25 = .ok (.aload_n 0, 1) := by decide +kernel
theorem dX12_atom_26 : decode cX12_atom 26 = .ok (.dup, 1) := by decide +kernel
theorem dX12_atom_27 : decode cX12_atom 27 = .ok (.getfield 167, 3) := by decide +kernel
theorem dX12_atom_30 : decode cX12_atom 30 = .ok (.iconst 1, 1) := by decide +kernel
theorem dX12_atom_31 : decode cX12_atom 31 = .ok (.iadd, 1) := by decide +kernel
theorem dX12_atom_32 : decode cX12_atom 32 = .ok (.putfield 167, 3) := by decide +kernel
theorem dX12_atom_35 : decode cX12_atom 35 = .ok (.aload_n 0, 1) := by decide +kernel
theorem dX12_atom_36 : decode cX12_atom 36 = .ok (.invokevirtual 147, 3) := by decide +kernel
theorem dX12_atom_39 : decode cX12_atom 39 = .ok (.aload_n 0, 1) := by decide +kernel
theorem dX12_atom_40 : decode cX12_atom 40 = .ok (.invokevirtual 170, 3) := by decide +kernel
theorem dX12_atom_43 : decode cX12_atom 43 = .ok (.istore_n 1, 1) := by decide +kernel
theorem dX12_atom_44 : decode cX12_atom 44 = .ok (.aload_n 0, 1) := by decide +kernel
theorem dX12_atom_45 : decode cX12_atom 45 = .ok (.bipush 41, 2) := by decide +kernel
theorem dX12_atom_47 : decode cX12_atom 47 = .ok (.invokevirtual 173, 3) := by decide +kernel
theorem dX12_atom_50 : decode cX12_atom 50 = .ok (.aload_n 0, 1) := by decide +kernel
theorem dX12_atom_51 : decode cX12_atom 51 = .ok (.dup, 1) := by decide +kernel
theorem dX12_atom_52 : decode cX12_atom 52 = .ok (.getfield 167, 3) := by decide +kernel
theorem dX12_atom_55 : decode cX12_atom 55 = .ok (.iconst 1, 1) := by decide +kernel
theorem dX12_atom_56 : decode cX12_atom 56 = .ok (.isub, 1) := by decide +kernel
theorem dX12_atom_57 : decode cX12_atom 57 = .ok (.putfield 167, 3) := by decide +kernel
theorem dX12_atom_60 : decode cX12_atom 60 = .ok (.iload_n 1, 1) := by decide +kernel
theorem dX12_atom_61 : decode cX12_atom 61 = .ok (.ireturn, 1) := by decide +kernel
theorem dX12_atom_62 : decode cX12_atom 62 = .ok (.aload_n 0, 1) := by decide +kernel
theorem dX12_atom_63 : decode cX12_atom 63 = .ok (.getfield 176, 3) := by decide +kernel
theorem dX12_atom_66 : decode cX12_atom 66 = .ok (.bipush 50, 2) := by decide +kernel
theorem dX12_atom_68 : decode cX12_atom 68 = .ok (.if_icmp .ne 10, 3) := by decide +kernel
theorem dX12_atom_71 : decode cX12_atom 71 = .ok (.aload_n 0, 1) := by decide +kernel
theorem dX12_atom_72 : decode cX12_atom 72 = .ok (.iconst 4, 1) := by decide +kernel
theorem dX12_atom_73 : decode cX12_atom 73 = .ok (.invokevirtual 137, 3) := by decide +kernel
theorem dX12_atom_76 : decode cX12_atom 76 = .ok (.iconst 0, 1) := by decide +kernel
theorem dX12_atom_77 : decode cX12_atom 77 = .ok (.ireturn, 1) := by decide +kernel
theorem dX12_atom_78 : decode cX12_atom 78 = .ok (.aload_n 0, 1) := by decide +kernel
theorem dX12_atom_79 : decode cX12_atom 79 = .ok (.dup, 1) := by decide +kernel
theorem dX12_atom_80 : decode cX12_atom 80 = .ok (.getfield 176, 3) := by decide +kernel
theorem dX12_atom_83 : decode cX12_atom 83 = .ok (.iconst 1, 1) := by decide +kernel
theorem dX12_atom_84 : decode cX12_atom 84 = .ok (.iadd, 1) := by decide +kernel
theorem dX12_atom_85 : decode cX12_atom 85 = .ok (.putfield 176, 3) := by decide +kernel
theorem dX12_atom_88 : decode cX12_atom 88 = .ok (.aload_n 0, 1) := by decide +kernel
theorem dX12_atom_89 : decode cX12_atom 89 = .ok (.getfield 110, 3) := by decide +kernel
theorem dX12_atom_92 : decode cX12_atom 92 = .ok (.iconst 1, 1) := by decide +kernel
theorem dX12_atom_93 : decode cX12_atom 93 = .ok (.if_icmp .ne 20, 3) := by decide +kernel
theorem dX12_atom_96 : decode cX12_atom 96 = .ok (.aload_n 0, 1) := by decide +kernel
theorem dX12_atom_97 : decode cX12_atom 97 = .ok (.getfield 116, 3) := by decide +kernel
theorem dX12_atom_100 : decode cX12_atom 100 = .ok (.istore_n 1, 1) := by decide +kernel
theorem dX12_atom_101 : decode cX12_atom 101 = .ok (.aload_n 0, 1) := by decide +kernel
theorem dX12_atom_102 : decode cX12_atom 102 = .ok (.invokevirtual 147, 3) := by decide +kernel
theorem dX12_atom_105 : decode cX12_atom 105 = .ok (.aload_n 0, 1) := by decide +kernel
theorem dX12_atom_106 : decode cX12_atom 106 = .ok (.iconst 1, 1) := by decide +kernel
theorem dX12_atom_107 : decode cX12_atom 107 = .ok (.iload_n 1, 1) := by decide +kernel
theorem dX12_atom_108 : decode cX12_atom 108 = .ok (.iload_n 1, 1) := by decide +kernel
theorem dX12_atom_109 : decode cX12_atom 109 = .ok (.invokevirtual 157, 3) := by decide +kernel
theorem dX12_atom_112 : decode cX12_atom 112 = .ok (.ireturn, 1) := by decide +kernel
theorem dX12_atom_113 : decode cX12_atom 113 = .ok (.aload_n 0, 1) := by decide +kernel
theorem dX12_atom_114 : decode cX12_atom 114 = .ok (.bipush 91, 2) := by decide +kernel
theorem dX12_atom_116 : decode cX12_atom 116 = .ok (.invokevirtual 141, 3) := by decide +kernel
theorem dX12_atom_119 : decode cX12_atom 119 = .ok (.ifCond .eq 8, 3) := by decide +kernel
theorem dX12_atom_122 : decode cX12_atom 122 = .ok (.aload_n 0, 1) := by decide +kernel
theorem dX12_atom_123 : decode cX12_atom 123 = .ok (.invokevirtual 179, 3) := by decide +kernel
theorem dX12_atom_126 : decode cX12_atom 126 = .ok (.ireturn, 1) := by decide +kernel
theorem dX12_atom_127 : decode cX12_atom 127 = .ok (.aload_n 0, 1) := by decide +kernel
theorem dX12_atom_128 : decode cX12_atom 128 = .ok (.aload_n 0, 1) := by decide +kernel
theorem dX12_atom_129 : decode cX12_atom 129 = .ok (.bipush 46, 2) := by decide +kernel
theorem dX12_atom_131 : decode cX12_atom 131 = .ok (.invokevirtual 141, 3) := by decide +kernel
theorem dX12_atom_134 : decode cX12_atom 134 = .ok (.ifCond .eq 7, 3) := by decide +kernel
theorem dX12_atom_137 : decode cX12_atom 137 = .ok (.iconst 2, 1) := by decide +kernel
theorem dX12_atom_138 : decode cX12_atom 138 = .ok (.goto 4, 3) := by decide +kernel
theorem dX12_atom_141 : decode cX12_atom 141 = .ok (.iconst 3, 1) := by decide +kernel
theorem dX12_atom_142 : decode cX12_atom 142 = .ok (.iconst 0, 1) := by decide +kernel
theorem dX12_atom_143 : decode cX12_atom 143 = .ok (.iconst 0, 1) := by decide +kernel
theorem dX12_atom_144 : decode cX12_atom 144 = .ok (.invokevirtual 157, 3) := by decide +kernel
theorem dX12_atom_147 : decode cX12_atom 147 = .ok (.istore_n 1, 1) := by decide +kernel
theorem dX12_atom_148 : decode cX12_atom 148 = .ok (.aload_n 0, 1) := by decide +kernel
theorem dX12_atom_149 : decode cX12_atom 149 = .ok (.invokevirtual 147, 3) := by decide +kernel
theorem dX12_atom_152 : decode cX12_atom 152 = .ok (.iload_n 1, 1) := by decide +kernel
theorem dX12_atom_153 : decode cX12_atom 153 = .ok (.ireturn, 1) := by decide +kernel
set_option maxRecDepth 20000 in
theorem ggX12_range_X12_next : GoodIn wsX12_range wsX12_next := goodIn_r _ [7, 8, 9, 10, 11, 1, 2, 12, 13, 14, 6, 15, 16, 17, 18, 19, 20, 21, 22, 23, 24, 25, 26, 27, 28, 29, 30, 31, 32, 33, 34, 35, 36, 37, 38, 39, 40, 41, 42, 43, 44, 45, 46, 47, 48, 49, 50, 51, 52, 53, 54, 55, 56, 57, 58, 59, 60, 61, 62, 63, 64, 65, 66, 67, 68, 69, 70, 71, 72, 73, 74, 75, 76, 77, 78, 79, 80, 81, 82, 83, 84, 85, 86, 87, 88, 89, 90, 91, 92, 93, 94, 95, 96, 97, 98, 99, 100, 101, 102, 103, 104, 135, 136, 137, 138, 139, 140, 141, 142, 143, 144, 145, 146, 147, 148, 149, 150, 151, 152, 153, 154, 155, 156, 157, 158, 159, 160, 161, 162, 163, 164, 165, 166, 167, 168, 169, 170, 171, 172, 173, 174, 175] (by decide +kernel) (by decide +kernel)
set_option maxRecDepth 20000 in
theorem gX12_range_X12_next : GoodIn wsX12_range (wsV RX12 147 RX12 yX12_next wsX12_next) := goodIn_app (goodIn_of _ (by decide +kernel)) ggX12_range_X12_next
set_option maxRecDepth 20000 in
theorem ggX12_range_X12_good : GoodIn wsX12_range wsX12_good := goodIn_r _ [108, 109, 135, 136, 137, 138, 139, 140, 141, 142, 143, 144, 145, 146, 147, 148, 149, 150, 151, 152, 153, 154, 155, 156, 157, 158, 159, 160, 161, 162, 163, 164, 165, 166, 167, 168, 169, 170, 171, 172, 173, 174, 175] (by decide +kernel) (by decide +kernel)
set_option maxRecDepth 20000 in
theorem gX12_range_X12_good : GoodIn wsX12_range (wsV RX12 133 RX12 yX12_good wsX12_good) := goodIn_app (goodIn_of _ (by decide +kernel)) ggX12_range_X12_good
set_option maxRecDepth 20000 in
theorem ggX12_range_X12_misplaced : GoodIn wsX12_range wsX12_misplaced := goodIn_r _ [113, 1, 114, 115, 116, 6, 117, 109, 11, 118, 135, 136, 137, 138, 139, 140, 141, 142, 143, 144, 145, 146, 147, 148, 149, 150, 151, 152, 153, 154, 155, 156, 157, 158, 159, 160, 161, 162, 163, 164, 165, 166, 167, 168, 169, 170, 171, 172, 173, 174, 175] (by decide +kernel) (by decide +kernel)
set_option maxRecDepth 20000 in
theorem gX12_range_X12_misplaced : GoodIn wsX12_range (wsV RX12 144 RX12 yX12_misplaced wsX12_misplaced) := goodIn_app (goodIn_of _ (by decide +kernel)) ggX12_range_X12_misplaced
set_option maxRecDepth 20000 in
theorem ggX12_range_X12_take : GoodIn wsX12_range wsX12_take := goodIn_r _ [122, 123, 124, 125, 6, 126, 1, 2, 105, 106, 107, 108, 109, 110, 111, 112, 113, 114, 115, 116, 117, 11, 118, 3, 4, 5, 7, 8, 9, 10, 12, 13, 14, 15, 16, 17, 18, 19, 20, 21, 22, 23, 24, 25, 26, 27, 28, 29, 30, 31, 32, 33, 34, 35, 36, 37, 38, 39, 40, 41, 42, 43, 44, 45, 46, 47, 48, 49, 50, 51, 52, 53, 54, 55, 56, 57, 58, 59, 60, 61, 62, 63, 64, 65, 66, 67, 68, 69, 70, 71, 72, 73, 74, 75, 76, 77, 78, 79, 80, 81, 82, 83, 84, 85, 86, 87, 88, 89, 90, 91, 92, 93, 94, 95, 96, 97, 98, 99, 100, 101, 102, 103, 104, 135, 136, 137, 138, 139, 140, 141, 142, 143, 144, 145, 146, 147, 148, 149, 150, 151, 152, 153, 154, 155, 156, 157, 158, 159, 160, 161, 162, 163, 164, 165, 166, 167, 168, 169, 170, 171, 172, 173, 174, 175] (by decide +kernel) (by decide +kernel)
set_option maxRecDepth 20000 in
theorem gX12_range_X12_take : GoodIn wsX12_range (wsV RX12 173 RX12 yX12_take wsX12_take) := goodIn_app (goodIn_of _ (by decide +kernel)) ggX12_range_X12_take
set_option maxRecDepth 20000 in
theorem ggX12_range_X12_fault : GoodIn wsX12_range wsX12_fault := goodIn_r _ [117, 109, 11, 118, 135, 136, 137, 138, 139, 140, 141, 142, 143, 144, 145, 146, 147, 148, 149, 150, 151, 152, 153, 154, 155, 156, 157, 158, 159, 160, 161, 162, 163, 164, 165, 166, 167, 168, 169, 170, 171, 172, 173, 174, 175] (by decide +kernel) (by decide +kernel)
set_option maxRecDepth 20000 in
theorem gX12_range_X12_fault : GoodIn wsX12_range (wsV RX12 137 RX12 yX12_fault wsX12_fault) := goodIn_app (goodIn_of _ (by decide +kernel)) ggX12_range_X12_fault
set_option maxRecDepth 20000 in
theorem ggX12_range_X12_node : GoodIn wsX12_range wsX12_node := goodIn_r _ [130, 131, 132, 133, 134, 135, 136, 137, 138, 139, 140, 141, 142, 143, 144, 145, 146, 147, 148, 149, 150, 151, 152, 153, 154, 155, 156, 157, 158, 159, 160, 161, 162, 163, 164, 165, 166, 167, 168, 169, 170, 171, 172, 173, 174, 175] (by decide +kernel) (by decide +kernel)
set_option maxRecDepth 20000 in
theorem gX12_range_X12_node : GoodIn wsX12_range (wsV RX12 157 RX12 yX12_node wsX12_node) := goodIn_app (goodIn_of _ (by decide +kernel)) ggX12_range_X12_node
theorem dX12_range_0 : decode cX12_range 0 = .ok (.aload_n 0, 1) := by decide +kernel
theorem dX12_range_1 : decode cX12_range 1 = .ok (.invokevirtual 147, 3) := by decide +kernel
theorem dX12_range_4 : decode cX12_range 4 = .ok (.aload_n 0, 1) := by decide +kernel
theorem dX12_range_5 : decode cX12_range 5 = .ok (.invokevirtual 133, 3) := by decide +kernel
theorem dX12_range_8 : decode cX12_range 8 = .ok (.ifCond .eq 15, 3) := by decide +kernel
theorem dX12_range_11 : decode cX12_range 11 = .ok (.aload_n 0, 1) := by decide +kernel
theorem dX12_range_12 : decode cX12_range 12 = .ok (.getfield 110, 3) := by decide +kernel
theorem dX12_range_15 : decode cX12_range 15 = .ok (.iconst 1, 1) := by decide +kernel
theorem dX12_range_16 : decode cX12_range 16 = .ok (.if_icmp .eq 7, 3) := by decide +kernel
theorem dX12_range_19 : decode cX12_range 19 = .ok (.aload_n 0, 1) := by decide +kernel
theorem dX12_range_20 : decode cX12_range 20 = .ok (.invokevirtual 144, 3) := by decide +kernel
theorem dX12_range_23 : decode cX12_range 23 = .ok (.aload_n 0, 1) := by decide +kernel
theorem dX12_range_24 : decode cX12_range 24 = .ok (.getfield 116, 3) := by decide +kernel
theorem dX12_range_27 : decode cX12_range 27 = .ok (.istore_n 1, 1) := by decide +kernel
theorem dX12_range_28 : decode cX12_range 28 = .ok (.aload_n 0, 1) := by decide +kernel
theorem dX12_range_29 : decode cX12_range 29 = .ok (.invokevirtual 133, 3) := by decide +kernel
theorem dX12_range_32 : decode cX12_range 32 = .ok (.ifCond .eq 13, 3) := by decide +kernel
theorem dX12_range_35 : decode cX12_range 35 = .ok (.aload_n 0, 1) := by decide +kernel
theorem dX12_range_36 : decode cX12_range 36 = .ok (.invokevirtual 147, 3) := by decide +kernel
theorem dX12_range_39 : decode cX12_range 39 = .ok (.aload_n 0, 1) := by decide +kernel
theorem dX12_range_40 : decode cX12_range 40 = .ok (.bipush 44, 2) := by decide +kernel
theorem dX12_range_42 : decode cX12_range 42 = .ok (.invokevirtual 173, 3) := by decide +kernel
theorem dX12_range_45 : decode cX12_range 45 = .ok (.aload_n 0, 1) := by decide +kernel
theorem dX12_range_46 : decode cX12_range 46 = .ok (.invokevirtual 133, 3) := by decide +kernel
theorem dX12_range_49 : decode cX12_range 49 = .ok (.ifCond .eq 15, 3) := by decide +kernel
theorem dX12_range_52 : decode cX12_range 52 = .ok (.aload_n 0, 1) := by decide +kernel
theorem dX12_range_53 : decode cX12_range 53 = .ok (.getfield 110, 3) := by decide +kernel
theorem dX12_range_56 : decode cX12_range 56 = .ok (.iconst 1, 1) := by decide +kernel
theorem dX12_range_57 : decode cX12_range 57 = .ok (.if_icmp .eq 7, 3) := by decide +kernel
theorem dX12_range_60 : decode cX12_range 60 = .ok (.aload_n 0, 1) := by decide +kernel
theorem dX12_range_61 : decode cX12_range 61 = .ok (.invokevirtual 144, 3) := by decide +kernel
theorem dX12_range_64 : decode cX12_range 64 = .ok (.aload_n 0, 1) := by decide +kernel
theorem dX12_range_65 : decode cX12_range 65 = .ok (.getfield 116, 3) := by decide +kernel
theorem dX12_range_68 : decode cX12_range 68 = .ok (.istore_n 2, 1) := by decide +kernel
theorem dX12_range_69 : decode cX12_range 69 = .ok (.aload_n 0, 1) := by decide +kernel
theorem dX12_range_70 : decode cX12_range 70 = .ok (.invokevirtual 133, 3) := by decide +kernel
theorem dX12_range_73 : decode cX12_range 73 = .ok (.ifCond .eq 13, 3) := by decide +kernel
theorem dX12_range_76 : decode cX12_range 76 = .ok (.iload_n 2, 1) := by decide +kernel
theorem dX12_range_77 : decode cX12_range 77 = .ok (.iload_n 1, 1) := by decide +kernel
theorem dX12_range_78 : decode cX12_range 78 = .ok (.if_icmp .ge 8, 3) := by decide +kernel
theorem dX12_range_81 : decode cX12_range 81 = .ok (.aload_n 0, 1) := by decide +kernel
theorem dX12_range_82 : decode cX12_range 82 = .ok (.iconst 3, 1) := by decide +kernel
theorem dX12_range_83 : decode cX12_range 83 = .ok (.invokevirtual 137, 3) := by decide +kernel
theorem dX12_range_86 : decode cX12_range 86 = .ok (.aload_n 0, 1) := by decide +kernel
theorem dX12_range_87 : decode cX12_range 87 = .ok (.invokevirtual 133, 3) := by decide +kernel
theorem dX12_range_90 : decode cX12_range 90 = .ok (.ifCond .eq 13, 3) := by decide +kernel
theorem dX12_range_93 : decode cX12_range 93 = .ok (.aload_n 0, 1) := by decide +kernel
theorem dX12_range_94 : decode cX12_range 94 = .ok (.invokevirtual 147, 3) := by decide +kernel
theorem dX12_range_97 : decode cX12_range 97 = .ok (.aload_n 0, 1) := by decide +kernel
theorem dX12_range_98 : decode cX12_range 98 = .ok (.bipush 93, 2) := by decide +kernel
theorem dX12_range_100 : decode cX12_range 100 = .ok (.invokevirtual 173, 3) := by decide +kernel
theorem dX12_range_103 : decode cX12_range 103 = .ok (.aload_n 0, 1) := by decide +kernel
theorem dX12_range_104 : decode cX12_range 104 = .ok (.iconst 1, 1) := by decide +kernel
theorem dX12_range_105 : decode cX12_range 105 = .ok (.iload_n 1, 1) := by decide +kernel
theorem dX12_range_106 : decode cX12_range 106 = .ok (.iload_n 2, 1) := by decide +kernel
theorem dX12_range_107 : decode cX12_range 107 = .ok (.invokevirtual 157, 3) := by decide +kernel
theorem dX12_range_110 : decode cX12_range 110 = .ok (.ireturn, 1) := by decide +kernel
set_option maxRecDepth 20000 in
theorem ggX12_word_X12_next : GoodIn wsX12_word wsX12_next := goodIn_r _ [23, 2, 8, 24, 25, 7, 26, 27, 28, 29, 22, 30, 31, 32, 33, 34, 35, 36, 37, 38, 39, 40, 41, 42, 43, 44, 45, 46, 47, 48, 49, 50, 51, 52, 53, 54, 55, 56, 57, 58, 59, 60, 61, 62, 63, 64, 65, 66, 67, 68, 69, 70, 71, 72, 73, 74, 75, 76, 77, 78, 79, 80, 81, 82, 83, 84, 85, 86, 87, 88, 89, 90, 91, 92, 93, 94, 95, 96, 97, 98, 99, 100, 101, 102, 103, 104, 105, 106, 107, 108, 109, 110, 111, 112, 113, 114, 115, 116, 117, 118, 119, 164, 165, 166, 167, 168, 169, 170, 171, 172, 173, 174, 175, 176, 177, 178, 179, 180, 181, 182, 183, 184, 185, 186, 187, 188, 189, 190, 191, 192, 193, 194, 195, 196, 197, 198, 199, 200, 201, 202, 203, 204] (by decide +kernel) (by decide +kernel)
set_option maxRecDepth 20000 in
theorem gX12_word_X12_next : GoodIn wsX12_word (wsV RX12 147 RX12 yX12_next wsX12_next) := goodIn_app (goodIn_of _ (by decide +kernel)) ggX12_word_X12_next
set_option maxRecDepth 20000 in
theorem ggX12_word_X12_alternatives : GoodIn wsX12_word wsX12_alternatives := goodIn_r _ [123, 124, 125, 126, 22, 127, 128, 129, 130, 7, 26, 131, 132, 133, 134, 3, 19, 20, 21, 23, 2, 8, 24, 25, 27, 28, 29, 30, 31, 32, 33, 34, 35, 36, 37, 38, 39, 40, 41, 42, 43, 44, 45, 46, 47, 48, 49, 50, 51, 52, 53, 54, 55, 56, 57, 58, 59, 60, 61, 62, 63, 64, 65, 66, 67, 68, 69, 70, 71, 72, 73, 74, 75, 76, 77, 78, 79, 80, 81, 82, 83, 84, 85, 86, 87, 88, 89, 90, 91, 92, 93, 94, 95, 96, 97, 98, 99, 100, 101, 102, 103, 104, 105, 106, 107, 108, 109, 110, 111, 112, 113, 114, 115, 116, 117, 118, 119, 135, 136, 137, 138, 11, 4, 16, 17, 139, 6, 5, 140, 141, 142, 143, 10, 120, 121, 122, 144, 145, 146, 147, 148, 149, 150, 151, 152, 153, 154, 155, 156, 157, 158, 159, 160, 161, 162, 163, 164, 165, 166, 167, 168, 169, 170, 171, 172, 173, 174, 175, 176, 177, 178, 179, 180, 181, 182, 183, 184, 185, 186, 187, 188, 189, 190, 191, 192, 193, 194, 195, 196, 197, 198, 199, 200, 201, 202, 203, 204] (by decide +kernel) (by decide +kernel)
set_option maxRecDepth 20000 in
theorem gX12_word_X12_alternatives : GoodIn wsX12_word (wsV RX12 170 RX12 yX12_alternatives wsX12_alternatives) := goodIn_app (goodIn_of _ (by decide +kernel)) ggX12_word_X12_alternatives
set_option maxRecDepth 20000 in
theorem ggX12_word_X12_good : GoodIn wsX12_word wsX12_good := goodIn_r _ [134, 3, 164, 165, 166, 167, 168, 169, 170, 171, 172, 173, 174, 175, 176, 177, 178, 179, 180, 181, 182, 183, 184, 185, 186, 187, 188, 189, 190, 191, 192, 193, 194, 195, 196, 197, 198, 199, 200, 201, 202, 203, 204] (by decide +kernel) (by decide +kernel)
set_option maxRecDepth 20000 in
theorem gX12_word_X12_good : GoodIn wsX12_word (wsV RX12 133 RX12 yX12_good wsX12_good) := goodIn_app (goodIn_of _ (by decide +kernel)) ggX12_word_X12_good
set_option maxRecDepth 20000 in
theorem ggX12_word_X12_misplaced : GoodIn wsX12_word wsX12_misplaced := goodIn_r _ [151, 7, 140, 141, 142, 22, 143, 3, 25, 10, 164, 165, 166, 167, 168, 169, 170, 171, 172, 173, 174, 175, 176, 177, 178, 179, 180, 181, 182, 183, 184, 185, 186, 187, 188, 189, 190, 191, 192, 193, 194, 195, 196, 197, 198, 199, 200, 201, 202, 203, 204] (by decide +kernel) (by decide +kernel)
set_option maxRecDepth 20000 in
theorem gX12_word_X12_misplaced : GoodIn wsX12_word (wsV RX12 144 RX12 yX12_misplaced wsX12_misplaced) := goodIn_app (goodIn_of _ (by decide +kernel)) ggX12_word_X12_misplaced
theorem dX12_word_0 : decode cX12_word 0 = .ok (.aload_n 0, 1) := by decide +kernel
theorem dX12_word_1 : decode cX12_word 1 = .ok (.iconst 0, 1) := by decide +kernel
theorem dX12_word_2 : decode cX12_word 2 = .ok (.putfield 87, 3) := by decide +kernel
theorem dX12_word_5 : decode cX12_word 5 = .ok (.aload_n 0, 1) := by decide +kernel
theorem dX12_word_6 : decode cX12_word 6 = .ok (.iconst 0, 1) := by decide +kernel
theorem dX12_word_7 : decode cX12_word 7 = .ok (.putfield 104, 3) := by decide +kernel
theorem dX12_word_10 : decode cX12_word 10 = .ok (.aload_n 0, 1) := by decide +kernel
theorem dX12_word_11 : decode cX12_word 11 = .ok (.iconst 0, 1) := by decide +kernel
theorem dX12_word_12 : decode cX12_word 12 = .ok (.putfield 127, 3) := by decide +kernel
theorem dX12_word_15 : decode cX12_word 15 = .ok (.aload_n 0, 1) := by decide +kernel
theorem dX12_word_16 : decode cX12_word 16 = .ok (.iconst 0, 1) := by decide +kernel
theorem dX12_word_17 : decode cX12_word 17 = .ok (.putfield 150, 3) := by decide +kernel
theorem dX12_word_20 : decode cX12_word 20 = .ok (.aload_n 0, 1) := by decide +kernel
theorem dX12_word_21 : decode cX12_word 21 = .ok (.iconst 0, 1) := by decide +kernel
theorem dX12_word_22 : decode cX12_word 22 = .ok (.putfield 176, 3) := by decide +kernel
theorem dX12_word_25 : decode cX12_word 25 = .ok (.aload_n 0, 1) := by decide +kernel
theorem dX12_word_26 : decode cX12_word 26 = .ok (.iconst 0, 1) := by decide +kernel
theorem dX12_word_27 : decode cX12_word 27 = .ok (.putfield 167, 3) := by decide +kernel
theorem dX12_word_30 : decode cX12_word 30 = .ok (.aload_n 0, 1) := by decide +kernel
theorem dX12_word_31 : decode cX12_word 31 = .ok (.invokevirtual 147, 3) := by decide +kernel
theorem dX12_word_34 : decode cX12_word 34 = .ok (.aload_n 0, 1) := by decide +kernel
theorem dX12_word_35 : decode cX12_word 35 = .ok (.invokevirtual 170, 3) := by decide +kernel
theorem dX12_word_38 : decode cX12_word 38 = .ok (.istore_n 1, 1) := by decide +kernel
theorem dX12_word_39 : decode cX12_word 39 = .ok (.aload_n 0, 1) := by decide +kernel
theorem dX12_word_40 : decode cX12_word 40 = .ok (.invokevirtual 133, 3) := by decide +kernel
theorem dX12_word_43 : decode cX12_word 43 = .ok (.ifCond .eq 14, 3) := by decide +kernel
theorem dX12_word_46 : decode cX12_word 46 = .ok (.aload_n 0, 1) := by decide +kernel
theorem dX12_word_47 : decode cX12_word 47 = .ok (.getfield 110, 3) := by decide +kernel
theorem dX12_word_50 : decode cX12_word 50 = .ok (.ifCond .eq 7, 3) := by decide +kernel
theorem dX12_word_53 : decode cX12_word 53 = .ok (.aload_n 0, 1) := by decide +kernel
theorem dX12_word_54 : decode cX12_word 54 = .ok (.invokevirtual 144, 3) := by decide +kernel
theorem dX12_word_57 : decode cX12_word 57 = .ok (.aload_n 0, 1) := by decide +kernel
theorem dX12_word_58 : decode cX12_word 58 = .ok (.iconst 0, 1) := by decide +kernel
theorem dX12_word_59 : decode cX12_word 59 = .ok (.putfield 101, 3) := by decide +kernel
theorem dX12_word_62 : decode cX12_word 62 = .ok (.aload_n 0, 1) := by decide +kernel
theorem dX12_word_63 : decode cX12_word 63 = .ok (.aload_n 0, 1) := by decide +kernel
theorem dX12_word_64 : decode cX12_word 64 = .ok (.getfield 127, 3) := by decide +kernel
theorem dX12_word_67 : decode cX12_word 67 = .ok (.putfield 182, 3) := by decide +kernel
theorem dX12_word_70 : decode cX12_word 70 = .ok (.aload_n 0, 1) := by decide +kernel
theorem dX12_word_71 : decode cX12_word 71 = .ok (.invokevirtual 133, 3) := by decide +kernel
theorem dX12_word_74 : decode cX12_word 74 = .ok (.ifCond .ne 11, 3) := by decide +kernel
theorem dX12_word_77 : decode cX12_word 77 = .ok (.bipush (-10), 2) := by decide +kernel
theorem dX12_word_79 : decode cX12_word 79 = .ok (.aload_n 0, 1) := by decide +kernel
theorem dX12_word_80 : decode cX12_word 80 = .ok (.getfield 130, 3) := by decide +kernel
theorem dX12_word_83 : decode cX12_word 83 = .ok (.isub, 1) := by decide +kernel
theorem dX12_word_84 : decode cX12_word 84 = .ok (.ireturn, 1) := by decide +kernel
theorem dX12_word_85 : decode cX12_word 85 = .ok (.aload_n 0, 1) := by decide +kernel
theorem dX12_word_86 : decode cX12_word 86 = .ok (.getfield 28, 3) := by decide +kernel
theorem dX12_word_89 : decode cX12_word 89 = .ok (.iconst 0, 1) := by decide +kernel
theorem dX12_word_90 : decode cX12_word 90 = .ok (.aload_n 0, 1) := by decide +kernel
theorem dX12_word_91 : decode cX12_word 91 = .ok (.getfield 28, 3) := by decide +kernel
theorem dX12_word_94 : decode cX12_word 94 = .ok (.sipush 500, 3) := by decide +kernel
theorem dX12_word_97 : decode cX12_word 97 = .ok (.aload_n 0, 1) := by decide +kernel
theorem dX12_word_98 : decode cX12_word 98 = .ok (.getfield 150, 3) := by decide +kernel
theorem dX12_word_101 : decode cX12_word 101 = .ok (.invokestatic 185, 3) := by decide +kernel
theorem dX12_word_104 : decode cX12_word 104 = .ok (.aload_n 0, 1) := by decide +kernel
theorem dX12_word_105 : decode cX12_word 105 = .ok (.getfield 31, 3) := by decide +kernel
theorem dX12_word_108 : decode cX12_word 108 = .ok (.iconst 0, 1) := by decide +kernel
theorem dX12_word_109 : decode cX12_word 109 = .ok (.aload_n 0, 1) := by decide +kernel
theorem dX12_word_110 : decode cX12_word 110 = .ok (.getfield 31, 3) := by decide +kernel
theorem dX12_word_113 : decode cX12_word 113 = .ok (.sipush 500, 3) := by decide +kernel
theorem dX12_word_116 : decode cX12_word 116 = .ok (.aload_n 0, 1) := by decide +kernel
theorem dX12_word_117 : decode cX12_word 117 = .ok (.getfield 150, 3) := by decide +kernel
theorem dX12_word_120 : decode cX12_word 120 = .ok (.invokestatic 185, 3) := by decide +kernel
theorem dX12_word_123 : decode cX12_word 123 = .ok (.aload_n 0, 1) := by decide +kernel
theorem dX12_word_124 : decode cX12_word 124 = .ok (.getfield 34, 3) := by decide +kernel
theorem dX12_word_127 : decode cX12_word 127 = .ok (.iconst 0, 1) := by decide +kernel
theorem dX12_word_128 : decode cX12_word 128 = .ok (.aload_n 0, 1) := by decide +kernel
theorem dX12_word_129 : decode cX12_word 129 = .ok (.getfield 34, 3) := by decide +kernel
theorem dX12_word_132 : decode cX12_word 132 = .ok (.sipush 500, 3) := by decide +kernel
theorem dX12_word_135 : decode cX12_word 135 = .ok (.aload_n 0, 1) := by decide +kernel
theorem dX12_word_136 : decode cX12_word 136 = .ok (.getfield 150, 3) := by decide +kernel
theorem dX12_word_139 : decode cX12_word 139 = .ok (.invokestatic 185, 3) := by decide +kernel
theorem dX12_word_142 : decode cX12_word 142 = .ok (.aload_n 0, 1) := by decide +kernel
theorem dX12_word_143 : decode cX12_word 143 = .ok (.iload_n 1, 1) := by decide +kernel
theorem dX12_word_144 : decode cX12_word 144 = .ok (.putfield 37, 3) := by decide +kernel
theorem dX12_word_147 : decode cX12_word 147 = .ok (.aload_n 0, 1) := by decide +kernel
theorem dX12_word_148 : decode cX12_word 148 = .ok (.getfield 176, 3) := by decide +kernel
theorem dX12_word_151 : decode cX12_word 151 = .ok (.ireturn, 1) := by decide +kernel
theorem dX12_fault__0 : decode cX12_fault_ 0 = .ok (.aload_n 0, 1) := by decide +kernel
theorem dX12_fault__1 : decode cX12_fault_ 1 = .ok (.iconst 0, 1) := by decide +kernel
theorem dX12_fault__2 : decode cX12_fault_ 2 = .ok (.putfield 87, 3) := by decide +kernel
theorem dX12_fault__5 : decode cX12_fault_ 5 = .ok (.aload_n 0, 1) := by decide +kernel
theorem dX12_fault__6 : decode cX12_fault_ 6 = .ok (.getfield 182, 3) := by decide +kernel
theorem dX12_fault__9 : decode cX12_fault_ 9 = .ok (.ireturn, 1) := by decide +kernel
theorem dX12_side_0 : decode cX12_side 0 = .ok (.iload_n 0, 1) := by decide +kernel
theorem dX12_side_1 : decode cX12_side 1 = .ok (.iload_n 1, 1) := by decide +kernel
theorem dX12_side_2 : decode cX12_side 2 = .ok (.if_icmp .le 7, 3) := by decide +kernel
theorem dX12_side_5 : decode cX12_side 5 = .ok (.iconst 1, 1) := by decide +kernel
theorem dX12_side_6 : decode cX12_side 6 = .ok (.goto 13, 3) := by decide +kernel
theorem dX12_side_9 : decode cX12_side 9 = .ok (.iload_n 0, 1) := by decide +kernel
theorem dX12_side_10 : decode cX12_side 10 = .ok (.iload_n 1, 1) := by decide +kernel
theorem dX12_side_11 : decode cX12_side 11 = .ok (.if_icmp .ge 7, 3) := by decide +kernel
theorem dX12_side_14 : decode cX12_side 14 = .ok (.iconst (-1), 1) := by decide +kernel
theorem dX12_side_15 : decode cX12_side 15 = .ok (.goto 4, 3) := by decide +kernel
theorem dX12_side_18 : decode cX12_side 18 = .ok (.iconst 0, 1) := by decide +kernel
theorem dX12_side_19 : decode cX12_side 19 = .ok (.ireturn, 1) := by decide +kernel
set_option maxRecDepth 20000 in
theorem ggX12_look_X12_side : GoodIn wsX12_look wsX12_side := goodIn_r _ [9] (by decide +kernel) (by decide +kernel)
set_option maxRecDepth 20000 in
theorem gX12_look_X12_side : GoodIn wsX12_look (va_wsS RX12 194 yX12_side wsX12_side) := goodIn_app (goodIn_of _ (by decide +kernel)) ggX12_look_X12_side
theorem dX12_look_0 : decode cX12_look 0 = .ok (.bipush 24, 2) := by decide +kernel
theorem dX12_look_2 : decode cX12_look 2 = .ok (.iload_n 1, 1) := by decide +kernel
theorem dX12_look_3 : decode cX12_look 3 = .ok (.imul, 1) := by decide +kernel
theorem dX12_look_4 : decode cX12_look 4 = .ok (.istore_n 3, 1) := by decide +kernel
theorem dX12_look_5 : decode cX12_look 5 = .ok (.iload_n 2, 1) := by decide +kernel
theorem dX12_look_6 : decode cX12_look 6 = .ok (.iconst 1, 1) := by decide +kernel
theorem dX12_look_7 : decode cX12_look 7 = .ok (.if_icmp .eq 13, 3) := by decide +kernel
theorem dX12_look_10 : decode cX12_look 10 = .ok (.iload_n 2, 1) := by decide +kernel
theorem dX12_look_11 : decode cX12_look 11 = .ok (.iconst 2, 1) := by decide +kernel
theorem dX12_look_12 : decode cX12_look 12 = .ok (.if_icmp .eq 8, 3) := by decide +kernel
theorem dX12_look_15 : decode cX12_look 15 = .ok (.iload_n 2, 1) := by decide +kernel
theorem dX12_look_16 : decode cX12_look 16 = .ok (.iconst 4, 1) := by decide +kernel
theorem dX12_look_17 : decode cX12_look 17 = .ok (.if_icmp .ne 7, 3) := by decide +kernel
theorem dX12_look_20 : decode cX12_look 20 = .ok (.iconst 1, 1) := by decide +kernel
theorem dX12_look_21 : decode cX12_look 21 = .ok (.goto 4, 3) := by decide +kernel
theorem dX12_look_24 : decode cX12_look 24 = .ok (.iconst 0, 1) := by decide +kernel
theorem dX12_look_25 : decode cX12_look 25 = .ok (.istore 4, 2) := by decide +kernel
theorem dX12_look_27 : decode cX12_look 27 = .ok (.aload_n 0, 1) := by decide +kernel
theorem dX12_look_28 : decode cX12_look 28 = .ok (.iconst 0, 1) := by decide +kernel
theorem dX12_look_29 : decode cX12_look 29 = .ok (.putfield 191, 3) := by decide +kernel
theorem dX12_look_32 : decode cX12_look 32 = .ok (.iload 4, 2) := by decide +kernel
theorem dX12_look_34 : decode cX12_look 34 = .ok (.ifCond .eq 7, 3) := by decide +kernel
theorem dX12_look_37 : decode cX12_look 37 = .ok (.iconst 1, 1) := by decide +kernel
theorem dX12_look_38 : decode cX12_look 38 = .ok (.goto 4, 3) := by decide +kernel
theorem dX12_look_41 : decode cX12_look 41 = .ok (.iconst 0, 1) := by decide +kernel
theorem dX12_look_42 : decode cX12_look 42 = .ok (.istore 5, 2) := by decide +kernel
theorem dX12_look_44 : decode cX12_look 44 = .ok (.iload 5, 2) := by decide +kernel
theorem dX12_look_46 : decode cX12_look 46 = .ok (.aload_n 0, 1) := by decide +kernel
theorem dX12_look_47 : decode cX12_look 47 = .ok (.getfield 18, 3) := by decide +kernel
theorem dX12_look_50 : decode cX12_look 50 = .ok (.iload_n 1, 1) := by decide +kernel
theorem dX12_look_51 : decode cX12_look 51 = .ok (.iaload, 1) := by decide +kernel
theorem dX12_look_52 : decode cX12_look 52 = .ok (.if_icmp .ge 172, 3) := by decide +kernel
theorem dX12_look_55 : decode cX12_look 55 = .ok (.aload_n 0, 1) := by decide +kernel
theorem dX12_look_56 : decode cX12_look 56 = .ok (.getfield 11, 3) := by decide +kernel
theorem dX12_look_59 : decode cX12_look 59 = .ok (.iload_n 3, 1) := by decide +kernel
theorem dX12_look_60 : decode cX12_look 60 = .ok (.iload 5, 2) := by decide +kernel
theorem dX12_look_62 : decode cX12_look 62 = .ok (.iadd, 1) := by decide +kernel
theorem dX12_look_63 : decode cX12_look 63 = .ok (.iaload, 1) := by decide +kernel
theorem dX12_look_64 : decode cX12_look 64 = .ok (.istore 6, 2) := by decide +kernel
theorem dX12_look_66 : decode cX12_look 66 = .ok (.aload_n 0, 1) := by decide +kernel
theorem dX12_look_67 : decode cX12_look 67 = .ok (.getfield 15, 3) := by decide +kernel
theorem dX12_look_70 : decode cX12_look 70 = .ok (.iload_n 3, 1) := by decide +kernel
theorem dX12_look_71 : decode cX12_look 71 = .ok (.iload 5, 2) := by decide +kernel
theorem dX12_look_73 : decode cX12_look 73 = .ok (.iadd, 1) := by decide +kernel
theorem dX12_look_74 : decode cX12_look 74 = .ok (.iaload, 1) := by decide +kernel
theorem dX12_look_75 : decode cX12_look 75 = .ok (.istore 7, 2) := by decide +kernel
theorem dX12_look_77 : decode cX12_look 77 = .ok (.iload 4, 2) := by decide +kernel
theorem dX12_look_79 : decode cX12_look 79 = .ok (.ifCond .eq 17, 3) := by decide +kernel
theorem dX12_look_82 : decode cX12_look 82 = .ok (.aload_n 0, 1) := by decide +kernel
theorem dX12_look_83 : decode cX12_look 83 = .ok (.getfield 11, 3) := by decide +kernel
theorem dX12_look_86 : decode cX12_look 86 = .ok (.iload_n 3, 1) := by decide +kernel
theorem dX12_look_87 : decode cX12_look 87 = .ok (.iload 5, 2) := by decide +kernel
theorem dX12_look_89 : decode cX12_look 89 = .ok (.iadd, 1) := by decide +kernel
theorem dX12_look_90 : decode cX12_look 90 = .ok (.iconst 1, 1) := by decide +kernel
theorem dX12_look_91 : decode cX12_look 91 = .ok (.isub, 1) := by decide +kernel
theorem dX12_look_92 : decode cX12_look 92 = .ok (.iaload, 1) := by decide +kernel
theorem dX12_look_93 : decode cX12_look 93 = .ok (.goto 4, 3) := by decide +kernel
theorem dX12_look_96 : decode cX12_look 96 = .ok (.iconst 0, 1) := by decide +kernel
theorem dX12_look_97 : decode cX12_look 97 = .ok (.istore 8, 2) := by decide +kernel
theorem dX12_look_99 : decode cX12_look 99 = .ok (.iload_n 2, 1) := by decide +kernel
theorem dX12_look_100 : decode cX12_look 100 = .ok (.iconst 3, 1) := by decide +kernel
theorem dX12_look_101 : decode cX12_look 101 = .ok (.if_icmp .ge 17, 3) := by decide +kernel
theorem dX12_look_104 : decode cX12_look 104 = .ok (.iload 6, 2) := by decide +kernel
theorem dX12_look_106 : decode cX12_look 106 = .ok (.ifCond .lt 8, 3) := by decide +kernel
theorem dX12_look_109 : decode cX12_look 109 = .ok (.iload 8, 2) := by decide +kernel
theorem dX12_look_111 : decode cX12_look 111 = .ok (.ifCond .ge 7, 3) := by decide +kernel
theorem dX12_look_114 : decode cX12_look 114 = .ok (.iconst 1, 1) := by decide +kernel
theorem dX12_look_115 : decode cX12_look 115 = .ok (.goto 4, 3) := by decide +kernel
theorem dX12_look_118 : decode cX12_look 118 = .ok (.iconst 0, 1) := by decide +kernel
theorem dX12_look_119 : decode cX12_look 119 = .ok (.istore 9, 2) := by decide +kernel
theorem dX12_look_121 : decode cX12_look 121 = .ok (.iload_n 2, 1) := by decide +kernel
theorem dX12_look_122 : decode cX12_look 122 = .ok (.ifCond .ne 8, 3) := by decide +kernel
theorem dX12_look_125 : decode cX12_look 125 = .ok (.iload 6, 2) := by decide +kernel
theorem dX12_look_127 : decode cX12_look 127 = .ok (.goto 57, 3) := by decide +kernel
theorem dX12_look_130 : decode cX12_look 130 = .ok (.iload_n 2, 1) := by decide +kernel
theorem dX12_look_131 : decode cX12_look 131 = .ok (.iconst 1, 1) := by decide +kernel
theorem dX12_look_132 : decode cX12_look 132 = .ok (.if_icmp .ne 11, 3) := by decide +kernel
theorem dX12_look_135 : decode cX12_look 135 = .ok (.iload 6, 2) := by decide +kernel
theorem dX12_look_137 : decode cX12_look 137 = .ok (.iload 8, 2) := by decide +kernel
theorem dX12_look_139 : decode cX12_look 139 = .ok (.isub, 1) := by decide +kernel
theorem dX12_look_140 : decode cX12_look 140 = .ok (.goto 44, 3) := by decide +kernel
theorem dX12_look_143 : decode cX12_look 143 = .ok (.iload_n 2, 1) := by decide +kernel
theorem dX12_look_144 : decode cX12_look 144 = .ok (.iconst 2, 1) := by decide +kernel
theorem dX12_look_145 : decode cX12_look 145 = .ok (.if_icmp .ne 13, 3) := by decide +kernel
theorem dX12_look_148 : decode cX12_look 148 = .ok (.iload 6, 2) := by decide +kernel
theorem dX12_look_150 : decode cX12_look 150 = .ok (.iload 8, 2) := by decide +kernel
theorem dX12_look_152 : decode cX12_look 152 = .ok (.invokestatic 194, 3) := by decide +kernel
theorem dX12_look_155 : decode cX12_look 155 = .ok (.goto 29, 3) := by decide +kernel
theorem dX12_look_158 : decode cX12_look 158 = .ok (.iload_n 2, 1) := by decide +kernel
theorem dX12_look_159 : decode cX12_look 159 = .ok (.iconst 3, 1) := by decide +kernel
theorem dX12_look_160 : decode cX12_look 160 = .ok (.if_icmp .ne 8, 3) := by decide +kernel
theorem dX12_look_163 : decode cX12_look 163 = .ok (.iload 7, 2) := by decide +kernel
theorem dX12_look_165 : decode cX12_look 165 = .ok (.goto 19, 3) := by decide +kernel
theorem dX12_look_168 : decode cX12_look 168 = .ok (.iload 7, 2) := by decide +kernel
theorem dX12_look_170 : decode cX12_look 170 = .ok (.aload_n 0, 1) := by decide +kernel
theorem dX12_look_171 : decode cX12_look 171 = .ok (.getfield 15, 3) := by decide +kernel
theorem dX12_look_174 : decode cX12_look 174 = .ok (.iload_n 3, 1) := by decide +kernel
theorem dX12_look_175 : decode cX12_look 175 = .ok (.iload 5, 2) := by decide +kernel
theorem dX12_look_177 : decode cX12_look 177 = .ok (.iadd, 1) := by decide +kernel
theorem dX12_look_178 : decode cX12_look 178 = .ok (.iconst 1, 1) := by decide +kernel
theorem dX12_look_179 : decode cX12_look 179 = .ok (.isub, 1) := by decide +kernel
theorem dX12_look_180 : decode cX12_look 180 = .ok (.iaload, 1) := by decide +kernel
theorem dX12_look_181 : decode cX12_look 181 = .ok (.invokestatic 194, 3) := by decide +kernel
theorem dX12_look_184 : decode cX12_look 184 = .ok (.istore 10, 2) := by decide +kernel
theorem dX12_look_186 : decode cX12_look 186 = .ok (.aload_n 0, 1) := by decide +kernel
theorem dX12_look_187 : decode cX12_look 187 = .ok (.getfield 41, 3) := by decide +kernel
theorem dX12_look_190 : decode cX12_look 190 = .ok (.aload_n 0, 1) := by decide +kernel
theorem dX12_look_191 : decode cX12_look 191 = .ok (.getfield 191, 3) := by decide +kernel
theorem dX12_look_194 : decode cX12_look 194 = .ok (.iload 9, 2) := by decide +kernel
theorem dX12_look_196 : decode cX12_look 196 = .ok (.ifCond .eq 9, 3) := by decide +kernel
theorem dX12_look_199 : decode cX12_look 199 = .ok (.sipush 1000, 3) := by decide +kernel
theorem dX12_look_202 : decode cX12_look 202 = .ok (.goto 5, 3) := by decide +kernel
theorem dX12_look_205 : decode cX12_look 205 = .ok (.iload 10, 2) := by decide +kernel
theorem dX12_look_207 : decode cX12_look 207 = .ok (.iastore, 1) := by decide +kernel
theorem dX12_look_208 : decode cX12_look 208 = .ok (.aload_n 0, 1) := by decide +kernel
theorem dX12_look_209 : decode cX12_look 209 = .ok (.dup, 1) := by decide +kernel
theorem dX12_look_210 : decode cX12_look 210 = .ok (.getfield 191, 3) := by decide +kernel
theorem dX12_look_213 : decode cX12_look 213 = .ok (.iconst 1, 1) := by decide +kernel
theorem dX12_look_214 : decode cX12_look 214 = .ok (.iadd, 1) := by decide +kernel
theorem dX12_look_215 : decode cX12_look 215 = .ok (.putfield 191, 3) := by decide +kernel
theorem dX12_look_218 : decode cX12_look 218 = .ok (.iinc 5 1, 3) := by decide +kernel
theorem dX12_look_221 : decode cX12_look 221 = .ok (.goto (-177), 3) := by decide +kernel
theorem dX12_look_224 : decode cX12_look 224 = .ok (.return_, 1) := by decide +kernel
set_option maxRecDepth 20000 in
theorem ggX12_behind_X12_behind : GoodIn wsX12_behind wsX12_behind := goodIn_r _ [0, 1, 2, 3, 4, 5, 6, 7, 8, 9, 10, 11, 12, 13, 14, 15, 16, 17, 18, 19, 20, 21, 22, 23, 24, 25, 26, 27, 28, 29, 30, 31, 32, 33, 34, 35, 36, 37, 38, 39, 40, 41, 42, 43, 44, 45, 46, 47, 48, 49, 50, 51, 52, 53, 54] (by decide +kernel) (by decide +kernel)
set_option maxRecDepth 20000 in
theorem gX12_behind_X12_behind : GoodIn wsX12_behind (wsV RX12 198 RX12 yX12_behind wsX12_behind) := goodIn_app (goodIn_of _ (by decide +kernel)) ggX12_behind_X12_behind
set_option maxRecDepth 20000 in
theorem ggX12_behind_X12_closed : GoodIn wsX12_behind wsX12_closed := goodIn_r _ [13, 6, 7, 8, 9, 0, 1, 2, 3, 4, 5, 10, 11, 12, 14, 15, 16, 17, 18, 19, 20, 21, 22, 23, 24, 25, 26, 27, 28, 29, 30, 31, 32, 33, 34, 35, 36, 37, 38, 39, 40, 41, 42, 43, 44, 45, 46, 47, 48, 49, 50, 51, 52, 53, 54] (by decide +kernel) (by decide +kernel)
set_option maxRecDepth 20000 in
theorem gX12_behind_X12_closed : GoodIn wsX12_behind (wsV RX12 201 RX12 yX12_closed wsX12_closed) := goodIn_app (goodIn_of _ (by decide +kernel)) ggX12_behind_X12_closed
theorem dX12_behind_0 : decode cX12_behind 0 = .ok (.aload_n 0, 1) := by decide +kernel
theorem dX12_behind_1 : decode cX12_behind 1 = .ok (.getfield 31, 3) := by decide +kernel
theorem dX12_behind_4 : decode cX12_behind 4 = .ok (.sipush 500, 3) := by decide +kernel
theorem dX12_behind_7 : decode cX12_behind 7 = .ok (.iload_n 1, 1) := by decide +kernel
theorem dX12_behind_8 : decode cX12_behind 8 = .ok (.iadd, 1) := by decide +kernel
theorem dX12_behind_9 : decode cX12_behind 9 = .ok (.iaload, 1) := by decide +kernel
theorem dX12_behind_10 : decode cX12_behind 10 = .ok (.istore_n 3, 1) := by decide +kernel
theorem dX12_behind_11 : decode cX12_behind 11 = .ok (.aload_n 0, 1) := by decide +kernel
theorem dX12_behind_12 : decode cX12_behind 12 = .ok (.getfield 34, 3) := by decide +kernel
theorem dX12_behind_15 : decode cX12_behind 15 = .ok (.sipush 500, 3) := by decide +kernel
theorem dX12_behind_18 : decode cX12_behind 18 = .ok (.iload_n 1, 1) := by decide +kernel
theorem dX12_behind_19 : decode cX12_behind 19 = .ok (.iadd, 1) := by decide +kernel
theorem dX12_behind_20 : decode cX12_behind 20 = .ok (.iaload, 1) := by decide +kernel
theorem dX12_behind_21 : decode cX12_behind 21 = .ok (.istore 4, 2) := by decide +kernel
theorem dX12_behind_23 : decode cX12_behind 23 = .ok (.aload_n 0, 1) := by decide +kernel
theorem dX12_behind_24 : decode cX12_behind 24 = .ok (.getfield 28, 3) := by decide +kernel
theorem dX12_behind_27 : decode cX12_behind 27 = .ok (.sipush 500, 3) := by decide +kernel
theorem dX12_behind_30 : decode cX12_behind 30 = .ok (.iload_n 1, 1) := by decide +kernel
theorem dX12_behind_31 : decode cX12_behind 31 = .ok (.iadd, 1) := by decide +kernel
theorem dX12_behind_32 : decode cX12_behind 32 = .ok (.iaload, 1) := by decide +kernel
theorem dX12_behind_33 : decode cX12_behind 33 = .ok (.tableswitch 109 0 8 #[51, 109, 109, 109, 53, 66, 90, 97, 81], 51) := by decide +kernel
theorem dX12_behind_84 : decode cX12_behind 84 = .ok (.iload_n 2, 1) := by decide +kernel
theorem dX12_behind_85 : decode cX12_behind 85 = .ok (.ireturn, 1) := by decide +kernel
theorem dX12_behind_86 : decode cX12_behind 86 = .ok (.aload_n 0, 1) := by decide +kernel
theorem dX12_behind_87 : decode cX12_behind 87 = .ok (.iload 4, 2) := by decide +kernel
theorem dX12_behind_89 : decode cX12_behind 89 = .ok (.aload_n 0, 1) := by decide +kernel
theorem dX12_behind_90 : decode cX12_behind 90 = .ok (.iload_n 3, 1) := by decide +kernel
theorem dX12_behind_91 : decode cX12_behind 91 = .ok (.iload_n 2, 1) := by decide +kernel
theorem dX12_behind_92 : decode cX12_behind 92 = .ok (.invokevirtual 198, 3) := by decide +kernel
theorem dX12_behind_95 : decode cX12_behind 95 = .ok (.invokevirtual 198, 3) := by decide +kernel
theorem dX12_behind_98 : decode cX12_behind 98 = .ok (.ireturn, 1) := by decide +kernel
theorem dX12_behind_99 : decode cX12_behind 99 = .ok (.aload_n 0, 1) := by decide +kernel
theorem dX12_behind_100 : decode cX12_behind 100 = .ok (.iload_n 3, 1) := by decide +kernel
theorem dX12_behind_101 : decode cX12_behind 101 = .ok (.iload_n 2, 1) := by decide +kernel
theorem dX12_behind_102 : decode cX12_behind 102 = .ok (.invokevirtual 198, 3) := by decide +kernel
theorem dX12_behind_105 : decode cX12_behind 105 = .ok (.aload_n 0, 1) := by decide +kernel
theorem dX12_behind_106 : decode cX12_behind 106 = .ok (.iload 4, 2) := by decide +kernel
theorem dX12_behind_108 : decode cX12_behind 108 = .ok (.iload_n 2, 1) := by decide +kernel
theorem dX12_behind_109 : decode cX12_behind 109 = .ok (.invokevirtual 198, 3) := by decide +kernel
theorem dX12_behind_112 : decode cX12_behind 112 = .ok (.ior, 1) := by decide +kernel
theorem dX12_behind_113 : decode cX12_behind 113 = .ok (.ireturn, 1) := by decide +kernel
theorem dX12_behind_114 : decode cX12_behind 114 = .ok (.iload_n 2, 1) := by decide +kernel
theorem dX12_behind_115 : decode cX12_behind 115 = .ok (.aload_n 0, 1) := by decide +kernel
theorem dX12_behind_116 : decode cX12_behind 116 = .ok (.iload_n 3, 1) := by decide +kernel
theorem dX12_behind_117 : decode cX12_behind 117 = .ok (.iload_n 2, 1) := by decide +kernel
theorem dX12_behind_118 : decode cX12_behind 118 = .ok (.invokevirtual 198, 3) := by decide +kernel
theorem dX12_behind_121 : decode cX12_behind 121 = .ok (.ior, 1) := by decide +kernel
theorem dX12_behind_122 : decode cX12_behind 122 = .ok (.ireturn, 1) := by decide +kernel
theorem dX12_behind_123 : decode cX12_behind 123 = .ok (.aload_n 0, 1) := by decide +kernel
theorem dX12_behind_124 : decode cX12_behind 124 = .ok (.iload_n 3, 1) := by decide +kernel
theorem dX12_behind_125 : decode cX12_behind 125 = .ok (.iload_n 2, 1) := by decide +kernel
theorem dX12_behind_126 : decode cX12_behind 126 = .ok (.invokevirtual 201, 3) := by decide +kernel
theorem dX12_behind_129 : decode cX12_behind 129 = .ok (.ireturn, 1) := by decide +kernel
theorem dX12_behind_130 : decode cX12_behind 130 = .ok (.aload_n 0, 1) := by decide +kernel
theorem dX12_behind_131 : decode cX12_behind 131 = .ok (.iload_n 3, 1) := by decide +kernel
theorem dX12_behind_132 : decode cX12_behind 132 = .ok (.aload_n 0, 1) := by decide +kernel
theorem dX12_behind_133 : decode cX12_behind 133 = .ok (.iload_n 3, 1) := by decide +kernel
theorem dX12_behind_134 : decode cX12_behind 134 = .ok (.iload_n 2, 1) := by decide +kernel
theorem dX12_behind_135 : decode cX12_behind 135 = .ok (.invokevirtual 198, 3) := by decide +kernel
theorem dX12_behind_138 : decode cX12_behind 138 = .ok (.invokevirtual 201, 3) := by decide +kernel
theorem dX12_behind_141 : decode cX12_behind 141 = .ok (.ireturn, 1) := by decide +kernel
theorem dX12_behind_142 : decode cX12_behind 142 = .ok (.iconst 0, 1) := by decide +kernel
theorem dX12_behind_143 : decode cX12_behind 143 = .ok (.istore 5, 2) := by decide +kernel
theorem dX12_behind_145 : decode cX12_behind 145 = .ok (.iconst 0, 1) := by decide +kernel
theorem dX12_behind_146 : decode cX12_behind 146 = .ok (.istore 6, 2) := by decide +kernel
theorem dX12_behind_148 : decode cX12_behind 148 = .ok (.iload 6, 2) := by decide +kernel
theorem dX12_behind_150 : decode cX12_behind 150 = .ok (.aload_n 0, 1) := by decide +kernel
theorem dX12_behind_151 : decode cX12_behind 151 = .ok (.getfield 191, 3) := by decide +kernel
theorem dX12_behind_154 : decode cX12_behind 154 = .ok (.if_icmp .ge 125, 3) := by decide +kernel
theorem dX12_behind_157 : decode cX12_behind 157 = .ok (.aload_n 0, 1) := by decide +kernel
theorem dX12_behind_158 : decode cX12_behind 158 = .ok (.getfield 41, 3) := by decide +kernel
theorem dX12_behind_161 : decode cX12_behind 161 = .ok (.iload 6, 2) := by decide +kernel
theorem dX12_behind_163 : decode cX12_behind 163 = .ok (.iaload, 1) := by decide +kernel
theorem dX12_behind_164 : decode cX12_behind 164 = .ok (.sipush 1000, 3) := by decide +kernel
theorem dX12_behind_167 : decode cX12_behind 167 = .ok (.if_icmp .ne 7, 3) := by decide +kernel
theorem dX12_behind_170 : decode cX12_behind 170 = .ok (.iconst 1, 1) := by decide +kernel
theorem dX12_behind_171 : decode cX12_behind 171 = .ok (.goto 4, 3) := by decide +kernel
theorem dX12_behind_174 : decode cX12_behind 174 = .ok (.iconst 0, 1) := by decide +kernel
theorem dX12_behind_175 : decode cX12_behind 175 = .ok (.istore 7, 2) := by decide +kernel
theorem dX12_behind_177 : decode cX12_behind 177 = .ok (.aload_n 0, 1) := by decide +kernel
theorem dX12_behind_178 : decode cX12_behind 178 = .ok (.getfield 28, 3) := by decide +kernel
theorem dX12_behind_181 : decode cX12_behind 181 = .ok (.sipush 500, 3) := by decide +kernel
theorem dX12_behind_184 : decode cX12_behind 184 = .ok (.iload_n 1, 1) := by decide +kernel
theorem dX12_behind_185 : decode cX12_behind 185 = .ok (.iadd, 1) := by decide +kernel
theorem dX12_behind_186 : decode cX12_behind 186 = .ok (.iaload, 1) := by decide +kernel
theorem dX12_behind_187 : decode cX12_behind 187 = .ok (.iconst 3, 1) := by decide +kernel
theorem dX12_behind_188 : decode cX12_behind 188 = .ok (.if_icmp .ne 8, 3) := by decide +kernel
theorem dX12_behind_191 : decode cX12_behind 191 = .ok (.iload 7, 2) := by decide +kernel
theorem dX12_behind_193 : decode cX12_behind 193 = .ok (.goto 50, 3) := by decide +kernel
theorem dX12_behind_196 : decode cX12_behind 196 = .ok (.iload 7, 2) := by decide +kernel
theorem dX12_behind_198 : decode cX12_behind 198 = .ok (.ifCond .ne 44, 3) := by decide +kernel
theorem dX12_behind_201 : decode cX12_behind 201 = .ok (.aload_n 0, 1) := by decide +kernel
theorem dX12_behind_202 : decode cX12_behind 202 = .ok (.getfield 28, 3) := by decide +kernel
theorem dX12_behind_205 : decode cX12_behind 205 = .ok (.sipush 500, 3) := by decide +kernel
theorem dX12_behind_208 : decode cX12_behind 208 = .ok (.iload_n 1, 1) := by decide +kernel
theorem dX12_behind_209 : decode cX12_behind 209 = .ok (.iadd, 1) := by decide +kernel
theorem dX12_behind_210 : decode cX12_behind 210 = .ok (.iaload, 1) := by decide +kernel
theorem dX12_behind_211 : decode cX12_behind 211 = .ok (.iconst 2, 1) := by decide +kernel
theorem dX12_behind_212 : decode cX12_behind 212 = .ok (.if_icmp .eq 26, 3) := by decide +kernel
theorem dX12_behind_215 : decode cX12_behind 215 = .ok (.aload_n 0, 1) := by decide +kernel
theorem dX12_behind_216 : decode cX12_behind 216 = .ok (.getfield 41, 3) := by decide +kernel
theorem dX12_behind_219 : decode cX12_behind 219 = .ok (.iload 6, 2) := by decide +kernel
theorem dX12_behind_221 : decode cX12_behind 221 = .ok (.iaload, 1) := by decide +kernel
theorem dX12_behind_222 : decode cX12_behind 222 = .ok (.iload_n 3, 1) := by decide +kernel
theorem dX12_behind_223 : decode cX12_behind 223 = .ok (.if_icmp .lt 19, 3) := by decide +kernel
theorem dX12_behind_226 : decode cX12_behind 226 = .ok (.aload_n 0, 1) := by decide +kernel
theorem dX12_behind_227 : decode cX12_behind 227 = .ok (.getfield 41, 3) := by decide +kernel
theorem dX12_behind_230 : decode cX12_behind 230 = .ok (.iload 6, 2) := by decide +kernel
theorem dX12_behind_232 : decode cX12_behind 232 = .ok (.iaload, 1) := by decide +kernel
theorem dX12_behind_233 : decode cX12_behind 233 = .ok (.iload 4, 2) := by decide +kernel
theorem dX12_behind_235 : decode cX12_behind 235 = .ok (.if_icmp .gt 7, 3) := by decide +kernel
theorem dX12_behind_238 : decode cX12_behind 238 = .ok (.iconst 1, 1) := by decide +kernel
theorem dX12_behind_239 : decode cX12_behind 239 = .ok (.goto 4, 3) := by decide +kernel
theorem dX12_behind_242 : decode cX12_behind 242 = .ok (.iconst 0, 1) := by decide +kernel
theorem dX12_behind_243 : decode cX12_behind 243 = .ok (.istore 8, 2) := by decide +kernel
theorem dX12_behind_245 : decode cX12_behind 245 = .ok (.iload 5, 2) := by decide +kernel
theorem dX12_behind_247 : decode cX12_behind 247 = .ok (.iload 8, 2) := by decide +kernel
theorem dX12_behind_249 : decode cX12_behind 249 = .ok (.ifCond .eq 20, 3) := by decide +kernel
theorem dX12_behind_252 : decode cX12_behind 252 = .ok (.iload_n 2, 1) := by decide +kernel
theorem dX12_behind_253 : decode cX12_behind 253 = .ok (.iload 6, 2) := by decide +kernel
theorem dX12_behind_255 : decode cX12_behind 255 = .ok (.ishr, 1) := by decide +kernel
theorem dX12_behind_256 : decode cX12_behind 256 = .ok (.iconst 1, 1) := by decide +kernel
theorem dX12_behind_257 : decode cX12_behind 257 = .ok (.iand, 1) := by decide +kernel
theorem dX12_behind_258 : decode cX12_behind 258 = .ok (.iconst 1, 1) := by decide +kernel
theorem dX12_behind_259 : decode cX12_behind 259 = .ok (.if_icmp .ne 10, 3) := by decide +kernel
theorem dX12_behind_262 : decode cX12_behind 262 = .ok (.iconst 2, 1) := by decide +kernel
theorem dX12_behind_263 : decode cX12_behind 263 = .ok (.iload 6, 2) := by decide +kernel
theorem dX12_behind_265 : decode cX12_behind 265 = .ok (.ishl, 1) := by decide +kernel
theorem dX12_behind_266 : decode cX12_behind 266 = .ok (.goto 4, 3) := by decide +kernel
theorem dX12_behind_269 : decode cX12_behind 269 = .ok (.iconst 0, 1) := by decide +kernel
theorem dX12_behind_270 : decode cX12_behind 270 = .ok (.ior, 1) := by decide +kernel
theorem dX12_behind_271 : decode cX12_behind 271 = .ok (.istore 5, 2) := by decide +kernel
theorem dX12_behind_273 : decode cX12_behind 273 = .ok (.iinc 6 1, 3) := by decide +kernel
theorem dX12_behind_276 : decode cX12_behind 276 = .ok (.goto (-128), 3) := by decide +kernel
theorem dX12_behind_279 : decode cX12_behind 279 = .ok (.iload 5, 2) := by decide +kernel
theorem dX12_behind_281 : decode cX12_behind 281 = .ok (.ireturn, 1) := by decide +kernel
set_option maxRecDepth 20000 in
theorem ggX12_closed_X12_behind : GoodIn wsX12_closed wsX12_behind := goodIn_r _ [5, 6, 7, 8, 9, 10, 1, 2, 3, 4, 11, 12, 13, 0, 14, 15, 16, 17, 18, 19, 20, 21, 22, 23, 24, 25, 26, 27, 28, 29, 30, 31, 32, 33, 34, 35, 36, 37, 38, 39, 40, 41, 42, 43, 44, 45, 46, 47, 48, 49, 50, 51, 52, 53, 54] (by decide +kernel) (by decide +kernel)
set_option maxRecDepth 20000 in
theorem gX12_closed_X12_behind : GoodIn wsX12_closed (wsV RX12 198 RX12 yX12_behind wsX12_behind) := goodIn_app (goodIn_of _ (by decide +kernel)) ggX12_closed_X12_behind
theorem dX12_closed_0 : decode cX12_closed 0 = .ok (.iload_n 2, 1) := by decide +kernel
theorem dX12_closed_1 : decode cX12_closed 1 = .ok (.istore_n 3, 1) := by decide +kernel
theorem dX12_closed_2 : decode cX12_closed 2 = .ok (.iload_n 2, 1) := by decide +kernel
theorem dX12_closed_3 : decode cX12_closed 3 = .ok (.istore 4, 2) := by decide +kernel
theorem dX12_closed_5 : decode cX12_closed 5 = .ok (.iload 4, 2) := by decide +kernel
theorem dX12_closed_7 : decode cX12_closed 7 = .ok (.ifCond .eq 24, 3) := by decide +kernel
theorem dX12_closed_10 : decode cX12_closed 10 = .ok (.aload_n 0, 1) := by decide +kernel
theorem dX12_closed_11 : decode cX12_closed 11 = .ok (.iload_n 1, 1) := by decide +kernel
theorem dX12_closed_12 : decode cX12_closed 12 = .ok (.iload 4, 2) := by decide +kernel
theorem dX12_closed_14 : decode cX12_closed 14 = .ok (.invokevirtual 198, 3) := by decide +kernel
theorem dX12_closed_17 : decode cX12_closed 17 = .ok (.iload_n 3, 1) := by decide +kernel
theorem dX12_closed_18 : decode cX12_closed 18 = .ok (.iconst (-1), 1) := by decide +kernel
theorem dX12_closed_19 : decode cX12_closed 19 = .ok (.ixor, 1) := by decide +kernel
theorem dX12_closed_20 : decode cX12_closed 20 = .ok (.iand, 1) := by decide +kernel
theorem dX12_closed_21 : decode cX12_closed 21 = .ok (.istore 4, 2) := by decide +kernel
theorem dX12_closed_23 : decode cX12_closed 23 = .ok (.iload_n 3, 1) := by decide +kernel
theorem dX12_closed_24 : decode cX12_closed 24 = .ok (.iload 4, 2) := by decide +kernel
theorem dX12_closed_26 : decode cX12_closed 26 = .ok (.ior, 1) := by decide +kernel
theorem dX12_closed_27 : decode cX12_closed 27 = .ok (.istore_n 3, 1) := by decide +kernel
theorem dX12_closed_28 : decode cX12_closed 28 = .ok (.goto (-23), 3) := by decide +kernel
theorem dX12_closed_31 : decode cX12_closed 31 = .ok (.iload_n 3, 1) := by decide +kernel
theorem dX12_closed_32 : decode cX12_closed 32 = .ok (.ireturn, 1) := by decide +kernel
theorem dX12_find_0 : decode cX12_find 0 = .ok (.aload_n 0, 1) := by decide +kernel
theorem dX12_find_1 : decode cX12_find 1 = .ok (.getfield 204, 3) := by decide +kernel
theorem dX12_find_4 : decode cX12_find 4 = .ok (.istore 6, 2) := by decide +kernel
theorem dX12_find_6 : decode cX12_find 6 = .ok (.iload 6, 2) := by decide +kernel
theorem dX12_find_8 : decode cX12_find 8 = .ok (.ifCond .le 49, 3) := by decide +kernel
theorem dX12_find_11 : decode cX12_find 11 = .ok (.aload_n 0, 1) := by decide +kernel
theorem dX12_find_12 : decode cX12_find 12 = .ok (.getfield 44, 3) := by decide +kernel
theorem dX12_find_15 : decode cX12_find 15 = .ok (.iconst 5, 1) := by decide +kernel
theorem dX12_find_16 : decode cX12_find 16 = .ok (.iload 6, 2) := by decide +kernel
theorem dX12_find_18 : decode cX12_find 18 = .ok (.iconst 1, 1) := by decide +kernel
theorem dX12_find_19 : decode cX12_find 19 = .ok (.isub, 1) := by decide +kernel
theorem dX12_find_20 : decode cX12_find 20 = .ok (.imul, 1) := by decide +kernel
theorem dX12_find_21 : decode cX12_find 21 = .ok (.iconst 3, 1) := by decide +kernel
theorem dX12_find_22 : decode cX12_find 22 = .ok (.iadd, 1) := by decide +kernel
theorem dX12_find_23 : decode cX12_find 23 = .ok (.iaload, 1) := by decide +kernel
theorem dX12_find_24 : decode cX12_find 24 = .ok (.iload 4, 2) := by decide +kernel
theorem dX12_find_26 : decode cX12_find 26 = .ok (.if_icmp .le 31, 3) := by decide +kernel
theorem dX12_find_29 : decode cX12_find 29 = .ok (.aload_n 0, 1) := by decide +kernel
theorem dX12_find_30 : decode cX12_find 30 = .ok (.getfield 44, 3) := by decide +kernel
theorem dX12_find_33 : decode cX12_find 33 = .ok (.iconst 5, 1) := by decide +kernel
theorem dX12_find_34 : decode cX12_find 34 = .ok (.iload 6, 2) := by decide +kernel
theorem dX12_find_36 : decode cX12_find 36 = .ok (.iconst 1, 1) := by decide +kernel
theorem dX12_find_37 : decode cX12_find 37 = .ok (.isub, 1) := by decide +kernel
theorem dX12_find_38 : decode cX12_find 38 = .ok (.imul, 1) := by decide +kernel
theorem dX12_find_39 : decode cX12_find 39 = .ok (.aload_n 0, 1) := by decide +kernel
theorem dX12_find_40 : decode cX12_find 40 = .ok (.getfield 44, 3) := by decide +kernel
theorem dX12_find_43 : decode cX12_find 43 = .ok (.iconst 5, 1) := by decide +kernel
theorem dX12_find_44 : decode cX12_find 44 = .ok (.iload 6, 2) := by decide +kernel
theorem dX12_find_46 : decode cX12_find 46 = .ok (.imul, 1) := by decide +kernel
theorem dX12_find_47 : decode cX12_find 47 = .ok (.iconst 5, 1) := by decide +kernel
theorem dX12_find_48 : decode cX12_find 48 = .ok (.invokestatic 185, 3) := by decide +kernel
theorem dX12_find_51 : decode cX12_find 51 = .ok (.iinc 6 (-1), 3) := by decide +kernel
theorem dX12_find_54 : decode cX12_find 54 = .ok (.goto (-48), 3) := by decide +kernel
theorem dX12_find_57 : decode cX12_find 57 = .ok (.aload_n 0, 1) := by decide +kernel
theorem dX12_find_58 : decode cX12_find 58 = .ok (.getfield 44, 3) := by decide +kernel
theorem dX12_find_61 : decode cX12_find 61 = .ok (.iconst 5, 1) := by decide +kernel
theorem dX12_find_62 : decode cX12_find 62 = .ok (.iload 6, 2) := by decide +kernel
theorem dX12_find_64 : decode cX12_find 64 = .ok (.imul, 1) := by decide +kernel
theorem dX12_find_65 : decode cX12_find 65 = .ok (.iload_n 1, 1) := by decide +kernel
theorem dX12_find_66 : decode cX12_find 66 = .ok (.iastore, 1) := by decide +kernel
theorem dX12_find_67 : decode cX12_find 67 = .ok (.aload_n 0, 1) := by decide +kernel
theorem dX12_find_68 : decode cX12_find 68 = .ok (.getfield 44, 3) := by decide +kernel
theorem dX12_find_71 : decode cX12_find 71 = .ok (.iconst 5, 1) := by decide +kernel
theorem dX12_find_72 : decode cX12_find 72 = .ok (.iload 6, 2) := by decide +kernel
theorem dX12_find_74 : decode cX12_find 74 = .ok (.imul, 1) := by decide +kernel
theorem dX12_find_75 : decode cX12_find 75 = .ok (.iconst 1, 1) := by decide +kernel
theorem dX12_find_76 : decode cX12_find 76 = .ok (.iadd, 1) := by decide +kernel
theorem dX12_find_77 : decode cX12_find 77 = .ok (.iload_n 2, 1) := by decide +kernel
theorem dX12_find_78 : decode cX12_find 78 = .ok (.iastore, 1) := by decide +kernel
theorem dX12_find_79 : decode cX12_find 79 = .ok (.aload_n 0, 1) := by decide +kernel
theorem dX12_find_80 : decode cX12_find 80 = .ok (.getfield 44, 3) := by decide +kernel
theorem dX12_find_83 : decode cX12_find 83 = .ok (.iconst 5, 1) := by decide +kernel
theorem dX12_find_84 : decode cX12_find 84 = .ok (.iload 6, 2) := by decide +kernel
theorem dX12_find_86 : decode cX12_find 86 = .ok (.imul, 1) := by decide +kernel
theorem dX12_find_87 : decode cX12_find 87 = .ok (.iconst 2, 1) := by decide +kernel
theorem dX12_find_88 : decode cX12_find 88 = .ok (.iadd, 1) := by decide +kernel
theorem dX12_find_89 : decode cX12_find 89 = .ok (.iload_n 3, 1) := by decide +kernel
theorem dX12_find_90 : decode cX12_find 90 = .ok (.iastore, 1) := by decide +kernel
theorem dX12_find_91 : decode cX12_find 91 = .ok (.aload_n 0, 1) := by decide +kernel
theorem dX12_find_92 : decode cX12_find 92 = .ok (.getfield 44, 3) := by decide +kernel
theorem dX12_find_95 : decode cX12_find 95 = .ok (.iconst 5, 1) := by decide +kernel
theorem dX12_find_96 : decode cX12_find 96 = .ok (.iload 6, 2) := by decide +kernel
theorem dX12_find_98 : decode cX12_find 98 = .ok (.imul, 1) := by decide +kernel
theorem dX12_find_99 : decode cX12_find 99 = .ok (.iconst 3, 1) := by decide +kernel
theorem dX12_find_100 : decode cX12_find 100 = .ok (.iadd, 1) := by decide +kernel
theorem dX12_find_101 : decode cX12_find 101 = .ok (.iload 4, 2) := by decide +kernel
theorem dX12_find_103 : decode cX12_find 103 = .ok (.iastore, 1) := by decide +kernel
theorem dX12_find_104 : decode cX12_find 104 = .ok (.aload_n 0, 1) := by decide +kernel
theorem dX12_find_105 : decode cX12_find 105 = .ok (.getfield 44, 3) := by decide +kernel
theorem dX12_find_108 : decode cX12_find 108 = .ok (.iconst 5, 1) := by decide +kernel
theorem dX12_find_109 : decode cX12_find 109 = .ok (.iload 6, 2) := by decide +kernel
theorem dX12_find_111 : decode cX12_find 111 = .ok (.imul, 1) := by decide +kernel
theorem dX12_find_112 : decode cX12_find 112 = .ok (.iconst 4, 1) := by decide +kernel
theorem dX12_find_113 : decode cX12_find 113 = .ok (.iadd, 1) := by decide +kernel
theorem dX12_find_114 : decode cX12_find 114 = .ok (.iload 5, 2) := by decide +kernel
theorem dX12_find_116 : decode cX12_find 116 = .ok (.iastore, 1) := by decide +kernel
theorem dX12_find_117 : decode cX12_find 117 = .ok (.aload_n 0, 1) := by decide +kernel
theorem dX12_find_118 : decode cX12_find 118 = .ok (.dup, 1) := by decide +kernel
theorem dX12_find_119 : decode cX12_find 119 = .ok (.getfield 204, 3) := by decide +kernel
theorem dX12_find_122 : decode cX12_find 122 = .ok (.iconst 1, 1) := by decide +kernel
theorem dX12_find_123 : decode cX12_find 123 = .ok (.iadd, 1) := by decide +kernel
theorem dX12_find_124 : decode cX12_find 124 = .ok (.putfield 204, 3) := by decide +kernel
theorem dX12_find_127 : decode cX12_find 127 = .ok (.return_, 1) := by decide +kernel
set_option maxRecDepth 20000 in
theorem ggX12_find__X12_look : GoodIn wsX12_find_ wsX12_look := goodIn_r _ [10, 5, 11, 12, 13, 14, 15, 16, 9, 17, 43, 44, 45, 46, 47, 48, 49, 50, 51, 52, 53, 54, 55, 56, 57, 58, 59, 60, 61, 62, 63, 64, 65, 66, 67, 68, 69, 70, 71, 72, 73, 74, 75, 76, 77, 78, 79, 80, 81, 82, 83] (by decide +kernel) (by decide +kernel)
set_option maxRecDepth 20000 in
theorem gX12_find__X12_look : GoodIn wsX12_find_ (wsV RX12 207 RX12 yX12_look wsX12_look) := goodIn_app (goodIn_of _ (by decide +kernel)) ggX12_find__X12_look
set_option maxRecDepth 20000 in
theorem ggX12_find__X12_behind : GoodIn wsX12_find_ wsX12_behind := goodIn_r _ [21, 22, 23, 24, 5, 14, 18, 19, 20, 9, 25, 26, 27, 28, 43, 44, 45, 46, 47, 48, 49, 50, 51, 52, 53, 54, 55, 56, 57, 58, 59, 60, 61, 62, 63, 64, 65, 66, 67, 68, 69, 70, 71, 72, 73, 74, 75, 76, 77, 78, 79, 80, 81, 82, 83] (by decide +kernel) (by decide +kernel)
set_option maxRecDepth 20000 in
theorem gX12_find__X12_behind : GoodIn wsX12_find_ (wsV RX12 198 RX12 yX12_behind wsX12_behind) := goodIn_app (goodIn_of _ (by decide +kernel)) ggX12_find__X12_behind
set_option maxRecDepth 20000 in
theorem ggX12_find__J6_numberOfLeadingZeros_0f7a4 : GoodIn wsX12_find_ wsJ6_numberOfLeadingZeros_0f7a4 := goodIn_r _ [32, 33] (by decide +kernel) (by decide +kernel)
set_option maxRecDepth 20000 in
theorem gX12_find__J6_numberOfLeadingZeros_0f7a4 : GoodIn wsX12_find_ (va_wsS RX12 211 yJ6_numberOfLeadingZeros_0f7a4 wsJ6_numberOfLeadingZeros_0f7a4) := goodIn_app (goodIn_of _ (by decide +kernel)) ggX12_find__J6_numberOfLeadingZeros_0f7a4
set_option maxRecDepth 20000 in
theorem ggX12_find__X12_find : GoodIn wsX12_find_ wsX12_find := goodIn_r _ [37, 2, 38, 39, 40, 41, 42, 43, 44, 45, 46, 47, 48, 49, 50, 51, 52, 53, 54, 55, 56, 57, 58, 59, 60, 61, 62, 63, 64, 65, 66, 67, 68, 69, 70, 71, 72, 73, 74, 75, 76, 77, 78, 79, 80, 81, 82, 83] (by decide +kernel) (by decide +kernel)
set_option maxRecDepth 20000 in
theorem gX12_find__X12_find : GoodIn wsX12_find_ (wsV RX12 216 RX12 yX12_find wsX12_find) := goodIn_app (goodIn_of _ (by decide +kernel)) ggX12_find__X12_find
theorem dX12_find__0 : decode cX12_find_ 0 = .ok (.aload_n 0, 1) := by decide +kernel
theorem dX12_find__1 : decode cX12_find_ 1 = .ok (.iconst 0, 1) := by decide +kernel
theorem dX12_find__2 : decode cX12_find_ 2 = .ok (.putfield 87, 3) := by decide +kernel
theorem dX12_find__5 : decode cX12_find_ 5 = .ok (.iload_n 1, 1) := by decide +kernel
theorem dX12_find__6 : decode cX12_find_ 6 = .ok (.ifCond .lt 8, 3) := by decide +kernel
theorem dX12_find__9 : decode cX12_find_ 9 = .ok (.iload_n 1, 1) := by decide +kernel
theorem dX12_find__10 : decode cX12_find_ 10 = .ok (.iconst 4, 1) := by decide +kernel
theorem dX12_find__11 : decode cX12_find_ 11 = .ok (.if_icmp .le 6, 3) := by decide +kernel
theorem dX12_find__14 : decode cX12_find_ 14 = .ok (.bipush (-2), 2) := by decide +kernel
theorem dX12_find__16 : decode cX12_find_ 16 = .ok (.ireturn, 1) := by decide +kernel
theorem dX12_find__17 : decode cX12_find_ 17 = .ok (.aload_n 0, 1) := by decide +kernel
theorem dX12_find__18 : decode cX12_find_ 18 = .ok (.iconst 0, 1) := by decide +kernel
theorem dX12_find__19 : decode cX12_find_ 19 = .ok (.putfield 204, 3) := by decide +kernel
theorem dX12_find__22 : decode cX12_find_ 22 = .ok (.iconst 0, 1) := by decide +kernel
theorem dX12_find__23 : decode cX12_find_ 23 = .ok (.istore_n 2, 1) := by decide +kernel
theorem dX12_find__24 : decode cX12_find_ 24 = .ok (.iload_n 2, 1) := by decide +kernel
theorem dX12_find__25 : decode cX12_find_ 25 = .ok (.aload_n 0, 1) := by decide +kernel
theorem dX12_find__26 : decode cX12_find_ 26 = .ok (.getfield 90, 3) := by decide +kernel
theorem dX12_find__29 : decode cX12_find_ 29 = .ok (.if_icmp .ge 81, 3) := by decide +kernel
theorem dX12_find__32 : decode cX12_find_ 32 = .ok (.aload_n 0, 1) := by decide +kernel
theorem dX12_find__33 : decode cX12_find_ 33 = .ok (.getfield 37, 3) := by decide +kernel
theorem dX12_find__36 : decode cX12_find_ 36 = .ok (.iconst (-1), 1) := by decide +kernel
theorem dX12_find__37 : decode cX12_find_ 37 = .ok (.if_icmp .eq 73, 3) := by decide +kernel
theorem dX12_find__40 : decode cX12_find_ 40 = .ok (.aload_n 0, 1) := by decide +kernel
theorem dX12_find__41 : decode cX12_find_ 41 = .ok (.iload_n 2, 1) := by decide +kernel
theorem dX12_find__42 : decode cX12_find_ 42 = .ok (.iload_n 1, 1) := by decide +kernel
theorem dX12_find__43 : decode cX12_find_ 43 = .ok (.invokevirtual 207, 3) := by decide +kernel
theorem dX12_find__46 : decode cX12_find_ 46 = .ok (.iconst 0, 1) := by decide +kernel
theorem dX12_find__47 : decode cX12_find_ 47 = .ok (.istore_n 3, 1) := by decide +kernel
theorem dX12_find__48 : decode cX12_find_ 48 = .ok (.iload_n 3, 1) := by decide +kernel
theorem dX12_find__49 : decode cX12_find_ 49 = .ok (.aload_n 0, 1) := by decide +kernel
theorem dX12_find__50 : decode cX12_find_ 50 = .ok (.getfield 191, 3) := by decide +kernel
theorem dX12_find__53 : decode cX12_find_ 53 = .ok (.if_icmp .ge 51, 3) := by decide +kernel
theorem dX12_find__56 : decode cX12_find_ 56 = .ok (.aload_n 0, 1) := by decide +kernel
theorem dX12_find__57 : decode cX12_find_ 57 = .ok (.aload_n 0, 1) := by decide +kernel
theorem dX12_find__58 : decode cX12_find_ 58 = .ok (.getfield 37, 3) := by decide +kernel
theorem dX12_find__61 : decode cX12_find_ 61 = .ok (.iconst 1, 1) := by decide +kernel
theorem dX12_find__62 : decode cX12_find_ 62 = .ok (.iload_n 3, 1) := by decide +kernel
theorem dX12_find__63 : decode cX12_find_ 63 = .ok (.ishl, 1) := by decide +kernel
theorem dX12_find__64 : decode cX12_find_ 64 = .ok (.invokevirtual 198, 3) := by decide +kernel
theorem dX12_find__67 : decode cX12_find_ 67 = .ok (.iconst 1, 1) := by decide +kernel
theorem dX12_find__68 : decode cX12_find_ 68 = .ok (.iload_n 3, 1) := by decide +kernel
theorem dX12_find__69 : decode cX12_find_ 69 = .ok (.ishl, 1) := by decide +kernel
theorem dX12_find__70 : decode cX12_find_ 70 = .ok (.iconst (-1), 1) := by decide +kernel
theorem dX12_find__71 : decode cX12_find_ 71 = .ok (.ixor, 1) := by decide +kernel
theorem dX12_find__72 : decode cX12_find_ 72 = .ok (.iand, 1) := by decide +kernel
theorem dX12_find__73 : decode cX12_find_ 73 = .ok (.istore 4, 2) := by decide +kernel
theorem dX12_find__75 : decode cX12_find_ 75 = .ok (.iload 4, 2) := by decide +kernel
theorem dX12_find__77 : decode cX12_find_ 77 = .ok (.ifCond .eq 21, 3) := by decide +kernel
theorem dX12_find__80 : decode cX12_find_ 80 = .ok (.aload_n 0, 1) := by decide +kernel
theorem dX12_find__81 : decode cX12_find_ 81 = .ok (.iload_n 2, 1) := by decide +kernel
theorem dX12_find__82 : decode cX12_find_ 82 = .ok (.iload_n 3, 1) := by decide +kernel
theorem dX12_find__83 : decode cX12_find_ 83 = .ok (.bipush 31, 2) := by decide +kernel
theorem dX12_find__85 : decode cX12_find_ 85 = .ok (.iload 4, 2) := by decide +kernel
theorem dX12_find__87 : decode cX12_find_ 87 = .ok (.invokestatic 211, 3) := by decide +kernel
theorem dX12_find__90 : decode cX12_find_ 90 = .ok (.isub, 1) := by decide +kernel
theorem dX12_find__91 : decode cX12_find_ 91 = .ok (.iload_n 3, 1) := by decide +kernel
theorem dX12_find__92 : decode cX12_find_ 92 = .ok (.isub, 1) := by decide +kernel
theorem dX12_find__93 : decode cX12_find_ 93 = .ok (.iconst 0, 1) := by decide +kernel
theorem dX12_find__94 : decode cX12_find_ 94 = .ok (.iconst 0, 1) := by decide +kernel
theorem dX12_find__95 : decode cX12_find_ 95 = .ok (.invokevirtual 216, 3) := by decide +kernel
theorem dX12_find__98 : decode cX12_find_ 98 = .ok (.iinc 3 1, 3) := by decide +kernel
theorem dX12_find__101 : decode cX12_find_ 101 = .ok (.goto (-53), 3) := by decide +kernel
theorem dX12_find__104 : decode cX12_find_ 104 = .ok (.iinc 2 1, 3) := by decide +kernel
theorem dX12_find__107 : decode cX12_find_ 107 = .ok (.goto (-83), 3) := by decide +kernel
theorem dX12_find__110 : decode cX12_find_ 110 = .ok (.aload_n 0, 1) := by decide +kernel
theorem dX12_find__111 : decode cX12_find_ 111 = .ok (.getfield 204, 3) := by decide +kernel
theorem dX12_find__114 : decode cX12_find_ 114 = .ok (.ireturn, 1) := by decide +kernel
