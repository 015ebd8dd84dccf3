theorem dX6_set_0 : decode cX6_set 0 = .ok (.aload_n 0, 1) := by decide +kernel
theorem dX6_set_1 : decode cX6_set 1 = .ok (.iconst 0, 1) := by decide +kernel
theorem dX6_set_2 : decode cX6_set 2 = .ok (.putfield 38, 3) := by decide +kernel
theorem dX6_set_5 : decode cX6_set 5 = .ok (.iload_n 1, 1) := by decide +kernel
theorem dX6_set_6 : decode cX6_set 6 = .ok (.i2l, 1) := by decide +kernel
theorem dX6_set_7 : decode cX6_set 7 = .ok (.iconst 0, 1) := by decide +kernel
theorem dX6_set_8 : decode cX6_set 8 = .ok (.aload_n 0, 1) := by decide +kernel
theorem dX6_set_9 : decode cX6_set 9 = .ok (.getfield 47, 3) := by decide +kernel
theorem dX6_set_12 : decode cX6_set 12 = .ok (.iconst 1, 1) := by decide +kernel
theorem dX6_set_13 : decode cX6_set 13 = .ok (.isub, 1) := by decide +kernel
theorem dX6_set_14 : decode cX6_set 14 = .ok (.invokestatic 43, 3) := by decide +kernel
theorem dX6_set_17 : decode cX6_set 17 = .ok (.ifCond .ne 9, 3) := by decide +kernel
theorem dX6_set_20 : decode cX6_set 20 = .ok (.aload_n 0, 1) := by decide +kernel
theorem dX6_set_21 : decode cX6_set 21 = .ok (.iconst 1, 1) := by decide +kernel
theorem dX6_set_22 : decode cX6_set 22 = .ok (.invokevirtual 54, 3) := by decide +kernel
theorem dX6_set_25 : decode cX6_set 25 = .ok (.ireturn, 1) := by decide +kernel
theorem dX6_set_26 : decode cX6_set 26 = .ok (.iload_n 2, 1) := by decide +kernel
theorem dX6_set_27 : decode cX6_set 27 = .ok (.i2l, 1) := by decide +kernel
theorem dX6_set_28 : decode cX6_set 28 = .ok (.invokestatic 50, 3) := by decide +kernel
theorem dX6_set_31 : decode cX6_set 31 = .ok (.ifCond .ne 9, 3) := by decide +kernel
theorem dX6_set_34 : decode cX6_set 34 = .ok (.aload_n 0, 1) := by decide +kernel
theorem dX6_set_35 : decode cX6_set 35 = .ok (.iconst 2, 1) := by decide +kernel
theorem dX6_set_36 : decode cX6_set 36 = .ok (.invokevirtual 54, 3) := by decide +kernel
theorem dX6_set_39 : decode cX6_set 39 = .ok (.ireturn, 1) := by decide +kernel
theorem dX6_set_40 : decode cX6_set 40 = .ok (.aload_n 0, 1) := by decide +kernel
theorem dX6_set_41 : decode cX6_set 41 = .ok (.getfield 9, 3) := by decide +kernel
theorem dX6_set_44 : decode cX6_set 44 = .ok (.iload_n 1, 1) := by decide +kernel
theorem dX6_set_45 : decode cX6_set 45 = .ok (.iaload, 1) := by decide +kernel
theorem dX6_set_46 : decode cX6_set 46 = .ok (.istore_n 3, 1) := by decide +kernel
theorem dX6_set_47 : decode cX6_set 47 = .ok (.aload_n 0, 1) := by decide +kernel
theorem dX6_set_48 : decode cX6_set 48 = .ok (.getfield 9, 3) := by decide +kernel
theorem dX6_set_51 : decode cX6_set 51 = .ok (.iload_n 1, 1) := by decide +kernel
theorem dX6_set_52 : decode cX6_set 52 = .ok (.iload_n 2, 1) := by decide +kernel
theorem dX6_set_53 : decode cX6_set 53 = .ok (.iastore, 1) := by decide +kernel
theorem dX6_set_54 : decode cX6_set 54 = .ok (.aload_n 0, 1) := by decide +kernel
theorem dX6_set_55 : decode cX6_set 55 = .ok (.getfield 17, 3) := by decide +kernel
theorem dX6_set_58 : decode cX6_set 58 = .ok (.iload_n 1, 1) := by decide +kernel
theorem dX6_set_59 : decode cX6_set 59 = .ok (.aload_n 0, 1) := by decide +kernel
theorem dX6_set_60 : decode cX6_set 60 = .ok (.getfield 13, 3) := by decide +kernel
theorem dX6_set_63 : decode cX6_set 63 = .ok (.idiv, 1) := by decide +kernel
theorem dX6_set_64 : decode cX6_set 64 = .ok (.iconst 0, 1) := by decide +kernel
theorem dX6_set_65 : decode cX6_set 65 = .ok (.iastore, 1) := by decide +kernel
theorem dX6_set_66 : decode cX6_set 66 = .ok (.iload_n 3, 1) := by decide +kernel
theorem dX6_set_67 : decode cX6_set 67 = .ok (.ireturn, 1) := by decide +kernel
set_option maxRecDepth 20000 in
theorem ggX6_cut_X6_isIn : GoodIn wsX6_cut wsX6_isIn := goodIn_r _ [6] (by decide +kernel) (by decide +kernel)
set_option maxRecDepth 20000 in
theorem gX6_cut_X6_isIn : GoodIn wsX6_cut (va_wsS RX6 43 yX6_isIn wsX6_isIn) := goodIn_app (goodIn_of _ (by decide +kernel)) ggX6_cut_X6_isIn
set_option maxRecDepth 20000 in
theorem ggX6_cut_X6_fail : GoodIn wsX6_cut wsX6_fail := goodIn_r _ [10, 1, 17, 18, 19, 20, 21, 22, 23, 24, 25, 26, 27, 28, 29, 30, 31] (by decide +kernel) (by decide +kernel)
set_option maxRecDepth 20000 in
theorem gX6_cut_X6_fail : GoodIn wsX6_cut (wsV RX6 54 RX6 yX6_fail wsX6_fail) := goodIn_app (goodIn_of _ (by decide +kernel)) ggX6_cut_X6_fail
set_option maxRecDepth 20000 in
theorem ggX6_cut_X6_changed : GoodIn wsX6_cut wsX6_changed := goodIn_r _ [14, 15, 16, 2, 17, 18, 19, 20, 21, 22, 23, 24, 25, 26, 27, 28, 29, 30, 31] (by decide +kernel) (by decide +kernel)
set_option maxRecDepth 20000 in
theorem gX6_cut_X6_changed : GoodIn wsX6_cut (wsV RX6 58 RX6 yX6_changed wsX6_changed) := goodIn_app (goodIn_of _ (by decide +kernel)) ggX6_cut_X6_changed
theorem dX6_cut_0 : decode cX6_cut 0 = .ok (.aload_n 0, 1) := by decide +kernel
theorem dX6_cut_1 : decode cX6_cut 1 = .ok (.iconst 0, 1) := by decide +kernel
theorem dX6_cut_2 : decode cX6_cut 2 = .ok (.putfield 38, 3) := by decide +kernel
theorem dX6_cut_5 : decode cX6_cut 5 = .ok (.iload_n 1, 1) := by decide +kernel
theorem dX6_cut_6 : decode cX6_cut 6 = .ok (.i2l, 1) := by decide +kernel
theorem dX6_cut_7 : decode cX6_cut 7 = .ok (.iconst 0, 1) := by decide +kernel
theorem dX6_cut_8 : decode cX6_cut 8 = .ok (.aload_n 0, 1) := by decide +kernel
theorem dX6_cut_9 : decode cX6_cut 9 = .ok (.getfield 47, 3) := by decide +kernel
theorem dX6_cut_12 : decode cX6_cut 12 = .ok (.invokestatic 43, 3) := by decide +kernel
theorem dX6_cut_15 : decode cX6_cut 15 = .ok (.ifCond .ne 9, 3) := by decide +kernel
theorem dX6_cut_18 : decode cX6_cut 18 = .ok (.aload_n 0, 1) := by decide +kernel
theorem dX6_cut_19 : decode cX6_cut 19 = .ok (.iconst 1, 1) := by decide +kernel
theorem dX6_cut_20 : decode cX6_cut 20 = .ok (.invokevirtual 54, 3) := by decide +kernel
theorem dX6_cut_23 : decode cX6_cut 23 = .ok (.ireturn, 1) := by decide +kernel
theorem dX6_cut_24 : decode cX6_cut 24 = .ok (.iload_n 1, 1) := by decide +kernel
theorem dX6_cut_25 : decode cX6_cut 25 = .ok (.ifCond .le 19, 3) := by decide +kernel
theorem dX6_cut_28 : decode cX6_cut 28 = .ok (.aload_n 0, 1) := by decide +kernel
theorem dX6_cut_29 : decode cX6_cut 29 = .ok (.aload_n 0, 1) := by decide +kernel
theorem dX6_cut_30 : decode cX6_cut 30 = .ok (.getfield 47, 3) := by decide +kernel
theorem dX6_cut_33 : decode cX6_cut 33 = .ok (.iload_n 1, 1) := by decide +kernel
theorem dX6_cut_34 : decode cX6_cut 34 = .ok (.isub, 1) := by decide +kernel
theorem dX6_cut_35 : decode cX6_cut 35 = .ok (.aload_n 0, 1) := by decide +kernel
theorem dX6_cut_36 : decode cX6_cut 36 = .ok (.getfield 47, 3) := by decide +kernel
theorem dX6_cut_39 : decode cX6_cut 39 = .ok (.iload_n 1, 1) := by decide +kernel
theorem dX6_cut_40 : decode cX6_cut 40 = .ok (.isub, 1) := by decide +kernel
theorem dX6_cut_41 : decode cX6_cut 41 = .ok (.invokevirtual 58, 3) := by decide +kernel
theorem dX6_cut_44 : decode cX6_cut 44 = .ok (.aload_n 0, 1) := by decide +kernel
theorem dX6_cut_45 : decode cX6_cut 45 = .ok (.getfield 47, 3) := by decide +kernel
theorem dX6_cut_48 : decode cX6_cut 48 = .ok (.ireturn, 1) := by decide +kernel
theorem dX6_rows_0 : decode cX6_rows 0 = .ok (.aload_n 0, 1) := by decide +kernel
theorem dX6_rows_1 : decode cX6_rows 1 = .ok (.iconst 0, 1) := by decide +kernel
theorem dX6_rows_2 : decode cX6_rows 2 = .ok (.putfield 38, 3) := by decide +kernel
theorem dX6_rows_5 : decode cX6_rows 5 = .ok (.aload_n 0, 1) := by decide +kernel
theorem dX6_rows_6 : decode cX6_rows 6 = .ok (.getfield 47, 3) := by decide +kernel
theorem dX6_rows_9 : decode cX6_rows 9 = .ok (.ireturn, 1) := by decide +kernel
set_option maxRecDepth 20000 in
theorem ggX6_value_X6_isIn : GoodIn wsX6_value wsX6_isIn := goodIn_r _ [7] (by decide +kernel) (by decide +kernel)
set_option maxRecDepth 20000 in
theorem gX6_value_X6_isIn : GoodIn wsX6_value (va_wsS RX6 43 yX6_isIn wsX6_isIn) := goodIn_app (goodIn_of _ (by decide +kernel)) ggX6_value_X6_isIn
set_option maxRecDepth 20000 in
theorem ggX6_value_X6_fail : GoodIn wsX6_value wsX6_fail := goodIn_r _ [11, 1, 12, 13, 14, 15, 16, 17, 18, 19, 20, 21, 22, 23, 24, 25, 26] (by decide +kernel) (by decide +kernel)
set_option maxRecDepth 20000 in
theorem gX6_value_X6_fail : GoodIn wsX6_value (wsV RX6 54 RX6 yX6_fail wsX6_fail) := goodIn_app (goodIn_of _ (by decide +kernel)) ggX6_value_X6_fail
theorem dX6_value_0 : decode cX6_value 0 = .ok (.aload_n 0, 1) := by decide +kernel
theorem dX6_value_1 : decode cX6_value 1 = .ok (.iconst 0, 1) := by decide +kernel
theorem dX6_value_2 : decode cX6_value 2 = .ok (.putfield 38, 3) := by decide +kernel
theorem dX6_value_5 : decode cX6_value 5 = .ok (.iload_n 1, 1) := by decide +kernel
theorem dX6_value_6 : decode cX6_value 6 = .ok (.i2l, 1) := by decide +kernel
theorem dX6_value_7 : decode cX6_value 7 = .ok (.iconst 0, 1) := by decide +kernel
theorem dX6_value_8 : decode cX6_value 8 = .ok (.aload_n 0, 1) := by decide +kernel
theorem dX6_value_9 : decode cX6_value 9 = .ok (.getfield 47, 3) := by decide +kernel
theorem dX6_value_12 : decode cX6_value 12 = .ok (.iconst 1, 1) := by decide +kernel
theorem dX6_value_13 : decode cX6_value 13 = .ok (.isub, 1) := by decide +kernel
theorem dX6_value_14 : decode cX6_value 14 = .ok (.invokestatic 43, 3) := by decide +kernel
theorem dX6_value_17 : decode cX6_value 17 = .ok (.ifCond .eq 12, 3) := by decide +kernel
theorem dX6_value_20 : decode cX6_value 20 = .ok (.aload_n 0, 1) := by decide +kernel
theorem dX6_value_21 : decode cX6_value 21 = .ok (.getfield 9, 3) := by decide +kernel
theorem dX6_value_24 : decode cX6_value 24 = .ok (.iload_n 1, 1) := by decide +kernel
theorem dX6_value_25 : decode cX6_value 25 = .ok (.iaload, 1) := by decide +kernel
theorem dX6_value_26 : decode cX6_value 26 = .ok (.goto 8, 3) := by decide +kernel
theorem dX6_value_29 : decode cX6_value 29 = .ok (.aload_n 0, 1) := by decide +kernel
theorem dX6_value_30 : decode cX6_value 30 = .ok (.iconst 1, 1) := by decide +kernel
theorem dX6_value_31 : decode cX6_value 31 = .ok (.invokevirtual 54, 3) := by decide +kernel
theorem dX6_value_34 : decode cX6_value 34 = .ok (.ireturn, 1) := by decide +kernel
set_option maxRecDepth 20000 in
theorem ggX6_setSegmentSize_X6_isIn : GoodIn wsX6_setSegmentSize wsX6_isIn := goodIn_r _ [7] (by decide +kernel) (by decide +kernel)
set_option maxRecDepth 20000 in
theorem gX6_setSegmentSize_X6_isIn : GoodIn wsX6_setSegmentSize (va_wsS RX6 43 yX6_isIn wsX6_isIn) := goodIn_app (goodIn_of _ (by decide +kernel)) ggX6_setSegmentSize_X6_isIn
set_option maxRecDepth 20000 in
theorem ggX6_setSegmentSize_X6_fail : GoodIn wsX6_setSegmentSize wsX6_fail := goodIn_r _ [11, 1, 17, 18, 19, 20, 21, 22, 23, 24, 25, 26, 27, 28, 29, 30, 31] (by decide +kernel) (by decide +kernel)
set_option maxRecDepth 20000 in
theorem gX6_setSegmentSize_X6_fail : GoodIn wsX6_setSegmentSize (wsV RX6 54 RX6 yX6_fail wsX6_fail) := goodIn_app (goodIn_of _ (by decide +kernel)) ggX6_setSegmentSize_X6_fail
set_option maxRecDepth 20000 in
theorem ggX6_setSegmentSize_X6_changed : GoodIn wsX6_setSegmentSize wsX6_changed := goodIn_r _ [15, 2, 16, 3, 17, 18, 19, 20, 21, 22, 23, 24, 25, 26, 27, 28, 29, 30, 31] (by decide +kernel) (by decide +kernel)
set_option maxRecDepth 20000 in
theorem gX6_setSegmentSize_X6_changed : GoodIn wsX6_setSegmentSize (wsV RX6 58 RX6 yX6_changed wsX6_changed) := goodIn_app (goodIn_of _ (by decide +kernel)) ggX6_setSegmentSize_X6_changed
theorem dX6_setSegmentSize_0 : decode cX6_setSegmentSize 0 = .ok (.aload_n 0, 1) := by decide +kernel
theorem dX6_setSegmentSize_1 : decode cX6_setSegmentSize 1 = .ok (.iconst 0, 1) := by decide +kernel
theorem dX6_setSegmentSize_2 : decode cX6_setSegmentSize 2 = .ok (.putfield 38, 3) := by decide +kernel
theorem dX6_setSegmentSize_5 : decode cX6_setSegmentSize 5 = .ok (.iload_n 1, 1) := by decide +kernel
theorem dX6_setSegmentSize_6 : decode cX6_setSegmentSize 6 = .ok (.i2l, 1) := by decide +kernel
theorem dX6_setSegmentSize_7 : decode cX6_setSegmentSize 7 = .ok (.iconst 4, 1) := by decide +kernel
theorem dX6_setSegmentSize_8 : decode cX6_setSegmentSize 8 = .ok (.bipush 32, 2) := by decide +kernel
theorem dX6_setSegmentSize_10 : decode cX6_setSegmentSize 10 = .ok (.invokestatic 43, 3) := by decide +kernel
theorem dX6_setSegmentSize_13 : decode cX6_setSegmentSize 13 = .ok (.ifCond .ne 9, 3) := by decide +kernel
theorem dX6_setSegmentSize_16 : decode cX6_setSegmentSize 16 = .ok (.aload_n 0, 1) := by decide +kernel
theorem dX6_setSegmentSize_17 : decode cX6_setSegmentSize 17 = .ok (.iconst 1, 1) := by decide +kernel
theorem dX6_setSegmentSize_18 : decode cX6_setSegmentSize 18 = .ok (.invokevirtual 54, 3) := by decide +kernel
theorem dX6_setSegmentSize_21 : decode cX6_setSegmentSize 21 = .ok (.ireturn, 1) := by decide +kernel
theorem dX6_setSegmentSize_22 : decode cX6_setSegmentSize 22 = .ok (.aload_n 0, 1) := by decide +kernel
theorem dX6_setSegmentSize_23 : decode cX6_setSegmentSize 23 = .ok (.getfield 13, 3) := by decide +kernel
theorem dX6_setSegmentSize_26 : decode cX6_setSegmentSize 26 = .ok (.istore_n 2, 1) := by decide +kernel
theorem dX6_setSegmentSize_27 : decode cX6_setSegmentSize 27 = .ok (.aload_n 0, 1) := by decide +kernel
theorem dX6_setSegmentSize_28 : decode cX6_setSegmentSize 28 = .ok (.iload_n 1, 1) := by decide +kernel
theorem dX6_setSegmentSize_29 : decode cX6_setSegmentSize 29 = .ok (.putfield 13, 3) := by decide +kernel
theorem dX6_setSegmentSize_32 : decode cX6_setSegmentSize 32 = .ok (.iload_n 2, 1) := by decide +kernel
theorem dX6_setSegmentSize_33 : decode cX6_setSegmentSize 33 = .ok (.iload_n 1, 1) := by decide +kernel
theorem dX6_setSegmentSize_34 : decode cX6_setSegmentSize 34 = .ok (.if_icmp .eq 12, 3) := by decide +kernel
theorem dX6_setSegmentSize_37 : decode cX6_setSegmentSize 37 = .ok (.aload_n 0, 1) := by decide +kernel
theorem dX6_setSegmentSize_38 : decode cX6_setSegmentSize 38 = .ok (.iconst 0, 1) := by decide +kernel
theorem dX6_setSegmentSize_39 : decode cX6_setSegmentSize 39 = .ok (.aload_n 0, 1) := by decide +kernel
theorem dX6_setSegmentSize_40 : decode cX6_setSegmentSize 40 = .ok (.getfield 47, 3) := by decide +kernel
theorem dX6_setSegmentSize_43 : decode cX6_setSegmentSize 43 = .ok (.invokevirtual 58, 3) := by decide +kernel
theorem dX6_setSegmentSize_46 : decode cX6_setSegmentSize 46 = .ok (.iload_n 2, 1) := by decide +kernel
theorem dX6_setSegmentSize_47 : decode cX6_setSegmentSize 47 = .ok (.ireturn, 1) := by decide +kernel
theorem dX6_segments_0 : decode cX6_segments 0 = .ok (.aload_n 0, 1) := by decide +kernel
theorem dX6_segments_1 : decode cX6_segments 1 = .ok (.getfield 47, 3) := by decide +kernel
theorem dX6_segments_4 : decode cX6_segments 4 = .ok (.iload_n 1, 1) := by decide +kernel
theorem dX6_segments_5 : decode cX6_segments 5 = .ok (.iadd, 1) := by decide +kernel
theorem dX6_segments_6 : decode cX6_segments 6 = .ok (.iconst 1, 1) := by decide +kernel
theorem dX6_segments_7 : decode cX6_segments 7 = .ok (.isub, 1) := by decide +kernel
theorem dX6_segments_8 : decode cX6_segments 8 = .ok (.iload_n 1, 1) := by decide +kernel
theorem dX6_segments_9 : decode cX6_segments 9 = .ok (.idiv, 1) := by decide +kernel
theorem dX6_segments_10 : decode cX6_segments 10 = .ok (.ireturn, 1) := by decide +kernel
set_option maxRecDepth 20000 in
theorem ggX6_segmentCount_X6_segments : GoodIn wsX6_segmentCount wsX6_segments := goodIn_r _ [7, 8, 9, 10, 11, 12, 13, 14, 15, 16, 17, 18, 19, 20, 21, 22, 23] (by decide +kernel) (by decide +kernel)
set_option maxRecDepth 20000 in
theorem gX6_segmentCount_X6_segments : GoodIn wsX6_segmentCount (wsV RX6 62 RX6 yX6_segments wsX6_segments) := goodIn_app (goodIn_of _ (by decide +kernel)) ggX6_segmentCount_X6_segments
theorem dX6_segmentCount_0 : decode cX6_segmentCount 0 = .ok (.aload_n 0, 1) := by decide +kernel
theorem dX6_segmentCount_1 : decode cX6_segmentCount 1 = .ok (.iconst 0, 1) := by decide +kernel
theorem dX6_segmentCount_2 : decode cX6_segmentCount 2 = .ok (.putfield 38, 3) := by decide +kernel
theorem dX6_segmentCount_5 : decode cX6_segmentCount 5 = .ok (.aload_n 0, 1) := by decide +kernel
theorem dX6_segmentCount_6 : decode cX6_segmentCount 6 = .ok (.aload_n 0, 1) := by decide +kernel
theorem dX6_segmentCount_7 : decode cX6_segmentCount 7 = .ok (.getfield 13, 3) := by decide +kernel
theorem dX6_segmentCount_10 : decode cX6_segmentCount 10 = .ok (.invokevirtual 62, 3) := by decide +kernel
theorem dX6_segmentCount_13 : decode cX6_segmentCount 13 = .ok (.ireturn, 1) := by decide +kernel
set_option maxRecDepth 20000 in
theorem ggX6_addQuery_X6_isIn : GoodIn wsX6_addQuery wsX6_isIn := goodIn_r _ [10] (by decide +kernel) (by decide +kernel)
set_option maxRecDepth 20000 in
theorem gX6_addQuery_X6_isIn : GoodIn wsX6_addQuery (va_wsS RX6 43 yX6_isIn wsX6_isIn) := goodIn_app (goodIn_of _ (by decide +kernel)) ggX6_addQuery_X6_isIn
set_option maxRecDepth 20000 in
theorem ggX6_addQuery_X6_isValue : GoodIn wsX6_addQuery wsX6_isValue := goodIn_r _ [13, 14, 15, 7, 8, 9, 10] (by decide +kernel) (by decide +kernel)
set_option maxRecDepth 20000 in
theorem gX6_addQuery_X6_isValue : GoodIn wsX6_addQuery (va_wsS RX6 50 yX6_isValue wsX6_isValue) := goodIn_app (goodIn_of _ (by decide +kernel)) ggX6_addQuery_X6_isValue
set_option maxRecDepth 20000 in
theorem ggX6_addQuery_X6_fail : GoodIn wsX6_addQuery wsX6_fail := goodIn_r _ [19, 1, 20, 21, 22, 23, 24, 25, 26, 27, 28, 29, 30, 31, 32, 33, 34] (by decide +kernel) (by decide +kernel)
set_option maxRecDepth 20000 in
theorem gX6_addQuery_X6_fail : GoodIn wsX6_addQuery (wsV RX6 54 RX6 yX6_fail wsX6_fail) := goodIn_app (goodIn_of _ (by decide +kernel)) ggX6_addQuery_X6_fail
theorem dX6_addQuery_0 : decode cX6_addQuery 0 = .ok (.aload_n 0, 1) := by decide +kernel
theorem dX6_addQuery_1 : decode cX6_addQuery 1 = .ok (.iconst 0, 1) := by decide +kernel
theorem dX6_addQuery_2 : decode cX6_addQuery 2 = .ok (.putfield 38, 3) := by decide +kernel
theorem dX6_addQuery_5 : decode cX6_addQuery 5 = .ok (.iload_n 1, 1) := by decide +kernel
theorem dX6_addQuery_6 : decode cX6_addQuery 6 = .ok (.ifCond .ne 14, 3) := by decide +kernel
theorem dX6_addQuery_9 : decode cX6_addQuery 9 = .ok (.iload_n 2, 1) := by decide +kernel
theorem dX6_addQuery_10 : decode cX6_addQuery 10 = .ok (.i2l, 1) := by decide +kernel
theorem dX6_addQuery_11 : decode cX6_addQuery 11 = .ok (.iconst 0, 1) := by decide +kernel
theorem dX6_addQuery_12 : decode cX6_addQuery 12 = .ok (.bipush 95, 2) := by decide +kernel
theorem dX6_addQuery_14 : decode cX6_addQuery 14 = .ok (.invokestatic 43, 3) := by decide +kernel
theorem dX6_addQuery_17 : decode cX6_addQuery 17 = .ok (.goto 49, 3) := by decide +kernel
theorem dX6_addQuery_20 : decode cX6_addQuery 20 = .ok (.iload_n 1, 1) := by decide +kernel
theorem dX6_addQuery_21 : decode cX6_addQuery 21 = .ok (.iconst 1, 1) := by decide +kernel
theorem dX6_addQuery_22 : decode cX6_addQuery 22 = .ok (.if_icmp .ne 26, 3) := by decide +kernel
theorem dX6_addQuery_25 : decode cX6_addQuery 25 = .ok (.iload_n 2, 1) := by decide +kernel
theorem dX6_addQuery_26 : decode cX6_addQuery 26 = .ok (.ifCond .lt 18, 3) := by decide +kernel
theorem dX6_addQuery_29 : decode cX6_addQuery 29 = .ok (.iload_n 3, 1) := by decide +kernel
theorem dX6_addQuery_30 : decode cX6_addQuery 30 = .ok (.bipush 96, 2) := by decide +kernel
theorem dX6_addQuery_32 : decode cX6_addQuery 32 = .ok (.if_icmp .gt 12, 3) := by decide +kernel
theorem dX6_addQuery_35 : decode cX6_addQuery 35 = .ok (.iload_n 2, 1) := by decide +kernel
theorem dX6_addQuery_36 : decode cX6_addQuery 36 = .ok (.iload_n 3, 1) := by decide +kernel
theorem dX6_addQuery_37 : decode cX6_addQuery 37 = .ok (.if_icmp .ge 7, 3) := by decide +kernel
theorem dX6_addQuery_40 : decode cX6_addQuery 40 = .ok (.iconst 1, 1) := by decide +kernel
theorem dX6_addQuery_41 : decode cX6_addQuery 41 = .ok (.goto 25, 3) := by decide +kernel
theorem dX6_addQuery_44 : decode cX6_addQuery 44 = .ok (.iconst 0, 1) := by decide +kernel
theorem dX6_addQuery_45 : decode cX6_addQuery 45 = .ok (.goto 21, 3) := by decide +kernel
theorem dX6_addQuery_48 : decode cX6_addQuery 48 = .ok (.iload_n 1, 1) := by decide +kernel
theorem dX6_addQuery_49 : decode cX6_addQuery 49 = .ok (.iconst 2, 1) := by decide +kernel
theorem dX6_addQuery_50 : decode cX6_addQuery 50 = .ok (.if_icmp .ne 15, 3) := by decide +kernel
theorem dX6_addQuery_53 : decode cX6_addQuery 53 = .ok (.iload_n 2, 1) := by decide +kernel
theorem dX6_addQuery_54 : decode cX6_addQuery 54 = .ok (.i2l, 1) := by decide +kernel
theorem dX6_addQuery_55 : decode cX6_addQuery 55 = .ok (.invokestatic 50, 3) := by decide +kernel
theorem dX6_addQuery_58 : decode cX6_addQuery 58 = .ok (.ifCond .eq 7, 3) := by decide +kernel
theorem dX6_addQuery_61 : decode cX6_addQuery 61 = .ok (.iconst 1, 1) := by decide +kernel
theorem dX6_addQuery_62 : decode cX6_addQuery 62 = .ok (.goto 4, 3) := by decide +kernel
theorem dX6_addQuery_65 : decode cX6_addQuery 65 = .ok (.iconst 0, 1) := by decide +kernel
theorem dX6_addQuery_66 : decode cX6_addQuery 66 = .ok (.istore 5, 2) := by decide +kernel
theorem dX6_addQuery_68 : decode cX6_addQuery 68 = .ok (.iload 5, 2) := by decide +kernel
theorem dX6_addQuery_70 : decode cX6_addQuery 70 = .ok (.ifCond .eq 15, 3) := by decide +kernel
theorem dX6_addQuery_73 : decode cX6_addQuery 73 = .ok (.iload 4, 2) := by decide +kernel
theorem dX6_addQuery_75 : decode cX6_addQuery 75 = .ok (.i2l, 1) := by decide +kernel
theorem dX6_addQuery_76 : decode cX6_addQuery 76 = .ok (.iconst 1, 1) := by decide +kernel
theorem dX6_addQuery_77 : decode cX6_addQuery 77 = .ok (.bipush 100, 2) := by decide +kernel
theorem dX6_addQuery_79 : decode cX6_addQuery 79 = .ok (.invokestatic 43, 3) := by decide +kernel
theorem dX6_addQuery_82 : decode cX6_addQuery 82 = .ok (.ifCond .ne 9, 3) := by decide +kernel
theorem dX6_addQuery_85 : decode cX6_addQuery 85 = .ok (.aload_n 0, 1) := by decide +kernel
theorem dX6_addQuery_86 : decode cX6_addQuery 86 = .ok (.iconst 1, 1) := by decide +kernel
theorem dX6_addQuery_87 : decode cX6_addQuery 87 = .ok (.invokevirtual 54, 3) := by decide +kernel
theorem dX6_addQuery_90 : decode cX6_addQuery 90 = .ok (.ireturn, 1) := by decide +kernel
theorem dX6_addQuery_91 : decode cX6_addQuery 91 = .ok (.aload_n 0, 1) := by decide +kernel
theorem dX6_addQuery_92 : decode cX6_addQuery 92 = .ok (.getfield 65, 3) := by decide +kernel
theorem dX6_addQuery_95 : decode cX6_addQuery 95 = .ok (.bipush 20, 2) := by decide +kernel
theorem dX6_addQuery_97 : decode cX6_addQuery 97 = .ok (.if_icmp .ne 9, 3) := by decide +kernel
theorem dX6_addQuery_100 : decode cX6_addQuery 100 = .ok (.aload_n 0, 1) := by decide +kernel
theorem dX6_addQuery_101 : decode cX6_addQuery 101 = .ok (.iconst 2, 1) := by decide +kernel
theorem dX6_addQuery_102 : decode cX6_addQuery 102 = .ok (.invokevirtual 54, 3) := by decide +kernel
theorem dX6_addQuery_105 : decode cX6_addQuery 105 = .ok (.ireturn, 1) := by decide +kernel
theorem dX6_addQuery_106 : decode cX6_addQuery 106 = .ok (.aload_n 0, 1) := by decide +kernel
theorem dX6_addQuery_107 : decode cX6_addQuery 107 = .ok (.getfield 23, 3) := by decide +kernel
theorem dX6_addQuery_110 : decode cX6_addQuery 110 = .ok (.aload_n 0, 1) := by decide +kernel
theorem dX6_addQuery_111 : decode cX6_addQuery 111 = .ok (.getfield 65, 3) := by decide +kernel
theorem dX6_addQuery_114 : decode cX6_addQuery 114 = .ok (.iload_n 1, 1) := by decide +kernel
theorem dX6_addQuery_115 : decode cX6_addQuery 115 = .ok (.iastore, 1) := by decide +kernel
theorem dX6_addQuery_116 : decode cX6_addQuery 116 = .ok (.aload_n 0, 1) := by decide +kernel
theorem dX6_addQuery_117 : decode cX6_addQuery 117 = .ok (.getfield 26, 3) := by decide +kernel
theorem dX6_addQuery_120 : decode cX6_addQuery 120 = .ok (.aload_n 0, 1) := by decide +kernel
theorem dX6_addQuery_121 : decode cX6_addQuery 121 = .ok (.getfield 65, 3) := by decide +kernel
theorem dX6_addQuery_124 : decode cX6_addQuery 124 = .ok (.iload_n 2, 1) := by decide +kernel
theorem dX6_addQuery_125 : decode cX6_addQuery 125 = .ok (.iastore, 1) := by decide +kernel
theorem dX6_addQuery_126 : decode cX6_addQuery 126 = .ok (.aload_n 0, 1) := by decide +kernel
theorem dX6_addQuery_127 : decode cX6_addQuery 127 = .ok (.getfield 29, 3) := by decide +kernel
theorem dX6_addQuery_130 : decode cX6_addQuery 130 = .ok (.aload_n 0, 1) := by decide +kernel
theorem dX6_addQuery_131 : decode cX6_addQuery 131 = .ok (.getfield 65, 3) := by decide +kernel
theorem dX6_addQuery_134 : decode cX6_addQuery 134 = .ok (.iload_n 3, 1) := by decide +kernel
theorem dX6_addQuery_135 : decode cX6_addQuery 135 = .ok (.iastore, 1) := by decide +kernel
theorem dX6_addQuery_136 : decode cX6_addQuery 136 = .ok (.aload_n 0, 1) := by decide +kernel
theorem dX6_addQuery_137 : decode cX6_addQuery 137 = .ok (.getfield 32, 3) := by decide +kernel
theorem dX6_addQuery_140 : decode cX6_addQuery 140 = .ok (.aload_n 0, 1) := by decide +kernel
theorem dX6_addQuery_141 : decode cX6_addQuery 141 = .ok (.getfield 65, 3) := by decide +kernel
theorem dX6_addQuery_144 : decode cX6_addQuery 144 = .ok (.iload 4, 2) := by decide +kernel
theorem dX6_addQuery_146 : decode cX6_addQuery 146 = .ok (.iastore, 1) := by decide +kernel
theorem dX6_addQuery_147 : decode cX6_addQuery 147 = .ok (.aload_n 0, 1) := by decide +kernel
theorem dX6_addQuery_148 : decode cX6_addQuery 148 = .ok (.dup, 1) := by decide +kernel
theorem dX6_addQuery_149 : decode cX6_addQuery 149 = .ok (.getfield 65, 3) := by decide +kernel
theorem dX6_addQuery_152 : decode cX6_addQuery 152 = .ok (.iconst 1, 1) := by decide +kernel
theorem dX6_addQuery_153 : decode cX6_addQuery 153 = .ok (.iadd, 1) := by decide +kernel
theorem dX6_addQuery_154 : decode cX6_addQuery 154 = .ok (.putfield 65, 3) := by decide +kernel
theorem dX6_addQuery_157 : decode cX6_addQuery 157 = .ok (.aload_n 0, 1) := by decide +kernel
theorem dX6_addQuery_158 : decode cX6_addQuery 158 = .ok (.getfield 65, 3) := by decide +kernel
theorem dX6_addQuery_161 : decode cX6_addQuery 161 = .ok (.iconst 1, 1) := by decide +kernel
theorem dX6_addQuery_162 : decode cX6_addQuery 162 = .ok (.isub, 1) := by decide +kernel
theorem dX6_addQuery_163 : decode cX6_addQuery 163 = .ok (.ireturn, 1) := by decide +kernel
theorem dX6_clearQueries_0 : decode cX6_clearQueries 0 = .ok (.aload_n 0, 1) := by decide +kernel
theorem dX6_clearQueries_1 : decode cX6_clearQueries 1 = .ok (.iconst 0, 1) := by decide +kernel
theorem dX6_clearQueries_2 : decode cX6_clearQueries 2 = .ok (.putfield 38, 3) := by decide +kernel
theorem dX6_clearQueries_5 : decode cX6_clearQueries 5 = .ok (.aload_n 0, 1) := by decide +kernel
theorem dX6_clearQueries_6 : decode cX6_clearQueries 6 = .ok (.getfield 65, 3) := by decide +kernel
theorem dX6_clearQueries_9 : decode cX6_clearQueries 9 = .ok (.istore_n 1, 1) := by decide +kernel
theorem dX6_clearQueries_10 : decode cX6_clearQueries 10 = .ok (.aload_n 0, 1) := by decide +kernel
theorem dX6_clearQueries_11 : decode cX6_clearQueries 11 = .ok (.iconst 0, 1) := by decide +kernel
theorem dX6_clearQueries_12 : decode cX6_clearQueries 12 = .ok (.putfield 65, 3) := by decide +kernel
theorem dX6_clearQueries_15 : decode cX6_clearQueries 15 = .ok (.iload_n 1, 1) := by decide +kernel
theorem dX6_clearQueries_16 : decode cX6_clearQueries 16 = .ok (.ireturn, 1) := by decide +kernel
set_option maxRecDepth 20000 in
theorem ggX6_setPrice_X6_isIn : GoodIn wsX6_setPrice wsX6_isIn := goodIn_r _ [6] (by decide +kernel) (by decide +kernel)
set_option maxRecDepth 20000 in
theorem gX6_setPrice_X6_isIn : GoodIn wsX6_setPrice (va_wsS RX6 43 yX6_isIn wsX6_isIn) := goodIn_app (goodIn_of _ (by decide +kernel)) ggX6_setPrice_X6_isIn
set_option maxRecDepth 20000 in
theorem ggX6_setPrice_X6_fail : GoodIn wsX6_setPrice wsX6_fail := goodIn_r _ [10, 1, 11, 12, 13, 14, 15, 16, 17, 18, 19, 20, 21, 22, 23, 24, 25] (by decide +kernel) (by decide +kernel)
set_option maxRecDepth 20000 in
theorem gX6_setPrice_X6_fail : GoodIn wsX6_setPrice (wsV RX6 54 RX6 yX6_fail wsX6_fail) := goodIn_app (goodIn_of _ (by decide +kernel)) ggX6_setPrice_X6_fail
theorem dX6_setPrice_0 : decode cX6_setPrice 0 = .ok (.aload_n 0, 1) := by decide +kernel
theorem dX6_setPrice_1 : decode cX6_setPrice 1 = .ok (.iconst 0, 1) := by decide +kernel
theorem dX6_setPrice_2 : decode cX6_setPrice 2 = .ok (.putfield 38, 3) := by decide +kernel
theorem dX6_setPrice_5 : decode cX6_setPrice 5 = .ok (.iload_n 1, 1) := by decide +kernel
theorem dX6_setPrice_6 : decode cX6_setPrice 6 = .ok (.i2l, 1) := by decide +kernel
theorem dX6_setPrice_7 : decode cX6_setPrice 7 = .ok (.iconst 0, 1) := by decide +kernel
theorem dX6_setPrice_8 : decode cX6_setPrice 8 = .ok (.bipush 100, 2) := by decide +kernel
theorem dX6_setPrice_10 : decode cX6_setPrice 10 = .ok (.invokestatic 43, 3) := by decide +kernel
theorem dX6_setPrice_13 : decode cX6_setPrice 13 = .ok (.ifCond .ne 9, 3) := by decide +kernel
theorem dX6_setPrice_16 : decode cX6_setPrice 16 = .ok (.aload_n 0, 1) := by decide +kernel
theorem dX6_setPrice_17 : decode cX6_setPrice 17 = .ok (.iconst 1, 1) := by decide +kernel
theorem dX6_setPrice_18 : decode cX6_setPrice 18 = .ok (.invokevirtual 54, 3) := by decide +kernel
theorem dX6_setPrice_21 : decode cX6_setPrice 21 = .ok (.ireturn, 1) := by decide +kernel
theorem dX6_setPrice_22 : decode cX6_setPrice 22 = .ok (.aload_n 0, 1) := by decide +kernel
theorem dX6_setPrice_23 : decode cX6_setPrice 23 = .ok (.getfield 20, 3) := by decide +kernel
theorem dX6_setPrice_26 : decode cX6_setPrice 26 = .ok (.istore_n 2, 1) := by decide +kernel
theorem dX6_setPrice_27 : decode cX6_setPrice 27 = .ok (.aload_n 0, 1) := by decide +kernel
theorem dX6_setPrice_28 : decode cX6_setPrice 28 = .ok (.iload_n 1, 1) := by decide +kernel
theorem dX6_setPrice_29 : decode cX6_setPrice 29 = .ok (.putfield 20, 3) := by decide +kernel
theorem dX6_setPrice_32 : decode cX6_setPrice 32 = .ok (.iload_n 2, 1) := by decide +kernel
theorem dX6_setPrice_33 : decode cX6_setPrice 33 = .ok (.ireturn, 1) := by decide +kernel
set_option maxRecDepth 20000 in
theorem ggX6_answer_X6_isIn : GoodIn wsX6_answer wsX6_isIn := goodIn_r _ [11] (by decide +kernel) (by decide +kernel)
set_option maxRecDepth 20000 in
theorem gX6_answer_X6_isIn : GoodIn wsX6_answer (va_wsS RX6 43 yX6_isIn wsX6_isIn) := goodIn_app (goodIn_of _ (by decide +kernel)) ggX6_answer_X6_isIn
set_option maxRecDepth 20000 in
theorem ggX6_answer_X6_fail : GoodIn wsX6_answer wsX6_fail := goodIn_r _ [15, 1, 16, 17, 18, 19, 20, 21, 22, 23, 24, 25, 26, 27, 28, 29, 30] (by decide +kernel) (by decide +kernel)
set_option maxRecDepth 20000 in
theorem gX6_answer_X6_fail : GoodIn wsX6_answer (wsV RX6 54 RX6 yX6_fail wsX6_fail) := goodIn_app (goodIn_of _ (by decide +kernel)) ggX6_answer_X6_fail
theorem dX6_answer_0 : decode cX6_answer 0 = .ok (.aload_n 0, 1) := by decide +kernel
theorem dX6_answer_1 : decode cX6_answer 1 = .ok (.iconst 0, 1) := by decide +kernel
theorem dX6_answer_2 : decode cX6_answer 2 = .ok (.putfield 38, 3) := by decide +kernel
theorem dX6_answer_5 : decode cX6_answer 5 = .ok (.iload_n 1, 1) := by decide +kernel
theorem dX6_answer_6 : decode cX6_answer 6 = .ok (.i2l, 1) := by decide +kernel
theorem dX6_answer_7 : decode cX6_answer 7 = .ok (.iconst 0, 1) := by decide +kernel
theorem dX6_answer_8 : decode cX6_answer 8 = .ok (.aload_n 0, 1) := by decide +kernel
theorem dX6_answer_9 : decode cX6_answer 9 = .ok (.getfield 65, 3) := by decide +kernel
theorem dX6_answer_12 : decode cX6_answer 12 = .ok (.iconst 1, 1) := by decide +kernel
theorem dX6_answer_13 : decode cX6_answer 13 = .ok (.isub, 1) := by decide +kernel
theorem dX6_answer_14 : decode cX6_answer 14 = .ok (.invokestatic 43, 3) := by decide +kernel
theorem dX6_answer_17 : decode cX6_answer 17 = .ok (.ifCond .ne 10, 3) := by decide +kernel
theorem dX6_answer_20 : decode cX6_answer 20 = .ok (.aload_n 0, 1) := by decide +kernel
theorem dX6_answer_21 : decode cX6_answer 21 = .ok (.iconst 1, 1) := by decide +kernel
theorem dX6_answer_22 : decode cX6_answer 22 = .ok (.invokevirtual 54, 3) := by decide +kernel
theorem dX6_answer_25 : decode cX6_answer 25 = .ok (.i2l, 1) := by decide +kernel
theorem dX6_answer_26 : decode cX6_answer 26 = .ok (.lreturn, 1) := by decide +kernel
theorem dX6_answer_27 : decode cX6_answer 27 = .ok (.aload_n 0, 1) := by decide +kernel
theorem dX6_answer_28 : decode cX6_answer 28 = .ok (.getfield 26, 3) := by decide +kernel
theorem dX6_answer_31 : decode cX6_answer 31 = .ok (.iload_n 1, 1) := by decide +kernel
theorem dX6_answer_32 : decode cX6_answer 32 = .ok (.iaload, 1) := by decide +kernel
theorem dX6_answer_33 : decode cX6_answer 33 = .ok (.istore_n 2, 1) := by decide +kernel
theorem dX6_answer_34 : decode cX6_answer 34 = .ok (.aload_n 0, 1) := by decide +kernel
theorem dX6_answer_35 : decode cX6_answer 35 = .ok (.getfield 23, 3) := by decide +kernel
theorem dX6_answer_38 : decode cX6_answer 38 = .ok (.iload_n 1, 1) := by decide +kernel
theorem dX6_answer_39 : decode cX6_answer 39 = .ok (.iaload, 1) := by decide +kernel
theorem dX6_answer_40 : decode cX6_answer 40 = .ok (.ifCond .ne 23, 3) := by decide +kernel
theorem dX6_answer_43 : decode cX6_answer 43 = .ok (.iload_n 2, 1) := by decide +kernel
theorem dX6_answer_44 : decode cX6_answer 44 = .ok (.aload_n 0, 1) := by decide +kernel
theorem dX6_answer_45 : decode cX6_answer 45 = .ok (.getfield 47, 3) := by decide +kernel
theorem dX6_answer_48 : decode cX6_answer 48 = .ok (.if_icmp .ge 13, 3) := by decide +kernel
theorem dX6_answer_51 : decode cX6_answer 51 = .ok (.aload_n 0, 1) := by decide +kernel
theorem dX6_answer_52 : decode cX6_answer 52 = .ok (.getfield 9, 3) := by decide +kernel
theorem dX6_answer_55 : decode cX6_answer 55 = .ok (.iload_n 2, 1) := by decide +kernel
theorem dX6_answer_56 : decode cX6_answer 56 = .ok (.iaload, 1) := by decide +kernel
theorem dX6_answer_57 : decode cX6_answer 57 = .ok (.i2l, 1) := by decide +kernel
theorem dX6_answer_58 : decode cX6_answer 58 = .ok (.goto 4, 3) := by decide +kernel
theorem dX6_answer_61 : decode cX6_answer 61 = .ok (.lconst 0, 1) := by decide +kernel
theorem dX6_answer_62 : decode cX6_answer 62 = .ok (.lreturn, 1) := by decide +kernel
theorem dX6_answer_63 : decode cX6_answer 63 = .ok (.lconst 0, 1) := by decide +kernel
theorem dX6_answer_64 : decode cX6_answer 64 = .ok (.lstore_n 3, 1) := by decide +kernel
theorem dX6_answer_65 : decode cX6_answer 65 = .ok (.iconst 0, 1) := by decide +kernel
theorem dX6_answer_66 : decode cX6_answer 66 = .ok (.istore 5, 2) := by decide +kernel
theorem dX6_answer_68 : decode cX6_answer 68 = .ok (.iload 5, 2) := by decide +kernel
theorem dX6_answer_70 : decode cX6_answer 70 = .ok (.aload_n 0, 1) := by decide +kernel
theorem dX6_answer_71 : decode cX6_answer 71 = .ok (.getfield 47, 3) := by decide +kernel
theorem dX6_answer_74 : decode cX6_answer 74 = .ok (.if_icmp .ge 73, 3) := by decide +kernel
theorem dX6_answer_77 : decode cX6_answer 77 = .ok (.aload_n 0, 1) := by decide +kernel
theorem dX6_answer_78 : decode cX6_answer 78 = .ok (.getfield 23, 3) := by decide +kernel
theorem dX6_answer_81 : decode cX6_answer 81 = .ok (.iload_n 1, 1) := by decide +kernel
theorem dX6_answer_82 : decode cX6_answer 82 = .ok (.iaload, 1) := by decide +kernel
theorem dX6_answer_83 : decode cX6_answer 83 = .ok (.iconst 1, 1) := by decide +kernel
theorem dX6_answer_84 : decode cX6_answer 84 = .ok (.if_icmp .ne 38, 3) := by decide +kernel
theorem dX6_answer_87 : decode cX6_answer 87 = .ok (.lload_n 3, 1) := by decide +kernel
theorem dX6_answer_88 : decode cX6_answer 88 = .ok (.iload 5, 2) := by decide +kernel
theorem dX6_answer_90 : decode cX6_answer 90 = .ok (.iload_n 2, 1) := by decide +kernel
theorem dX6_answer_91 : decode cX6_answer 91 = .ok (.if_icmp .lt 25, 3) := by decide +kernel
theorem dX6_answer_94 : decode cX6_answer 94 = .ok (.iload 5, 2) := by decide +kernel
theorem dX6_answer_96 : decode cX6_answer 96 = .ok (.aload_n 0, 1) := by decide +kernel
theorem dX6_answer_97 : decode cX6_answer 97 = .ok (.getfield 29, 3) := by decide +kernel
theorem dX6_answer_100 : decode cX6_answer 100 = .ok (.iload_n 1, 1) := by decide +kernel
theorem dX6_answer_101 : decode cX6_answer 101 = .ok (.iaload, 1) := by decide +kernel
theorem dX6_answer_102 : decode cX6_answer 102 = .ok (.if_icmp .ge 14, 3) := by decide +kernel
theorem dX6_answer_105 : decode cX6_answer 105 = .ok (.aload_n 0, 1) := by decide +kernel
theorem dX6_answer_106 : decode cX6_answer 106 = .ok (.getfield 9, 3) := by decide +kernel
theorem dX6_answer_109 : decode cX6_answer 109 = .ok (.iload 5, 2) := by decide +kernel
theorem dX6_answer_111 : decode cX6_answer 111 = .ok (.iaload, 1) := by decide +kernel
theorem dX6_answer_112 : decode cX6_answer 112 = .ok (.i2l, 1) := by decide +kernel
theorem dX6_answer_113 : decode cX6_answer 113 = .ok (.goto 4, 3) := by decide +kernel
theorem dX6_answer_116 : decode cX6_answer 116 = .ok (.lconst 0, 1) := by decide +kernel
theorem dX6_answer_117 : decode cX6_answer 117 = .ok (.ladd, 1) := by decide +kernel
theorem dX6_answer_118 : decode cX6_answer 118 = .ok (.lstore_n 3, 1) := by decide +kernel
theorem dX6_answer_119 : decode cX6_answer 119 = .ok (.goto 22, 3) := by decide +kernel
theorem dX6_answer_122 : decode cX6_answer 122 = .ok (.lload_n 3, 1) := by decide +kernel
theorem dX6_answer_123 : decode cX6_answer 123 = .ok (.aload_n 0, 1) := by decide +kernel
theorem dX6_answer_124 : decode cX6_answer 124 = .ok (.getfield 9, 3) := by decide +kernel
theorem dX6_answer_127 : decode cX6_answer 127 = .ok (.iload 5, 2) := by decide +kernel
theorem dX6_answer_129 : decode cX6_answer 129 = .ok (.iaload, 1) := by decide +kernel
theorem dX6_answer_130 : decode cX6_answer 130 = .ok (.iload_n 2, 1) := by decide +kernel
theorem dX6_answer_131 : decode cX6_answer 131 = .ok (.if_icmp .ne 7, 3) := by decide +kernel
theorem dX6_answer_134 : decode cX6_answer 134 = .ok (.lconst 1, 1) := by decide +kernel
theorem dX6_answer_135 : decode cX6_answer 135 = .ok (.goto 4, 3) := by decide +kernel
theorem dX6_answer_138 : decode cX6_answer 138 = .ok (.lconst 0, 1) := by decide +kernel
theorem dX6_answer_139 : decode cX6_answer 139 = .ok (.ladd, 1) := by decide +kernel
theorem dX6_answer_140 : decode cX6_answer 140 = .ok (.lstore_n 3, 1) := by decide +kernel
theorem dX6_answer_141 : decode cX6_answer 141 = .ok (.iinc 5 1, 3) := by decide +kernel
theorem dX6_answer_144 : decode cX6_answer 144 = .ok (.goto (-76), 3) := by decide +kernel
theorem dX6_answer_147 : decode cX6_answer 147 = .ok (.lload_n 3, 1) := by decide +kernel
theorem dX6_answer_148 : decode cX6_answer 148 = .ok (.lreturn, 1) := by decide +kernel
theorem dX6_choose_0 : decode cX6_choose 0 = .ok (.aload_n 0, 1) := by decide +kernel
theorem dX6_choose_1 : decode cX6_choose 1 = .ok (.iload_n 1, 1) := by decide +kernel
theorem dX6_choose_2 : decode cX6_choose 2 = .ok (.iload_n 2, 1) := by decide +kernel
theorem dX6_choose_3 : decode cX6_choose 3 = .ok (.imul, 1) := by decide +kernel
theorem dX6_choose_4 : decode cX6_choose 4 = .ok (.putfield 68, 3) := by decide +kernel
theorem dX6_choose_7 : decode cX6_choose 7 = .ok (.aload_n 0, 1) := by decide +kernel
theorem dX6_choose_8 : decode cX6_choose 8 = .ok (.iload_n 2, 1) := by decide +kernel
theorem dX6_choose_9 : decode cX6_choose 9 = .ok (.aload_n 0, 1) := by decide +kernel
theorem dX6_choose_10 : decode cX6_choose 10 = .ok (.getfield 47, 3) := by decide +kernel
theorem dX6_choose_13 : decode cX6_choose 13 = .ok (.aload_n 0, 1) := by decide +kernel
theorem dX6_choose_14 : decode cX6_choose 14 = .ok (.getfield 68, 3) := by decide +kernel
theorem dX6_choose_17 : decode cX6_choose 17 = .ok (.isub, 1) := by decide +kernel
theorem dX6_choose_18 : decode cX6_choose 18 = .ok (.invokestatic 71, 3) := by decide +kernel
theorem dX6_choose_21 : decode cX6_choose 21 = .ok (.putfield 77, 3) := by decide +kernel
theorem dX6_choose_24 : decode cX6_choose 24 = .ok (.return_, 1) := by decide +kernel
theorem dX6_at_0 : decode cX6_at 0 = .ok (.aload_n 0, 1) := by decide +kernel
theorem dX6_at_1 : decode cX6_at 1 = .ok (.getfield 9, 3) := by decide +kernel
theorem dX6_at_4 : decode cX6_at 4 = .ok (.aload_n 0, 1) := by decide +kernel
theorem dX6_at_5 : decode cX6_at 5 = .ok (.getfield 68, 3) := by decide +kernel
theorem dX6_at_8 : decode cX6_at 8 = .ok (.iload_n 1, 1) := by decide +kernel
theorem dX6_at_9 : decode cX6_at 9 = .ok (.iadd, 1) := by decide +kernel
theorem dX6_at_10 : decode cX6_at 10 = .ok (.iaload, 1) := by decide +kernel
theorem dX6_at_11 : decode cX6_at 11 = .ok (.ireturn, 1) := by decide +kernel
theorem dX6_width_0 : decode cX6_width 0 = .ok (.iconst 0, 1) := by decide +kernel
theorem dX6_width_1 : decode cX6_width 1 = .ok (.istore_n 2, 1) := by decide +kernel
theorem dX6_width_2 : decode cX6_width 2 = .ok (.lload_n 0, 1) := by decide +kernel
theorem dX6_width_3 : decode cX6_width 3 = .ok (.iload_n 2, 1) := by decide +kernel
theorem dX6_width_4 : decode cX6_width 4 = .ok (.lshr, 1) := by decide +kernel
theorem dX6_width_5 : decode cX6_width 5 = .ok (.lconst 0, 1) := by decide +kernel
theorem dX6_width_6 : decode cX6_width 6 = .ok (.lcmp, 1) := by decide +kernel
theorem dX6_width_7 : decode cX6_width 7 = .ok (.ifCond .le 9, 3) := by decide +kernel
theorem dX6_width_10 : decode cX6_width 10 = .ok (.iinc 2 1, 3) := by decide +kernel
theorem dX6_width_13 : decode cX6_width 13 = .ok (.goto (-11), 3) := by decide +kernel
theorem dX6_width_16 : decode cX6_width 16 = .ok (.iload_n 2, 1) := by decide +kernel
theorem dX6_width_17 : decode cX6_width 17 = .ok (.ireturn, 1) := by decide +kernel
set_option maxRecDepth 20000 in
theorem ggX6_least_X6_at : GoodIn wsX6_least wsX6_at := goodIn_r _ [10, 11, 12, 13, 14, 15, 16, 17, 18, 19, 20, 21, 22, 23, 24, 25, 26, 27] (by decide +kernel) (by decide +kernel)
set_option maxRecDepth 20000 in
theorem gX6_least_X6_at : GoodIn wsX6_least (wsV RX6 80 RX6 yX6_at wsX6_at) := goodIn_app (goodIn_of _ (by decide +kernel)) ggX6_least_X6_at
theorem dX6_least_0 : decode cX6_least 0 = .ok (.aload_n 0, 1) := by decide +kernel
theorem dX6_least_1 : decode cX6_least 1 = .ok (.iconst 0, 1) := by decide +kernel
theorem dX6_least_2 : decode cX6_least 2 = .ok (.invokevirtual 80, 3) := by decide +kernel
theorem dX6_least_5 : decode cX6_least 5 = .ok (.istore_n 1, 1) := by decide +kernel
theorem dX6_least_6 : decode cX6_least 6 = .ok (.iconst 1, 1) := by decide +kernel
theorem dX6_least_7 : decode cX6_least 7 = .ok (.istore_n 2, 1) := by decide +kernel
theorem dX6_least_8 : decode cX6_least 8 = .ok (.iload_n 2, 1) := by decide +kernel
theorem dX6_least_9 : decode cX6_least 9 = .ok (.aload_n 0, 1) := by decide +kernel
theorem dX6_least_10 : decode cX6_least 10 = .ok (.getfield 77, 3) := by decide +kernel
theorem dX6_least_13 : decode cX6_least 13 = .ok (.if_icmp .ge 19, 3) := by decide +kernel
theorem dX6_least_16 : decode cX6_least 16 = .ok (.iload_n 1, 1) := by decide +kernel
theorem dX6_least_17 : decode cX6_least 17 = .ok (.aload_n 0, 1) := by decide +kernel
theorem dX6_least_18 : decode cX6_least 18 = .ok (.iload_n 2, 1) := by decide +kernel
theorem dX6_least_19 : decode cX6_least 19 = .ok (.invokevirtual 80, 3) := by decide +kernel
theorem dX6_least_22 : decode cX6_least 22 = .ok (.invokestatic 71, 3) := by decide +kernel
theorem dX6_least_25 : decode cX6_least 25 = .ok (.istore_n 1, 1) := by decide +kernel
theorem dX6_least_26 : decode cX6_least 26 = .ok (.iinc 2 1, 3) := by decide +kernel
theorem dX6_least_29 : decode cX6_least 29 = .ok (.goto (-21), 3) := by decide +kernel
theorem dX6_least_32 : decode cX6_least 32 = .ok (.iload_n 1, 1) := by decide +kernel
theorem dX6_least_33 : decode cX6_least 33 = .ok (.ireturn, 1) := by decide +kernel
set_option maxRecDepth 20000 in
theorem ggX6_frameWidth_X6_at : GoodIn wsX6_frameWidth wsX6_at := goodIn_r _ [10, 11, 12, 23, 24, 25, 26, 27, 28, 29, 30, 31, 32, 33, 34, 35, 36, 37] (by decide +kernel) (by decide +kernel)
set_option maxRecDepth 20000 in
theorem gX6_frameWidth_X6_at : GoodIn wsX6_frameWidth (wsV RX6 80 RX6 yX6_at wsX6_at) := goodIn_app (goodIn_of _ (by decide +kernel)) ggX6_frameWidth_X6_at
set_option maxRecDepth 20000 in
theorem ggX6_frameWidth_X6_least : GoodIn wsX6_frameWidth wsX6_least := goodIn_r _ [16, 1, 17, 18, 4, 19, 6, 7, 8, 9, 10, 11, 12, 23, 24, 25, 26, 27, 28, 29, 30, 31, 32, 33, 34, 35, 36, 37] (by decide +kernel) (by decide +kernel)
set_option maxRecDepth 20000 in
theorem gX6_frameWidth_X6_least : GoodIn wsX6_frameWidth (wsV RX6 86 RX6 yX6_least wsX6_least) := goodIn_app (goodIn_of _ (by decide +kernel)) ggX6_frameWidth_X6_least
set_option maxRecDepth 20000 in
theorem ggX6_frameWidth_X6_width : GoodIn wsX6_frameWidth wsX6_width := goodIn_r _ [22] (by decide +kernel) (by decide +kernel)
set_option maxRecDepth 20000 in
theorem gX6_frameWidth_X6_width : GoodIn wsX6_frameWidth (va_wsS RX6 90 yX6_width wsX6_width) := goodIn_app (goodIn_of _ (by decide +kernel)) ggX6_frameWidth_X6_width
theorem dX6_frameWidth_0 : decode cX6_frameWidth 0 = .ok (.aload_n 0, 1) := by decide +kernel
theorem dX6_frameWidth_1 : decode cX6_frameWidth 1 = .ok (.iconst 0, 1) := by decide +kernel
theorem dX6_frameWidth_2 : decode cX6_frameWidth 2 = .ok (.invokevirtual 80, 3) := by decide +kernel
theorem dX6_frameWidth_5 : decode cX6_frameWidth 5 = .ok (.istore_n 1, 1) := by decide +kernel
theorem dX6_frameWidth_6 : decode cX6_frameWidth 6 = .ok (.iconst 1, 1) := by decide +kernel
theorem dX6_frameWidth_7 : decode cX6_frameWidth 7 = .ok (.istore_n 2, 1) := by decide +kernel
theorem dX6_frameWidth_8 : decode cX6_frameWidth 8 = .ok (.iload_n 2, 1) := by decide +kernel
theorem dX6_frameWidth_9 : decode cX6_frameWidth 9 = .ok (.aload_n 0, 1) := by decide +kernel
theorem dX6_frameWidth_10 : decode cX6_frameWidth 10 = .ok (.getfield 77, 3) := by decide +kernel
theorem dX6_frameWidth_13 : decode cX6_frameWidth 13 = .ok (.if_icmp .ge 19, 3) := by decide +kernel
theorem dX6_frameWidth_16 : decode cX6_frameWidth 16 = .ok (.iload_n 1, 1) := by decide +kernel
theorem dX6_frameWidth_17 : decode cX6_frameWidth 17 = .ok (.aload_n 0, 1) := by decide +kernel
theorem dX6_frameWidth_18 : decode cX6_frameWidth 18 = .ok (.iload_n 2, 1) := by decide +kernel
theorem dX6_frameWidth_19 : decode cX6_frameWidth 19 = .ok (.invokevirtual 80, 3) := by decide +kernel
theorem dX6_frameWidth_22 : decode cX6_frameWidth 22 = .ok (.invokestatic 83, 3) := by decide +kernel
theorem dX6_frameWidth_25 : decode cX6_frameWidth 25 = .ok (.istore_n 1, 1) := by decide +kernel
theorem dX6_frameWidth_26 : decode cX6_frameWidth 26 = .ok (.iinc 2 1, 3) := by decide +kernel
theorem dX6_frameWidth_29 : decode cX6_frameWidth 29 = .ok (.goto (-21), 3) := by decide +kernel
theorem dX6_frameWidth_32 : decode cX6_frameWidth 32 = .ok (.iload_n 1, 1) := by decide +kernel
theorem dX6_frameWidth_33 : decode cX6_frameWidth 33 = .ok (.aload_n 0, 1) := by decide +kernel
theorem dX6_frameWidth_34 : decode cX6_frameWidth 34 = .ok (.invokevirtual 86, 3) := by decide +kernel
theorem dX6_frameWidth_37 : decode cX6_frameWidth 37 = .ok (.isub, 1) := by decide +kernel
theorem dX6_frameWidth_38 : decode cX6_frameWidth 38 = .ok (.i2l, 1) := by decide +kernel
theorem dX6_frameWidth_39 : decode cX6_frameWidth 39 = .ok (.invokestatic 90, 3) := by decide +kernel
theorem dX6_frameWidth_42 : decode cX6_frameWidth 42 = .ok (.ireturn, 1) := by decide +kernel
theorem dX6_folded_0 : decode cX6_folded 0 = .ok (.iload_n 0, 1) := by decide +kernel
theorem dX6_folded_1 : decode cX6_folded 1 = .ok (.ifCond .ge 12, 3) := by decide +kernel
theorem dX6_folded_4 : decode cX6_folded 4 = .ok (.bipush (-2), 2) := by decide +kernel
theorem dX6_folded_6 : decode cX6_folded 6 = .ok (.iload_n 0, 1) := by decide +kernel
theorem dX6_folded_7 : decode cX6_folded 7 = .ok (.imul, 1) := by decide +kernel
theorem dX6_folded_8 : decode cX6_folded 8 = .ok (.iconst 1, 1) := by decide +kernel
theorem dX6_folded_9 : decode cX6_folded 9 = .ok (.isub, 1) := by decide +kernel
theorem dX6_folded_10 : decode cX6_folded 10 = .ok (.goto 6, 3) := by decide +kernel
theorem dX6_folded_13 : decode cX6_folded 13 = .ok (.iconst 2, 1) := by decide +kernel
theorem dX6_folded_14 : decode cX6_folded 14 = .ok (.iload_n 0, 1) := by decide +kernel
theorem dX6_folded_15 : decode cX6_folded 15 = .ok (.imul, 1) := by decide +kernel
theorem dX6_folded_16 : decode cX6_folded 16 = .ok (.ireturn, 1) := by decide +kernel
set_option maxRecDepth 20000 in
theorem ggX6_deltaWidth_X6_at : GoodIn wsX6_deltaWidth wsX6_at := goodIn_r _ [10, 11, 12, 19, 20, 21, 22, 23, 24, 25, 26, 27, 28, 29, 30, 31, 32, 33] (by decide +kernel) (by decide +kernel)
set_option maxRecDepth 20000 in
theorem gX6_deltaWidth_X6_at : GoodIn wsX6_deltaWidth (wsV RX6 80 RX6 yX6_at wsX6_at) := goodIn_app (goodIn_of _ (by decide +kernel)) ggX6_deltaWidth_X6_at
set_option maxRecDepth 20000 in
theorem ggX6_deltaWidth_X6_folded : GoodIn wsX6_deltaWidth wsX6_folded := goodIn_r _ [15] (by decide +kernel) (by decide +kernel)
set_option maxRecDepth 20000 in
theorem gX6_deltaWidth_X6_folded : GoodIn wsX6_deltaWidth (va_wsS RX6 94 yX6_folded wsX6_folded) := goodIn_app (goodIn_of _ (by decide +kernel)) ggX6_deltaWidth_X6_folded
set_option maxRecDepth 20000 in
theorem ggX6_deltaWidth_X6_width : GoodIn wsX6_deltaWidth wsX6_width := goodIn_r _ [18] (by decide +kernel) (by decide +kernel)
set_option maxRecDepth 20000 in
theorem gX6_deltaWidth_X6_width : GoodIn wsX6_deltaWidth (va_wsS RX6 90 yX6_width wsX6_width) := goodIn_app (goodIn_of _ (by decide +kernel)) ggX6_deltaWidth_X6_width
theorem dX6_deltaWidth_0 : decode cX6_deltaWidth 0 = .ok (.iconst 0, 1) := by decide +kernel
theorem dX6_deltaWidth_1 : decode cX6_deltaWidth 1 = .ok (.istore_n 1, 1) := by decide +kernel
theorem dX6_deltaWidth_2 : decode cX6_deltaWidth 2 = .ok (.iconst 1, 1) := by decide +kernel
theorem dX6_deltaWidth_3 : decode cX6_deltaWidth 3 = .ok (.istore_n 2, 1) := by decide +kernel
theorem dX6_deltaWidth_4 : decode cX6_deltaWidth 4 = .ok (.iload_n 2, 1) := by decide +kernel
theorem dX6_deltaWidth_5 : decode cX6_deltaWidth 5 = .ok (.aload_n 0, 1) := by decide +kernel
theorem dX6_deltaWidth_6 : decode cX6_deltaWidth 6 = .ok (.getfield 77, 3) := by decide +kernel
theorem dX6_deltaWidth_9 : decode cX6_deltaWidth 9 = .ok (.if_icmp .ge 34, 3) := by decide +kernel
theorem dX6_deltaWidth_12 : decode cX6_deltaWidth 12 = .ok (.iload_n 1, 1) := by decide +kernel
theorem dX6_deltaWidth_13 : decode cX6_deltaWidth 13 = .ok (.aload_n 0, 1) := by decide +kernel
theorem dX6_deltaWidth_14 : decode cX6_deltaWidth 14 = .ok (.iload_n 2, 1) := by decide +kernel
theorem dX6_deltaWidth_15 : decode cX6_deltaWidth 15 = .ok (.invokevirtual 80, 3) := by decide +kernel
theorem dX6_deltaWidth_18 : decode cX6_deltaWidth 18 = .ok (.aload_n 0, 1) := by decide +kernel
theorem dX6_deltaWidth_19 : decode cX6_deltaWidth 19 = .ok (.iload_n 2, 1) := by decide +kernel
theorem dX6_deltaWidth_20 : decode cX6_deltaWidth 20 = .ok (.iconst 1, 1) := by decide +kernel
theorem dX6_deltaWidth_21 : decode cX6_deltaWidth 21 = .ok (.isub, 1) := by decide +kernel
theorem dX6_deltaWidth_22 : decode cX6_deltaWidth 22 = .ok (.invokevirtual 80, 3) := by decide +kernel
theorem dX6_deltaWidth_25 : decode cX6_deltaWidth 25 = .ok (.isub, 1) := by decide +kernel
theorem dX6_deltaWidth_26 : decode cX6_deltaWidth 26 = .ok (.invokestatic 94, 3) := by decide +kernel
theorem dX6_deltaWidth_29 : decode cX6_deltaWidth 29 = .ok (.i2l, 1) := by decide +kernel
theorem dX6_deltaWidth_30 : decode cX6_deltaWidth 30 = .ok (.invokestatic 90, 3) := by decide +kernel
theorem dX6_deltaWidth_33 : decode cX6_deltaWidth 33 = .ok (.invokestatic 83, 3) := by decide +kernel
theorem dX6_deltaWidth_36 : decode cX6_deltaWidth 36 = .ok (.istore_n 1, 1) := by decide +kernel
theorem dX6_deltaWidth_37 : decode cX6_deltaWidth 37 = .ok (.iinc 2 1, 3) := by decide +kernel
theorem dX6_deltaWidth_40 : decode cX6_deltaWidth 40 = .ok (.goto (-36), 3) := by decide +kernel
theorem dX6_deltaWidth_43 : decode cX6_deltaWidth 43 = .ok (.iload_n 1, 1) := by decide +kernel
theorem dX6_deltaWidth_44 : decode cX6_deltaWidth 44 = .ok (.ireturn, 1) := by decide +kernel
set_option maxRecDepth 20000 in
theorem ggX6_isNewRun_X6_at : GoodIn wsX6_isNewRun wsX6_at := goodIn_r _ [5, 6, 7, 8, 9, 10, 11, 12, 13, 14, 15, 16, 17, 18, 19, 20, 21, 22] (by decide +kernel) (by decide +kernel)
set_option maxRecDepth 20000 in
theorem gX6_isNewRun_X6_at : GoodIn wsX6_isNewRun (wsV RX6 80 RX6 yX6_at wsX6_at) := goodIn_app (goodIn_of _ (by decide +kernel)) ggX6_isNewRun_X6_at
theorem dX6_isNewRun_0 : decode cX6_isNewRun 0 = .ok (.iload_n 1, 1) := by decide +kernel
theorem dX6_isNewRun_1 : decode cX6_isNewRun 1 = .ok (.ifCond .eq 18, 3) := by decide +kernel
theorem dX6_isNewRun_4 : decode cX6_isNewRun 4 = .ok (.aload_n 0, 1) := by decide +kernel
theorem dX6_isNewRun_5 : decode cX6_isNewRun 5 = .ok (.iload_n 1, 1) := by decide +kernel
theorem dX6_isNewRun_6 : decode cX6_isNewRun 6 = .ok (.invokevirtual 80, 3) := by decide +kernel
theorem dX6_isNewRun_9 : decode cX6_isNewRun 9 = .ok (.aload_n 0, 1) := by decide +kernel
theorem dX6_isNewRun_10 : decode cX6_isNewRun 10 = .ok (.iload_n 1, 1) := by decide +kernel
theorem dX6_isNewRun_11 : decode cX6_isNewRun 11 = .ok (.iconst 1, 1) := by decide +kernel
theorem dX6_isNewRun_12 : decode cX6_isNewRun 12 = .ok (.isub, 1) := by decide +kernel
theorem dX6_isNewRun_13 : decode cX6_isNewRun 13 = .ok (.invokevirtual 80, 3) := by decide +kernel
theorem dX6_isNewRun_16 : decode cX6_isNewRun 16 = .ok (.if_icmp .eq 7, 3) := by decide +kernel
theorem dX6_isNewRun_19 : decode cX6_isNewRun 19 = .ok (.iconst 1, 1) := by decide +kernel
theorem dX6_isNewRun_20 : decode cX6_isNewRun 20 = .ok (.goto 4, 3) := by decide +kernel
theorem dX6_isNewRun_23 : decode cX6_isNewRun 23 = .ok (.iconst 0, 1) := by decide +kernel
theorem dX6_isNewRun_24 : decode cX6_isNewRun 24 = .ok (.ireturn, 1) := by decide +kernel
set_option maxRecDepth 20000 in
theorem ggX6_runsTo_X6_isNewRun : GoodIn wsX6_runsTo wsX6_isNewRun := goodIn_r _ [5, 6, 7, 8, 4, 9, 10, 11, 12, 13, 14, 15, 16, 17, 18, 19, 20, 21, 22, 23, 24, 25, 26] (by decide +kernel) (by decide +kernel)
set_option maxRecDepth 20000 in
theorem gX6_runsTo_X6_isNewRun : GoodIn wsX6_runsTo (wsV RX6 97 RX6 yX6_isNewRun wsX6_isNewRun) := goodIn_app (goodIn_of _ (by decide +kernel)) ggX6_runsTo_X6_isNewRun
theorem dX6_runsTo_0 : decode cX6_runsTo 0 = .ok (.iconst 0, 1) := by decide +kernel
theorem dX6_runsTo_1 : decode cX6_runsTo 1 = .ok (.istore_n 2, 1) := by decide +kernel
theorem dX6_runsTo_2 : decode cX6_runsTo 2 = .ok (.iconst 0, 1) := by decide +kernel
theorem dX6_runsTo_3 : decode cX6_runsTo 3 = .ok (.istore_n 3, 1) := by decide +kernel
theorem dX6_runsTo_4 : decode cX6_runsTo 4 = .ok (.iload_n 3, 1) := by decide +kernel
theorem dX6_runsTo_5 : decode cX6_runsTo 5 = .ok (.iload_n 1, 1) := by decide +kernel
theorem dX6_runsTo_6 : decode cX6_runsTo 6 = .ok (.if_icmp .gt 25, 3) := by decide +kernel
theorem dX6_runsTo_9 : decode cX6_runsTo 9 = .ok (.iload_n 2, 1) := by decide +kernel
theorem dX6_runsTo_10 : decode cX6_runsTo 10 = .ok (.aload_n 0, 1) := by decide +kernel
theorem dX6_runsTo_11 : decode cX6_runsTo 11 = .ok (.iload_n 3, 1) := by decide +kernel
theorem dX6_runsTo_12 : decode cX6_runsTo 12 = .ok (.invokevirtual 97, 3) := by decide +kernel
theorem dX6_runsTo_15 : decode cX6_runsTo 15 = .ok (.ifCond .eq 7, 3) := by decide +kernel
theorem dX6_runsTo_18 : decode cX6_runsTo 18 = .ok (.iconst 1, 1) := by decide +kernel
theorem dX6_runsTo_19 : decode cX6_runsTo 19 = .ok (.goto 4, 3) := by decide +kernel
theorem dX6_runsTo_22 : decode cX6_runsTo 22 = .ok (.iconst 0, 1) := by decide +kernel
theorem dX6_runsTo_23 : decode cX6_runsTo 23 = .ok (.iadd, 1) := by decide +kernel
theorem dX6_runsTo_24 : decode cX6_runsTo 24 = .ok (.istore_n 2, 1) := by decide +kernel
theorem dX6_runsTo_25 : decode cX6_runsTo 25 = .ok (.iinc 3 1, 3) := by decide +kernel
theorem dX6_runsTo_28 : decode cX6_runsTo 28 = .ok (.goto (-24), 3) := by decide +kernel
theorem dX6_runsTo_31 : decode cX6_runsTo 31 = .ok (.iload_n 2, 1) := by decide +kernel
theorem dX6_runsTo_32 : decode cX6_runsTo 32 = .ok (.ireturn, 1) := by decide +kernel
set_option maxRecDepth 20000 in
theorem ggX6_differentBelow_X6_at : GoodIn wsX6_differentBelow wsX6_at := goodIn_r _ [6, 7, 8, 9, 10, 11, 12, 13, 14, 15, 16, 17, 18, 19, 20, 21, 22, 23] (by decide +kernel) (by decide +kernel)
set_option maxRecDepth 20000 in
theorem gX6_differentBelow_X6_at : GoodIn wsX6_differentBelow (wsV RX6 80 RX6 yX6_at wsX6_at) := goodIn_app (goodIn_of _ (by decide +kernel)) ggX6_differentBelow_X6_at
theorem dX6_differentBelow_0 : decode cX6_differentBelow 0 = .ok (.iconst 0, 1) := by decide +kernel
theorem dX6_differentBelow_1 : decode cX6_differentBelow 1 = .ok (.istore_n 2, 1) := by decide +kernel
theorem dX6_differentBelow_2 : decode cX6_differentBelow 2 = .ok (.iconst 0, 1) := by decide +kernel
theorem dX6_differentBelow_3 : decode cX6_differentBelow 3 = .ok (.istore_n 3, 1) := by decide +kernel
theorem dX6_differentBelow_4 : decode cX6_differentBelow 4 = .ok (.iload_n 3, 1) := by decide +kernel
theorem dX6_differentBelow_5 : decode cX6_differentBelow 5 = .ok (.aload_n 0, 1) := by decide +kernel
theorem dX6_differentBelow_6 : decode cX6_differentBelow 6 = .ok (.getfield 77, 3) := by decide +kernel
theorem dX6_differentBelow_9 : decode cX6_differentBelow 9 = .ok (.if_icmp .ge 79, 3) := by decide +kernel
theorem dX6_differentBelow_12 : decode cX6_differentBelow 12 = .ok (.aload_n 0, 1) := by decide +kernel
theorem dX6_differentBelow_13 : decode cX6_differentBelow 13 = .ok (.iload_n 3, 1) := by decide +kernel
theorem dX6_differentBelow_14 : decode cX6_differentBelow 14 = .ok (.invokevirtual 80, 3) := by decide +kernel
theorem dX6_differentBelow_17 : decode cX6_differentBelow 17 = .ok (.iload_n 1, 1) := by decide +kernel
theorem dX6_differentBelow_18 : decode cX6_differentBelow 18 = .ok (.if_icmp .ge 7, 3) := by decide +kernel
theorem dX6_differentBelow_21 : decode cX6_differentBelow 21 = .ok (.iconst 1, 1) := by decide +kernel
theorem dX6_differentBelow_22 : decode cX6_differentBelow 22 = .ok (.goto 4, 3) := by decide +kernel
theorem dX6_differentBelow_25 : decode cX6_differentBelow 25 = .ok (.iconst 0, 1) := by decide +kernel
theorem dX6_differentBelow_26 : decode cX6_differentBelow 26 = .ok (.istore 4, 2) := by decide +kernel
theorem dX6_differentBelow_28 : decode cX6_differentBelow 28 = .ok (.iconst 0, 1) := by decide +kernel
theorem dX6_differentBelow_29 : decode cX6_differentBelow 29 = .ok (.istore 5, 2) := by decide +kernel
theorem dX6_differentBelow_31 : decode cX6_differentBelow 31 = .ok (.iload 5, 2) := by decide +kernel
theorem dX6_differentBelow_33 : decode cX6_differentBelow 33 = .ok (.iload_n 3, 1) := by decide +kernel
theorem dX6_differentBelow_34 : decode cX6_differentBelow 34 = .ok (.if_icmp .ge 35, 3) := by decide +kernel
theorem dX6_differentBelow_37 : decode cX6_differentBelow 37 = .ok (.iload 4, 2) := by decide +kernel
theorem dX6_differentBelow_39 : decode cX6_differentBelow 39 = .ok (.ifCond .eq 21, 3) := by decide +kernel
theorem dX6_differentBelow_42 : decode cX6_differentBelow 42 = .ok (.aload_n 0, 1) := by decide +kernel
theorem dX6_differentBelow_43 : decode cX6_differentBelow 43 = .ok (.iload 5, 2) := by decide +kernel
theorem dX6_differentBelow_45 : decode cX6_differentBelow 45 = .ok (.invokevirtual 80, 3) := by decide +kernel
theorem dX6_differentBelow_48 : decode cX6_differentBelow 48 = .ok (.aload_n 0, 1) := by decide +kernel
theorem dX6_differentBelow_49 : decode cX6_differentBelow 49 = .ok (.iload_n 3, 1) := by decide +kernel
theorem dX6_differentBelow_50 : decode cX6_differentBelow 50 = .ok (.invokevirtual 80, 3) := by decide +kernel
theorem dX6_differentBelow_53 : decode cX6_differentBelow 53 = .ok (.if_icmp .eq 7, 3) := by decide +kernel
theorem dX6_differentBelow_56 : decode cX6_differentBelow 56 = .ok (.iconst 1, 1) := by decide +kernel
theorem dX6_differentBelow_57 : decode cX6_differentBelow 57 = .ok (.goto 4, 3) := by decide +kernel
theorem dX6_differentBelow_60 : decode cX6_differentBelow 60 = .ok (.iconst 0, 1) := by decide +kernel
theorem dX6_differentBelow_61 : decode cX6_differentBelow 61 = .ok (.istore 4, 2) := by decide +kernel
theorem dX6_differentBelow_63 : decode cX6_differentBelow 63 = .ok (.iinc 5 1, 3) := by decide +kernel
theorem dX6_differentBelow_66 : decode cX6_differentBelow 66 = .ok (.goto (-35), 3) := by decide +kernel
theorem dX6_differentBelow_69 : decode cX6_differentBelow 69 = .ok (.iload_n 2, 1) := by decide +kernel
theorem dX6_differentBelow_70 : decode cX6_differentBelow 70 = .ok (.iload 4, 2) := by decide +kernel
theorem dX6_differentBelow_72 : decode cX6_differentBelow 72 = .ok (.ifCond .eq 7, 3) := by decide +kernel
theorem dX6_differentBelow_75 : decode cX6_differentBelow 75 = .ok (.iconst 1, 1) := by decide +kernel
theorem dX6_differentBelow_76 : decode cX6_differentBelow 76 = .ok (.goto 4, 3) := by decide +kernel
theorem dX6_differentBelow_79 : decode cX6_differentBelow 79 = .ok (.iconst 0, 1) := by decide +kernel
theorem dX6_differentBelow_80 : decode cX6_differentBelow 80 = .ok (.iadd, 1) := by decide +kernel
theorem dX6_differentBelow_81 : decode cX6_differentBelow 81 = .ok (.istore_n 2, 1) := by decide +kernel
theorem dX6_differentBelow_82 : decode cX6_differentBelow 82 = .ok (.iinc 3 1, 3) := by decide +kernel
theorem dX6_differentBelow_85 : decode cX6_differentBelow 85 = .ok (.goto (-81), 3) := by decide +kernel
theorem dX6_differentBelow_88 : decode cX6_differentBelow 88 = .ok (.iload_n 2, 1) := by decide +kernel
theorem dX6_differentBelow_89 : decode cX6_differentBelow 89 = .ok (.ireturn, 1) := by decide +kernel
set_option maxRecDepth 20000 in
theorem ggX6_different_X6_differentBelow : GoodIn wsX6_different wsX6_differentBelow := goodIn_r _ [6, 7, 8, 9, 10, 5, 11, 12, 13, 14, 15, 16, 17, 18, 19, 20, 21, 22, 23, 24, 25, 26, 27, 28] (by decide +kernel) (by decide +kernel)
set_option maxRecDepth 20000 in
theorem gX6_different_X6_differentBelow : GoodIn wsX6_different (wsV RX6 102 RX6 yX6_differentBelow wsX6_differentBelow) := goodIn_app (goodIn_of _ (by decide +kernel)) ggX6_different_X6_differentBelow
theorem dX6_different_0 : decode cX6_different 0 = .ok (.aload_n 0, 1) := by decide +kernel
theorem dX6_different_1 : decode cX6_different 1 = .ok (.ldc 101, 2) := by decide +kernel
theorem dX6_different_3 : decode cX6_different 3 = .ok (.invokevirtual 102, 3) := by decide +kernel
theorem dX6_different_6 : decode cX6_different 6 = .ok (.ireturn, 1) := by decide +kernel
set_option maxRecDepth 20000 in
theorem ggX6_has_X6_differentBelow : GoodIn wsX6_has wsX6_differentBelow := goodIn_r _ [5, 6, 7, 8, 9, 4, 10, 11, 12, 13, 14, 15, 16, 17, 18, 19, 20, 21, 22, 23, 24, 25, 26, 27] (by decide +kernel) (by decide +kernel)
set_option maxRecDepth 20000 in
theorem gX6_has_X6_differentBelow : GoodIn wsX6_has (wsV RX6 102 RX6 yX6_differentBelow wsX6_differentBelow) := goodIn_app (goodIn_of _ (by decide +kernel)) ggX6_has_X6_differentBelow
theorem dX6_has_0 : decode cX6_has 0 = .ok (.aload_n 0, 1) := by decide +kernel
theorem dX6_has_1 : decode cX6_has 1 = .ok (.iload_n 1, 1) := by decide +kernel
theorem dX6_has_2 : decode cX6_has 2 = .ok (.iconst 1, 1) := by decide +kernel
theorem dX6_has_3 : decode cX6_has 3 = .ok (.iadd, 1) := by decide +kernel
theorem dX6_has_4 : decode cX6_has 4 = .ok (.invokevirtual 102, 3) := by decide +kernel
theorem dX6_has_7 : decode cX6_has 7 = .ok (.aload_n 0, 1) := by decide +kernel
theorem dX6_has_8 : decode cX6_has 8 = .ok (.iload_n 1, 1) := by decide +kernel
theorem dX6_has_9 : decode cX6_has 9 = .ok (.invokevirtual 102, 3) := by decide +kernel
theorem dX6_has_12 : decode cX6_has 12 = .ok (.if_icmp .le 7, 3) := by decide +kernel
theorem dX6_has_15 : decode cX6_has 15 = .ok (.iconst 1, 1) := by decide +kernel
theorem dX6_has_16 : decode cX6_has 16 = .ok (.goto 4, 3) := by decide +kernel
theorem dX6_has_19 : decode cX6_has 19 = .ok (.iconst 0, 1) := by decide +kernel
theorem dX6_has_20 : decode cX6_has 20 = .ok (.ireturn, 1) := by decide +kernel
set_option maxRecDepth 20000 in
theorem ggX6_isPossible_X6_runsTo : GoodIn wsX6_isPossible wsX6_runsTo := goodIn_r _ [6, 7, 8, 9, 5, 10, 11, 12, 13, 14, 15, 16, 17, 18, 19, 20, 21, 22, 23, 24, 25, 26, 27, 28, 29, 30, 31] (by decide +kernel) (by decide +kernel)
set_option maxRecDepth 20000 in
theorem gX6_isPossible_X6_runsTo : GoodIn wsX6_isPossible (wsV RX6 105 RX6 yX6_runsTo wsX6_runsTo) := goodIn_app (goodIn_of _ (by decide +kernel)) ggX6_isPossible_X6_runsTo
theorem dX6_isPossible_0 : decode cX6_isPossible 0 = .ok (.iload_n 1, 1) := by decide +kernel
theorem dX6_isPossible_1 : decode cX6_isPossible 1 = .ok (.iconst 1, 1) := by decide +kernel
theorem dX6_isPossible_2 : decode cX6_isPossible 2 = .ok (.if_icmp .ne 17, 3) := by decide +kernel
theorem dX6_isPossible_5 : decode cX6_isPossible 5 = .ok (.aload_n 0, 1) := by decide +kernel
theorem dX6_isPossible_6 : decode cX6_isPossible 6 = .ok (.aload_n 0, 1) := by decide +kernel
theorem dX6_isPossible_7 : decode cX6_isPossible 7 = .ok (.getfield 77, 3) := by decide +kernel
theorem dX6_isPossible_10 : decode cX6_isPossible 10 = .ok (.iconst 1, 1) := by decide +kernel
theorem dX6_isPossible_11 : decode cX6_isPossible 11 = .ok (.isub, 1) := by decide +kernel
theorem dX6_isPossible_12 : decode cX6_isPossible 12 = .ok (.invokevirtual 105, 3) := by decide +kernel
theorem dX6_isPossible_15 : decode cX6_isPossible 15 = .ok (.iconst 1, 1) := by decide +kernel
theorem dX6_isPossible_16 : decode cX6_isPossible 16 = .ok (.if_icmp .ne 7, 3) := by decide +kernel
theorem dX6_isPossible_19 : decode cX6_isPossible 19 = .ok (.iconst 1, 1) := by decide +kernel
theorem dX6_isPossible_20 : decode cX6_isPossible 20 = .ok (.goto 4, 3) := by decide +kernel
theorem dX6_isPossible_23 : decode cX6_isPossible 23 = .ok (.iconst 0, 1) := by decide +kernel
theorem dX6_isPossible_24 : decode cX6_isPossible 24 = .ok (.ireturn, 1) := by decide +kernel
set_option maxRecDepth 20000 in
theorem ggX6_sizeOf_X6_runsTo : GoodIn wsX6_sizeOf wsX6_runsTo := goodIn_r _ [6, 7, 8, 9, 5, 10, 11, 12, 13, 14, 15, 16, 51, 52, 53, 54, 55, 56, 57, 58, 59, 60, 61, 62, 63, 64, 65] (by decide +kernel) (by decide +kernel)
set_option maxRecDepth 20000 in
theorem gX6_sizeOf_X6_runsTo : GoodIn wsX6_sizeOf (wsV RX6 105 RX6 yX6_runsTo wsX6_runsTo) := goodIn_app (goodIn_of _ (by decide +kernel)) ggX6_sizeOf_X6_runsTo
set_option maxRecDepth 20000 in
theorem ggX6_sizeOf_X6_different : GoodIn wsX6_sizeOf wsX6_different := goodIn_r _ [20, 21, 22, 23, 24, 5, 25, 1, 11, 12, 13, 14, 15, 16, 51, 52, 53, 54, 55, 56, 57, 58, 59, 60, 61, 62, 63, 64, 65] (by decide +kernel) (by decide +kernel)
set_option maxRecDepth 20000 in
theorem gX6_sizeOf_X6_different : GoodIn wsX6_sizeOf (wsV RX6 108 RX6 yX6_different wsX6_different) := goodIn_app (goodIn_of _ (by decide +kernel)) ggX6_sizeOf_X6_different
set_option maxRecDepth 20000 in
theorem ggX6_sizeOf_X6_width : GoodIn wsX6_sizeOf wsX6_width := goodIn_r _ [28] (by decide +kernel) (by decide +kernel)
set_option maxRecDepth 20000 in
theorem gX6_sizeOf_X6_width : GoodIn wsX6_sizeOf (va_wsS RX6 90 yX6_width wsX6_width) := goodIn_app (goodIn_of _ (by decide +kernel)) ggX6_sizeOf_X6_width
set_option maxRecDepth 20000 in
theorem ggX6_sizeOf_X6_frameWidth : GoodIn wsX6_sizeOf wsX6_frameWidth := goodIn_r _ [32, 1, 33, 34, 35, 36, 11, 12, 13, 5, 14, 15, 16, 37, 38, 39, 40, 41, 42, 43, 26, 27, 28, 51, 52, 53, 54, 55, 56, 57, 58, 59, 60, 61, 62, 63, 64, 65] (by decide +kernel) (by decide +kernel)
set_option maxRecDepth 20000 in
theorem gX6_sizeOf_X6_frameWidth : GoodIn wsX6_sizeOf (wsV RX6 111 RX6 yX6_frameWidth wsX6_frameWidth) := goodIn_app (goodIn_of _ (by decide +kernel)) ggX6_sizeOf_X6_frameWidth
set_option maxRecDepth 20000 in
theorem ggX6_sizeOf_X6_deltaWidth : GoodIn wsX6_sizeOf wsX6_deltaWidth := goodIn_r _ [47, 1, 33, 34, 35, 36, 11, 12, 13, 5, 14, 15, 16, 48, 49, 50, 26, 27, 28, 51, 52, 53, 54, 55, 56, 57, 58, 59, 60, 61, 62, 63, 64, 65] (by decide +kernel) (by decide +kernel)
set_option maxRecDepth 20000 in
theorem gX6_sizeOf_X6_deltaWidth : GoodIn wsX6_sizeOf (wsV RX6 114 RX6 yX6_deltaWidth wsX6_deltaWidth) := goodIn_app (goodIn_of _ (by decide +kernel)) ggX6_sizeOf_X6_deltaWidth
theorem dX6_sizeOf_0 : decode cX6_sizeOf 0 = .ok (.iload_n 1, 1) := by decide +kernel
theorem dX6_sizeOf_1 : decode cX6_sizeOf 1 = .ok (.tableswitch 100 0 4 #[35, 43, 46, 60, 87], 35) := by decide +kernel
theorem dX6_sizeOf_36 : decode cX6_sizeOf 36 = .ok (.bipush 18, 2) := by decide +kernel
theorem dX6_sizeOf_38 : decode cX6_sizeOf 38 = .ok (.aload_n 0, 1) := by decide +kernel
theorem dX6_sizeOf_39 : decode cX6_sizeOf 39 = .ok (.getfield 77, 3) := by decide +kernel
theorem dX6_sizeOf_42 : decode cX6_sizeOf 42 = .ok (.imul, 1) := by decide +kernel
theorem dX6_sizeOf_43 : decode cX6_sizeOf 43 = .ok (.ireturn, 1) := by decide +kernel
theorem dX6_sizeOf_44 : decode cX6_sizeOf 44 = .ok (.bipush 18, 2) := by decide +kernel
theorem dX6_sizeOf_46 : decode cX6_sizeOf 46 = .ok (.ireturn, 1) := by decide +kernel
theorem dX6_sizeOf_47 : decode cX6_sizeOf 47 = .ok (.bipush 24, 2) := by decide +kernel
theorem dX6_sizeOf_49 : decode cX6_sizeOf 49 = .ok (.aload_n 0, 1) := by decide +kernel
theorem dX6_sizeOf_50 : decode cX6_sizeOf 50 = .ok (.aload_n 0, 1) := by decide +kernel
theorem dX6_sizeOf_51 : decode cX6_sizeOf 51 = .ok (.getfield 77, 3) := by decide +kernel
theorem dX6_sizeOf_54 : decode cX6_sizeOf 54 = .ok (.iconst 1, 1) := by decide +kernel
theorem dX6_sizeOf_55 : decode cX6_sizeOf 55 = .ok (.isub, 1) := by decide +kernel
theorem dX6_sizeOf_56 : decode cX6_sizeOf 56 = .ok (.invokevirtual 105, 3) := by decide +kernel
theorem dX6_sizeOf_59 : decode cX6_sizeOf 59 = .ok (.imul, 1) := by decide +kernel
theorem dX6_sizeOf_60 : decode cX6_sizeOf 60 = .ok (.ireturn, 1) := by decide +kernel
theorem dX6_sizeOf_61 : decode cX6_sizeOf 61 = .ok (.bipush 6, 2) := by decide +kernel
theorem dX6_sizeOf_63 : decode cX6_sizeOf 63 = .ok (.bipush 18, 2) := by decide +kernel
theorem dX6_sizeOf_65 : decode cX6_sizeOf 65 = .ok (.aload_n 0, 1) := by decide +kernel
theorem dX6_sizeOf_66 : decode cX6_sizeOf 66 = .ok (.invokevirtual 108, 3) := by decide +kernel
theorem dX6_sizeOf_69 : decode cX6_sizeOf 69 = .ok (.imul, 1) := by decide +kernel
theorem dX6_sizeOf_70 : decode cX6_sizeOf 70 = .ok (.iadd, 1) := by decide +kernel
theorem dX6_sizeOf_71 : decode cX6_sizeOf 71 = .ok (.aload_n 0, 1) := by decide +kernel
theorem dX6_sizeOf_72 : decode cX6_sizeOf 72 = .ok (.getfield 77, 3) := by decide +kernel
theorem dX6_sizeOf_75 : decode cX6_sizeOf 75 = .ok (.aload_n 0, 1) := by decide +kernel
theorem dX6_sizeOf_76 : decode cX6_sizeOf 76 = .ok (.invokevirtual 108, 3) := by decide +kernel
theorem dX6_sizeOf_79 : decode cX6_sizeOf 79 = .ok (.iconst 1, 1) := by decide +kernel
theorem dX6_sizeOf_80 : decode cX6_sizeOf 80 = .ok (.isub, 1) := by decide +kernel
theorem dX6_sizeOf_81 : decode cX6_sizeOf 81 = .ok (.i2l, 1) := by decide +kernel
theorem dX6_sizeOf_82 : decode cX6_sizeOf 82 = .ok (.invokestatic 90, 3) := by decide +kernel
theorem dX6_sizeOf_85 : decode cX6_sizeOf 85 = .ok (.imul, 1) := by decide +kernel
theorem dX6_sizeOf_86 : decode cX6_sizeOf 86 = .ok (.iadd, 1) := by decide +kernel
theorem dX6_sizeOf_87 : decode cX6_sizeOf 87 = .ok (.ireturn, 1) := by decide +kernel
theorem dX6_sizeOf_88 : decode cX6_sizeOf 88 = .ok (.bipush 23, 2) := by decide +kernel
theorem dX6_sizeOf_90 : decode cX6_sizeOf 90 = .ok (.aload_n 0, 1) := by decide +kernel
theorem dX6_sizeOf_91 : decode cX6_sizeOf 91 = .ok (.getfield 77, 3) := by decide +kernel
theorem dX6_sizeOf_94 : decode cX6_sizeOf 94 = .ok (.aload_n 0, 1) := by decide +kernel
theorem dX6_sizeOf_95 : decode cX6_sizeOf 95 = .ok (.invokevirtual 111, 3) := by decide +kernel
theorem dX6_sizeOf_98 : decode cX6_sizeOf 98 = .ok (.imul, 1) := by decide +kernel
theorem dX6_sizeOf_99 : decode cX6_sizeOf 99 = .ok (.iadd, 1) := by decide +kernel
theorem dX6_sizeOf_100 : decode cX6_sizeOf 100 = .ok (.ireturn, 1) := by decide +kernel
theorem dX6_sizeOf_101 : decode cX6_sizeOf 101 = .ok (.bipush 23, 2) := by decide +kernel
theorem dX6_sizeOf_103 : decode cX6_sizeOf 103 = .ok (.aload_n 0, 1) := by decide +kernel
theorem dX6_sizeOf_104 : decode cX6_sizeOf 104 = .ok (.getfield 77, 3) := by decide +kernel
theorem dX6_sizeOf_107 : decode cX6_sizeOf 107 = .ok (.iconst 1, 1) := by decide +kernel
theorem dX6_sizeOf_108 : decode cX6_sizeOf 108 = .ok (.isub, 1) := by decide +kernel
theorem dX6_sizeOf_109 : decode cX6_sizeOf 109 = .ok (.aload_n 0, 1) := by decide +kernel
theorem dX6_sizeOf_110 : decode cX6_sizeOf 110 = .ok (.invokevirtual 114, 3) := by decide +kernel
theorem dX6_sizeOf_113 : decode cX6_sizeOf 113 = .ok (.imul, 1) := by decide +kernel
theorem dX6_sizeOf_114 : decode cX6_sizeOf 114 = .ok (.iadd, 1) := by decide +kernel
theorem dX6_sizeOf_115 : decode cX6_sizeOf 115 = .ok (.ireturn, 1) := by decide +kernel
set_option maxRecDepth 20000 in
theorem ggX6_pointCost_X6_runsTo : GoodIn wsX6_pointCost wsX6_runsTo := goodIn_r _ [5, 6, 7, 8, 4, 9, 10, 11, 12, 13, 14, 15, 16, 17, 18, 19, 20, 21, 22, 23, 24, 25, 26, 27, 28, 29, 30] (by decide +kernel) (by decide +kernel)
set_option maxRecDepth 20000 in
theorem gX6_pointCost_X6_runsTo : GoodIn wsX6_pointCost (wsV RX6 105 RX6 yX6_runsTo wsX6_runsTo) := goodIn_app (goodIn_of _ (by decide +kernel)) ggX6_pointCost_X6_runsTo
theorem dX6_pointCost_0 : decode cX6_pointCost 0 = .ok (.iload_n 1, 1) := by decide +kernel
theorem dX6_pointCost_1 : decode cX6_pointCost 1 = .ok (.ifCond .eq 8, 3) := by decide +kernel
theorem dX6_pointCost_4 : decode cX6_pointCost 4 = .ok (.iload_n 1, 1) := by decide +kernel
theorem dX6_pointCost_5 : decode cX6_pointCost 5 = .ok (.iconst 1, 1) := by decide +kernel
theorem dX6_pointCost_6 : decode cX6_pointCost 6 = .ok (.if_icmp .ne 7, 3) := by decide +kernel
theorem dX6_pointCost_9 : decode cX6_pointCost 9 = .ok (.iconst 1, 1) := by decide +kernel
theorem dX6_pointCost_10 : decode cX6_pointCost 10 = .ok (.goto 30, 3) := by decide +kernel
theorem dX6_pointCost_13 : decode cX6_pointCost 13 = .ok (.iload_n 1, 1) := by decide +kernel
theorem dX6_pointCost_14 : decode cX6_pointCost 14 = .ok (.iconst 2, 1) := by decide +kernel
theorem dX6_pointCost_15 : decode cX6_pointCost 15 = .ok (.if_icmp .ne 13, 3) := by decide +kernel
theorem dX6_pointCost_18 : decode cX6_pointCost 18 = .ok (.iconst 1, 1) := by decide +kernel
theorem dX6_pointCost_19 : decode cX6_pointCost 19 = .ok (.aload_n 0, 1) := by decide +kernel
theorem dX6_pointCost_20 : decode cX6_pointCost 20 = .ok (.iload_n 2, 1) := by decide +kernel
theorem dX6_pointCost_21 : decode cX6_pointCost 21 = .ok (.invokevirtual 105, 3) := by decide +kernel
theorem dX6_pointCost_24 : decode cX6_pointCost 24 = .ok (.iadd, 1) := by decide +kernel
theorem dX6_pointCost_25 : decode cX6_pointCost 25 = .ok (.goto 15, 3) := by decide +kernel
theorem dX6_pointCost_28 : decode cX6_pointCost 28 = .ok (.iload_n 1, 1) := by decide +kernel
theorem dX6_pointCost_29 : decode cX6_pointCost 29 = .ok (.iconst 5, 1) := by decide +kernel
theorem dX6_pointCost_30 : decode cX6_pointCost 30 = .ok (.if_icmp .ne 9, 3) := by decide +kernel
theorem dX6_pointCost_33 : decode cX6_pointCost 33 = .ok (.iload_n 2, 1) := by decide +kernel
theorem dX6_pointCost_34 : decode cX6_pointCost 34 = .ok (.iconst 1, 1) := by decide +kernel
theorem dX6_pointCost_35 : decode cX6_pointCost 35 = .ok (.iadd, 1) := by decide +kernel
theorem dX6_pointCost_36 : decode cX6_pointCost 36 = .ok (.goto 4, 3) := by decide +kernel
theorem dX6_pointCost_39 : decode cX6_pointCost 39 = .ok (.iconst 2, 1) := by decide +kernel
theorem dX6_pointCost_40 : decode cX6_pointCost 40 = .ok (.ireturn, 1) := by decide +kernel
set_option maxRecDepth 20000 in
theorem ggX6_sumCost_X6_runsTo : GoodIn wsX6_sumCost wsX6_runsTo := goodIn_r _ [5, 6, 7, 8, 4, 9, 10, 11, 12, 13, 14, 15, 26, 27, 28, 29, 30, 31, 32, 33, 34, 35, 36, 37, 38, 39, 40] (by decide +kernel) (by decide +kernel)
set_option maxRecDepth 20000 in
theorem gX6_sumCost_X6_runsTo : GoodIn wsX6_sumCost (wsV RX6 105 RX6 yX6_runsTo wsX6_runsTo) := goodIn_app (goodIn_of _ (by decide +kernel)) ggX6_sumCost_X6_runsTo
set_option maxRecDepth 20000 in
theorem ggX6_sumCost_X6_different : GoodIn wsX6_sumCost wsX6_different := goodIn_r _ [19, 20, 21, 22, 23, 4, 24, 25, 10, 11, 12, 13, 14, 15, 26, 27, 28, 29, 30, 31, 32, 33, 34, 35, 36, 37, 38, 39, 40] (by decide +kernel) (by decide +kernel)
set_option maxRecDepth 20000 in
theorem gX6_sumCost_X6_different : GoodIn wsX6_sumCost (wsV RX6 108 RX6 yX6_different wsX6_different) := goodIn_app (goodIn_of _ (by decide +kernel)) ggX6_sumCost_X6_different
theorem dX6_sumCost_0 : decode cX6_sumCost 0 = .ok (.iload_n 1, 1) := by decide +kernel
theorem dX6_sumCost_1 : decode cX6_sumCost 1 = .ok (.tableswitch 68 0 4 #[35, 41, 43, 51, 62], 35) := by decide +kernel
theorem dX6_sumCost_36 : decode cX6_sumCost 36 = .ok (.iload_n 3, 1) := by decide +kernel
theorem dX6_sumCost_37 : decode cX6_sumCost 37 = .ok (.iload_n 2, 1) := by decide +kernel
theorem dX6_sumCost_38 : decode cX6_sumCost 38 = .ok (.isub, 1) := by decide +kernel
theorem dX6_sumCost_39 : decode cX6_sumCost 39 = .ok (.iconst 1, 1) := by decide +kernel
theorem dX6_sumCost_40 : decode cX6_sumCost 40 = .ok (.iadd, 1) := by decide +kernel
theorem dX6_sumCost_41 : decode cX6_sumCost 41 = .ok (.ireturn, 1) := by decide +kernel
theorem dX6_sumCost_42 : decode cX6_sumCost 42 = .ok (.iconst 1, 1) := by decide +kernel
theorem dX6_sumCost_43 : decode cX6_sumCost 43 = .ok (.ireturn, 1) := by decide +kernel
theorem dX6_sumCost_44 : decode cX6_sumCost 44 = .ok (.iconst 1, 1) := by decide +kernel
theorem dX6_sumCost_45 : decode cX6_sumCost 45 = .ok (.aload_n 0, 1) := by decide +kernel
theorem dX6_sumCost_46 : decode cX6_sumCost 46 = .ok (.iload_n 3, 1) := by decide +kernel
theorem dX6_sumCost_47 : decode cX6_sumCost 47 = .ok (.invokevirtual 105, 3) := by decide +kernel
theorem dX6_sumCost_50 : decode cX6_sumCost 50 = .ok (.iadd, 1) := by decide +kernel
theorem dX6_sumCost_51 : decode cX6_sumCost 51 = .ok (.ireturn, 1) := by decide +kernel
theorem dX6_sumCost_52 : decode cX6_sumCost 52 = .ok (.iload_n 3, 1) := by decide +kernel
theorem dX6_sumCost_53 : decode cX6_sumCost 53 = .ok (.iload_n 2, 1) := by decide +kernel
theorem dX6_sumCost_54 : decode cX6_sumCost 54 = .ok (.isub, 1) := by decide +kernel
theorem dX6_sumCost_55 : decode cX6_sumCost 55 = .ok (.iconst 1, 1) := by decide +kernel
theorem dX6_sumCost_56 : decode cX6_sumCost 56 = .ok (.iadd, 1) := by decide +kernel
theorem dX6_sumCost_57 : decode cX6_sumCost 57 = .ok (.aload_n 0, 1) := by decide +kernel
theorem dX6_sumCost_58 : decode cX6_sumCost 58 = .ok (.invokevirtual 108, 3) := by decide +kernel
theorem dX6_sumCost_61 : decode cX6_sumCost 61 = .ok (.iadd, 1) := by decide +kernel
theorem dX6_sumCost_62 : decode cX6_sumCost 62 = .ok (.ireturn, 1) := by decide +kernel
theorem dX6_sumCost_63 : decode cX6_sumCost 63 = .ok (.iload_n 3, 1) := by decide +kernel
theorem dX6_sumCost_64 : decode cX6_sumCost 64 = .ok (.iload_n 2, 1) := by decide +kernel
theorem dX6_sumCost_65 : decode cX6_sumCost 65 = .ok (.isub, 1) := by decide +kernel
theorem dX6_sumCost_66 : decode cX6_sumCost 66 = .ok (.iconst 2, 1) := by decide +kernel
theorem dX6_sumCost_67 : decode cX6_sumCost 67 = .ok (.iadd, 1) := by decide +kernel
theorem dX6_sumCost_68 : decode cX6_sumCost 68 = .ok (.ireturn, 1) := by decide +kernel
theorem dX6_sumCost_69 : decode cX6_sumCost 69 = .ok (.iload_n 3, 1) := by decide +kernel
theorem dX6_sumCost_70 : decode cX6_sumCost 70 = .ok (.iconst 1, 1) := by decide +kernel
theorem dX6_sumCost_71 : decode cX6_sumCost 71 = .ok (.iadd, 1) := by decide +kernel
theorem dX6_sumCost_72 : decode cX6_sumCost 72 = .ok (.ireturn, 1) := by decide +kernel
set_option maxRecDepth 20000 in
theorem ggX6_countCost_X6_runsTo : GoodIn wsX6_countCost wsX6_runsTo := goodIn_r _ [6, 7, 8, 9, 5, 10, 11, 12, 13, 14, 15, 16, 48, 49, 50, 51, 52, 53, 54, 55, 56, 57, 58, 59, 60, 61, 62] (by decide +kernel) (by decide +kernel)
set_option maxRecDepth 20000 in
theorem gX6_countCost_X6_runsTo : GoodIn wsX6_countCost (wsV RX6 105 RX6 yX6_runsTo wsX6_runsTo) := goodIn_app (goodIn_of _ (by decide +kernel)) ggX6_countCost_X6_runsTo
set_option maxRecDepth 20000 in
theorem ggX6_countCost_X6_different : GoodIn wsX6_countCost wsX6_different := goodIn_r _ [20, 21, 22, 23, 24, 5, 25, 1, 11, 12, 13, 14, 15, 16, 48, 49, 50, 51, 52, 53, 54, 55, 56, 57, 58, 59, 60, 61, 62] (by decide +kernel) (by decide +kernel)
set_option maxRecDepth 20000 in
theorem gX6_countCost_X6_different : GoodIn wsX6_countCost (wsV RX6 108 RX6 yX6_different wsX6_different) := goodIn_app (goodIn_of _ (by decide +kernel)) ggX6_countCost_X6_different
set_option maxRecDepth 20000 in
theorem ggX6_countCost_X6_has : GoodIn wsX6_countCost wsX6_has := goodIn_r _ [29, 22, 23, 24, 5, 25, 1, 11, 12, 13, 14, 15, 16, 48, 49, 50, 51, 52, 53, 54, 55, 56, 57, 58, 59, 60, 61, 62] (by decide +kernel) (by decide +kernel)
set_option maxRecDepth 20000 in
theorem gX6_countCost_X6_has : GoodIn wsX6_countCost (wsV RX6 117 RX6 yX6_has wsX6_has) := goodIn_app (goodIn_of _ (by decide +kernel)) ggX6_countCost_X6_has
set_option maxRecDepth 20000 in
theorem ggX6_countCost_X6_least : GoodIn wsX6_countCost wsX6_least := goodIn_r _ [33, 1, 34, 35, 36, 37, 11, 12, 13, 5, 14, 15, 16, 48, 49, 50, 51, 52, 53, 54, 55, 56, 57, 58, 59, 60, 61, 62] (by decide +kernel) (by decide +kernel)
set_option maxRecDepth 20000 in
theorem gX6_countCost_X6_least : GoodIn wsX6_countCost (wsV RX6 86 RX6 yX6_least wsX6_least) := goodIn_app (goodIn_of _ (by decide +kernel)) ggX6_countCost_X6_least
set_option maxRecDepth 20000 in
theorem ggX6_countCost_X6_frameWidth : GoodIn wsX6_countCost wsX6_frameWidth := goodIn_r _ [41, 1, 42, 43, 36, 44, 11, 12, 13, 5, 14, 15, 16, 30, 31, 32, 33, 34, 35, 37, 45, 46, 47, 48, 49, 50, 51, 52, 53, 54, 55, 56, 57, 58, 59, 60, 61, 62] (by decide +kernel) (by decide +kernel)
set_option maxRecDepth 20000 in
theorem gX6_countCost_X6_frameWidth : GoodIn wsX6_countCost (wsV RX6 111 RX6 yX6_frameWidth wsX6_frameWidth) := goodIn_app (goodIn_of _ (by decide +kernel)) ggX6_countCost_X6_frameWidth
theorem dX6_countCost_0 : decode cX6_countCost 0 = .ok (.iload_n 1, 1) := by decide +kernel
theorem dX6_countCost_1 : decode cX6_countCost 1 = .ok (.tableswitch 102 1 4 #[31, 33, 46, 68], 31) := by decide +kernel
theorem dX6_countCost_32 : decode cX6_countCost 32 = .ok (.iconst 1, 1) := by decide +kernel
theorem dX6_countCost_33 : decode cX6_countCost 33 = .ok (.ireturn, 1) := by decide +kernel
theorem dX6_countCost_34 : decode cX6_countCost 34 = .ok (.aload_n 0, 1) := by decide +kernel
theorem dX6_countCost_35 : decode cX6_countCost 35 = .ok (.aload_n 0, 1) := by decide +kernel
theorem dX6_countCost_36 : decode cX6_countCost 36 = .ok (.getfield 77, 3) := by decide +kernel
theorem dX6_countCost_39 : decode cX6_countCost 39 = .ok (.iconst 1, 1) := by decide +kernel
theorem dX6_countCost_40 : decode cX6_countCost 40 = .ok (.isub, 1) := by decide +kernel
theorem dX6_countCost_41 : decode cX6_countCost 41 = .ok (.invokevirtual 105, 3) := by decide +kernel
theorem dX6_countCost_44 : decode cX6_countCost 44 = .ok (.iconst 1, 1) := by decide +kernel
theorem dX6_countCost_45 : decode cX6_countCost 45 = .ok (.iadd, 1) := by decide +kernel
theorem dX6_countCost_46 : decode cX6_countCost 46 = .ok (.ireturn, 1) := by decide +kernel
theorem dX6_countCost_47 : decode cX6_countCost 47 = .ok (.aload_n 0, 1) := by decide +kernel
theorem dX6_countCost_48 : decode cX6_countCost 48 = .ok (.invokevirtual 108, 3) := by decide +kernel
theorem dX6_countCost_51 : decode cX6_countCost 51 = .ok (.aload_n 0, 1) := by decide +kernel
theorem dX6_countCost_52 : decode cX6_countCost 52 = .ok (.iload_n 2, 1) := by decide +kernel
theorem dX6_countCost_53 : decode cX6_countCost 53 = .ok (.invokevirtual 117, 3) := by decide +kernel
theorem dX6_countCost_56 : decode cX6_countCost 56 = .ok (.ifCond .eq 10, 3) := by decide +kernel
theorem dX6_countCost_59 : decode cX6_countCost 59 = .ok (.aload_n 0, 1) := by decide +kernel
theorem dX6_countCost_60 : decode cX6_countCost 60 = .ok (.getfield 77, 3) := by decide +kernel
theorem dX6_countCost_63 : decode cX6_countCost 63 = .ok (.goto 4, 3) := by decide +kernel
theorem dX6_countCost_66 : decode cX6_countCost 66 = .ok (.iconst 0, 1) := by decide +kernel
theorem dX6_countCost_67 : decode cX6_countCost 67 = .ok (.iadd, 1) := by decide +kernel
theorem dX6_countCost_68 : decode cX6_countCost 68 = .ok (.ireturn, 1) := by decide +kernel
theorem dX6_countCost_69 : decode cX6_countCost 69 = .ok (.iconst 1, 1) := by decide +kernel
theorem dX6_countCost_70 : decode cX6_countCost 70 = .ok (.iload_n 2, 1) := by decide +kernel
theorem dX6_countCost_71 : decode cX6_countCost 71 = .ok (.aload_n 0, 1) := by decide +kernel
theorem dX6_countCost_72 : decode cX6_countCost 72 = .ok (.invokevirtual 86, 3) := by decide +kernel
theorem dX6_countCost_75 : decode cX6_countCost 75 = .ok (.if_icmp .lt 25, 3) := by decide +kernel
theorem dX6_countCost_78 : decode cX6_countCost 78 = .ok (.iload_n 2, 1) := by decide +kernel
theorem dX6_countCost_79 : decode cX6_countCost 79 = .ok (.aload_n 0, 1) := by decide +kernel
theorem dX6_countCost_80 : decode cX6_countCost 80 = .ok (.invokevirtual 86, 3) := by decide +kernel
theorem dX6_countCost_83 : decode cX6_countCost 83 = .ok (.iconst 1, 1) := by decide +kernel
theorem dX6_countCost_84 : decode cX6_countCost 84 = .ok (.aload_n 0, 1) := by decide +kernel
theorem dX6_countCost_85 : decode cX6_countCost 85 = .ok (.invokevirtual 111, 3) := by decide +kernel
theorem dX6_countCost_88 : decode cX6_countCost 88 = .ok (.ishl, 1) := by decide +kernel
theorem dX6_countCost_89 : decode cX6_countCost 89 = .ok (.iadd, 1) := by decide +kernel
theorem dX6_countCost_90 : decode cX6_countCost 90 = .ok (.if_icmp .ge 10, 3) := by decide +kernel
theorem dX6_countCost_93 : decode cX6_countCost 93 = .ok (.aload_n 0, 1) := by decide +kernel
theorem dX6_countCost_94 : decode cX6_countCost 94 = .ok (.getfield 77, 3) := by decide +kernel
theorem dX6_countCost_97 : decode cX6_countCost 97 = .ok (.goto 4, 3) := by decide +kernel
theorem dX6_countCost_100 : decode cX6_countCost 100 = .ok (.iconst 0, 1) := by decide +kernel
theorem dX6_countCost_101 : decode cX6_countCost 101 = .ok (.iadd, 1) := by decide +kernel
theorem dX6_countCost_102 : decode cX6_countCost 102 = .ok (.ireturn, 1) := by decide +kernel
theorem dX6_countCost_103 : decode cX6_countCost 103 = .ok (.aload_n 0, 1) := by decide +kernel
theorem dX6_countCost_104 : decode cX6_countCost 104 = .ok (.getfield 77, 3) := by decide +kernel
theorem dX6_countCost_107 : decode cX6_countCost 107 = .ok (.ireturn, 1) := by decide +kernel
set_option maxRecDepth 20000 in
theorem ggX6_costOf_X6_pointCost : GoodIn wsX6_costOf wsX6_pointCost := goodIn_r _ [17, 18, 19, 20, 16, 21, 22, 23, 24, 25, 26, 27, 28, 29, 30, 3, 63, 64, 65, 66, 67, 68, 69, 70, 71, 72, 73, 74, 75, 76, 77] (by decide +kernel) (by decide +kernel)
set_option maxRecDepth 20000 in
theorem gX6_costOf_X6_pointCost : GoodIn wsX6_costOf (wsV RX6 120 RX6 yX6_pointCost wsX6_pointCost) := goodIn_app (goodIn_of _ (by decide +kernel)) ggX6_costOf_X6_pointCost
set_option maxRecDepth 20000 in
theorem ggX6_costOf_X6_countCost : GoodIn wsX6_costOf wsX6_countCost := goodIn_r _ [34, 4, 18, 19, 20, 16, 21, 22, 23, 24, 25, 26, 27, 28, 29, 30, 3, 35, 36, 37, 38, 39, 40, 41, 42, 43, 44, 45, 46, 47, 48, 49, 50, 51, 10, 11, 7, 12, 52, 53, 54, 55, 5, 6, 8, 56, 57, 58, 63, 64, 65, 66, 67, 68, 69, 70, 71, 72, 73, 74, 75, 76, 77] (by decide +kernel) (by decide +kernel)
set_option maxRecDepth 20000 in
theorem gX6_costOf_X6_countCost : GoodIn wsX6_costOf (wsV RX6 123 RX6 yX6_countCost wsX6_countCost) := goodIn_app (goodIn_of _ (by decide +kernel)) ggX6_costOf_X6_countCost
set_option maxRecDepth 20000 in
theorem ggX6_costOf_X6_sumCost : GoodIn wsX6_costOf wsX6_sumCost := goodIn_r _ [62, 18, 19, 20, 16, 21, 22, 23, 24, 25, 26, 27, 28, 29, 30, 3, 35, 36, 37, 38, 39, 40, 41, 42, 43, 4, 63, 64, 65, 66, 67, 68, 69, 70, 71, 72, 73, 74, 75, 76, 77] (by decide +kernel) (by decide +kernel)
set_option maxRecDepth 20000 in
theorem gX6_costOf_X6_sumCost : GoodIn wsX6_costOf (wsV RX6 126 RX6 yX6_sumCost wsX6_sumCost) := goodIn_app (goodIn_of _ (by decide +kernel)) ggX6_costOf_X6_sumCost
theorem dX6_costOf_0 : decode cX6_costOf 0 = .ok (.aload_n 0, 1) := by decide +kernel
theorem dX6_costOf_1 : decode cX6_costOf 1 = .ok (.getfield 26, 3) := by decide +kernel
theorem dX6_costOf_4 : decode cX6_costOf 4 = .ok (.iload_n 1, 1) := by decide +kernel
theorem dX6_costOf_5 : decode cX6_costOf 5 = .ok (.iaload, 1) := by decide +kernel
theorem dX6_costOf_6 : decode cX6_costOf 6 = .ok (.istore_n 3, 1) := by decide +kernel
theorem dX6_costOf_7 : decode cX6_costOf 7 = .ok (.aload_n 0, 1) := by decide +kernel
theorem dX6_costOf_8 : decode cX6_costOf 8 = .ok (.getfield 23, 3) := by decide +kernel
theorem dX6_costOf_11 : decode cX6_costOf 11 = .ok (.iload_n 1, 1) := by decide +kernel
theorem dX6_costOf_12 : decode cX6_costOf 12 = .ok (.iaload, 1) := by decide +kernel
theorem dX6_costOf_13 : decode cX6_costOf 13 = .ok (.ifCond .ne 40, 3) := by decide +kernel
theorem dX6_costOf_16 : decode cX6_costOf 16 = .ok (.iload_n 3, 1) := by decide +kernel
theorem dX6_costOf_17 : decode cX6_costOf 17 = .ok (.aload_n 0, 1) := by decide +kernel
theorem dX6_costOf_18 : decode cX6_costOf 18 = .ok (.getfield 68, 3) := by decide +kernel
theorem dX6_costOf_21 : decode cX6_costOf 21 = .ok (.if_icmp .lt 16, 3) := by decide +kernel
theorem dX6_costOf_24 : decode cX6_costOf 24 = .ok (.iload_n 3, 1) := by decide +kernel
theorem dX6_costOf_25 : decode cX6_costOf 25 = .ok (.aload_n 0, 1) := by decide +kernel
theorem dX6_costOf_26 : decode cX6_costOf 26 = .ok (.getfield 68, 3) := by decide +kernel
theorem dX6_costOf_29 : decode cX6_costOf 29 = .ok (.aload_n 0, 1) := by decide +kernel
theorem dX6_costOf_30 : decode cX6_costOf 30 = .ok (.getfield 77, 3) := by decide +kernel
theorem dX6_costOf_33 : decode cX6_costOf 33 = .ok (.iadd, 1) := by decide +kernel
theorem dX6_costOf_34 : decode cX6_costOf 34 = .ok (.if_icmp .lt 7, 3) := by decide +kernel
theorem dX6_costOf_37 : decode cX6_costOf 37 = .ok (.iconst 0, 1) := by decide +kernel
theorem dX6_costOf_38 : decode cX6_costOf 38 = .ok (.goto 14, 3) := by decide +kernel
theorem dX6_costOf_41 : decode cX6_costOf 41 = .ok (.aload_n 0, 1) := by decide +kernel
theorem dX6_costOf_42 : decode cX6_costOf 42 = .ok (.iload_n 2, 1) := by decide +kernel
theorem dX6_costOf_43 : decode cX6_costOf 43 = .ok (.iload_n 3, 1) := by decide +kernel
theorem dX6_costOf_44 : decode cX6_costOf 44 = .ok (.aload_n 0, 1) := by decide +kernel
theorem dX6_costOf_45 : decode cX6_costOf 45 = .ok (.getfield 68, 3) := by decide +kernel
theorem dX6_costOf_48 : decode cX6_costOf 48 = .ok (.isub, 1) := by decide +kernel
theorem dX6_costOf_49 : decode cX6_costOf 49 = .ok (.invokevirtual 120, 3) := by decide +kernel
theorem dX6_costOf_52 : decode cX6_costOf 52 = .ok (.ireturn, 1) := by decide +kernel
theorem dX6_costOf_53 : decode cX6_costOf 53 = .ok (.aload_n 0, 1) := by decide +kernel
theorem dX6_costOf_54 : decode cX6_costOf 54 = .ok (.getfield 23, 3) := by decide +kernel
theorem dX6_costOf_57 : decode cX6_costOf 57 = .ok (.iload_n 1, 1) := by decide +kernel
theorem dX6_costOf_58 : decode cX6_costOf 58 = .ok (.iaload, 1) := by decide +kernel
theorem dX6_costOf_59 : decode cX6_costOf 59 = .ok (.iconst 1, 1) := by decide +kernel
theorem dX6_costOf_60 : decode cX6_costOf 60 = .ok (.if_icmp .eq 10, 3) := by decide +kernel
theorem dX6_costOf_63 : decode cX6_costOf 63 = .ok (.aload_n 0, 1) := by decide +kernel
theorem dX6_costOf_64 : decode cX6_costOf 64 = .ok (.iload_n 2, 1) := by decide +kernel
theorem dX6_costOf_65 : decode cX6_costOf 65 = .ok (.iload_n 3, 1) := by decide +kernel
theorem dX6_costOf_66 : decode cX6_costOf 66 = .ok (.invokevirtual 123, 3) := by decide +kernel
theorem dX6_costOf_69 : decode cX6_costOf 69 = .ok (.ireturn, 1) := by decide +kernel
theorem dX6_costOf_70 : decode cX6_costOf 70 = .ok (.iload_n 3, 1) := by decide +kernel
theorem dX6_costOf_71 : decode cX6_costOf 71 = .ok (.aload_n 0, 1) := by decide +kernel
theorem dX6_costOf_72 : decode cX6_costOf 72 = .ok (.getfield 68, 3) := by decide +kernel
theorem dX6_costOf_75 : decode cX6_costOf 75 = .ok (.invokestatic 83, 3) := by decide +kernel
theorem dX6_costOf_78 : decode cX6_costOf 78 = .ok (.istore 4, 2) := by decide +kernel
theorem dX6_costOf_80 : decode cX6_costOf 80 = .ok (.aload_n 0, 1) := by decide +kernel
theorem dX6_costOf_81 : decode cX6_costOf 81 = .ok (.getfield 29, 3) := by decide +kernel
theorem dX6_costOf_84 : decode cX6_costOf 84 = .ok (.iload_n 1, 1) := by decide +kernel
theorem dX6_costOf_85 : decode cX6_costOf 85 = .ok (.iaload, 1) := by decide +kernel
theorem dX6_costOf_86 : decode cX6_costOf 86 = .ok (.aload_n 0, 1) := by decide +kernel
theorem dX6_costOf_87 : decode cX6_costOf 87 = .ok (.getfield 68, 3) := by decide +kernel
theorem dX6_costOf_90 : decode cX6_costOf 90 = .ok (.aload_n 0, 1) := by decide +kernel
theorem dX6_costOf_91 : decode cX6_costOf 91 = .ok (.getfield 77, 3) := by decide +kernel
theorem dX6_costOf_94 : decode cX6_costOf 94 = .ok (.iadd, 1) := by decide +kernel
theorem dX6_costOf_95 : decode cX6_costOf 95 = .ok (.invokestatic 71, 3) := by decide +kernel
theorem dX6_costOf_98 : decode cX6_costOf 98 = .ok (.iconst 1, 1) := by decide +kernel
theorem dX6_costOf_99 : decode cX6_costOf 99 = .ok (.isub, 1) := by decide +kernel
theorem dX6_costOf_100 : decode cX6_costOf 100 = .ok (.istore 5, 2) := by decide +kernel
theorem dX6_costOf_102 : decode cX6_costOf 102 = .ok (.iload 4, 2) := by decide +kernel
theorem dX6_costOf_104 : decode cX6_costOf 104 = .ok (.iload 5, 2) := by decide +kernel
theorem dX6_costOf_106 : decode cX6_costOf 106 = .ok (.if_icmp .le 7, 3) := by decide +kernel
theorem dX6_costOf_109 : decode cX6_costOf 109 = .ok (.iconst 0, 1) := by decide +kernel
theorem dX6_costOf_110 : decode cX6_costOf 110 = .ok (.goto 22, 3) := by decide +kernel
theorem dX6_costOf_113 : decode cX6_costOf 113 = .ok (.aload_n 0, 1) := by decide +kernel
theorem dX6_costOf_114 : decode cX6_costOf 114 = .ok (.iload_n 2, 1) := by decide +kernel
theorem dX6_costOf_115 : decode cX6_costOf 115 = .ok (.iload 4, 2) := by decide +kernel
theorem dX6_costOf_117 : decode cX6_costOf 117 = .ok (.aload_n 0, 1) := by decide +kernel
theorem dX6_costOf_118 : decode cX6_costOf 118 = .ok (.getfield 68, 3) := by decide +kernel
theorem dX6_costOf_121 : decode cX6_costOf 121 = .ok (.isub, 1) := by decide +kernel
theorem dX6_costOf_122 : decode cX6_costOf 122 = .ok (.iload 5, 2) := by decide +kernel
theorem dX6_costOf_124 : decode cX6_costOf 124 = .ok (.aload_n 0, 1) := by decide +kernel
theorem dX6_costOf_125 : decode cX6_costOf 125 = .ok (.getfield 68, 3) := by decide +kernel
theorem dX6_costOf_128 : decode cX6_costOf 128 = .ok (.isub, 1) := by decide +kernel
theorem dX6_costOf_129 : decode cX6_costOf 129 = .ok (.invokevirtual 126, 3) := by decide +kernel
theorem dX6_costOf_132 : decode cX6_costOf 132 = .ok (.ireturn, 1) := by decide +kernel
set_option maxRecDepth 20000 in
theorem ggX6_scoreOf_X6_sizeOf : GoodIn wsX6_scoreOf wsX6_sizeOf := goodIn_r _ [8, 9, 10, 11, 12, 7, 13, 14, 15, 16, 17, 18, 19, 20, 21, 22, 23, 24, 25, 26, 27, 28, 29, 30, 31, 32, 33, 34, 35, 36, 37, 38, 39, 40, 41, 42, 43, 44, 45, 46, 47, 48, 49, 50, 51, 52, 53, 54, 55, 56, 57, 81, 82, 83, 84, 85, 86, 87, 88, 89, 90, 91, 92, 93, 94, 95] (by decide +kernel) (by decide +kernel)
set_option maxRecDepth 20000 in
theorem gX6_scoreOf_X6_sizeOf : GoodIn wsX6_scoreOf (wsV RX6 130 RX6 yX6_sizeOf wsX6_sizeOf) := goodIn_app (goodIn_of _ (by decide +kernel)) ggX6_scoreOf_X6_sizeOf
set_option maxRecDepth 20000 in
theorem ggX6_scoreOf_X6_costOf : GoodIn wsX6_scoreOf wsX6_costOf := goodIn_r _ [61, 62, 63, 23, 9, 40, 41, 42, 43, 64, 48, 49, 50, 65, 66, 67, 7, 68, 10, 11, 12, 13, 14, 15, 16, 17, 18, 19, 20, 21, 22, 69, 70, 71, 72, 24, 25, 26, 27, 28, 29, 30, 31, 32, 73, 74, 75, 76, 44, 45, 46, 47, 36, 37, 38, 39, 33, 34, 35, 77, 78, 79, 80, 81, 82, 83, 84, 85, 86, 87, 88, 89, 90, 91, 92, 93, 94, 95] (by decide +kernel) (by decide +kernel)
set_option maxRecDepth 20000 in
theorem gX6_scoreOf_X6_costOf : GoodIn wsX6_scoreOf (wsV RX6 133 RX6 yX6_costOf wsX6_costOf) := goodIn_app (goodIn_of _ (by decide +kernel)) ggX6_scoreOf_X6_costOf
theorem dX6_scoreOf_0 : decode cX6_scoreOf 0 = .ok (.aload_n 0, 1) := by decide +kernel
theorem dX6_scoreOf_1 : decode cX6_scoreOf 1 = .ok (.getfield 20, 3) := by decide +kernel
theorem dX6_scoreOf_4 : decode cX6_scoreOf 4 = .ok (.aload_n 0, 1) := by decide +kernel
theorem dX6_scoreOf_5 : decode cX6_scoreOf 5 = .ok (.iload_n 1, 1) := by decide +kernel
theorem dX6_scoreOf_6 : decode cX6_scoreOf 6 = .ok (.invokevirtual 130, 3) := by decide +kernel
theorem dX6_scoreOf_9 : decode cX6_scoreOf 9 = .ok (.imul, 1) := by decide +kernel
theorem dX6_scoreOf_10 : decode cX6_scoreOf 10 = .ok (.istore_n 2, 1) := by decide +kernel
theorem dX6_scoreOf_11 : decode cX6_scoreOf 11 = .ok (.iconst 0, 1) := by decide +kernel
theorem dX6_scoreOf_12 : decode cX6_scoreOf 12 = .ok (.istore_n 3, 1) := by decide +kernel
theorem dX6_scoreOf_13 : decode cX6_scoreOf 13 = .ok (.iload_n 3, 1) := by decide +kernel
theorem dX6_scoreOf_14 : decode cX6_scoreOf 14 = .ok (.aload_n 0, 1) := by decide +kernel
theorem dX6_scoreOf_15 : decode cX6_scoreOf 15 = .ok (.getfield 65, 3) := by decide +kernel
theorem dX6_scoreOf_18 : decode cX6_scoreOf 18 = .ok (.if_icmp .ge 25, 3) := by decide +kernel
theorem dX6_scoreOf_21 : decode cX6_scoreOf 21 = .ok (.iload_n 2, 1) := by decide +kernel
theorem dX6_scoreOf_22 : decode cX6_scoreOf 22 = .ok (.aload_n 0, 1) := by decide +kernel
theorem dX6_scoreOf_23 : decode cX6_scoreOf 23 = .ok (.getfield 32, 3) := by decide +kernel
theorem dX6_scoreOf_26 : decode cX6_scoreOf 26 = .ok (.iload_n 3, 1) := by decide +kernel
theorem dX6_scoreOf_27 : decode cX6_scoreOf 27 = .ok (.iaload, 1) := by decide +kernel
theorem dX6_scoreOf_28 : decode cX6_scoreOf 28 = .ok (.aload_n 0, 1) := by decide +kernel
theorem dX6_scoreOf_29 : decode cX6_scoreOf 29 = .ok (.iload_n 3, 1) := by decide +kernel
theorem dX6_scoreOf_30 : decode cX6_scoreOf 30 = .ok (.iload_n 1, 1) := by decide +kernel
theorem dX6_scoreOf_31 : decode cX6_scoreOf 31 = .ok (.invokevirtual 133, 3) := by decide +kernel
theorem dX6_scoreOf_34 : decode cX6_scoreOf 34 = .ok (.imul, 1) := by decide +kernel
theorem dX6_scoreOf_35 : decode cX6_scoreOf 35 = .ok (.iadd, 1) := by decide +kernel
theorem dX6_scoreOf_36 : decode cX6_scoreOf 36 = .ok (.istore_n 2, 1) := by decide +kernel
theorem dX6_scoreOf_37 : decode cX6_scoreOf 37 = .ok (.iinc 3 1, 3) := by decide +kernel
theorem dX6_scoreOf_40 : decode cX6_scoreOf 40 = .ok (.goto (-27), 3) := by decide +kernel
theorem dX6_scoreOf_43 : decode cX6_scoreOf 43 = .ok (.iload_n 2, 1) := by decide +kernel
theorem dX6_scoreOf_44 : decode cX6_scoreOf 44 = .ok (.ireturn, 1) := by decide +kernel
set_option maxRecDepth 20000 in
theorem ggX6_best_X6_isPossible : GoodIn wsX6_best wsX6_isPossible := goodIn_r _ [5, 6, 7, 8, 9, 4, 10, 11, 12, 13, 14, 15, 16, 17, 18, 19, 20, 89, 90, 91, 92, 93, 94, 95, 96, 97, 98, 99, 100, 101, 102, 103] (by decide +kernel) (by decide +kernel)
set_option maxRecDepth 20000 in
theorem gX6_best_X6_isPossible : GoodIn wsX6_best (wsV RX6 136 RX6 yX6_isPossible wsX6_isPossible) := goodIn_app (goodIn_of _ (by decide +kernel)) ggX6_best_X6_isPossible
set_option maxRecDepth 20000 in
theorem ggX6_best_X6_scoreOf : GoodIn wsX6_best wsX6_scoreOf := goodIn_r _ [24, 25, 26, 27, 28, 29, 30, 4, 31, 6, 7, 8, 9, 10, 11, 12, 13, 14, 15, 16, 17, 18, 19, 20, 32, 33, 34, 35, 36, 37, 38, 39, 40, 41, 42, 43, 44, 45, 46, 47, 48, 49, 50, 51, 52, 53, 54, 55, 56, 57, 58, 59, 60, 61, 62, 63, 64, 65, 66, 67, 68, 69, 70, 71, 72, 73, 74, 75, 76, 77, 78, 79, 80, 81, 82, 83, 84, 85, 86, 87, 88, 89, 90, 91, 92, 93, 94, 95, 96, 97, 98, 99, 100, 101, 102, 103] (by decide +kernel) (by decide +kernel)
set_option maxRecDepth 20000 in
theorem gX6_best_X6_scoreOf : GoodIn wsX6_best (wsV RX6 139 RX6 yX6_scoreOf wsX6_scoreOf) := goodIn_app (goodIn_of _ (by decide +kernel)) ggX6_best_X6_scoreOf
theorem dX6_best_0 : decode cX6_best 0 = .ok (.iconst 0, 1) := by decide +kernel
theorem dX6_best_1 : decode cX6_best 1 = .ok (.istore_n 1, 1) := by decide +kernel
theorem dX6_best_2 : decode cX6_best 2 = .ok (.iconst 1, 1) := by decide +kernel
theorem dX6_best_3 : decode cX6_best 3 = .ok (.istore_n 2, 1) := by decide +kernel
theorem dX6_best_4 : decode cX6_best 4 = .ok (.iload_n 2, 1) := by decide +kernel
theorem dX6_best_5 : decode cX6_best 5 = .ok (.bipush 6, 2) := by decide +kernel
theorem dX6_best_7 : decode cX6_best 7 = .ok (.if_icmp .ge 32, 3) := by decide +kernel
theorem dX6_best_10 : decode cX6_best 10 = .ok (.aload_n 0, 1) := by decide +kernel
theorem dX6_best_11 : decode cX6_best 11 = .ok (.iload_n 2, 1) := by decide +kernel
theorem dX6_best_12 : decode cX6_best 12 = .ok (.invokevirtual 136, 3) := by decide +kernel
theorem dX6_best_15 : decode cX6_best 15 = .ok (.ifCond .eq 18, 3) := by decide +kernel
theorem dX6_best_18 : decode cX6_best 18 = .ok (.aload_n 0, 1) := by decide +kernel
theorem dX6_best_19 : decode cX6_best 19 = .ok (.iload_n 2, 1) := by decide +kernel
theorem dX6_best_20 : decode cX6_best 20 = .ok (.invokevirtual 139, 3) := by decide +kernel
theorem dX6_best_23 : decode cX6_best 23 = .ok (.aload_n 0, 1) := by decide +kernel
theorem dX6_best_24 : decode cX6_best 24 = .ok (.iload_n 1, 1) := by decide +kernel
theorem dX6_best_25 : decode cX6_best 25 = .ok (.invokevirtual 139, 3) := by decide +kernel
theorem dX6_best_28 : decode cX6_best 28 = .ok (.if_icmp .ge 5, 3) := by decide +kernel
theorem dX6_best_31 : decode cX6_best 31 = .ok (.iload_n 2, 1) := by decide +kernel
theorem dX6_best_32 : decode cX6_best 32 = .ok (.istore_n 1, 1) := by decide +kernel
theorem dX6_best_33 : decode cX6_best 33 = .ok (.iinc 2 1, 3) := by decide +kernel
theorem dX6_best_36 : decode cX6_best 36 = .ok (.goto (-32), 3) := by decide +kernel
theorem dX6_best_39 : decode cX6_best 39 = .ok (.iload_n 1, 1) := by decide +kernel
theorem dX6_best_40 : decode cX6_best 40 = .ok (.ireturn, 1) := by decide +kernel
set_option maxRecDepth 20000 in
theorem ggX6_isSegment_X6_segments : GoodIn wsX6_isSegment wsX6_segments := goodIn_r _ [6, 7, 8, 9, 10, 11, 12, 13, 14, 15, 16, 17, 18, 19, 20, 21, 22] (by decide +kernel) (by decide +kernel)
set_option maxRecDepth 20000 in
theorem gX6_isSegment_X6_segments : GoodIn wsX6_isSegment (wsV RX6 62 RX6 yX6_segments wsX6_segments) := goodIn_app (goodIn_of _ (by decide +kernel)) ggX6_isSegment_X6_segments
theorem dX6_isSegment_0 : decode cX6_isSegment 0 = .ok (.iload_n 1, 1) := by decide +kernel
theorem dX6_isSegment_1 : decode cX6_isSegment 1 = .ok (.ifCond .lt 19, 3) := by decide +kernel
theorem dX6_isSegment_4 : decode cX6_isSegment 4 = .ok (.iload_n 1, 1) := by decide +kernel
theorem dX6_isSegment_5 : decode cX6_isSegment 5 = .ok (.aload_n 0, 1) := by decide +kernel
theorem dX6_isSegment_6 : decode cX6_isSegment 6 = .ok (.aload_n 0, 1) := by decide +kernel
theorem dX6_isSegment_7 : decode cX6_isSegment 7 = .ok (.getfield 13, 3) := by decide +kernel
theorem dX6_isSegment_10 : decode cX6_isSegment 10 = .ok (.invokevirtual 62, 3) := by decide +kernel
theorem dX6_isSegment_13 : decode cX6_isSegment 13 = .ok (.if_icmp .ge 7, 3) := by decide +kernel
theorem dX6_isSegment_16 : decode cX6_isSegment 16 = .ok (.iconst 1, 1) := by decide +kernel
theorem dX6_isSegment_17 : decode cX6_isSegment 17 = .ok (.goto 4, 3) := by decide +kernel
theorem dX6_isSegment_20 : decode cX6_isSegment 20 = .ok (.iconst 0, 1) := by decide +kernel
theorem dX6_isSegment_21 : decode cX6_isSegment 21 = .ok (.ireturn, 1) := by decide +kernel
set_option maxRecDepth 20000 in
theorem ggX6_asks_X6_isSegment : GoodIn wsX6_asks wsX6_isSegment := goodIn_r _ [7, 2, 8, 9, 10, 6, 11, 12, 26, 27, 28, 29, 30, 31, 32, 33, 34, 35, 36, 37, 38, 39, 40] (by decide +kernel) (by decide +kernel)
set_option maxRecDepth 20000 in
theorem gX6_asks_X6_isSegment : GoodIn wsX6_asks (wsV RX6 142 RX6 yX6_isSegment wsX6_isSegment) := goodIn_app (goodIn_of _ (by decide +kernel)) ggX6_asks_X6_isSegment
set_option maxRecDepth 20000 in
theorem ggX6_asks_X6_isIn : GoodIn wsX6_asks wsX6_isIn := goodIn_r _ [15] (by decide +kernel) (by decide +kernel)
set_option maxRecDepth 20000 in
theorem gX6_asks_X6_isIn : GoodIn wsX6_asks (va_wsS RX6 43 yX6_isIn wsX6_isIn) := goodIn_app (goodIn_of _ (by decide +kernel)) ggX6_asks_X6_isIn
set_option maxRecDepth 20000 in
theorem ggX6_asks_X6_choose : GoodIn wsX6_asks wsX6_choose := goodIn_r _ [19, 20, 12, 21, 22, 23, 24, 25, 26, 27, 28, 29, 30, 31, 32, 33, 34, 35, 36, 37, 38, 39, 40] (by decide +kernel) (by decide +kernel)
set_option maxRecDepth 20000 in
theorem gX6_asks_X6_choose : GoodIn wsX6_asks (wsV RX6 145 RX6 yX6_choose wsX6_choose) := goodIn_app (goodIn_of _ (by decide +kernel)) ggX6_asks_X6_choose
theorem dX6_asks_0 : decode cX6_asks 0 = .ok (.aload_n 0, 1) := by decide +kernel
theorem dX6_asks_1 : decode cX6_asks 1 = .ok (.aload_n 0, 1) := by decide +kernel
theorem dX6_asks_2 : decode cX6_asks 2 = .ok (.iload_n 1, 1) := by decide +kernel
theorem dX6_asks_3 : decode cX6_asks 3 = .ok (.invokevirtual 142, 3) := by decide +kernel
theorem dX6_asks_6 : decode cX6_asks 6 = .ok (.ifCond .eq 17, 3) := by decide +kernel
theorem dX6_asks_9 : decode cX6_asks 9 = .ok (.iload_n 2, 1) := by decide +kernel
theorem dX6_asks_10 : decode cX6_asks 10 = .ok (.i2l, 1) := by decide +kernel
theorem dX6_asks_11 : decode cX6_asks 11 = .ok (.iconst 0, 1) := by decide +kernel
theorem dX6_asks_12 : decode cX6_asks 12 = .ok (.iconst 5, 1) := by decide +kernel
theorem dX6_asks_13 : decode cX6_asks 13 = .ok (.invokestatic 43, 3) := by decide +kernel
theorem dX6_asks_16 : decode cX6_asks 16 = .ok (.ifCond .eq 7, 3) := by decide +kernel
theorem dX6_asks_19 : decode cX6_asks 19 = .ok (.iconst 0, 1) := by decide +kernel
theorem dX6_asks_20 : decode cX6_asks 20 = .ok (.goto 4, 3) := by decide +kernel
theorem dX6_asks_23 : decode cX6_asks 23 = .ok (.iconst 1, 1) := by decide +kernel
theorem dX6_asks_24 : decode cX6_asks 24 = .ok (.putfield 38, 3) := by decide +kernel
theorem dX6_asks_27 : decode cX6_asks 27 = .ok (.aload_n 0, 1) := by decide +kernel
theorem dX6_asks_28 : decode cX6_asks 28 = .ok (.getfield 38, 3) := by decide +kernel
theorem dX6_asks_31 : decode cX6_asks 31 = .ok (.ifCond .ne 12, 3) := by decide +kernel
theorem dX6_asks_34 : decode cX6_asks 34 = .ok (.aload_n 0, 1) := by decide +kernel
theorem dX6_asks_35 : decode cX6_asks 35 = .ok (.iload_n 1, 1) := by decide +kernel
theorem dX6_asks_36 : decode cX6_asks 36 = .ok (.aload_n 0, 1) := by decide +kernel
theorem dX6_asks_37 : decode cX6_asks 37 = .ok (.getfield 13, 3) := by decide +kernel
theorem dX6_asks_40 : decode cX6_asks 40 = .ok (.invokevirtual 145, 3) := by decide +kernel
theorem dX6_asks_43 : decode cX6_asks 43 = .ok (.aload_n 0, 1) := by decide +kernel
theorem dX6_asks_44 : decode cX6_asks 44 = .ok (.getfield 38, 3) := by decide +kernel
theorem dX6_asks_47 : decode cX6_asks 47 = .ok (.ifCond .ne 7, 3) := by decide +kernel
theorem dX6_asks_50 : decode cX6_asks 50 = .ok (.iconst 1, 1) := by decide +kernel
theorem dX6_asks_51 : decode cX6_asks 51 = .ok (.goto 4, 3) := by decide +kernel
theorem dX6_asks_54 : decode cX6_asks 54 = .ok (.iconst 0, 1) := by decide +kernel
theorem dX6_asks_55 : decode cX6_asks 55 = .ok (.ireturn, 1) := by decide +kernel
set_option maxRecDepth 20000 in
theorem ggX6_sizeWith_X6_asks : GoodIn wsX6_sizeWith wsX6_asks := goodIn_r _ [5, 6, 7, 8, 9, 10, 4, 11, 12, 13, 14, 15, 16, 17, 18, 19, 20, 21, 22, 23, 24, 25, 26, 27, 28, 29, 81, 82, 83, 84, 85, 86, 87, 88, 89, 90, 91, 92, 93, 94, 95] (by decide +kernel) (by decide +kernel)
set_option maxRecDepth 20000 in
theorem gX6_sizeWith_X6_asks : GoodIn wsX6_sizeWith (wsV RX6 148 RX6 yX6_asks wsX6_asks) := goodIn_app (goodIn_of _ (by decide +kernel)) ggX6_sizeWith_X6_asks
set_option maxRecDepth 20000 in
theorem ggX6_sizeWith_X6_isPossible : GoodIn wsX6_sizeWith wsX6_isPossible := goodIn_r _ [33, 29, 34, 35, 36, 4, 37, 38, 39, 40, 41, 42, 43, 44, 45, 46, 24, 81, 82, 83, 84, 85, 86, 87, 88, 89, 90, 91, 92, 93, 94, 95] (by decide +kernel) (by decide +kernel)
set_option maxRecDepth 20000 in
theorem gX6_sizeWith_X6_isPossible : GoodIn wsX6_sizeWith (wsV RX6 136 RX6 yX6_isPossible wsX6_isPossible) := goodIn_app (goodIn_of _ (by decide +kernel)) ggX6_sizeWith_X6_isPossible
set_option maxRecDepth 20000 in
theorem ggX6_sizeWith_X6_sizeOf : GoodIn wsX6_sizeWith wsX6_sizeOf := goodIn_r _ [50, 29, 34, 35, 36, 4, 37, 38, 39, 40, 41, 42, 43, 44, 45, 46, 24, 51, 52, 53, 54, 55, 56, 57, 58, 59, 60, 61, 62, 63, 64, 65, 66, 67, 68, 27, 69, 70, 71, 72, 73, 25, 26, 28, 74, 75, 76, 77, 78, 79, 80, 81, 82, 83, 84, 85, 86, 87, 88, 89, 90, 91, 92, 93, 94, 95] (by decide +kernel) (by decide +kernel)
set_option maxRecDepth 20000 in
theorem gX6_sizeWith_X6_sizeOf : GoodIn wsX6_sizeWith (wsV RX6 130 RX6 yX6_sizeOf wsX6_sizeOf) := goodIn_app (goodIn_of _ (by decide +kernel)) ggX6_sizeWith_X6_sizeOf
theorem dX6_sizeWith_0 : decode cX6_sizeWith 0 = .ok (.aload_n 0, 1) := by decide +kernel
theorem dX6_sizeWith_1 : decode cX6_sizeWith 1 = .ok (.iload_n 1, 1) := by decide +kernel
theorem dX6_sizeWith_2 : decode cX6_sizeWith 2 = .ok (.iload_n 2, 1) := by decide +kernel
theorem dX6_sizeWith_3 : decode cX6_sizeWith 3 = .ok (.invokevirtual 148, 3) := by decide +kernel
theorem dX6_sizeWith_6 : decode cX6_sizeWith 6 = .ok (.ifCond .ne 5, 3) := by decide +kernel
theorem dX6_sizeWith_9 : decode cX6_sizeWith 9 = .ok (.iconst 0, 1) := by decide +kernel
theorem dX6_sizeWith_10 : decode cX6_sizeWith 10 = .ok (.ireturn, 1) := by decide +kernel
theorem dX6_sizeWith_11 : decode cX6_sizeWith 11 = .ok (.aload_n 0, 1) := by decide +kernel
theorem dX6_sizeWith_12 : decode cX6_sizeWith 12 = .ok (.iload_n 2, 1) := by decide +kernel
theorem dX6_sizeWith_13 : decode cX6_sizeWith 13 = .ok (.invokevirtual 136, 3) := by decide +kernel
theorem dX6_sizeWith_16 : decode cX6_sizeWith 16 = .ok (.ifCond .eq 11, 3) := by decide +kernel
theorem dX6_sizeWith_19 : decode cX6_sizeWith 19 = .ok (.aload_n 0, 1) := by decide +kernel
theorem dX6_sizeWith_20 : decode cX6_sizeWith 20 = .ok (.iload_n 2, 1) := by decide +kernel
theorem dX6_sizeWith_21 : decode cX6_sizeWith 21 = .ok (.invokevirtual 130, 3) := by decide +kernel
theorem dX6_sizeWith_24 : decode cX6_sizeWith 24 = .ok (.goto 4, 3) := by decide +kernel
theorem dX6_sizeWith_27 : decode cX6_sizeWith 27 = .ok (.iconst (-1), 1) := by decide +kernel
theorem dX6_sizeWith_28 : decode cX6_sizeWith 28 = .ok (.ireturn, 1) := by decide +kernel
set_option maxRecDepth 20000 in
theorem ggX6_costWith_X6_asks : GoodIn wsX6_costWith wsX6_asks := goodIn_r _ [6, 7, 8, 9, 10, 11, 5, 12, 13, 14, 15, 16, 17, 18, 19, 20, 21, 22, 23, 24, 25, 26, 27, 28, 29, 30, 98, 99, 100, 101, 102, 103, 104, 105, 106, 107, 108, 109, 110, 111, 112] (by decide +kernel) (by decide +kernel)
set_option maxRecDepth 20000 in
theorem gX6_costWith_X6_asks : GoodIn wsX6_costWith (wsV RX6 148 RX6 yX6_asks wsX6_asks) := goodIn_app (goodIn_of _ (by decide +kernel)) ggX6_costWith_X6_asks
set_option maxRecDepth 20000 in
theorem ggX6_costWith_X6_fail : GoodIn wsX6_costWith wsX6_fail := goodIn_r _ [34, 7, 98, 99, 100, 101, 102, 103, 104, 105, 106, 107, 108, 109, 110, 111, 112] (by decide +kernel) (by decide +kernel)
set_option maxRecDepth 20000 in
theorem gX6_costWith_X6_fail : GoodIn wsX6_costWith (wsV RX6 54 RX6 yX6_fail wsX6_fail) := goodIn_app (goodIn_of _ (by decide +kernel)) ggX6_costWith_X6_fail
set_option maxRecDepth 20000 in
theorem ggX6_costWith_X6_isPossible : GoodIn wsX6_costWith wsX6_isPossible := goodIn_r _ [38, 30, 39, 40, 41, 5, 42, 43, 44, 45, 46, 47, 48, 49, 50, 51, 25, 98, 99, 100, 101, 102, 103, 104, 105, 106, 107, 108, 109, 110, 111, 112] (by decide +kernel) (by decide +kernel)
set_option maxRecDepth 20000 in
theorem gX6_costWith_X6_isPossible : GoodIn wsX6_costWith (wsV RX6 136 RX6 yX6_isPossible wsX6_isPossible) := goodIn_app (goodIn_of _ (by decide +kernel)) ggX6_costWith_X6_isPossible
set_option maxRecDepth 20000 in
theorem ggX6_costWith_X6_costOf : GoodIn wsX6_costWith wsX6_costOf := goodIn_r _ [55, 56, 57, 25, 30, 58, 59, 28, 60, 61, 26, 27, 29, 62, 63, 64, 5, 65, 39, 40, 41, 42, 43, 44, 45, 46, 47, 48, 49, 50, 51, 66, 67, 68, 69, 70, 71, 72, 73, 74, 75, 76, 77, 78, 79, 80, 81, 82, 83, 84, 85, 86, 87, 88, 89, 90, 91, 92, 93, 94, 95, 96, 97, 98, 99, 100, 101, 102, 103, 104, 105, 106, 107, 108, 109, 110, 111, 112] (by decide +kernel) (by decide +kernel)
set_option maxRecDepth 20000 in
theorem gX6_costWith_X6_costOf : GoodIn wsX6_costWith (wsV RX6 133 RX6 yX6_costOf wsX6_costOf) := goodIn_app (goodIn_of _ (by decide +kernel)) ggX6_costWith_X6_costOf
theorem dX6_costWith_0 : decode cX6_costWith 0 = .ok (.aload_n 0, 1) := by decide +kernel
theorem dX6_costWith_1 : decode cX6_costWith 1 = .ok (.iload_n 2, 1) := by decide +kernel
theorem dX6_costWith_2 : decode cX6_costWith 2 = .ok (.iload_n 3, 1) := by decide +kernel
theorem dX6_costWith_3 : decode cX6_costWith 3 = .ok (.invokevirtual 148, 3) := by decide +kernel
theorem dX6_costWith_6 : decode cX6_costWith 6 = .ok (.ifCond .eq 15, 3) := by decide +kernel
theorem dX6_costWith_9 : decode cX6_costWith 9 = .ok (.iload_n 1, 1) := by decide +kernel
theorem dX6_costWith_10 : decode cX6_costWith 10 = .ok (.ifCond .lt 11, 3) := by decide +kernel
theorem dX6_costWith_13 : decode cX6_costWith 13 = .ok (.iload_n 1, 1) := by decide +kernel
theorem dX6_costWith_14 : decode cX6_costWith 14 = .ok (.aload_n 0, 1) := by decide +kernel
theorem dX6_costWith_15 : decode cX6_costWith 15 = .ok (.getfield 65, 3) := by decide +kernel
theorem dX6_costWith_18 : decode cX6_costWith 18 = .ok (.if_icmp .lt 9, 3) := by decide +kernel
theorem dX6_costWith_21 : decode cX6_costWith 21 = .ok (.aload_n 0, 1) := by decide +kernel
theorem dX6_costWith_22 : decode cX6_costWith 22 = .ok (.iconst 1, 1) := by decide +kernel
theorem dX6_costWith_23 : decode cX6_costWith 23 = .ok (.invokevirtual 54, 3) := by decide +kernel
theorem dX6_costWith_26 : decode cX6_costWith 26 = .ok (.ireturn, 1) := by decide +kernel
theorem dX6_costWith_27 : decode cX6_costWith 27 = .ok (.aload_n 0, 1) := by decide +kernel
theorem dX6_costWith_28 : decode cX6_costWith 28 = .ok (.iload_n 3, 1) := by decide +kernel
theorem dX6_costWith_29 : decode cX6_costWith 29 = .ok (.invokevirtual 136, 3) := by decide +kernel
theorem dX6_costWith_32 : decode cX6_costWith 32 = .ok (.ifCond .eq 12, 3) := by decide +kernel
theorem dX6_costWith_35 : decode cX6_costWith 35 = .ok (.aload_n 0, 1) := by decide +kernel
theorem dX6_costWith_36 : decode cX6_costWith 36 = .ok (.iload_n 1, 1) := by decide +kernel
theorem dX6_costWith_37 : decode cX6_costWith 37 = .ok (.iload_n 3, 1) := by decide +kernel
theorem dX6_costWith_38 : decode cX6_costWith 38 = .ok (.invokevirtual 133, 3) := by decide +kernel
theorem dX6_costWith_41 : decode cX6_costWith 41 = .ok (.goto 4, 3) := by decide +kernel
theorem dX6_costWith_44 : decode cX6_costWith 44 = .ok (.iconst (-1), 1) := by decide +kernel
theorem dX6_costWith_45 : decode cX6_costWith 45 = .ok (.ireturn, 1) := by decide +kernel
set_option maxRecDepth 20000 in
theorem ggX6_scoreWith_X6_asks : GoodIn wsX6_scoreWith wsX6_asks := goodIn_r _ [5, 6, 7, 8, 9, 10, 4, 11, 12, 13, 14, 15, 16, 17, 18, 19, 20, 21, 22, 23, 24, 25, 26, 27, 28, 29, 111, 112, 113, 114, 115, 116, 117, 118, 119, 120, 121, 122, 123, 124, 125] (by decide +kernel) (by decide +kernel)
set_option maxRecDepth 20000 in
theorem gX6_scoreWith_X6_asks : GoodIn wsX6_scoreWith (wsV RX6 148 RX6 yX6_asks wsX6_asks) := goodIn_app (goodIn_of _ (by decide +kernel)) ggX6_scoreWith_X6_asks
set_option maxRecDepth 20000 in
theorem ggX6_scoreWith_X6_isPossible : GoodIn wsX6_scoreWith wsX6_isPossible := goodIn_r _ [33, 29, 34, 35, 36, 4, 37, 38, 39, 40, 41, 42, 43, 44, 45, 46, 24, 111, 112, 113, 114, 115, 116, 117, 118, 119, 120, 121, 122, 123, 124, 125] (by decide +kernel) (by decide +kernel)
set_option maxRecDepth 20000 in
theorem gX6_scoreWith_X6_isPossible : GoodIn wsX6_scoreWith (wsV RX6 136 RX6 yX6_isPossible wsX6_isPossible) := goodIn_app (goodIn_of _ (by decide +kernel)) ggX6_scoreWith_X6_isPossible
set_option maxRecDepth 20000 in
theorem ggX6_scoreWith_X6_scoreOf : GoodIn wsX6_scoreWith wsX6_scoreOf := goodIn_r _ [50, 51, 52, 53, 54, 55, 56, 4, 57, 29, 34, 35, 36, 37, 38, 39, 40, 41, 42, 43, 44, 45, 46, 24, 58, 59, 60, 61, 62, 63, 64, 65, 66, 67, 68, 69, 70, 71, 72, 73, 74, 75, 27, 76, 77, 78, 79, 80, 25, 26, 28, 81, 82, 83, 84, 85, 86, 87, 88, 89, 90, 91, 92, 93, 94, 95, 96, 97, 98, 99, 100, 101, 102, 103, 104, 105, 106, 107, 108, 109, 110, 111, 112, 113, 114, 115, 116, 117, 118, 119, 120, 121, 122, 123, 124, 125] (by decide +kernel) (by decide +kernel)
set_option maxRecDepth 20000 in
theorem gX6_scoreWith_X6_scoreOf : GoodIn wsX6_scoreWith (wsV RX6 139 RX6 yX6_scoreOf wsX6_scoreOf) := goodIn_app (goodIn_of _ (by decide +kernel)) ggX6_scoreWith_X6_scoreOf
theorem dX6_scoreWith_0 : decode cX6_scoreWith 0 = .ok (.aload_n 0, 1) := by decide +kernel
theorem dX6_scoreWith_1 : decode cX6_scoreWith 1 = .ok (.iload_n 1, 1) := by decide +kernel
theorem dX6_scoreWith_2 : decode cX6_scoreWith 2 = .ok (.iload_n 2, 1) := by decide +kernel
theorem dX6_scoreWith_3 : decode cX6_scoreWith 3 = .ok (.invokevirtual 148, 3) := by decide +kernel
theorem dX6_scoreWith_6 : decode cX6_scoreWith 6 = .ok (.ifCond .ne 5, 3) := by decide +kernel
theorem dX6_scoreWith_9 : decode cX6_scoreWith 9 = .ok (.iconst 0, 1) := by decide +kernel
theorem dX6_scoreWith_10 : decode cX6_scoreWith 10 = .ok (.ireturn, 1) := by decide +kernel
theorem dX6_scoreWith_11 : decode cX6_scoreWith 11 = .ok (.aload_n 0, 1) := by decide +kernel
theorem dX6_scoreWith_12 : decode cX6_scoreWith 12 = .ok (.iload_n 2, 1) := by decide +kernel
theorem dX6_scoreWith_13 : decode cX6_scoreWith 13 = .ok (.invokevirtual 136, 3) := by decide +kernel
theorem dX6_scoreWith_16 : decode cX6_scoreWith 16 = .ok (.ifCond .eq 11, 3) := by decide +kernel
theorem dX6_scoreWith_19 : decode cX6_scoreWith 19 = .ok (.aload_n 0, 1) := by decide +kernel
theorem dX6_scoreWith_20 : decode cX6_scoreWith 20 = .ok (.iload_n 2, 1) := by decide +kernel
theorem dX6_scoreWith_21 : decode cX6_scoreWith 21 = .ok (.invokevirtual 139, 3) := by decide +kernel
theorem dX6_scoreWith_24 : decode cX6_scoreWith 24 = .ok (.goto 4, 3) := by decide +kernel
theorem dX6_scoreWith_27 : decode cX6_scoreWith 27 = .ok (.iconst (-1), 1) := by decide +kernel
theorem dX6_scoreWith_28 : decode cX6_scoreWith 28 = .ok (.ireturn, 1) := by decide +kernel
set_option maxRecDepth 20000 in
theorem ggX6_choose__X6_segments : GoodIn wsX6_choose_ wsX6_segments := goodIn_r _ [8, 9, 105, 106, 107, 108, 109, 110, 111, 112, 113, 114, 115, 116, 117, 118, 119] (by decide +kernel) (by decide +kernel)
set_option maxRecDepth 20000 in
theorem gX6_choose__X6_segments : GoodIn wsX6_choose_ (wsV RX6 62 RX6 yX6_segments wsX6_segments) := goodIn_app (goodIn_of _ (by decide +kernel)) ggX6_choose__X6_segments
set_option maxRecDepth 20000 in
theorem ggX6_choose__X6_choose : GoodIn wsX6_choose_ wsX6_choose := goodIn_r _ [13, 14, 9, 15, 16, 17, 18, 19, 105, 106, 107, 108, 109, 110, 111, 112, 113, 114, 115, 116, 117, 118, 119] (by decide +kernel) (by decide +kernel)
set_option maxRecDepth 20000 in
theorem gX6_choose__X6_choose : GoodIn wsX6_choose_ (wsV RX6 145 RX6 yX6_choose wsX6_choose) := goodIn_app (goodIn_of _ (by decide +kernel)) ggX6_choose__X6_choose
set_option maxRecDepth 20000 in
theorem ggX6_choose__X6_best : GoodIn wsX6_choose_ wsX6_best := goodIn_r _ [23, 24, 25, 26, 7, 27, 19, 28, 29, 30, 31, 32, 33, 34, 35, 36, 37, 38, 39, 40, 14, 41, 42, 43, 44, 45, 46, 47, 48, 49, 50, 51, 52, 53, 54, 55, 56, 57, 58, 59, 60, 61, 62, 63, 64, 65, 66, 67, 68, 69, 17, 70, 71, 72, 73, 74, 15, 16, 18, 75, 76, 77, 78, 79, 80, 81, 82, 83, 84, 85, 86, 87, 88, 89, 90, 91, 92, 93, 94, 95, 96, 97, 98, 99, 100, 101, 102, 103, 104, 105, 106, 107, 108, 109, 110, 111, 112, 113, 114, 115, 116, 117, 118, 119] (by decide +kernel) (by decide +kernel)
set_option maxRecDepth 20000 in
theorem gX6_choose__X6_best : GoodIn wsX6_choose_ (wsV RX6 152 RX6 yX6_best wsX6_best) := goodIn_app (goodIn_of _ (by decide +kernel)) ggX6_choose__X6_best
theorem dX6_choose__0 : decode cX6_choose_ 0 = .ok (.aload_n 0, 1) := by decide +kernel
theorem dX6_choose__1 : decode cX6_choose_ 1 = .ok (.iconst 0, 1) := by decide +kernel
theorem dX6_choose__2 : decode cX6_choose_ 2 = .ok (.putfield 38, 3) := by decide +kernel
theorem dX6_choose__5 : decode cX6_choose_ 5 = .ok (.iconst 0, 1) := by decide +kernel
theorem dX6_choose__6 : decode cX6_choose_ 6 = .ok (.istore_n 1, 1) := by decide +kernel
theorem dX6_choose__7 : decode cX6_choose_ 7 = .ok (.iconst 0, 1) := by decide +kernel
theorem dX6_choose__8 : decode cX6_choose_ 8 = .ok (.istore_n 2, 1) := by decide +kernel
theorem dX6_choose__9 : decode cX6_choose_ 9 = .ok (.iload_n 2, 1) := by decide +kernel
theorem dX6_choose__10 : decode cX6_choose_ 10 = .ok (.aload_n 0, 1) := by decide +kernel
theorem dX6_choose__11 : decode cX6_choose_ 11 = .ok (.aload_n 0, 1) := by decide +kernel
theorem dX6_choose__12 : decode cX6_choose_ 12 = .ok (.getfield 13, 3) := by decide +kernel
theorem dX6_choose__15 : decode cX6_choose_ 15 = .ok (.invokevirtual 62, 3) := by decide +kernel
theorem dX6_choose__18 : decode cX6_choose_ 18 = .ok (.if_icmp .ge 48, 3) := by decide +kernel
theorem dX6_choose__21 : decode cX6_choose_ 21 = .ok (.aload_n 0, 1) := by decide +kernel
theorem dX6_choose__22 : decode cX6_choose_ 22 = .ok (.iload_n 2, 1) := by decide +kernel
theorem dX6_choose__23 : decode cX6_choose_ 23 = .ok (.aload_n 0, 1) := by decide +kernel
theorem dX6_choose__24 : decode cX6_choose_ 24 = .ok (.getfield 13, 3) := by decide +kernel
theorem dX6_choose__27 : decode cX6_choose_ 27 = .ok (.invokevirtual 145, 3) := by decide +kernel
theorem dX6_choose__30 : decode cX6_choose_ 30 = .ok (.aload_n 0, 1) := by decide +kernel
theorem dX6_choose__31 : decode cX6_choose_ 31 = .ok (.invokevirtual 152, 3) := by decide +kernel
theorem dX6_choose__34 : decode cX6_choose_ 34 = .ok (.istore_n 3, 1) := by decide +kernel
theorem dX6_choose__35 : decode cX6_choose_ 35 = .ok (.iload_n 1, 1) := by decide +kernel
theorem dX6_choose__36 : decode cX6_choose_ 36 = .ok (.iload_n 3, 1) := by decide +kernel
theorem dX6_choose__37 : decode cX6_choose_ 37 = .ok (.aload_n 0, 1) := by decide +kernel
theorem dX6_choose__38 : decode cX6_choose_ 38 = .ok (.getfield 17, 3) := by decide +kernel
theorem dX6_choose__41 : decode cX6_choose_ 41 = .ok (.iload_n 2, 1) := by decide +kernel
theorem dX6_choose__42 : decode cX6_choose_ 42 = .ok (.iaload, 1) := by decide +kernel
theorem dX6_choose__43 : decode cX6_choose_ 43 = .ok (.if_icmp .ne 7, 3) := by decide +kernel
theorem dX6_choose__46 : decode cX6_choose_ 46 = .ok (.iconst 0, 1) := by decide +kernel
theorem dX6_choose__47 : decode cX6_choose_ 47 = .ok (.goto 4, 3) := by decide +kernel
theorem dX6_choose__50 : decode cX6_choose_ 50 = .ok (.iconst 1, 1) := by decide +kernel
theorem dX6_choose__51 : decode cX6_choose_ 51 = .ok (.iadd, 1) := by decide +kernel
theorem dX6_choose__52 : decode cX6_choose_ 52 = .ok (.istore_n 1, 1) := by decide +kernel
theorem dX6_choose__53 : decode cX6_choose_ 53 = .ok (.aload_n 0, 1) := by decide +kernel
theorem dX6_choose__54 : decode cX6_choose_ 54 = .ok (.getfield 17, 3) := by decide +kernel
theorem dX6_choose__57 : decode cX6_choose_ 57 = .ok (.iload_n 2, 1) := by decide +kernel
theorem dX6_choose__58 : decode cX6_choose_ 58 = .ok (.iload_n 3, 1) := by decide +kernel
theorem dX6_choose__59 : decode cX6_choose_ 59 = .ok (.iastore, 1) := by decide +kernel
theorem dX6_choose__60 : decode cX6_choose_ 60 = .ok (.iinc 2 1, 3) := by decide +kernel
theorem dX6_choose__63 : decode cX6_choose_ 63 = .ok (.goto (-54), 3) := by decide +kernel
theorem dX6_choose__66 : decode cX6_choose_ 66 = .ok (.iload_n 1, 1) := by decide +kernel
theorem dX6_choose__67 : decode cX6_choose_ 67 = .ok (.ireturn, 1) := by decide +kernel
set_option maxRecDepth 20000 in
theorem ggX6_use_X6_asks : GoodIn wsX6_use wsX6_asks := goodIn_r _ [6, 7, 8, 9, 10, 11, 5, 12, 13, 14, 15, 16, 17, 18, 19, 20, 21, 22, 23, 24, 25, 26, 27, 28, 29, 30, 52, 53, 54, 55, 56, 57, 58, 59, 60, 61, 62, 63, 64, 65, 66] (by decide +kernel) (by decide +kernel)
set_option maxRecDepth 20000 in
theorem gX6_use_X6_asks : GoodIn wsX6_use (wsV RX6 148 RX6 yX6_asks wsX6_asks) := goodIn_app (goodIn_of _ (by decide +kernel)) ggX6_use_X6_asks
set_option maxRecDepth 20000 in
theorem ggX6_use_X6_isPossible : GoodIn wsX6_use wsX6_isPossible := goodIn_r _ [34, 30, 35, 36, 37, 5, 38, 39, 40, 41, 42, 43, 44, 45, 46, 47, 25, 52, 53, 54, 55, 56, 57, 58, 59, 60, 61, 62, 63, 64, 65, 66] (by decide +kernel) (by decide +kernel)
set_option maxRecDepth 20000 in
theorem gX6_use_X6_isPossible : GoodIn wsX6_use (wsV RX6 136 RX6 yX6_isPossible wsX6_isPossible) := goodIn_app (goodIn_of _ (by decide +kernel)) ggX6_use_X6_isPossible
set_option maxRecDepth 20000 in
theorem ggX6_use_X6_fail : GoodIn wsX6_use wsX6_fail := goodIn_r _ [51, 7, 52, 53, 54, 55, 56, 57, 58, 59, 60, 61, 62, 63, 64, 65, 66] (by decide +kernel) (by decide +kernel)
set_option maxRecDepth 20000 in
theorem gX6_use_X6_fail : GoodIn wsX6_use (wsV RX6 54 RX6 yX6_fail wsX6_fail) := goodIn_app (goodIn_of _ (by decide +kernel)) ggX6_use_X6_fail
theorem dX6_use_0 : decode cX6_use 0 = .ok (.aload_n 0, 1) := by decide +kernel
theorem dX6_use_1 : decode cX6_use 1 = .ok (.iload_n 1, 1) := by decide +kernel
theorem dX6_use_2 : decode cX6_use 2 = .ok (.iload_n 2, 1) := by decide +kernel
theorem dX6_use_3 : decode cX6_use 3 = .ok (.invokevirtual 148, 3) := by decide +kernel
theorem dX6_use_6 : decode cX6_use 6 = .ok (.ifCond .ne 5, 3) := by decide +kernel
theorem dX6_use_9 : decode cX6_use 9 = .ok (.iconst 0, 1) := by decide +kernel
theorem dX6_use_10 : decode cX6_use 10 = .ok (.ireturn, 1) := by decide +kernel
theorem dX6_use_11 : decode cX6_use 11 = .ok (.aload_n 0, 1) := by decide +kernel
theorem dX6_use_12 : decode cX6_use 12 = .ok (.iload_n 2, 1) := by decide +kernel
theorem dX6_use_13 : decode cX6_use 13 = .ok (.invokevirtual 136, 3) := by decide +kernel
theorem dX6_use_16 : decode cX6_use 16 = .ok (.ifCond .ne 9, 3) := by decide +kernel
theorem dX6_use_19 : decode cX6_use 19 = .ok (.aload_n 0, 1) := by decide +kernel
theorem dX6_use_20 : decode cX6_use 20 = .ok (.iconst 2, 1) := by decide +kernel
theorem dX6_use_21 : decode cX6_use 21 = .ok (.invokevirtual 54, 3) := by decide +kernel
theorem dX6_use_24 : decode cX6_use 24 = .ok (.ireturn, 1) := by decide +kernel
theorem dX6_use_25 : decode cX6_use 25 = .ok (.aload_n 0, 1) := by decide +kernel
theorem dX6_use_26 : decode cX6_use 26 = .ok (.getfield 17, 3) := by decide +kernel
theorem dX6_use_29 : decode cX6_use 29 = .ok (.iload_n 1, 1) := by decide +kernel
theorem dX6_use_30 : decode cX6_use 30 = .ok (.iaload, 1) := by decide +kernel
theorem dX6_use_31 : decode cX6_use 31 = .ok (.istore_n 3, 1) := by decide +kernel
theorem dX6_use_32 : decode cX6_use 32 = .ok (.aload_n 0, 1) := by decide +kernel
theorem dX6_use_33 : decode cX6_use 33 = .ok (.getfield 17, 3) := by decide +kernel
theorem dX6_use_36 : decode cX6_use 36 = .ok (.iload_n 1, 1) := by decide +kernel
theorem dX6_use_37 : decode cX6_use 37 = .ok (.iload_n 2, 1) := by decide +kernel
theorem dX6_use_38 : decode cX6_use 38 = .ok (.iastore, 1) := by decide +kernel
theorem dX6_use_39 : decode cX6_use 39 = .ok (.iload_n 3, 1) := by decide +kernel
theorem dX6_use_40 : decode cX6_use 40 = .ok (.ireturn, 1) := by decide +kernel
set_option maxRecDepth 20000 in
theorem ggX6_encoding_X6_asks : GoodIn wsX6_encoding wsX6_asks := goodIn_r _ [6, 7, 8, 9, 10, 11, 5, 12, 13, 14, 15, 16, 17, 18, 19, 20, 21, 22, 23, 24, 25, 26, 27, 28, 29, 30, 31, 32, 33, 34, 35, 36, 37, 38, 39, 40, 41, 42, 43, 44, 45] (by decide +kernel) (by decide +kernel)
set_option maxRecDepth 20000 in
theorem gX6_encoding_X6_asks : GoodIn wsX6_encoding (wsV RX6 148 RX6 yX6_asks wsX6_asks) := goodIn_app (goodIn_of _ (by decide +kernel)) ggX6_encoding_X6_asks
theorem dX6_encoding_0 : decode cX6_encoding 0 = .ok (.aload_n 0, 1) := by decide +kernel
theorem dX6_encoding_1 : decode cX6_encoding 1 = .ok (.iload_n 1, 1) := by decide +kernel
theorem dX6_encoding_2 : decode cX6_encoding 2 = .ok (.iconst 0, 1) := by decide +kernel
theorem dX6_encoding_3 : decode cX6_encoding 3 = .ok (.invokevirtual 148, 3) := by decide +kernel
theorem dX6_encoding_6 : decode cX6_encoding 6 = .ok (.ifCond .eq 12, 3) := by decide +kernel
theorem dX6_encoding_9 : decode cX6_encoding 9 = .ok (.aload_n 0, 1) := by decide +kernel
theorem dX6_encoding_10 : decode cX6_encoding 10 = .ok (.getfield 17, 3) := by decide +kernel
theorem dX6_encoding_13 : decode cX6_encoding 13 = .ok (.iload_n 1, 1) := by decide +kernel
theorem dX6_encoding_14 : decode cX6_encoding 14 = .ok (.iaload, 1) := by decide +kernel
theorem dX6_encoding_15 : decode cX6_encoding 15 = .ok (.goto 4, 3) := by decide +kernel
theorem dX6_encoding_18 : decode cX6_encoding 18 = .ok (.iconst 0, 1) := by decide +kernel
theorem dX6_encoding_19 : decode cX6_encoding 19 = .ok (.ireturn, 1) := by decide +kernel
theorem dX6_put_0 : decode cX6_put 0 = .ok (.iload_n 2, 1) := by decide +kernel
theorem dX6_put_1 : decode cX6_put 1 = .ok (.iconst 1, 1) := by decide +kernel
theorem dX6_put_2 : decode cX6_put 2 = .ok (.isub, 1) := by decide +kernel
theorem dX6_put_3 : decode cX6_put 3 = .ok (.istore_n 3, 1) := by decide +kernel
theorem dX6_put_4 : decode cX6_put 4 = .ok (.iload_n 3, 1) := by decide +kernel
theorem dX6_put_5 : decode cX6_put 5 = .ok (.ifCond .lt 33, 3) := by decide +kernel
theorem dX6_put_8 : decode cX6_put 8 = .ok (.aload_n 0, 1) := by decide +kernel
theorem dX6_put_9 : decode cX6_put 9 = .ok (.getfield 35, 3) := by decide +kernel
theorem dX6_put_12 : decode cX6_put 12 = .ok (.aload_n 0, 1) := by decide +kernel
theorem dX6_put_13 : decode cX6_put 13 = .ok (.getfield 155, 3) := by decide +kernel
theorem dX6_put_16 : decode cX6_put 16 = .ok (.iload_n 1, 1) := by decide +kernel
theorem dX6_put_17 : decode cX6_put 17 = .ok (.iload_n 3, 1) := by decide +kernel
theorem dX6_put_18 : decode cX6_put 18 = .ok (.ishr, 1) := by decide +kernel
theorem dX6_put_19 : decode cX6_put 19 = .ok (.iconst 1, 1) := by decide +kernel
theorem dX6_put_20 : decode cX6_put 20 = .ok (.iand, 1) := by decide +kernel
theorem dX6_put_21 : decode cX6_put 21 = .ok (.iastore, 1) := by decide +kernel
theorem dX6_put_22 : decode cX6_put 22 = .ok (.aload_n 0, 1) := by decide +kernel
theorem dX6_put_23 : decode cX6_put 23 = .ok (.dup, 1) := by decide +kernel
theorem dX6_put_24 : decode cX6_put 24 = .ok (.getfield 155, 3) := by decide +kernel
theorem dX6_put_27 : decode cX6_put 27 = .ok (.iconst 1, 1) := by decide +kernel
theorem dX6_put_28 : decode cX6_put 28 = .ok (.iadd, 1) := by decide +kernel
theorem dX6_put_29 : decode cX6_put 29 = .ok (.putfield 155, 3) := by decide +kernel
theorem dX6_put_32 : decode cX6_put 32 = .ok (.iinc 3 (-1), 3) := by decide +kernel
theorem dX6_put_35 : decode cX6_put 35 = .ok (.goto (-31), 3) := by decide +kernel
theorem dX6_put_38 : decode cX6_put 38 = .ok (.return_, 1) := by decide +kernel
set_option maxRecDepth 20000 in
theorem ggX6_putValue_X6_put : GoodIn wsX6_putValue wsX6_put := goodIn_r _ [6, 7, 8, 9, 10, 11, 12, 13, 14, 15, 16, 17, 18, 19, 20, 21, 22, 23] (by decide +kernel) (by decide +kernel)
set_option maxRecDepth 20000 in
theorem gX6_putValue_X6_put : GoodIn wsX6_putValue (wsV RX6 159 RX6 yX6_put wsX6_put) := goodIn_app (goodIn_of _ (by decide +kernel)) ggX6_putValue_X6_put
theorem dX6_putValue_0 : decode cX6_putValue 0 = .ok (.aload_n 0, 1) := by decide +kernel
theorem dX6_putValue_1 : decode cX6_putValue 1 = .ok (.iload_n 1, 1) := by decide +kernel
theorem dX6_putValue_2 : decode cX6_putValue 2 = .ok (.ldc 158, 2) := by decide +kernel
theorem dX6_putValue_4 : decode cX6_putValue 4 = .ok (.iadd, 1) := by decide +kernel
theorem dX6_putValue_5 : decode cX6_putValue 5 = .ok (.bipush 18, 2) := by decide +kernel
theorem dX6_putValue_7 : decode cX6_putValue 7 = .ok (.invokevirtual 159, 3) := by decide +kernel
theorem dX6_putValue_10 : decode cX6_putValue 10 = .ok (.return_, 1) := by decide +kernel
set_option maxRecDepth 20000 in
theorem ggX6_write_X6_at : GoodIn wsX6_write wsX6_at := goodIn_r _ [7, 8, 9, 66, 67, 68, 69, 70, 71, 72, 73, 74, 75, 76, 77, 78, 79, 80] (by decide +kernel) (by decide +kernel)
set_option maxRecDepth 20000 in
theorem gX6_write_X6_at : GoodIn wsX6_write (wsV RX6 80 RX6 yX6_at wsX6_at) := goodIn_app (goodIn_of _ (by decide +kernel)) ggX6_write_X6_at
set_option maxRecDepth 20000 in
theorem ggX6_write_X6_putValue : GoodIn wsX6_write wsX6_putValue := goodIn_r _ [13, 14, 15, 16, 17, 6, 18, 19, 1, 66, 67, 68, 69, 70, 71, 72, 73, 74, 75, 76, 77, 78, 79, 80] (by decide +kernel) (by decide +kernel)
set_option maxRecDepth 20000 in
theorem gX6_write_X6_putValue : GoodIn wsX6_write (wsV RX6 162 RX6 yX6_putValue wsX6_putValue) := goodIn_app (goodIn_of _ (by decide +kernel)) ggX6_write_X6_putValue
set_option maxRecDepth 20000 in
theorem ggX6_write_X6_writeRuns : GoodIn wsX6_write wsX6_writeRuns := goodIn_r _ [23, 2, 24, 25, 26, 6, 27, 3, 4, 5, 7, 8, 9, 10, 11, 12, 13, 14, 15, 16, 17, 18, 19, 1, 66, 67, 68, 69, 70, 71, 72, 73, 74, 75, 76, 77, 78, 79, 80] (by decide +kernel) (by decide +kernel)
set_option maxRecDepth 20000 in
theorem gX6_write_X6_writeRuns : GoodIn wsX6_write (wsV RX6 166 RX6 yX6_writeRuns wsX6_writeRuns) := goodIn_app (goodIn_of _ (by decide +kernel)) ggX6_write_X6_writeRuns
set_option maxRecDepth 20000 in
theorem ggX6_write_X6_writeDictionary : GoodIn wsX6_write wsX6_writeDictionary := goodIn_r _ [31, 2, 32, 33, 34, 6, 35, 36, 37, 38, 39, 40, 3, 4, 5, 7, 8, 9, 15, 16, 17, 18, 19, 1, 10, 11, 12, 13, 14, 41, 42, 43, 66, 67, 68, 69, 70, 71, 72, 73, 74, 75, 76, 77, 78, 79, 80] (by decide +kernel) (by decide +kernel)
set_option maxRecDepth 20000 in
theorem gX6_write_X6_writeDictionary : GoodIn wsX6_write (wsV RX6 169 RX6 yX6_writeDictionary wsX6_writeDictionary) := goodIn_app (goodIn_of _ (by decide +kernel)) ggX6_write_X6_writeDictionary
set_option maxRecDepth 20000 in
theorem ggX6_write_X6_least : GoodIn wsX6_write wsX6_least := goodIn_r _ [47, 2, 48, 49, 50, 51, 3, 4, 5, 6, 7, 8, 9, 66, 67, 68, 69, 70, 71, 72, 73, 74, 75, 76, 77, 78, 79, 80] (by decide +kernel) (by decide +kernel)
set_option maxRecDepth 20000 in
theorem gX6_write_X6_least : GoodIn wsX6_write (wsV RX6 86 RX6 yX6_least wsX6_least) := goodIn_app (goodIn_of _ (by decide +kernel)) ggX6_write_X6_least
set_option maxRecDepth 20000 in
theorem ggX6_write_X6_frameWidth : GoodIn wsX6_write wsX6_frameWidth := goodIn_r _ [55, 2, 56, 57, 50, 58, 3, 4, 5, 6, 7, 8, 9, 44, 45, 46, 47, 48, 49, 51, 41, 42, 43, 66, 67, 68, 69, 70, 71, 72, 73, 74, 75, 76, 77, 78, 79, 80] (by decide +kernel) (by decide +kernel)
set_option maxRecDepth 20000 in
theorem gX6_write_X6_frameWidth : GoodIn wsX6_write (wsV RX6 111 RX6 yX6_frameWidth wsX6_frameWidth) := goodIn_app (goodIn_of _ (by decide +kernel)) ggX6_write_X6_frameWidth
set_option maxRecDepth 20000 in
theorem ggX6_write_X6_put : GoodIn wsX6_write wsX6_put := goodIn_r _ [18, 19, 1, 66, 67, 68, 69, 70, 71, 72, 73, 74, 75, 76, 77, 78, 79, 80] (by decide +kernel) (by decide +kernel)
set_option maxRecDepth 20000 in
theorem gX6_write_X6_put : GoodIn wsX6_write (wsV RX6 159 RX6 yX6_put wsX6_put) := goodIn_app (goodIn_of _ (by decide +kernel)) ggX6_write_X6_put
set_option maxRecDepth 20000 in
theorem ggX6_write_X6_deltaWidth : GoodIn wsX6_write wsX6_deltaWidth := goodIn_r _ [62, 2, 56, 57, 50, 58, 3, 4, 5, 6, 7, 8, 9, 63, 64, 65, 41, 42, 43, 66, 67, 68, 69, 70, 71, 72, 73, 74, 75, 76, 77, 78, 79, 80] (by decide +kernel) (by decide +kernel)
set_option maxRecDepth 20000 in
theorem gX6_write_X6_deltaWidth : GoodIn wsX6_write (wsV RX6 114 RX6 yX6_deltaWidth wsX6_deltaWidth) := goodIn_app (goodIn_of _ (by decide +kernel)) ggX6_write_X6_deltaWidth
set_option maxRecDepth 20000 in
theorem ggX6_write_X6_folded : GoodIn wsX6_write wsX6_folded := goodIn_r _ [65] (by decide +kernel) (by decide +kernel)
set_option maxRecDepth 20000 in
theorem gX6_write_X6_folded : GoodIn wsX6_write (va_wsS RX6 94 yX6_folded wsX6_folded) := goodIn_app (goodIn_of _ (by decide +kernel)) ggX6_write_X6_folded
theorem dX6_write_0 : decode cX6_write 0 = .ok (.aload_n 0, 1) := by decide +kernel
theorem dX6_write_1 : decode cX6_write 1 = .ok (.iconst 0, 1) := by decide +kernel
theorem dX6_write_2 : decode cX6_write 2 = .ok (.putfield 155, 3) := by decide +kernel
theorem dX6_write_5 : decode cX6_write 5 = .ok (.iload_n 1, 1) := by decide +kernel
theorem dX6_write_6 : decode cX6_write 6 = .ok (.ifCond .ne 28, 3) := by decide +kernel
theorem dX6_write_9 : decode cX6_write 9 = .ok (.iconst 0, 1) := by decide +kernel
theorem dX6_write_10 : decode cX6_write 10 = .ok (.istore_n 2, 1) := by decide +kernel
theorem dX6_write_11 : decode cX6_write 11 = .ok (.iload_n 2, 1) := by decide +kernel
theorem dX6_write_12 : decode cX6_write 12 = .ok (.aload_n 0, 1) := by decide +kernel
theorem dX6_write_13 : decode cX6_write 13 = .ok (.getfield 77, 3) := by decide +kernel
theorem dX6_write_16 : decode cX6_write 16 = .ok (.if_icmp .ge 18, 3) := by decide +kernel
theorem dX6_write_19 : decode cX6_write 19 = .ok (.aload_n 0, 1) := by decide +kernel
theorem dX6_write_20 : decode cX6_write 20 = .ok (.aload_n 0, 1) := by decide +kernel
theorem dX6_write_21 : decode cX6_write 21 = .ok (.iload_n 2, 1) := by decide +kernel
theorem dX6_write_22 : decode cX6_write 22 = .ok (.invokevirtual 80, 3) := by decide +kernel
theorem dX6_write_25 : decode cX6_write 25 = .ok (.invokevirtual 162, 3) := by decide +kernel
theorem dX6_write_28 : decode cX6_write 28 = .ok (.iinc 2 1, 3) := by decide +kernel
theorem dX6_write_31 : decode cX6_write 31 = .ok (.goto (-20), 3) := by decide +kernel
theorem dX6_write_34 : decode cX6_write 34 = .ok (.iload_n 1, 1) := by decide +kernel
theorem dX6_write_35 : decode cX6_write 35 = .ok (.iconst 1, 1) := by decide +kernel
theorem dX6_write_36 : decode cX6_write 36 = .ok (.if_icmp .ne 12, 3) := by decide +kernel
theorem dX6_write_39 : decode cX6_write 39 = .ok (.aload_n 0, 1) := by decide +kernel
theorem dX6_write_40 : decode cX6_write 40 = .ok (.aload_n 0, 1) := by decide +kernel
theorem dX6_write_41 : decode cX6_write 41 = .ok (.iconst 0, 1) := by decide +kernel
theorem dX6_write_42 : decode cX6_write 42 = .ok (.invokevirtual 80, 3) := by decide +kernel
theorem dX6_write_45 : decode cX6_write 45 = .ok (.invokevirtual 162, 3) := by decide +kernel
theorem dX6_write_48 : decode cX6_write 48 = .ok (.iload_n 1, 1) := by decide +kernel
theorem dX6_write_49 : decode cX6_write 49 = .ok (.iconst 2, 1) := by decide +kernel
theorem dX6_write_50 : decode cX6_write 50 = .ok (.if_icmp .ne 7, 3) := by decide +kernel
theorem dX6_write_53 : decode cX6_write 53 = .ok (.aload_n 0, 1) := by decide +kernel
theorem dX6_write_54 : decode cX6_write 54 = .ok (.invokevirtual 166, 3) := by decide +kernel
theorem dX6_write_57 : decode cX6_write 57 = .ok (.iload_n 1, 1) := by decide +kernel
theorem dX6_write_58 : decode cX6_write 58 = .ok (.iconst 3, 1) := by decide +kernel
theorem dX6_write_59 : decode cX6_write 59 = .ok (.if_icmp .ne 7, 3) := by decide +kernel
theorem dX6_write_62 : decode cX6_write 62 = .ok (.aload_n 0, 1) := by decide +kernel
theorem dX6_write_63 : decode cX6_write 63 = .ok (.invokevirtual 169, 3) := by decide +kernel
theorem dX6_write_66 : decode cX6_write 66 = .ok (.iload_n 1, 1) := by decide +kernel
theorem dX6_write_67 : decode cX6_write 67 = .ok (.iconst 4, 1) := by decide +kernel
theorem dX6_write_68 : decode cX6_write 68 = .ok (.if_icmp .ne 54, 3) := by decide +kernel
theorem dX6_write_71 : decode cX6_write 71 = .ok (.aload_n 0, 1) := by decide +kernel
theorem dX6_write_72 : decode cX6_write 72 = .ok (.aload_n 0, 1) := by decide +kernel
theorem dX6_write_73 : decode cX6_write 73 = .ok (.invokevirtual 86, 3) := by decide +kernel
theorem dX6_write_76 : decode cX6_write 76 = .ok (.invokevirtual 162, 3) := by decide +kernel
theorem dX6_write_79 : decode cX6_write 79 = .ok (.aload_n 0, 1) := by decide +kernel
theorem dX6_write_80 : decode cX6_write 80 = .ok (.aload_n 0, 1) := by decide +kernel
theorem dX6_write_81 : decode cX6_write 81 = .ok (.invokevirtual 111, 3) := by decide +kernel
theorem dX6_write_84 : decode cX6_write 84 = .ok (.iconst 5, 1) := by decide +kernel
theorem dX6_write_85 : decode cX6_write 85 = .ok (.invokevirtual 159, 3) := by decide +kernel
theorem dX6_write_88 : decode cX6_write 88 = .ok (.iconst 0, 1) := by decide +kernel
theorem dX6_write_89 : decode cX6_write 89 = .ok (.istore_n 2, 1) := by decide +kernel
theorem dX6_write_90 : decode cX6_write 90 = .ok (.iload_n 2, 1) := by decide +kernel
theorem dX6_write_91 : decode cX6_write 91 = .ok (.aload_n 0, 1) := by decide +kernel
theorem dX6_write_92 : decode cX6_write 92 = .ok (.getfield 77, 3) := by decide +kernel
theorem dX6_write_95 : decode cX6_write 95 = .ok (.if_icmp .ge 27, 3) := by decide +kernel
theorem dX6_write_98 : decode cX6_write 98 = .ok (.aload_n 0, 1) := by decide +kernel
theorem dX6_write_99 : decode cX6_write 99 = .ok (.aload_n 0, 1) := by decide +kernel
theorem dX6_write_100 : decode cX6_write 100 = .ok (.iload_n 2, 1) := by decide +kernel
theorem dX6_write_101 : decode cX6_write 101 = .ok (.invokevirtual 80, 3) := by decide +kernel
theorem dX6_write_104 : decode cX6_write 104 = .ok (.aload_n 0, 1) := by decide +kernel
theorem dX6_write_105 : decode cX6_write 105 = .ok (.invokevirtual 86, 3) := by decide +kernel
theorem dX6_write_108 : decode cX6_write 108 = .ok (.isub, 1) := by decide +kernel
theorem dX6_write_109 : decode cX6_write 109 = .ok (.aload_n 0, 1) := by decide +kernel
theorem dX6_write_110 : decode cX6_write 110 = .ok (.invokevirtual 111, 3) := by decide +kernel
theorem dX6_write_113 : decode cX6_write 113 = .ok (.invokevirtual 159, 3) := by decide +kernel
theorem dX6_write_116 : decode cX6_write 116 = .ok (.iinc 2 1, 3) := by decide +kernel
theorem dX6_write_119 : decode cX6_write 119 = .ok (.goto (-29), 3) := by decide +kernel
theorem dX6_write_122 : decode cX6_write 122 = .ok (.iload_n 1, 1) := by decide +kernel
theorem dX6_write_123 : decode cX6_write 123 = .ok (.iconst 5, 1) := by decide +kernel
theorem dX6_write_124 : decode cX6_write 124 = .ok (.if_icmp .ne 61, 3) := by decide +kernel
theorem dX6_write_127 : decode cX6_write 127 = .ok (.aload_n 0, 1) := by decide +kernel
theorem dX6_write_128 : decode cX6_write 128 = .ok (.aload_n 0, 1) := by decide +kernel
theorem dX6_write_129 : decode cX6_write 129 = .ok (.iconst 0, 1) := by decide +kernel
theorem dX6_write_130 : decode cX6_write 130 = .ok (.invokevirtual 80, 3) := by decide +kernel
theorem dX6_write_133 : decode cX6_write 133 = .ok (.invokevirtual 162, 3) := by decide +kernel
theorem dX6_write_136 : decode cX6_write 136 = .ok (.aload_n 0, 1) := by decide +kernel
theorem dX6_write_137 : decode cX6_write 137 = .ok (.aload_n 0, 1) := by decide +kernel
theorem dX6_write_138 : decode cX6_write 138 = .ok (.invokevirtual 114, 3) := by decide +kernel
theorem dX6_write_141 : decode cX6_write 141 = .ok (.iconst 5, 1) := by decide +kernel
theorem dX6_write_142 : decode cX6_write 142 = .ok (.invokevirtual 159, 3) := by decide +kernel
theorem dX6_write_145 : decode cX6_write 145 = .ok (.iconst 1, 1) := by decide +kernel
theorem dX6_write_146 : decode cX6_write 146 = .ok (.istore_n 2, 1) := by decide +kernel
theorem dX6_write_147 : decode cX6_write 147 = .ok (.iload_n 2, 1) := by decide +kernel
theorem dX6_write_148 : decode cX6_write 148 = .ok (.aload_n 0, 1) := by decide +kernel
theorem dX6_write_149 : decode cX6_write 149 = .ok (.getfield 77, 3) := by decide +kernel
theorem dX6_write_152 : decode cX6_write 152 = .ok (.if_icmp .ge 33, 3) := by decide +kernel
theorem dX6_write_155 : decode cX6_write 155 = .ok (.aload_n 0, 1) := by decide +kernel
theorem dX6_write_156 : decode cX6_write 156 = .ok (.aload_n 0, 1) := by decide +kernel
theorem dX6_write_157 : decode cX6_write 157 = .ok (.iload_n 2, 1) := by decide +kernel
theorem dX6_write_158 : decode cX6_write 158 = .ok (.invokevirtual 80, 3) := by decide +kernel
theorem dX6_write_161 : decode cX6_write 161 = .ok (.aload_n 0, 1) := by decide +kernel
theorem dX6_write_162 : decode cX6_write 162 = .ok (.iload_n 2, 1) := by decide +kernel
theorem dX6_write_163 : decode cX6_write 163 = .ok (.iconst 1, 1) := by decide +kernel
theorem dX6_write_164 : decode cX6_write 164 = .ok (.isub, 1) := by decide +kernel
theorem dX6_write_165 : decode cX6_write 165 = .ok (.invokevirtual 80, 3) := by decide +kernel
theorem dX6_write_168 : decode cX6_write 168 = .ok (.isub, 1) := by decide +kernel
theorem dX6_write_169 : decode cX6_write 169 = .ok (.invokestatic 94, 3) := by decide +kernel
theorem dX6_write_172 : decode cX6_write 172 = .ok (.aload_n 0, 1) := by decide +kernel
theorem dX6_write_173 : decode cX6_write 173 = .ok (.invokevirtual 114, 3) := by decide +kernel
theorem dX6_write_176 : decode cX6_write 176 = .ok (.invokevirtual 159, 3) := by decide +kernel
theorem dX6_write_179 : decode cX6_write 179 = .ok (.iinc 2 1, 3) := by decide +kernel
theorem dX6_write_182 : decode cX6_write 182 = .ok (.goto (-35), 3) := by decide +kernel
theorem dX6_write_185 : decode cX6_write 185 = .ok (.return_, 1) := by decide +kernel
set_option maxRecDepth 20000 in
theorem ggX6_writeRuns_X6_isNewRun : GoodIn wsX6_writeRuns wsX6_isNewRun := goodIn_r _ [6, 7, 8, 9, 5, 10, 11, 12, 24, 25, 26, 27, 28, 29, 30, 31, 32, 33, 34, 35, 36, 37, 38] (by decide +kernel) (by decide +kernel)
set_option maxRecDepth 20000 in
theorem gX6_writeRuns_X6_isNewRun : GoodIn wsX6_writeRuns (wsV RX6 97 RX6 yX6_isNewRun wsX6_isNewRun) := goodIn_app (goodIn_of _ (by decide +kernel)) ggX6_writeRuns_X6_isNewRun
set_option maxRecDepth 20000 in
theorem ggX6_writeRuns_X6_at : GoodIn wsX6_writeRuns wsX6_at := goodIn_r _ [10, 11, 12, 24, 25, 26, 27, 28, 29, 30, 31, 32, 33, 34, 35, 36, 37, 38] (by decide +kernel) (by decide +kernel)
set_option maxRecDepth 20000 in
theorem gX6_writeRuns_X6_at : GoodIn wsX6_writeRuns (wsV RX6 80 RX6 yX6_at wsX6_at) := goodIn_app (goodIn_of _ (by decide +kernel)) ggX6_writeRuns_X6_at
set_option maxRecDepth 20000 in
theorem ggX6_writeRuns_X6_putValue : GoodIn wsX6_writeRuns wsX6_putValue := goodIn_r _ [16, 17, 18, 19, 20, 5, 21, 22, 23, 24, 25, 26, 27, 28, 29, 30, 31, 32, 33, 34, 35, 36, 37, 38] (by decide +kernel) (by decide +kernel)
set_option maxRecDepth 20000 in
theorem gX6_writeRuns_X6_putValue : GoodIn wsX6_writeRuns (wsV RX6 162 RX6 yX6_putValue wsX6_putValue) := goodIn_app (goodIn_of _ (by decide +kernel)) ggX6_writeRuns_X6_putValue
set_option maxRecDepth 20000 in
theorem ggX6_writeRuns_X6_put : GoodIn wsX6_writeRuns wsX6_put := goodIn_r _ [21, 22, 23, 24, 25, 26, 27, 28, 29, 30, 31, 32, 33, 34, 35, 36, 37, 38] (by decide +kernel) (by decide +kernel)
set_option maxRecDepth 20000 in
theorem gX6_writeRuns_X6_put : GoodIn wsX6_writeRuns (wsV RX6 159 RX6 yX6_put wsX6_put) := goodIn_app (goodIn_of _ (by decide +kernel)) ggX6_writeRuns_X6_put
theorem dX6_writeRuns_0 : decode cX6_writeRuns 0 = .ok (.iconst 0, 1) := by decide +kernel
theorem dX6_writeRuns_1 : decode cX6_writeRuns 1 = .ok (.istore_n 1, 1) := by decide +kernel
theorem dX6_writeRuns_2 : decode cX6_writeRuns 2 = .ok (.iconst 0, 1) := by decide +kernel
theorem dX6_writeRuns_3 : decode cX6_writeRuns 3 = .ok (.istore_n 2, 1) := by decide +kernel
theorem dX6_writeRuns_4 : decode cX6_writeRuns 4 = .ok (.iload_n 2, 1) := by decide +kernel
theorem dX6_writeRuns_5 : decode cX6_writeRuns 5 = .ok (.aload_n 0, 1) := by decide +kernel
theorem dX6_writeRuns_6 : decode cX6_writeRuns 6 = .ok (.getfield 77, 3) := by decide +kernel
theorem dX6_writeRuns_9 : decode cX6_writeRuns 9 = .ok (.if_icmp .ge 53, 3) := by decide +kernel
theorem dX6_writeRuns_12 : decode cX6_writeRuns 12 = .ok (.iinc 1 1, 3) := by decide +kernel
theorem dX6_writeRuns_15 : decode cX6_writeRuns 15 = .ok (.iload_n 2, 1) := by decide +kernel
theorem dX6_writeRuns_16 : decode cX6_writeRuns 16 = .ok (.iconst 1, 1) := by decide +kernel
theorem dX6_writeRuns_17 : decode cX6_writeRuns 17 = .ok (.iadd, 1) := by decide +kernel
theorem dX6_writeRuns_18 : decode cX6_writeRuns 18 = .ok (.aload_n 0, 1) := by decide +kernel
theorem dX6_writeRuns_19 : decode cX6_writeRuns 19 = .ok (.getfield 77, 3) := by decide +kernel
theorem dX6_writeRuns_22 : decode cX6_writeRuns 22 = .ok (.if_icmp .ge 16, 3) := by decide +kernel
theorem dX6_writeRuns_25 : decode cX6_writeRuns 25 = .ok (.aload_n 0, 1) := by decide +kernel
theorem dX6_writeRuns_26 : decode cX6_writeRuns 26 = .ok (.iload_n 2, 1) := by decide +kernel
theorem dX6_writeRuns_27 : decode cX6_writeRuns 27 = .ok (.iconst 1, 1) := by decide +kernel
theorem dX6_writeRuns_28 : decode cX6_writeRuns 28 = .ok (.iadd, 1) := by decide +kernel
theorem dX6_writeRuns_29 : decode cX6_writeRuns 29 = .ok (.invokevirtual 97, 3) := by decide +kernel
theorem dX6_writeRuns_32 : decode cX6_writeRuns 32 = .ok (.ifCond .ne 6, 3) := by decide +kernel
theorem dX6_writeRuns_35 : decode cX6_writeRuns 35 = .ok (.goto 21, 3) := by decide +kernel
theorem dX6_writeRuns_38 : decode cX6_writeRuns 38 = .ok (.aload_n 0, 1) := by decide +kernel
theorem dX6_writeRuns_39 : decode cX6_writeRuns 39 = .ok (.aload_n 0, 1) := by decide +kernel
theorem dX6_writeRuns_40 : decode cX6_writeRuns 40 = .ok (.iload_n 2, 1) := by decide +kernel
theorem dX6_writeRuns_41 : decode cX6_writeRuns 41 = .ok (.invokevirtual 80, 3) := by decide +kernel
theorem dX6_writeRuns_44 : decode cX6_writeRuns 44 = .ok (.invokevirtual 162, 3) := by decide +kernel
theorem dX6_writeRuns_47 : decode cX6_writeRuns 47 = .ok (.aload_n 0, 1) := by decide +kernel
theorem dX6_writeRuns_48 : decode cX6_writeRuns 48 = .ok (.iload_n 1, 1) := by decide +kernel
theorem dX6_writeRuns_49 : decode cX6_writeRuns 49 = .ok (.bipush 6, 2) := by decide +kernel
theorem dX6_writeRuns_51 : decode cX6_writeRuns 51 = .ok (.invokevirtual 159, 3) := by decide +kernel
theorem dX6_writeRuns_54 : decode cX6_writeRuns 54 = .ok (.iconst 0, 1) := by decide +kernel
theorem dX6_writeRuns_55 : decode cX6_writeRuns 55 = .ok (.istore_n 1, 1) := by decide +kernel
theorem dX6_writeRuns_56 : decode cX6_writeRuns 56 = .ok (.iinc 2 1, 3) := by decide +kernel
theorem dX6_writeRuns_59 : decode cX6_writeRuns 59 = .ok (.goto (-55), 3) := by decide +kernel
theorem dX6_writeRuns_62 : decode cX6_writeRuns 62 = .ok (.return_, 1) := by decide +kernel
set_option maxRecDepth 20000 in
theorem ggX6_writeDictionary_X6_different : GoodIn wsX6_writeDictionary wsX6_different := goodIn_r _ [6, 7, 8, 9, 10, 5, 11, 1, 12, 13, 14, 15, 16, 17, 32, 33, 34, 35, 36, 37, 38, 39, 40, 41, 42, 43, 44, 45, 46] (by decide +kernel) (by decide +kernel)
set_option maxRecDepth 20000 in
theorem gX6_writeDictionary_X6_different : GoodIn wsX6_writeDictionary (wsV RX6 108 RX6 yX6_different wsX6_different) := goodIn_app (goodIn_of _ (by decide +kernel)) ggX6_writeDictionary_X6_different
set_option maxRecDepth 20000 in
theorem ggX6_writeDictionary_X6_put : GoodIn wsX6_writeDictionary wsX6_put := goodIn_r _ [21, 22, 23, 32, 33, 34, 35, 36, 37, 38, 39, 40, 41, 42, 43, 44, 45, 46] (by decide +kernel) (by decide +kernel)
set_option maxRecDepth 20000 in
theorem gX6_writeDictionary_X6_put : GoodIn wsX6_writeDictionary (wsV RX6 159 RX6 yX6_put wsX6_put) := goodIn_app (goodIn_of _ (by decide +kernel)) ggX6_writeDictionary_X6_put
set_option maxRecDepth 20000 in
theorem ggX6_writeDictionary_X6_at : GoodIn wsX6_writeDictionary wsX6_at := goodIn_r _ [15, 16, 17, 32, 33, 34, 35, 36, 37, 38, 39, 40, 41, 42, 43, 44, 45, 46] (by decide +kernel) (by decide +kernel)
set_option maxRecDepth 20000 in
theorem gX6_writeDictionary_X6_at : GoodIn wsX6_writeDictionary (wsV RX6 80 RX6 yX6_at wsX6_at) := goodIn_app (goodIn_of _ (by decide +kernel)) ggX6_writeDictionary_X6_at
set_option maxRecDepth 20000 in
theorem ggX6_writeDictionary_X6_differentBelow : GoodIn wsX6_writeDictionary wsX6_differentBelow := goodIn_r _ [11, 1, 12, 13, 14, 5, 15, 16, 17, 32, 33, 34, 35, 36, 37, 38, 39, 40, 41, 42, 43, 44, 45, 46] (by decide +kernel) (by decide +kernel)
set_option maxRecDepth 20000 in
theorem gX6_writeDictionary_X6_differentBelow : GoodIn wsX6_writeDictionary (wsV RX6 102 RX6 yX6_differentBelow wsX6_differentBelow) := goodIn_app (goodIn_of _ (by decide +kernel)) ggX6_writeDictionary_X6_differentBelow
set_option maxRecDepth 20000 in
theorem ggX6_writeDictionary_X6_putValue : GoodIn wsX6_writeDictionary wsX6_putValue := goodIn_r _ [27, 28, 18, 19, 20, 5, 21, 22, 23, 32, 33, 34, 35, 36, 37, 38, 39, 40, 41, 42, 43, 44, 45, 46] (by decide +kernel) (by decide +kernel)
set_option maxRecDepth 20000 in
theorem gX6_writeDictionary_X6_putValue : GoodIn wsX6_writeDictionary (wsV RX6 162 RX6 yX6_putValue wsX6_putValue) := goodIn_app (goodIn_of _ (by decide +kernel)) ggX6_writeDictionary_X6_putValue
set_option maxRecDepth 20000 in
theorem ggX6_writeDictionary_X6_width : GoodIn wsX6_writeDictionary wsX6_width := goodIn_r _ [31] (by decide +kernel) (by decide +kernel)
set_option maxRecDepth 20000 in
theorem gX6_writeDictionary_X6_width : GoodIn wsX6_writeDictionary (va_wsS RX6 90 yX6_width wsX6_width) := goodIn_app (goodIn_of _ (by decide +kernel)) ggX6_writeDictionary_X6_width
