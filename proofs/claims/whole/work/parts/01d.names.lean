theorem dX5_set_0 : decode cX5_set 0 = .ok (.aload_n 0, 1) := by decide +kernel
theorem dX5_set_1 : decode cX5_set 1 = .ok (.iload_n 1, 1) := by decide +kernel
theorem dX5_set_2 : decode cX5_set 2 = .ok (.invokevirtual 112, 3) := by decide +kernel
theorem dX5_set_5 : decode cX5_set 5 = .ok (.iload_n 2, 1) := by decide +kernel
theorem dX5_set_6 : decode cX5_set 6 = .ok (.i2l, 1) := by decide +kernel
theorem dX5_set_7 : decode cX5_set 7 = .ok (.invokestatic 74, 3) := by decide +kernel
theorem dX5_set_10 : decode cX5_set 10 = .ok (.ifCond .ne 13, 3) := by decide +kernel
theorem dX5_set_13 : decode cX5_set 13 = .ok (.new 82, 3) := by decide +kernel
theorem dX5_set_16 : decode cX5_set 16 = .ok (.dup, 1) := by decide +kernel
theorem dX5_set_17 : decode cX5_set 17 = .ok (.ldc 115, 2) := by decide +kernel
theorem dX5_set_19 : decode cX5_set 19 = .ok (.invokespecial 86, 3) := by decide +kernel
theorem dX5_set_22 : decode cX5_set 22 = .ok (.athrow, 1) := by decide +kernel
theorem dX5_set_23 : decode cX5_set 23 = .ok (.aload_n 0, 1) := by decide +kernel
theorem dX5_set_24 : decode cX5_set 24 = .ok (.iload_n 1, 1) := by decide +kernel
theorem dX5_set_25 : decode cX5_set 25 = .ok (.invokevirtual 94, 3) := by decide +kernel
theorem dX5_set_28 : decode cX5_set 28 = .ok (.istore_n 3, 1) := by decide +kernel
theorem dX5_set_29 : decode cX5_set 29 = .ok (.aload_n 0, 1) := by decide +kernel
theorem dX5_set_30 : decode cX5_set 30 = .ok (.iload_n 3, 1) := by decide +kernel
theorem dX5_set_31 : decode cX5_set 31 = .ok (.invokevirtual 102, 3) := by decide +kernel
theorem dX5_set_34 : decode cX5_set 34 = .ok (.aload_n 0, 1) := by decide +kernel
theorem dX5_set_35 : decode cX5_set 35 = .ok (.getfield 45, 3) := by decide +kernel
theorem dX5_set_38 : decode cX5_set 38 = .ok (.iload_n 1, 1) := by decide +kernel
theorem dX5_set_39 : decode cX5_set 39 = .ok (.invokevirtual 117, 3) := by decide +kernel
theorem dX5_set_42 : decode cX5_set 42 = .ok (.istore 4, 2) := by decide +kernel
theorem dX5_set_44 : decode cX5_set 44 = .ok (.aload_n 0, 1) := by decide +kernel
theorem dX5_set_45 : decode cX5_set 45 = .ok (.getfield 45, 3) := by decide +kernel
theorem dX5_set_48 : decode cX5_set 48 = .ok (.iload_n 1, 1) := by decide +kernel
theorem dX5_set_49 : decode cX5_set 49 = .ok (.iload_n 2, 1) := by decide +kernel
theorem dX5_set_50 : decode cX5_set 50 = .ok (.invokevirtual 105, 3) := by decide +kernel
theorem dX5_set_53 : decode cX5_set 53 = .ok (.aload_n 0, 1) := by decide +kernel
theorem dX5_set_54 : decode cX5_set 54 = .ok (.iload_n 3, 1) := by decide +kernel
theorem dX5_set_55 : decode cX5_set 55 = .ok (.iconst 0, 1) := by decide +kernel
theorem dX5_set_56 : decode cX5_set 56 = .ok (.invokevirtual 109, 3) := by decide +kernel
theorem dX5_set_59 : decode cX5_set 59 = .ok (.iload 4, 2) := by decide +kernel
theorem dX5_set_61 : decode cX5_set 61 = .ok (.ireturn, 1) := by decide +kernel
set_option maxRecDepth 20000 in
theorem ggX5_cut_X5_segmentOf : GoodIn wsX5_cut wsX5_segmentOf := goodIn_r _ [8, 9, 212, 213, 214, 215, 216, 217, 218, 219, 220, 221] (by decide +kernel) (by decide +kernel)
set_option maxRecDepth 20000 in
theorem gX5_cut_X5_segmentOf : GoodIn wsX5_cut (wsV RX5 94 RX5 yX5_segmentOf wsX5_segmentOf) := goodIn_app (goodIn_of _ (by decide +kernel)) ggX5_cut_X5_segmentOf
set_option maxRecDepth 20000 in
theorem ggX5_cut_X5_load : GoodIn wsX5_cut wsX5_load := goodIn_r _ [13, 14, 15, 16, 17, 18, 19, 7, 20, 21, 22, 23, 24, 9, 25, 26, 27, 28, 29, 30, 31, 32, 33, 34, 35, 36, 37, 38, 39, 40, 3, 41, 42, 43, 44, 45, 46, 47, 48, 49, 50, 51, 52, 53, 54, 55, 56, 57, 58, 59, 60, 61, 62, 63, 64, 65, 66, 67, 68, 69, 70, 71, 72, 73, 74, 75, 76, 77, 78, 79, 80, 81, 82, 83, 84, 85, 86, 87, 88, 89, 90, 91, 92, 93, 94, 95, 96, 97, 98, 212, 213, 214, 215, 216, 217, 218, 219, 220, 221, 222, 223, 224, 225, 226, 227, 228] (by decide +kernel) (by decide +kernel)
set_option maxRecDepth 20000 in
theorem gX5_cut_X5_load : GoodIn wsX5_cut (wsV RX5 102 RX5 yX5_load wsX5_load) := goodIn_app (goodIn_of _ (by decide +kernel)) ggX5_cut_X5_load
set_option maxRecDepth 20000 in
theorem ggX5_cut_X5_segmentCount : GoodIn wsX5_cut wsX5_segmentCount := goodIn_r _ [102, 3, 9, 4, 5, 6, 7, 8, 212, 213, 214, 215, 216, 217, 218, 219, 220, 221] (by decide +kernel) (by decide +kernel)
set_option maxRecDepth 20000 in
theorem gX5_cut_X5_segmentCount : GoodIn wsX5_cut (wsV RX5 98 RX5 yX5_segmentCount wsX5_segmentCount) := goodIn_app (goodIn_of _ (by decide +kernel)) ggX5_cut_X5_segmentCount
set_option maxRecDepth 20000 in
theorem ggX5_cut_X5_store : GoodIn wsX5_cut wsX5_store := goodIn_r _ [106, 107, 14, 15, 16, 108, 21, 22, 23, 7, 24, 9, 37, 38, 39, 40, 3, 41, 42, 43, 44, 109, 110, 111, 85, 112, 113, 114, 115, 116, 117, 118, 119, 120, 121, 122, 123, 124, 125, 126, 127, 32, 33, 34, 35, 36, 128, 129, 130, 131, 132, 67, 68, 69, 133, 134, 135, 136, 84, 86, 17, 18, 19, 20, 25, 26, 27, 28, 29, 30, 137, 138, 139, 48, 140, 54, 141, 142, 143, 144, 87, 145, 146, 147, 148, 59, 60, 149, 150, 151, 152, 65, 153, 154, 155, 156, 157, 158, 159, 160, 161, 162, 163, 164, 165, 166, 167, 168, 169, 170, 171, 172, 173, 174, 175, 176, 177, 178, 179, 180, 181, 182, 183, 184, 185, 186, 187, 188, 189, 190, 191, 192, 193, 194, 195, 196, 197, 198, 199, 200, 201, 202, 203, 204, 205, 206, 207, 208, 209, 210, 211, 212, 213, 214, 215, 216, 217, 218, 219, 220, 221, 229, 230, 231, 232, 233, 234, 235, 236, 237, 238, 239, 224, 222, 223, 225, 226, 227, 228] (by decide +kernel) (by decide +kernel)
set_option maxRecDepth 20000 in
theorem gX5_cut_X5_store : GoodIn wsX5_cut (wsV RX5 109 RX5 yX5_store wsX5_store) := goodIn_app (goodIn_of _ (by decide +kernel)) ggX5_cut_X5_store
theorem dX5_cut_0 : decode cX5_cut 0 = .ok (.iload_n 1, 1) := by decide +kernel
theorem dX5_cut_1 : decode cX5_cut 1 = .ok (.ifCond .lt 11, 3) := by decide +kernel
theorem dX5_cut_4 : decode cX5_cut 4 = .ok (.iload_n 1, 1) := by decide +kernel
theorem dX5_cut_5 : decode cX5_cut 5 = .ok (.aload_n 0, 1) := by decide +kernel
theorem dX5_cut_6 : decode cX5_cut 6 = .ok (.getfield 9, 3) := by decide +kernel
theorem dX5_cut_9 : decode cX5_cut 9 = .ok (.if_icmp .le 13, 3) := by decide +kernel
theorem dX5_cut_12 : decode cX5_cut 12 = .ok (.new 82, 3) := by decide +kernel
theorem dX5_cut_15 : decode cX5_cut 15 = .ok (.dup, 1) := by decide +kernel
theorem dX5_cut_16 : decode cX5_cut 16 = .ok (.ldc 120, 2) := by decide +kernel
theorem dX5_cut_18 : decode cX5_cut 18 = .ok (.invokespecial 86, 3) := by decide +kernel
theorem dX5_cut_21 : decode cX5_cut 21 = .ok (.athrow, 1) := by decide +kernel
theorem dX5_cut_22 : decode cX5_cut 22 = .ok (.iload_n 1, 1) := by decide +kernel
theorem dX5_cut_23 : decode cX5_cut 23 = .ok (.ifCond .le 43, 3) := by decide +kernel
theorem dX5_cut_26 : decode cX5_cut 26 = .ok (.aload_n 0, 1) := by decide +kernel
theorem dX5_cut_27 : decode cX5_cut 27 = .ok (.aload_n 0, 1) := by decide +kernel
theorem dX5_cut_28 : decode cX5_cut 28 = .ok (.getfield 9, 3) := by decide +kernel
theorem dX5_cut_31 : decode cX5_cut 31 = .ok (.iload_n 1, 1) := by decide +kernel
theorem dX5_cut_32 : decode cX5_cut 32 = .ok (.isub, 1) := by decide +kernel
theorem dX5_cut_33 : decode cX5_cut 33 = .ok (.invokevirtual 94, 3) := by decide +kernel
theorem dX5_cut_36 : decode cX5_cut 36 = .ok (.istore_n 2, 1) := by decide +kernel
theorem dX5_cut_37 : decode cX5_cut 37 = .ok (.aload_n 0, 1) := by decide +kernel
theorem dX5_cut_38 : decode cX5_cut 38 = .ok (.iload_n 2, 1) := by decide +kernel
theorem dX5_cut_39 : decode cX5_cut 39 = .ok (.invokevirtual 102, 3) := by decide +kernel
theorem dX5_cut_42 : decode cX5_cut 42 = .ok (.aload_n 0, 1) := by decide +kernel
theorem dX5_cut_43 : decode cX5_cut 43 = .ok (.dup, 1) := by decide +kernel
theorem dX5_cut_44 : decode cX5_cut 44 = .ok (.getfield 9, 3) := by decide +kernel
theorem dX5_cut_47 : decode cX5_cut 47 = .ok (.iload_n 1, 1) := by decide +kernel
theorem dX5_cut_48 : decode cX5_cut 48 = .ok (.isub, 1) := by decide +kernel
theorem dX5_cut_49 : decode cX5_cut 49 = .ok (.putfield 9, 3) := by decide +kernel
theorem dX5_cut_52 : decode cX5_cut 52 = .ok (.iload_n 2, 1) := by decide +kernel
theorem dX5_cut_53 : decode cX5_cut 53 = .ok (.aload_n 0, 1) := by decide +kernel
theorem dX5_cut_54 : decode cX5_cut 54 = .ok (.invokevirtual 98, 3) := by decide +kernel
theorem dX5_cut_57 : decode cX5_cut 57 = .ok (.if_icmp .ge 9, 3) := by decide +kernel
theorem dX5_cut_60 : decode cX5_cut 60 = .ok (.aload_n 0, 1) := by decide +kernel
theorem dX5_cut_61 : decode cX5_cut 61 = .ok (.iload_n 2, 1) := by decide +kernel
theorem dX5_cut_62 : decode cX5_cut 62 = .ok (.iconst 0, 1) := by decide +kernel
theorem dX5_cut_63 : decode cX5_cut 63 = .ok (.invokevirtual 109, 3) := by decide +kernel
theorem dX5_cut_66 : decode cX5_cut 66 = .ok (.aload_n 0, 1) := by decide +kernel
theorem dX5_cut_67 : decode cX5_cut 67 = .ok (.getfield 9, 3) := by decide +kernel
theorem dX5_cut_70 : decode cX5_cut 70 = .ok (.ireturn, 1) := by decide +kernel
theorem dX5_rows_0 : decode cX5_rows 0 = .ok (.aload_n 0, 1) := by decide +kernel
theorem dX5_rows_1 : decode cX5_rows 1 = .ok (.getfield 9, 3) := by decide +kernel
theorem dX5_rows_4 : decode cX5_rows 4 = .ok (.ireturn, 1) := by decide +kernel
set_option maxRecDepth 20000 in
theorem ggX5_value_X5_checkRow : GoodIn wsX5_value wsX5_checkRow := goodIn_ca (goodIn_r _ [6, 7, 8, 9, 104, 105, 106, 107, 108, 109, 110, 111, 112, 113] (by decide +kernel) (by decide +kernel)) (goodIn_sub (fun _ h => List.mem_cons_of_mem _ (List.mem_append_right _ h)) (by decide +kernel))
set_option maxRecDepth 20000 in
theorem gX5_value_X5_checkRow : GoodIn wsX5_value (wsV RX5 112 RX5 yX5_checkRow wsX5_checkRow) := goodIn_app (goodIn_of _ (by decide +kernel)) ggX5_value_X5_checkRow
set_option maxRecDepth 20000 in
theorem ggX5_value_X5_segmentOf : GoodIn wsX5_value wsX5_segmentOf := goodIn_r _ [13, 14, 104, 105, 106, 107, 108, 109, 110, 111, 112, 113] (by decide +kernel) (by decide +kernel)
set_option maxRecDepth 20000 in
theorem gX5_value_X5_segmentOf : GoodIn wsX5_value (wsV RX5 94 RX5 yX5_segmentOf wsX5_segmentOf) := goodIn_app (goodIn_of _ (by decide +kernel)) ggX5_value_X5_segmentOf
set_option maxRecDepth 20000 in
theorem ggX5_value_X5_load : GoodIn wsX5_value wsX5_load := goodIn_r _ [18, 19, 20, 21, 22, 23, 24, 5, 25, 26, 27, 28, 29, 14, 30, 31, 32, 33, 34, 35, 36, 37, 38, 39, 40, 41, 42, 43, 44, 45, 9, 46, 47, 48, 49, 50, 51, 52, 53, 54, 55, 56, 57, 58, 59, 60, 61, 62, 63, 64, 65, 66, 67, 68, 69, 70, 71, 72, 73, 74, 75, 76, 77, 78, 79, 80, 81, 82, 83, 84, 85, 86, 87, 88, 89, 90, 91, 92, 93, 94, 95, 96, 97, 98, 99, 100, 101, 102, 103, 104, 105, 106, 107, 108, 109, 110, 111, 112, 113, 114, 115, 116, 117, 118, 119, 120] (by decide +kernel) (by decide +kernel)
set_option maxRecDepth 20000 in
theorem gX5_value_X5_load : GoodIn wsX5_value (wsV RX5 102 RX5 yX5_load wsX5_load) := goodIn_app (goodIn_of _ (by decide +kernel)) ggX5_value_X5_load
set_option maxRecDepth 20000 in
theorem ggX5_value_X3_get : GoodIn wsX5_value wsX3_get := goodIn_r _ [40, 41, 116] (by decide +kernel) (by decide +kernel)
set_option maxRecDepth 20000 in
theorem gX5_value_X3_get : GoodIn wsX5_value (wsV RX5 117 RX3 yX3_get wsX3_get) := goodIn_app (goodIn_of _ (by decide +kernel)) ggX5_value_X3_get
theorem dX5_value_0 : decode cX5_value 0 = .ok (.aload_n 0, 1) := by decide +kernel
theorem dX5_value_1 : decode cX5_value 1 = .ok (.iload_n 1, 1) := by decide +kernel
theorem dX5_value_2 : decode cX5_value 2 = .ok (.invokevirtual 112, 3) := by decide +kernel
theorem dX5_value_5 : decode cX5_value 5 = .ok (.aload_n 0, 1) := by decide +kernel
theorem dX5_value_6 : decode cX5_value 6 = .ok (.aload_n 0, 1) := by decide +kernel
theorem dX5_value_7 : decode cX5_value 7 = .ok (.iload_n 1, 1) := by decide +kernel
theorem dX5_value_8 : decode cX5_value 8 = .ok (.invokevirtual 94, 3) := by decide +kernel
theorem dX5_value_11 : decode cX5_value 11 = .ok (.invokevirtual 102, 3) := by decide +kernel
theorem dX5_value_14 : decode cX5_value 14 = .ok (.aload_n 0, 1) := by decide +kernel
theorem dX5_value_15 : decode cX5_value 15 = .ok (.getfield 45, 3) := by decide +kernel
theorem dX5_value_18 : decode cX5_value 18 = .ok (.iload_n 1, 1) := by decide +kernel
theorem dX5_value_19 : decode cX5_value 19 = .ok (.invokevirtual 117, 3) := by decide +kernel
theorem dX5_value_22 : decode cX5_value 22 = .ok (.ireturn, 1) := by decide +kernel
set_option maxRecDepth 20000 in
theorem ggX5_setSegmentSize_X5_loadColumn : GoodIn wsX5_setSegmentSize wsX5_loadColumn := goodIn_r _ [8, 9, 10, 11, 7, 12, 13, 3, 14, 15, 16, 17, 18, 19, 20, 21, 22, 23, 24, 25, 26, 27, 28, 29, 30, 31, 32, 33, 34, 35, 36, 37, 38, 39, 40, 41, 42, 43, 44, 45, 46, 47, 48, 49, 50, 51, 52, 53, 54, 55, 56, 57, 58, 59, 60, 61, 62, 63, 64, 65, 66, 67, 68, 69, 70, 71, 72, 73, 74, 75, 76, 77, 78, 79, 80, 81, 82, 83, 84, 85, 86, 87, 88, 89, 90, 91, 92, 93, 94, 95, 96, 97, 98, 99, 100, 101, 102, 103, 104, 105, 106, 216, 217, 218, 219, 220, 221, 222, 223, 224, 225, 226, 227, 228, 229, 230, 231, 232] (by decide +kernel) (by decide +kernel)
set_option maxRecDepth 20000 in
theorem gX5_setSegmentSize_X5_loadColumn : GoodIn wsX5_setSegmentSize (wsV RX5 124 RX5 yX5_loadColumn wsX5_loadColumn) := goodIn_app (goodIn_of _ (by decide +kernel)) ggX5_setSegmentSize_X5_loadColumn
set_option maxRecDepth 20000 in
theorem ggX5_setSegmentSize_X5_segmentCount : GoodIn wsX5_setSegmentSize wsX5_segmentCount := goodIn_r _ [12, 13, 3, 14, 15, 16, 7, 17, 216, 217, 218, 219, 220, 221, 222, 223, 224, 225] (by decide +kernel) (by decide +kernel)
set_option maxRecDepth 20000 in
theorem gX5_setSegmentSize_X5_segmentCount : GoodIn wsX5_setSegmentSize (wsV RX5 98 RX5 yX5_segmentCount wsX5_segmentCount) := goodIn_app (goodIn_of _ (by decide +kernel)) ggX5_setSegmentSize_X5_segmentCount
set_option maxRecDepth 20000 in
theorem ggX5_setSegmentSize_X5_store : GoodIn wsX5_setSegmentSize wsX5_store := goodIn_r _ [110, 111, 22, 23, 24, 112, 29, 30, 31, 7, 32, 3, 45, 46, 47, 48, 13, 49, 50, 51, 52, 113, 114, 115, 93, 116, 117, 118, 119, 120, 121, 122, 123, 124, 125, 126, 127, 128, 129, 130, 131, 40, 41, 42, 43, 44, 132, 133, 134, 135, 136, 75, 76, 77, 137, 138, 139, 140, 92, 94, 25, 26, 27, 28, 33, 34, 35, 36, 37, 38, 141, 142, 143, 56, 144, 62, 145, 146, 147, 148, 95, 149, 150, 151, 152, 67, 68, 153, 154, 155, 156, 73, 157, 158, 159, 160, 161, 162, 163, 164, 165, 166, 167, 168, 169, 170, 171, 172, 173, 174, 175, 176, 177, 178, 179, 180, 181, 182, 183, 184, 185, 186, 187, 188, 189, 190, 191, 192, 193, 194, 195, 196, 197, 198, 199, 200, 201, 202, 203, 204, 205, 206, 207, 208, 209, 210, 211, 212, 213, 214, 215, 216, 217, 218, 219, 220, 221, 222, 223, 224, 225, 233, 234, 235, 236, 237, 238, 239, 240, 241, 242, 243, 228, 226, 227, 229, 230, 231, 232] (by decide +kernel) (by decide +kernel)
set_option maxRecDepth 20000 in
theorem gX5_setSegmentSize_X5_store : GoodIn wsX5_setSegmentSize (wsV RX5 109 RX5 yX5_store wsX5_store) := goodIn_app (goodIn_of _ (by decide +kernel)) ggX5_setSegmentSize_X5_store
theorem dX5_setSegmentSize_0 : decode cX5_setSegmentSize 0 = .ok (.iload_n 1, 1) := by decide +kernel
theorem dX5_setSegmentSize_1 : decode cX5_setSegmentSize 1 = .ok (.iconst 4, 1) := by decide +kernel
theorem dX5_setSegmentSize_2 : decode cX5_setSegmentSize 2 = .ok (.if_icmp .lt 9, 3) := by decide +kernel
theorem dX5_setSegmentSize_5 : decode cX5_setSegmentSize 5 = .ok (.iload_n 1, 1) := by decide +kernel
theorem dX5_setSegmentSize_6 : decode cX5_setSegmentSize 6 = .ok (.bipush 32, 2) := by decide +kernel
theorem dX5_setSegmentSize_8 : decode cX5_setSegmentSize 8 = .ok (.if_icmp .le 13, 3) := by decide +kernel
theorem dX5_setSegmentSize_11 : decode cX5_setSegmentSize 11 = .ok (.new 82, 3) := by decide +kernel
theorem dX5_setSegmentSize_14 : decode cX5_setSegmentSize 14 = .ok (.dup, 1) := by decide +kernel
theorem dX5_setSegmentSize_15 : decode cX5_setSegmentSize 15 = .ok (.ldc 122, 2) := by decide +kernel
theorem dX5_setSegmentSize_17 : decode cX5_setSegmentSize 17 = .ok (.invokespecial 86, 3) := by decide +kernel
theorem dX5_setSegmentSize_20 : decode cX5_setSegmentSize 20 = .ok (.athrow, 1) := by decide +kernel
theorem dX5_setSegmentSize_21 : decode cX5_setSegmentSize 21 = .ok (.aload_n 0, 1) := by decide +kernel
theorem dX5_setSegmentSize_22 : decode cX5_setSegmentSize 22 = .ok (.getfield 13, 3) := by decide +kernel
theorem dX5_setSegmentSize_25 : decode cX5_setSegmentSize 25 = .ok (.istore_n 2, 1) := by decide +kernel
theorem dX5_setSegmentSize_26 : decode cX5_setSegmentSize 26 = .ok (.iload_n 1, 1) := by decide +kernel
theorem dX5_setSegmentSize_27 : decode cX5_setSegmentSize 27 = .ok (.iload_n 2, 1) := by decide +kernel
theorem dX5_setSegmentSize_28 : decode cX5_setSegmentSize 28 = .ok (.if_icmp .eq 39, 3) := by decide +kernel
theorem dX5_setSegmentSize_31 : decode cX5_setSegmentSize 31 = .ok (.aload_n 0, 1) := by decide +kernel
theorem dX5_setSegmentSize_32 : decode cX5_setSegmentSize 32 = .ok (.invokevirtual 124, 3) := by decide +kernel
theorem dX5_setSegmentSize_35 : decode cX5_setSegmentSize 35 = .ok (.aload_n 0, 1) := by decide +kernel
theorem dX5_setSegmentSize_36 : decode cX5_setSegmentSize 36 = .ok (.iload_n 1, 1) := by decide +kernel
theorem dX5_setSegmentSize_37 : decode cX5_setSegmentSize 37 = .ok (.putfield 13, 3) := by decide +kernel
theorem dX5_setSegmentSize_40 : decode cX5_setSegmentSize 40 = .ok (.aload_n 0, 1) := by decide +kernel
theorem dX5_setSegmentSize_41 : decode cX5_setSegmentSize 41 = .ok (.invokevirtual 98, 3) := by decide +kernel
theorem dX5_setSegmentSize_44 : decode cX5_setSegmentSize 44 = .ok (.istore_n 3, 1) := by decide +kernel
theorem dX5_setSegmentSize_45 : decode cX5_setSegmentSize 45 = .ok (.iconst 0, 1) := by decide +kernel
theorem dX5_setSegmentSize_46 : decode cX5_setSegmentSize 46 = .ok (.istore 4, 2) := by decide +kernel
theorem dX5_setSegmentSize_48 : decode cX5_setSegmentSize 48 = .ok (.iload 4, 2) := by decide +kernel
theorem dX5_setSegmentSize_50 : decode cX5_setSegmentSize 50 = .ok (.iload_n 3, 1) := by decide +kernel
theorem dX5_setSegmentSize_51 : decode cX5_setSegmentSize 51 = .ok (.if_icmp .ge 16, 3) := by decide +kernel
theorem dX5_setSegmentSize_54 : decode cX5_setSegmentSize 54 = .ok (.aload_n 0, 1) := by decide +kernel
theorem dX5_setSegmentSize_55 : decode cX5_setSegmentSize 55 = .ok (.iload 4, 2) := by decide +kernel
theorem dX5_setSegmentSize_57 : decode cX5_setSegmentSize 57 = .ok (.iconst 0, 1) := by decide +kernel
theorem dX5_setSegmentSize_58 : decode cX5_setSegmentSize 58 = .ok (.invokevirtual 109, 3) := by decide +kernel
theorem dX5_setSegmentSize_61 : decode cX5_setSegmentSize 61 = .ok (.iinc 4 1, 3) := by decide +kernel
theorem dX5_setSegmentSize_64 : decode cX5_setSegmentSize 64 = .ok (.goto (-16), 3) := by decide +kernel
theorem dX5_setSegmentSize_67 : decode cX5_setSegmentSize 67 = .ok (.iload_n 2, 1) := by decide +kernel
theorem dX5_setSegmentSize_68 : decode cX5_setSegmentSize 68 = .ok (.ireturn, 1) := by decide +kernel
set_option maxRecDepth 20000 in
theorem ggX5_segmentCount_X5_segmentOf : GoodIn wsX5_segmentCount wsX5_segmentOf := goodIn_r _ [7, 2, 8, 9, 10, 11, 12, 13, 14, 15, 16, 17] (by decide +kernel) (by decide +kernel)
set_option maxRecDepth 20000 in
theorem gX5_segmentCount_X5_segmentOf : GoodIn wsX5_segmentCount (wsV RX5 94 RX5 yX5_segmentOf wsX5_segmentOf) := goodIn_app (goodIn_of _ (by decide +kernel)) ggX5_segmentCount_X5_segmentOf
theorem dX5_segmentCount_0 : decode cX5_segmentCount 0 = .ok (.aload_n 0, 1) := by decide +kernel
theorem dX5_segmentCount_1 : decode cX5_segmentCount 1 = .ok (.aload_n 0, 1) := by decide +kernel
theorem dX5_segmentCount_2 : decode cX5_segmentCount 2 = .ok (.getfield 9, 3) := by decide +kernel
theorem dX5_segmentCount_5 : decode cX5_segmentCount 5 = .ok (.aload_n 0, 1) := by decide +kernel
theorem dX5_segmentCount_6 : decode cX5_segmentCount 6 = .ok (.getfield 13, 3) := by decide +kernel
theorem dX5_segmentCount_9 : decode cX5_segmentCount 9 = .ok (.iadd, 1) := by decide +kernel
theorem dX5_segmentCount_10 : decode cX5_segmentCount 10 = .ok (.iconst 1, 1) := by decide +kernel
theorem dX5_segmentCount_11 : decode cX5_segmentCount 11 = .ok (.isub, 1) := by decide +kernel
theorem dX5_segmentCount_12 : decode cX5_segmentCount 12 = .ok (.invokevirtual 94, 3) := by decide +kernel
theorem dX5_segmentCount_15 : decode cX5_segmentCount 15 = .ok (.ireturn, 1) := by decide +kernel
set_option maxRecDepth 20000 in
theorem ggX5_addQuery_X5_isQuery : GoodIn wsX5_addQuery wsX5_isQuery := goodIn_r _ [9, 10, 11, 8, 12, 13, 14] (by decide +kernel) (by decide +kernel)
set_option maxRecDepth 20000 in
theorem gX5_addQuery_X5_isQuery : GoodIn wsX5_addQuery (va_wsS RX5 127 yX5_isQuery wsX5_isQuery) := goodIn_app (goodIn_of _ (by decide +kernel)) ggX5_addQuery_X5_isQuery
set_option maxRecDepth 20000 in
theorem ggX5_addQuery_X4_count : GoodIn wsX5_addQuery wsX4_count := goodIn_r _ [19, 20, 45, 46, 47, 48, 49] (by decide +kernel) (by decide +kernel)
set_option maxRecDepth 20000 in
theorem gX5_addQuery_X4_count : GoodIn wsX5_addQuery (wsV RX5 133 RX4 yX4_count wsX4_count) := goodIn_app (goodIn_of _ (by decide +kernel)) ggX5_addQuery_X4_count
set_option maxRecDepth 20000 in
theorem ggX5_addQuery_X4_add : GoodIn wsX5_addQuery wsX4_add := goodIn_r _ [24, 20, 25, 26, 27, 28, 29, 30, 31, 32, 33, 34, 45, 46, 47, 48, 49, 50] (by decide +kernel) (by decide +kernel)
set_option maxRecDepth 20000 in
theorem gX5_addQuery_X4_add : GoodIn wsX5_addQuery (wsV RX5 138 RX4 yX4_add wsX4_add) := goodIn_app (goodIn_of _ (by decide +kernel)) ggX5_addQuery_X4_add
theorem dX5_addQuery_0 : decode cX5_addQuery 0 = .ok (.iload_n 1, 1) := by decide +kernel
theorem dX5_addQuery_1 : decode cX5_addQuery 1 = .ok (.iload_n 2, 1) := by decide +kernel
theorem dX5_addQuery_2 : decode cX5_addQuery 2 = .ok (.iload_n 3, 1) := by decide +kernel
theorem dX5_addQuery_3 : decode cX5_addQuery 3 = .ok (.invokestatic 127, 3) := by decide +kernel
theorem dX5_addQuery_6 : decode cX5_addQuery 6 = .ok (.ifCond .eq 16, 3) := by decide +kernel
theorem dX5_addQuery_9 : decode cX5_addQuery 9 = .ok (.iload 4, 2) := by decide +kernel
theorem dX5_addQuery_11 : decode cX5_addQuery 11 = .ok (.iconst 1, 1) := by decide +kernel
theorem dX5_addQuery_12 : decode cX5_addQuery 12 = .ok (.if_icmp .lt 10, 3) := by decide +kernel
theorem dX5_addQuery_15 : decode cX5_addQuery 15 = .ok (.iload 4, 2) := by decide +kernel
theorem dX5_addQuery_17 : decode cX5_addQuery 17 = .ok (.bipush 100, 2) := by decide +kernel
theorem dX5_addQuery_19 : decode cX5_addQuery 19 = .ok (.if_icmp .le 13, 3) := by decide +kernel
theorem dX5_addQuery_22 : decode cX5_addQuery 22 = .ok (.new 82, 3) := by decide +kernel
theorem dX5_addQuery_25 : decode cX5_addQuery 25 = .ok (.dup, 1) := by decide +kernel
theorem dX5_addQuery_26 : decode cX5_addQuery 26 = .ok (.ldc 131, 2) := by decide +kernel
theorem dX5_addQuery_28 : decode cX5_addQuery 28 = .ok (.invokespecial 86, 3) := by decide +kernel
theorem dX5_addQuery_31 : decode cX5_addQuery 31 = .ok (.athrow, 1) := by decide +kernel
theorem dX5_addQuery_32 : decode cX5_addQuery 32 = .ok (.aload_n 0, 1) := by decide +kernel
theorem dX5_addQuery_33 : decode cX5_addQuery 33 = .ok (.getfield 22, 3) := by decide +kernel
theorem dX5_addQuery_36 : decode cX5_addQuery 36 = .ok (.invokevirtual 133, 3) := by decide +kernel
theorem dX5_addQuery_39 : decode cX5_addQuery 39 = .ok (.bipush 20, 2) := by decide +kernel
theorem dX5_addQuery_41 : decode cX5_addQuery 41 = .ok (.if_icmp .lt 13, 3) := by decide +kernel
theorem dX5_addQuery_44 : decode cX5_addQuery 44 = .ok (.new 89, 3) := by decide +kernel
theorem dX5_addQuery_47 : decode cX5_addQuery 47 = .ok (.dup, 1) := by decide +kernel
theorem dX5_addQuery_48 : decode cX5_addQuery 48 = .ok (.ldc 136, 2) := by decide +kernel
theorem dX5_addQuery_50 : decode cX5_addQuery 50 = .ok (.invokespecial 93, 3) := by decide +kernel
theorem dX5_addQuery_53 : decode cX5_addQuery 53 = .ok (.athrow, 1) := by decide +kernel
theorem dX5_addQuery_54 : decode cX5_addQuery 54 = .ok (.aload_n 0, 1) := by decide +kernel
theorem dX5_addQuery_55 : decode cX5_addQuery 55 = .ok (.getfield 22, 3) := by decide +kernel
theorem dX5_addQuery_58 : decode cX5_addQuery 58 = .ok (.iload_n 1, 1) := by decide +kernel
theorem dX5_addQuery_59 : decode cX5_addQuery 59 = .ok (.iload_n 2, 1) := by decide +kernel
theorem dX5_addQuery_60 : decode cX5_addQuery 60 = .ok (.iload_n 3, 1) := by decide +kernel
theorem dX5_addQuery_61 : decode cX5_addQuery 61 = .ok (.iload 4, 2) := by decide +kernel
theorem dX5_addQuery_63 : decode cX5_addQuery 63 = .ok (.invokevirtual 138, 3) := by decide +kernel
theorem dX5_addQuery_66 : decode cX5_addQuery 66 = .ok (.ireturn, 1) := by decide +kernel
set_option maxRecDepth 20000 in
theorem ggX5_clearQueries_X4_clear : GoodIn wsX5_clearQueries wsX4_clear := goodIn_r _ [6, 7, 18, 19, 20, 21, 22] (by decide +kernel) (by decide +kernel)
set_option maxRecDepth 20000 in
theorem gX5_clearQueries_X4_clear : GoodIn wsX5_clearQueries (wsV RX5 142 RX4 yX4_clear wsX4_clear) := goodIn_app (goodIn_of _ (by decide +kernel)) ggX5_clearQueries_X4_clear
theorem dX5_clearQueries_0 : decode cX5_clearQueries 0 = .ok (.aload_n 0, 1) := by decide +kernel
theorem dX5_clearQueries_1 : decode cX5_clearQueries 1 = .ok (.getfield 22, 3) := by decide +kernel
theorem dX5_clearQueries_4 : decode cX5_clearQueries 4 = .ok (.invokevirtual 142, 3) := by decide +kernel
theorem dX5_clearQueries_7 : decode cX5_clearQueries 7 = .ok (.ireturn, 1) := by decide +kernel
theorem dX5_setPrice_0 : decode cX5_setPrice 0 = .ok (.iload_n 1, 1) := by decide +kernel
theorem dX5_setPrice_1 : decode cX5_setPrice 1 = .ok (.ifCond .lt 9, 3) := by decide +kernel
theorem dX5_setPrice_4 : decode cX5_setPrice 4 = .ok (.iload_n 1, 1) := by decide +kernel
theorem dX5_setPrice_5 : decode cX5_setPrice 5 = .ok (.bipush 100, 2) := by decide +kernel
theorem dX5_setPrice_7 : decode cX5_setPrice 7 = .ok (.if_icmp .le 13, 3) := by decide +kernel
theorem dX5_setPrice_10 : decode cX5_setPrice 10 = .ok (.new 82, 3) := by decide +kernel
theorem dX5_setPrice_13 : decode cX5_setPrice 13 = .ok (.dup, 1) := by decide +kernel
theorem dX5_setPrice_14 : decode cX5_setPrice 14 = .ok (.ldc 145, 2) := by decide +kernel
theorem dX5_setPrice_16 : decode cX5_setPrice 16 = .ok (.invokespecial 86, 3) := by decide +kernel
theorem dX5_setPrice_19 : decode cX5_setPrice 19 = .ok (.athrow, 1) := by decide +kernel
theorem dX5_setPrice_20 : decode cX5_setPrice 20 = .ok (.aload_n 0, 1) := by decide +kernel
theorem dX5_setPrice_21 : decode cX5_setPrice 21 = .ok (.getfield 16, 3) := by decide +kernel
theorem dX5_setPrice_24 : decode cX5_setPrice 24 = .ok (.istore_n 2, 1) := by decide +kernel
theorem dX5_setPrice_25 : decode cX5_setPrice 25 = .ok (.aload_n 0, 1) := by decide +kernel
theorem dX5_setPrice_26 : decode cX5_setPrice 26 = .ok (.iload_n 1, 1) := by decide +kernel
theorem dX5_setPrice_27 : decode cX5_setPrice 27 = .ok (.putfield 16, 3) := by decide +kernel
theorem dX5_setPrice_30 : decode cX5_setPrice 30 = .ok (.iload_n 2, 1) := by decide +kernel
theorem dX5_setPrice_31 : decode cX5_setPrice 31 = .ok (.ireturn, 1) := by decide +kernel
set_option maxRecDepth 20000 in
theorem ggX5_answer_X5_checkQuery : GoodIn wsX5_answer wsX5_checkQuery := goodIn_ca (goodIn_r _ [12, 13, 14, 1, 15, 16, 17, 18, 19, 20, 143, 144, 145, 146, 147, 148, 149, 150, 151, 152, 153, 154, 155, 156, 157] (by decide +kernel) (by decide +kernel)) (goodIn_sub (fun _ h => List.mem_cons_of_mem _ (List.mem_append_right _ h)) (by decide +kernel))
set_option maxRecDepth 20000 in
theorem gX5_answer_X5_checkQuery : GoodIn wsX5_answer (wsV RX5 147 RX5 yX5_checkQuery wsX5_checkQuery) := goodIn_app (goodIn_of _ (by decide +kernel)) ggX5_answer_X5_checkQuery
set_option maxRecDepth 20000 in
theorem ggX5_answer_X4_aOf : GoodIn wsX5_answer wsX4_aOf := goodIn_r _ [24, 25, 26, 27, 28, 29, 30, 31, 153, 154, 155, 156, 157, 158] (by decide +kernel) (by decide +kernel)
set_option maxRecDepth 20000 in
theorem gX5_answer_X4_aOf : GoodIn wsX5_answer (wsV RX5 150 RX4 yX4_aOf wsX4_aOf) := goodIn_app (goodIn_of _ (by decide +kernel)) ggX5_answer_X4_aOf
set_option maxRecDepth 20000 in
theorem ggX5_answer_X5_loadColumn : GoodIn wsX5_answer wsX5_loadColumn := goodIn_r _ [35, 36, 37, 38, 11, 39, 2, 40, 41, 42, 43, 44, 45, 46, 47, 48, 49, 50, 51, 52, 53, 54, 55, 56, 57, 58, 59, 60, 61, 62, 63, 64, 65, 66, 27, 28, 29, 30, 31, 67, 68, 69, 70, 4, 5, 6, 7, 71, 72, 73, 74, 75, 76, 77, 78, 79, 80, 81, 82, 83, 84, 85, 86, 87, 88, 89, 90, 91, 92, 93, 94, 95, 96, 97, 98, 99, 100, 101, 102, 103, 104, 105, 106, 107, 108, 109, 110, 111, 112, 113, 114, 115, 116, 117, 118, 119, 120, 121, 122, 123, 124, 143, 144, 145, 146, 147, 148, 149, 150, 151, 152, 159, 160, 158, 161, 162, 163, 164] (by decide +kernel) (by decide +kernel)
set_option maxRecDepth 20000 in
theorem gX5_answer_X5_loadColumn : GoodIn wsX5_answer (wsV RX5 124 RX5 yX5_loadColumn wsX5_loadColumn) := goodIn_app (goodIn_of _ (by decide +kernel)) ggX5_answer_X5_loadColumn
set_option maxRecDepth 20000 in
theorem ggX5_answer_X4_kindOf : GoodIn wsX5_answer wsX4_kindOf := goodIn_r _ [128, 129, 26, 27, 28, 29, 30, 31, 153, 154, 155, 156, 157, 158] (by decide +kernel) (by decide +kernel)
set_option maxRecDepth 20000 in
theorem gX5_answer_X4_kindOf : GoodIn wsX5_answer (wsV RX5 153 RX4 yX4_kindOf wsX4_kindOf) := goodIn_app (goodIn_of _ (by decide +kernel)) ggX5_answer_X4_kindOf
set_option maxRecDepth 20000 in
theorem ggX5_answer_X3_get : GoodIn wsX5_answer wsX3_get := goodIn_r _ [30, 31, 158] (by decide +kernel) (by decide +kernel)
set_option maxRecDepth 20000 in
theorem gX5_answer_X3_get : GoodIn wsX5_answer (wsV RX5 117 RX3 yX3_get wsX3_get) := goodIn_app (goodIn_of _ (by decide +kernel)) ggX5_answer_X3_get
set_option maxRecDepth 20000 in
theorem ggX5_answer_X4_bOf : GoodIn wsX5_answer wsX4_bOf := goodIn_r _ [133, 134, 26, 27, 28, 29, 30, 31, 153, 154, 155, 156, 157, 158] (by decide +kernel) (by decide +kernel)
set_option maxRecDepth 20000 in
theorem gX5_answer_X4_bOf : GoodIn wsX5_answer (wsV RX5 156 RX4 yX4_bOf wsX4_bOf) := goodIn_app (goodIn_of _ (by decide +kernel)) ggX5_answer_X4_bOf
set_option maxRecDepth 20000 in
theorem ggX5_answer_X5_sumOfRows : GoodIn wsX5_answer wsX5_sumOfRows := goodIn_r _ [138, 3, 66, 27, 28, 29, 30, 31, 143, 144, 145, 146, 147, 148, 149, 150, 151, 152, 158] (by decide +kernel) (by decide +kernel)
set_option maxRecDepth 20000 in
theorem gX5_answer_X5_sumOfRows : GoodIn wsX5_answer (wsV RX5 165 RX5 yX5_sumOfRows wsX5_sumOfRows) := goodIn_app (goodIn_of _ (by decide +kernel)) ggX5_answer_X5_sumOfRows
set_option maxRecDepth 20000 in
theorem ggX5_answer_X5_rowsWith : GoodIn wsX5_answer wsX5_rowsWith := goodIn_r _ [142, 2, 3, 66, 27, 28, 29, 30, 31, 143, 144, 145, 146, 147, 148, 149, 150, 151, 152, 158] (by decide +kernel) (by decide +kernel)
set_option maxRecDepth 20000 in
theorem gX5_answer_X5_rowsWith : GoodIn wsX5_answer (wsV RX5 169 RX5 yX5_rowsWith wsX5_rowsWith) := goodIn_app (goodIn_of _ (by decide +kernel)) ggX5_answer_X5_rowsWith
theorem dX5_answer_0 : decode cX5_answer 0 = .ok (.aload_n 0, 1) := by decide +kernel
theorem dX5_answer_1 : decode cX5_answer 1 = .ok (.iload_n 1, 1) := by decide +kernel
theorem dX5_answer_2 : decode cX5_answer 2 = .ok (.invokevirtual 147, 3) := by decide +kernel
theorem dX5_answer_5 : decode cX5_answer 5 = .ok (.aload_n 0, 1) := by decide +kernel
theorem dX5_answer_6 : decode cX5_answer 6 = .ok (.getfield 22, 3) := by decide +kernel
theorem dX5_answer_9 : decode cX5_answer 9 = .ok (.iload_n 1, 1) := by decide +kernel
theorem dX5_answer_10 : decode cX5_answer 10 = .ok (.invokevirtual 150, 3) := by decide +kernel
theorem dX5_answer_13 : decode cX5_answer 13 = .ok (.istore_n 2, 1) := by decide +kernel
theorem dX5_answer_14 : decode cX5_answer 14 = .ok (.aload_n 0, 1) := by decide +kernel
theorem dX5_answer_15 : decode cX5_answer 15 = .ok (.invokevirtual 124, 3) := by decide +kernel
theorem dX5_answer_18 : decode cX5_answer 18 = .ok (.aload_n 0, 1) := by decide +kernel
theorem dX5_answer_19 : decode cX5_answer 19 = .ok (.getfield 22, 3) := by decide +kernel
theorem dX5_answer_22 : decode cX5_answer 22 = .ok (.iload_n 1, 1) := by decide +kernel
theorem dX5_answer_23 : decode cX5_answer 23 = .ok (.invokevirtual 153, 3) := by decide +kernel
theorem dX5_answer_26 : decode cX5_answer 26 = .ok (.lookupswitch 69 #[(0, 26), (1, 48)], 26) := by decide +kernel
theorem dX5_answer_52 : decode cX5_answer 52 = .ok (.iload_n 2, 1) := by decide +kernel
theorem dX5_answer_53 : decode cX5_answer 53 = .ok (.aload_n 0, 1) := by decide +kernel
theorem dX5_answer_54 : decode cX5_answer 54 = .ok (.getfield 9, 3) := by decide +kernel
theorem dX5_answer_57 : decode cX5_answer 57 = .ok (.if_icmp .ge 15, 3) := by decide +kernel
theorem dX5_answer_60 : decode cX5_answer 60 = .ok (.aload_n 0, 1) := by decide +kernel
theorem dX5_answer_61 : decode cX5_answer 61 = .ok (.getfield 45, 3) := by decide +kernel
theorem dX5_answer_64 : decode cX5_answer 64 = .ok (.iload_n 2, 1) := by decide +kernel
theorem dX5_answer_65 : decode cX5_answer 65 = .ok (.invokevirtual 117, 3) := by decide +kernel
theorem dX5_answer_68 : decode cX5_answer 68 = .ok (.i2l, 1) := by decide +kernel
theorem dX5_answer_69 : decode cX5_answer 69 = .ok (.goto 4, 3) := by decide +kernel
theorem dX5_answer_72 : decode cX5_answer 72 = .ok (.lconst 0, 1) := by decide +kernel
theorem dX5_answer_73 : decode cX5_answer 73 = .ok (.lreturn, 1) := by decide +kernel
theorem dX5_answer_74 : decode cX5_answer 74 = .ok (.aload_n 0, 1) := by decide +kernel
theorem dX5_answer_75 : decode cX5_answer 75 = .ok (.iload_n 2, 1) := by decide +kernel
theorem dX5_answer_76 : decode cX5_answer 76 = .ok (.aload_n 0, 1) := by decide +kernel
theorem dX5_answer_77 : decode cX5_answer 77 = .ok (.getfield 22, 3) := by decide +kernel
theorem dX5_answer_80 : decode cX5_answer 80 = .ok (.iload_n 1, 1) := by decide +kernel
theorem dX5_answer_81 : decode cX5_answer 81 = .ok (.invokevirtual 156, 3) := by decide +kernel
theorem dX5_answer_84 : decode cX5_answer 84 = .ok (.aload_n 0, 1) := by decide +kernel
theorem dX5_answer_85 : decode cX5_answer 85 = .ok (.getfield 9, 3) := by decide +kernel
theorem dX5_answer_88 : decode cX5_answer 88 = .ok (.invokestatic 159, 3) := by decide +kernel
theorem dX5_answer_91 : decode cX5_answer 91 = .ok (.invokevirtual 165, 3) := by decide +kernel
theorem dX5_answer_94 : decode cX5_answer 94 = .ok (.lreturn, 1) := by decide +kernel
theorem dX5_answer_95 : decode cX5_answer 95 = .ok (.aload_n 0, 1) := by decide +kernel
theorem dX5_answer_96 : decode cX5_answer 96 = .ok (.iload_n 2, 1) := by decide +kernel
theorem dX5_answer_97 : decode cX5_answer 97 = .ok (.invokevirtual 169, 3) := by decide +kernel
theorem dX5_answer_100 : decode cX5_answer 100 = .ok (.lreturn, 1) := by decide +kernel
set_option maxRecDepth 20000 in
theorem ggX5_sizeWith_X5_checkSegment : GoodIn wsX5_sizeWith wsX5_checkSegment := goodIn_ca (goodIn_r _ [6, 7, 8, 9, 10, 11, 5, 12, 13, 14, 15, 16, 17, 18, 151, 152, 153, 154, 155, 156, 157, 158, 159, 160] (by decide +kernel) (by decide +kernel)) (goodIn_sub (fun _ h => List.mem_cons_of_mem _ (List.mem_append_right _ h)) (by decide +kernel))
set_option maxRecDepth 20000 in
theorem gX5_sizeWith_X5_checkSegment : GoodIn wsX5_sizeWith (wsV RX5 173 RX5 yX5_checkSegment wsX5_checkSegment) := goodIn_app (goodIn_of _ (by decide +kernel)) ggX5_sizeWith_X5_checkSegment
set_option maxRecDepth 20000 in
theorem ggX5_sizeWith_X5_checkEncoding : GoodIn wsX5_sizeWith wsX5_checkEncoding := goodIn_ca (goodIn_r _ [21, 7, 8] (by decide +kernel) (by decide +kernel)) (goodIn_sub (fun _ h => List.mem_cons_of_mem _ (List.mem_append_right _ h)) (by decide +kernel))
set_option maxRecDepth 20000 in
theorem gX5_sizeWith_X5_checkEncoding : GoodIn wsX5_sizeWith (va_wsS RX5 176 yX5_checkEncoding wsX5_checkEncoding) := goodIn_app (goodIn_of _ (by decide +kernel)) ggX5_sizeWith_X5_checkEncoding
set_option maxRecDepth 20000 in
theorem ggX5_sizeWith_X5_study : GoodIn wsX5_sizeWith wsX5_study := goodIn_r _ [25, 1, 26, 27, 28, 5, 29, 30, 31, 32, 33, 34, 35, 36, 37, 38, 39, 40, 14, 41, 42, 43, 44, 45, 46, 47, 48, 49, 50, 51, 52, 53, 54, 55, 56, 13, 57, 58, 59, 60, 61, 62, 63, 64, 65, 66, 67, 68, 69, 70, 71, 72, 73, 74, 75, 76, 77, 78, 79, 80, 81, 82, 83, 84, 85, 86, 87, 88, 89, 90, 91, 92, 93, 94, 95, 96, 97, 98, 99, 100, 101, 102, 103, 104, 105, 106, 107, 108, 109, 110, 111, 112, 113, 114, 115, 116, 117, 118, 119, 120, 121, 122, 123, 124, 125, 126, 127, 128, 129, 130, 131, 132, 133, 134, 135, 136, 137, 138, 139, 140, 141, 142, 151, 152, 153, 154, 155, 156, 157, 158, 159, 160, 161, 162, 163, 164, 165, 166, 167, 168, 169, 170, 171, 172, 173, 174, 175, 176, 177, 178] (by decide +kernel) (by decide +kernel)
set_option maxRecDepth 20000 in
theorem gX5_sizeWith_X5_study : GoodIn wsX5_sizeWith (wsV RX5 179 RX5 yX5_study wsX5_study) := goodIn_app (goodIn_of _ (by decide +kernel)) ggX5_sizeWith_X5_study
set_option maxRecDepth 20000 in
theorem ggX5_sizeWith_X2_sizeOf : GoodIn wsX5_sizeWith wsX2_sizeOf := goodIn_r _ [146, 120, 121, 122, 130, 131, 132, 147, 148, 149, 101, 150, 168, 169, 170, 171, 172, 173, 174, 175, 176, 177, 178] (by decide +kernel) (by decide +kernel)
set_option maxRecDepth 20000 in
theorem gX5_sizeWith_X2_sizeOf : GoodIn wsX5_sizeWith (wsV RX5 182 RX2 yX2_sizeOf wsX2_sizeOf) := goodIn_app (goodIn_of _ (by decide +kernel)) ggX5_sizeWith_X2_sizeOf
theorem dX5_sizeWith_0 : decode cX5_sizeWith 0 = .ok (.aload_n 0, 1) := by decide +kernel
theorem dX5_sizeWith_1 : decode cX5_sizeWith 1 = .ok (.iload_n 1, 1) := by decide +kernel
theorem dX5_sizeWith_2 : decode cX5_sizeWith 2 = .ok (.invokevirtual 173, 3) := by decide +kernel
theorem dX5_sizeWith_5 : decode cX5_sizeWith 5 = .ok (.iload_n 2, 1) := by decide +kernel
theorem dX5_sizeWith_6 : decode cX5_sizeWith 6 = .ok (.invokestatic 176, 3) := by decide +kernel
theorem dX5_sizeWith_9 : decode cX5_sizeWith 9 = .ok (.aload_n 0, 1) := by decide +kernel
theorem dX5_sizeWith_10 : decode cX5_sizeWith 10 = .ok (.iload_n 1, 1) := by decide +kernel
theorem dX5_sizeWith_11 : decode cX5_sizeWith 11 = .ok (.invokevirtual 179, 3) := by decide +kernel
theorem dX5_sizeWith_14 : decode cX5_sizeWith 14 = .ok (.aload_n 0, 1) := by decide +kernel
theorem dX5_sizeWith_15 : decode cX5_sizeWith 15 = .ok (.getfield 53, 3) := by decide +kernel
theorem dX5_sizeWith_18 : decode cX5_sizeWith 18 = .ok (.iload_n 2, 1) := by decide +kernel
theorem dX5_sizeWith_19 : decode cX5_sizeWith 19 = .ok (.invokevirtual 182, 3) := by decide +kernel
theorem dX5_sizeWith_22 : decode cX5_sizeWith 22 = .ok (.ireturn, 1) := by decide +kernel
set_option maxRecDepth 20000 in
theorem ggX5_costWith_X5_checkQuery : GoodIn wsX5_costWith wsX5_checkQuery := goodIn_ca (goodIn_r _ [7, 8, 9, 2, 10, 11, 12, 13, 14, 15, 199, 200, 201, 202, 203, 204, 205, 206, 207, 208, 209, 210, 211, 212, 213] (by decide +kernel) (by decide +kernel)) (goodIn_sub (fun _ h => List.mem_cons_of_mem _ (List.mem_append_right _ h)) (by decide +kernel))
set_option maxRecDepth 20000 in
theorem gX5_costWith_X5_checkQuery : GoodIn wsX5_costWith (wsV RX5 147 RX5 yX5_checkQuery wsX5_checkQuery) := goodIn_app (goodIn_of _ (by decide +kernel)) ggX5_costWith_X5_checkQuery
set_option maxRecDepth 20000 in
theorem ggX5_costWith_X5_checkSegment : GoodIn wsX5_costWith wsX5_checkSegment := goodIn_ca (goodIn_r _ [19, 8, 9, 20, 21, 22, 6, 23, 24, 25, 26, 27, 28, 29, 199, 200, 201, 202, 203, 204, 205, 206, 207, 208] (by decide +kernel) (by decide +kernel)) (goodIn_sub (fun _ h => List.mem_cons_of_mem _ (List.mem_append_right _ h)) (by decide +kernel))
set_option maxRecDepth 20000 in
theorem gX5_costWith_X5_checkSegment : GoodIn wsX5_costWith (wsV RX5 173 RX5 yX5_checkSegment wsX5_checkSegment) := goodIn_app (goodIn_of _ (by decide +kernel)) ggX5_costWith_X5_checkSegment
set_option maxRecDepth 20000 in
theorem ggX5_costWith_X5_checkEncoding : GoodIn wsX5_costWith wsX5_checkEncoding := goodIn_ca (goodIn_r _ [32, 8, 9] (by decide +kernel) (by decide +kernel)) (goodIn_sub (fun _ h => List.mem_cons_of_mem _ (List.mem_append_right _ h)) (by decide +kernel))
set_option maxRecDepth 20000 in
theorem gX5_costWith_X5_checkEncoding : GoodIn wsX5_costWith (va_wsS RX5 176 yX5_checkEncoding wsX5_checkEncoding) := goodIn_app (goodIn_of _ (by decide +kernel)) ggX5_costWith_X5_checkEncoding
set_option maxRecDepth 20000 in
theorem ggX5_costWith_X5_study : GoodIn wsX5_costWith wsX5_study := goodIn_r _ [36, 1, 37, 38, 39, 6, 40, 41, 42, 43, 44, 45, 46, 47, 48, 49, 50, 51, 25, 52, 53, 54, 55, 56, 57, 58, 59, 60, 61, 62, 63, 64, 65, 66, 67, 24, 68, 69, 70, 71, 72, 73, 74, 75, 76, 77, 78, 79, 80, 81, 82, 83, 84, 85, 86, 87, 88, 89, 90, 91, 92, 93, 94, 95, 96, 97, 98, 99, 100, 101, 102, 103, 104, 105, 106, 107, 108, 109, 110, 111, 112, 113, 114, 115, 116, 117, 118, 119, 120, 121, 122, 123, 124, 125, 126, 127, 128, 129, 130, 131, 132, 133, 134, 135, 136, 137, 138, 139, 140, 141, 142, 143, 144, 145, 146, 147, 148, 149, 150, 151, 152, 153, 199, 200, 201, 202, 203, 204, 205, 206, 207, 208, 214, 215, 216, 217, 218, 219, 220, 221, 222, 223, 224, 225, 226, 227, 228, 229, 230, 231] (by decide +kernel) (by decide +kernel)
set_option maxRecDepth 20000 in
theorem gX5_costWith_X5_study : GoodIn wsX5_costWith (wsV RX5 179 RX5 yX5_study wsX5_study) := goodIn_app (goodIn_of _ (by decide +kernel)) ggX5_costWith_X5_study
set_option maxRecDepth 20000 in
theorem ggX5_costWith_X2_isPossible : GoodIn wsX5_costWith wsX2_isPossible := goodIn_r _ [157, 132, 221, 222, 223, 224, 225, 226, 227, 228, 229, 230, 231] (by decide +kernel) (by decide +kernel)
set_option maxRecDepth 20000 in
theorem gX5_costWith_X2_isPossible : GoodIn wsX5_costWith (wsV RX5 185 RX2 yX2_isPossible wsX2_isPossible) := goodIn_app (goodIn_of _ (by decide +kernel)) ggX5_costWith_X2_isPossible
set_option maxRecDepth 20000 in
theorem ggX5_costWith_X2_costOf : GoodIn wsX5_costWith wsX2_costOf := goodIn_r _ [161, 130, 135, 136, 70, 137, 131, 162, 69, 71, 163, 164, 165, 13, 166, 167, 168, 59, 60, 61, 62, 63, 169, 170, 171, 172, 173, 174, 175, 176, 112, 177, 138, 144, 178, 179, 180, 181, 182, 183, 184, 185, 186, 133, 187, 188, 189, 190, 132, 139, 191, 192, 193, 194, 195, 196, 197, 198, 140, 142, 221, 222, 223, 224, 225, 226, 227, 228, 229, 230, 231, 209, 210, 211, 212, 213, 216] (by decide +kernel) (by decide +kernel)
set_option maxRecDepth 20000 in
theorem gX5_costWith_X2_costOf : GoodIn wsX5_costWith (wsV RX5 188 RX2 yX2_costOf wsX2_costOf) := goodIn_app (goodIn_of _ (by decide +kernel)) ggX5_costWith_X2_costOf
theorem dX5_costWith_0 : decode cX5_costWith 0 = .ok (.aload_n 0, 1) := by decide +kernel
theorem dX5_costWith_1 : decode cX5_costWith 1 = .ok (.iload_n 1, 1) := by decide +kernel
theorem dX5_costWith_2 : decode cX5_costWith 2 = .ok (.invokevirtual 147, 3) := by decide +kernel
theorem dX5_costWith_5 : decode cX5_costWith 5 = .ok (.aload_n 0, 1) := by decide +kernel
theorem dX5_costWith_6 : decode cX5_costWith 6 = .ok (.iload_n 2, 1) := by decide +kernel
theorem dX5_costWith_7 : decode cX5_costWith 7 = .ok (.invokevirtual 173, 3) := by decide +kernel
theorem dX5_costWith_10 : decode cX5_costWith 10 = .ok (.iload_n 3, 1) := by decide +kernel
theorem dX5_costWith_11 : decode cX5_costWith 11 = .ok (.invokestatic 176, 3) := by decide +kernel
theorem dX5_costWith_14 : decode cX5_costWith 14 = .ok (.aload_n 0, 1) := by decide +kernel
theorem dX5_costWith_15 : decode cX5_costWith 15 = .ok (.iload_n 2, 1) := by decide +kernel
theorem dX5_costWith_16 : decode cX5_costWith 16 = .ok (.invokevirtual 179, 3) := by decide +kernel
theorem dX5_costWith_19 : decode cX5_costWith 19 = .ok (.aload_n 0, 1) := by decide +kernel
theorem dX5_costWith_20 : decode cX5_costWith 20 = .ok (.getfield 53, 3) := by decide +kernel
theorem dX5_costWith_23 : decode cX5_costWith 23 = .ok (.iload_n 3, 1) := by decide +kernel
theorem dX5_costWith_24 : decode cX5_costWith 24 = .ok (.invokevirtual 185, 3) := by decide +kernel
theorem dX5_costWith_27 : decode cX5_costWith 27 = .ok (.ifCond .eq 19, 3) := by decide +kernel
theorem dX5_costWith_30 : decode cX5_costWith 30 = .ok (.aload_n 0, 1) := by decide +kernel
theorem dX5_costWith_31 : decode cX5_costWith 31 = .ok (.getfield 53, 3) := by decide +kernel
theorem dX5_costWith_34 : decode cX5_costWith 34 = .ok (.aload_n 0, 1) := by decide +kernel
theorem dX5_costWith_35 : decode cX5_costWith 35 = .ok (.getfield 22, 3) := by decide +kernel
theorem dX5_costWith_38 : decode cX5_costWith 38 = .ok (.iload_n 1, 1) := by decide +kernel
theorem dX5_costWith_39 : decode cX5_costWith 39 = .ok (.iload_n 3, 1) := by decide +kernel
theorem dX5_costWith_40 : decode cX5_costWith 40 = .ok (.invokevirtual 188, 3) := by decide +kernel
theorem dX5_costWith_43 : decode cX5_costWith 43 = .ok (.goto 4, 3) := by decide +kernel
theorem dX5_costWith_46 : decode cX5_costWith 46 = .ok (.iconst (-1), 1) := by decide +kernel
theorem dX5_costWith_47 : decode cX5_costWith 47 = .ok (.ireturn, 1) := by decide +kernel
set_option maxRecDepth 20000 in
theorem ggX5_scoreWith_X5_checkSegment : GoodIn wsX5_scoreWith wsX5_checkSegment := goodIn_ca (goodIn_r _ [6, 7, 8, 9, 10, 11, 5, 12, 13, 14, 15, 16, 17, 18, 210, 211, 212, 213, 214, 215, 216, 217, 218, 219] (by decide +kernel) (by decide +kernel)) (goodIn_sub (fun _ h => List.mem_cons_of_mem _ (List.mem_append_right _ h)) (by decide +kernel))
set_option maxRecDepth 20000 in
theorem gX5_scoreWith_X5_checkSegment : GoodIn wsX5_scoreWith (wsV RX5 173 RX5 yX5_checkSegment wsX5_checkSegment) := goodIn_app (goodIn_of _ (by decide +kernel)) ggX5_scoreWith_X5_checkSegment
set_option maxRecDepth 20000 in
theorem ggX5_scoreWith_X5_checkEncoding : GoodIn wsX5_scoreWith wsX5_checkEncoding := goodIn_ca (goodIn_r _ [21, 7, 8] (by decide +kernel) (by decide +kernel)) (goodIn_sub (fun _ h => List.mem_cons_of_mem _ (List.mem_append_right _ h)) (by decide +kernel))
set_option maxRecDepth 20000 in
theorem gX5_scoreWith_X5_checkEncoding : GoodIn wsX5_scoreWith (va_wsS RX5 176 yX5_checkEncoding wsX5_checkEncoding) := goodIn_app (goodIn_of _ (by decide +kernel)) ggX5_scoreWith_X5_checkEncoding
set_option maxRecDepth 20000 in
theorem ggX5_scoreWith_X5_study : GoodIn wsX5_scoreWith wsX5_study := goodIn_r _ [25, 1, 26, 27, 28, 5, 29, 30, 31, 32, 33, 34, 35, 36, 37, 38, 39, 40, 14, 41, 42, 43, 44, 45, 46, 47, 48, 49, 50, 51, 52, 53, 54, 55, 56, 13, 57, 58, 59, 60, 61, 62, 63, 64, 65, 66, 67, 68, 69, 70, 71, 72, 73, 74, 75, 76, 77, 78, 79, 80, 81, 82, 83, 84, 85, 86, 87, 88, 89, 90, 91, 92, 93, 94, 95, 96, 97, 98, 99, 100, 101, 102, 103, 104, 105, 106, 107, 108, 109, 110, 111, 112, 113, 114, 115, 116, 117, 118, 119, 120, 121, 122, 123, 124, 125, 126, 127, 128, 129, 130, 131, 132, 133, 134, 135, 136, 137, 138, 139, 140, 141, 142, 210, 211, 212, 213, 214, 215, 216, 217, 218, 219, 220, 221, 222, 223, 224, 225, 226, 227, 228, 229, 230, 231, 232, 233, 234, 235, 236, 237] (by decide +kernel) (by decide +kernel)
set_option maxRecDepth 20000 in
theorem gX5_scoreWith_X5_study : GoodIn wsX5_scoreWith (wsV RX5 179 RX5 yX5_study wsX5_study) := goodIn_app (goodIn_of _ (by decide +kernel)) ggX5_scoreWith_X5_study
set_option maxRecDepth 20000 in
theorem ggX5_scoreWith_X2_isPossible : GoodIn wsX5_scoreWith wsX2_isPossible := goodIn_r _ [146, 121, 227, 228, 229, 230, 231, 232, 233, 234, 235, 236, 237] (by decide +kernel) (by decide +kernel)
set_option maxRecDepth 20000 in
theorem gX5_scoreWith_X2_isPossible : GoodIn wsX5_scoreWith (wsV RX5 185 RX2 yX2_isPossible wsX2_isPossible) := goodIn_app (goodIn_of _ (by decide +kernel)) ggX5_scoreWith_X2_isPossible
set_option maxRecDepth 20000 in
theorem ggX5_scoreWith_X5_scoreOf : GoodIn wsX5_scoreWith wsX5_scoreOf := goodIn_r _ [150, 151, 1, 152, 153, 154, 155, 101, 156, 120, 121, 122, 130, 131, 132, 157, 144, 145, 146, 158, 159, 160, 161, 162, 163, 164, 165, 166, 167, 168, 169, 48, 49, 50, 51, 52, 170, 171, 172, 173, 119, 124, 125, 59, 126, 174, 58, 60, 175, 176, 177, 178, 179, 180, 181, 182, 183, 184, 185, 186, 187, 188, 127, 133, 189, 190, 191, 192, 193, 194, 195, 196, 197, 198, 199, 200, 201, 128, 202, 203, 204, 205, 206, 207, 208, 209, 129, 210, 211, 212, 213, 214, 215, 216, 217, 218, 219, 227, 228, 229, 230, 231, 232, 233, 234, 235, 236, 237, 238, 239, 240, 241, 242, 222] (by decide +kernel) (by decide +kernel)
set_option maxRecDepth 20000 in
theorem gX5_scoreWith_X5_scoreOf : GoodIn wsX5_scoreWith (wsV RX5 192 RX5 yX5_scoreOf wsX5_scoreOf) := goodIn_app (goodIn_of _ (by decide +kernel)) ggX5_scoreWith_X5_scoreOf
theorem dX5_scoreWith_0 : decode cX5_scoreWith 0 = .ok (.aload_n 0, 1) := by decide +kernel
theorem dX5_scoreWith_1 : decode cX5_scoreWith 1 = .ok (.iload_n 1, 1) := by decide +kernel
theorem dX5_scoreWith_2 : decode cX5_scoreWith 2 = .ok (.invokevirtual 173, 3) := by decide +kernel
theorem dX5_scoreWith_5 : decode cX5_scoreWith 5 = .ok (.iload_n 2, 1) := by decide +kernel
theorem dX5_scoreWith_6 : decode cX5_scoreWith 6 = .ok (.invokestatic 176, 3) := by decide +kernel
theorem dX5_scoreWith_9 : decode cX5_scoreWith 9 = .ok (.aload_n 0, 1) := by decide +kernel
theorem dX5_scoreWith_10 : decode cX5_scoreWith 10 = .ok (.iload_n 1, 1) := by decide +kernel
theorem dX5_scoreWith_11 : decode cX5_scoreWith 11 = .ok (.invokevirtual 179, 3) := by decide +kernel
theorem dX5_scoreWith_14 : decode cX5_scoreWith 14 = .ok (.aload_n 0, 1) := by decide +kernel
theorem dX5_scoreWith_15 : decode cX5_scoreWith 15 = .ok (.getfield 53, 3) := by decide +kernel
theorem dX5_scoreWith_18 : decode cX5_scoreWith 18 = .ok (.iload_n 2, 1) := by decide +kernel
theorem dX5_scoreWith_19 : decode cX5_scoreWith 19 = .ok (.invokevirtual 185, 3) := by decide +kernel
theorem dX5_scoreWith_22 : decode cX5_scoreWith 22 = .ok (.ifCond .eq 11, 3) := by decide +kernel
theorem dX5_scoreWith_25 : decode cX5_scoreWith 25 = .ok (.aload_n 0, 1) := by decide +kernel
theorem dX5_scoreWith_26 : decode cX5_scoreWith 26 = .ok (.iload_n 2, 1) := by decide +kernel
theorem dX5_scoreWith_27 : decode cX5_scoreWith 27 = .ok (.invokevirtual 192, 3) := by decide +kernel
theorem dX5_scoreWith_30 : decode cX5_scoreWith 30 = .ok (.goto 4, 3) := by decide +kernel
theorem dX5_scoreWith_33 : decode cX5_scoreWith 33 = .ok (.iconst (-1), 1) := by decide +kernel
theorem dX5_scoreWith_34 : decode cX5_scoreWith 34 = .ok (.ireturn, 1) := by decide +kernel
set_option maxRecDepth 20000 in
theorem ggX5_choose_X5_segmentCount : GoodIn wsX5_choose wsX5_segmentCount := goodIn_r _ [6, 7, 8, 9, 10, 11, 5, 12, 273, 274, 275, 276, 277, 278, 279, 280, 281, 282] (by decide +kernel) (by decide +kernel)
set_option maxRecDepth 20000 in
theorem gX5_choose_X5_segmentCount : GoodIn wsX5_choose (wsV RX5 98 RX5 yX5_segmentCount wsX5_segmentCount) := goodIn_app (goodIn_of _ (by decide +kernel)) ggX5_choose_X5_segmentCount
set_option maxRecDepth 20000 in
theorem ggX5_choose_X5_study : GoodIn wsX5_choose wsX5_study := goodIn_r _ [16, 17, 18, 19, 20, 5, 21, 22, 23, 1, 24, 25, 26, 27, 28, 29, 30, 31, 8, 32, 33, 34, 35, 36, 37, 38, 39, 40, 41, 42, 43, 44, 45, 46, 47, 7, 48, 49, 50, 51, 52, 53, 54, 55, 56, 57, 58, 59, 60, 61, 62, 63, 64, 65, 66, 67, 68, 69, 70, 71, 72, 73, 74, 75, 76, 77, 78, 79, 80, 81, 82, 83, 84, 85, 86, 87, 88, 89, 90, 91, 92, 93, 94, 95, 96, 97, 98, 99, 100, 101, 102, 103, 104, 105, 106, 107, 108, 109, 110, 111, 112, 113, 114, 115, 116, 117, 118, 119, 120, 121, 122, 123, 124, 125, 126, 127, 128, 129, 130, 131, 132, 133, 273, 274, 275, 276, 277, 278, 279, 280, 281, 282, 283, 284, 285, 286, 287, 288, 289, 290, 291, 292, 293, 294, 295, 296, 297, 298, 299, 300] (by decide +kernel) (by decide +kernel)
set_option maxRecDepth 20000 in
theorem gX5_choose_X5_study : GoodIn wsX5_choose (wsV RX5 179 RX5 yX5_study wsX5_study) := goodIn_app (goodIn_of _ (by decide +kernel)) ggX5_choose_X5_study
set_option maxRecDepth 20000 in
theorem ggX5_choose_X5_bestEncoding : GoodIn wsX5_choose wsX5_bestEncoding := goodIn_r _ [137, 17, 138, 139, 140, 5, 141, 142, 143, 144, 145, 146, 92, 147, 111, 112, 113, 121, 122, 123, 148, 149, 150, 151, 152, 153, 154, 155, 156, 157, 158, 159, 160, 161, 162, 163, 39, 40, 41, 42, 43, 164, 165, 166, 167, 110, 115, 116, 50, 117, 168, 49, 51, 169, 170, 171, 172, 173, 174, 175, 176, 177, 178, 179, 180, 181, 182, 118, 124, 183, 184, 185, 186, 187, 188, 189, 190, 191, 192, 193, 194, 195, 119, 196, 197, 198, 199, 200, 201, 202, 203, 120, 204, 273, 274, 275, 276, 277, 278, 279, 280, 281, 282, 290, 291, 292, 293, 294, 295, 296, 297, 298, 299, 300, 301, 302, 303, 304, 305, 285] (by decide +kernel) (by decide +kernel)
set_option maxRecDepth 20000 in
theorem gX5_choose_X5_bestEncoding : GoodIn wsX5_choose (wsV RX5 195 RX5 yX5_bestEncoding wsX5_bestEncoding) := goodIn_app (goodIn_of _ (by decide +kernel)) ggX5_choose_X5_bestEncoding
set_option maxRecDepth 20000 in
theorem ggX5_choose_X3_get : GoodIn wsX5_choose wsX3_get := goodIn_r _ [42, 43, 285] (by decide +kernel) (by decide +kernel)
set_option maxRecDepth 20000 in
theorem gX5_choose_X3_get : GoodIn wsX5_choose (wsV RX5 117 RX3 yX3_get wsX3_get) := goodIn_app (goodIn_of _ (by decide +kernel)) ggX5_choose_X3_get
set_option maxRecDepth 20000 in
theorem ggX5_choose_X5_store : GoodIn wsX5_choose wsX5_store := goodIn_r _ [208, 17, 22, 23, 1, 209, 28, 29, 30, 5, 31, 8, 44, 45, 46, 47, 7, 48, 49, 50, 51, 106, 107, 108, 92, 109, 110, 111, 112, 113, 114, 115, 116, 117, 118, 119, 120, 121, 122, 123, 124, 39, 40, 41, 42, 43, 125, 126, 127, 128, 129, 74, 75, 76, 130, 131, 132, 133, 91, 93, 24, 25, 26, 27, 32, 33, 34, 35, 36, 37, 210, 211, 212, 55, 213, 61, 214, 215, 216, 217, 94, 218, 219, 220, 221, 66, 67, 222, 223, 224, 225, 72, 226, 227, 228, 229, 230, 231, 232, 233, 234, 235, 236, 237, 238, 239, 240, 241, 242, 243, 244, 245, 246, 196, 197, 198, 199, 247, 248, 249, 250, 251, 252, 253, 254, 255, 256, 257, 258, 259, 260, 261, 262, 263, 264, 265, 266, 267, 268, 269, 270, 271, 272, 144, 145, 146, 147, 148, 149, 150, 151, 273, 274, 275, 276, 277, 278, 279, 280, 281, 282, 290, 291, 292, 293, 294, 295, 296, 297, 298, 299, 300, 285, 283, 284, 286, 287, 288, 289] (by decide +kernel) (by decide +kernel)
set_option maxRecDepth 20000 in
theorem gX5_choose_X5_store : GoodIn wsX5_choose (wsV RX5 109 RX5 yX5_store wsX5_store) := goodIn_app (goodIn_of _ (by decide +kernel)) ggX5_choose_X5_store
theorem dX5_choose_0 : decode cX5_choose 0 = .ok (.iconst 0, 1) := by decide +kernel
theorem dX5_choose_1 : decode cX5_choose 1 = .ok (.istore_n 1, 1) := by decide +kernel
theorem dX5_choose_2 : decode cX5_choose 2 = .ok (.aload_n 0, 1) := by decide +kernel
theorem dX5_choose_3 : decode cX5_choose 3 = .ok (.invokevirtual 98, 3) := by decide +kernel
theorem dX5_choose_6 : decode cX5_choose 6 = .ok (.istore_n 2, 1) := by decide +kernel
theorem dX5_choose_7 : decode cX5_choose 7 = .ok (.iconst 0, 1) := by decide +kernel
theorem dX5_choose_8 : decode cX5_choose 8 = .ok (.istore_n 3, 1) := by decide +kernel
theorem dX5_choose_9 : decode cX5_choose 9 = .ok (.iload_n 3, 1) := by decide +kernel
theorem dX5_choose_10 : decode cX5_choose 10 = .ok (.iload_n 2, 1) := by decide +kernel
theorem dX5_choose_11 : decode cX5_choose 11 = .ok (.if_icmp .ge 43, 3) := by decide +kernel
theorem dX5_choose_14 : decode cX5_choose 14 = .ok (.aload_n 0, 1) := by decide +kernel
theorem dX5_choose_15 : decode cX5_choose 15 = .ok (.iload_n 3, 1) := by decide +kernel
theorem dX5_choose_16 : decode cX5_choose 16 = .ok (.invokevirtual 179, 3) := by decide +kernel
theorem dX5_choose_19 : decode cX5_choose 19 = .ok (.aload_n 0, 1) := by decide +kernel
theorem dX5_choose_20 : decode cX5_choose 20 = .ok (.invokevirtual 195, 3) := by decide +kernel
theorem dX5_choose_23 : decode cX5_choose 23 = .ok (.istore 4, 2) := by decide +kernel
theorem dX5_choose_25 : decode cX5_choose 25 = .ok (.iload 4, 2) := by decide +kernel
theorem dX5_choose_27 : decode cX5_choose 27 = .ok (.aload_n 0, 1) := by decide +kernel
theorem dX5_choose_28 : decode cX5_choose 28 = .ok (.getfield 31, 3) := by decide +kernel
theorem dX5_choose_31 : decode cX5_choose 31 = .ok (.iload_n 3, 1) := by decide +kernel
theorem dX5_choose_32 : decode cX5_choose 32 = .ok (.invokevirtual 117, 3) := by decide +kernel
theorem dX5_choose_35 : decode cX5_choose 35 = .ok (.if_icmp .eq 13, 3) := by decide +kernel
theorem dX5_choose_38 : decode cX5_choose 38 = .ok (.aload_n 0, 1) := by decide +kernel
theorem dX5_choose_39 : decode cX5_choose 39 = .ok (.iload_n 3, 1) := by decide +kernel
theorem dX5_choose_40 : decode cX5_choose 40 = .ok (.iload 4, 2) := by decide +kernel
theorem dX5_choose_42 : decode cX5_choose 42 = .ok (.invokevirtual 109, 3) := by decide +kernel
theorem dX5_choose_45 : decode cX5_choose 45 = .ok (.iinc 1 1, 3) := by decide +kernel
theorem dX5_choose_48 : decode cX5_choose 48 = .ok (.iinc 3 1, 3) := by decide +kernel
theorem dX5_choose_51 : decode cX5_choose 51 = .ok (.goto (-42), 3) := by decide +kernel
theorem dX5_choose_54 : decode cX5_choose 54 = .ok (.iload_n 1, 1) := by decide +kernel
theorem dX5_choose_55 : decode cX5_choose 55 = .ok (.ireturn, 1) := by decide +kernel
set_option maxRecDepth 20000 in
theorem ggX5_use_X5_checkSegment : GoodIn wsX5_use wsX5_checkSegment := goodIn_ca (goodIn_r _ [9, 10, 11, 12, 13, 14, 8, 15, 16, 17, 18, 19, 20, 21, 226, 227, 228, 229, 230, 231, 232, 233, 234, 235] (by decide +kernel) (by decide +kernel)) (goodIn_sub (fun _ h => List.mem_cons_of_mem _ (List.mem_append_right _ h)) (by decide +kernel))
set_option maxRecDepth 20000 in
theorem gX5_use_X5_checkSegment : GoodIn wsX5_use (wsV RX5 173 RX5 yX5_checkSegment wsX5_checkSegment) := goodIn_app (goodIn_of _ (by decide +kernel)) ggX5_use_X5_checkSegment
set_option maxRecDepth 20000 in
theorem ggX5_use_X5_checkEncoding : GoodIn wsX5_use wsX5_checkEncoding := goodIn_ca (goodIn_r _ [24, 10, 11] (by decide +kernel) (by decide +kernel)) (goodIn_sub (fun _ h => List.mem_cons_of_mem _ (List.mem_append_right _ h)) (by decide +kernel))
set_option maxRecDepth 20000 in
theorem gX5_use_X5_checkEncoding : GoodIn wsX5_use (va_wsS RX5 176 yX5_checkEncoding wsX5_checkEncoding) := goodIn_app (goodIn_of _ (by decide +kernel)) ggX5_use_X5_checkEncoding
set_option maxRecDepth 20000 in
theorem ggX5_use_X5_study : GoodIn wsX5_use wsX5_study := goodIn_r _ [28, 3, 29, 30, 31, 8, 32, 33, 34, 4, 35, 36, 37, 38, 39, 40, 41, 42, 17, 43, 44, 45, 46, 47, 48, 49, 50, 51, 52, 53, 54, 55, 56, 57, 58, 16, 59, 60, 61, 62, 63, 64, 65, 66, 67, 68, 69, 70, 71, 72, 73, 74, 75, 76, 77, 78, 79, 80, 81, 82, 83, 84, 85, 86, 87, 88, 89, 90, 91, 92, 93, 94, 95, 96, 97, 98, 99, 100, 101, 102, 103, 104, 105, 106, 107, 108, 109, 110, 111, 112, 113, 114, 115, 116, 117, 118, 119, 120, 121, 122, 123, 124, 125, 126, 127, 128, 129, 130, 131, 132, 133, 134, 135, 136, 137, 138, 139, 140, 141, 142, 143, 144, 226, 227, 228, 229, 230, 231, 232, 233, 234, 235, 236, 237, 238, 239, 240, 241, 242, 243, 244, 245, 246, 247, 248, 249, 250, 251, 252, 253] (by decide +kernel) (by decide +kernel)
set_option maxRecDepth 20000 in
theorem gX5_use_X5_study : GoodIn wsX5_use (wsV RX5 179 RX5 yX5_study wsX5_study) := goodIn_app (goodIn_of _ (by decide +kernel)) ggX5_use_X5_study
set_option maxRecDepth 20000 in
theorem ggX5_use_X2_isPossible : GoodIn wsX5_use wsX2_isPossible := goodIn_r _ [148, 123, 243, 244, 245, 246, 247, 248, 249, 250, 251, 252, 253] (by decide +kernel) (by decide +kernel)
set_option maxRecDepth 20000 in
theorem gX5_use_X2_isPossible : GoodIn wsX5_use (wsV RX5 185 RX2 yX2_isPossible wsX2_isPossible) := goodIn_app (goodIn_of _ (by decide +kernel)) ggX5_use_X2_isPossible
set_option maxRecDepth 20000 in
theorem ggX5_use_X3_get : GoodIn wsX5_use wsX3_get := goodIn_r _ [53, 54, 238] (by decide +kernel) (by decide +kernel)
set_option maxRecDepth 20000 in
theorem gX5_use_X3_get : GoodIn wsX5_use (wsV RX5 117 RX3 yX3_get wsX3_get) := goodIn_app (goodIn_of _ (by decide +kernel)) ggX5_use_X3_get
set_option maxRecDepth 20000 in
theorem ggX5_use_X5_store : GoodIn wsX5_use wsX5_store := goodIn_r _ [152, 3, 33, 34, 4, 153, 39, 40, 41, 8, 42, 17, 55, 56, 57, 58, 16, 59, 60, 61, 62, 117, 118, 119, 103, 120, 121, 122, 123, 124, 125, 126, 127, 128, 129, 130, 131, 132, 133, 134, 135, 50, 51, 52, 53, 54, 136, 137, 138, 139, 140, 85, 86, 87, 141, 142, 143, 144, 102, 104, 35, 36, 37, 38, 43, 44, 45, 46, 47, 48, 154, 155, 156, 66, 157, 72, 158, 159, 160, 161, 105, 162, 163, 164, 165, 77, 78, 166, 167, 168, 169, 83, 170, 171, 172, 173, 174, 175, 176, 177, 178, 179, 180, 181, 182, 183, 184, 185, 186, 187, 188, 189, 190, 191, 192, 193, 194, 195, 196, 197, 198, 199, 200, 201, 202, 203, 204, 205, 206, 207, 208, 209, 210, 211, 212, 213, 214, 215, 216, 217, 218, 219, 220, 221, 222, 223, 224, 225, 146, 147, 148, 226, 227, 228, 229, 230, 231, 232, 233, 234, 235, 243, 244, 245, 246, 247, 248, 249, 250, 251, 252, 253, 238, 236, 237, 239, 240, 241, 242] (by decide +kernel) (by decide +kernel)
set_option maxRecDepth 20000 in
theorem gX5_use_X5_store : GoodIn wsX5_use (wsV RX5 109 RX5 yX5_store wsX5_store) := goodIn_app (goodIn_of _ (by decide +kernel)) ggX5_use_X5_store
theorem dX5_use_0 : decode cX5_use 0 = .ok (.aload_n 0, 1) := by decide +kernel
theorem dX5_use_1 : decode cX5_use 1 = .ok (.iload_n 1, 1) := by decide +kernel
theorem dX5_use_2 : decode cX5_use 2 = .ok (.invokevirtual 173, 3) := by decide +kernel
theorem dX5_use_5 : decode cX5_use 5 = .ok (.iload_n 2, 1) := by decide +kernel
theorem dX5_use_6 : decode cX5_use 6 = .ok (.invokestatic 176, 3) := by decide +kernel
theorem dX5_use_9 : decode cX5_use 9 = .ok (.aload_n 0, 1) := by decide +kernel
theorem dX5_use_10 : decode cX5_use 10 = .ok (.iload_n 1, 1) := by decide +kernel
theorem dX5_use_11 : decode cX5_use 11 = .ok (.invokevirtual 179, 3) := by decide +kernel
theorem dX5_use_14 : decode cX5_use 14 = .ok (.aload_n 0, 1) := by decide +kernel
theorem dX5_use_15 : decode cX5_use 15 = .ok (.getfield 53, 3) := by decide +kernel
theorem dX5_use_18 : decode cX5_use 18 = .ok (.iload_n 2, 1) := by decide +kernel
theorem dX5_use_19 : decode cX5_use 19 = .ok (.invokevirtual 185, 3) := by decide +kernel
theorem dX5_use_22 : decode cX5_use 22 = .ok (.ifCond .ne 13, 3) := by decide +kernel
theorem dX5_use_25 : decode cX5_use 25 = .ok (.new 82, 3) := by decide +kernel
theorem dX5_use_28 : decode cX5_use 28 = .ok (.dup, 1) := by decide +kernel
theorem dX5_use_29 : decode cX5_use 29 = .ok (.ldc 198, 2) := by decide +kernel
theorem dX5_use_31 : decode cX5_use 31 = .ok (.invokespecial 86, 3) := by decide +kernel
theorem dX5_use_34 : decode cX5_use 34 = .ok (.athrow, 1) := by decide +kernel
theorem dX5_use_35 : decode cX5_use 35 = .ok (.aload_n 0, 1) := by decide +kernel
theorem dX5_use_36 : decode cX5_use 36 = .ok (.getfield 31, 3) := by decide +kernel
theorem dX5_use_39 : decode cX5_use 39 = .ok (.iload_n 1, 1) := by decide +kernel
theorem dX5_use_40 : decode cX5_use 40 = .ok (.invokevirtual 117, 3) := by decide +kernel
theorem dX5_use_43 : decode cX5_use 43 = .ok (.istore_n 3, 1) := by decide +kernel
theorem dX5_use_44 : decode cX5_use 44 = .ok (.aload_n 0, 1) := by decide +kernel
theorem dX5_use_45 : decode cX5_use 45 = .ok (.iload_n 1, 1) := by decide +kernel
theorem dX5_use_46 : decode cX5_use 46 = .ok (.iload_n 2, 1) := by decide +kernel
theorem dX5_use_47 : decode cX5_use 47 = .ok (.invokevirtual 109, 3) := by decide +kernel
theorem dX5_use_50 : decode cX5_use 50 = .ok (.iload_n 3, 1) := by decide +kernel
theorem dX5_use_51 : decode cX5_use 51 = .ok (.ireturn, 1) := by decide +kernel
set_option maxRecDepth 20000 in
theorem ggX5_encoding_X5_checkSegment : GoodIn wsX5_encoding wsX5_checkSegment := goodIn_ca (goodIn_r _ [6, 7, 8, 9, 10, 11, 5, 12, 13, 14, 15, 16, 17, 18, 25, 26, 27, 28, 29, 30, 31, 32, 33, 34] (by decide +kernel) (by decide +kernel)) (goodIn_sub (fun _ h => List.mem_cons_of_mem _ (List.mem_append_right _ h)) (by decide +kernel))
set_option maxRecDepth 20000 in
theorem gX5_encoding_X5_checkSegment : GoodIn wsX5_encoding (wsV RX5 173 RX5 yX5_checkSegment wsX5_checkSegment) := goodIn_app (goodIn_of _ (by decide +kernel)) ggX5_encoding_X5_checkSegment
set_option maxRecDepth 20000 in
theorem ggX5_encoding_X3_get : GoodIn wsX5_encoding wsX3_get := goodIn_r _ [23, 24, 35] (by decide +kernel) (by decide +kernel)
set_option maxRecDepth 20000 in
theorem gX5_encoding_X3_get : GoodIn wsX5_encoding (wsV RX5 117 RX3 yX3_get wsX3_get) := goodIn_app (goodIn_of _ (by decide +kernel)) ggX5_encoding_X3_get
theorem dX5_encoding_0 : decode cX5_encoding 0 = .ok (.aload_n 0, 1) := by decide +kernel
theorem dX5_encoding_1 : decode cX5_encoding 1 = .ok (.iload_n 1, 1) := by decide +kernel
theorem dX5_encoding_2 : decode cX5_encoding 2 = .ok (.invokevirtual 173, 3) := by decide +kernel
theorem dX5_encoding_5 : decode cX5_encoding 5 = .ok (.aload_n 0, 1) := by decide +kernel
theorem dX5_encoding_6 : decode cX5_encoding 6 = .ok (.getfield 31, 3) := by decide +kernel
theorem dX5_encoding_9 : decode cX5_encoding 9 = .ok (.iload_n 1, 1) := by decide +kernel
theorem dX5_encoding_10 : decode cX5_encoding 10 = .ok (.invokevirtual 117, 3) := by decide +kernel
theorem dX5_encoding_13 : decode cX5_encoding 13 = .ok (.ireturn, 1) := by decide +kernel
set_option maxRecDepth 20000 in
theorem ggX5_bitCount_X5_checkSegment : GoodIn wsX5_bitCount wsX5_checkSegment := goodIn_ca (goodIn_r _ [6, 7, 8, 9, 10, 11, 5, 12, 13, 14, 15, 16, 17, 18, 25, 26, 27, 28, 29, 30, 31, 32, 33, 34] (by decide +kernel) (by decide +kernel)) (goodIn_sub (fun _ h => List.mem_cons_of_mem _ (List.mem_append_right _ h)) (by decide +kernel))
set_option maxRecDepth 20000 in
theorem gX5_bitCount_X5_checkSegment : GoodIn wsX5_bitCount (wsV RX5 173 RX5 yX5_checkSegment wsX5_checkSegment) := goodIn_app (goodIn_of _ (by decide +kernel)) ggX5_bitCount_X5_checkSegment
set_option maxRecDepth 20000 in
theorem ggX5_bitCount_X3_get : GoodIn wsX5_bitCount wsX3_get := goodIn_r _ [23, 24, 35] (by decide +kernel) (by decide +kernel)
set_option maxRecDepth 20000 in
theorem gX5_bitCount_X3_get : GoodIn wsX5_bitCount (wsV RX5 117 RX3 yX3_get wsX3_get) := goodIn_app (goodIn_of _ (by decide +kernel)) ggX5_bitCount_X3_get
theorem dX5_bitCount_0 : decode cX5_bitCount 0 = .ok (.aload_n 0, 1) := by decide +kernel
theorem dX5_bitCount_1 : decode cX5_bitCount 1 = .ok (.iload_n 1, 1) := by decide +kernel
theorem dX5_bitCount_2 : decode cX5_bitCount 2 = .ok (.invokevirtual 173, 3) := by decide +kernel
theorem dX5_bitCount_5 : decode cX5_bitCount 5 = .ok (.aload_n 0, 1) := by decide +kernel
theorem dX5_bitCount_6 : decode cX5_bitCount 6 = .ok (.getfield 35, 3) := by decide +kernel
theorem dX5_bitCount_9 : decode cX5_bitCount 9 = .ok (.iload_n 1, 1) := by decide +kernel
theorem dX5_bitCount_10 : decode cX5_bitCount 10 = .ok (.invokevirtual 117, 3) := by decide +kernel
theorem dX5_bitCount_13 : decode cX5_bitCount 13 = .ok (.ireturn, 1) := by decide +kernel
set_option maxRecDepth 20000 in
theorem ggX5_bit_X5_checkSegment : GoodIn wsX5_bit wsX5_checkSegment := goodIn_ca (goodIn_r _ [9, 1, 2, 10, 11, 12, 8, 13, 14, 15, 16, 17, 18, 19, 40, 41, 42, 43, 44, 45, 46, 47, 48, 49] (by decide +kernel) (by decide +kernel)) (goodIn_sub (fun _ h => List.mem_cons_of_mem _ (List.mem_append_right _ h)) (by decide +kernel))
set_option maxRecDepth 20000 in
theorem gX5_bit_X5_checkSegment : GoodIn wsX5_bit (wsV RX5 173 RX5 yX5_checkSegment wsX5_checkSegment) := goodIn_app (goodIn_of _ (by decide +kernel)) ggX5_bit_X5_checkSegment
set_option maxRecDepth 20000 in
theorem ggX5_bit_X3_get : GoodIn wsX5_bit wsX3_get := goodIn_r _ [24, 25, 50] (by decide +kernel) (by decide +kernel)
set_option maxRecDepth 20000 in
theorem gX5_bit_X3_get : GoodIn wsX5_bit (wsV RX5 117 RX3 yX3_get wsX3_get) := goodIn_app (goodIn_of _ (by decide +kernel)) ggX5_bit_X3_get
set_option maxRecDepth 20000 in
theorem ggX5_bit_X5_startOf : GoodIn wsX5_bit wsX5_startOf := goodIn_r _ [29, 30, 31, 32, 8, 33, 15, 40, 41, 42, 43, 44, 45, 46, 47, 48, 49] (by decide +kernel) (by decide +kernel)
set_option maxRecDepth 20000 in
theorem gX5_bit_X5_startOf : GoodIn wsX5_bit (wsV RX5 205 RX5 yX5_startOf wsX5_startOf) := goodIn_app (goodIn_of _ (by decide +kernel)) ggX5_bit_X5_startOf
set_option maxRecDepth 20000 in
theorem ggX5_bit_X0_bitAt : GoodIn wsX5_bit wsX0_bitAt := goodIn_r _ [38, 39, 51, 52] (by decide +kernel) (by decide +kernel)
set_option maxRecDepth 20000 in
theorem gX5_bit_X0_bitAt : GoodIn wsX5_bit (wsV RX5 208 RX0 yX0_bitAt wsX0_bitAt) := goodIn_app (goodIn_of _ (by decide +kernel)) ggX5_bit_X0_bitAt
theorem dX5_bit_0 : decode cX5_bit 0 = .ok (.aload_n 0, 1) := by decide +kernel
theorem dX5_bit_1 : decode cX5_bit 1 = .ok (.iload_n 1, 1) := by decide +kernel
theorem dX5_bit_2 : decode cX5_bit 2 = .ok (.invokevirtual 173, 3) := by decide +kernel
theorem dX5_bit_5 : decode cX5_bit 5 = .ok (.iload_n 2, 1) := by decide +kernel
theorem dX5_bit_6 : decode cX5_bit 6 = .ok (.ifCond .lt 15, 3) := by decide +kernel
theorem dX5_bit_9 : decode cX5_bit 9 = .ok (.iload_n 2, 1) := by decide +kernel
theorem dX5_bit_10 : decode cX5_bit 10 = .ok (.aload_n 0, 1) := by decide +kernel
theorem dX5_bit_11 : decode cX5_bit 11 = .ok (.getfield 35, 3) := by decide +kernel
theorem dX5_bit_14 : decode cX5_bit 14 = .ok (.iload_n 1, 1) := by decide +kernel
theorem dX5_bit_15 : decode cX5_bit 15 = .ok (.invokevirtual 117, 3) := by decide +kernel
theorem dX5_bit_18 : decode cX5_bit 18 = .ok (.if_icmp .lt 13, 3) := by decide +kernel
theorem dX5_bit_21 : decode cX5_bit 21 = .ok (.new 200, 3) := by decide +kernel
theorem dX5_bit_24 : decode cX5_bit 24 = .ok (.dup, 1) := by decide +kernel
theorem dX5_bit_25 : decode cX5_bit 25 = .ok (.ldc 202, 2) := by decide +kernel
theorem dX5_bit_27 : decode cX5_bit 27 = .ok (.invokespecial 204, 3) := by decide +kernel
theorem dX5_bit_30 : decode cX5_bit 30 = .ok (.athrow, 1) := by decide +kernel
theorem dX5_bit_31 : decode cX5_bit 31 = .ok (.aload_n 0, 1) := by decide +kernel
theorem dX5_bit_32 : decode cX5_bit 32 = .ok (.getfield 41, 3) := by decide +kernel
theorem dX5_bit_35 : decode cX5_bit 35 = .ok (.aload_n 0, 1) := by decide +kernel
theorem dX5_bit_36 : decode cX5_bit 36 = .ok (.iload_n 1, 1) := by decide +kernel
theorem dX5_bit_37 : decode cX5_bit 37 = .ok (.invokevirtual 205, 3) := by decide +kernel
theorem dX5_bit_40 : decode cX5_bit 40 = .ok (.iload_n 2, 1) := by decide +kernel
theorem dX5_bit_41 : decode cX5_bit 41 = .ok (.iadd, 1) := by decide +kernel
theorem dX5_bit_42 : decode cX5_bit 42 = .ok (.invokevirtual 208, 3) := by decide +kernel
theorem dX5_bit_45 : decode cX5_bit 45 = .ok (.ireturn, 1) := by decide +kernel
set_option maxRecDepth 20000 in
theorem ggX5_size_X5_segmentCount : GoodIn wsX5_size wsX5_segmentCount := goodIn_r _ [6, 7, 8, 9, 10, 11, 5, 12, 19, 20, 21, 22, 23, 24, 25, 26, 27, 28] (by decide +kernel) (by decide +kernel)
set_option maxRecDepth 20000 in
theorem gX5_size_X5_segmentCount : GoodIn wsX5_size (wsV RX5 98 RX5 yX5_segmentCount wsX5_segmentCount) := goodIn_app (goodIn_of _ (by decide +kernel)) ggX5_size_X5_segmentCount
set_option maxRecDepth 20000 in
theorem ggX5_size_X3_get : GoodIn wsX5_size wsX3_get := goodIn_r _ [17, 18, 29] (by decide +kernel) (by decide +kernel)
set_option maxRecDepth 20000 in
theorem gX5_size_X3_get : GoodIn wsX5_size (wsV RX5 117 RX3 yX3_get wsX3_get) := goodIn_app (goodIn_of _ (by decide +kernel)) ggX5_size_X3_get
theorem dX5_size_0 : decode cX5_size 0 = .ok (.iconst 0, 1) := by decide +kernel
theorem dX5_size_1 : decode cX5_size 1 = .ok (.istore_n 1, 1) := by decide +kernel
theorem dX5_size_2 : decode cX5_size 2 = .ok (.aload_n 0, 1) := by decide +kernel
theorem dX5_size_3 : decode cX5_size 3 = .ok (.invokevirtual 98, 3) := by decide +kernel
theorem dX5_size_6 : decode cX5_size 6 = .ok (.istore_n 2, 1) := by decide +kernel
theorem dX5_size_7 : decode cX5_size 7 = .ok (.iconst 0, 1) := by decide +kernel
theorem dX5_size_8 : decode cX5_size 8 = .ok (.istore_n 3, 1) := by decide +kernel
theorem dX5_size_9 : decode cX5_size 9 = .ok (.iload_n 3, 1) := by decide +kernel
theorem dX5_size_10 : decode cX5_size 10 = .ok (.iload_n 2, 1) := by decide +kernel
theorem dX5_size_11 : decode cX5_size 11 = .ok (.if_icmp .ge 20, 3) := by decide +kernel
theorem dX5_size_14 : decode cX5_size 14 = .ok (.iload_n 1, 1) := by decide +kernel
theorem dX5_size_15 : decode cX5_size 15 = .ok (.aload_n 0, 1) := by decide +kernel
theorem dX5_size_16 : decode cX5_size 16 = .ok (.getfield 35, 3) := by decide +kernel
theorem dX5_size_19 : decode cX5_size 19 = .ok (.iload_n 3, 1) := by decide +kernel
theorem dX5_size_20 : decode cX5_size 20 = .ok (.invokevirtual 117, 3) := by decide +kernel
theorem dX5_size_23 : decode cX5_size 23 = .ok (.iadd, 1) := by decide +kernel
theorem dX5_size_24 : decode cX5_size 24 = .ok (.istore_n 1, 1) := by decide +kernel
theorem dX5_size_25 : decode cX5_size 25 = .ok (.iinc 3 1, 3) := by decide +kernel
theorem dX5_size_28 : decode cX5_size 28 = .ok (.goto (-19), 3) := by decide +kernel
theorem dX5_size_31 : decode cX5_size 31 = .ok (.iload_n 1, 1) := by decide +kernel
theorem dX5_size_32 : decode cX5_size 32 = .ok (.ireturn, 1) := by decide +kernel
set_option maxRecDepth 20000 in
theorem ggX5_score_X5_segmentCount : GoodIn wsX5_score wsX5_segmentCount := goodIn_r _ [6, 7, 8, 9, 10, 11, 5, 12, 200, 201, 202, 203, 204, 205, 206, 207, 208, 209] (by decide +kernel) (by decide +kernel)
set_option maxRecDepth 20000 in
theorem gX5_score_X5_segmentCount : GoodIn wsX5_score (wsV RX5 98 RX5 yX5_segmentCount wsX5_segmentCount) := goodIn_app (goodIn_of _ (by decide +kernel)) ggX5_score_X5_segmentCount
set_option maxRecDepth 20000 in
theorem ggX5_score_X5_study : GoodIn wsX5_score wsX5_study := goodIn_r _ [16, 17, 18, 19, 20, 5, 21, 22, 23, 1, 24, 25, 26, 27, 28, 29, 30, 31, 8, 32, 33, 34, 35, 36, 37, 38, 39, 40, 41, 42, 43, 44, 45, 46, 47, 7, 48, 49, 50, 51, 52, 53, 54, 55, 56, 57, 58, 59, 60, 61, 62, 63, 64, 65, 66, 67, 68, 69, 70, 71, 72, 73, 74, 75, 76, 77, 78, 79, 80, 81, 82, 83, 84, 85, 86, 87, 88, 89, 90, 91, 92, 93, 94, 95, 96, 97, 98, 99, 100, 101, 102, 103, 104, 105, 106, 107, 108, 109, 110, 111, 112, 113, 114, 115, 116, 117, 118, 119, 120, 121, 122, 123, 124, 125, 126, 127, 128, 129, 130, 131, 132, 133, 200, 201, 202, 203, 204, 205, 206, 207, 208, 209, 210, 211, 212, 213, 214, 215, 216, 217, 218, 219, 220, 221, 222, 223, 224, 225, 226, 227] (by decide +kernel) (by decide +kernel)
set_option maxRecDepth 20000 in
theorem gX5_score_X5_study : GoodIn wsX5_score (wsV RX5 179 RX5 yX5_study wsX5_study) := goodIn_app (goodIn_of _ (by decide +kernel)) ggX5_score_X5_study
set_option maxRecDepth 20000 in
theorem ggX5_score_X3_get : GoodIn wsX5_score wsX3_get := goodIn_r _ [42, 43, 212] (by decide +kernel) (by decide +kernel)
set_option maxRecDepth 20000 in
theorem gX5_score_X3_get : GoodIn wsX5_score (wsV RX5 117 RX3 yX3_get wsX3_get) := goodIn_app (goodIn_of _ (by decide +kernel)) ggX5_score_X3_get
set_option maxRecDepth 20000 in
theorem ggX5_score_X5_scoreOf : GoodIn wsX5_score wsX5_scoreOf := goodIn_r _ [137, 138, 17, 139, 140, 141, 142, 92, 143, 111, 112, 113, 121, 122, 123, 144, 145, 146, 147, 148, 149, 150, 151, 152, 153, 154, 155, 156, 157, 158, 159, 39, 40, 41, 42, 43, 160, 161, 162, 163, 110, 115, 116, 50, 117, 164, 49, 51, 165, 166, 167, 168, 169, 170, 171, 172, 173, 174, 175, 176, 177, 178, 118, 124, 179, 180, 181, 182, 183, 184, 185, 186, 187, 188, 189, 190, 191, 119, 192, 193, 194, 195, 196, 197, 198, 199, 120, 200, 201, 202, 203, 204, 205, 206, 207, 208, 209, 217, 218, 219, 220, 221, 222, 223, 224, 225, 226, 227, 228, 229, 230, 231, 232, 212] (by decide +kernel) (by decide +kernel)
set_option maxRecDepth 20000 in
theorem gX5_score_X5_scoreOf : GoodIn wsX5_score (wsV RX5 192 RX5 yX5_scoreOf wsX5_scoreOf) := goodIn_app (goodIn_of _ (by decide +kernel)) ggX5_score_X5_scoreOf
theorem dX5_score_0 : decode cX5_score 0 = .ok (.iconst 0, 1) := by decide +kernel
theorem dX5_score_1 : decode cX5_score 1 = .ok (.istore_n 1, 1) := by decide +kernel
theorem dX5_score_2 : decode cX5_score 2 = .ok (.aload_n 0, 1) := by decide +kernel
theorem dX5_score_3 : decode cX5_score 3 = .ok (.invokevirtual 98, 3) := by decide +kernel
theorem dX5_score_6 : decode cX5_score 6 = .ok (.istore_n 2, 1) := by decide +kernel
theorem dX5_score_7 : decode cX5_score 7 = .ok (.iconst 0, 1) := by decide +kernel
theorem dX5_score_8 : decode cX5_score 8 = .ok (.istore_n 3, 1) := by decide +kernel
theorem dX5_score_9 : decode cX5_score 9 = .ok (.iload_n 3, 1) := by decide +kernel
theorem dX5_score_10 : decode cX5_score 10 = .ok (.iload_n 2, 1) := by decide +kernel
theorem dX5_score_11 : decode cX5_score 11 = .ok (.if_icmp .ge 29, 3) := by decide +kernel
theorem dX5_score_14 : decode cX5_score 14 = .ok (.aload_n 0, 1) := by decide +kernel
theorem dX5_score_15 : decode cX5_score 15 = .ok (.iload_n 3, 1) := by decide +kernel
theorem dX5_score_16 : decode cX5_score 16 = .ok (.invokevirtual 179, 3) := by decide +kernel
theorem dX5_score_19 : decode cX5_score 19 = .ok (.iload_n 1, 1) := by decide +kernel
theorem dX5_score_20 : decode cX5_score 20 = .ok (.aload_n 0, 1) := by decide +kernel
theorem dX5_score_21 : decode cX5_score 21 = .ok (.aload_n 0, 1) := by decide +kernel
theorem dX5_score_22 : decode cX5_score 22 = .ok (.getfield 31, 3) := by decide +kernel
theorem dX5_score_25 : decode cX5_score 25 = .ok (.iload_n 3, 1) := by decide +kernel
theorem dX5_score_26 : decode cX5_score 26 = .ok (.invokevirtual 117, 3) := by decide +kernel
theorem dX5_score_29 : decode cX5_score 29 = .ok (.invokevirtual 192, 3) := by decide +kernel
theorem dX5_score_32 : decode cX5_score 32 = .ok (.iadd, 1) := by decide +kernel
theorem dX5_score_33 : decode cX5_score 33 = .ok (.istore_n 1, 1) := by decide +kernel
theorem dX5_score_34 : decode cX5_score 34 = .ok (.iinc 3 1, 3) := by decide +kernel
theorem dX5_score_37 : decode cX5_score 37 = .ok (.goto (-28), 3) := by decide +kernel
theorem dX5_score_40 : decode cX5_score 40 = .ok (.iload_n 1, 1) := by decide +kernel
theorem dX5_score_41 : decode cX5_score 41 = .ok (.ireturn, 1) := by decide +kernel
set_option maxRecDepth 20000 in
theorem ggX5_bestSegmentSize_X5_loadColumn : GoodIn wsX5_bestSegmentSize wsX5_loadColumn := goodIn_r _ [5, 6, 7, 8, 4, 9, 10, 11, 12, 13, 14, 15, 16, 17, 18, 19, 20, 21, 22, 23, 24, 25, 26, 27, 28, 29, 30, 31, 32, 33, 34, 35, 36, 37, 38, 39, 40, 41, 42, 43, 44, 45, 46, 47, 48, 49, 50, 51, 52, 53, 54, 55, 56, 57, 58, 59, 60, 61, 62, 63, 64, 65, 66, 67, 68, 69, 70, 71, 72, 73, 74, 75, 76, 77, 78, 79, 80, 81, 82, 83, 84, 85, 86, 87, 88, 89, 90, 91, 92, 93, 94, 95, 96, 97, 98, 99, 100, 101, 102, 103, 104, 209, 210, 211, 212, 213, 214, 215, 216, 217, 218, 219, 220, 221, 222, 223, 224, 225] (by decide +kernel) (by decide +kernel)
set_option maxRecDepth 20000 in
theorem gX5_bestSegmentSize_X5_loadColumn : GoodIn wsX5_bestSegmentSize (wsV RX5 124 RX5 yX5_loadColumn wsX5_loadColumn) := goodIn_app (goodIn_of _ (by decide +kernel)) ggX5_bestSegmentSize_X5_loadColumn
set_option maxRecDepth 20000 in
theorem ggX5_bestSegmentSize_X5_scoreIfChosen : GoodIn wsX5_bestSegmentSize wsX5_scoreIfChosen := goodIn_r _ [108, 10, 109, 47, 48, 49, 50, 110, 111, 112, 91, 113, 114, 115, 116, 117, 118, 119, 120, 121, 122, 123, 124, 125, 126, 127, 128, 38, 39, 40, 41, 42, 129, 130, 131, 132, 133, 73, 74, 75, 134, 135, 136, 137, 90, 92, 138, 139, 140, 4, 141, 142, 143, 144, 145, 146, 147, 148, 149, 150, 151, 152, 153, 154, 155, 156, 157, 158, 159, 160, 161, 162, 163, 164, 165, 166, 167, 168, 169, 170, 171, 172, 173, 174, 175, 176, 177, 178, 179, 180, 181, 182, 183, 184, 185, 186, 187, 188, 189, 190, 191, 192, 193, 194, 195, 196, 197, 198, 199, 200, 201, 202, 203, 204, 205, 206, 207, 208, 209, 210, 211, 212, 213, 214, 215, 216, 217, 218, 226, 227, 228, 229, 230, 231, 232, 233, 234, 235, 236, 221, 237, 238, 239, 240, 241] (by decide +kernel) (by decide +kernel)
set_option maxRecDepth 20000 in
theorem gX5_bestSegmentSize_X5_scoreIfChosen : GoodIn wsX5_bestSegmentSize (wsV RX5 211 RX5 yX5_scoreIfChosen wsX5_scoreIfChosen) := goodIn_app (goodIn_of _ (by decide +kernel)) ggX5_bestSegmentSize_X5_scoreIfChosen
theorem dX5_bestSegmentSize_0 : decode cX5_bestSegmentSize 0 = .ok (.aload_n 0, 1) := by decide +kernel
theorem dX5_bestSegmentSize_1 : decode cX5_bestSegmentSize 1 = .ok (.invokevirtual 124, 3) := by decide +kernel
theorem dX5_bestSegmentSize_4 : decode cX5_bestSegmentSize 4 = .ok (.iconst 4, 1) := by decide +kernel
theorem dX5_bestSegmentSize_5 : decode cX5_bestSegmentSize 5 = .ok (.istore_n 1, 1) := by decide +kernel
theorem dX5_bestSegmentSize_6 : decode cX5_bestSegmentSize 6 = .ok (.aload_n 0, 1) := by decide +kernel
theorem dX5_bestSegmentSize_7 : decode cX5_bestSegmentSize 7 = .ok (.iconst 4, 1) := by decide +kernel
theorem dX5_bestSegmentSize_8 : decode cX5_bestSegmentSize 8 = .ok (.invokevirtual 211, 3) := by decide +kernel
theorem dX5_bestSegmentSize_11 : decode cX5_bestSegmentSize 11 = .ok (.istore_n 2, 1) := by decide +kernel
theorem dX5_bestSegmentSize_12 : decode cX5_bestSegmentSize 12 = .ok (.iconst 5, 1) := by decide +kernel
theorem dX5_bestSegmentSize_13 : decode cX5_bestSegmentSize 13 = .ok (.istore_n 3, 1) := by decide +kernel
theorem dX5_bestSegmentSize_14 : decode cX5_bestSegmentSize 14 = .ok (.iload_n 3, 1) := by decide +kernel
theorem dX5_bestSegmentSize_15 : decode cX5_bestSegmentSize 15 = .ok (.bipush 32, 2) := by decide +kernel
theorem dX5_bestSegmentSize_17 : decode cX5_bestSegmentSize 17 = .ok (.if_icmp .gt 27, 3) := by decide +kernel
theorem dX5_bestSegmentSize_20 : decode cX5_bestSegmentSize 20 = .ok (.aload_n 0, 1) := by decide +kernel
theorem dX5_bestSegmentSize_21 : decode cX5_bestSegmentSize 21 = .ok (.iload_n 3, 1) := by decide +kernel
theorem dX5_bestSegmentSize_22 : decode cX5_bestSegmentSize 22 = .ok (.invokevirtual 211, 3) := by decide +kernel
theorem dX5_bestSegmentSize_25 : decode cX5_bestSegmentSize 25 = .ok (.istore 4, 2) := by decide +kernel
theorem dX5_bestSegmentSize_27 : decode cX5_bestSegmentSize 27 = .ok (.iload 4, 2) := by decide +kernel
theorem dX5_bestSegmentSize_29 : decode cX5_bestSegmentSize 29 = .ok (.iload_n 2, 1) := by decide +kernel
theorem dX5_bestSegmentSize_30 : decode cX5_bestSegmentSize 30 = .ok (.if_icmp .ge 8, 3) := by decide +kernel
theorem dX5_bestSegmentSize_33 : decode cX5_bestSegmentSize 33 = .ok (.iload 4, 2) := by decide +kernel
theorem dX5_bestSegmentSize_35 : decode cX5_bestSegmentSize 35 = .ok (.istore_n 2, 1) := by decide +kernel
theorem dX5_bestSegmentSize_36 : decode cX5_bestSegmentSize 36 = .ok (.iload_n 3, 1) := by decide +kernel
theorem dX5_bestSegmentSize_37 : decode cX5_bestSegmentSize 37 = .ok (.istore_n 1, 1) := by decide +kernel
theorem dX5_bestSegmentSize_38 : decode cX5_bestSegmentSize 38 = .ok (.iinc 3 1, 3) := by decide +kernel
theorem dX5_bestSegmentSize_41 : decode cX5_bestSegmentSize 41 = .ok (.goto (-27), 3) := by decide +kernel
theorem dX5_bestSegmentSize_44 : decode cX5_bestSegmentSize 44 = .ok (.iload_n 1, 1) := by decide +kernel
theorem dX5_bestSegmentSize_45 : decode cX5_bestSegmentSize 45 = .ok (.ireturn, 1) := by decide +kernel
set_option maxRecDepth 20000 in
theorem ggX5_ratio_X5_size : GoodIn wsX5_ratio wsX5_size := goodIn_r _ [6, 7, 8, 9, 10, 5, 11, 1, 12, 13, 14, 15, 16, 17, 18, 19, 20, 21, 22, 23, 24, 25, 26, 27, 28, 29, 30, 31, 32, 33] (by decide +kernel) (by decide +kernel)
set_option maxRecDepth 20000 in
theorem gX5_ratio_X5_size : GoodIn wsX5_ratio (wsV RX5 214 RX5 yX5_size wsX5_size) := goodIn_app (goodIn_of _ (by decide +kernel)) ggX5_ratio_X5_size
theorem dX5_ratio_0 : decode cX5_ratio 0 = .ok (.aload_n 0, 1) := by decide +kernel
theorem dX5_ratio_1 : decode cX5_ratio 1 = .ok (.getfield 9, 3) := by decide +kernel
theorem dX5_ratio_4 : decode cX5_ratio 4 = .ok (.bipush 18, 2) := by decide +kernel
theorem dX5_ratio_6 : decode cX5_ratio 6 = .ok (.imul, 1) := by decide +kernel
theorem dX5_ratio_7 : decode cX5_ratio 7 = .ok (.istore_n 1, 1) := by decide +kernel
theorem dX5_ratio_8 : decode cX5_ratio 8 = .ok (.iload_n 1, 1) := by decide +kernel
theorem dX5_ratio_9 : decode cX5_ratio 9 = .ok (.ifCond .le 14, 3) := by decide +kernel
theorem dX5_ratio_12 : decode cX5_ratio 12 = .ok (.aload_n 0, 1) := by decide +kernel
theorem dX5_ratio_13 : decode cX5_ratio 13 = .ok (.invokevirtual 214, 3) := by decide +kernel
theorem dX5_ratio_16 : decode cX5_ratio 16 = .ok (.i2d, 1) := by decide +kernel
theorem dX5_ratio_17 : decode cX5_ratio 17 = .ok (.iload_n 1, 1) := by decide +kernel
theorem dX5_ratio_18 : decode cX5_ratio 18 = .ok (.i2d, 1) := by decide +kernel
theorem dX5_ratio_19 : decode cX5_ratio 19 = .ok (.ddiv, 1) := by decide +kernel
theorem dX5_ratio_20 : decode cX5_ratio 20 = .ok (.goto 4, 3) := by decide +kernel
theorem dX5_ratio_23 : decode cX5_ratio 23 = .ok (.dconst 1, 1) := by decide +kernel
theorem dX5_ratio_24 : decode cX5_ratio 24 = .ok (.dreturn, 1) := by decide +kernel
set_option maxRecDepth 20000 in
theorem ggX5_digest_X4_count : GoodIn wsX5_digest wsX4_count := goodIn_r _ [11, 12, 59, 60, 61, 62, 63] (by decide +kernel) (by decide +kernel)
set_option maxRecDepth 20000 in
theorem gX5_digest_X4_count : GoodIn wsX5_digest (wsV RX5 133 RX4 yX4_count wsX4_count) := goodIn_app (goodIn_of _ (by decide +kernel)) ggX5_digest_X4_count
set_option maxRecDepth 20000 in
theorem ggX5_digest_X5_segmentCount : GoodIn wsX5_digest wsX5_segmentCount := goodIn_r _ [17, 3, 4, 18, 19, 20, 16, 21, 49, 50, 51, 52, 53, 54, 55, 56, 57, 58] (by decide +kernel) (by decide +kernel)
set_option maxRecDepth 20000 in
theorem gX5_digest_X5_segmentCount : GoodIn wsX5_digest (wsV RX5 98 RX5 yX5_segmentCount wsX5_segmentCount) := goodIn_app (goodIn_of _ (by decide +kernel)) ggX5_digest_X5_segmentCount
set_option maxRecDepth 20000 in
theorem ggX5_digest_X5_digestOf : GoodIn wsX5_digest wsX5_digestOf := goodIn_r _ [25, 26, 2, 27, 28, 29, 30, 31, 16, 32, 33, 34, 35, 36, 4, 37, 38, 39, 40, 41, 42, 43, 44, 45, 46, 47, 48, 49, 50, 51, 52, 53, 54, 55, 56, 57, 58, 64, 65, 66] (by decide +kernel) (by decide +kernel)
set_option maxRecDepth 20000 in
theorem gX5_digest_X5_digestOf : GoodIn wsX5_digest (wsV RX5 221 RX5 yX5_digestOf wsX5_digestOf) := goodIn_app (goodIn_of _ (by decide +kernel)) ggX5_digest_X5_digestOf
theorem dX5_digest_0 : decode cX5_digest 0 = .ok (.ldc2_w 217, 3) := by decide +kernel
theorem dX5_digest_3 : decode cX5_digest 3 = .ok (.lstore_n 1, 1) := by decide +kernel
theorem dX5_digest_4 : decode cX5_digest 4 = .ok (.lload_n 1, 1) := by decide +kernel
theorem dX5_digest_5 : decode cX5_digest 5 = .ok (.ldc2_w 219, 3) := by decide +kernel
theorem dX5_digest_8 : decode cX5_digest 8 = .ok (.lmul, 1) := by decide +kernel
theorem dX5_digest_9 : decode cX5_digest 9 = .ok (.aload_n 0, 1) := by decide +kernel
theorem dX5_digest_10 : decode cX5_digest 10 = .ok (.getfield 9, 3) := by decide +kernel
theorem dX5_digest_13 : decode cX5_digest 13 = .ok (.i2l, 1) := by decide +kernel
theorem dX5_digest_14 : decode cX5_digest 14 = .ok (.ladd, 1) := by decide +kernel
theorem dX5_digest_15 : decode cX5_digest 15 = .ok (.lstore_n 1, 1) := by decide +kernel
theorem dX5_digest_16 : decode cX5_digest 16 = .ok (.lload_n 1, 1) := by decide +kernel
theorem dX5_digest_17 : decode cX5_digest 17 = .ok (.ldc2_w 219, 3) := by decide +kernel
theorem dX5_digest_20 : decode cX5_digest 20 = .ok (.lmul, 1) := by decide +kernel
theorem dX5_digest_21 : decode cX5_digest 21 = .ok (.aload_n 0, 1) := by decide +kernel
theorem dX5_digest_22 : decode cX5_digest 22 = .ok (.getfield 13, 3) := by decide +kernel
theorem dX5_digest_25 : decode cX5_digest 25 = .ok (.i2l, 1) := by decide +kernel
theorem dX5_digest_26 : decode cX5_digest 26 = .ok (.ladd, 1) := by decide +kernel
theorem dX5_digest_27 : decode cX5_digest 27 = .ok (.lstore_n 1, 1) := by decide +kernel
theorem dX5_digest_28 : decode cX5_digest 28 = .ok (.lload_n 1, 1) := by decide +kernel
theorem dX5_digest_29 : decode cX5_digest 29 = .ok (.ldc2_w 219, 3) := by decide +kernel
theorem dX5_digest_32 : decode cX5_digest 32 = .ok (.lmul, 1) := by decide +kernel
theorem dX5_digest_33 : decode cX5_digest 33 = .ok (.aload_n 0, 1) := by decide +kernel
theorem dX5_digest_34 : decode cX5_digest 34 = .ok (.getfield 16, 3) := by decide +kernel
theorem dX5_digest_37 : decode cX5_digest 37 = .ok (.i2l, 1) := by decide +kernel
theorem dX5_digest_38 : decode cX5_digest 38 = .ok (.ladd, 1) := by decide +kernel
theorem dX5_digest_39 : decode cX5_digest 39 = .ok (.lstore_n 1, 1) := by decide +kernel
theorem dX5_digest_40 : decode cX5_digest 40 = .ok (.lload_n 1, 1) := by decide +kernel
theorem dX5_digest_41 : decode cX5_digest 41 = .ok (.ldc2_w 219, 3) := by decide +kernel
theorem dX5_digest_44 : decode cX5_digest 44 = .ok (.lmul, 1) := by decide +kernel
theorem dX5_digest_45 : decode cX5_digest 45 = .ok (.aload_n 0, 1) := by decide +kernel
theorem dX5_digest_46 : decode cX5_digest 46 = .ok (.getfield 22, 3) := by decide +kernel
theorem dX5_digest_49 : decode cX5_digest 49 = .ok (.invokevirtual 133, 3) := by decide +kernel
theorem dX5_digest_52 : decode cX5_digest 52 = .ok (.i2l, 1) := by decide +kernel
theorem dX5_digest_53 : decode cX5_digest 53 = .ok (.ladd, 1) := by decide +kernel
theorem dX5_digest_54 : decode cX5_digest 54 = .ok (.lstore_n 1, 1) := by decide +kernel
theorem dX5_digest_55 : decode cX5_digest 55 = .ok (.aload_n 0, 1) := by decide +kernel
theorem dX5_digest_56 : decode cX5_digest 56 = .ok (.invokevirtual 98, 3) := by decide +kernel
theorem dX5_digest_59 : decode cX5_digest 59 = .ok (.istore_n 3, 1) := by decide +kernel
theorem dX5_digest_60 : decode cX5_digest 60 = .ok (.iconst 0, 1) := by decide +kernel
theorem dX5_digest_61 : decode cX5_digest 61 = .ok (.istore 4, 2) := by decide +kernel
theorem dX5_digest_63 : decode cX5_digest 63 = .ok (.iload 4, 2) := by decide +kernel
theorem dX5_digest_65 : decode cX5_digest 65 = .ok (.iload_n 3, 1) := by decide +kernel
theorem dX5_digest_66 : decode cX5_digest 66 = .ok (.if_icmp .ge 17, 3) := by decide +kernel
theorem dX5_digest_69 : decode cX5_digest 69 = .ok (.aload_n 0, 1) := by decide +kernel
theorem dX5_digest_70 : decode cX5_digest 70 = .ok (.iload 4, 2) := by decide +kernel
theorem dX5_digest_72 : decode cX5_digest 72 = .ok (.lload_n 1, 1) := by decide +kernel
theorem dX5_digest_73 : decode cX5_digest 73 = .ok (.invokevirtual 221, 3) := by decide +kernel
theorem dX5_digest_76 : decode cX5_digest 76 = .ok (.lstore_n 1, 1) := by decide +kernel
theorem dX5_digest_77 : decode cX5_digest 77 = .ok (.iinc 4 1, 3) := by decide +kernel
theorem dX5_digest_80 : decode cX5_digest 80 = .ok (.goto (-17), 3) := by decide +kernel
theorem dX5_digest_83 : decode cX5_digest 83 = .ok (.lload_n 1, 1) := by decide +kernel
theorem dX5_digest_84 : decode cX5_digest 84 = .ok (.lreturn, 1) := by decide +kernel
set_option maxRecDepth 20000 in
theorem ggX5_digestOf_X5_startOf : GoodIn wsX5_digestOf wsX5_startOf := goodIn_r _ [9, 10, 11, 12, 8, 13, 14, 27, 28, 29, 30, 31, 32, 33, 34, 35, 36] (by decide +kernel) (by decide +kernel)
set_option maxRecDepth 20000 in
theorem gX5_digestOf_X5_startOf : GoodIn wsX5_digestOf (wsV RX5 205 RX5 yX5_startOf wsX5_startOf) := goodIn_app (goodIn_of _ (by decide +kernel)) ggX5_digestOf_X5_startOf
set_option maxRecDepth 20000 in
theorem ggX5_digestOf_X3_get : GoodIn wsX5_digestOf wsX3_get := goodIn_r _ [19, 20, 37] (by decide +kernel) (by decide +kernel)
set_option maxRecDepth 20000 in
theorem gX5_digestOf_X3_get : GoodIn wsX5_digestOf (wsV RX5 117 RX3 yX3_get wsX3_get) := goodIn_app (goodIn_of _ (by decide +kernel)) ggX5_digestOf_X3_get
set_option maxRecDepth 20000 in
theorem ggX5_digestOf_X0_bitAt : GoodIn wsX5_digestOf wsX0_bitAt := goodIn_r _ [25, 26, 38, 39] (by decide +kernel) (by decide +kernel)
set_option maxRecDepth 20000 in
theorem gX5_digestOf_X0_bitAt : GoodIn wsX5_digestOf (wsV RX5 208 RX0 yX0_bitAt wsX0_bitAt) := goodIn_app (goodIn_of _ (by decide +kernel)) ggX5_digestOf_X0_bitAt
theorem dX5_digestOf_0 : decode cX5_digestOf 0 = .ok (.aload_n 0, 1) := by decide +kernel
theorem dX5_digestOf_1 : decode cX5_digestOf 1 = .ok (.iload_n 1, 1) := by decide +kernel
theorem dX5_digestOf_2 : decode cX5_digestOf 2 = .ok (.invokevirtual 205, 3) := by decide +kernel
theorem dX5_digestOf_5 : decode cX5_digestOf 5 = .ok (.istore 4, 2) := by decide +kernel
theorem dX5_digestOf_7 : decode cX5_digestOf 7 = .ok (.aload_n 0, 1) := by decide +kernel
theorem dX5_digestOf_8 : decode cX5_digestOf 8 = .ok (.getfield 35, 3) := by decide +kernel
theorem dX5_digestOf_11 : decode cX5_digestOf 11 = .ok (.iload_n 1, 1) := by decide +kernel
theorem dX5_digestOf_12 : decode cX5_digestOf 12 = .ok (.invokevirtual 117, 3) := by decide +kernel
theorem dX5_digestOf_15 : decode cX5_digestOf 15 = .ok (.istore 5, 2) := by decide +kernel
theorem dX5_digestOf_17 : decode cX5_digestOf 17 = .ok (.lload_n 2, 1) := by decide +kernel
theorem dX5_digestOf_18 : decode cX5_digestOf 18 = .ok (.ldc2_w 219, 3) := by decide +kernel
theorem dX5_digestOf_21 : decode cX5_digestOf 21 = .ok (.lmul, 1) := by decide +kernel
theorem dX5_digestOf_22 : decode cX5_digestOf 22 = .ok (.aload_n 0, 1) := by decide +kernel
theorem dX5_digestOf_23 : decode cX5_digestOf 23 = .ok (.getfield 31, 3) := by decide +kernel
theorem dX5_digestOf_26 : decode cX5_digestOf 26 = .ok (.iload_n 1, 1) := by decide +kernel
theorem dX5_digestOf_27 : decode cX5_digestOf 27 = .ok (.invokevirtual 117, 3) := by decide +kernel
theorem dX5_digestOf_30 : decode cX5_digestOf 30 = .ok (.i2l, 1) := by decide +kernel
theorem dX5_digestOf_31 : decode cX5_digestOf 31 = .ok (.ladd, 1) := by decide +kernel
theorem dX5_digestOf_32 : decode cX5_digestOf 32 = .ok (.lstore 6, 2) := by decide +kernel
theorem dX5_digestOf_34 : decode cX5_digestOf 34 = .ok (.lload 6, 2) := by decide +kernel
theorem dX5_digestOf_36 : decode cX5_digestOf 36 = .ok (.ldc2_w 219, 3) := by decide +kernel
theorem dX5_digestOf_39 : decode cX5_digestOf 39 = .ok (.lmul, 1) := by decide +kernel
theorem dX5_digestOf_40 : decode cX5_digestOf 40 = .ok (.iload 5, 2) := by decide +kernel
theorem dX5_digestOf_42 : decode cX5_digestOf 42 = .ok (.i2l, 1) := by decide +kernel
theorem dX5_digestOf_43 : decode cX5_digestOf 43 = .ok (.ladd, 1) := by decide +kernel
theorem dX5_digestOf_44 : decode cX5_digestOf 44 = .ok (.lstore 6, 2) := by decide +kernel
theorem dX5_digestOf_46 : decode cX5_digestOf 46 = .ok (.iconst 0, 1) := by decide +kernel
theorem dX5_digestOf_47 : decode cX5_digestOf 47 = .ok (.istore 8, 2) := by decide +kernel
theorem dX5_digestOf_49 : decode cX5_digestOf 49 = .ok (.iload 8, 2) := by decide +kernel
theorem dX5_digestOf_51 : decode cX5_digestOf 51 = .ok (.iload 5, 2) := by decide +kernel
theorem dX5_digestOf_53 : decode cX5_digestOf 53 = .ok (.if_icmp .ge 31, 3) := by decide +kernel
theorem dX5_digestOf_56 : decode cX5_digestOf 56 = .ok (.lload 6, 2) := by decide +kernel
theorem dX5_digestOf_58 : decode cX5_digestOf 58 = .ok (.ldc2_w 219, 3) := by decide +kernel
theorem dX5_digestOf_61 : decode cX5_digestOf 61 = .ok (.lmul, 1) := by decide +kernel
theorem dX5_digestOf_62 : decode cX5_digestOf 62 = .ok (.aload_n 0, 1) := by decide +kernel
theorem dX5_digestOf_63 : decode cX5_digestOf 63 = .ok (.getfield 41, 3) := by decide +kernel
theorem dX5_digestOf_66 : decode cX5_digestOf 66 = .ok (.iload 4, 2) := by decide +kernel
theorem dX5_digestOf_68 : decode cX5_digestOf 68 = .ok (.iload 8, 2) := by decide +kernel
theorem dX5_digestOf_70 : decode cX5_digestOf 70 = .ok (.iadd, 1) := by decide +kernel
theorem dX5_digestOf_71 : decode cX5_digestOf 71 = .ok (.invokevirtual 208, 3) := by decide +kernel
theorem dX5_digestOf_74 : decode cX5_digestOf 74 = .ok (.i2l, 1) := by decide +kernel
theorem dX5_digestOf_75 : decode cX5_digestOf 75 = .ok (.ladd, 1) := by decide +kernel
theorem dX5_digestOf_76 : decode cX5_digestOf 76 = .ok (.lstore 6, 2) := by decide +kernel
theorem dX5_digestOf_78 : decode cX5_digestOf 78 = .ok (.iinc 8 1, 3) := by decide +kernel
theorem dX5_digestOf_81 : decode cX5_digestOf 81 = .ok (.goto (-32), 3) := by decide +kernel
theorem dX5_digestOf_84 : decode cX5_digestOf 84 = .ok (.lload 6, 2) := by decide +kernel
theorem dX5_digestOf_86 : decode cX5_digestOf 86 = .ok (.lreturn, 1) := by decide +kernel
theorem dX5_isValue_0 : decode cX5_isValue 0 = .ok (.lload_n 0, 1) := by decide +kernel
theorem dX5_isValue_1 : decode cX5_isValue 1 = .ok (.ldc2_w 225, 3) := by decide +kernel
theorem dX5_isValue_4 : decode cX5_isValue 4 = .ok (.lcmp, 1) := by decide +kernel
theorem dX5_isValue_5 : decode cX5_isValue 5 = .ok (.ifCond .lt 15, 3) := by decide +kernel
theorem dX5_isValue_8 : decode cX5_isValue 8 = .ok (.lload_n 0, 1) := by decide +kernel
theorem dX5_isValue_9 : decode cX5_isValue 9 = .ok (.ldc2_w 227, 3) := by decide +kernel
theorem dX5_isValue_12 : decode cX5_isValue 12 = .ok (.lcmp, 1) := by decide +kernel
theorem dX5_isValue_13 : decode cX5_isValue 13 = .ok (.ifCond .gt 7, 3) := by decide +kernel
theorem dX5_isValue_16 : decode cX5_isValue 16 = .ok (.iconst 1, 1) := by decide +kernel
theorem dX5_isValue_17 : decode cX5_isValue 17 = .ok (.goto 4, 3) := by decide +kernel
theorem dX5_isValue_20 : decode cX5_isValue 20 = .ok (.iconst 0, 1) := by decide +kernel
theorem dX5_isValue_21 : decode cX5_isValue 21 = .ok (.ireturn, 1) := by decide +kernel
theorem dX5_isRowNumber_0 : decode cX5_isRowNumber 0 = .ok (.iload_n 0, 1) := by decide +kernel
theorem dX5_isRowNumber_1 : decode cX5_isRowNumber 1 = .ok (.iconst 1, 1) := by decide +kernel
theorem dX5_isRowNumber_2 : decode cX5_isRowNumber 2 = .ok (.if_icmp .lt 13, 3) := by decide +kernel
theorem dX5_isRowNumber_5 : decode cX5_isRowNumber 5 = .ok (.iload_n 0, 1) := by decide +kernel
theorem dX5_isRowNumber_6 : decode cX5_isRowNumber 6 = .ok (.bipush 96, 2) := by decide +kernel
theorem dX5_isRowNumber_8 : decode cX5_isRowNumber 8 = .ok (.if_icmp .gt 7, 3) := by decide +kernel
theorem dX5_isRowNumber_11 : decode cX5_isRowNumber 11 = .ok (.iconst 1, 1) := by decide +kernel
theorem dX5_isRowNumber_12 : decode cX5_isRowNumber 12 = .ok (.goto 4, 3) := by decide +kernel
theorem dX5_isRowNumber_15 : decode cX5_isRowNumber 15 = .ok (.iconst 0, 1) := by decide +kernel
theorem dX5_isRowNumber_16 : decode cX5_isRowNumber 16 = .ok (.ireturn, 1) := by decide +kernel
theorem dX5_lastOfClimb_0 : decode cX5_lastOfClimb 0 = .ok (.iload_n 0, 1) := by decide +kernel
theorem dX5_lastOfClimb_1 : decode cX5_lastOfClimb 1 = .ok (.i2l, 1) := by decide +kernel
theorem dX5_lastOfClimb_2 : decode cX5_lastOfClimb 2 = .ok (.iload_n 1, 1) := by decide +kernel
theorem dX5_lastOfClimb_3 : decode cX5_lastOfClimb 3 = .ok (.i2l, 1) := by decide +kernel
theorem dX5_lastOfClimb_4 : decode cX5_lastOfClimb 4 = .ok (.iload_n 2, 1) := by decide +kernel
theorem dX5_lastOfClimb_5 : decode cX5_lastOfClimb 5 = .ok (.iconst 1, 1) := by decide +kernel
theorem dX5_lastOfClimb_6 : decode cX5_lastOfClimb 6 = .ok (.isub, 1) := by decide +kernel
theorem dX5_lastOfClimb_7 : decode cX5_lastOfClimb 7 = .ok (.i2l, 1) := by decide +kernel
theorem dX5_lastOfClimb_8 : decode cX5_lastOfClimb 8 = .ok (.lmul, 1) := by decide +kernel
theorem dX5_lastOfClimb_9 : decode cX5_lastOfClimb 9 = .ok (.ladd, 1) := by decide +kernel
theorem dX5_lastOfClimb_10 : decode cX5_lastOfClimb 10 = .ok (.lreturn, 1) := by decide +kernel
set_option maxRecDepth 20000 in
theorem ggX5_isQuery_X5_isValue : GoodIn wsX5_isQuery wsX5_isValue := goodIn_r _ [4, 5, 6] (by decide +kernel) (by decide +kernel)
set_option maxRecDepth 20000 in
theorem gX5_isQuery_X5_isValue : GoodIn wsX5_isQuery (va_wsS RX5 74 yX5_isValue wsX5_isValue) := goodIn_app (goodIn_of _ (by decide +kernel)) ggX5_isQuery_X5_isValue
theorem dX5_isQuery_0 : decode cX5_isQuery 0 = .ok (.iload_n 0, 1) := by decide +kernel
theorem dX5_isQuery_1 : decode cX5_isQuery 1 = .ok (.tableswitch 70 0 2 #[27, 43, 64], 27) := by decide +kernel
theorem dX5_isQuery_28 : decode cX5_isQuery 28 = .ok (.iload_n 1, 1) := by decide +kernel
theorem dX5_isQuery_29 : decode cX5_isQuery 29 = .ok (.ifCond .lt 13, 3) := by decide +kernel
theorem dX5_isQuery_32 : decode cX5_isQuery 32 = .ok (.iload_n 1, 1) := by decide +kernel
theorem dX5_isQuery_33 : decode cX5_isQuery 33 = .ok (.bipush 96, 2) := by decide +kernel
theorem dX5_isQuery_35 : decode cX5_isQuery 35 = .ok (.if_icmp .ge 7, 3) := by decide +kernel
theorem dX5_isQuery_38 : decode cX5_isQuery 38 = .ok (.iconst 1, 1) := by decide +kernel
theorem dX5_isQuery_39 : decode cX5_isQuery 39 = .ok (.goto 4, 3) := by decide +kernel
theorem dX5_isQuery_42 : decode cX5_isQuery 42 = .ok (.iconst 0, 1) := by decide +kernel
theorem dX5_isQuery_43 : decode cX5_isQuery 43 = .ok (.ireturn, 1) := by decide +kernel
theorem dX5_isQuery_44 : decode cX5_isQuery 44 = .ok (.iload_n 1, 1) := by decide +kernel
theorem dX5_isQuery_45 : decode cX5_isQuery 45 = .ok (.ifCond .lt 18, 3) := by decide +kernel
theorem dX5_isQuery_48 : decode cX5_isQuery 48 = .ok (.iload_n 2, 1) := by decide +kernel
theorem dX5_isQuery_49 : decode cX5_isQuery 49 = .ok (.bipush 96, 2) := by decide +kernel
theorem dX5_isQuery_51 : decode cX5_isQuery 51 = .ok (.if_icmp .gt 12, 3) := by decide +kernel
theorem dX5_isQuery_54 : decode cX5_isQuery 54 = .ok (.iload_n 1, 1) := by decide +kernel
theorem dX5_isQuery_55 : decode cX5_isQuery 55 = .ok (.iload_n 2, 1) := by decide +kernel
theorem dX5_isQuery_56 : decode cX5_isQuery 56 = .ok (.if_icmp .ge 7, 3) := by decide +kernel
theorem dX5_isQuery_59 : decode cX5_isQuery 59 = .ok (.iconst 1, 1) := by decide +kernel
theorem dX5_isQuery_60 : decode cX5_isQuery 60 = .ok (.goto 4, 3) := by decide +kernel
theorem dX5_isQuery_63 : decode cX5_isQuery 63 = .ok (.iconst 0, 1) := by decide +kernel
theorem dX5_isQuery_64 : decode cX5_isQuery 64 = .ok (.ireturn, 1) := by decide +kernel
theorem dX5_isQuery_65 : decode cX5_isQuery 65 = .ok (.iload_n 1, 1) := by decide +kernel
theorem dX5_isQuery_66 : decode cX5_isQuery 66 = .ok (.i2l, 1) := by decide +kernel
theorem dX5_isQuery_67 : decode cX5_isQuery 67 = .ok (.invokestatic 74, 3) := by decide +kernel
theorem dX5_isQuery_70 : decode cX5_isQuery 70 = .ok (.ireturn, 1) := by decide +kernel
theorem dX5_isQuery_71 : decode cX5_isQuery 71 = .ok (.iconst 0, 1) := by decide +kernel
theorem dX5_isQuery_72 : decode cX5_isQuery 72 = .ok (.ireturn, 1) := by decide +kernel
theorem dX5_checkRow_0 : decode cX5_checkRow 0 = .ok (.iload_n 1, 1) := by decide +kernel
theorem dX5_checkRow_1 : decode cX5_checkRow 1 = .ok (.ifCond .lt 11, 3) := by decide +kernel
theorem dX5_checkRow_4 : decode cX5_checkRow 4 = .ok (.iload_n 1, 1) := by decide +kernel
theorem dX5_checkRow_5 : decode cX5_checkRow 5 = .ok (.aload_n 0, 1) := by decide +kernel
theorem dX5_checkRow_6 : decode cX5_checkRow 6 = .ok (.getfield 9, 3) := by decide +kernel
theorem dX5_checkRow_9 : decode cX5_checkRow 9 = .ok (.if_icmp .lt 13, 3) := by decide +kernel
theorem dX5_checkRow_12 : decode cX5_checkRow 12 = .ok (.new 200, 3) := by decide +kernel
theorem dX5_checkRow_15 : decode cX5_checkRow 15 = .ok (.dup, 1) := by decide +kernel
theorem dX5_checkRow_16 : decode cX5_checkRow 16 = .ok (.ldc 229, 2) := by decide +kernel
theorem dX5_checkRow_18 : decode cX5_checkRow 18 = .ok (.invokespecial 204, 3) := by decide +kernel
theorem dX5_checkRow_21 : decode cX5_checkRow 21 = .ok (.athrow, 1) := by decide +kernel
theorem dX5_checkRow_22 : decode cX5_checkRow 22 = .ok (.return_, 1) := by decide +kernel
set_option maxRecDepth 20000 in
theorem ggX5_checkQuery_X4_count : GoodIn wsX5_checkQuery wsX4_count := goodIn_r _ [8, 9, 20, 21, 22, 23, 24] (by decide +kernel) (by decide +kernel)
set_option maxRecDepth 20000 in
theorem gX5_checkQuery_X4_count : GoodIn wsX5_checkQuery (wsV RX5 133 RX4 yX4_count wsX4_count) := goodIn_app (goodIn_of _ (by decide +kernel)) ggX5_checkQuery_X4_count
theorem dX5_checkQuery_0 : decode cX5_checkQuery 0 = .ok (.iload_n 1, 1) := by decide +kernel
theorem dX5_checkQuery_1 : decode cX5_checkQuery 1 = .ok (.ifCond .lt 14, 3) := by decide +kernel
theorem dX5_checkQuery_4 : decode cX5_checkQuery 4 = .ok (.iload_n 1, 1) := by decide +kernel
theorem dX5_checkQuery_5 : decode cX5_checkQuery 5 = .ok (.aload_n 0, 1) := by decide +kernel
theorem dX5_checkQuery_6 : decode cX5_checkQuery 6 = .ok (.getfield 22, 3) := by decide +kernel
theorem dX5_checkQuery_9 : decode cX5_checkQuery 9 = .ok (.invokevirtual 133, 3) := by decide +kernel
theorem dX5_checkQuery_12 : decode cX5_checkQuery 12 = .ok (.if_icmp .lt 13, 3) := by decide +kernel
theorem dX5_checkQuery_15 : decode cX5_checkQuery 15 = .ok (.new 200, 3) := by decide +kernel
theorem dX5_checkQuery_18 : decode cX5_checkQuery 18 = .ok (.dup, 1) := by decide +kernel
theorem dX5_checkQuery_19 : decode cX5_checkQuery 19 = .ok (.ldc 231, 2) := by decide +kernel
theorem dX5_checkQuery_21 : decode cX5_checkQuery 21 = .ok (.invokespecial 204, 3) := by decide +kernel
theorem dX5_checkQuery_24 : decode cX5_checkQuery 24 = .ok (.athrow, 1) := by decide +kernel
theorem dX5_checkQuery_25 : decode cX5_checkQuery 25 = .ok (.return_, 1) := by decide +kernel
set_option maxRecDepth 20000 in
theorem ggX5_checkSegment_X5_segmentCount : GoodIn wsX5_checkSegment wsX5_segmentCount := goodIn_r _ [7, 8, 9, 10, 11, 12, 6, 13, 14, 15, 16, 17, 18, 19, 20, 21, 22, 23] (by decide +kernel) (by decide +kernel)
set_option maxRecDepth 20000 in
theorem gX5_checkSegment_X5_segmentCount : GoodIn wsX5_checkSegment (wsV RX5 98 RX5 yX5_segmentCount wsX5_segmentCount) := goodIn_app (goodIn_of _ (by decide +kernel)) ggX5_checkSegment_X5_segmentCount
theorem dX5_checkSegment_0 : decode cX5_checkSegment 0 = .ok (.iload_n 1, 1) := by decide +kernel
theorem dX5_checkSegment_1 : decode cX5_checkSegment 1 = .ok (.ifCond .lt 11, 3) := by decide +kernel
theorem dX5_checkSegment_4 : decode cX5_checkSegment 4 = .ok (.iload_n 1, 1) := by decide +kernel
theorem dX5_checkSegment_5 : decode cX5_checkSegment 5 = .ok (.aload_n 0, 1) := by decide +kernel
theorem dX5_checkSegment_6 : decode cX5_checkSegment 6 = .ok (.invokevirtual 98, 3) := by decide +kernel
theorem dX5_checkSegment_9 : decode cX5_checkSegment 9 = .ok (.if_icmp .lt 13, 3) := by decide +kernel
theorem dX5_checkSegment_12 : decode cX5_checkSegment 12 = .ok (.new 200, 3) := by decide +kernel
theorem dX5_checkSegment_15 : decode cX5_checkSegment 15 = .ok (.dup, 1) := by decide +kernel
theorem dX5_checkSegment_16 : decode cX5_checkSegment 16 = .ok (.ldc 233, 2) := by decide +kernel
theorem dX5_checkSegment_18 : decode cX5_checkSegment 18 = .ok (.invokespecial 204, 3) := by decide +kernel
theorem dX5_checkSegment_21 : decode cX5_checkSegment 21 = .ok (.athrow, 1) := by decide +kernel
theorem dX5_checkSegment_22 : decode cX5_checkSegment 22 = .ok (.return_, 1) := by decide +kernel
theorem dX5_checkEncoding_0 : decode cX5_checkEncoding 0 = .ok (.iload_n 0, 1) := by decide +kernel
theorem dX5_checkEncoding_1 : decode cX5_checkEncoding 1 = .ok (.ifCond .lt 8, 3) := by decide +kernel
theorem dX5_checkEncoding_4 : decode cX5_checkEncoding 4 = .ok (.iload_n 0, 1) := by decide +kernel
theorem dX5_checkEncoding_5 : decode cX5_checkEncoding 5 = .ok (.iconst 5, 1) := by decide +kernel
theorem dX5_checkEncoding_6 : decode cX5_checkEncoding 6 = .ok (.if_icmp .le 13, 3) := by decide +kernel
theorem dX5_checkEncoding_9 : decode cX5_checkEncoding 9 = .ok (.new 200, 3) := by decide +kernel
theorem dX5_checkEncoding_12 : decode cX5_checkEncoding 12 = .ok (.dup, 1) := by decide +kernel
theorem dX5_checkEncoding_13 : decode cX5_checkEncoding 13 = .ok (.ldc 235, 2) := by decide +kernel
theorem dX5_checkEncoding_15 : decode cX5_checkEncoding 15 = .ok (.invokespecial 204, 3) := by decide +kernel
theorem dX5_checkEncoding_18 : decode cX5_checkEncoding 18 = .ok (.athrow, 1) := by decide +kernel
theorem dX5_checkEncoding_19 : decode cX5_checkEncoding 19 = .ok (.return_, 1) := by decide +kernel
theorem dX5_segmentOf_0 : decode cX5_segmentOf 0 = .ok (.aload_n 0, 1) := by decide +kernel
theorem dX5_segmentOf_1 : decode cX5_segmentOf 1 = .ok (.getfield 13, 3) := by decide +kernel
theorem dX5_segmentOf_4 : decode cX5_segmentOf 4 = .ok (.ifCond .le 12, 3) := by decide +kernel
theorem dX5_segmentOf_7 : decode cX5_segmentOf 7 = .ok (.iload_n 1, 1) := by decide +kernel
theorem dX5_segmentOf_8 : decode cX5_segmentOf 8 = .ok (.aload_n 0, 1) := by decide +kernel
theorem dX5_segmentOf_9 : decode cX5_segmentOf 9 = .ok (.getfield 13, 3) := by decide +kernel
theorem dX5_segmentOf_12 : decode cX5_segmentOf 12 = .ok (.idiv, 1) := by decide +kernel
theorem dX5_segmentOf_13 : decode cX5_segmentOf 13 = .ok (.goto 4, 3) := by decide +kernel
theorem dX5_segmentOf_16 : decode cX5_segmentOf 16 = .ok (.iconst 0, 1) := by decide +kernel
theorem dX5_segmentOf_17 : decode cX5_segmentOf 17 = .ok (.ireturn, 1) := by decide +kernel
theorem dX5_firstRowOf_0 : decode cX5_firstRowOf 0 = .ok (.iload_n 1, 1) := by decide +kernel
theorem dX5_firstRowOf_1 : decode cX5_firstRowOf 1 = .ok (.aload_n 0, 1) := by decide +kernel
theorem dX5_firstRowOf_2 : decode cX5_firstRowOf 2 = .ok (.getfield 13, 3) := by decide +kernel
theorem dX5_firstRowOf_5 : decode cX5_firstRowOf 5 = .ok (.imul, 1) := by decide +kernel
theorem dX5_firstRowOf_6 : decode cX5_firstRowOf 6 = .ok (.ireturn, 1) := by decide +kernel
set_option maxRecDepth 20000 in
theorem ggX5_rowsIn_X5_firstRowOf : GoodIn wsX5_rowsIn wsX5_firstRowOf := goodIn_r _ [11, 1, 12, 13, 14, 15, 16, 17, 18, 19, 20, 21] (by decide +kernel) (by decide +kernel)
set_option maxRecDepth 20000 in
theorem gX5_rowsIn_X5_firstRowOf : GoodIn wsX5_rowsIn (wsV RX5 237 RX5 yX5_firstRowOf wsX5_firstRowOf) := goodIn_app (goodIn_of _ (by decide +kernel)) ggX5_rowsIn_X5_firstRowOf
theorem dX5_rowsIn_0 : decode cX5_rowsIn 0 = .ok (.aload_n 0, 1) := by decide +kernel
theorem dX5_rowsIn_1 : decode cX5_rowsIn 1 = .ok (.getfield 13, 3) := by decide +kernel
theorem dX5_rowsIn_4 : decode cX5_rowsIn 4 = .ok (.aload_n 0, 1) := by decide +kernel
theorem dX5_rowsIn_5 : decode cX5_rowsIn 5 = .ok (.getfield 9, 3) := by decide +kernel
theorem dX5_rowsIn_8 : decode cX5_rowsIn 8 = .ok (.aload_n 0, 1) := by decide +kernel
theorem dX5_rowsIn_9 : decode cX5_rowsIn 9 = .ok (.iload_n 1, 1) := by decide +kernel
theorem dX5_rowsIn_10 : decode cX5_rowsIn 10 = .ok (.invokevirtual 237, 3) := by decide +kernel
theorem dX5_rowsIn_13 : decode cX5_rowsIn 13 = .ok (.isub, 1) := by decide +kernel
theorem dX5_rowsIn_14 : decode cX5_rowsIn 14 = .ok (.invokestatic 159, 3) := by decide +kernel
theorem dX5_rowsIn_17 : decode cX5_rowsIn 17 = .ok (.ireturn, 1) := by decide +kernel
set_option maxRecDepth 20000 in
theorem ggX5_startOf_X5_firstRowOf : GoodIn wsX5_startOf wsX5_firstRowOf := goodIn_r _ [5, 6, 7, 8, 9, 10, 11, 12, 13, 14, 15, 16] (by decide +kernel) (by decide +kernel)
set_option maxRecDepth 20000 in
theorem gX5_startOf_X5_firstRowOf : GoodIn wsX5_startOf (wsV RX5 237 RX5 yX5_firstRowOf wsX5_firstRowOf) := goodIn_app (goodIn_of _ (by decide +kernel)) ggX5_startOf_X5_firstRowOf
theorem dX5_startOf_0 : decode cX5_startOf 0 = .ok (.aload_n 0, 1) := by decide +kernel
theorem dX5_startOf_1 : decode cX5_startOf 1 = .ok (.iload_n 1, 1) := by decide +kernel
theorem dX5_startOf_2 : decode cX5_startOf 2 = .ok (.invokevirtual 237, 3) := by decide +kernel
theorem dX5_startOf_5 : decode cX5_startOf 5 = .ok (.bipush 24, 2) := by decide +kernel
theorem dX5_startOf_7 : decode cX5_startOf 7 = .ok (.imul, 1) := by decide +kernel
theorem dX5_startOf_8 : decode cX5_startOf 8 = .ok (.ireturn, 1) := by decide +kernel
set_option maxRecDepth 20000 in
theorem ggX5_load_X5_startOf : GoodIn wsX5_load wsX5_startOf := goodIn_r _ [8, 9, 10, 11, 7, 12, 13, 89, 90, 91, 92, 93, 94, 95, 96, 97, 98] (by decide +kernel) (by decide +kernel)
set_option maxRecDepth 20000 in
theorem gX5_load_X5_startOf : GoodIn wsX5_load (wsV RX5 205 RX5 yX5_startOf wsX5_startOf) := goodIn_app (goodIn_of _ (by decide +kernel)) ggX5_load_X5_startOf
set_option maxRecDepth 20000 in
theorem ggX5_load_X0_moveTo : GoodIn wsX5_load wsX0_moveTo := goodIn_r _ [18, 19, 99, 100] (by decide +kernel) (by decide +kernel)
set_option maxRecDepth 20000 in
theorem gX5_load_X0_moveTo : GoodIn wsX5_load (wsV RX5 240 RX0 yX0_moveTo wsX0_moveTo) := goodIn_app (goodIn_of _ (by decide +kernel)) ggX5_load_X0_moveTo
set_option maxRecDepth 20000 in
theorem ggX5_load_X3_get : GoodIn wsX5_load wsX3_get := goodIn_r _ [24, 25, 101] (by decide +kernel) (by decide +kernel)
set_option maxRecDepth 20000 in
theorem gX5_load_X3_get : GoodIn wsX5_load (wsV RX5 117 RX3 yX3_get wsX3_get) := goodIn_app (goodIn_of _ (by decide +kernel)) ggX5_load_X3_get
set_option maxRecDepth 20000 in
theorem ggX5_load_X5_firstRowOf : GoodIn wsX5_load wsX5_firstRowOf := goodIn_r _ [12, 13, 89, 90, 91, 92, 93, 94, 95, 96, 97, 98] (by decide +kernel) (by decide +kernel)
set_option maxRecDepth 20000 in
theorem gX5_load_X5_firstRowOf : GoodIn wsX5_load (wsV RX5 237 RX5 yX5_firstRowOf wsX5_firstRowOf) := goodIn_app (goodIn_of _ (by decide +kernel)) ggX5_load_X5_firstRowOf
set_option maxRecDepth 20000 in
theorem ggX5_load_X5_rowsIn : GoodIn wsX5_load wsX5_rowsIn := goodIn_r _ [29, 13, 30, 31, 32, 33, 34, 9, 10, 11, 7, 12, 89, 90, 91, 92, 93, 94, 95, 96, 97, 98] (by decide +kernel) (by decide +kernel)
set_option maxRecDepth 20000 in
theorem gX5_load_X5_rowsIn : GoodIn wsX5_load (wsV RX5 243 RX5 yX5_rowsIn wsX5_rowsIn) := goodIn_app (goodIn_of _ (by decide +kernel)) ggX5_load_X5_rowsIn
set_option maxRecDepth 20000 in
theorem ggX5_load_X1_unpack : GoodIn wsX5_load wsX1_unpack := goodIn_r _ [39, 40, 41, 42, 38, 43, 44, 45, 46, 47, 48, 49, 50, 51, 52, 53, 17, 54, 19, 55, 56, 57, 58, 23, 59, 25, 60, 61, 62, 63, 64, 65, 66, 67, 68, 69, 70, 71, 72, 73, 74, 75, 76, 77, 21, 22, 24, 78, 79, 80, 81, 82, 83, 84, 85, 86, 87, 88, 102, 103, 104, 105, 99, 100, 101] (by decide +kernel) (by decide +kernel)
set_option maxRecDepth 20000 in
theorem gX5_load_X1_unpack : GoodIn wsX5_load (wsV RX5 246 RX1 yX1_unpack wsX1_unpack) := goodIn_app (goodIn_of _ (by decide +kernel)) ggX5_load_X1_unpack
theorem dX5_load_0 : decode cX5_load 0 = .ok (.aload_n 0, 1) := by decide +kernel
theorem dX5_load_1 : decode cX5_load 1 = .ok (.getfield 41, 3) := by decide +kernel
theorem dX5_load_4 : decode cX5_load 4 = .ok (.aload_n 0, 1) := by decide +kernel
theorem dX5_load_5 : decode cX5_load 5 = .ok (.iload_n 1, 1) := by decide +kernel
theorem dX5_load_6 : decode cX5_load 6 = .ok (.invokevirtual 205, 3) := by decide +kernel
theorem dX5_load_9 : decode cX5_load 9 = .ok (.invokevirtual 240, 3) := by decide +kernel
theorem dX5_load_12 : decode cX5_load 12 = .ok (.aload_n 0, 1) := by decide +kernel
theorem dX5_load_13 : decode cX5_load 13 = .ok (.getfield 62, 3) := by decide +kernel
theorem dX5_load_16 : decode cX5_load 16 = .ok (.aload_n 0, 1) := by decide +kernel
theorem dX5_load_17 : decode cX5_load 17 = .ok (.getfield 31, 3) := by decide +kernel
theorem dX5_load_20 : decode cX5_load 20 = .ok (.iload_n 1, 1) := by decide +kernel
theorem dX5_load_21 : decode cX5_load 21 = .ok (.invokevirtual 117, 3) := by decide +kernel
theorem dX5_load_24 : decode cX5_load 24 = .ok (.aload_n 0, 1) := by decide +kernel
theorem dX5_load_25 : decode cX5_load 25 = .ok (.iload_n 1, 1) := by decide +kernel
theorem dX5_load_26 : decode cX5_load 26 = .ok (.invokevirtual 237, 3) := by decide +kernel
theorem dX5_load_29 : decode cX5_load 29 = .ok (.aload_n 0, 1) := by decide +kernel
theorem dX5_load_30 : decode cX5_load 30 = .ok (.iload_n 1, 1) := by decide +kernel
theorem dX5_load_31 : decode cX5_load 31 = .ok (.invokevirtual 243, 3) := by decide +kernel
theorem dX5_load_34 : decode cX5_load 34 = .ok (.invokevirtual 246, 3) := by decide +kernel
theorem dX5_load_37 : decode cX5_load 37 = .ok (.return_, 1) := by decide +kernel
set_option maxRecDepth 20000 in
theorem ggX5_loadColumn_X5_segmentCount : GoodIn wsX5_loadColumn wsX5_segmentCount := goodIn_r _ [5, 6, 7, 8, 9, 10, 4, 11, 101, 102, 103, 104, 105, 106, 107, 108, 109, 110] (by decide +kernel) (by decide +kernel)
set_option maxRecDepth 20000 in
theorem gX5_loadColumn_X5_segmentCount : GoodIn wsX5_loadColumn (wsV RX5 98 RX5 yX5_segmentCount wsX5_segmentCount) := goodIn_app (goodIn_of _ (by decide +kernel)) ggX5_loadColumn_X5_segmentCount
set_option maxRecDepth 20000 in
theorem ggX5_loadColumn_X5_load : GoodIn wsX5_loadColumn wsX5_load := goodIn_r _ [15, 16, 17, 18, 19, 20, 21, 4, 22, 23, 24, 25, 26, 7, 27, 28, 29, 30, 31, 32, 33, 34, 35, 36, 37, 38, 39, 40, 41, 42, 6, 43, 44, 45, 46, 47, 48, 49, 50, 51, 52, 53, 54, 55, 56, 57, 58, 59, 60, 61, 62, 63, 64, 65, 66, 67, 68, 69, 70, 71, 72, 73, 74, 75, 76, 77, 78, 79, 80, 81, 82, 83, 84, 85, 86, 87, 88, 89, 90, 91, 92, 93, 94, 95, 96, 97, 98, 99, 100, 101, 102, 103, 104, 105, 106, 107, 108, 109, 110, 111, 112, 113, 114, 115, 116, 117] (by decide +kernel) (by decide +kernel)
set_option maxRecDepth 20000 in
theorem gX5_loadColumn_X5_load : GoodIn wsX5_loadColumn (wsV RX5 102 RX5 yX5_load wsX5_load) := goodIn_app (goodIn_of _ (by decide +kernel)) ggX5_loadColumn_X5_load
theorem dX5_loadColumn_0 : decode cX5_loadColumn 0 = .ok (.aload_n 0, 1) := by decide +kernel
theorem dX5_loadColumn_1 : decode cX5_loadColumn 1 = .ok (.invokevirtual 98, 3) := by decide +kernel
theorem dX5_loadColumn_4 : decode cX5_loadColumn 4 = .ok (.istore_n 1, 1) := by decide +kernel
theorem dX5_loadColumn_5 : decode cX5_loadColumn 5 = .ok (.iconst 0, 1) := by decide +kernel
theorem dX5_loadColumn_6 : decode cX5_loadColumn 6 = .ok (.istore_n 2, 1) := by decide +kernel
theorem dX5_loadColumn_7 : decode cX5_loadColumn 7 = .ok (.iload_n 2, 1) := by decide +kernel
theorem dX5_loadColumn_8 : decode cX5_loadColumn 8 = .ok (.iload_n 1, 1) := by decide +kernel
theorem dX5_loadColumn_9 : decode cX5_loadColumn 9 = .ok (.if_icmp .ge 14, 3) := by decide +kernel
theorem dX5_loadColumn_12 : decode cX5_loadColumn 12 = .ok (.aload_n 0, 1) := by decide +kernel
theorem dX5_loadColumn_13 : decode cX5_loadColumn 13 = .ok (.iload_n 2, 1) := by decide +kernel
theorem dX5_loadColumn_14 : decode cX5_loadColumn 14 = .ok (.invokevirtual 102, 3) := by decide +kernel
theorem dX5_loadColumn_17 : decode cX5_loadColumn 17 = .ok (.iinc 2 1, 3) := by decide +kernel
theorem dX5_loadColumn_20 : decode cX5_loadColumn 20 = .ok (.goto (-13), 3) := by decide +kernel
theorem dX5_loadColumn_23 : decode cX5_loadColumn 23 = .ok (.return_, 1) := by decide +kernel
set_option maxRecDepth 20000 in
theorem ggX5_study_X5_load : GoodIn wsX5_study wsX5_load := goodIn_r _ [6, 7, 8, 9, 10, 11, 12, 5, 13, 14, 15, 16, 17, 18, 19, 20, 21, 22, 23, 24, 25, 26, 27, 28, 29, 30, 31, 32, 33, 34, 35, 36, 37, 38, 39, 40, 41, 42, 43, 44, 45, 46, 47, 48, 49, 50, 51, 52, 53, 54, 55, 56, 57, 58, 59, 60, 61, 62, 63, 64, 65, 66, 67, 68, 69, 70, 71, 72, 73, 74, 75, 76, 77, 78, 79, 80, 81, 82, 83, 84, 85, 86, 87, 88, 89, 90, 91, 92, 93, 122, 123, 124, 125, 126, 127, 128, 129, 130, 131, 132, 133, 134, 135, 136, 137, 138] (by decide +kernel) (by decide +kernel)
set_option maxRecDepth 20000 in
theorem gX5_study_X5_load : GoodIn wsX5_study (wsV RX5 102 RX5 yX5_load wsX5_load) := goodIn_app (goodIn_of _ (by decide +kernel)) ggX5_study_X5_load
set_option maxRecDepth 20000 in
theorem ggX5_study_X5_firstRowOf : GoodIn wsX5_study wsX5_firstRowOf := goodIn_r _ [17, 18, 122, 123, 124, 125, 126, 127, 128, 129, 130, 131] (by decide +kernel) (by decide +kernel)
set_option maxRecDepth 20000 in
theorem gX5_study_X5_firstRowOf : GoodIn wsX5_study (wsV RX5 237 RX5 yX5_firstRowOf wsX5_firstRowOf) := goodIn_app (goodIn_of _ (by decide +kernel)) ggX5_study_X5_firstRowOf
set_option maxRecDepth 20000 in
theorem ggX5_study_X5_rowsIn : GoodIn wsX5_study wsX5_rowsIn := goodIn_r _ [34, 18, 35, 36, 37, 38, 39, 14, 15, 16, 5, 17, 122, 123, 124, 125, 126, 127, 128, 129, 130, 131] (by decide +kernel) (by decide +kernel)
set_option maxRecDepth 20000 in
theorem gX5_study_X5_rowsIn : GoodIn wsX5_study (wsV RX5 243 RX5 yX5_rowsIn wsX5_rowsIn) := goodIn_app (goodIn_of _ (by decide +kernel)) ggX5_study_X5_rowsIn
set_option maxRecDepth 20000 in
theorem ggX5_study_X2_study : GoodIn wsX5_study wsX2_study := goodIn_r _ [97, 98, 99, 100, 101, 102, 103, 104, 38, 105, 106, 107, 108, 109, 110, 111, 112, 26, 27, 28, 29, 30, 113, 114, 115, 80, 116, 117, 62, 63, 64, 118, 119, 120, 121, 79, 81, 139, 140, 141, 142, 143, 144, 145, 146, 147, 148, 149, 134] (by decide +kernel) (by decide +kernel)
set_option maxRecDepth 20000 in
theorem gX5_study_X2_study : GoodIn wsX5_study (wsV RX5 250 RX2 yX2_study wsX2_study) := goodIn_app (goodIn_of _ (by decide +kernel)) ggX5_study_X2_study
theorem dX5_study_0 : decode cX5_study 0 = .ok (.aload_n 0, 1) := by decide +kernel
theorem dX5_study_1 : decode cX5_study 1 = .ok (.iload_n 1, 1) := by decide +kernel
theorem dX5_study_2 : decode cX5_study 2 = .ok (.invokevirtual 102, 3) := by decide +kernel
theorem dX5_study_5 : decode cX5_study 5 = .ok (.aload_n 0, 1) := by decide +kernel
theorem dX5_study_6 : decode cX5_study 6 = .ok (.getfield 53, 3) := by decide +kernel
theorem dX5_study_9 : decode cX5_study 9 = .ok (.aload_n 0, 1) := by decide +kernel
theorem dX5_study_10 : decode cX5_study 10 = .ok (.iload_n 1, 1) := by decide +kernel
theorem dX5_study_11 : decode cX5_study 11 = .ok (.invokevirtual 237, 3) := by decide +kernel
theorem dX5_study_14 : decode cX5_study 14 = .ok (.aload_n 0, 1) := by decide +kernel
theorem dX5_study_15 : decode cX5_study 15 = .ok (.iload_n 1, 1) := by decide +kernel
theorem dX5_study_16 : decode cX5_study 16 = .ok (.invokevirtual 243, 3) := by decide +kernel
theorem dX5_study_19 : decode cX5_study 19 = .ok (.invokevirtual 250, 3) := by decide +kernel
theorem dX5_study_22 : decode cX5_study 22 = .ok (.return_, 1) := by decide +kernel
set_option maxRecDepth 20000 in
theorem ggX5_store_X5_firstRowOf : GoodIn wsX5_store wsX5_firstRowOf := goodIn_r _ [10, 11, 151, 152, 153, 154, 155, 156, 157, 158, 159, 160] (by decide +kernel) (by decide +kernel)
set_option maxRecDepth 20000 in
theorem gX5_store_X5_firstRowOf : GoodIn wsX5_store (wsV RX5 237 RX5 yX5_firstRowOf wsX5_firstRowOf) := goodIn_app (goodIn_of _ (by decide +kernel)) ggX5_store_X5_firstRowOf
set_option maxRecDepth 20000 in
theorem ggX5_store_X5_rowsIn : GoodIn wsX5_store wsX5_rowsIn := goodIn_r _ [15, 11, 16, 17, 18, 19, 20, 6, 7, 8, 9, 10, 151, 152, 153, 154, 155, 156, 157, 158, 159, 160] (by decide +kernel) (by decide +kernel)
set_option maxRecDepth 20000 in
theorem gX5_store_X5_rowsIn : GoodIn wsX5_store (wsV RX5 243 RX5 yX5_rowsIn wsX5_rowsIn) := goodIn_app (goodIn_of _ (by decide +kernel)) ggX5_store_X5_rowsIn
set_option maxRecDepth 20000 in
theorem ggX5_store_X2_study : GoodIn wsX5_store wsX2_study := goodIn_r _ [25, 26, 27, 28, 29, 30, 31, 32, 19, 33, 34, 35, 36, 37, 38, 39, 40, 41, 42, 43, 44, 45, 46, 47, 48, 24, 49, 50, 51, 52, 53, 54, 55, 56, 57, 58, 59, 161, 162, 163, 164, 165, 166, 167, 168, 169, 170, 171, 172] (by decide +kernel) (by decide +kernel)
set_option maxRecDepth 20000 in
theorem gX5_store_X2_study : GoodIn wsX5_store (wsV RX5 250 RX2 yX2_study wsX2_study) := goodIn_app (goodIn_of _ (by decide +kernel)) ggX5_store_X2_study
set_option maxRecDepth 20000 in
theorem ggX5_store_X5_startOf : GoodIn wsX5_store wsX5_startOf := goodIn_r _ [63, 6, 7, 8, 9, 10, 11, 151, 152, 153, 154, 155, 156, 157, 158, 159, 160] (by decide +kernel) (by decide +kernel)
set_option maxRecDepth 20000 in
theorem gX5_store_X5_startOf : GoodIn wsX5_store (wsV RX5 205 RX5 yX5_startOf wsX5_startOf) := goodIn_app (goodIn_of _ (by decide +kernel)) ggX5_store_X5_startOf
set_option maxRecDepth 20000 in
theorem ggX5_store_X0_moveTo : GoodIn wsX5_store wsX0_moveTo := goodIn_r _ [68, 69, 173, 174] (by decide +kernel) (by decide +kernel)
set_option maxRecDepth 20000 in
theorem gX5_store_X0_moveTo : GoodIn wsX5_store (wsV RX5 240 RX0 yX0_moveTo wsX0_moveTo) := goodIn_app (goodIn_of _ (by decide +kernel)) ggX5_store_X0_moveTo
set_option maxRecDepth 20000 in
theorem ggX5_store_X1_pack : GoodIn wsX5_store wsX1_pack := goodIn_r _ [74, 75, 76, 77, 78, 73, 79, 80, 41, 42, 43, 44, 45, 81, 82, 83, 84, 85, 86, 87, 88, 89, 67, 90, 69, 91, 92, 93, 94, 95, 96, 97, 98, 99, 100, 101, 102, 103, 24, 104, 29, 105, 106, 107, 108, 35, 40, 109, 110, 111, 112, 113, 114, 115, 116, 117, 118, 119, 120, 37, 121, 122, 123, 124, 125, 126, 127, 128, 36, 129, 130, 131, 132, 38, 133, 134, 135, 136, 137, 138, 139, 140, 39, 141, 55, 56, 175, 176, 177, 178, 172, 173, 174, 161, 162, 163, 164, 165, 166, 167, 168, 169, 170, 171] (by decide +kernel) (by decide +kernel)
set_option maxRecDepth 20000 in
theorem gX5_store_X1_pack : GoodIn wsX5_store (wsV RX5 252 RX1 yX1_pack wsX1_pack) := goodIn_app (goodIn_of _ (by decide +kernel)) ggX5_store_X1_pack
set_option maxRecDepth 20000 in
theorem ggX5_store_X3_put : GoodIn wsX5_store wsX3_put := goodIn_r _ [53, 45, 172] (by decide +kernel) (by decide +kernel)
set_option maxRecDepth 20000 in
theorem gX5_store_X3_put : GoodIn wsX5_store (wsV RX5 105 RX3 yX3_put wsX3_put) := goodIn_app (goodIn_of _ (by decide +kernel)) ggX5_store_X3_put
set_option maxRecDepth 20000 in
theorem ggX5_store_X2_sizeOf : GoodIn wsX5_store wsX2_sizeOf := goodIn_r _ [146, 27, 28, 29, 37, 38, 39, 147, 148, 149, 24, 150, 161, 162, 163, 164, 165, 166, 167, 168, 169, 170, 171] (by decide +kernel) (by decide +kernel)
set_option maxRecDepth 20000 in
theorem gX5_store_X2_sizeOf : GoodIn wsX5_store (wsV RX5 182 RX2 yX2_sizeOf wsX2_sizeOf) := goodIn_app (goodIn_of _ (by decide +kernel)) ggX5_store_X2_sizeOf
theorem dX5_store_0 : decode cX5_store 0 = .ok (.aload_n 0, 1) := by decide +kernel
theorem dX5_store_1 : decode cX5_store 1 = .ok (.getfield 53, 3) := by decide +kernel
theorem dX5_store_4 : decode cX5_store 4 = .ok (.aload_n 0, 1) := by decide +kernel
theorem dX5_store_5 : decode cX5_store 5 = .ok (.iload_n 1, 1) := by decide +kernel
theorem dX5_store_6 : decode cX5_store 6 = .ok (.invokevirtual 237, 3) := by decide +kernel
theorem dX5_store_9 : decode cX5_store 9 = .ok (.aload_n 0, 1) := by decide +kernel
theorem dX5_store_10 : decode cX5_store 10 = .ok (.iload_n 1, 1) := by decide +kernel
theorem dX5_store_11 : decode cX5_store 11 = .ok (.invokevirtual 243, 3) := by decide +kernel
theorem dX5_store_14 : decode cX5_store 14 = .ok (.invokevirtual 250, 3) := by decide +kernel
theorem dX5_store_17 : decode cX5_store 17 = .ok (.aload_n 0, 1) := by decide +kernel
theorem dX5_store_18 : decode cX5_store 18 = .ok (.getfield 41, 3) := by decide +kernel
theorem dX5_store_21 : decode cX5_store 21 = .ok (.aload_n 0, 1) := by decide +kernel
theorem dX5_store_22 : decode cX5_store 22 = .ok (.iload_n 1, 1) := by decide +kernel
theorem dX5_store_23 : decode cX5_store 23 = .ok (.invokevirtual 205, 3) := by decide +kernel
theorem dX5_store_26 : decode cX5_store 26 = .ok (.invokevirtual 240, 3) := by decide +kernel
theorem dX5_store_29 : decode cX5_store 29 = .ok (.aload_n 0, 1) := by decide +kernel
theorem dX5_store_30 : decode cX5_store 30 = .ok (.getfield 62, 3) := by decide +kernel
theorem dX5_store_33 : decode cX5_store 33 = .ok (.iload_n 2, 1) := by decide +kernel
theorem dX5_store_34 : decode cX5_store 34 = .ok (.aload_n 0, 1) := by decide +kernel
theorem dX5_store_35 : decode cX5_store 35 = .ok (.iload_n 1, 1) := by decide +kernel
theorem dX5_store_36 : decode cX5_store 36 = .ok (.invokevirtual 237, 3) := by decide +kernel
theorem dX5_store_39 : decode cX5_store 39 = .ok (.aload_n 0, 1) := by decide +kernel
theorem dX5_store_40 : decode cX5_store 40 = .ok (.iload_n 1, 1) := by decide +kernel
theorem dX5_store_41 : decode cX5_store 41 = .ok (.invokevirtual 243, 3) := by decide +kernel
theorem dX5_store_44 : decode cX5_store 44 = .ok (.invokevirtual 252, 3) := by decide +kernel
theorem dX5_store_47 : decode cX5_store 47 = .ok (.aload_n 0, 1) := by decide +kernel
theorem dX5_store_48 : decode cX5_store 48 = .ok (.getfield 31, 3) := by decide +kernel
theorem dX5_store_51 : decode cX5_store 51 = .ok (.iload_n 1, 1) := by decide +kernel
theorem dX5_store_52 : decode cX5_store 52 = .ok (.iload_n 2, 1) := by decide +kernel
theorem dX5_store_53 : decode cX5_store 53 = .ok (.invokevirtual 105, 3) := by decide +kernel
theorem dX5_store_56 : decode cX5_store 56 = .ok (.aload_n 0, 1) := by decide +kernel
theorem dX5_store_57 : decode cX5_store 57 = .ok (.getfield 35, 3) := by decide +kernel
theorem dX5_store_60 : decode cX5_store 60 = .ok (.iload_n 1, 1) := by decide +kernel
theorem dX5_store_61 : decode cX5_store 61 = .ok (.aload_n 0, 1) := by decide +kernel
theorem dX5_store_62 : decode cX5_store 62 = .ok (.getfield 53, 3) := by decide +kernel
theorem dX5_store_65 : decode cX5_store 65 = .ok (.iload_n 2, 1) := by decide +kernel
theorem dX5_store_66 : decode cX5_store 66 = .ok (.invokevirtual 182, 3) := by decide +kernel
theorem dX5_store_69 : decode cX5_store 69 = .ok (.invokevirtual 105, 3) := by decide +kernel
theorem dX5_store_72 : decode cX5_store 72 = .ok (.return_, 1) := by decide +kernel
set_option maxRecDepth 20000 in
theorem ggX5_sumOfRows_X3_get : GoodIn wsX5_sumOfRows wsX3_get := goodIn_r _ [6, 7, 18] (by decide +kernel) (by decide +kernel)
set_option maxRecDepth 20000 in
theorem gX5_sumOfRows_X3_get : GoodIn wsX5_sumOfRows (wsV RX5 117 RX3 yX3_get wsX3_get) := goodIn_app (goodIn_of _ (by decide +kernel)) ggX5_sumOfRows_X3_get
theorem dX5_sumOfRows_0 : decode cX5_sumOfRows 0 = .ok (.lconst 0, 1) := by decide +kernel
theorem dX5_sumOfRows_1 : decode cX5_sumOfRows 1 = .ok (.lstore_n 3, 1) := by decide +kernel
theorem dX5_sumOfRows_2 : decode cX5_sumOfRows 2 = .ok (.iload_n 1, 1) := by decide +kernel
theorem dX5_sumOfRows_3 : decode cX5_sumOfRows 3 = .ok (.istore 5, 2) := by decide +kernel
theorem dX5_sumOfRows_5 : decode cX5_sumOfRows 5 = .ok (.iload 5, 2) := by decide +kernel
theorem dX5_sumOfRows_7 : decode cX5_sumOfRows 7 = .ok (.iload_n 2, 1) := by decide +kernel
theorem dX5_sumOfRows_8 : decode cX5_sumOfRows 8 = .ok (.if_icmp .ge 22, 3) := by decide +kernel
theorem dX5_sumOfRows_11 : decode cX5_sumOfRows 11 = .ok (.lload_n 3, 1) := by decide +kernel
theorem dX5_sumOfRows_12 : decode cX5_sumOfRows 12 = .ok (.aload_n 0, 1) := by decide +kernel
theorem dX5_sumOfRows_13 : decode cX5_sumOfRows 13 = .ok (.getfield 45, 3) := by decide +kernel
theorem dX5_sumOfRows_16 : decode cX5_sumOfRows 16 = .ok (.iload 5, 2) := by decide +kernel
theorem dX5_sumOfRows_18 : decode cX5_sumOfRows 18 = .ok (.invokevirtual 117, 3) := by decide +kernel
theorem dX5_sumOfRows_21 : decode cX5_sumOfRows 21 = .ok (.i2l, 1) := by decide +kernel
theorem dX5_sumOfRows_22 : decode cX5_sumOfRows 22 = .ok (.ladd, 1) := by decide +kernel
theorem dX5_sumOfRows_23 : decode cX5_sumOfRows 23 = .ok (.lstore_n 3, 1) := by decide +kernel
theorem dX5_sumOfRows_24 : decode cX5_sumOfRows 24 = .ok (.iinc 5 1, 3) := by decide +kernel
theorem dX5_sumOfRows_27 : decode cX5_sumOfRows 27 = .ok (.goto (-22), 3) := by decide +kernel
theorem dX5_sumOfRows_30 : decode cX5_sumOfRows 30 = .ok (.lload_n 3, 1) := by decide +kernel
theorem dX5_sumOfRows_31 : decode cX5_sumOfRows 31 = .ok (.lreturn, 1) := by decide +kernel
set_option maxRecDepth 20000 in
theorem ggX5_rowsWith_X3_get : GoodIn wsX5_rowsWith wsX3_get := goodIn_r _ [7, 8, 19] (by decide +kernel) (by decide +kernel)
set_option maxRecDepth 20000 in
theorem gX5_rowsWith_X3_get : GoodIn wsX5_rowsWith (wsV RX5 117 RX3 yX3_get wsX3_get) := goodIn_app (goodIn_of _ (by decide +kernel)) ggX5_rowsWith_X3_get
theorem dX5_rowsWith_0 : decode cX5_rowsWith 0 = .ok (.lconst 0, 1) := by decide +kernel
theorem dX5_rowsWith_1 : decode cX5_rowsWith 1 = .ok (.lstore_n 2, 1) := by decide +kernel
theorem dX5_rowsWith_2 : decode cX5_rowsWith 2 = .ok (.iconst 0, 1) := by decide +kernel
theorem dX5_rowsWith_3 : decode cX5_rowsWith 3 = .ok (.istore 4, 2) := by decide +kernel
theorem dX5_rowsWith_5 : decode cX5_rowsWith 5 = .ok (.iload 4, 2) := by decide +kernel
theorem dX5_rowsWith_7 : decode cX5_rowsWith 7 = .ok (.aload_n 0, 1) := by decide +kernel
theorem dX5_rowsWith_8 : decode cX5_rowsWith 8 = .ok (.getfield 9, 3) := by decide +kernel
theorem dX5_rowsWith_11 : decode cX5_rowsWith 11 = .ok (.if_icmp .ge 26, 3) := by decide +kernel
theorem dX5_rowsWith_14 : decode cX5_rowsWith 14 = .ok (.aload_n 0, 1) := by decide +kernel
theorem dX5_rowsWith_15 : decode cX5_rowsWith 15 = .ok (.getfield 45, 3) := by decide +kernel
theorem dX5_rowsWith_18 : decode cX5_rowsWith 18 = .ok (.iload 4, 2) := by decide +kernel
theorem dX5_rowsWith_20 : decode cX5_rowsWith 20 = .ok (.invokevirtual 117, 3) := by decide +kernel
theorem dX5_rowsWith_23 : decode cX5_rowsWith 23 = .ok (.iload_n 1, 1) := by decide +kernel
theorem dX5_rowsWith_24 : decode cX5_rowsWith 24 = .ok (.if_icmp .ne 7, 3) := by decide +kernel
theorem dX5_rowsWith_27 : decode cX5_rowsWith 27 = .ok (.lload_n 2, 1) := by decide +kernel
theorem dX5_rowsWith_28 : decode cX5_rowsWith 28 = .ok (.lconst 1, 1) := by decide +kernel
theorem dX5_rowsWith_29 : decode cX5_rowsWith 29 = .ok (.ladd, 1) := by decide +kernel
theorem dX5_rowsWith_30 : decode cX5_rowsWith 30 = .ok (.lstore_n 2, 1) := by decide +kernel
theorem dX5_rowsWith_31 : decode cX5_rowsWith 31 = .ok (.iinc 4 1, 3) := by decide +kernel
theorem dX5_rowsWith_34 : decode cX5_rowsWith 34 = .ok (.goto (-29), 3) := by decide +kernel
theorem dX5_rowsWith_37 : decode cX5_rowsWith 37 = .ok (.lload_n 2, 1) := by decide +kernel
theorem dX5_rowsWith_38 : decode cX5_rowsWith 38 = .ok (.lreturn, 1) := by decide +kernel
set_option maxRecDepth 20000 in
theorem ggX5_scoreOf_X2_sizeOf : GoodIn wsX5_scoreOf wsX2_sizeOf := goodIn_r _ [8, 9, 10, 11, 12, 13, 14, 15, 16, 17, 7, 18, 97, 98, 99, 100, 101, 102, 103, 104, 105, 106, 107] (by decide +kernel) (by decide +kernel)
set_option maxRecDepth 20000 in
theorem gX5_scoreOf_X2_sizeOf : GoodIn wsX5_scoreOf (wsV RX5 182 RX2 yX2_sizeOf wsX2_sizeOf) := goodIn_app (goodIn_of _ (by decide +kernel)) ggX5_scoreOf_X2_sizeOf
set_option maxRecDepth 20000 in
theorem ggX5_scoreOf_X4_count : GoodIn wsX5_scoreOf wsX4_count := goodIn_r _ [23, 24, 108, 109, 110, 111, 112] (by decide +kernel) (by decide +kernel)
set_option maxRecDepth 20000 in
theorem gX5_scoreOf_X4_count : GoodIn wsX5_scoreOf (wsV RX5 133 RX4 yX4_count wsX4_count) := goodIn_app (goodIn_of _ (by decide +kernel)) ggX5_scoreOf_X4_count
set_option maxRecDepth 20000 in
theorem ggX5_scoreOf_X4_weightOf : GoodIn wsX5_scoreOf wsX4_weightOf := goodIn_r _ [28, 29, 30, 31, 32, 33, 34, 35, 108, 109, 110, 111, 112, 113] (by decide +kernel) (by decide +kernel)
set_option maxRecDepth 20000 in
theorem gX5_scoreOf_X4_weightOf : GoodIn wsX5_scoreOf (wsV RX5 255 RX4 yX4_weightOf wsX4_weightOf) := goodIn_app (goodIn_of _ (by decide +kernel)) ggX5_scoreOf_X4_weightOf
set_option maxRecDepth 20000 in
theorem ggX5_scoreOf_X2_costOf : GoodIn wsX5_scoreOf wsX2_costOf := goodIn_r _ [39, 40, 41, 42, 43, 44, 9, 45, 46, 47, 48, 49, 50, 22, 51, 52, 30, 31, 32, 33, 34, 35, 53, 54, 55, 56, 57, 58, 59, 60, 7, 61, 62, 63, 64, 65, 66, 67, 68, 69, 70, 71, 72, 11, 73, 74, 75, 76, 10, 77, 78, 79, 80, 81, 82, 83, 84, 85, 86, 13, 97, 98, 99, 100, 101, 102, 103, 104, 105, 106, 107, 108, 109, 110, 111, 112, 113] (by decide +kernel) (by decide +kernel)
set_option maxRecDepth 20000 in
theorem gX5_scoreOf_X2_costOf : GoodIn wsX5_scoreOf (wsV RX5 188 RX2 yX2_costOf wsX2_costOf) := goodIn_app (goodIn_of _ (by decide +kernel)) ggX5_scoreOf_X2_costOf
theorem dX5_scoreOf_0 : decode cX5_scoreOf 0 = .ok (.aload_n 0, 1) := by decide +kernel
theorem dX5_scoreOf_1 : decode cX5_scoreOf 1 = .ok (.getfield 16, 3) := by decide +kernel
theorem dX5_scoreOf_4 : decode cX5_scoreOf 4 = .ok (.aload_n 0, 1) := by decide +kernel
theorem dX5_scoreOf_5 : decode cX5_scoreOf 5 = .ok (.getfield 53, 3) := by decide +kernel
theorem dX5_scoreOf_8 : decode cX5_scoreOf 8 = .ok (.iload_n 1, 1) := by decide +kernel
theorem dX5_scoreOf_9 : decode cX5_scoreOf 9 = .ok (.invokevirtual 182, 3) := by decide +kernel
theorem dX5_scoreOf_12 : decode cX5_scoreOf 12 = .ok (.imul, 1) := by decide +kernel
theorem dX5_scoreOf_13 : decode cX5_scoreOf 13 = .ok (.istore_n 2, 1) := by decide +kernel
theorem dX5_scoreOf_14 : decode cX5_scoreOf 14 = .ok (.aload_n 0, 1) := by decide +kernel
theorem dX5_scoreOf_15 : decode cX5_scoreOf 15 = .ok (.getfield 22, 3) := by decide +kernel
theorem dX5_scoreOf_18 : decode cX5_scoreOf 18 = .ok (.invokevirtual 133, 3) := by decide +kernel
theorem dX5_scoreOf_21 : decode cX5_scoreOf 21 = .ok (.istore_n 3, 1) := by decide +kernel
theorem dX5_scoreOf_22 : decode cX5_scoreOf 22 = .ok (.iconst 0, 1) := by decide +kernel
theorem dX5_scoreOf_23 : decode cX5_scoreOf 23 = .ok (.istore 4, 2) := by decide +kernel
theorem dX5_scoreOf_25 : decode cX5_scoreOf 25 = .ok (.iload 4, 2) := by decide +kernel
theorem dX5_scoreOf_27 : decode cX5_scoreOf 27 = .ok (.iload_n 3, 1) := by decide +kernel
theorem dX5_scoreOf_28 : decode cX5_scoreOf 28 = .ok (.if_icmp .ge 36, 3) := by decide +kernel
theorem dX5_scoreOf_31 : decode cX5_scoreOf 31 = .ok (.iload_n 2, 1) := by decide +kernel
theorem dX5_scoreOf_32 : decode cX5_scoreOf 32 = .ok (.aload_n 0, 1) := by decide +kernel
theorem dX5_scoreOf_33 : decode cX5_scoreOf 33 = .ok (.getfield 22, 3) := by decide +kernel
theorem dX5_scoreOf_36 : decode cX5_scoreOf 36 = .ok (.iload 4, 2) := by decide +kernel
theorem dX5_scoreOf_38 : decode cX5_scoreOf 38 = .ok (.invokevirtual 255, 3) := by decide +kernel
theorem dX5_scoreOf_41 : decode cX5_scoreOf 41 = .ok (.aload_n 0, 1) := by decide +kernel
theorem dX5_scoreOf_42 : decode cX5_scoreOf 42 = .ok (.getfield 53, 3) := by decide +kernel
theorem dX5_scoreOf_45 : decode cX5_scoreOf 45 = .ok (.aload_n 0, 1) := by decide +kernel
theorem dX5_scoreOf_46 : decode cX5_scoreOf 46 = .ok (.getfield 22, 3) := by decide +kernel
theorem dX5_scoreOf_49 : decode cX5_scoreOf 49 = .ok (.iload 4, 2) := by decide +kernel
theorem dX5_scoreOf_51 : decode cX5_scoreOf 51 = .ok (.iload_n 1, 1) := by decide +kernel
theorem dX5_scoreOf_52 : decode cX5_scoreOf 52 = .ok (.invokevirtual 188, 3) := by decide +kernel
theorem dX5_scoreOf_55 : decode cX5_scoreOf 55 = .ok (.imul, 1) := by decide +kernel
theorem dX5_scoreOf_56 : decode cX5_scoreOf 56 = .ok (.iadd, 1) := by decide +kernel
theorem dX5_scoreOf_57 : decode cX5_scoreOf 57 = .ok (.istore_n 2, 1) := by decide +kernel
theorem dX5_scoreOf_58 : decode cX5_scoreOf 58 = .ok (.iinc 4 1, 3) := by decide +kernel
theorem dX5_scoreOf_61 : decode cX5_scoreOf 61 = .ok (.goto (-36), 3) := by decide +kernel
theorem dX5_scoreOf_64 : decode cX5_scoreOf 64 = .ok (.iload_n 2, 1) := by decide +kernel
theorem dX5_scoreOf_65 : decode cX5_scoreOf 65 = .ok (.ireturn, 1) := by decide +kernel
set_option maxRecDepth 20000 in
theorem ggX5_bestEncoding_X5_scoreOf : GoodIn wsX5_bestEncoding wsX5_scoreOf := goodIn_r _ [6, 7, 1, 8, 9, 10, 11, 12, 13, 14, 15, 16, 17, 18, 19, 20, 21, 22, 23, 24, 25, 26, 27, 28, 29, 30, 31, 32, 33, 34, 35, 36, 37, 38, 39, 40, 41, 42, 43, 44, 45, 46, 47, 48, 49, 50, 51, 52, 53, 54, 55, 56, 57, 58, 59, 60, 61, 62, 63, 64, 65, 66, 67, 68, 69, 70, 71, 72, 73, 74, 75, 76, 77, 78, 79, 80, 81, 82, 83, 84, 85, 86, 87, 88, 89, 90, 91, 93, 94, 95, 96, 97, 98, 99, 100, 101, 102, 103, 104, 105, 106, 107, 108, 109, 110, 111, 112, 113, 114, 115, 116, 117, 118, 119] (by decide +kernel) (by decide +kernel)
set_option maxRecDepth 20000 in
theorem gX5_bestEncoding_X5_scoreOf : GoodIn wsX5_bestEncoding (wsV RX5 192 RX5 yX5_scoreOf wsX5_scoreOf) := goodIn_app (goodIn_of _ (by decide +kernel)) ggX5_bestEncoding_X5_scoreOf
set_option maxRecDepth 20000 in
theorem ggX5_bestEncoding_X2_isPossible : GoodIn wsX5_bestEncoding wsX2_isPossible := goodIn_r _ [23, 15, 103, 104, 105, 106, 107, 108, 109, 110, 111, 112, 113] (by decide +kernel) (by decide +kernel)
set_option maxRecDepth 20000 in
theorem gX5_bestEncoding_X2_isPossible : GoodIn wsX5_bestEncoding (wsV RX5 185 RX2 yX2_isPossible wsX2_isPossible) := goodIn_app (goodIn_of _ (by decide +kernel)) ggX5_bestEncoding_X2_isPossible
theorem dX5_bestEncoding_0 : decode cX5_bestEncoding 0 = .ok (.iconst 0, 1) := by decide +kernel
theorem dX5_bestEncoding_1 : decode cX5_bestEncoding 1 = .ok (.istore_n 1, 1) := by decide +kernel
theorem dX5_bestEncoding_2 : decode cX5_bestEncoding 2 = .ok (.aload_n 0, 1) := by decide +kernel
theorem dX5_bestEncoding_3 : decode cX5_bestEncoding 3 = .ok (.iconst 0, 1) := by decide +kernel
theorem dX5_bestEncoding_4 : decode cX5_bestEncoding 4 = .ok (.invokevirtual 192, 3) := by decide +kernel
theorem dX5_bestEncoding_7 : decode cX5_bestEncoding 7 = .ok (.istore_n 2, 1) := by decide +kernel
theorem dX5_bestEncoding_8 : decode cX5_bestEncoding 8 = .ok (.iconst 1, 1) := by decide +kernel
theorem dX5_bestEncoding_9 : decode cX5_bestEncoding 9 = .ok (.istore_n 3, 1) := by decide +kernel
theorem dX5_bestEncoding_10 : decode cX5_bestEncoding 10 = .ok (.iload_n 3, 1) := by decide +kernel
theorem dX5_bestEncoding_11 : decode cX5_bestEncoding 11 = .ok (.iconst 5, 1) := by decide +kernel
theorem dX5_bestEncoding_12 : decode cX5_bestEncoding 12 = .ok (.if_icmp .gt 38, 3) := by decide +kernel
theorem dX5_bestEncoding_15 : decode cX5_bestEncoding 15 = .ok (.aload_n 0, 1) := by decide +kernel
theorem dX5_bestEncoding_16 : decode cX5_bestEncoding 16 = .ok (.getfield 53, 3) := by decide +kernel
theorem dX5_bestEncoding_19 : decode cX5_bestEncoding 19 = .ok (.iload_n 3, 1) := by decide +kernel
theorem dX5_bestEncoding_20 : decode cX5_bestEncoding 20 = .ok (.invokevirtual 185, 3) := by decide +kernel
theorem dX5_bestEncoding_23 : decode cX5_bestEncoding 23 = .ok (.ifCond .eq 21, 3) := by decide +kernel
theorem dX5_bestEncoding_26 : decode cX5_bestEncoding 26 = .ok (.aload_n 0, 1) := by decide +kernel
theorem dX5_bestEncoding_27 : decode cX5_bestEncoding 27 = .ok (.iload_n 3, 1) := by decide +kernel
theorem dX5_bestEncoding_28 : decode cX5_bestEncoding 28 = .ok (.invokevirtual 192, 3) := by decide +kernel
theorem dX5_bestEncoding_31 : decode cX5_bestEncoding 31 = .ok (.istore 4, 2) := by decide +kernel
theorem dX5_bestEncoding_33 : decode cX5_bestEncoding 33 = .ok (.iload 4, 2) := by decide +kernel
theorem dX5_bestEncoding_35 : decode cX5_bestEncoding 35 = .ok (.iload_n 2, 1) := by decide +kernel
theorem dX5_bestEncoding_36 : decode cX5_bestEncoding 36 = .ok (.if_icmp .ge 8, 3) := by decide +kernel
theorem dX5_bestEncoding_39 : decode cX5_bestEncoding 39 = .ok (.iload 4, 2) := by decide +kernel
theorem dX5_bestEncoding_41 : decode cX5_bestEncoding 41 = .ok (.istore_n 2, 1) := by decide +kernel
theorem dX5_bestEncoding_42 : decode cX5_bestEncoding 42 = .ok (.iload_n 3, 1) := by decide +kernel
theorem dX5_bestEncoding_43 : decode cX5_bestEncoding 43 = .ok (.istore_n 1, 1) := by decide +kernel
theorem dX5_bestEncoding_44 : decode cX5_bestEncoding 44 = .ok (.iinc 3 1, 3) := by decide +kernel
theorem dX5_bestEncoding_47 : decode cX5_bestEncoding 47 = .ok (.goto (-37), 3) := by decide +kernel
theorem dX5_bestEncoding_50 : decode cX5_bestEncoding 50 = .ok (.iload_n 1, 1) := by decide +kernel
theorem dX5_bestEncoding_51 : decode cX5_bestEncoding 51 = .ok (.ireturn, 1) := by decide +kernel
set_option maxRecDepth 20000 in
theorem ggX5_scoreIfChosen_X2_study : GoodIn wsX5_scoreIfChosen wsX2_study := goodIn_r _ [11, 12, 13, 14, 15, 16, 17, 18, 5, 19, 20, 21, 22, 23, 24, 25, 26, 27, 28, 29, 30, 31, 32, 33, 34, 10, 35, 36, 37, 38, 39, 40, 41, 42, 43, 44, 45, 128, 129, 130, 131, 132, 133, 134, 135, 136, 137, 138, 139] (by decide +kernel) (by decide +kernel)
set_option maxRecDepth 20000 in
theorem gX5_scoreIfChosen_X2_study : GoodIn wsX5_scoreIfChosen (wsV RX5 250 RX2 yX2_study wsX2_study) := goodIn_app (goodIn_of _ (by decide +kernel)) ggX5_scoreIfChosen_X2_study
set_option maxRecDepth 20000 in
theorem ggX5_scoreIfChosen_X5_bestEncoding : GoodIn wsX5_scoreIfChosen wsX5_bestEncoding := goodIn_r _ [50, 2, 51, 52, 53, 49, 54, 55, 56, 57, 58, 59, 10, 60, 13, 14, 15, 23, 24, 25, 61, 62, 63, 64, 65, 66, 67, 68, 69, 70, 71, 72, 73, 74, 75, 76, 27, 28, 29, 30, 31, 77, 78, 79, 80, 12, 17, 18, 5, 19, 81, 4, 6, 82, 83, 84, 85, 86, 87, 88, 89, 90, 91, 92, 93, 94, 95, 20, 26, 96, 97, 98, 99, 100, 101, 102, 103, 104, 105, 106, 107, 108, 21, 109, 110, 111, 112, 113, 114, 115, 116, 22, 117, 118, 119, 120, 121, 122, 123, 124, 125, 126, 127, 128, 129, 130, 131, 132, 133, 134, 135, 136, 137, 138, 140, 141, 142, 143, 144, 139] (by decide +kernel) (by decide +kernel)
set_option maxRecDepth 20000 in
theorem gX5_scoreIfChosen_X5_bestEncoding : GoodIn wsX5_scoreIfChosen (wsV RX5 195 RX5 yX5_bestEncoding wsX5_bestEncoding) := goodIn_app (goodIn_of _ (by decide +kernel)) ggX5_scoreIfChosen_X5_bestEncoding
set_option maxRecDepth 20000 in
theorem ggX5_scoreIfChosen_X5_scoreOf : GoodIn wsX5_scoreIfChosen wsX5_scoreOf := goodIn_r _ [54, 55, 2, 56, 57, 58, 59, 10, 60, 13, 14, 15, 23, 24, 25, 61, 62, 63, 64, 65, 66, 67, 68, 69, 70, 71, 72, 73, 74, 75, 76, 27, 28, 29, 30, 31, 77, 78, 79, 80, 12, 17, 18, 5, 19, 81, 4, 6, 82, 83, 84, 85, 86, 87, 88, 89, 90, 91, 92, 93, 94, 95, 20, 26, 96, 97, 98, 99, 100, 101, 102, 103, 104, 105, 106, 107, 108, 21, 109, 110, 111, 112, 113, 114, 115, 116, 22, 118, 119, 120, 121, 122, 123, 124, 125, 126, 127, 128, 129, 130, 131, 132, 133, 134, 135, 136, 137, 138, 140, 141, 142, 143, 144, 139] (by decide +kernel) (by decide +kernel)
set_option maxRecDepth 20000 in
theorem gX5_scoreIfChosen_X5_scoreOf : GoodIn wsX5_scoreIfChosen (wsV RX5 192 RX5 yX5_scoreOf wsX5_scoreOf) := goodIn_app (goodIn_of _ (by decide +kernel)) ggX5_scoreIfChosen_X5_scoreOf
theorem dX5_scoreIfChosen_0 : decode cX5_scoreIfChosen 0 = .ok (.iconst 0, 1) := by decide +kernel
theorem dX5_scoreIfChosen_1 : decode cX5_scoreIfChosen 1 = .ok (.istore_n 2, 1) := by decide +kernel
theorem dX5_scoreIfChosen_2 : decode cX5_scoreIfChosen 2 = .ok (.iconst 0, 1) := by decide +kernel
theorem dX5_scoreIfChosen_3 : decode cX5_scoreIfChosen 3 = .ok (.istore_n 3, 1) := by decide +kernel
theorem dX5_scoreIfChosen_4 : decode cX5_scoreIfChosen 4 = .ok (.iconst 0, 1) := by decide +kernel
theorem dX5_scoreIfChosen_5 : decode cX5_scoreIfChosen 5 = .ok (.istore 4, 2) := by decide +kernel
theorem dX5_scoreIfChosen_7 : decode cX5_scoreIfChosen 7 = .ok (.iload 4, 2) := by decide +kernel
theorem dX5_scoreIfChosen_9 : decode cX5_scoreIfChosen 9 = .ok (.bipush 24, 2) := by decide +kernel
theorem dX5_scoreIfChosen_11 : decode cX5_scoreIfChosen 11 = .ok (.if_icmp .ge 50, 3) := by decide +kernel
theorem dX5_scoreIfChosen_14 : decode cX5_scoreIfChosen 14 = .ok (.iload_n 3, 1) := by decide +kernel
theorem dX5_scoreIfChosen_15 : decode cX5_scoreIfChosen 15 = .ok (.aload_n 0, 1) := by decide +kernel
theorem dX5_scoreIfChosen_16 : decode cX5_scoreIfChosen 16 = .ok (.getfield 9, 3) := by decide +kernel
theorem dX5_scoreIfChosen_19 : decode cX5_scoreIfChosen 19 = .ok (.if_icmp .ge 42, 3) := by decide +kernel
theorem dX5_scoreIfChosen_22 : decode cX5_scoreIfChosen 22 = .ok (.aload_n 0, 1) := by decide +kernel
theorem dX5_scoreIfChosen_23 : decode cX5_scoreIfChosen 23 = .ok (.getfield 53, 3) := by decide +kernel
theorem dX5_scoreIfChosen_26 : decode cX5_scoreIfChosen 26 = .ok (.iload_n 3, 1) := by decide +kernel
theorem dX5_scoreIfChosen_27 : decode cX5_scoreIfChosen 27 = .ok (.iload_n 1, 1) := by decide +kernel
theorem dX5_scoreIfChosen_28 : decode cX5_scoreIfChosen 28 = .ok (.aload_n 0, 1) := by decide +kernel
theorem dX5_scoreIfChosen_29 : decode cX5_scoreIfChosen 29 = .ok (.getfield 9, 3) := by decide +kernel
theorem dX5_scoreIfChosen_32 : decode cX5_scoreIfChosen 32 = .ok (.iload_n 3, 1) := by decide +kernel
theorem dX5_scoreIfChosen_33 : decode cX5_scoreIfChosen 33 = .ok (.isub, 1) := by decide +kernel
theorem dX5_scoreIfChosen_34 : decode cX5_scoreIfChosen 34 = .ok (.invokestatic 159, 3) := by decide +kernel
theorem dX5_scoreIfChosen_37 : decode cX5_scoreIfChosen 37 = .ok (.invokevirtual 250, 3) := by decide +kernel
theorem dX5_scoreIfChosen_40 : decode cX5_scoreIfChosen 40 = .ok (.iload_n 2, 1) := by decide +kernel
theorem dX5_scoreIfChosen_41 : decode cX5_scoreIfChosen 41 = .ok (.aload_n 0, 1) := by decide +kernel
theorem dX5_scoreIfChosen_42 : decode cX5_scoreIfChosen 42 = .ok (.aload_n 0, 1) := by decide +kernel
theorem dX5_scoreIfChosen_43 : decode cX5_scoreIfChosen 43 = .ok (.invokevirtual 195, 3) := by decide +kernel
theorem dX5_scoreIfChosen_46 : decode cX5_scoreIfChosen 46 = .ok (.invokevirtual 192, 3) := by decide +kernel
theorem dX5_scoreIfChosen_49 : decode cX5_scoreIfChosen 49 = .ok (.iadd, 1) := by decide +kernel
theorem dX5_scoreIfChosen_50 : decode cX5_scoreIfChosen 50 = .ok (.istore_n 2, 1) := by decide +kernel
theorem dX5_scoreIfChosen_51 : decode cX5_scoreIfChosen 51 = .ok (.iload_n 3, 1) := by decide +kernel
theorem dX5_scoreIfChosen_52 : decode cX5_scoreIfChosen 52 = .ok (.iload_n 1, 1) := by decide +kernel
theorem dX5_scoreIfChosen_53 : decode cX5_scoreIfChosen 53 = .ok (.iadd, 1) := by decide +kernel
theorem dX5_scoreIfChosen_54 : decode cX5_scoreIfChosen 54 = .ok (.istore_n 3, 1) := by decide +kernel
theorem dX5_scoreIfChosen_55 : decode cX5_scoreIfChosen 55 = .ok (.iinc 4 1, 3) := by decide +kernel
theorem dX5_scoreIfChosen_58 : decode cX5_scoreIfChosen 58 = .ok (.goto (-51), 3) := by decide +kernel
theorem dX5_scoreIfChosen_61 : decode cX5_scoreIfChosen 61 = .ok (.iload_n 2, 1) := by decide +kernel
theorem dX5_scoreIfChosen_62 : decode cX5_scoreIfChosen 62 = .ok (.ireturn, 1) := by decide +kernel
theorem dX6_init_0 : decode cX6_init 0 = .ok (.aload_n 0, 1) := by decide +kernel
theorem dX6_init_1 : decode cX6_init 1 = .ok (.invokespecial 1, 3) := by decide +kernel
theorem dX6_init_4 : decode cX6_init 4 = .ok (.aload_n 0, 1) := by decide +kernel
theorem dX6_init_5 : decode cX6_init 5 = .ok (.bipush 96, 2) := by decide +kernel
theorem dX6_init_7 : decode cX6_init 7 = .ok (.newarray .int, 2) := by decide +kernel
theorem dX6_init_9 : decode cX6_init 9 = .ok (.putfield 9, 3) := by decide +kernel
theorem dX6_init_12 : decode cX6_init 12 = .ok (.aload_n 0, 1) := by decide +kernel
theorem dX6_init_13 : decode cX6_init 13 = .ok (.bipush 16, 2) := by decide +kernel
theorem dX6_init_15 : decode cX6_init 15 = .ok (.putfield 13, 3) := by decide +kernel
theorem dX6_init_18 : decode cX6_init 18 = .ok (.aload_n 0, 1) := by decide +kernel
theorem dX6_init_19 : decode cX6_init 19 = .ok (.bipush 96, 2) := by decide +kernel
theorem dX6_init_21 : decode cX6_init 21 = .ok (.newarray .int, 2) := by decide +kernel
theorem dX6_init_23 : decode cX6_init 23 = .ok (.putfield 17, 3) := by decide +kernel
theorem dX6_init_26 : decode cX6_init 26 = .ok (.aload_n 0, 1) := by decide +kernel
theorem dX6_init_27 : decode cX6_init 27 = .ok (.iconst 1, 1) := by decide +kernel
theorem dX6_init_28 : decode cX6_init 28 = .ok (.putfield 20, 3) := by decide +kernel
theorem dX6_init_31 : decode cX6_init 31 = .ok (.aload_n 0, 1) := by decide +kernel
theorem dX6_init_32 : decode cX6_init 32 = .ok (.bipush 20, 2) := by decide +kernel
theorem dX6_init_34 : decode cX6_init 34 = .ok (.newarray .int, 2) := by decide +kernel
theorem dX6_init_36 : decode cX6_init 36 = .ok (.putfield 23, 3) := by decide +kernel
theorem dX6_init_39 : decode cX6_init 39 = .ok (.aload_n 0, 1) := by decide +kernel
theorem dX6_init_40 : decode cX6_init 40 = .ok (.bipush 20, 2) := by decide +kernel
theorem dX6_init_42 : decode cX6_init 42 = .ok (.newarray .int, 2) := by decide +kernel
theorem dX6_init_44 : decode cX6_init 44 = .ok (.putfield 26, 3) := by decide +kernel
theorem dX6_init_47 : decode cX6_init 47 = .ok (.aload_n 0, 1) := by decide +kernel
theorem dX6_init_48 : decode cX6_init 48 = .ok (.bipush 20, 2) := by decide +kernel
theorem dX6_init_50 : decode cX6_init 50 = .ok (.newarray .int, 2) := by decide +kernel
theorem dX6_init_52 : decode cX6_init 52 = .ok (.putfield 29, 3) := by decide +kernel
theorem dX6_init_55 : decode cX6_init 55 = .ok (.aload_n 0, 1) := by decide +kernel
theorem dX6_init_56 : decode cX6_init 56 = .ok (.bipush 20, 2) := by decide +kernel
theorem dX6_init_58 : decode cX6_init 58 = .ok (.newarray .int, 2) := by decide +kernel
theorem dX6_init_60 : decode cX6_init 60 = .ok (.putfield 32, 3) := by decide +kernel
theorem dX6_init_63 : decode cX6_init 63 = .ok (.aload_n 0, 1) := by decide +kernel
theorem dX6_init_64 : decode cX6_init 64 = .ok (.sipush 2000, 3) := by decide +kernel
theorem dX6_init_67 : decode cX6_init 67 = .ok (.newarray .int, 2) := by decide +kernel
theorem dX6_init_69 : decode cX6_init 69 = .ok (.putfield 35, 3) := by decide +kernel
theorem dX6_init_72 : decode cX6_init 72 = .ok (.return_, 1) := by decide +kernel
theorem dX6_thrown_0 : decode cX6_thrown 0 = .ok (.aload_n 0, 1) := by decide +kernel
theorem dX6_thrown_1 : decode cX6_thrown 1 = .ok (.getfield 38, 3) := by decide +kernel
theorem dX6_thrown_4 : decode cX6_thrown 4 = .ok (.ireturn, 1) := by decide +kernel
theorem dX6_fail_0 : decode cX6_fail 0 = .ok (.aload_n 0, 1) := by decide +kernel
theorem dX6_fail_1 : decode cX6_fail 1 = .ok (.iload_n 1, 1) := by decide +kernel
theorem dX6_fail_2 : decode cX6_fail 2 = .ok (.putfield 38, 3) := by decide +kernel
theorem dX6_fail_5 : decode cX6_fail 5 = .ok (.iconst 0, 1) := by decide +kernel
theorem dX6_fail_6 : decode cX6_fail 6 = .ok (.ireturn, 1) := by decide +kernel
theorem dX6_isIn_0 : decode cX6_isIn 0 = .ok (.lload_n 0, 1) := by decide +kernel
theorem dX6_isIn_1 : decode cX6_isIn 1 = .ok (.iload_n 2, 1) := by decide +kernel
theorem dX6_isIn_2 : decode cX6_isIn 2 = .ok (.i2l, 1) := by decide +kernel
theorem dX6_isIn_3 : decode cX6_isIn 3 = .ok (.lcmp, 1) := by decide +kernel
theorem dX6_isIn_4 : decode cX6_isIn 4 = .ok (.ifCond .lt 14, 3) := by decide +kernel
theorem dX6_isIn_7 : decode cX6_isIn 7 = .ok (.lload_n 0, 1) := by decide +kernel
theorem dX6_isIn_8 : decode cX6_isIn 8 = .ok (.iload_n 3, 1) := by decide +kernel
theorem dX6_isIn_9 : decode cX6_isIn 9 = .ok (.i2l, 1) := by decide +kernel
theorem dX6_isIn_10 : decode cX6_isIn 10 = .ok (.lcmp, 1) := by decide +kernel
theorem dX6_isIn_11 : decode cX6_isIn 11 = .ok (.ifCond .gt 7, 3) := by decide +kernel
theorem dX6_isIn_14 : decode cX6_isIn 14 = .ok (.iconst 1, 1) := by decide +kernel
theorem dX6_isIn_15 : decode cX6_isIn 15 = .ok (.goto 4, 3) := by decide +kernel
theorem dX6_isIn_18 : decode cX6_isIn 18 = .ok (.iconst 0, 1) := by decide +kernel
theorem dX6_isIn_19 : decode cX6_isIn 19 = .ok (.ireturn, 1) := by decide +kernel
set_option maxRecDepth 20000 in
theorem ggX6_isValue_X6_isIn : GoodIn wsX6_isValue wsX6_isIn := goodIn_r _ [6] (by decide +kernel) (by decide +kernel)
set_option maxRecDepth 20000 in
theorem gX6_isValue_X6_isIn : GoodIn wsX6_isValue (va_wsS RX6 43 yX6_isIn wsX6_isIn) := goodIn_app (goodIn_of _ (by decide +kernel)) ggX6_isValue_X6_isIn
theorem dX6_isValue_0 : decode cX6_isValue 0 = .ok (.lload_n 0, 1) := by decide +kernel
theorem dX6_isValue_1 : decode cX6_isValue 1 = .ok (.ldc 41, 2) := by decide +kernel
theorem dX6_isValue_3 : decode cX6_isValue 3 = .ok (.ldc 42, 2) := by decide +kernel
theorem dX6_isValue_5 : decode cX6_isValue 5 = .ok (.invokestatic 43, 3) := by decide +kernel
theorem dX6_isValue_8 : decode cX6_isValue 8 = .ok (.ireturn, 1) := by decide +kernel
theorem dX6_changed_0 : decode cX6_changed 0 = .ok (.iload_n 1, 1) := by decide +kernel
theorem dX6_changed_1 : decode cX6_changed 1 = .ok (.aload_n 0, 1) := by decide +kernel
theorem dX6_changed_2 : decode cX6_changed 2 = .ok (.getfield 13, 3) := by decide +kernel
theorem dX6_changed_5 : decode cX6_changed 5 = .ok (.idiv, 1) := by decide +kernel
theorem dX6_changed_6 : decode cX6_changed 6 = .ok (.istore_n 3, 1) := by decide +kernel
theorem dX6_changed_7 : decode cX6_changed 7 = .ok (.iload_n 3, 1) := by decide +kernel
theorem dX6_changed_8 : decode cX6_changed 8 = .ok (.bipush 96, 2) := by decide +kernel
theorem dX6_changed_10 : decode cX6_changed 10 = .ok (.if_icmp .ge 16, 3) := by decide +kernel
theorem dX6_changed_13 : decode cX6_changed 13 = .ok (.aload_n 0, 1) := by decide +kernel
theorem dX6_changed_14 : decode cX6_changed 14 = .ok (.getfield 17, 3) := by decide +kernel
theorem dX6_changed_17 : decode cX6_changed 17 = .ok (.iload_n 3, 1) := by decide +kernel
theorem dX6_changed_18 : decode cX6_changed 18 = .ok (.iconst 0, 1) := by decide +kernel
theorem dX6_changed_19 : decode cX6_changed 19 = .ok (.iastore, 1) := by decide +kernel
theorem dX6_changed_20 : decode cX6_changed 20 = .ok (.iinc 3 1, 3) := by decide +kernel
theorem dX6_changed_23 : decode cX6_changed 23 = .ok (.goto (-16), 3) := by decide +kernel
theorem dX6_changed_26 : decode cX6_changed 26 = .ok (.aload_n 0, 1) := by decide +kernel
theorem dX6_changed_27 : decode cX6_changed 27 = .ok (.iload_n 2, 1) := by decide +kernel
theorem dX6_changed_28 : decode cX6_changed 28 = .ok (.putfield 47, 3) := by decide +kernel
theorem dX6_changed_31 : decode cX6_changed 31 = .ok (.return_, 1) := by decide +kernel
set_option maxRecDepth 20000 in
theorem ggX6_append_X6_isValue : GoodIn wsX6_append wsX6_isValue := goodIn_r _ [7, 8, 9, 10, 11, 6, 12] (by decide +kernel) (by decide +kernel)
set_option maxRecDepth 20000 in
theorem gX6_append_X6_isValue : GoodIn wsX6_append (va_wsS RX6 50 yX6_isValue wsX6_isValue) := goodIn_app (goodIn_of _ (by decide +kernel)) ggX6_append_X6_isValue
set_option maxRecDepth 20000 in
theorem ggX6_append_X6_isIn : GoodIn wsX6_append wsX6_isIn := goodIn_r _ [12] (by decide +kernel) (by decide +kernel)
set_option maxRecDepth 20000 in
theorem gX6_append_X6_isIn : GoodIn wsX6_append (va_wsS RX6 43 yX6_isIn wsX6_isIn) := goodIn_app (goodIn_of _ (by decide +kernel)) ggX6_append_X6_isIn
set_option maxRecDepth 20000 in
theorem ggX6_append_X6_fail : GoodIn wsX6_append wsX6_fail := goodIn_r _ [16, 1, 23, 24, 25, 26, 27, 28, 29, 30, 31, 32, 33, 34, 35, 36, 37] (by decide +kernel) (by decide +kernel)
set_option maxRecDepth 20000 in
theorem gX6_append_X6_fail : GoodIn wsX6_append (wsV RX6 54 RX6 yX6_fail wsX6_fail) := goodIn_app (goodIn_of _ (by decide +kernel)) ggX6_append_X6_fail
set_option maxRecDepth 20000 in
theorem ggX6_append_X6_changed : GoodIn wsX6_append wsX6_changed := goodIn_r _ [20, 21, 22, 2, 23, 24, 25, 26, 27, 28, 29, 30, 31, 32, 33, 34, 35, 36, 37] (by decide +kernel) (by decide +kernel)
set_option maxRecDepth 20000 in
theorem gX6_append_X6_changed : GoodIn wsX6_append (wsV RX6 58 RX6 yX6_changed wsX6_changed) := goodIn_app (goodIn_of _ (by decide +kernel)) ggX6_append_X6_changed
theorem dX6_append_0 : decode cX6_append 0 = .ok (.aload_n 0, 1) := by decide +kernel
theorem dX6_append_1 : decode cX6_append 1 = .ok (.iconst 0, 1) := by decide +kernel
theorem dX6_append_2 : decode cX6_append 2 = .ok (.putfield 38, 3) := by decide +kernel
theorem dX6_append_5 : decode cX6_append 5 = .ok (.iload_n 1, 1) := by decide +kernel
theorem dX6_append_6 : decode cX6_append 6 = .ok (.i2l, 1) := by decide +kernel
theorem dX6_append_7 : decode cX6_append 7 = .ok (.invokestatic 50, 3) := by decide +kernel
theorem dX6_append_10 : decode cX6_append 10 = .ok (.ifCond .eq 14, 3) := by decide +kernel
theorem dX6_append_13 : decode cX6_append 13 = .ok (.iload_n 2, 1) := by decide +kernel
theorem dX6_append_14 : decode cX6_append 14 = .ok (.i2l, 1) := by decide +kernel
theorem dX6_append_15 : decode cX6_append 15 = .ok (.iconst 1, 1) := by decide +kernel
theorem dX6_append_16 : decode cX6_append 16 = .ok (.bipush 96, 2) := by decide +kernel
theorem dX6_append_18 : decode cX6_append 18 = .ok (.invokestatic 43, 3) := by decide +kernel
theorem dX6_append_21 : decode cX6_append 21 = .ok (.ifCond .ne 9, 3) := by decide +kernel
theorem dX6_append_24 : decode cX6_append 24 = .ok (.aload_n 0, 1) := by decide +kernel
theorem dX6_append_25 : decode cX6_append 25 = .ok (.iconst 1, 1) := by decide +kernel
theorem dX6_append_26 : decode cX6_append 26 = .ok (.invokevirtual 54, 3) := by decide +kernel
theorem dX6_append_29 : decode cX6_append 29 = .ok (.ireturn, 1) := by decide +kernel
theorem dX6_append_30 : decode cX6_append 30 = .ok (.aload_n 0, 1) := by decide +kernel
theorem dX6_append_31 : decode cX6_append 31 = .ok (.getfield 47, 3) := by decide +kernel
theorem dX6_append_34 : decode cX6_append 34 = .ok (.iload_n 2, 1) := by decide +kernel
theorem dX6_append_35 : decode cX6_append 35 = .ok (.iadd, 1) := by decide +kernel
theorem dX6_append_36 : decode cX6_append 36 = .ok (.bipush 96, 2) := by decide +kernel
theorem dX6_append_38 : decode cX6_append 38 = .ok (.if_icmp .le 9, 3) := by decide +kernel
theorem dX6_append_41 : decode cX6_append 41 = .ok (.aload_n 0, 1) := by decide +kernel
theorem dX6_append_42 : decode cX6_append 42 = .ok (.iconst 2, 1) := by decide +kernel
theorem dX6_append_43 : decode cX6_append 43 = .ok (.invokevirtual 54, 3) := by decide +kernel
theorem dX6_append_46 : decode cX6_append 46 = .ok (.ireturn, 1) := by decide +kernel
theorem dX6_append_47 : decode cX6_append 47 = .ok (.iconst 0, 1) := by decide +kernel
theorem dX6_append_48 : decode cX6_append 48 = .ok (.istore_n 3, 1) := by decide +kernel
theorem dX6_append_49 : decode cX6_append 49 = .ok (.iload_n 3, 1) := by decide +kernel
theorem dX6_append_50 : decode cX6_append 50 = .ok (.iload_n 2, 1) := by decide +kernel
theorem dX6_append_51 : decode cX6_append 51 = .ok (.if_icmp .ge 21, 3) := by decide +kernel
theorem dX6_append_54 : decode cX6_append 54 = .ok (.aload_n 0, 1) := by decide +kernel
theorem dX6_append_55 : decode cX6_append 55 = .ok (.getfield 9, 3) := by decide +kernel
theorem dX6_append_58 : decode cX6_append 58 = .ok (.aload_n 0, 1) := by decide +kernel
theorem dX6_append_59 : decode cX6_append 59 = .ok (.getfield 47, 3) := by decide +kernel
theorem dX6_append_62 : decode cX6_append 62 = .ok (.iload_n 3, 1) := by decide +kernel
theorem dX6_append_63 : decode cX6_append 63 = .ok (.iadd, 1) := by decide +kernel
theorem dX6_append_64 : decode cX6_append 64 = .ok (.iload_n 1, 1) := by decide +kernel
theorem dX6_append_65 : decode cX6_append 65 = .ok (.iastore, 1) := by decide +kernel
theorem dX6_append_66 : decode cX6_append 66 = .ok (.iinc 3 1, 3) := by decide +kernel
theorem dX6_append_69 : decode cX6_append 69 = .ok (.goto (-20), 3) := by decide +kernel
theorem dX6_append_72 : decode cX6_append 72 = .ok (.aload_n 0, 1) := by decide +kernel
theorem dX6_append_73 : decode cX6_append 73 = .ok (.aload_n 0, 1) := by decide +kernel
theorem dX6_append_74 : decode cX6_append 74 = .ok (.getfield 47, 3) := by decide +kernel
theorem dX6_append_77 : decode cX6_append 77 = .ok (.aload_n 0, 1) := by decide +kernel
theorem dX6_append_78 : decode cX6_append 78 = .ok (.getfield 47, 3) := by decide +kernel
theorem dX6_append_81 : decode cX6_append 81 = .ok (.iload_n 2, 1) := by decide +kernel
theorem dX6_append_82 : decode cX6_append 82 = .ok (.iadd, 1) := by decide +kernel
theorem dX6_append_83 : decode cX6_append 83 = .ok (.invokevirtual 58, 3) := by decide +kernel
theorem dX6_append_86 : decode cX6_append 86 = .ok (.aload_n 0, 1) := by decide +kernel
theorem dX6_append_87 : decode cX6_append 87 = .ok (.getfield 47, 3) := by decide +kernel
theorem dX6_append_90 : decode cX6_append 90 = .ok (.ireturn, 1) := by decide +kernel
set_option maxRecDepth 20000 in
theorem ggX6_climb_X6_isIn : GoodIn wsX6_climb wsX6_isIn := goodIn_r _ [7] (by decide +kernel) (by decide +kernel)
set_option maxRecDepth 20000 in
theorem gX6_climb_X6_isIn : GoodIn wsX6_climb (va_wsS RX6 43 yX6_isIn wsX6_isIn) := goodIn_app (goodIn_of _ (by decide +kernel)) ggX6_climb_X6_isIn
set_option maxRecDepth 20000 in
theorem ggX6_climb_X6_fail : GoodIn wsX6_climb wsX6_fail := goodIn_r _ [11, 1, 23, 24, 25, 26, 27, 28, 29, 30, 31, 32, 33, 34, 35, 36, 37] (by decide +kernel) (by decide +kernel)
set_option maxRecDepth 20000 in
theorem gX6_climb_X6_fail : GoodIn wsX6_climb (wsV RX6 54 RX6 yX6_fail wsX6_fail) := goodIn_app (goodIn_of _ (by decide +kernel)) ggX6_climb_X6_fail
set_option maxRecDepth 20000 in
theorem ggX6_climb_X6_isValue : GoodIn wsX6_climb wsX6_isValue := goodIn_r _ [14, 15, 16, 4, 5, 6, 7] (by decide +kernel) (by decide +kernel)
set_option maxRecDepth 20000 in
theorem gX6_climb_X6_isValue : GoodIn wsX6_climb (va_wsS RX6 50 yX6_isValue wsX6_isValue) := goodIn_app (goodIn_of _ (by decide +kernel)) ggX6_climb_X6_isValue
set_option maxRecDepth 20000 in
theorem ggX6_climb_X6_changed : GoodIn wsX6_climb wsX6_changed := goodIn_r _ [20, 21, 22, 2, 23, 24, 25, 26, 27, 28, 29, 30, 31, 32, 33, 34, 35, 36, 37] (by decide +kernel) (by decide +kernel)
set_option maxRecDepth 20000 in
theorem gX6_climb_X6_changed : GoodIn wsX6_climb (wsV RX6 58 RX6 yX6_changed wsX6_changed) := goodIn_app (goodIn_of _ (by decide +kernel)) ggX6_climb_X6_changed
theorem dX6_climb_0 : decode cX6_climb 0 = .ok (.aload_n 0, 1) := by decide +kernel
theorem dX6_climb_1 : decode cX6_climb 1 = .ok (.iconst 0, 1) := by decide +kernel
theorem dX6_climb_2 : decode cX6_climb 2 = .ok (.putfield 38, 3) := by decide +kernel
theorem dX6_climb_5 : decode cX6_climb 5 = .ok (.iload_n 3, 1) := by decide +kernel
theorem dX6_climb_6 : decode cX6_climb 6 = .ok (.i2l, 1) := by decide +kernel
theorem dX6_climb_7 : decode cX6_climb 7 = .ok (.iconst 1, 1) := by decide +kernel
theorem dX6_climb_8 : decode cX6_climb 8 = .ok (.bipush 96, 2) := by decide +kernel
theorem dX6_climb_10 : decode cX6_climb 10 = .ok (.invokestatic 43, 3) := by decide +kernel
theorem dX6_climb_13 : decode cX6_climb 13 = .ok (.ifCond .ne 9, 3) := by decide +kernel
theorem dX6_climb_16 : decode cX6_climb 16 = .ok (.aload_n 0, 1) := by decide +kernel
theorem dX6_climb_17 : decode cX6_climb 17 = .ok (.iconst 1, 1) := by decide +kernel
theorem dX6_climb_18 : decode cX6_climb 18 = .ok (.invokevirtual 54, 3) := by decide +kernel
theorem dX6_climb_21 : decode cX6_climb 21 = .ok (.ireturn, 1) := by decide +kernel
theorem dX6_climb_22 : decode cX6_climb 22 = .ok (.iconst 0, 1) := by decide +kernel
theorem dX6_climb_23 : decode cX6_climb 23 = .ok (.istore 4, 2) := by decide +kernel
theorem dX6_climb_25 : decode cX6_climb 25 = .ok (.iload 4, 2) := by decide +kernel
theorem dX6_climb_27 : decode cX6_climb 27 = .ok (.iload_n 3, 1) := by decide +kernel
theorem dX6_climb_28 : decode cX6_climb 28 = .ok (.if_icmp .ge 30, 3) := by decide +kernel
theorem dX6_climb_31 : decode cX6_climb 31 = .ok (.iload_n 1, 1) := by decide +kernel
theorem dX6_climb_32 : decode cX6_climb 32 = .ok (.i2l, 1) := by decide +kernel
theorem dX6_climb_33 : decode cX6_climb 33 = .ok (.iload_n 2, 1) := by decide +kernel
theorem dX6_climb_34 : decode cX6_climb 34 = .ok (.i2l, 1) := by decide +kernel
theorem dX6_climb_35 : decode cX6_climb 35 = .ok (.iload 4, 2) := by decide +kernel
theorem dX6_climb_37 : decode cX6_climb 37 = .ok (.i2l, 1) := by decide +kernel
theorem dX6_climb_38 : decode cX6_climb 38 = .ok (.lmul, 1) := by decide +kernel
theorem dX6_climb_39 : decode cX6_climb 39 = .ok (.ladd, 1) := by decide +kernel
theorem dX6_climb_40 : decode cX6_climb 40 = .ok (.invokestatic 50, 3) := by decide +kernel
theorem dX6_climb_43 : decode cX6_climb 43 = .ok (.ifCond .ne 9, 3) := by decide +kernel
theorem dX6_climb_46 : decode cX6_climb 46 = .ok (.aload_n 0, 1) := by decide +kernel
theorem dX6_climb_47 : decode cX6_climb 47 = .ok (.iconst 1, 1) := by decide +kernel
theorem dX6_climb_48 : decode cX6_climb 48 = .ok (.invokevirtual 54, 3) := by decide +kernel
theorem dX6_climb_51 : decode cX6_climb 51 = .ok (.ireturn, 1) := by decide +kernel
theorem dX6_climb_52 : decode cX6_climb 52 = .ok (.iinc 4 1, 3) := by decide +kernel
theorem dX6_climb_55 : decode cX6_climb 55 = .ok (.goto (-30), 3) := by decide +kernel
theorem dX6_climb_58 : decode cX6_climb 58 = .ok (.aload_n 0, 1) := by decide +kernel
theorem dX6_climb_59 : decode cX6_climb 59 = .ok (.getfield 47, 3) := by decide +kernel
theorem dX6_climb_62 : decode cX6_climb 62 = .ok (.iload_n 3, 1) := by decide +kernel
theorem dX6_climb_63 : decode cX6_climb 63 = .ok (.iadd, 1) := by decide +kernel
theorem dX6_climb_64 : decode cX6_climb 64 = .ok (.bipush 96, 2) := by decide +kernel
theorem dX6_climb_66 : decode cX6_climb 66 = .ok (.if_icmp .le 9, 3) := by decide +kernel
theorem dX6_climb_69 : decode cX6_climb 69 = .ok (.aload_n 0, 1) := by decide +kernel
theorem dX6_climb_70 : decode cX6_climb 70 = .ok (.iconst 2, 1) := by decide +kernel
theorem dX6_climb_71 : decode cX6_climb 71 = .ok (.invokevirtual 54, 3) := by decide +kernel
theorem dX6_climb_74 : decode cX6_climb 74 = .ok (.ireturn, 1) := by decide +kernel
theorem dX6_climb_75 : decode cX6_climb 75 = .ok (.iconst 0, 1) := by decide +kernel
theorem dX6_climb_76 : decode cX6_climb 76 = .ok (.istore 4, 2) := by decide +kernel
theorem dX6_climb_78 : decode cX6_climb 78 = .ok (.iload 4, 2) := by decide +kernel
theorem dX6_climb_80 : decode cX6_climb 80 = .ok (.iload_n 3, 1) := by decide +kernel
theorem dX6_climb_81 : decode cX6_climb 81 = .ok (.if_icmp .ge 27, 3) := by decide +kernel
theorem dX6_climb_84 : decode cX6_climb 84 = .ok (.aload_n 0, 1) := by decide +kernel
theorem dX6_climb_85 : decode cX6_climb 85 = .ok (.getfield 9, 3) := by decide +kernel
theorem dX6_climb_88 : decode cX6_climb 88 = .ok (.aload_n 0, 1) := by decide +kernel
theorem dX6_climb_89 : decode cX6_climb 89 = .ok (.getfield 47, 3) := by decide +kernel
theorem dX6_climb_92 : decode cX6_climb 92 = .ok (.iload 4, 2) := by decide +kernel
theorem dX6_climb_94 : decode cX6_climb 94 = .ok (.iadd, 1) := by decide +kernel
theorem dX6_climb_95 : decode cX6_climb 95 = .ok (.iload_n 1, 1) := by decide +kernel
theorem dX6_climb_96 : decode cX6_climb 96 = .ok (.iload_n 2, 1) := by decide +kernel
theorem dX6_climb_97 : decode cX6_climb 97 = .ok (.iload 4, 2) := by decide +kernel
theorem dX6_climb_99 : decode cX6_climb 99 = .ok (.imul, 1) := by decide +kernel
theorem dX6_climb_100 : decode cX6_climb 100 = .ok (.iadd, 1) := by decide +kernel
theorem dX6_climb_101 : decode cX6_climb 101 = .ok (.iastore, 1) := by decide +kernel
theorem dX6_climb_102 : decode cX6_climb 102 = .ok (.iinc 4 1, 3) := by decide +kernel
theorem dX6_climb_105 : decode cX6_climb 105 = .ok (.goto (-27), 3) := by decide +kernel
theorem dX6_climb_108 : decode cX6_climb 108 = .ok (.aload_n 0, 1) := by decide +kernel
theorem dX6_climb_109 : decode cX6_climb 109 = .ok (.aload_n 0, 1) := by decide +kernel
theorem dX6_climb_110 : decode cX6_climb 110 = .ok (.getfield 47, 3) := by decide +kernel
theorem dX6_climb_113 : decode cX6_climb 113 = .ok (.aload_n 0, 1) := by decide +kernel
theorem dX6_climb_114 : decode cX6_climb 114 = .ok (.getfield 47, 3) := by decide +kernel
theorem dX6_climb_117 : decode cX6_climb 117 = .ok (.iload_n 3, 1) := by decide +kernel
theorem dX6_climb_118 : decode cX6_climb 118 = .ok (.iadd, 1) := by decide +kernel
theorem dX6_climb_119 : decode cX6_climb 119 = .ok (.invokevirtual 58, 3) := by decide +kernel
theorem dX6_climb_122 : decode cX6_climb 122 = .ok (.aload_n 0, 1) := by decide +kernel
theorem dX6_climb_123 : decode cX6_climb 123 = .ok (.getfield 47, 3) := by decide +kernel
theorem dX6_climb_126 : decode cX6_climb 126 = .ok (.ireturn, 1) := by decide +kernel
set_option maxRecDepth 20000 in
theorem ggX6_set_X6_isIn : GoodIn wsX6_set wsX6_isIn := goodIn_r _ [9] (by decide +kernel) (by decide +kernel)
set_option maxRecDepth 20000 in
theorem gX6_set_X6_isIn : GoodIn wsX6_set (va_wsS RX6 43 yX6_isIn wsX6_isIn) := goodIn_app (goodIn_of _ (by decide +kernel)) ggX6_set_X6_isIn
set_option maxRecDepth 20000 in
theorem ggX6_set_X6_fail : GoodIn wsX6_set wsX6_fail := goodIn_r _ [13, 1, 19, 20, 21, 22, 23, 24, 25, 26, 27, 28, 29, 30, 31, 32, 33] (by decide +kernel) (by decide +kernel)
set_option maxRecDepth 20000 in
theorem gX6_set_X6_fail : GoodIn wsX6_set (wsV RX6 54 RX6 yX6_fail wsX6_fail) := goodIn_app (goodIn_of _ (by decide +kernel)) ggX6_set_X6_fail
set_option maxRecDepth 20000 in
theorem ggX6_set_X6_isValue : GoodIn wsX6_set wsX6_isValue := goodIn_r _ [16, 17, 18, 6, 7, 8, 9] (by decide +kernel) (by decide +kernel)
set_option maxRecDepth 20000 in
theorem gX6_set_X6_isValue : GoodIn wsX6_set (va_wsS RX6 50 yX6_isValue wsX6_isValue) := goodIn_app (goodIn_of _ (by decide +kernel)) ggX6_set_X6_isValue
