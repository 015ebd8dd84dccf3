theorem dX6_writeDictionary_0 : decode cX6_writeDictionary 0 = .ok (.aload_n 0, 1) := by decide +kernel
theorem dX6_writeDictionary_1 : decode cX6_writeDictionary 1 = .ok (.invokevirtual 108, 3) := by decide +kernel
theorem dX6_writeDictionary_4 : decode cX6_writeDictionary 4 = .ok (.istore_n 1, 1) := by decide +kernel
theorem dX6_writeDictionary_5 : decode cX6_writeDictionary 5 = .ok (.aload_n 0, 1) := by decide +kernel
theorem dX6_writeDictionary_6 : decode cX6_writeDictionary 6 = .ok (.iload_n 1, 1) := by decide +kernel
theorem dX6_writeDictionary_7 : decode cX6_writeDictionary 7 = .ok (.bipush 6, 2) := by decide +kernel
theorem dX6_writeDictionary_9 : decode cX6_writeDictionary 9 = .ok (.invokevirtual 159, 3) := by decide +kernel
theorem dX6_writeDictionary_12 : decode cX6_writeDictionary 12 = .ok (.iconst 0, 1) := by decide +kernel
theorem dX6_writeDictionary_13 : decode cX6_writeDictionary 13 = .ok (.istore_n 2, 1) := by decide +kernel
theorem dX6_writeDictionary_14 : decode cX6_writeDictionary 14 = .ok (.iload_n 2, 1) := by decide +kernel
theorem dX6_writeDictionary_15 : decode cX6_writeDictionary 15 = .ok (.iload_n 1, 1) := by decide +kernel
theorem dX6_writeDictionary_16 : decode cX6_writeDictionary 16 = .ok (.if_icmp .ge 39, 3) := by decide +kernel
theorem dX6_writeDictionary_19 : decode cX6_writeDictionary 19 = .ok (.iconst 0, 1) := by decide +kernel
theorem dX6_writeDictionary_20 : decode cX6_writeDictionary 20 = .ok (.istore_n 3, 1) := by decide +kernel
theorem dX6_writeDictionary_21 : decode cX6_writeDictionary 21 = .ok (.aload_n 0, 1) := by decide +kernel
theorem dX6_writeDictionary_22 : decode cX6_writeDictionary 22 = .ok (.aload_n 0, 1) := by decide +kernel
theorem dX6_writeDictionary_23 : decode cX6_writeDictionary 23 = .ok (.iload_n 3, 1) := by decide +kernel
theorem dX6_writeDictionary_24 : decode cX6_writeDictionary 24 = .ok (.invokevirtual 80, 3) := by decide +kernel
theorem dX6_writeDictionary_27 : decode cX6_writeDictionary 27 = .ok (.invokevirtual 102, 3) := by decide +kernel
theorem dX6_writeDictionary_30 : decode cX6_writeDictionary 30 = .ok (.iload_n 2, 1) := by decide +kernel
theorem dX6_writeDictionary_31 : decode cX6_writeDictionary 31 = .ok (.if_icmp .eq 9, 3) := by decide +kernel
theorem dX6_writeDictionary_34 : decode cX6_writeDictionary 34 = .ok (.iinc 3 1, 3) := by decide +kernel
theorem dX6_writeDictionary_37 : decode cX6_writeDictionary 37 = .ok (.goto (-16), 3) := by decide +kernel
theorem dX6_writeDictionary_40 : decode cX6_writeDictionary 40 = .ok (.aload_n 0, 1) := by decide +kernel
theorem dX6_writeDictionary_41 : decode cX6_writeDictionary 41 = .ok (.aload_n 0, 1) := by decide +kernel
theorem dX6_writeDictionary_42 : decode cX6_writeDictionary 42 = .ok (.iload_n 3, 1) := by decide +kernel
theorem dX6_writeDictionary_43 : decode cX6_writeDictionary 43 = .ok (.invokevirtual 80, 3) := by decide +kernel
theorem dX6_writeDictionary_46 : decode cX6_writeDictionary 46 = .ok (.invokevirtual 162, 3) := by decide +kernel
theorem dX6_writeDictionary_49 : decode cX6_writeDictionary 49 = .ok (.iinc 2 1, 3) := by decide +kernel
theorem dX6_writeDictionary_52 : decode cX6_writeDictionary 52 = .ok (.goto (-38), 3) := by decide +kernel
theorem dX6_writeDictionary_55 : decode cX6_writeDictionary 55 = .ok (.iconst 0, 1) := by decide +kernel
theorem dX6_writeDictionary_56 : decode cX6_writeDictionary 56 = .ok (.istore_n 2, 1) := by decide +kernel
theorem dX6_writeDictionary_57 : decode cX6_writeDictionary 57 = .ok (.iload_n 2, 1) := by decide +kernel
theorem dX6_writeDictionary_58 : decode cX6_writeDictionary 58 = .ok (.aload_n 0, 1) := by decide +kernel
theorem dX6_writeDictionary_59 : decode cX6_writeDictionary 59 = .ok (.getfield 77, 3) := by decide +kernel
theorem dX6_writeDictionary_62 : decode cX6_writeDictionary 62 = .ok (.if_icmp .ge 29, 3) := by decide +kernel
theorem dX6_writeDictionary_65 : decode cX6_writeDictionary 65 = .ok (.aload_n 0, 1) := by decide +kernel
theorem dX6_writeDictionary_66 : decode cX6_writeDictionary 66 = .ok (.aload_n 0, 1) := by decide +kernel
theorem dX6_writeDictionary_67 : decode cX6_writeDictionary 67 = .ok (.aload_n 0, 1) := by decide +kernel
theorem dX6_writeDictionary_68 : decode cX6_writeDictionary 68 = .ok (.iload_n 2, 1) := by decide +kernel
theorem dX6_writeDictionary_69 : decode cX6_writeDictionary 69 = .ok (.invokevirtual 80, 3) := by decide +kernel
theorem dX6_writeDictionary_72 : decode cX6_writeDictionary 72 = .ok (.invokevirtual 102, 3) := by decide +kernel
theorem dX6_writeDictionary_75 : decode cX6_writeDictionary 75 = .ok (.iload_n 1, 1) := by decide +kernel
theorem dX6_writeDictionary_76 : decode cX6_writeDictionary 76 = .ok (.iconst 1, 1) := by decide +kernel
theorem dX6_writeDictionary_77 : decode cX6_writeDictionary 77 = .ok (.isub, 1) := by decide +kernel
theorem dX6_writeDictionary_78 : decode cX6_writeDictionary 78 = .ok (.i2l, 1) := by decide +kernel
theorem dX6_writeDictionary_79 : decode cX6_writeDictionary 79 = .ok (.invokestatic 90, 3) := by decide +kernel
theorem dX6_writeDictionary_82 : decode cX6_writeDictionary 82 = .ok (.invokevirtual 159, 3) := by decide +kernel
theorem dX6_writeDictionary_85 : decode cX6_writeDictionary 85 = .ok (.iinc 2 1, 3) := by decide +kernel
theorem dX6_writeDictionary_88 : decode cX6_writeDictionary 88 = .ok (.goto (-31), 3) := by decide +kernel
theorem dX6_writeDictionary_91 : decode cX6_writeDictionary 91 = .ok (.return_, 1) := by decide +kernel
set_option maxRecDepth 20000 in
theorem ggX6_bitCount_X6_asks : GoodIn wsX6_bitCount wsX6_asks := goodIn_r _ [6, 7, 8, 9, 10, 11, 5, 12, 13, 14, 15, 16, 17, 18, 19, 20, 21, 22, 23, 24, 25, 26, 27, 28, 29, 30, 78, 79, 80, 81, 82, 83, 84, 85, 86, 87, 88, 89, 90, 91, 92] (by decide +kernel) (by decide +kernel)
set_option maxRecDepth 20000 in
theorem gX6_bitCount_X6_asks : GoodIn wsX6_bitCount (wsV RX6 148 RX6 yX6_asks wsX6_asks) := goodIn_app (goodIn_of _ (by decide +kernel)) ggX6_bitCount_X6_asks
set_option maxRecDepth 20000 in
theorem ggX6_bitCount_X6_sizeOf : GoodIn wsX6_bitCount wsX6_sizeOf := goodIn_r _ [34, 30, 35, 36, 37, 5, 38, 39, 40, 41, 42, 43, 44, 45, 46, 47, 25, 48, 49, 50, 51, 52, 53, 54, 55, 56, 57, 58, 59, 60, 61, 62, 63, 64, 65, 28, 66, 67, 68, 69, 70, 26, 27, 29, 71, 72, 73, 74, 75, 76, 77, 78, 79, 80, 81, 82, 83, 84, 85, 86, 87, 88, 89, 90, 91, 92] (by decide +kernel) (by decide +kernel)
set_option maxRecDepth 20000 in
theorem gX6_bitCount_X6_sizeOf : GoodIn wsX6_bitCount (wsV RX6 130 RX6 yX6_sizeOf wsX6_sizeOf) := goodIn_app (goodIn_of _ (by decide +kernel)) ggX6_bitCount_X6_sizeOf
theorem dX6_bitCount_0 : decode cX6_bitCount 0 = .ok (.aload_n 0, 1) := by decide +kernel
theorem dX6_bitCount_1 : decode cX6_bitCount 1 = .ok (.iload_n 1, 1) := by decide +kernel
theorem dX6_bitCount_2 : decode cX6_bitCount 2 = .ok (.iconst 0, 1) := by decide +kernel
theorem dX6_bitCount_3 : decode cX6_bitCount 3 = .ok (.invokevirtual 148, 3) := by decide +kernel
theorem dX6_bitCount_6 : decode cX6_bitCount 6 = .ok (.ifCond .eq 16, 3) := by decide +kernel
theorem dX6_bitCount_9 : decode cX6_bitCount 9 = .ok (.aload_n 0, 1) := by decide +kernel
theorem dX6_bitCount_10 : decode cX6_bitCount 10 = .ok (.aload_n 0, 1) := by decide +kernel
theorem dX6_bitCount_11 : decode cX6_bitCount 11 = .ok (.getfield 17, 3) := by decide +kernel
theorem dX6_bitCount_14 : decode cX6_bitCount 14 = .ok (.iload_n 1, 1) := by decide +kernel
theorem dX6_bitCount_15 : decode cX6_bitCount 15 = .ok (.iaload, 1) := by decide +kernel
theorem dX6_bitCount_16 : decode cX6_bitCount 16 = .ok (.invokevirtual 130, 3) := by decide +kernel
theorem dX6_bitCount_19 : decode cX6_bitCount 19 = .ok (.goto 4, 3) := by decide +kernel
theorem dX6_bitCount_22 : decode cX6_bitCount 22 = .ok (.iconst 0, 1) := by decide +kernel
theorem dX6_bitCount_23 : decode cX6_bitCount 23 = .ok (.ireturn, 1) := by decide +kernel
set_option maxRecDepth 20000 in
theorem ggX6_bit_X6_asks : GoodIn wsX6_bit wsX6_asks := goodIn_r _ [8, 9, 10, 11, 12, 13, 7, 14, 15, 16, 17, 18, 19, 20, 21, 22, 23, 24, 25, 26, 27, 28, 29, 30, 31, 32, 97, 98, 99, 100, 101, 102, 103, 104, 105, 106, 107, 108, 109, 110, 111] (by decide +kernel) (by decide +kernel)
set_option maxRecDepth 20000 in
theorem gX6_bit_X6_asks : GoodIn wsX6_bit (wsV RX6 148 RX6 yX6_asks wsX6_asks) := goodIn_app (goodIn_of _ (by decide +kernel)) ggX6_bit_X6_asks
set_option maxRecDepth 20000 in
theorem ggX6_bit_X6_write : GoodIn wsX6_bit wsX6_write := goodIn_r _ [36, 2, 32, 37, 38, 39, 7, 40, 41, 27, 42, 43, 44, 45, 46, 47, 48, 49, 50, 3, 51, 52, 53, 54, 55, 56, 57, 58, 59, 60, 61, 62, 63, 64, 65, 66, 67, 68, 69, 70, 71, 72, 73, 74, 75, 76, 77, 78, 28, 29, 30, 31, 79, 80, 81, 82, 83, 84, 85, 86, 87, 88, 89, 90, 91, 92, 97, 98, 99, 100, 101, 102, 103, 104, 105, 106, 107, 108, 109, 110, 111] (by decide +kernel) (by decide +kernel)
set_option maxRecDepth 20000 in
theorem gX6_bit_X6_write : GoodIn wsX6_bit (wsV RX6 172 RX6 yX6_write wsX6_write) := goodIn_app (goodIn_of _ (by decide +kernel)) ggX6_bit_X6_write
set_option maxRecDepth 20000 in
theorem ggX6_bit_X6_fail : GoodIn wsX6_bit wsX6_fail := goodIn_r _ [96, 9, 97, 98, 99, 100, 101, 102, 103, 104, 105, 106, 107, 108, 109, 110, 111] (by decide +kernel) (by decide +kernel)
set_option maxRecDepth 20000 in
theorem gX6_bit_X6_fail : GoodIn wsX6_bit (wsV RX6 54 RX6 yX6_fail wsX6_fail) := goodIn_app (goodIn_of _ (by decide +kernel)) ggX6_bit_X6_fail
theorem dX6_bit_0 : decode cX6_bit 0 = .ok (.aload_n 0, 1) := by decide +kernel
theorem dX6_bit_1 : decode cX6_bit 1 = .ok (.iload_n 1, 1) := by decide +kernel
theorem dX6_bit_2 : decode cX6_bit 2 = .ok (.iconst 0, 1) := by decide +kernel
theorem dX6_bit_3 : decode cX6_bit 3 = .ok (.invokevirtual 148, 3) := by decide +kernel
theorem dX6_bit_6 : decode cX6_bit 6 = .ok (.ifCond .ne 5, 3) := by decide +kernel
theorem dX6_bit_9 : decode cX6_bit 9 = .ok (.iconst 0, 1) := by decide +kernel
theorem dX6_bit_10 : decode cX6_bit 10 = .ok (.ireturn, 1) := by decide +kernel
theorem dX6_bit_11 : decode cX6_bit 11 = .ok (.aload_n 0, 1) := by decide +kernel
theorem dX6_bit_12 : decode cX6_bit 12 = .ok (.aload_n 0, 1) := by decide +kernel
theorem dX6_bit_13 : decode cX6_bit 13 = .ok (.getfield 17, 3) := by decide +kernel
theorem dX6_bit_16 : decode cX6_bit 16 = .ok (.iload_n 1, 1) := by decide +kernel
theorem dX6_bit_17 : decode cX6_bit 17 = .ok (.iaload, 1) := by decide +kernel
theorem dX6_bit_18 : decode cX6_bit 18 = .ok (.invokevirtual 172, 3) := by decide +kernel
theorem dX6_bit_21 : decode cX6_bit 21 = .ok (.iload_n 2, 1) := by decide +kernel
theorem dX6_bit_22 : decode cX6_bit 22 = .ok (.ifCond .lt 20, 3) := by decide +kernel
theorem dX6_bit_25 : decode cX6_bit 25 = .ok (.iload_n 2, 1) := by decide +kernel
theorem dX6_bit_26 : decode cX6_bit 26 = .ok (.aload_n 0, 1) := by decide +kernel
theorem dX6_bit_27 : decode cX6_bit 27 = .ok (.getfield 155, 3) := by decide +kernel
theorem dX6_bit_30 : decode cX6_bit 30 = .ok (.if_icmp .ge 12, 3) := by decide +kernel
theorem dX6_bit_33 : decode cX6_bit 33 = .ok (.aload_n 0, 1) := by decide +kernel
theorem dX6_bit_34 : decode cX6_bit 34 = .ok (.getfield 35, 3) := by decide +kernel
theorem dX6_bit_37 : decode cX6_bit 37 = .ok (.iload_n 2, 1) := by decide +kernel
theorem dX6_bit_38 : decode cX6_bit 38 = .ok (.iaload, 1) := by decide +kernel
theorem dX6_bit_39 : decode cX6_bit 39 = .ok (.goto 8, 3) := by decide +kernel
theorem dX6_bit_42 : decode cX6_bit 42 = .ok (.aload_n 0, 1) := by decide +kernel
theorem dX6_bit_43 : decode cX6_bit 43 = .ok (.iconst 1, 1) := by decide +kernel
theorem dX6_bit_44 : decode cX6_bit 44 = .ok (.invokevirtual 54, 3) := by decide +kernel
theorem dX6_bit_47 : decode cX6_bit 47 = .ok (.ireturn, 1) := by decide +kernel
set_option maxRecDepth 20000 in
theorem ggX6_allBits_X6_segments : GoodIn wsX6_allBits wsX6_segments := goodIn_r _ [7, 8, 66, 67, 68, 69, 70, 71, 72, 73, 74, 75, 76, 77, 78, 79, 80] (by decide +kernel) (by decide +kernel)
set_option maxRecDepth 20000 in
theorem gX6_allBits_X6_segments : GoodIn wsX6_allBits (wsV RX6 62 RX6 yX6_segments wsX6_segments) := goodIn_app (goodIn_of _ (by decide +kernel)) ggX6_allBits_X6_segments
set_option maxRecDepth 20000 in
theorem ggX6_allBits_X6_choose : GoodIn wsX6_allBits wsX6_choose := goodIn_r _ [12, 13, 8, 14, 15, 16, 17, 18, 66, 67, 68, 69, 70, 71, 72, 73, 74, 75, 76, 77, 78, 79, 80] (by decide +kernel) (by decide +kernel)
set_option maxRecDepth 20000 in
theorem gX6_allBits_X6_choose : GoodIn wsX6_allBits (wsV RX6 145 RX6 yX6_choose wsX6_choose) := goodIn_app (goodIn_of _ (by decide +kernel)) ggX6_allBits_X6_choose
set_option maxRecDepth 20000 in
theorem ggX6_allBits_X6_sizeOf : GoodIn wsX6_allBits wsX6_sizeOf := goodIn_r _ [22, 18, 23, 24, 25, 6, 26, 27, 28, 29, 30, 31, 32, 33, 34, 35, 13, 36, 37, 38, 39, 40, 41, 42, 43, 44, 45, 46, 47, 48, 49, 50, 51, 52, 53, 16, 54, 55, 56, 57, 58, 14, 15, 17, 59, 60, 61, 62, 63, 64, 65, 66, 67, 68, 69, 70, 71, 72, 73, 74, 75, 76, 77, 78, 79, 80] (by decide +kernel) (by decide +kernel)
set_option maxRecDepth 20000 in
theorem gX6_allBits_X6_sizeOf : GoodIn wsX6_allBits (wsV RX6 130 RX6 yX6_sizeOf wsX6_sizeOf) := goodIn_app (goodIn_of _ (by decide +kernel)) ggX6_allBits_X6_sizeOf
theorem dX6_allBits_0 : decode cX6_allBits 0 = .ok (.iconst 0, 1) := by decide +kernel
theorem dX6_allBits_1 : decode cX6_allBits 1 = .ok (.istore_n 1, 1) := by decide +kernel
theorem dX6_allBits_2 : decode cX6_allBits 2 = .ok (.iconst 0, 1) := by decide +kernel
theorem dX6_allBits_3 : decode cX6_allBits 3 = .ok (.istore_n 2, 1) := by decide +kernel
theorem dX6_allBits_4 : decode cX6_allBits 4 = .ok (.iload_n 2, 1) := by decide +kernel
theorem dX6_allBits_5 : decode cX6_allBits 5 = .ok (.aload_n 0, 1) := by decide +kernel
theorem dX6_allBits_6 : decode cX6_allBits 6 = .ok (.aload_n 0, 1) := by decide +kernel
theorem dX6_allBits_7 : decode cX6_allBits 7 = .ok (.getfield 13, 3) := by decide +kernel
theorem dX6_allBits_10 : decode cX6_allBits 10 = .ok (.invokevirtual 62, 3) := by decide +kernel
theorem dX6_allBits_13 : decode cX6_allBits 13 = .ok (.if_icmp .ge 31, 3) := by decide +kernel
theorem dX6_allBits_16 : decode cX6_allBits 16 = .ok (.aload_n 0, 1) := by decide +kernel
theorem dX6_allBits_17 : decode cX6_allBits 17 = .ok (.iload_n 2, 1) := by decide +kernel
theorem dX6_allBits_18 : decode cX6_allBits 18 = .ok (.aload_n 0, 1) := by decide +kernel
theorem dX6_allBits_19 : decode cX6_allBits 19 = .ok (.getfield 13, 3) := by decide +kernel
theorem dX6_allBits_22 : decode cX6_allBits 22 = .ok (.invokevirtual 145, 3) := by decide +kernel
theorem dX6_allBits_25 : decode cX6_allBits 25 = .ok (.iload_n 1, 1) := by decide +kernel
theorem dX6_allBits_26 : decode cX6_allBits 26 = .ok (.aload_n 0, 1) := by decide +kernel
theorem dX6_allBits_27 : decode cX6_allBits 27 = .ok (.aload_n 0, 1) := by decide +kernel
theorem dX6_allBits_28 : decode cX6_allBits 28 = .ok (.getfield 17, 3) := by decide +kernel
theorem dX6_allBits_31 : decode cX6_allBits 31 = .ok (.iload_n 2, 1) := by decide +kernel
theorem dX6_allBits_32 : decode cX6_allBits 32 = .ok (.iaload, 1) := by decide +kernel
theorem dX6_allBits_33 : decode cX6_allBits 33 = .ok (.invokevirtual 130, 3) := by decide +kernel
theorem dX6_allBits_36 : decode cX6_allBits 36 = .ok (.iadd, 1) := by decide +kernel
theorem dX6_allBits_37 : decode cX6_allBits 37 = .ok (.istore_n 1, 1) := by decide +kernel
theorem dX6_allBits_38 : decode cX6_allBits 38 = .ok (.iinc 2 1, 3) := by decide +kernel
theorem dX6_allBits_41 : decode cX6_allBits 41 = .ok (.goto (-37), 3) := by decide +kernel
theorem dX6_allBits_44 : decode cX6_allBits 44 = .ok (.iload_n 1, 1) := by decide +kernel
theorem dX6_allBits_45 : decode cX6_allBits 45 = .ok (.ireturn, 1) := by decide +kernel
set_option maxRecDepth 20000 in
theorem ggX6_size_X6_allBits : GoodIn wsX6_size wsX6_allBits := goodIn_r _ [6, 7, 8, 9, 10, 11, 5, 12, 13, 14, 15, 16, 17, 18, 19, 20, 21, 22, 23, 24, 25, 26, 27, 28, 29, 30, 31, 32, 33, 34, 35, 36, 37, 38, 39, 40, 41, 42, 43, 44, 45, 46, 47, 48, 49, 50, 51, 52, 53, 54, 55, 56, 57, 58, 59, 60, 61, 62, 63, 64, 65, 66, 67, 68, 69, 70, 71, 72, 73, 74, 75, 76, 77, 78, 79, 80, 81, 82, 83, 84, 85] (by decide +kernel) (by decide +kernel)
set_option maxRecDepth 20000 in
theorem gX6_size_X6_allBits : GoodIn wsX6_size (wsV RX6 175 RX6 yX6_allBits wsX6_allBits) := goodIn_app (goodIn_of _ (by decide +kernel)) ggX6_size_X6_allBits
theorem dX6_size_0 : decode cX6_size 0 = .ok (.aload_n 0, 1) := by decide +kernel
theorem dX6_size_1 : decode cX6_size 1 = .ok (.iconst 0, 1) := by decide +kernel
theorem dX6_size_2 : decode cX6_size 2 = .ok (.putfield 38, 3) := by decide +kernel
theorem dX6_size_5 : decode cX6_size 5 = .ok (.aload_n 0, 1) := by decide +kernel
theorem dX6_size_6 : decode cX6_size 6 = .ok (.invokevirtual 175, 3) := by decide +kernel
theorem dX6_size_9 : decode cX6_size 9 = .ok (.ireturn, 1) := by decide +kernel
set_option maxRecDepth 20000 in
theorem ggX6_score_X6_segments : GoodIn wsX6_score wsX6_segments := goodIn_r _ [8, 9, 97, 98, 99, 100, 101, 102, 103, 104, 105, 106, 107, 108, 109, 110, 111] (by decide +kernel) (by decide +kernel)
set_option maxRecDepth 20000 in
theorem gX6_score_X6_segments : GoodIn wsX6_score (wsV RX6 62 RX6 yX6_segments wsX6_segments) := goodIn_app (goodIn_of _ (by decide +kernel)) ggX6_score_X6_segments
set_option maxRecDepth 20000 in
theorem ggX6_score_X6_choose : GoodIn wsX6_score wsX6_choose := goodIn_r _ [13, 14, 9, 15, 16, 17, 18, 19, 97, 98, 99, 100, 101, 102, 103, 104, 105, 106, 107, 108, 109, 110, 111] (by decide +kernel) (by decide +kernel)
set_option maxRecDepth 20000 in
theorem gX6_score_X6_choose : GoodIn wsX6_score (wsV RX6 145 RX6 yX6_choose wsX6_choose) := goodIn_app (goodIn_of _ (by decide +kernel)) ggX6_score_X6_choose
set_option maxRecDepth 20000 in
theorem ggX6_score_X6_scoreOf : GoodIn wsX6_score wsX6_scoreOf := goodIn_r _ [23, 24, 25, 26, 27, 28, 29, 7, 30, 19, 31, 32, 33, 34, 35, 36, 37, 38, 39, 40, 41, 42, 43, 14, 44, 45, 46, 47, 48, 49, 50, 51, 52, 53, 54, 55, 56, 57, 58, 59, 60, 61, 17, 62, 63, 64, 65, 66, 15, 16, 18, 67, 68, 69, 70, 71, 72, 73, 74, 75, 76, 77, 78, 79, 80, 81, 82, 83, 84, 85, 86, 87, 88, 89, 90, 91, 92, 93, 94, 95, 96, 97, 98, 99, 100, 101, 102, 103, 104, 105, 106, 107, 108, 109, 110, 111] (by decide +kernel) (by decide +kernel)
set_option maxRecDepth 20000 in
theorem gX6_score_X6_scoreOf : GoodIn wsX6_score (wsV RX6 139 RX6 yX6_scoreOf wsX6_scoreOf) := goodIn_app (goodIn_of _ (by decide +kernel)) ggX6_score_X6_scoreOf
theorem dX6_score_0 : decode cX6_score 0 = .ok (.aload_n 0, 1) := by decide +kernel
theorem dX6_score_1 : decode cX6_score 1 = .ok (.iconst 0, 1) := by decide +kernel
theorem dX6_score_2 : decode cX6_score 2 = .ok (.putfield 38, 3) := by decide +kernel
theorem dX6_score_5 : decode cX6_score 5 = .ok (.iconst 0, 1) := by decide +kernel
theorem dX6_score_6 : decode cX6_score 6 = .ok (.istore_n 1, 1) := by decide +kernel
theorem dX6_score_7 : decode cX6_score 7 = .ok (.iconst 0, 1) := by decide +kernel
theorem dX6_score_8 : decode cX6_score 8 = .ok (.istore_n 2, 1) := by decide +kernel
theorem dX6_score_9 : decode cX6_score 9 = .ok (.iload_n 2, 1) := by decide +kernel
theorem dX6_score_10 : decode cX6_score 10 = .ok (.aload_n 0, 1) := by decide +kernel
theorem dX6_score_11 : decode cX6_score 11 = .ok (.aload_n 0, 1) := by decide +kernel
theorem dX6_score_12 : decode cX6_score 12 = .ok (.getfield 13, 3) := by decide +kernel
theorem dX6_score_15 : decode cX6_score 15 = .ok (.invokevirtual 62, 3) := by decide +kernel
theorem dX6_score_18 : decode cX6_score 18 = .ok (.if_icmp .ge 31, 3) := by decide +kernel
theorem dX6_score_21 : decode cX6_score 21 = .ok (.aload_n 0, 1) := by decide +kernel
theorem dX6_score_22 : decode cX6_score 22 = .ok (.iload_n 2, 1) := by decide +kernel
theorem dX6_score_23 : decode cX6_score 23 = .ok (.aload_n 0, 1) := by decide +kernel
theorem dX6_score_24 : decode cX6_score 24 = .ok (.getfield 13, 3) := by decide +kernel
theorem dX6_score_27 : decode cX6_score 27 = .ok (.invokevirtual 145, 3) := by decide +kernel
theorem dX6_score_30 : decode cX6_score 30 = .ok (.iload_n 1, 1) := by decide +kernel
theorem dX6_score_31 : decode cX6_score 31 = .ok (.aload_n 0, 1) := by decide +kernel
theorem dX6_score_32 : decode cX6_score 32 = .ok (.aload_n 0, 1) := by decide +kernel
theorem dX6_score_33 : decode cX6_score 33 = .ok (.getfield 17, 3) := by decide +kernel
theorem dX6_score_36 : decode cX6_score 36 = .ok (.iload_n 2, 1) := by decide +kernel
theorem dX6_score_37 : decode cX6_score 37 = .ok (.iaload, 1) := by decide +kernel
theorem dX6_score_38 : decode cX6_score 38 = .ok (.invokevirtual 139, 3) := by decide +kernel
theorem dX6_score_41 : decode cX6_score 41 = .ok (.iadd, 1) := by decide +kernel
theorem dX6_score_42 : decode cX6_score 42 = .ok (.istore_n 1, 1) := by decide +kernel
theorem dX6_score_43 : decode cX6_score 43 = .ok (.iinc 2 1, 3) := by decide +kernel
theorem dX6_score_46 : decode cX6_score 46 = .ok (.goto (-37), 3) := by decide +kernel
theorem dX6_score_49 : decode cX6_score 49 = .ok (.iload_n 1, 1) := by decide +kernel
theorem dX6_score_50 : decode cX6_score 50 = .ok (.ireturn, 1) := by decide +kernel
set_option maxRecDepth 20000 in
theorem ggX6_bestSegmentSize_X6_segments : GoodIn wsX6_bestSegmentSize wsX6_segments := goodIn_r _ [6, 7, 103, 104, 105, 106, 107, 108, 109, 110, 111, 112, 113, 114, 115, 116, 117] (by decide +kernel) (by decide +kernel)
set_option maxRecDepth 20000 in
theorem gX6_bestSegmentSize_X6_segments : GoodIn wsX6_bestSegmentSize (wsV RX6 62 RX6 yX6_segments wsX6_segments) := goodIn_app (goodIn_of _ (by decide +kernel)) ggX6_bestSegmentSize_X6_segments
set_option maxRecDepth 20000 in
theorem ggX6_bestSegmentSize_X6_choose : GoodIn wsX6_bestSegmentSize wsX6_choose := goodIn_r _ [11, 12, 7, 13, 14, 15, 16, 17, 103, 104, 105, 106, 107, 108, 109, 110, 111, 112, 113, 114, 115, 116, 117] (by decide +kernel) (by decide +kernel)
set_option maxRecDepth 20000 in
theorem gX6_bestSegmentSize_X6_choose : GoodIn wsX6_bestSegmentSize (wsV RX6 145 RX6 yX6_choose wsX6_choose) := goodIn_app (goodIn_of _ (by decide +kernel)) ggX6_bestSegmentSize_X6_choose
set_option maxRecDepth 20000 in
theorem ggX6_bestSegmentSize_X6_best : GoodIn wsX6_bestSegmentSize wsX6_best := goodIn_r _ [21, 22, 23, 24, 5, 25, 17, 26, 27, 28, 29, 30, 31, 32, 33, 34, 35, 36, 37, 38, 12, 39, 40, 41, 42, 43, 44, 45, 46, 47, 48, 49, 50, 51, 52, 53, 54, 55, 56, 57, 58, 59, 60, 61, 62, 63, 64, 65, 66, 67, 15, 68, 69, 70, 71, 72, 13, 14, 16, 73, 74, 75, 76, 77, 78, 79, 80, 81, 82, 83, 84, 85, 86, 87, 88, 89, 90, 91, 92, 93, 94, 95, 96, 97, 98, 99, 100, 101, 102, 103, 104, 105, 106, 107, 108, 109, 110, 111, 112, 113, 114, 115, 116, 117] (by decide +kernel) (by decide +kernel)
set_option maxRecDepth 20000 in
theorem gX6_bestSegmentSize_X6_best : GoodIn wsX6_bestSegmentSize (wsV RX6 152 RX6 yX6_best wsX6_best) := goodIn_app (goodIn_of _ (by decide +kernel)) ggX6_bestSegmentSize_X6_best
set_option maxRecDepth 20000 in
theorem ggX6_bestSegmentSize_X6_scoreOf : GoodIn wsX6_bestSegmentSize wsX6_scoreOf := goodIn_r _ [42, 43, 44, 45, 46, 47, 48, 5, 49, 17, 26, 27, 28, 29, 30, 31, 32, 33, 34, 35, 36, 37, 38, 12, 50, 51, 52, 53, 54, 55, 56, 57, 58, 59, 60, 61, 62, 63, 64, 65, 66, 67, 15, 68, 69, 70, 71, 72, 13, 14, 16, 73, 74, 75, 76, 77, 78, 79, 80, 81, 82, 83, 84, 85, 86, 87, 88, 89, 90, 91, 92, 93, 94, 95, 96, 97, 98, 99, 100, 101, 102, 103, 104, 105, 106, 107, 108, 109, 110, 111, 112, 113, 114, 115, 116, 117] (by decide +kernel) (by decide +kernel)
set_option maxRecDepth 20000 in
theorem gX6_bestSegmentSize_X6_scoreOf : GoodIn wsX6_bestSegmentSize (wsV RX6 139 RX6 yX6_scoreOf wsX6_scoreOf) := goodIn_app (goodIn_of _ (by decide +kernel)) ggX6_bestSegmentSize_X6_scoreOf
theorem dX6_bestSegmentSize_0 : decode cX6_bestSegmentSize 0 = .ok (.aload_n 0, 1) := by decide +kernel
theorem dX6_bestSegmentSize_1 : decode cX6_bestSegmentSize 1 = .ok (.iconst 0, 1) := by decide +kernel
theorem dX6_bestSegmentSize_2 : decode cX6_bestSegmentSize 2 = .ok (.putfield 38, 3) := by decide +kernel
theorem dX6_bestSegmentSize_5 : decode cX6_bestSegmentSize 5 = .ok (.iconst 4, 1) := by decide +kernel
theorem dX6_bestSegmentSize_6 : decode cX6_bestSegmentSize 6 = .ok (.istore_n 1, 1) := by decide +kernel
theorem dX6_bestSegmentSize_7 : decode cX6_bestSegmentSize 7 = .ok (.iconst (-1), 1) := by decide +kernel
theorem dX6_bestSegmentSize_8 : decode cX6_bestSegmentSize 8 = .ok (.istore_n 2, 1) := by decide +kernel
theorem dX6_bestSegmentSize_9 : decode cX6_bestSegmentSize 9 = .ok (.iconst 4, 1) := by decide +kernel
theorem dX6_bestSegmentSize_10 : decode cX6_bestSegmentSize 10 = .ok (.istore_n 3, 1) := by decide +kernel
theorem dX6_bestSegmentSize_11 : decode cX6_bestSegmentSize 11 = .ok (.iload_n 3, 1) := by decide +kernel
theorem dX6_bestSegmentSize_12 : decode cX6_bestSegmentSize 12 = .ok (.bipush 32, 2) := by decide +kernel
theorem dX6_bestSegmentSize_14 : decode cX6_bestSegmentSize 14 = .ok (.if_icmp .gt 70, 3) := by decide +kernel
theorem dX6_bestSegmentSize_17 : decode cX6_bestSegmentSize 17 = .ok (.iconst 0, 1) := by decide +kernel
theorem dX6_bestSegmentSize_18 : decode cX6_bestSegmentSize 18 = .ok (.istore 4, 2) := by decide +kernel
theorem dX6_bestSegmentSize_20 : decode cX6_bestSegmentSize 20 = .ok (.iconst 0, 1) := by decide +kernel
theorem dX6_bestSegmentSize_21 : decode cX6_bestSegmentSize 21 = .ok (.istore 5, 2) := by decide +kernel
theorem dX6_bestSegmentSize_23 : decode cX6_bestSegmentSize 23 = .ok (.iload 5, 2) := by decide +kernel
theorem dX6_bestSegmentSize_25 : decode cX6_bestSegmentSize 25 = .ok (.aload_n 0, 1) := by decide +kernel
theorem dX6_bestSegmentSize_26 : decode cX6_bestSegmentSize 26 = .ok (.iload_n 3, 1) := by decide +kernel
theorem dX6_bestSegmentSize_27 : decode cX6_bestSegmentSize 27 = .ok (.invokevirtual 62, 3) := by decide +kernel
theorem dX6_bestSegmentSize_30 : decode cX6_bestSegmentSize 30 = .ok (.if_icmp .ge 29, 3) := by decide +kernel
theorem dX6_bestSegmentSize_33 : decode cX6_bestSegmentSize 33 = .ok (.aload_n 0, 1) := by decide +kernel
theorem dX6_bestSegmentSize_34 : decode cX6_bestSegmentSize 34 = .ok (.iload 5, 2) := by decide +kernel
theorem dX6_bestSegmentSize_36 : decode cX6_bestSegmentSize 36 = .ok (.iload_n 3, 1) := by decide +kernel
theorem dX6_bestSegmentSize_37 : decode cX6_bestSegmentSize 37 = .ok (.invokevirtual 145, 3) := by decide +kernel
theorem dX6_bestSegmentSize_40 : decode cX6_bestSegmentSize 40 = .ok (.iload 4, 2) := by decide +kernel
theorem dX6_bestSegmentSize_42 : decode cX6_bestSegmentSize 42 = .ok (.aload_n 0, 1) := by decide +kernel
theorem dX6_bestSegmentSize_43 : decode cX6_bestSegmentSize 43 = .ok (.aload_n 0, 1) := by decide +kernel
theorem dX6_bestSegmentSize_44 : decode cX6_bestSegmentSize 44 = .ok (.invokevirtual 152, 3) := by decide +kernel
theorem dX6_bestSegmentSize_47 : decode cX6_bestSegmentSize 47 = .ok (.invokevirtual 139, 3) := by decide +kernel
theorem dX6_bestSegmentSize_50 : decode cX6_bestSegmentSize 50 = .ok (.iadd, 1) := by decide +kernel
theorem dX6_bestSegmentSize_51 : decode cX6_bestSegmentSize 51 = .ok (.istore 4, 2) := by decide +kernel
theorem dX6_bestSegmentSize_53 : decode cX6_bestSegmentSize 53 = .ok (.iinc 5 1, 3) := by decide +kernel
theorem dX6_bestSegmentSize_56 : decode cX6_bestSegmentSize 56 = .ok (.goto (-33), 3) := by decide +kernel
theorem dX6_bestSegmentSize_59 : decode cX6_bestSegmentSize 59 = .ok (.iload_n 2, 1) := by decide +kernel
theorem dX6_bestSegmentSize_60 : decode cX6_bestSegmentSize 60 = .ok (.iconst (-1), 1) := by decide +kernel
theorem dX6_bestSegmentSize_61 : decode cX6_bestSegmentSize 61 = .ok (.if_icmp .eq 12, 3) := by decide +kernel
theorem dX6_bestSegmentSize_64 : decode cX6_bestSegmentSize 64 = .ok (.iload 4, 2) := by decide +kernel
theorem dX6_bestSegmentSize_66 : decode cX6_bestSegmentSize 66 = .ok (.iload_n 2, 1) := by decide +kernel
theorem dX6_bestSegmentSize_67 : decode cX6_bestSegmentSize 67 = .ok (.if_icmp .lt 6, 3) := by decide +kernel
theorem dX6_bestSegmentSize_70 : decode cX6_bestSegmentSize 70 = .ok (.goto 8, 3) := by decide +kernel
theorem dX6_bestSegmentSize_73 : decode cX6_bestSegmentSize 73 = .ok (.iload 4, 2) := by decide +kernel
theorem dX6_bestSegmentSize_75 : decode cX6_bestSegmentSize 75 = .ok (.istore_n 2, 1) := by decide +kernel
theorem dX6_bestSegmentSize_76 : decode cX6_bestSegmentSize 76 = .ok (.iload_n 3, 1) := by decide +kernel
theorem dX6_bestSegmentSize_77 : decode cX6_bestSegmentSize 77 = .ok (.istore_n 1, 1) := by decide +kernel
theorem dX6_bestSegmentSize_78 : decode cX6_bestSegmentSize 78 = .ok (.iinc 3 1, 3) := by decide +kernel
theorem dX6_bestSegmentSize_81 : decode cX6_bestSegmentSize 81 = .ok (.goto (-70), 3) := by decide +kernel
theorem dX6_bestSegmentSize_84 : decode cX6_bestSegmentSize 84 = .ok (.iload_n 1, 1) := by decide +kernel
theorem dX6_bestSegmentSize_85 : decode cX6_bestSegmentSize 85 = .ok (.ireturn, 1) := by decide +kernel
set_option maxRecDepth 20000 in
theorem ggX6_ratio_X6_allBits : GoodIn wsX6_ratio wsX6_allBits := goodIn_r _ [7, 8, 9, 10, 11, 12, 6, 13, 2, 14, 15, 16, 17, 18, 19, 20, 21, 22, 23, 24, 25, 26, 27, 28, 29, 30, 31, 32, 33, 34, 35, 36, 37, 38, 39, 40, 41, 42, 43, 44, 45, 46, 47, 48, 49, 50, 51, 52, 53, 54, 55, 56, 57, 58, 59, 60, 61, 62, 63, 64, 65, 66, 67, 68, 69, 70, 71, 72, 73, 74, 75, 76, 77, 78, 79, 80, 81, 82, 83, 84, 85] (by decide +kernel) (by decide +kernel)
set_option maxRecDepth 20000 in
theorem gX6_ratio_X6_allBits : GoodIn wsX6_ratio (wsV RX6 175 RX6 yX6_allBits wsX6_allBits) := goodIn_app (goodIn_of _ (by decide +kernel)) ggX6_ratio_X6_allBits
theorem dX6_ratio_0 : decode cX6_ratio 0 = .ok (.aload_n 0, 1) := by decide +kernel
theorem dX6_ratio_1 : decode cX6_ratio 1 = .ok (.iconst 0, 1) := by decide +kernel
theorem dX6_ratio_2 : decode cX6_ratio 2 = .ok (.putfield 38, 3) := by decide +kernel
theorem dX6_ratio_5 : decode cX6_ratio 5 = .ok (.aload_n 0, 1) := by decide +kernel
theorem dX6_ratio_6 : decode cX6_ratio 6 = .ok (.getfield 47, 3) := by decide +kernel
theorem dX6_ratio_9 : decode cX6_ratio 9 = .ok (.ifCond .ne 7, 3) := by decide +kernel
theorem dX6_ratio_12 : decode cX6_ratio 12 = .ok (.dconst 1, 1) := by decide +kernel
theorem dX6_ratio_13 : decode cX6_ratio 13 = .ok (.goto 17, 3) := by decide +kernel
theorem dX6_ratio_16 : decode cX6_ratio 16 = .ok (.aload_n 0, 1) := by decide +kernel
theorem dX6_ratio_17 : decode cX6_ratio 17 = .ok (.invokevirtual 175, 3) := by decide +kernel
theorem dX6_ratio_20 : decode cX6_ratio 20 = .ok (.i2d, 1) := by decide +kernel
theorem dX6_ratio_21 : decode cX6_ratio 21 = .ok (.bipush 18, 2) := by decide +kernel
theorem dX6_ratio_23 : decode cX6_ratio 23 = .ok (.aload_n 0, 1) := by decide +kernel
theorem dX6_ratio_24 : decode cX6_ratio 24 = .ok (.getfield 47, 3) := by decide +kernel
theorem dX6_ratio_27 : decode cX6_ratio 27 = .ok (.imul, 1) := by decide +kernel
theorem dX6_ratio_28 : decode cX6_ratio 28 = .ok (.i2d, 1) := by decide +kernel
theorem dX6_ratio_29 : decode cX6_ratio 29 = .ok (.ddiv, 1) := by decide +kernel
theorem dX6_ratio_30 : decode cX6_ratio 30 = .ok (.dreturn, 1) := by decide +kernel
set_option maxRecDepth 20000 in
theorem ggX6_digest_X6_segments : GoodIn wsX6_digest wsX6_segments := goodIn_r _ [15, 3, 86, 87, 88, 89, 90, 91, 92, 93, 94, 95, 96, 97, 98, 99, 100] (by decide +kernel) (by decide +kernel)
set_option maxRecDepth 20000 in
theorem gX6_digest_X6_segments : GoodIn wsX6_digest (wsV RX6 62 RX6 yX6_segments wsX6_segments) := goodIn_app (goodIn_of _ (by decide +kernel)) ggX6_digest_X6_segments
set_option maxRecDepth 20000 in
theorem ggX6_digest_X6_choose : GoodIn wsX6_digest wsX6_choose := goodIn_r _ [19, 20, 3, 21, 22, 23, 24, 25, 86, 87, 88, 89, 90, 91, 92, 93, 94, 95, 96, 97, 98, 99, 100] (by decide +kernel) (by decide +kernel)
set_option maxRecDepth 20000 in
theorem gX6_digest_X6_choose : GoodIn wsX6_digest (wsV RX6 145 RX6 yX6_choose wsX6_choose) := goodIn_app (goodIn_of _ (by decide +kernel)) ggX6_digest_X6_choose
set_option maxRecDepth 20000 in
theorem ggX6_digest_X6_write : GoodIn wsX6_digest wsX6_write := goodIn_r _ [29, 9, 25, 30, 31, 32, 14, 33, 34, 20, 35, 36, 37, 38, 39, 40, 41, 42, 43, 10, 44, 45, 46, 47, 48, 49, 50, 51, 52, 53, 54, 55, 56, 57, 58, 59, 60, 61, 62, 63, 64, 65, 66, 67, 68, 69, 70, 71, 21, 22, 23, 24, 72, 73, 74, 75, 76, 77, 78, 79, 80, 81, 82, 83, 84, 85, 86, 87, 88, 89, 90, 91, 92, 93, 94, 95, 96, 97, 98, 99, 100] (by decide +kernel) (by decide +kernel)
set_option maxRecDepth 20000 in
theorem gX6_digest_X6_write : GoodIn wsX6_digest (wsV RX6 172 RX6 yX6_write wsX6_write) := goodIn_app (goodIn_of _ (by decide +kernel)) ggX6_digest_X6_write
theorem dX6_digest_0 : decode cX6_digest 0 = .ok (.aload_n 0, 1) := by decide +kernel
theorem dX6_digest_1 : decode cX6_digest 1 = .ok (.iconst 0, 1) := by decide +kernel
theorem dX6_digest_2 : decode cX6_digest 2 = .ok (.putfield 38, 3) := by decide +kernel
theorem dX6_digest_5 : decode cX6_digest 5 = .ok (.ldc2_w 178, 3) := by decide +kernel
theorem dX6_digest_8 : decode cX6_digest 8 = .ok (.aload_n 0, 1) := by decide +kernel
theorem dX6_digest_9 : decode cX6_digest 9 = .ok (.getfield 47, 3) := by decide +kernel
theorem dX6_digest_12 : decode cX6_digest 12 = .ok (.i2l, 1) := by decide +kernel
theorem dX6_digest_13 : decode cX6_digest 13 = .ok (.ladd, 1) := by decide +kernel
theorem dX6_digest_14 : decode cX6_digest 14 = .ok (.ldc2_w 180, 3) := by decide +kernel
theorem dX6_digest_17 : decode cX6_digest 17 = .ok (.lmul, 1) := by decide +kernel
theorem dX6_digest_18 : decode cX6_digest 18 = .ok (.aload_n 0, 1) := by decide +kernel
theorem dX6_digest_19 : decode cX6_digest 19 = .ok (.getfield 13, 3) := by decide +kernel
theorem dX6_digest_22 : decode cX6_digest 22 = .ok (.i2l, 1) := by decide +kernel
theorem dX6_digest_23 : decode cX6_digest 23 = .ok (.ladd, 1) := by decide +kernel
theorem dX6_digest_24 : decode cX6_digest 24 = .ok (.ldc2_w 180, 3) := by decide +kernel
theorem dX6_digest_27 : decode cX6_digest 27 = .ok (.lmul, 1) := by decide +kernel
theorem dX6_digest_28 : decode cX6_digest 28 = .ok (.aload_n 0, 1) := by decide +kernel
theorem dX6_digest_29 : decode cX6_digest 29 = .ok (.getfield 20, 3) := by decide +kernel
theorem dX6_digest_32 : decode cX6_digest 32 = .ok (.i2l, 1) := by decide +kernel
theorem dX6_digest_33 : decode cX6_digest 33 = .ok (.ladd, 1) := by decide +kernel
theorem dX6_digest_34 : decode cX6_digest 34 = .ok (.ldc2_w 180, 3) := by decide +kernel
theorem dX6_digest_37 : decode cX6_digest 37 = .ok (.lmul, 1) := by decide +kernel
theorem dX6_digest_38 : decode cX6_digest 38 = .ok (.aload_n 0, 1) := by decide +kernel
theorem dX6_digest_39 : decode cX6_digest 39 = .ok (.getfield 65, 3) := by decide +kernel
theorem dX6_digest_42 : decode cX6_digest 42 = .ok (.i2l, 1) := by decide +kernel
theorem dX6_digest_43 : decode cX6_digest 43 = .ok (.ladd, 1) := by decide +kernel
theorem dX6_digest_44 : decode cX6_digest 44 = .ok (.lstore_n 1, 1) := by decide +kernel
theorem dX6_digest_45 : decode cX6_digest 45 = .ok (.iconst 0, 1) := by decide +kernel
theorem dX6_digest_46 : decode cX6_digest 46 = .ok (.istore_n 3, 1) := by decide +kernel
theorem dX6_digest_47 : decode cX6_digest 47 = .ok (.iload_n 3, 1) := by decide +kernel
theorem dX6_digest_48 : decode cX6_digest 48 = .ok (.aload_n 0, 1) := by decide +kernel
theorem dX6_digest_49 : decode cX6_digest 49 = .ok (.aload_n 0, 1) := by decide +kernel
theorem dX6_digest_50 : decode cX6_digest 50 = .ok (.getfield 13, 3) := by decide +kernel
theorem dX6_digest_53 : decode cX6_digest 53 = .ok (.invokevirtual 62, 3) := by decide +kernel
theorem dX6_digest_56 : decode cX6_digest 56 = .ok (.if_icmp .ge 85, 3) := by decide +kernel
theorem dX6_digest_59 : decode cX6_digest 59 = .ok (.aload_n 0, 1) := by decide +kernel
theorem dX6_digest_60 : decode cX6_digest 60 = .ok (.iload_n 3, 1) := by decide +kernel
theorem dX6_digest_61 : decode cX6_digest 61 = .ok (.aload_n 0, 1) := by decide +kernel
theorem dX6_digest_62 : decode cX6_digest 62 = .ok (.getfield 13, 3) := by decide +kernel
theorem dX6_digest_65 : decode cX6_digest 65 = .ok (.invokevirtual 145, 3) := by decide +kernel
theorem dX6_digest_68 : decode cX6_digest 68 = .ok (.aload_n 0, 1) := by decide +kernel
theorem dX6_digest_69 : decode cX6_digest 69 = .ok (.aload_n 0, 1) := by decide +kernel
theorem dX6_digest_70 : decode cX6_digest 70 = .ok (.getfield 17, 3) := by decide +kernel
theorem dX6_digest_73 : decode cX6_digest 73 = .ok (.iload_n 3, 1) := by decide +kernel
theorem dX6_digest_74 : decode cX6_digest 74 = .ok (.iaload, 1) := by decide +kernel
theorem dX6_digest_75 : decode cX6_digest 75 = .ok (.invokevirtual 172, 3) := by decide +kernel
theorem dX6_digest_78 : decode cX6_digest 78 = .ok (.lload_n 1, 1) := by decide +kernel
theorem dX6_digest_79 : decode cX6_digest 79 = .ok (.ldc2_w 180, 3) := by decide +kernel
theorem dX6_digest_82 : decode cX6_digest 82 = .ok (.lmul, 1) := by decide +kernel
theorem dX6_digest_83 : decode cX6_digest 83 = .ok (.aload_n 0, 1) := by decide +kernel
theorem dX6_digest_84 : decode cX6_digest 84 = .ok (.getfield 17, 3) := by decide +kernel
theorem dX6_digest_87 : decode cX6_digest 87 = .ok (.iload_n 3, 1) := by decide +kernel
theorem dX6_digest_88 : decode cX6_digest 88 = .ok (.iaload, 1) := by decide +kernel
theorem dX6_digest_89 : decode cX6_digest 89 = .ok (.i2l, 1) := by decide +kernel
theorem dX6_digest_90 : decode cX6_digest 90 = .ok (.ladd, 1) := by decide +kernel
theorem dX6_digest_91 : decode cX6_digest 91 = .ok (.ldc2_w 180, 3) := by decide +kernel
theorem dX6_digest_94 : decode cX6_digest 94 = .ok (.lmul, 1) := by decide +kernel
theorem dX6_digest_95 : decode cX6_digest 95 = .ok (.aload_n 0, 1) := by decide +kernel
theorem dX6_digest_96 : decode cX6_digest 96 = .ok (.getfield 155, 3) := by decide +kernel
theorem dX6_digest_99 : decode cX6_digest 99 = .ok (.i2l, 1) := by decide +kernel
theorem dX6_digest_100 : decode cX6_digest 100 = .ok (.ladd, 1) := by decide +kernel
theorem dX6_digest_101 : decode cX6_digest 101 = .ok (.lstore_n 1, 1) := by decide +kernel
theorem dX6_digest_102 : decode cX6_digest 102 = .ok (.iconst 0, 1) := by decide +kernel
theorem dX6_digest_103 : decode cX6_digest 103 = .ok (.istore 4, 2) := by decide +kernel
theorem dX6_digest_105 : decode cX6_digest 105 = .ok (.iload 4, 2) := by decide +kernel
theorem dX6_digest_107 : decode cX6_digest 107 = .ok (.aload_n 0, 1) := by decide +kernel
theorem dX6_digest_108 : decode cX6_digest 108 = .ok (.getfield 155, 3) := by decide +kernel
theorem dX6_digest_111 : decode cX6_digest 111 = .ok (.if_icmp .ge 24, 3) := by decide +kernel
theorem dX6_digest_114 : decode cX6_digest 114 = .ok (.lload_n 1, 1) := by decide +kernel
theorem dX6_digest_115 : decode cX6_digest 115 = .ok (.ldc2_w 180, 3) := by decide +kernel
theorem dX6_digest_118 : decode cX6_digest 118 = .ok (.lmul, 1) := by decide +kernel
theorem dX6_digest_119 : decode cX6_digest 119 = .ok (.aload_n 0, 1) := by decide +kernel
theorem dX6_digest_120 : decode cX6_digest 120 = .ok (.getfield 35, 3) := by decide +kernel
theorem dX6_digest_123 : decode cX6_digest 123 = .ok (.iload 4, 2) := by decide +kernel
theorem dX6_digest_125 : decode cX6_digest 125 = .ok (.iaload, 1) := by decide +kernel
theorem dX6_digest_126 : decode cX6_digest 126 = .ok (.i2l, 1) := by decide +kernel
theorem dX6_digest_127 : decode cX6_digest 127 = .ok (.ladd, 1) := by decide +kernel
theorem dX6_digest_128 : decode cX6_digest 128 = .ok (.lstore_n 1, 1) := by decide +kernel
theorem dX6_digest_129 : decode cX6_digest 129 = .ok (.iinc 4 1, 3) := by decide +kernel
theorem dX6_digest_132 : decode cX6_digest 132 = .ok (.goto (-27), 3) := by decide +kernel
theorem dX6_digest_135 : decode cX6_digest 135 = .ok (.iinc 3 1, 3) := by decide +kernel
theorem dX6_digest_138 : decode cX6_digest 138 = .ok (.goto (-91), 3) := by decide +kernel
theorem dX6_digest_141 : decode cX6_digest 141 = .ok (.lload_n 1, 1) := by decide +kernel
theorem dX6_digest_142 : decode cX6_digest 142 = .ok (.lreturn, 1) := by decide +kernel
theorem dJ9_max_7cf53_0 : decode cJ9_max_7cf53 0 = .ok (.iload_n 0, 1) := by decide +kernel
theorem dJ9_max_7cf53_1 : decode cJ9_max_7cf53 1 = .ok (.iload_n 1, 1) := by decide +kernel
theorem dJ9_max_7cf53_2 : decode cJ9_max_7cf53 2 = .ok (.if_icmp .lt 7, 3) := by decide +kernel
theorem dJ9_max_7cf53_5 : decode cJ9_max_7cf53 5 = .ok (.iload_n 0, 1) := by decide +kernel
theorem dJ9_max_7cf53_6 : decode cJ9_max_7cf53 6 = .ok (.goto 4, 3) := by decide +kernel
theorem dJ9_max_7cf53_9 : decode cJ9_max_7cf53 9 = .ok (.iload_n 1, 1) := by decide +kernel
theorem dJ9_max_7cf53_10 : decode cJ9_max_7cf53 10 = .ok (.ireturn, 1) := by decide +kernel
theorem dJ9_min_7cf53_0 : decode cJ9_min_7cf53 0 = .ok (.iload_n 0, 1) := by decide +kernel
theorem dJ9_min_7cf53_1 : decode cJ9_min_7cf53 1 = .ok (.iload_n 1, 1) := by decide +kernel
theorem dJ9_min_7cf53_2 : decode cJ9_min_7cf53 2 = .ok (.if_icmp .gt 7, 3) := by decide +kernel
theorem dJ9_min_7cf53_5 : decode cJ9_min_7cf53 5 = .ok (.iload_n 0, 1) := by decide +kernel
theorem dJ9_min_7cf53_6 : decode cJ9_min_7cf53 6 = .ok (.goto 4, 3) := by decide +kernel
theorem dJ9_min_7cf53_9 : decode cJ9_min_7cf53 9 = .ok (.iload_n 1, 1) := by decide +kernel
theorem dJ9_min_7cf53_10 : decode cJ9_min_7cf53 10 = .ok (.ireturn, 1) := by decide +kernel
