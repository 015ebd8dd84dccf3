theorem dX0_init_0 : decode cX0_init 0 = .ok (.aload_n 0, 1) := by decide +kernel
theorem dX0_init_1 : decode cX0_init 1 = .ok (.invokespecial 3, 3) := by decide +kernel
theorem dX0_init_4 : decode cX0_init 4 = .ok (.aload_n 0, 1) := by decide +kernel
theorem dX0_init_5 : decode cX0_init 5 = .ok (.sipush 3072, 3) := by decide +kernel
theorem dX0_init_8 : decode cX0_init 8 = .ok (.newarray .int, 2) := by decide +kernel
theorem dX0_init_10 : decode cX0_init 10 = .ok (.putfield 9, 3) := by decide +kernel
theorem dX0_init_13 : decode cX0_init 13 = .ok (.aload_n 0, 1) := by decide +kernel
theorem dX0_init_14 : decode cX0_init 14 = .ok (.iconst 0, 1) := by decide +kernel
theorem dX0_init_15 : decode cX0_init 15 = .ok (.putfield 15, 3) := by decide +kernel
theorem dX0_init_18 : decode cX0_init 18 = .ok (.return_, 1) := by decide +kernel
theorem dX0_moveTo_0 : decode cX0_moveTo 0 = .ok (.aload_n 0, 1) := by decide +kernel
theorem dX0_moveTo_1 : decode cX0_moveTo 1 = .ok (.iload_n 1, 1) := by decide +kernel
theorem dX0_moveTo_2 : decode cX0_moveTo 2 = .ok (.putfield 15, 3) := by decide +kernel
theorem dX0_moveTo_5 : decode cX0_moveTo 5 = .ok (.return_, 1) := by decide +kernel
theorem dX0_bitAt_0 : decode cX0_bitAt 0 = .ok (.iload_n 1, 1) := by decide +kernel
theorem dX0_bitAt_1 : decode cX0_bitAt 1 = .ok (.ifCond .lt 21, 3) := by decide +kernel
theorem dX0_bitAt_4 : decode cX0_bitAt 4 = .ok (.iload_n 1, 1) := by decide +kernel
theorem dX0_bitAt_5 : decode cX0_bitAt 5 = .ok (.aload_n 0, 1) := by decide +kernel
theorem dX0_bitAt_6 : decode cX0_bitAt 6 = .ok (.getfield 9, 3) := by decide +kernel
theorem dX0_bitAt_9 : decode cX0_bitAt 9 = .ok (.arraylength, 1) := by decide +kernel
theorem dX0_bitAt_10 : decode cX0_bitAt 10 = .ok (.if_icmp .ge 12, 3) := by decide +kernel
theorem dX0_bitAt_13 : decode cX0_bitAt 13 = .ok (.aload_n 0, 1) := by decide +kernel
theorem dX0_bitAt_14 : decode cX0_bitAt 14 = .ok (.getfield 9, 3) := by decide +kernel
theorem dX0_bitAt_17 : decode cX0_bitAt 17 = .ok (.iload_n 1, 1) := by decide +kernel
theorem dX0_bitAt_18 : decode cX0_bitAt 18 = .ok (.iaload, 1) := by decide +kernel
theorem dX0_bitAt_19 : decode cX0_bitAt 19 = .ok (.goto 4, 3) := by decide +kernel
theorem dX0_bitAt_22 : decode cX0_bitAt 22 = .ok (.iconst 0, 1) := by decide +kernel
theorem dX0_bitAt_23 : decode cX0_bitAt 23 = .ok (.ireturn, 1) := by decide +kernel
theorem dX0_write_0 : decode cX0_write 0 = .ok (.iload_n 2, 1) := by decide +kernel
theorem dX0_write_1 : decode cX0_write 1 = .ok (.iconst 1, 1) := by decide +kernel
theorem dX0_write_2 : decode cX0_write 2 = .ok (.isub, 1) := by decide +kernel
theorem dX0_write_3 : decode cX0_write 3 = .ok (.istore_n 3, 1) := by decide +kernel
theorem dX0_write_4 : decode cX0_write 4 = .ok (.iload_n 3, 1) := by decide +kernel
theorem dX0_write_5 : decode cX0_write 5 = .ok (.ifCond .lt 52, 3) := by decide +kernel
theorem dX0_write_8 : decode cX0_write 8 = .ok (.aload_n 0, 1) := by decide +kernel
theorem dX0_write_9 : decode cX0_write 9 = .ok (.getfield 15, 3) := by decide +kernel
theorem dX0_write_12 : decode cX0_write 12 = .ok (.ifCond .lt 29, 3) := by decide +kernel
theorem dX0_write_15 : decode cX0_write 15 = .ok (.aload_n 0, 1) := by decide +kernel
theorem dX0_write_16 : decode cX0_write 16 = .ok (.getfield 15, 3) := by decide +kernel
theorem dX0_write_19 : decode cX0_write 19 = .ok (.aload_n 0, 1) := by decide +kernel
theorem dX0_write_20 : decode cX0_write 20 = .ok (.getfield 9, 3) := by decide +kernel
theorem dX0_write_23 : decode cX0_write 23 = .ok (.arraylength, 1) := by decide +kernel
theorem dX0_write_24 : decode cX0_write 24 = .ok (.if_icmp .ge 17, 3) := by decide +kernel
theorem dX0_write_27 : decode cX0_write 27 = .ok (.aload_n 0, 1) := by decide +kernel
theorem dX0_write_28 : decode cX0_write 28 = .ok (.getfield 9, 3) := by decide +kernel
theorem dX0_write_31 : decode cX0_write 31 = .ok (.aload_n 0, 1) := by decide +kernel
theorem dX0_write_32 : decode cX0_write 32 = .ok (.getfield 15, 3) := by decide +kernel
theorem dX0_write_35 : decode cX0_write 35 = .ok (.iload_n 1, 1) := by decide +kernel
theorem dX0_write_36 : decode cX0_write 36 = .ok (.iload_n 3, 1) := by decide +kernel
theorem dX0_write_37 : decode cX0_write 37 = .ok (.ishr, 1) := by decide +kernel
theorem dX0_write_38 : decode cX0_write 38 = .ok (.iconst 1, 1) := by decide +kernel
theorem dX0_write_39 : decode cX0_write 39 = .ok (.iand, 1) := by decide +kernel
theorem dX0_write_40 : decode cX0_write 40 = .ok (.iastore, 1) := by decide +kernel
theorem dX0_write_41 : decode cX0_write 41 = .ok (.aload_n 0, 1) := by decide +kernel
theorem dX0_write_42 : decode cX0_write 42 = .ok (.dup, 1) := by decide +kernel
theorem dX0_write_43 : decode cX0_write 43 = .ok (.getfield 15, 3) := by decide +kernel
theorem dX0_write_46 : decode cX0_write 46 = .ok (.iconst 1, 1) := by decide +kernel
theorem dX0_write_47 : decode cX0_write 47 = .ok (.iadd, 1) := by decide +kernel
theorem dX0_write_48 : decode cX0_write 48 = .ok (.putfield 15, 3) := by decide +kernel
theorem dX0_write_51 : decode cX0_write 51 = .ok (.iinc 3 (-1), 3) := by decide +kernel
theorem dX0_write_54 : decode cX0_write 54 = .ok (.goto (-50), 3) := by decide +kernel
theorem dX0_write_57 : decode cX0_write 57 = .ok (.return_, 1) := by decide +kernel
theorem dX0_read_0 : decode cX0_read 0 = .ok (.iconst 0, 1) := by decide +kernel
theorem dX0_read_1 : decode cX0_read 1 = .ok (.istore_n 2, 1) := by decide +kernel
theorem dX0_read_2 : decode cX0_read 2 = .ok (.iconst 0, 1) := by decide +kernel
theorem dX0_read_3 : decode cX0_read 3 = .ok (.istore_n 3, 1) := by decide +kernel
theorem dX0_read_4 : decode cX0_read 4 = .ok (.iload_n 3, 1) := by decide +kernel
theorem dX0_read_5 : decode cX0_read 5 = .ok (.iload_n 1, 1) := by decide +kernel
theorem dX0_read_6 : decode cX0_read 6 = .ok (.if_icmp .ge 60, 3) := by decide +kernel
theorem dX0_read_9 : decode cX0_read 9 = .ok (.aload_n 0, 1) := by decide +kernel
theorem dX0_read_10 : decode cX0_read 10 = .ok (.getfield 15, 3) := by decide +kernel
theorem dX0_read_13 : decode cX0_read 13 = .ok (.ifCond .lt 27, 3) := by decide +kernel
theorem dX0_read_16 : decode cX0_read 16 = .ok (.aload_n 0, 1) := by decide +kernel
theorem dX0_read_17 : decode cX0_read 17 = .ok (.getfield 15, 3) := by decide +kernel
theorem dX0_read_20 : decode cX0_read 20 = .ok (.aload_n 0, 1) := by decide +kernel
theorem dX0_read_21 : decode cX0_read 21 = .ok (.getfield 9, 3) := by decide +kernel
theorem dX0_read_24 : decode cX0_read 24 = .ok (.arraylength, 1) := by decide +kernel
theorem dX0_read_25 : decode cX0_read 25 = .ok (.if_icmp .ge 15, 3) := by decide +kernel
theorem dX0_read_28 : decode cX0_read 28 = .ok (.aload_n 0, 1) := by decide +kernel
theorem dX0_read_29 : decode cX0_read 29 = .ok (.getfield 9, 3) := by decide +kernel
theorem dX0_read_32 : decode cX0_read 32 = .ok (.aload_n 0, 1) := by decide +kernel
theorem dX0_read_33 : decode cX0_read 33 = .ok (.getfield 15, 3) := by decide +kernel
theorem dX0_read_36 : decode cX0_read 36 = .ok (.iaload, 1) := by decide +kernel
theorem dX0_read_37 : decode cX0_read 37 = .ok (.goto 4, 3) := by decide +kernel
theorem dX0_read_40 : decode cX0_read 40 = .ok (.iconst 0, 1) := by decide +kernel
theorem dX0_read_41 : decode cX0_read 41 = .ok (.istore 4, 2) := by decide +kernel
theorem dX0_read_43 : decode cX0_read 43 = .ok (.iload_n 2, 1) := by decide +kernel
theorem dX0_read_44 : decode cX0_read 44 = .ok (.iconst 2, 1) := by decide +kernel
theorem dX0_read_45 : decode cX0_read 45 = .ok (.imul, 1) := by decide +kernel
theorem dX0_read_46 : decode cX0_read 46 = .ok (.iload 4, 2) := by decide +kernel
theorem dX0_read_48 : decode cX0_read 48 = .ok (.iadd, 1) := by decide +kernel
theorem dX0_read_49 : decode cX0_read 49 = .ok (.istore_n 2, 1) := by decide +kernel
theorem dX0_read_50 : decode cX0_read 50 = .ok (.aload_n 0, 1) := by decide +kernel
theorem dX0_read_51 : decode cX0_read 51 = .ok (.dup, 1) := by decide +kernel
theorem dX0_read_52 : decode cX0_read 52 = .ok (.getfield 15, 3) := by decide +kernel
theorem dX0_read_55 : decode cX0_read 55 = .ok (.iconst 1, 1) := by decide +kernel
theorem dX0_read_56 : decode cX0_read 56 = .ok (.iadd, 1) := by decide +kernel
theorem dX0_read_57 : decode cX0_read 57 = .ok (.putfield 15, 3) := by decide +kernel
theorem dX0_read_60 : decode cX0_read 60 = .ok (.iinc 3 1, 3) := by decide +kernel
theorem dX0_read_63 : decode cX0_read 63 = .ok (.goto (-59), 3) := by decide +kernel
theorem dX0_read_66 : decode cX0_read 66 = .ok (.iload_n 2, 1) := by decide +kernel
theorem dX0_read_67 : decode cX0_read 67 = .ok (.ireturn, 1) := by decide +kernel
set_option maxRecDepth 20000 in
theorem ggX1_init_X3_init : GoodIn wsX1_init wsX3_init := goodIn_r _ [13, 14, 2, 3, 15, 16, 21] (by decide +kernel) (by decide +kernel)
set_option maxRecDepth 20000 in
theorem gX1_init_X3_init : GoodIn wsX1_init (wsX3_init) := ggX1_init_X3_init
theorem dX1_init_0 : decode cX1_init 0 = .ok (.aload_n 0, 1) := by decide +kernel
theorem dX1_init_1 : decode cX1_init 1 = .ok (.invokespecial 3, 3) := by decide +kernel
theorem dX1_init_4 : decode cX1_init 4 = .ok (.aload_n 0, 1) := by decide +kernel
theorem dX1_init_5 : decode cX1_init 5 = .ok (.aload_n 1, 1) := by decide +kernel
theorem dX1_init_6 : decode cX1_init 6 = .ok (.putfield 9, 3) := by decide +kernel
theorem dX1_init_9 : decode cX1_init 9 = .ok (.aload_n 0, 1) := by decide +kernel
theorem dX1_init_10 : decode cX1_init 10 = .ok (.aload_n 2, 1) := by decide +kernel
theorem dX1_init_11 : decode cX1_init 11 = .ok (.putfield 15, 3) := by decide +kernel
theorem dX1_init_14 : decode cX1_init 14 = .ok (.aload_n 0, 1) := by decide +kernel
theorem dX1_init_15 : decode cX1_init 15 = .ok (.aload_n 3, 1) := by decide +kernel
theorem dX1_init_16 : decode cX1_init 16 = .ok (.putfield 19, 3) := by decide +kernel
theorem dX1_init_19 : decode cX1_init 19 = .ok (.aload_n 0, 1) := by decide +kernel
theorem dX1_init_20 : decode cX1_init 20 = .ok (.new 23, 3) := by decide +kernel
theorem dX1_init_23 : decode cX1_init 23 = .ok (.dup, 1) := by decide +kernel
theorem dX1_init_24 : decode cX1_init 24 = .ok (.bipush 32, 2) := by decide +kernel
theorem dX1_init_26 : decode cX1_init 26 = .ok (.invokespecial 25, 3) := by decide +kernel
theorem dX1_init_29 : decode cX1_init 29 = .ok (.putfield 28, 3) := by decide +kernel
theorem dX1_init_32 : decode cX1_init 32 = .ok (.return_, 1) := by decide +kernel
set_option maxRecDepth 20000 in
theorem ggX1_pack_X1_packPlain : GoodIn wsX1_pack wsX1_packPlain := goodIn_r _ [6, 1, 7, 8, 9, 10, 11, 12, 13, 14, 15, 5, 16, 17, 18, 19, 20, 21, 22, 23, 24, 25, 86, 87, 88, 89, 90, 91, 92] (by decide +kernel) (by decide +kernel)
set_option maxRecDepth 20000 in
theorem gX1_pack_X1_packPlain : GoodIn wsX1_pack (wsV RX1 31 RX1 yX1_packPlain wsX1_packPlain) := goodIn_app (goodIn_of _ (by decide +kernel)) ggX1_pack_X1_packPlain
set_option maxRecDepth 20000 in
theorem ggX1_pack_X3_get : GoodIn wsX1_pack wsX3_get := goodIn_r _ [11, 12, 90] (by decide +kernel) (by decide +kernel)
set_option maxRecDepth 20000 in
theorem gX1_pack_X3_get : GoodIn wsX1_pack (wsV RX1 35 RX3 yX3_get wsX3_get) := goodIn_app (goodIn_of _ (by decide +kernel)) ggX1_pack_X3_get
set_option maxRecDepth 20000 in
theorem ggX1_pack_X1_writeValue : GoodIn wsX1_pack wsX1_writeValue := goodIn_r _ [16, 17, 18, 19, 20, 21, 22, 23, 24, 25, 86, 87, 88, 89, 91, 92] (by decide +kernel) (by decide +kernel)
set_option maxRecDepth 20000 in
theorem gX1_pack_X1_writeValue : GoodIn wsX1_pack (wsV RX1 39 RX1 yX1_writeValue wsX1_writeValue) := goodIn_app (goodIn_of _ (by decide +kernel)) ggX1_pack_X1_writeValue
set_option maxRecDepth 20000 in
theorem ggX1_pack_X1_packRuns : GoodIn wsX1_pack wsX1_packRuns := goodIn_r _ [29, 1, 17, 7, 8, 9, 10, 11, 12, 13, 14, 15, 5, 16, 18, 19, 20, 21, 22, 23, 24, 25, 86, 87, 88, 89, 90, 91, 92] (by decide +kernel) (by decide +kernel)
set_option maxRecDepth 20000 in
theorem gX1_pack_X1_packRuns : GoodIn wsX1_pack (wsV RX1 42 RX1 yX1_packRuns wsX1_packRuns) := goodIn_app (goodIn_of _ (by decide +kernel)) ggX1_pack_X1_packRuns
set_option maxRecDepth 20000 in
theorem ggX1_pack_X1_packDictionary : GoodIn wsX1_pack wsX1_packDictionary := goodIn_r _ [33, 34, 17, 1, 35, 36, 37, 38, 39, 40, 19, 20, 21, 22, 23, 24, 25, 41, 42, 43, 44, 45, 46, 8, 9, 10, 11, 12, 13, 14, 15, 5, 16, 18, 7, 47, 48, 49, 50, 51, 52, 53, 54, 55, 56, 57, 58, 59, 86, 87, 88, 89, 93, 94, 95, 96, 97, 98, 99, 100, 101, 102, 103, 91, 92, 90] (by decide +kernel) (by decide +kernel)
set_option maxRecDepth 20000 in
theorem gX1_pack_X1_packDictionary : GoodIn wsX1_pack (wsV RX1 45 RX1 yX1_packDictionary wsX1_packDictionary) := goodIn_app (goodIn_of _ (by decide +kernel)) ggX1_pack_X1_packDictionary
set_option maxRecDepth 20000 in
theorem ggX1_pack_X1_packFrame : GoodIn wsX1_pack wsX1_packFrame := goodIn_r _ [63, 34, 17, 1, 64, 65, 66, 38, 67, 68, 69, 70, 71, 72, 73, 13, 14, 15, 5, 16, 18, 19, 20, 21, 22, 23, 24, 25, 7, 8, 9, 10, 11, 12, 86, 87, 88, 89, 93, 94, 95, 96, 97, 98, 99, 100, 101, 102, 103, 91, 92, 90] (by decide +kernel) (by decide +kernel)
set_option maxRecDepth 20000 in
theorem gX1_pack_X1_packFrame : GoodIn wsX1_pack (wsV RX1 48 RX1 yX1_packFrame wsX1_packFrame) := goodIn_app (goodIn_of _ (by decide +kernel)) ggX1_pack_X1_packFrame
set_option maxRecDepth 20000 in
theorem ggX1_pack_X1_packDelta : GoodIn wsX1_pack wsX1_packDelta := goodIn_r _ [77, 1, 34, 17, 7, 8, 9, 10, 11, 12, 78, 79, 80, 38, 81, 82, 13, 14, 15, 5, 16, 18, 19, 20, 21, 22, 23, 24, 25, 83, 84, 85, 86, 87, 88, 89, 90, 93, 94, 95, 96, 97, 98, 99, 100, 101, 102, 103, 91, 92] (by decide +kernel) (by decide +kernel)
set_option maxRecDepth 20000 in
theorem gX1_pack_X1_packDelta : GoodIn wsX1_pack (wsV RX1 51 RX1 yX1_packDelta wsX1_packDelta) := goodIn_app (goodIn_of _ (by decide +kernel)) ggX1_pack_X1_packDelta
theorem dX1_pack_0 : decode cX1_pack 0 = .ok (.iload_n 1, 1) := by decide +kernel
theorem dX1_pack_1 : decode cX1_pack 1 = .ok (.tableswitch 86 0 4 #[35, 44, 59, 68, 77], 35) := by decide +kernel
theorem dX1_pack_36 : decode cX1_pack 36 = .ok (.aload_n 0, 1) := by decide +kernel
theorem dX1_pack_37 : decode cX1_pack 37 = .ok (.iload_n 2, 1) := by decide +kernel
theorem dX1_pack_38 : decode cX1_pack 38 = .ok (.iload_n 3, 1) := by decide +kernel
theorem dX1_pack_39 : decode cX1_pack 39 = .ok (.invokevirtual 31, 3) := by decide +kernel
theorem dX1_pack_42 : decode cX1_pack 42 = .ok (.goto 51, 3) := by decide +kernel
theorem dX1_pack_45 : decode cX1_pack 45 = .ok (.aload_n 0, 1) := by decide +kernel
theorem dX1_pack_46 : decode cX1_pack 46 = .ok (.aload_n 0, 1) := by decide +kernel
theorem dX1_pack_47 : decode cX1_pack 47 = .ok (.getfield 9, 3) := by decide +kernel
theorem dX1_pack_50 : decode cX1_pack 50 = .ok (.iload_n 2, 1) := by decide +kernel
theorem dX1_pack_51 : decode cX1_pack 51 = .ok (.invokevirtual 35, 3) := by decide +kernel
theorem dX1_pack_54 : decode cX1_pack 54 = .ok (.invokevirtual 39, 3) := by decide +kernel
theorem dX1_pack_57 : decode cX1_pack 57 = .ok (.goto 36, 3) := by decide +kernel
theorem dX1_pack_60 : decode cX1_pack 60 = .ok (.aload_n 0, 1) := by decide +kernel
theorem dX1_pack_61 : decode cX1_pack 61 = .ok (.iload_n 2, 1) := by decide +kernel
theorem dX1_pack_62 : decode cX1_pack 62 = .ok (.iload_n 3, 1) := by decide +kernel
theorem dX1_pack_63 : decode cX1_pack 63 = .ok (.invokevirtual 42, 3) := by decide +kernel
theorem dX1_pack_66 : decode cX1_pack 66 = .ok (.goto 27, 3) := by decide +kernel
theorem dX1_pack_69 : decode cX1_pack 69 = .ok (.aload_n 0, 1) := by decide +kernel
theorem dX1_pack_70 : decode cX1_pack 70 = .ok (.iload_n 2, 1) := by decide +kernel
theorem dX1_pack_71 : decode cX1_pack 71 = .ok (.iload_n 3, 1) := by decide +kernel
theorem dX1_pack_72 : decode cX1_pack 72 = .ok (.invokevirtual 45, 3) := by decide +kernel
theorem dX1_pack_75 : decode cX1_pack 75 = .ok (.goto 18, 3) := by decide +kernel
theorem dX1_pack_78 : decode cX1_pack 78 = .ok (.aload_n 0, 1) := by decide +kernel
theorem dX1_pack_79 : decode cX1_pack 79 = .ok (.iload_n 2, 1) := by decide +kernel
theorem dX1_pack_80 : decode cX1_pack 80 = .ok (.iload_n 3, 1) := by decide +kernel
theorem dX1_pack_81 : decode cX1_pack 81 = .ok (.invokevirtual 48, 3) := by decide +kernel
theorem dX1_pack_84 : decode cX1_pack 84 = .ok (.goto 9, 3) := by decide +kernel
theorem dX1_pack_87 : decode cX1_pack 87 = .ok (.aload_n 0, 1) := by decide +kernel
theorem dX1_pack_88 : decode cX1_pack 88 = .ok (.iload_n 2, 1) := by decide +kernel
theorem dX1_pack_89 : decode cX1_pack 89 = .ok (.iload_n 3, 1) := by decide +kernel
theorem dX1_pack_90 : decode cX1_pack 90 = .ok (.invokevirtual 51, 3) := by decide +kernel
theorem dX1_pack_93 : decode cX1_pack 93 = .ok (.return_, 1) := by decide +kernel
set_option maxRecDepth 20000 in
theorem ggX1_packPlain_X3_get : GoodIn wsX1_packPlain wsX3_get := goodIn_r _ [6, 7, 26] (by decide +kernel) (by decide +kernel)
set_option maxRecDepth 20000 in
theorem gX1_packPlain_X3_get : GoodIn wsX1_packPlain (wsV RX1 35 RX3 yX3_get wsX3_get) := goodIn_app (goodIn_of _ (by decide +kernel)) ggX1_packPlain_X3_get
set_option maxRecDepth 20000 in
theorem ggX1_packPlain_X1_writeValue : GoodIn wsX1_packPlain wsX1_writeValue := goodIn_r _ [12, 13, 14, 15, 16, 17, 18, 19, 20, 21, 22, 23, 24, 25, 27, 28] (by decide +kernel) (by decide +kernel)
set_option maxRecDepth 20000 in
theorem gX1_packPlain_X1_writeValue : GoodIn wsX1_packPlain (wsV RX1 39 RX1 yX1_writeValue wsX1_writeValue) := goodIn_app (goodIn_of _ (by decide +kernel)) ggX1_packPlain_X1_writeValue
theorem dX1_packPlain_0 : decode cX1_packPlain 0 = .ok (.iconst 0, 1) := by decide +kernel
theorem dX1_packPlain_1 : decode cX1_packPlain 1 = .ok (.istore_n 3, 1) := by decide +kernel
theorem dX1_packPlain_2 : decode cX1_packPlain 2 = .ok (.iload_n 3, 1) := by decide +kernel
theorem dX1_packPlain_3 : decode cX1_packPlain 3 = .ok (.iload_n 2, 1) := by decide +kernel
theorem dX1_packPlain_4 : decode cX1_packPlain 4 = .ok (.if_icmp .ge 23, 3) := by decide +kernel
theorem dX1_packPlain_7 : decode cX1_packPlain 7 = .ok (.aload_n 0, 1) := by decide +kernel
theorem dX1_packPlain_8 : decode cX1_packPlain 8 = .ok (.aload_n 0, 1) := by decide +kernel
theorem dX1_packPlain_9 : decode cX1_packPlain 9 = .ok (.getfield 9, 3) := by decide +kernel
theorem dX1_packPlain_12 : decode cX1_packPlain 12 = .ok (.iload_n 1, 1) := by decide +kernel
theorem dX1_packPlain_13 : decode cX1_packPlain 13 = .ok (.iload_n 3, 1) := by decide +kernel
theorem dX1_packPlain_14 : decode cX1_packPlain 14 = .ok (.iadd, 1) := by decide +kernel
theorem dX1_packPlain_15 : decode cX1_packPlain 15 = .ok (.invokevirtual 35, 3) := by decide +kernel
theorem dX1_packPlain_18 : decode cX1_packPlain 18 = .ok (.invokevirtual 39, 3) := by decide +kernel
theorem dX1_packPlain_21 : decode cX1_packPlain 21 = .ok (.iinc 3 1, 3) := by decide +kernel
theorem dX1_packPlain_24 : decode cX1_packPlain 24 = .ok (.goto (-22), 3) := by decide +kernel
theorem dX1_packPlain_27 : decode cX1_packPlain 27 = .ok (.return_, 1) := by decide +kernel
set_option maxRecDepth 20000 in
theorem ggX1_packRuns_X3_get : GoodIn wsX1_packRuns wsX3_get := goodIn_r _ [7, 8, 26] (by decide +kernel) (by decide +kernel)
set_option maxRecDepth 20000 in
theorem gX1_packRuns_X3_get : GoodIn wsX1_packRuns (wsV RX1 35 RX3 yX3_get wsX3_get) := goodIn_app (goodIn_of _ (by decide +kernel)) ggX1_packRuns_X3_get
set_option maxRecDepth 20000 in
theorem ggX1_packRuns_X1_writeValue : GoodIn wsX1_packRuns wsX1_writeValue := goodIn_r _ [13, 2, 14, 15, 16, 17, 18, 19, 20, 21, 22, 23, 24, 25, 27, 28] (by decide +kernel) (by decide +kernel)
set_option maxRecDepth 20000 in
theorem gX1_packRuns_X1_writeValue : GoodIn wsX1_packRuns (wsV RX1 39 RX1 yX1_writeValue wsX1_writeValue) := goodIn_app (goodIn_of _ (by decide +kernel)) ggX1_packRuns_X1_writeValue
set_option maxRecDepth 20000 in
theorem ggX1_packRuns_X0_write : GoodIn wsX1_packRuns wsX0_write := goodIn_r _ [19, 20, 21, 27, 28] (by decide +kernel) (by decide +kernel)
set_option maxRecDepth 20000 in
theorem gX1_packRuns_X0_write : GoodIn wsX1_packRuns (wsV RX1 54 RX0 yX0_write wsX0_write) := goodIn_app (goodIn_of _ (by decide +kernel)) ggX1_packRuns_X0_write
theorem dX1_packRuns_0 : decode cX1_packRuns 0 = .ok (.iconst 0, 1) := by decide +kernel
theorem dX1_packRuns_1 : decode cX1_packRuns 1 = .ok (.istore_n 3, 1) := by decide +kernel
theorem dX1_packRuns_2 : decode cX1_packRuns 2 = .ok (.iconst 0, 1) := by decide +kernel
theorem dX1_packRuns_3 : decode cX1_packRuns 3 = .ok (.istore 4, 2) := by decide +kernel
theorem dX1_packRuns_5 : decode cX1_packRuns 5 = .ok (.iload 4, 2) := by decide +kernel
theorem dX1_packRuns_7 : decode cX1_packRuns 7 = .ok (.iload_n 2, 1) := by decide +kernel
theorem dX1_packRuns_8 : decode cX1_packRuns 8 = .ok (.if_icmp .ge 69, 3) := by decide +kernel
theorem dX1_packRuns_11 : decode cX1_packRuns 11 = .ok (.aload_n 0, 1) := by decide +kernel
theorem dX1_packRuns_12 : decode cX1_packRuns 12 = .ok (.getfield 9, 3) := by decide +kernel
theorem dX1_packRuns_15 : decode cX1_packRuns 15 = .ok (.iload_n 1, 1) := by decide +kernel
theorem dX1_packRuns_16 : decode cX1_packRuns 16 = .ok (.iload 4, 2) := by decide +kernel
theorem dX1_packRuns_18 : decode cX1_packRuns 18 = .ok (.iadd, 1) := by decide +kernel
theorem dX1_packRuns_19 : decode cX1_packRuns 19 = .ok (.invokevirtual 35, 3) := by decide +kernel
theorem dX1_packRuns_22 : decode cX1_packRuns 22 = .ok (.istore 5, 2) := by decide +kernel
theorem dX1_packRuns_24 : decode cX1_packRuns 24 = .ok (.iinc 3 1, 3) := by decide +kernel
theorem dX1_packRuns_27 : decode cX1_packRuns 27 = .ok (.iload 4, 2) := by decide +kernel
theorem dX1_packRuns_29 : decode cX1_packRuns 29 = .ok (.iconst 1, 1) := by decide +kernel
theorem dX1_packRuns_30 : decode cX1_packRuns 30 = .ok (.iadd, 1) := by decide +kernel
theorem dX1_packRuns_31 : decode cX1_packRuns 31 = .ok (.iload_n 2, 1) := by decide +kernel
theorem dX1_packRuns_32 : decode cX1_packRuns 32 = .ok (.if_icmp .eq 21, 3) := by decide +kernel
theorem dX1_packRuns_35 : decode cX1_packRuns 35 = .ok (.aload_n 0, 1) := by decide +kernel
theorem dX1_packRuns_36 : decode cX1_packRuns 36 = .ok (.getfield 9, 3) := by decide +kernel
theorem dX1_packRuns_39 : decode cX1_packRuns 39 = .ok (.iload_n 1, 1) := by decide +kernel
theorem dX1_packRuns_40 : decode cX1_packRuns 40 = .ok (.iload 4, 2) := by decide +kernel
theorem dX1_packRuns_42 : decode cX1_packRuns 42 = .ok (.iadd, 1) := by decide +kernel
theorem dX1_packRuns_43 : decode cX1_packRuns 43 = .ok (.iconst 1, 1) := by decide +kernel
theorem dX1_packRuns_44 : decode cX1_packRuns 44 = .ok (.iadd, 1) := by decide +kernel
theorem dX1_packRuns_45 : decode cX1_packRuns 45 = .ok (.invokevirtual 35, 3) := by decide +kernel
theorem dX1_packRuns_48 : decode cX1_packRuns 48 = .ok (.iload 5, 2) := by decide +kernel
theorem dX1_packRuns_50 : decode cX1_packRuns 50 = .ok (.if_icmp .eq 21, 3) := by decide +kernel
theorem dX1_packRuns_53 : decode cX1_packRuns 53 = .ok (.aload_n 0, 1) := by decide +kernel
theorem dX1_packRuns_54 : decode cX1_packRuns 54 = .ok (.iload 5, 2) := by decide +kernel
theorem dX1_packRuns_56 : decode cX1_packRuns 56 = .ok (.invokevirtual 39, 3) := by decide +kernel
theorem dX1_packRuns_59 : decode cX1_packRuns 59 = .ok (.aload_n 0, 1) := by decide +kernel
theorem dX1_packRuns_60 : decode cX1_packRuns 60 = .ok (.getfield 19, 3) := by decide +kernel
theorem dX1_packRuns_63 : decode cX1_packRuns 63 = .ok (.iload_n 3, 1) := by decide +kernel
theorem dX1_packRuns_64 : decode cX1_packRuns 64 = .ok (.bipush 6, 2) := by decide +kernel
theorem dX1_packRuns_66 : decode cX1_packRuns 66 = .ok (.invokevirtual 54, 3) := by decide +kernel
theorem dX1_packRuns_69 : decode cX1_packRuns 69 = .ok (.iconst 0, 1) := by decide +kernel
theorem dX1_packRuns_70 : decode cX1_packRuns 70 = .ok (.istore_n 3, 1) := by decide +kernel
theorem dX1_packRuns_71 : decode cX1_packRuns 71 = .ok (.iinc 4 1, 3) := by decide +kernel
theorem dX1_packRuns_74 : decode cX1_packRuns 74 = .ok (.goto (-69), 3) := by decide +kernel
theorem dX1_packRuns_77 : decode cX1_packRuns 77 = .ok (.return_, 1) := by decide +kernel
set_option maxRecDepth 20000 in
theorem ggX1_packDictionary_X2_differentCount : GoodIn wsX1_packDictionary wsX2_differentCount := goodIn_r _ [8, 9, 52, 53, 54, 55, 56, 57, 58, 59, 60, 61, 62] (by decide +kernel) (by decide +kernel)
set_option maxRecDepth 20000 in
theorem gX1_packDictionary_X2_differentCount : GoodIn wsX1_packDictionary (wsV RX1 59 RX2 yX2_differentCount wsX2_differentCount) := goodIn_app (goodIn_of _ (by decide +kernel)) ggX1_packDictionary_X2_differentCount
set_option maxRecDepth 20000 in
theorem ggX1_packDictionary_X0_write : GoodIn wsX1_packDictionary wsX0_write := goodIn_r _ [14, 15, 16, 63, 64] (by decide +kernel) (by decide +kernel)
set_option maxRecDepth 20000 in
theorem gX1_packDictionary_X0_write : GoodIn wsX1_packDictionary (wsV RX1 54 RX0 yX0_write wsX0_write) := goodIn_app (goodIn_of _ (by decide +kernel)) ggX1_packDictionary_X0_write
set_option maxRecDepth 20000 in
theorem ggX1_packDictionary_X2_differentAt : GoodIn wsX1_packDictionary wsX2_differentAt := goodIn_r _ [20, 21, 22, 23, 24, 25, 26, 27, 52, 53, 54, 55, 56, 57, 58, 59, 60, 61, 62, 65] (by decide +kernel) (by decide +kernel)
set_option maxRecDepth 20000 in
theorem gX1_packDictionary_X2_differentAt : GoodIn wsX1_packDictionary (wsV RX1 65 RX2 yX2_differentAt wsX2_differentAt) := goodIn_app (goodIn_of _ (by decide +kernel)) ggX1_packDictionary_X2_differentAt
set_option maxRecDepth 20000 in
theorem ggX1_packDictionary_X1_writeValue : GoodIn wsX1_packDictionary wsX1_writeValue := goodIn_r _ [32, 2, 33, 10, 11, 12, 13, 14, 15, 16, 48, 49, 50, 51, 63, 64] (by decide +kernel) (by decide +kernel)
set_option maxRecDepth 20000 in
theorem gX1_packDictionary_X1_writeValue : GoodIn wsX1_packDictionary (wsV RX1 39 RX1 yX1_writeValue wsX1_writeValue) := goodIn_app (goodIn_of _ (by decide +kernel)) ggX1_packDictionary_X1_writeValue
set_option maxRecDepth 20000 in
theorem ggX1_packDictionary_X3_get : GoodIn wsX1_packDictionary wsX3_get := goodIn_r _ [26, 27, 65] (by decide +kernel) (by decide +kernel)
set_option maxRecDepth 20000 in
theorem gX1_packDictionary_X3_get : GoodIn wsX1_packDictionary (wsV RX1 35 RX3 yX3_get wsX3_get) := goodIn_app (goodIn_of _ (by decide +kernel)) ggX1_packDictionary_X3_get
set_option maxRecDepth 20000 in
theorem ggX1_packDictionary_X2_indexOf : GoodIn wsX1_packDictionary wsX2_indexOf := goodIn_r _ [38, 21, 9, 39, 40, 41, 25, 42, 27, 52, 53, 54, 55, 56, 57, 58, 59, 60, 61, 62, 65] (by decide +kernel) (by decide +kernel)
set_option maxRecDepth 20000 in
theorem gX1_packDictionary_X2_indexOf : GoodIn wsX1_packDictionary (wsV RX1 68 RX2 yX2_indexOf wsX2_indexOf) := goodIn_app (goodIn_of _ (by decide +kernel)) ggX1_packDictionary_X2_indexOf
set_option maxRecDepth 20000 in
theorem ggX1_packDictionary_X2_indexWidth : GoodIn wsX1_packDictionary wsX2_indexWidth := goodIn_r _ [46, 47, 52, 53, 54, 55, 56, 57, 58, 59, 60, 61, 62] (by decide +kernel) (by decide +kernel)
set_option maxRecDepth 20000 in
theorem gX1_packDictionary_X2_indexWidth : GoodIn wsX1_packDictionary (wsV RX1 71 RX2 yX2_indexWidth wsX2_indexWidth) := goodIn_app (goodIn_of _ (by decide +kernel)) ggX1_packDictionary_X2_indexWidth
theorem dX1_packDictionary_0 : decode cX1_packDictionary 0 = .ok (.aload_n 0, 1) := by decide +kernel
theorem dX1_packDictionary_1 : decode cX1_packDictionary 1 = .ok (.getfield 15, 3) := by decide +kernel
theorem dX1_packDictionary_4 : decode cX1_packDictionary 4 = .ok (.invokevirtual 59, 3) := by decide +kernel
theorem dX1_packDictionary_7 : decode cX1_packDictionary 7 = .ok (.istore_n 3, 1) := by decide +kernel
theorem dX1_packDictionary_8 : decode cX1_packDictionary 8 = .ok (.aload_n 0, 1) := by decide +kernel
theorem dX1_packDictionary_9 : decode cX1_packDictionary 9 = .ok (.getfield 19, 3) := by decide +kernel
theorem dX1_packDictionary_12 : decode cX1_packDictionary 12 = .ok (.iload_n 3, 1) := by decide +kernel
theorem dX1_packDictionary_13 : decode cX1_packDictionary 13 = .ok (.bipush 6, 2) := by decide +kernel
theorem dX1_packDictionary_15 : decode cX1_packDictionary 15 = .ok (.invokevirtual 54, 3) := by decide +kernel
theorem dX1_packDictionary_18 : decode cX1_packDictionary 18 = .ok (.iconst 0, 1) := by decide +kernel
theorem dX1_packDictionary_19 : decode cX1_packDictionary 19 = .ok (.istore 4, 2) := by decide +kernel
theorem dX1_packDictionary_21 : decode cX1_packDictionary 21 = .ok (.iload 4, 2) := by decide +kernel
theorem dX1_packDictionary_23 : decode cX1_packDictionary 23 = .ok (.iload_n 3, 1) := by decide +kernel
theorem dX1_packDictionary_24 : decode cX1_packDictionary 24 = .ok (.if_icmp .ge 22, 3) := by decide +kernel
theorem dX1_packDictionary_27 : decode cX1_packDictionary 27 = .ok (.aload_n 0, 1) := by decide +kernel
theorem dX1_packDictionary_28 : decode cX1_packDictionary 28 = .ok (.aload_n 0, 1) := by decide +kernel
theorem dX1_packDictionary_29 : decode cX1_packDictionary 29 = .ok (.getfield 15, 3) := by decide +kernel
theorem dX1_packDictionary_32 : decode cX1_packDictionary 32 = .ok (.iload 4, 2) := by decide +kernel
theorem dX1_packDictionary_34 : decode cX1_packDictionary 34 = .ok (.invokevirtual 65, 3) := by decide +kernel
theorem dX1_packDictionary_37 : decode cX1_packDictionary 37 = .ok (.invokevirtual 39, 3) := by decide +kernel
theorem dX1_packDictionary_40 : decode cX1_packDictionary 40 = .ok (.iinc 4 1, 3) := by decide +kernel
theorem dX1_packDictionary_43 : decode cX1_packDictionary 43 = .ok (.goto (-22), 3) := by decide +kernel
theorem dX1_packDictionary_46 : decode cX1_packDictionary 46 = .ok (.iconst 0, 1) := by decide +kernel
theorem dX1_packDictionary_47 : decode cX1_packDictionary 47 = .ok (.istore 4, 2) := by decide +kernel
theorem dX1_packDictionary_49 : decode cX1_packDictionary 49 = .ok (.iload 4, 2) := by decide +kernel
theorem dX1_packDictionary_51 : decode cX1_packDictionary 51 = .ok (.iload_n 2, 1) := by decide +kernel
theorem dX1_packDictionary_52 : decode cX1_packDictionary 52 = .ok (.if_icmp .ge 41, 3) := by decide +kernel
theorem dX1_packDictionary_55 : decode cX1_packDictionary 55 = .ok (.aload_n 0, 1) := by decide +kernel
theorem dX1_packDictionary_56 : decode cX1_packDictionary 56 = .ok (.getfield 19, 3) := by decide +kernel
theorem dX1_packDictionary_59 : decode cX1_packDictionary 59 = .ok (.aload_n 0, 1) := by decide +kernel
theorem dX1_packDictionary_60 : decode cX1_packDictionary 60 = .ok (.getfield 15, 3) := by decide +kernel
theorem dX1_packDictionary_63 : decode cX1_packDictionary 63 = .ok (.aload_n 0, 1) := by decide +kernel
theorem dX1_packDictionary_64 : decode cX1_packDictionary 64 = .ok (.getfield 9, 3) := by decide +kernel
theorem dX1_packDictionary_67 : decode cX1_packDictionary 67 = .ok (.iload_n 1, 1) := by decide +kernel
theorem dX1_packDictionary_68 : decode cX1_packDictionary 68 = .ok (.iload 4, 2) := by decide +kernel
theorem dX1_packDictionary_70 : decode cX1_packDictionary 70 = .ok (.iadd, 1) := by decide +kernel
theorem dX1_packDictionary_71 : decode cX1_packDictionary 71 = .ok (.invokevirtual 35, 3) := by decide +kernel
theorem dX1_packDictionary_74 : decode cX1_packDictionary 74 = .ok (.invokevirtual 68, 3) := by decide +kernel
theorem dX1_packDictionary_77 : decode cX1_packDictionary 77 = .ok (.aload_n 0, 1) := by decide +kernel
theorem dX1_packDictionary_78 : decode cX1_packDictionary 78 = .ok (.getfield 15, 3) := by decide +kernel
theorem dX1_packDictionary_81 : decode cX1_packDictionary 81 = .ok (.invokevirtual 71, 3) := by decide +kernel
theorem dX1_packDictionary_84 : decode cX1_packDictionary 84 = .ok (.invokevirtual 54, 3) := by decide +kernel
theorem dX1_packDictionary_87 : decode cX1_packDictionary 87 = .ok (.iinc 4 1, 3) := by decide +kernel
theorem dX1_packDictionary_90 : decode cX1_packDictionary 90 = .ok (.goto (-41), 3) := by decide +kernel
theorem dX1_packDictionary_93 : decode cX1_packDictionary 93 = .ok (.return_, 1) := by decide +kernel
set_option maxRecDepth 20000 in
theorem ggX1_packFrame_X2_least : GoodIn wsX1_packFrame wsX2_least := goodIn_r _ [8, 9, 38, 39, 40, 41, 42, 43, 44, 45, 46, 47, 48] (by decide +kernel) (by decide +kernel)
set_option maxRecDepth 20000 in
theorem gX1_packFrame_X2_least : GoodIn wsX1_packFrame (wsV RX1 74 RX2 yX2_least wsX2_least) := goodIn_app (goodIn_of _ (by decide +kernel)) ggX1_packFrame_X2_least
set_option maxRecDepth 20000 in
theorem ggX1_packFrame_X2_frameWidth : GoodIn wsX1_packFrame wsX2_frameWidth := goodIn_r _ [13, 14, 38, 39, 40, 41, 42, 43, 44, 45, 46, 47, 48] (by decide +kernel) (by decide +kernel)
set_option maxRecDepth 20000 in
theorem gX1_packFrame_X2_frameWidth : GoodIn wsX1_packFrame (wsV RX1 77 RX2 yX2_frameWidth wsX2_frameWidth) := goodIn_app (goodIn_of _ (by decide +kernel)) ggX1_packFrame_X2_frameWidth
set_option maxRecDepth 20000 in
theorem ggX1_packFrame_X1_writeValue : GoodIn wsX1_packFrame wsX1_writeValue := goodIn_r _ [19, 2, 20, 21, 22, 23, 24, 25, 26, 27, 34, 35, 36, 37, 49, 50] (by decide +kernel) (by decide +kernel)
set_option maxRecDepth 20000 in
theorem gX1_packFrame_X1_writeValue : GoodIn wsX1_packFrame (wsV RX1 39 RX1 yX1_writeValue wsX1_writeValue) := goodIn_app (goodIn_of _ (by decide +kernel)) ggX1_packFrame_X1_writeValue
set_option maxRecDepth 20000 in
theorem ggX1_packFrame_X0_write : GoodIn wsX1_packFrame wsX0_write := goodIn_r _ [25, 26, 27, 49, 50] (by decide +kernel) (by decide +kernel)
set_option maxRecDepth 20000 in
theorem gX1_packFrame_X0_write : GoodIn wsX1_packFrame (wsV RX1 54 RX0 yX0_write wsX0_write) := goodIn_app (goodIn_of _ (by decide +kernel)) ggX1_packFrame_X0_write
set_option maxRecDepth 20000 in
theorem ggX1_packFrame_X3_get : GoodIn wsX1_packFrame wsX3_get := goodIn_r _ [32, 33, 51] (by decide +kernel) (by decide +kernel)
set_option maxRecDepth 20000 in
theorem gX1_packFrame_X3_get : GoodIn wsX1_packFrame (wsV RX1 35 RX3 yX3_get wsX3_get) := goodIn_app (goodIn_of _ (by decide +kernel)) ggX1_packFrame_X3_get
theorem dX1_packFrame_0 : decode cX1_packFrame 0 = .ok (.aload_n 0, 1) := by decide +kernel
theorem dX1_packFrame_1 : decode cX1_packFrame 1 = .ok (.getfield 15, 3) := by decide +kernel
theorem dX1_packFrame_4 : decode cX1_packFrame 4 = .ok (.invokevirtual 74, 3) := by decide +kernel
theorem dX1_packFrame_7 : decode cX1_packFrame 7 = .ok (.istore_n 3, 1) := by decide +kernel
theorem dX1_packFrame_8 : decode cX1_packFrame 8 = .ok (.aload_n 0, 1) := by decide +kernel
theorem dX1_packFrame_9 : decode cX1_packFrame 9 = .ok (.getfield 15, 3) := by decide +kernel
theorem dX1_packFrame_12 : decode cX1_packFrame 12 = .ok (.invokevirtual 77, 3) := by decide +kernel
theorem dX1_packFrame_15 : decode cX1_packFrame 15 = .ok (.istore 4, 2) := by decide +kernel
theorem dX1_packFrame_17 : decode cX1_packFrame 17 = .ok (.aload_n 0, 1) := by decide +kernel
theorem dX1_packFrame_18 : decode cX1_packFrame 18 = .ok (.iload_n 3, 1) := by decide +kernel
theorem dX1_packFrame_19 : decode cX1_packFrame 19 = .ok (.invokevirtual 39, 3) := by decide +kernel
theorem dX1_packFrame_22 : decode cX1_packFrame 22 = .ok (.aload_n 0, 1) := by decide +kernel
theorem dX1_packFrame_23 : decode cX1_packFrame 23 = .ok (.getfield 19, 3) := by decide +kernel
theorem dX1_packFrame_26 : decode cX1_packFrame 26 = .ok (.iload 4, 2) := by decide +kernel
theorem dX1_packFrame_28 : decode cX1_packFrame 28 = .ok (.iconst 5, 1) := by decide +kernel
theorem dX1_packFrame_29 : decode cX1_packFrame 29 = .ok (.invokevirtual 54, 3) := by decide +kernel
theorem dX1_packFrame_32 : decode cX1_packFrame 32 = .ok (.iconst 0, 1) := by decide +kernel
theorem dX1_packFrame_33 : decode cX1_packFrame 33 = .ok (.istore 5, 2) := by decide +kernel
theorem dX1_packFrame_35 : decode cX1_packFrame 35 = .ok (.iload 5, 2) := by decide +kernel
theorem dX1_packFrame_37 : decode cX1_packFrame 37 = .ok (.iload_n 2, 1) := by decide +kernel
theorem dX1_packFrame_38 : decode cX1_packFrame 38 = .ok (.if_icmp .ge 31, 3) := by decide +kernel
theorem dX1_packFrame_41 : decode cX1_packFrame 41 = .ok (.aload_n 0, 1) := by decide +kernel
theorem dX1_packFrame_42 : decode cX1_packFrame 42 = .ok (.getfield 19, 3) := by decide +kernel
theorem dX1_packFrame_45 : decode cX1_packFrame 45 = .ok (.aload_n 0, 1) := by decide +kernel
theorem dX1_packFrame_46 : decode cX1_packFrame 46 = .ok (.getfield 9, 3) := by decide +kernel
theorem dX1_packFrame_49 : decode cX1_packFrame 49 = .ok (.iload_n 1, 1) := by decide +kernel
theorem dX1_packFrame_50 : decode cX1_packFrame 50 = .ok (.iload 5, 2) := by decide +kernel
theorem dX1_packFrame_52 : decode cX1_packFrame 52 = .ok (.iadd, 1) := by decide +kernel
theorem dX1_packFrame_53 : decode cX1_packFrame 53 = .ok (.invokevirtual 35, 3) := by decide +kernel
theorem dX1_packFrame_56 : decode cX1_packFrame 56 = .ok (.iload_n 3, 1) := by decide +kernel
theorem dX1_packFrame_57 : decode cX1_packFrame 57 = .ok (.isub, 1) := by decide +kernel
theorem dX1_packFrame_58 : decode cX1_packFrame 58 = .ok (.iload 4, 2) := by decide +kernel
theorem dX1_packFrame_60 : decode cX1_packFrame 60 = .ok (.invokevirtual 54, 3) := by decide +kernel
theorem dX1_packFrame_63 : decode cX1_packFrame 63 = .ok (.iinc 5 1, 3) := by decide +kernel
theorem dX1_packFrame_66 : decode cX1_packFrame 66 = .ok (.goto (-31), 3) := by decide +kernel
theorem dX1_packFrame_69 : decode cX1_packFrame 69 = .ok (.return_, 1) := by decide +kernel
set_option maxRecDepth 20000 in
theorem ggX1_packDelta_X3_get : GoodIn wsX1_packDelta wsX3_get := goodIn_r _ [8, 9, 36] (by decide +kernel) (by decide +kernel)
set_option maxRecDepth 20000 in
theorem gX1_packDelta_X3_get : GoodIn wsX1_packDelta (wsV RX1 35 RX3 yX3_get wsX3_get) := goodIn_app (goodIn_of _ (by decide +kernel)) ggX1_packDelta_X3_get
set_option maxRecDepth 20000 in
theorem ggX1_packDelta_X2_deltaWidth : GoodIn wsX1_packDelta wsX2_deltaWidth := goodIn_r _ [14, 15, 37, 38, 39, 40, 41, 42, 43, 44, 45, 46, 47] (by decide +kernel) (by decide +kernel)
set_option maxRecDepth 20000 in
theorem gX1_packDelta_X2_deltaWidth : GoodIn wsX1_packDelta (wsV RX1 80 RX2 yX2_deltaWidth wsX2_deltaWidth) := goodIn_app (goodIn_of _ (by decide +kernel)) ggX1_packDelta_X2_deltaWidth
set_option maxRecDepth 20000 in
theorem ggX1_packDelta_X1_writeValue : GoodIn wsX1_packDelta wsX1_writeValue := goodIn_r _ [20, 3, 21, 22, 23, 24, 25, 26, 27, 28, 32, 33, 34, 35, 48, 49] (by decide +kernel) (by decide +kernel)
set_option maxRecDepth 20000 in
theorem gX1_packDelta_X1_writeValue : GoodIn wsX1_packDelta (wsV RX1 39 RX1 yX1_writeValue wsX1_writeValue) := goodIn_app (goodIn_of _ (by decide +kernel)) ggX1_packDelta_X1_writeValue
set_option maxRecDepth 20000 in
theorem ggX1_packDelta_X0_write : GoodIn wsX1_packDelta wsX0_write := goodIn_r _ [26, 27, 28, 48, 49] (by decide +kernel) (by decide +kernel)
set_option maxRecDepth 20000 in
theorem gX1_packDelta_X0_write : GoodIn wsX1_packDelta (wsV RX1 54 RX0 yX0_write wsX0_write) := goodIn_app (goodIn_of _ (by decide +kernel)) ggX1_packDelta_X0_write
set_option maxRecDepth 20000 in
theorem ggX1_packDelta_X2_fold : GoodIn wsX1_packDelta wsX2_fold := goodIn_r _ [31] (by decide +kernel) (by decide +kernel)
set_option maxRecDepth 20000 in
theorem gX1_packDelta_X2_fold : GoodIn wsX1_packDelta (va_wsS RX1 83 yX2_fold wsX2_fold) := goodIn_app (goodIn_of _ (by decide +kernel)) ggX1_packDelta_X2_fold
theorem dX1_packDelta_0 : decode cX1_packDelta 0 = .ok (.aload_n 0, 1) := by decide +kernel
theorem dX1_packDelta_1 : decode cX1_packDelta 1 = .ok (.getfield 9, 3) := by decide +kernel
theorem dX1_packDelta_4 : decode cX1_packDelta 4 = .ok (.iload_n 1, 1) := by decide +kernel
theorem dX1_packDelta_5 : decode cX1_packDelta 5 = .ok (.invokevirtual 35, 3) := by decide +kernel
theorem dX1_packDelta_8 : decode cX1_packDelta 8 = .ok (.istore_n 3, 1) := by decide +kernel
theorem dX1_packDelta_9 : decode cX1_packDelta 9 = .ok (.aload_n 0, 1) := by decide +kernel
theorem dX1_packDelta_10 : decode cX1_packDelta 10 = .ok (.getfield 15, 3) := by decide +kernel
theorem dX1_packDelta_13 : decode cX1_packDelta 13 = .ok (.invokevirtual 80, 3) := by decide +kernel
theorem dX1_packDelta_16 : decode cX1_packDelta 16 = .ok (.istore 4, 2) := by decide +kernel
theorem dX1_packDelta_18 : decode cX1_packDelta 18 = .ok (.aload_n 0, 1) := by decide +kernel
theorem dX1_packDelta_19 : decode cX1_packDelta 19 = .ok (.iload_n 3, 1) := by decide +kernel
theorem dX1_packDelta_20 : decode cX1_packDelta 20 = .ok (.invokevirtual 39, 3) := by decide +kernel
theorem dX1_packDelta_23 : decode cX1_packDelta 23 = .ok (.aload_n 0, 1) := by decide +kernel
theorem dX1_packDelta_24 : decode cX1_packDelta 24 = .ok (.getfield 19, 3) := by decide +kernel
theorem dX1_packDelta_27 : decode cX1_packDelta 27 = .ok (.iload 4, 2) := by decide +kernel
theorem dX1_packDelta_29 : decode cX1_packDelta 29 = .ok (.iconst 5, 1) := by decide +kernel
theorem dX1_packDelta_30 : decode cX1_packDelta 30 = .ok (.invokevirtual 54, 3) := by decide +kernel
theorem dX1_packDelta_33 : decode cX1_packDelta 33 = .ok (.iconst 1, 1) := by decide +kernel
theorem dX1_packDelta_34 : decode cX1_packDelta 34 = .ok (.istore 5, 2) := by decide +kernel
theorem dX1_packDelta_36 : decode cX1_packDelta 36 = .ok (.iload 5, 2) := by decide +kernel
theorem dX1_packDelta_38 : decode cX1_packDelta 38 = .ok (.iload_n 2, 1) := by decide +kernel
theorem dX1_packDelta_39 : decode cX1_packDelta 39 = .ok (.if_icmp .ge 41, 3) := by decide +kernel
theorem dX1_packDelta_42 : decode cX1_packDelta 42 = .ok (.aload_n 0, 1) := by decide +kernel
theorem dX1_packDelta_43 : decode cX1_packDelta 43 = .ok (.getfield 9, 3) := by decide +kernel
theorem dX1_packDelta_46 : decode cX1_packDelta 46 = .ok (.iload_n 1, 1) := by decide +kernel
theorem dX1_packDelta_47 : decode cX1_packDelta 47 = .ok (.iload 5, 2) := by decide +kernel
theorem dX1_packDelta_49 : decode cX1_packDelta 49 = .ok (.iadd, 1) := by decide +kernel
theorem dX1_packDelta_50 : decode cX1_packDelta 50 = .ok (.invokevirtual 35, 3) := by decide +kernel
theorem dX1_packDelta_53 : decode cX1_packDelta 53 = .ok (.istore 6, 2) := by decide +kernel
theorem dX1_packDelta_55 : decode cX1_packDelta 55 = .ok (.aload_n 0, 1) := by decide +kernel
theorem dX1_packDelta_56 : decode cX1_packDelta 56 = .ok (.getfield 19, 3) := by decide +kernel
theorem dX1_packDelta_59 : decode cX1_packDelta 59 = .ok (.iload 6, 2) := by decide +kernel
theorem dX1_packDelta_61 : decode cX1_packDelta 61 = .ok (.iload_n 3, 1) := by decide +kernel
theorem dX1_packDelta_62 : decode cX1_packDelta 62 = .ok (.isub, 1) := by decide +kernel
theorem dX1_packDelta_63 : decode cX1_packDelta 63 = .ok (.invokestatic 83, 3) := by decide +kernel
theorem dX1_packDelta_66 : decode cX1_packDelta 66 = .ok (.iload 4, 2) := by decide +kernel
theorem dX1_packDelta_68 : decode cX1_packDelta 68 = .ok (.invokevirtual 54, 3) := by decide +kernel
theorem dX1_packDelta_71 : decode cX1_packDelta 71 = .ok (.iload 6, 2) := by decide +kernel
theorem dX1_packDelta_73 : decode cX1_packDelta 73 = .ok (.istore_n 3, 1) := by decide +kernel
theorem dX1_packDelta_74 : decode cX1_packDelta 74 = .ok (.iinc 5 1, 3) := by decide +kernel
theorem dX1_packDelta_77 : decode cX1_packDelta 77 = .ok (.goto (-41), 3) := by decide +kernel
theorem dX1_packDelta_80 : decode cX1_packDelta 80 = .ok (.return_, 1) := by decide +kernel
set_option maxRecDepth 20000 in
theorem ggX1_writeValue_X0_write : GoodIn wsX1_writeValue wsX0_write := goodIn_r _ [7, 8, 9, 14, 15] (by decide +kernel) (by decide +kernel)
set_option maxRecDepth 20000 in
theorem gX1_writeValue_X0_write : GoodIn wsX1_writeValue (wsV RX1 54 RX0 yX0_write wsX0_write) := goodIn_app (goodIn_of _ (by decide +kernel)) ggX1_writeValue_X0_write
theorem dX1_writeValue_0 : decode cX1_writeValue 0 = .ok (.aload_n 0, 1) := by decide +kernel
theorem dX1_writeValue_1 : decode cX1_writeValue 1 = .ok (.getfield 19, 3) := by decide +kernel
theorem dX1_writeValue_4 : decode cX1_writeValue 4 = .ok (.iload_n 1, 1) := by decide +kernel
theorem dX1_writeValue_5 : decode cX1_writeValue 5 = .ok (.ldc 86, 2) := by decide +kernel
theorem dX1_writeValue_7 : decode cX1_writeValue 7 = .ok (.iadd, 1) := by decide +kernel
theorem dX1_writeValue_8 : decode cX1_writeValue 8 = .ok (.bipush 18, 2) := by decide +kernel
theorem dX1_writeValue_10 : decode cX1_writeValue 10 = .ok (.invokevirtual 54, 3) := by decide +kernel
theorem dX1_writeValue_13 : decode cX1_writeValue 13 = .ok (.return_, 1) := by decide +kernel
set_option maxRecDepth 20000 in
theorem ggX1_readValue_X0_read : GoodIn wsX1_readValue wsX0_read := goodIn_r _ [7, 8, 9, 14, 15] (by decide +kernel) (by decide +kernel)
set_option maxRecDepth 20000 in
theorem gX1_readValue_X0_read : GoodIn wsX1_readValue (wsV RX1 87 RX0 yX0_read wsX0_read) := goodIn_app (goodIn_of _ (by decide +kernel)) ggX1_readValue_X0_read
theorem dX1_readValue_0 : decode cX1_readValue 0 = .ok (.aload_n 0, 1) := by decide +kernel
theorem dX1_readValue_1 : decode cX1_readValue 1 = .ok (.getfield 19, 3) := by decide +kernel
theorem dX1_readValue_4 : decode cX1_readValue 4 = .ok (.bipush 18, 2) := by decide +kernel
theorem dX1_readValue_6 : decode cX1_readValue 6 = .ok (.invokevirtual 87, 3) := by decide +kernel
theorem dX1_readValue_9 : decode cX1_readValue 9 = .ok (.ldc 86, 2) := by decide +kernel
theorem dX1_readValue_11 : decode cX1_readValue 11 = .ok (.isub, 1) := by decide +kernel
theorem dX1_readValue_12 : decode cX1_readValue 12 = .ok (.ireturn, 1) := by decide +kernel
set_option maxRecDepth 20000 in
theorem ggX1_unpack_X1_unpackPlain : GoodIn wsX1_unpack wsX1_unpackPlain := goodIn_r _ [5, 6, 7, 8, 9, 4, 10, 11, 12, 13, 14, 15, 16, 17, 18, 19, 20, 21, 22, 23, 24, 25, 58, 59, 60, 61, 62, 63, 64] (by decide +kernel) (by decide +kernel)
set_option maxRecDepth 20000 in
theorem gX1_unpack_X1_unpackPlain : GoodIn wsX1_unpack (wsV RX1 90 RX1 yX1_unpackPlain wsX1_unpackPlain) := goodIn_app (goodIn_of _ (by decide +kernel)) ggX1_unpack_X1_unpackPlain
set_option maxRecDepth 20000 in
theorem ggX1_unpack_X1_unpackConstant : GoodIn wsX1_unpack wsX1_unpackConstant := goodIn_r _ [29, 6, 7, 8, 9, 4, 10, 11, 12, 13, 14, 15, 16, 17, 18, 19, 20, 21, 22, 23, 24, 25, 58, 59, 60, 61, 62, 63, 64] (by decide +kernel) (by decide +kernel)
set_option maxRecDepth 20000 in
theorem gX1_unpack_X1_unpackConstant : GoodIn wsX1_unpack (wsV RX1 93 RX1 yX1_unpackConstant wsX1_unpackConstant) := goodIn_app (goodIn_of _ (by decide +kernel)) ggX1_unpack_X1_unpackConstant
set_option maxRecDepth 20000 in
theorem ggX1_unpack_X1_unpackRuns : GoodIn wsX1_unpack wsX1_unpackRuns := goodIn_r _ [33, 11, 6, 7, 8, 9, 4, 10, 12, 13, 14, 15, 16, 17, 18, 19, 20, 21, 22, 23, 24, 25, 58, 59, 60, 61, 62, 63, 64] (by decide +kernel) (by decide +kernel)
set_option maxRecDepth 20000 in
theorem gX1_unpack_X1_unpackRuns : GoodIn wsX1_unpack (wsV RX1 96 RX1 yX1_unpackRuns wsX1_unpackRuns) := goodIn_app (goodIn_of _ (by decide +kernel)) ggX1_unpack_X1_unpackRuns
set_option maxRecDepth 20000 in
theorem ggX1_unpack_X1_unpackDictionary : GoodIn wsX1_unpack wsX1_unpackDictionary := goodIn_r _ [37, 11, 38, 6, 13, 14, 15, 16, 17, 18, 19, 39, 40, 41, 42, 7, 8, 9, 4, 10, 12, 20, 21, 22, 23, 24, 25, 43, 44, 45, 46, 58, 59, 60, 61, 62, 63, 64] (by decide +kernel) (by decide +kernel)
set_option maxRecDepth 20000 in
theorem gX1_unpack_X1_unpackDictionary : GoodIn wsX1_unpack (wsV RX1 99 RX1 yX1_unpackDictionary wsX1_unpackDictionary) := goodIn_app (goodIn_of _ (by decide +kernel)) ggX1_unpack_X1_unpackDictionary
set_option maxRecDepth 20000 in
theorem ggX1_unpack_X1_unpackFrame : GoodIn wsX1_unpack wsX1_unpackFrame := goodIn_r _ [50, 11, 6, 7, 8, 9, 4, 10, 12, 13, 14, 15, 16, 17, 18, 19, 20, 21, 22, 23, 24, 25, 58, 59, 60, 61, 62, 63, 64] (by decide +kernel) (by decide +kernel)
set_option maxRecDepth 20000 in
theorem gX1_unpack_X1_unpackFrame : GoodIn wsX1_unpack (wsV RX1 102 RX1 yX1_unpackFrame wsX1_unpackFrame) := goodIn_app (goodIn_of _ (by decide +kernel)) ggX1_unpack_X1_unpackFrame
set_option maxRecDepth 20000 in
theorem ggX1_unpack_X1_unpackDelta : GoodIn wsX1_unpack wsX1_unpackDelta := goodIn_r _ [54, 11, 6, 7, 8, 9, 4, 10, 12, 13, 14, 15, 16, 17, 18, 19, 20, 21, 22, 23, 24, 25, 55, 56, 57, 58, 59, 60, 61, 62, 63, 64] (by decide +kernel) (by decide +kernel)
set_option maxRecDepth 20000 in
theorem gX1_unpack_X1_unpackDelta : GoodIn wsX1_unpack (wsV RX1 105 RX1 yX1_unpackDelta wsX1_unpackDelta) := goodIn_app (goodIn_of _ (by decide +kernel)) ggX1_unpack_X1_unpackDelta
theorem dX1_unpack_0 : decode cX1_unpack 0 = .ok (.iload_n 1, 1) := by decide +kernel
theorem dX1_unpack_1 : decode cX1_unpack 1 = .ok (.tableswitch 80 0 4 #[35, 44, 53, 62, 71], 35) := by decide +kernel
theorem dX1_unpack_36 : decode cX1_unpack 36 = .ok (.aload_n 0, 1) := by decide +kernel
theorem dX1_unpack_37 : decode cX1_unpack 37 = .ok (.iload_n 2, 1) := by decide +kernel
theorem dX1_unpack_38 : decode cX1_unpack 38 = .ok (.iload_n 3, 1) := by decide +kernel
theorem dX1_unpack_39 : decode cX1_unpack 39 = .ok (.invokevirtual 90, 3) := by decide +kernel
theorem dX1_unpack_42 : decode cX1_unpack 42 = .ok (.goto 45, 3) := by decide +kernel
theorem dX1_unpack_45 : decode cX1_unpack 45 = .ok (.aload_n 0, 1) := by decide +kernel
theorem dX1_unpack_46 : decode cX1_unpack 46 = .ok (.iload_n 2, 1) := by decide +kernel
theorem dX1_unpack_47 : decode cX1_unpack 47 = .ok (.iload_n 3, 1) := by decide +kernel
theorem dX1_unpack_48 : decode cX1_unpack 48 = .ok (.invokevirtual 93, 3) := by decide +kernel
theorem dX1_unpack_51 : decode cX1_unpack 51 = .ok (.goto 36, 3) := by decide +kernel
theorem dX1_unpack_54 : decode cX1_unpack 54 = .ok (.aload_n 0, 1) := by decide +kernel
theorem dX1_unpack_55 : decode cX1_unpack 55 = .ok (.iload_n 2, 1) := by decide +kernel
theorem dX1_unpack_56 : decode cX1_unpack 56 = .ok (.iload_n 3, 1) := by decide +kernel
theorem dX1_unpack_57 : decode cX1_unpack 57 = .ok (.invokevirtual 96, 3) := by decide +kernel
theorem dX1_unpack_60 : decode cX1_unpack 60 = .ok (.goto 27, 3) := by decide +kernel
theorem dX1_unpack_63 : decode cX1_unpack 63 = .ok (.aload_n 0, 1) := by decide +kernel
theorem dX1_unpack_64 : decode cX1_unpack 64 = .ok (.iload_n 2, 1) := by decide +kernel
theorem dX1_unpack_65 : decode cX1_unpack 65 = .ok (.iload_n 3, 1) := by decide +kernel
theorem dX1_unpack_66 : decode cX1_unpack 66 = .ok (.invokevirtual 99, 3) := by decide +kernel
theorem dX1_unpack_69 : decode cX1_unpack 69 = .ok (.goto 18, 3) := by decide +kernel
theorem dX1_unpack_72 : decode cX1_unpack 72 = .ok (.aload_n 0, 1) := by decide +kernel
theorem dX1_unpack_73 : decode cX1_unpack 73 = .ok (.iload_n 2, 1) := by decide +kernel
theorem dX1_unpack_74 : decode cX1_unpack 74 = .ok (.iload_n 3, 1) := by decide +kernel
theorem dX1_unpack_75 : decode cX1_unpack 75 = .ok (.invokevirtual 102, 3) := by decide +kernel
theorem dX1_unpack_78 : decode cX1_unpack 78 = .ok (.goto 9, 3) := by decide +kernel
theorem dX1_unpack_81 : decode cX1_unpack 81 = .ok (.aload_n 0, 1) := by decide +kernel
theorem dX1_unpack_82 : decode cX1_unpack 82 = .ok (.iload_n 2, 1) := by decide +kernel
theorem dX1_unpack_83 : decode cX1_unpack 83 = .ok (.iload_n 3, 1) := by decide +kernel
theorem dX1_unpack_84 : decode cX1_unpack 84 = .ok (.invokevirtual 105, 3) := by decide +kernel
theorem dX1_unpack_87 : decode cX1_unpack 87 = .ok (.return_, 1) := by decide +kernel
set_option maxRecDepth 20000 in
theorem ggX1_unpackPlain_X1_readValue : GoodIn wsX1_unpackPlain wsX1_readValue := goodIn_r _ [6, 7, 8, 9, 10, 11, 12, 13, 14, 15, 22, 23, 24, 25, 26, 27] (by decide +kernel) (by decide +kernel)
set_option maxRecDepth 20000 in
theorem gX1_unpackPlain_X1_readValue : GoodIn wsX1_unpackPlain (wsV RX1 108 RX1 yX1_readValue wsX1_readValue) := goodIn_app (goodIn_of _ (by decide +kernel)) ggX1_unpackPlain_X1_readValue
set_option maxRecDepth 20000 in
theorem ggX1_unpackPlain_X3_put : GoodIn wsX1_unpackPlain wsX3_put := goodIn_r _ [20, 21, 28] (by decide +kernel) (by decide +kernel)
set_option maxRecDepth 20000 in
theorem gX1_unpackPlain_X3_put : GoodIn wsX1_unpackPlain (wsV RX1 111 RX3 yX3_put wsX3_put) := goodIn_app (goodIn_of _ (by decide +kernel)) ggX1_unpackPlain_X3_put
theorem dX1_unpackPlain_0 : decode cX1_unpackPlain 0 = .ok (.iconst 0, 1) := by decide +kernel
theorem dX1_unpackPlain_1 : decode cX1_unpackPlain 1 = .ok (.istore_n 3, 1) := by decide +kernel
theorem dX1_unpackPlain_2 : decode cX1_unpackPlain 2 = .ok (.iload_n 3, 1) := by decide +kernel
theorem dX1_unpackPlain_3 : decode cX1_unpackPlain 3 = .ok (.iload_n 2, 1) := by decide +kernel
theorem dX1_unpackPlain_4 : decode cX1_unpackPlain 4 = .ok (.if_icmp .ge 23, 3) := by decide +kernel
theorem dX1_unpackPlain_7 : decode cX1_unpackPlain 7 = .ok (.aload_n 0, 1) := by decide +kernel
theorem dX1_unpackPlain_8 : decode cX1_unpackPlain 8 = .ok (.getfield 9, 3) := by decide +kernel
theorem dX1_unpackPlain_11 : decode cX1_unpackPlain 11 = .ok (.iload_n 1, 1) := by decide +kernel
theorem dX1_unpackPlain_12 : decode cX1_unpackPlain 12 = .ok (.iload_n 3, 1) := by decide +kernel
theorem dX1_unpackPlain_13 : decode cX1_unpackPlain 13 = .ok (.iadd, 1) := by decide +kernel
theorem dX1_unpackPlain_14 : decode cX1_unpackPlain 14 = .ok (.aload_n 0, 1) := by decide +kernel
theorem dX1_unpackPlain_15 : decode cX1_unpackPlain 15 = .ok (.invokevirtual 108, 3) := by decide +kernel
theorem dX1_unpackPlain_18 : decode cX1_unpackPlain 18 = .ok (.invokevirtual 111, 3) := by decide +kernel
theorem dX1_unpackPlain_21 : decode cX1_unpackPlain 21 = .ok (.iinc 3 1, 3) := by decide +kernel
theorem dX1_unpackPlain_24 : decode cX1_unpackPlain 24 = .ok (.goto (-22), 3) := by decide +kernel
theorem dX1_unpackPlain_27 : decode cX1_unpackPlain 27 = .ok (.return_, 1) := by decide +kernel
set_option maxRecDepth 20000 in
theorem ggX1_unpackConstant_X1_readValue : GoodIn wsX1_unpackConstant wsX1_readValue := goodIn_r _ [6, 7, 8, 9, 10, 11, 12, 13, 14, 15, 22, 23, 24, 25, 26, 27] (by decide +kernel) (by decide +kernel)
set_option maxRecDepth 20000 in
theorem gX1_unpackConstant_X1_readValue : GoodIn wsX1_unpackConstant (wsV RX1 108 RX1 yX1_readValue wsX1_readValue) := goodIn_app (goodIn_of _ (by decide +kernel)) ggX1_unpackConstant_X1_readValue
set_option maxRecDepth 20000 in
theorem ggX1_unpackConstant_X3_put : GoodIn wsX1_unpackConstant wsX3_put := goodIn_r _ [20, 21, 28] (by decide +kernel) (by decide +kernel)
set_option maxRecDepth 20000 in
theorem gX1_unpackConstant_X3_put : GoodIn wsX1_unpackConstant (wsV RX1 111 RX3 yX3_put wsX3_put) := goodIn_app (goodIn_of _ (by decide +kernel)) ggX1_unpackConstant_X3_put
theorem dX1_unpackConstant_0 : decode cX1_unpackConstant 0 = .ok (.aload_n 0, 1) := by decide +kernel
theorem dX1_unpackConstant_1 : decode cX1_unpackConstant 1 = .ok (.invokevirtual 108, 3) := by decide +kernel
theorem dX1_unpackConstant_4 : decode cX1_unpackConstant 4 = .ok (.istore_n 3, 1) := by decide +kernel
theorem dX1_unpackConstant_5 : decode cX1_unpackConstant 5 = .ok (.iconst 0, 1) := by decide +kernel
theorem dX1_unpackConstant_6 : decode cX1_unpackConstant 6 = .ok (.istore 4, 2) := by decide +kernel
theorem dX1_unpackConstant_8 : decode cX1_unpackConstant 8 = .ok (.iload 4, 2) := by decide +kernel
theorem dX1_unpackConstant_10 : decode cX1_unpackConstant 10 = .ok (.iload_n 2, 1) := by decide +kernel
theorem dX1_unpackConstant_11 : decode cX1_unpackConstant 11 = .ok (.if_icmp .ge 21, 3) := by decide +kernel
theorem dX1_unpackConstant_14 : decode cX1_unpackConstant 14 = .ok (.aload_n 0, 1) := by decide +kernel
theorem dX1_unpackConstant_15 : decode cX1_unpackConstant 15 = .ok (.getfield 9, 3) := by decide +kernel
theorem dX1_unpackConstant_18 : decode cX1_unpackConstant 18 = .ok (.iload_n 1, 1) := by decide +kernel
theorem dX1_unpackConstant_19 : decode cX1_unpackConstant 19 = .ok (.iload 4, 2) := by decide +kernel
theorem dX1_unpackConstant_21 : decode cX1_unpackConstant 21 = .ok (.iadd, 1) := by decide +kernel
theorem dX1_unpackConstant_22 : decode cX1_unpackConstant 22 = .ok (.iload_n 3, 1) := by decide +kernel
theorem dX1_unpackConstant_23 : decode cX1_unpackConstant 23 = .ok (.invokevirtual 111, 3) := by decide +kernel
theorem dX1_unpackConstant_26 : decode cX1_unpackConstant 26 = .ok (.iinc 4 1, 3) := by decide +kernel
theorem dX1_unpackConstant_29 : decode cX1_unpackConstant 29 = .ok (.goto (-21), 3) := by decide +kernel
theorem dX1_unpackConstant_32 : decode cX1_unpackConstant 32 = .ok (.return_, 1) := by decide +kernel
set_option maxRecDepth 20000 in
theorem ggX1_unpackRuns_X1_readValue : GoodIn wsX1_unpackRuns wsX1_readValue := goodIn_r _ [7, 1, 8, 9, 10, 11, 12, 13, 14, 15, 22, 23, 24, 25, 26, 27] (by decide +kernel) (by decide +kernel)
set_option maxRecDepth 20000 in
theorem gX1_unpackRuns_X1_readValue : GoodIn wsX1_unpackRuns (wsV RX1 108 RX1 yX1_readValue wsX1_readValue) := goodIn_app (goodIn_of _ (by decide +kernel)) ggX1_unpackRuns_X1_readValue
set_option maxRecDepth 20000 in
theorem ggX1_unpackRuns_X0_read : GoodIn wsX1_unpackRuns wsX0_read := goodIn_r _ [13, 14, 15, 26, 27] (by decide +kernel) (by decide +kernel)
set_option maxRecDepth 20000 in
theorem gX1_unpackRuns_X0_read : GoodIn wsX1_unpackRuns (wsV RX1 87 RX0 yX0_read wsX0_read) := goodIn_app (goodIn_of _ (by decide +kernel)) ggX1_unpackRuns_X0_read
set_option maxRecDepth 20000 in
theorem ggX1_unpackRuns_X3_put : GoodIn wsX1_unpackRuns wsX3_put := goodIn_r _ [20, 21, 28] (by decide +kernel) (by decide +kernel)
set_option maxRecDepth 20000 in
theorem gX1_unpackRuns_X3_put : GoodIn wsX1_unpackRuns (wsV RX1 111 RX3 yX3_put wsX3_put) := goodIn_app (goodIn_of _ (by decide +kernel)) ggX1_unpackRuns_X3_put
theorem dX1_unpackRuns_0 : decode cX1_unpackRuns 0 = .ok (.iconst 0, 1) := by decide +kernel
theorem dX1_unpackRuns_1 : decode cX1_unpackRuns 1 = .ok (.istore_n 3, 1) := by decide +kernel
theorem dX1_unpackRuns_2 : decode cX1_unpackRuns 2 = .ok (.iconst 0, 1) := by decide +kernel
theorem dX1_unpackRuns_3 : decode cX1_unpackRuns 3 = .ok (.istore 4, 2) := by decide +kernel
theorem dX1_unpackRuns_5 : decode cX1_unpackRuns 5 = .ok (.iconst 0, 1) := by decide +kernel
theorem dX1_unpackRuns_6 : decode cX1_unpackRuns 6 = .ok (.istore 5, 2) := by decide +kernel
theorem dX1_unpackRuns_8 : decode cX1_unpackRuns 8 = .ok (.iload 5, 2) := by decide +kernel
theorem dX1_unpackRuns_10 : decode cX1_unpackRuns 10 = .ok (.iload_n 2, 1) := by decide +kernel
theorem dX1_unpackRuns_11 : decode cX1_unpackRuns 11 = .ok (.if_icmp .ge 45, 3) := by decide +kernel
theorem dX1_unpackRuns_14 : decode cX1_unpackRuns 14 = .ok (.iload 4, 2) := by decide +kernel
theorem dX1_unpackRuns_16 : decode cX1_unpackRuns 16 = .ok (.ifCond .ne 19, 3) := by decide +kernel
theorem dX1_unpackRuns_19 : decode cX1_unpackRuns 19 = .ok (.aload_n 0, 1) := by decide +kernel
theorem dX1_unpackRuns_20 : decode cX1_unpackRuns 20 = .ok (.invokevirtual 108, 3) := by decide +kernel
theorem dX1_unpackRuns_23 : decode cX1_unpackRuns 23 = .ok (.istore_n 3, 1) := by decide +kernel
theorem dX1_unpackRuns_24 : decode cX1_unpackRuns 24 = .ok (.aload_n 0, 1) := by decide +kernel
theorem dX1_unpackRuns_25 : decode cX1_unpackRuns 25 = .ok (.getfield 19, 3) := by decide +kernel
theorem dX1_unpackRuns_28 : decode cX1_unpackRuns 28 = .ok (.bipush 6, 2) := by decide +kernel
theorem dX1_unpackRuns_30 : decode cX1_unpackRuns 30 = .ok (.invokevirtual 87, 3) := by decide +kernel
theorem dX1_unpackRuns_33 : decode cX1_unpackRuns 33 = .ok (.istore 4, 2) := by decide +kernel
theorem dX1_unpackRuns_35 : decode cX1_unpackRuns 35 = .ok (.aload_n 0, 1) := by decide +kernel
theorem dX1_unpackRuns_36 : decode cX1_unpackRuns 36 = .ok (.getfield 9, 3) := by decide +kernel
theorem dX1_unpackRuns_39 : decode cX1_unpackRuns 39 = .ok (.iload_n 1, 1) := by decide +kernel
theorem dX1_unpackRuns_40 : decode cX1_unpackRuns 40 = .ok (.iload 5, 2) := by decide +kernel
theorem dX1_unpackRuns_42 : decode cX1_unpackRuns 42 = .ok (.iadd, 1) := by decide +kernel
theorem dX1_unpackRuns_43 : decode cX1_unpackRuns 43 = .ok (.iload_n 3, 1) := by decide +kernel
theorem dX1_unpackRuns_44 : decode cX1_unpackRuns 44 = .ok (.invokevirtual 111, 3) := by decide +kernel
theorem dX1_unpackRuns_47 : decode cX1_unpackRuns 47 = .ok (.iinc 4 (-1), 3) := by decide +kernel
theorem dX1_unpackRuns_50 : decode cX1_unpackRuns 50 = .ok (.iinc 5 1, 3) := by decide +kernel
theorem dX1_unpackRuns_53 : decode cX1_unpackRuns 53 = .ok (.goto (-45), 3) := by decide +kernel
theorem dX1_unpackRuns_56 : decode cX1_unpackRuns 56 = .ok (.return_, 1) := by decide +kernel
set_option maxRecDepth 20000 in
theorem ggX1_unpackDictionary_X0_read : GoodIn wsX1_unpackDictionary wsX0_read := goodIn_r _ [8, 9, 10, 35, 36] (by decide +kernel) (by decide +kernel)
set_option maxRecDepth 20000 in
theorem gX1_unpackDictionary_X0_read : GoodIn wsX1_unpackDictionary (wsV RX1 87 RX0 yX0_read wsX0_read) := goodIn_app (goodIn_of _ (by decide +kernel)) ggX1_unpackDictionary_X0_read
set_option maxRecDepth 20000 in
theorem ggX1_unpackDictionary_X2_widthOf : GoodIn wsX1_unpackDictionary wsX2_widthOf := goodIn_r _ [14] (by decide +kernel) (by decide +kernel)
set_option maxRecDepth 20000 in
theorem gX1_unpackDictionary_X2_widthOf : GoodIn wsX1_unpackDictionary (va_wsS RX1 114 yX2_widthOf wsX2_widthOf) := goodIn_app (goodIn_of _ (by decide +kernel)) ggX1_unpackDictionary_X2_widthOf
set_option maxRecDepth 20000 in
theorem ggX1_unpackDictionary_X1_readValue : GoodIn wsX1_unpackDictionary wsX1_readValue := goodIn_r _ [19, 1, 20, 4, 5, 6, 7, 8, 9, 10, 31, 32, 33, 34, 35, 36] (by decide +kernel) (by decide +kernel)
set_option maxRecDepth 20000 in
theorem gX1_unpackDictionary_X1_readValue : GoodIn wsX1_unpackDictionary (wsV RX1 108 RX1 yX1_readValue wsX1_readValue) := goodIn_app (goodIn_of _ (by decide +kernel)) ggX1_unpackDictionary_X1_readValue
set_option maxRecDepth 20000 in
theorem ggX1_unpackDictionary_X3_put : GoodIn wsX1_unpackDictionary wsX3_put := goodIn_r _ [25, 26, 37] (by decide +kernel) (by decide +kernel)
set_option maxRecDepth 20000 in
theorem gX1_unpackDictionary_X3_put : GoodIn wsX1_unpackDictionary (wsV RX1 111 RX3 yX3_put wsX3_put) := goodIn_app (goodIn_of _ (by decide +kernel)) ggX1_unpackDictionary_X3_put
set_option maxRecDepth 20000 in
theorem ggX1_unpackDictionary_X3_get : GoodIn wsX1_unpackDictionary wsX3_get := goodIn_r _ [30, 26, 37] (by decide +kernel) (by decide +kernel)
set_option maxRecDepth 20000 in
theorem gX1_unpackDictionary_X3_get : GoodIn wsX1_unpackDictionary (wsV RX1 35 RX3 yX3_get wsX3_get) := goodIn_app (goodIn_of _ (by decide +kernel)) ggX1_unpackDictionary_X3_get
theorem dX1_unpackDictionary_0 : decode cX1_unpackDictionary 0 = .ok (.aload_n 0, 1) := by decide +kernel
theorem dX1_unpackDictionary_1 : decode cX1_unpackDictionary 1 = .ok (.getfield 19, 3) := by decide +kernel
theorem dX1_unpackDictionary_4 : decode cX1_unpackDictionary 4 = .ok (.bipush 6, 2) := by decide +kernel
theorem dX1_unpackDictionary_6 : decode cX1_unpackDictionary 6 = .ok (.invokevirtual 87, 3) := by decide +kernel
theorem dX1_unpackDictionary_9 : decode cX1_unpackDictionary 9 = .ok (.istore_n 3, 1) := by decide +kernel
theorem dX1_unpackDictionary_10 : decode cX1_unpackDictionary 10 = .ok (.iload_n 3, 1) := by decide +kernel
theorem dX1_unpackDictionary_11 : decode cX1_unpackDictionary 11 = .ok (.iconst 1, 1) := by decide +kernel
theorem dX1_unpackDictionary_12 : decode cX1_unpackDictionary 12 = .ok (.isub, 1) := by decide +kernel
theorem dX1_unpackDictionary_13 : decode cX1_unpackDictionary 13 = .ok (.invokestatic 114, 3) := by decide +kernel
theorem dX1_unpackDictionary_16 : decode cX1_unpackDictionary 16 = .ok (.istore 4, 2) := by decide +kernel
theorem dX1_unpackDictionary_18 : decode cX1_unpackDictionary 18 = .ok (.iconst 0, 1) := by decide +kernel
theorem dX1_unpackDictionary_19 : decode cX1_unpackDictionary 19 = .ok (.istore 5, 2) := by decide +kernel
theorem dX1_unpackDictionary_21 : decode cX1_unpackDictionary 21 = .ok (.iload 5, 2) := by decide +kernel
theorem dX1_unpackDictionary_23 : decode cX1_unpackDictionary 23 = .ok (.iload_n 3, 1) := by decide +kernel
theorem dX1_unpackDictionary_24 : decode cX1_unpackDictionary 24 = .ok (.if_icmp .ge 22, 3) := by decide +kernel
theorem dX1_unpackDictionary_27 : decode cX1_unpackDictionary 27 = .ok (.aload_n 0, 1) := by decide +kernel
theorem dX1_unpackDictionary_28 : decode cX1_unpackDictionary 28 = .ok (.getfield 28, 3) := by decide +kernel
theorem dX1_unpackDictionary_31 : decode cX1_unpackDictionary 31 = .ok (.iload 5, 2) := by decide +kernel
theorem dX1_unpackDictionary_33 : decode cX1_unpackDictionary 33 = .ok (.aload_n 0, 1) := by decide +kernel
theorem dX1_unpackDictionary_34 : decode cX1_unpackDictionary 34 = .ok (.invokevirtual 108, 3) := by decide +kernel
theorem dX1_unpackDictionary_37 : decode cX1_unpackDictionary 37 = .ok (.invokevirtual 111, 3) := by decide +kernel
theorem dX1_unpackDictionary_40 : decode cX1_unpackDictionary 40 = .ok (.iinc 5 1, 3) := by decide +kernel
theorem dX1_unpackDictionary_43 : decode cX1_unpackDictionary 43 = .ok (.goto (-22), 3) := by decide +kernel
theorem dX1_unpackDictionary_46 : decode cX1_unpackDictionary 46 = .ok (.iconst 0, 1) := by decide +kernel
theorem dX1_unpackDictionary_47 : decode cX1_unpackDictionary 47 = .ok (.istore 5, 2) := by decide +kernel
theorem dX1_unpackDictionary_49 : decode cX1_unpackDictionary 49 = .ok (.iload 5, 2) := by decide +kernel
theorem dX1_unpackDictionary_51 : decode cX1_unpackDictionary 51 = .ok (.iload_n 2, 1) := by decide +kernel
theorem dX1_unpackDictionary_52 : decode cX1_unpackDictionary 52 = .ok (.if_icmp .ge 36, 3) := by decide +kernel
theorem dX1_unpackDictionary_55 : decode cX1_unpackDictionary 55 = .ok (.aload_n 0, 1) := by decide +kernel
theorem dX1_unpackDictionary_56 : decode cX1_unpackDictionary 56 = .ok (.getfield 9, 3) := by decide +kernel
theorem dX1_unpackDictionary_59 : decode cX1_unpackDictionary 59 = .ok (.iload_n 1, 1) := by decide +kernel
theorem dX1_unpackDictionary_60 : decode cX1_unpackDictionary 60 = .ok (.iload 5, 2) := by decide +kernel
theorem dX1_unpackDictionary_62 : decode cX1_unpackDictionary 62 = .ok (.iadd, 1) := by decide +kernel
theorem dX1_unpackDictionary_63 : decode cX1_unpackDictionary 63 = .ok (.aload_n 0, 1) := by decide +kernel
theorem dX1_unpackDictionary_64 : decode cX1_unpackDictionary 64 = .ok (.getfield 28, 3) := by decide +kernel
theorem dX1_unpackDictionary_67 : decode cX1_unpackDictionary 67 = .ok (.aload_n 0, 1) := by decide +kernel
theorem dX1_unpackDictionary_68 : decode cX1_unpackDictionary 68 = .ok (.getfield 19, 3) := by decide +kernel
theorem dX1_unpackDictionary_71 : decode cX1_unpackDictionary 71 = .ok (.iload 4, 2) := by decide +kernel
theorem dX1_unpackDictionary_73 : decode cX1_unpackDictionary 73 = .ok (.invokevirtual 87, 3) := by decide +kernel
theorem dX1_unpackDictionary_76 : decode cX1_unpackDictionary 76 = .ok (.invokevirtual 35, 3) := by decide +kernel
theorem dX1_unpackDictionary_79 : decode cX1_unpackDictionary 79 = .ok (.invokevirtual 111, 3) := by decide +kernel
theorem dX1_unpackDictionary_82 : decode cX1_unpackDictionary 82 = .ok (.iinc 5 1, 3) := by decide +kernel
theorem dX1_unpackDictionary_85 : decode cX1_unpackDictionary 85 = .ok (.goto (-36), 3) := by decide +kernel
theorem dX1_unpackDictionary_88 : decode cX1_unpackDictionary 88 = .ok (.return_, 1) := by decide +kernel
set_option maxRecDepth 20000 in
theorem ggX1_unpackFrame_X1_readValue : GoodIn wsX1_unpackFrame wsX1_readValue := goodIn_r _ [7, 1, 8, 9, 10, 11, 12, 13, 14, 15, 22, 23, 24, 25, 26, 27] (by decide +kernel) (by decide +kernel)
set_option maxRecDepth 20000 in
theorem gX1_unpackFrame_X1_readValue : GoodIn wsX1_unpackFrame (wsV RX1 108 RX1 yX1_readValue wsX1_readValue) := goodIn_app (goodIn_of _ (by decide +kernel)) ggX1_unpackFrame_X1_readValue
set_option maxRecDepth 20000 in
theorem ggX1_unpackFrame_X0_read : GoodIn wsX1_unpackFrame wsX0_read := goodIn_r _ [13, 14, 15, 26, 27] (by decide +kernel) (by decide +kernel)
set_option maxRecDepth 20000 in
theorem gX1_unpackFrame_X0_read : GoodIn wsX1_unpackFrame (wsV RX1 87 RX0 yX0_read wsX0_read) := goodIn_app (goodIn_of _ (by decide +kernel)) ggX1_unpackFrame_X0_read
set_option maxRecDepth 20000 in
theorem ggX1_unpackFrame_X3_put : GoodIn wsX1_unpackFrame wsX3_put := goodIn_r _ [20, 21, 28] (by decide +kernel) (by decide +kernel)
set_option maxRecDepth 20000 in
theorem gX1_unpackFrame_X3_put : GoodIn wsX1_unpackFrame (wsV RX1 111 RX3 yX3_put wsX3_put) := goodIn_app (goodIn_of _ (by decide +kernel)) ggX1_unpackFrame_X3_put
theorem dX1_unpackFrame_0 : decode cX1_unpackFrame 0 = .ok (.aload_n 0, 1) := by decide +kernel
theorem dX1_unpackFrame_1 : decode cX1_unpackFrame 1 = .ok (.invokevirtual 108, 3) := by decide +kernel
theorem dX1_unpackFrame_4 : decode cX1_unpackFrame 4 = .ok (.istore_n 3, 1) := by decide +kernel
theorem dX1_unpackFrame_5 : decode cX1_unpackFrame 5 = .ok (.aload_n 0, 1) := by decide +kernel
theorem dX1_unpackFrame_6 : decode cX1_unpackFrame 6 = .ok (.getfield 19, 3) := by decide +kernel
theorem dX1_unpackFrame_9 : decode cX1_unpackFrame 9 = .ok (.iconst 5, 1) := by decide +kernel
theorem dX1_unpackFrame_10 : decode cX1_unpackFrame 10 = .ok (.invokevirtual 87, 3) := by decide +kernel
theorem dX1_unpackFrame_13 : decode cX1_unpackFrame 13 = .ok (.istore 4, 2) := by decide +kernel
theorem dX1_unpackFrame_15 : decode cX1_unpackFrame 15 = .ok (.iconst 0, 1) := by decide +kernel
theorem dX1_unpackFrame_16 : decode cX1_unpackFrame 16 = .ok (.istore 5, 2) := by decide +kernel
theorem dX1_unpackFrame_18 : decode cX1_unpackFrame 18 = .ok (.iload 5, 2) := by decide +kernel
theorem dX1_unpackFrame_20 : decode cX1_unpackFrame 20 = .ok (.iload_n 2, 1) := by decide +kernel
theorem dX1_unpackFrame_21 : decode cX1_unpackFrame 21 = .ok (.if_icmp .ge 31, 3) := by decide +kernel
theorem dX1_unpackFrame_24 : decode cX1_unpackFrame 24 = .ok (.aload_n 0, 1) := by decide +kernel
theorem dX1_unpackFrame_25 : decode cX1_unpackFrame 25 = .ok (.getfield 9, 3) := by decide +kernel
theorem dX1_unpackFrame_28 : decode cX1_unpackFrame 28 = .ok (.iload_n 1, 1) := by decide +kernel
theorem dX1_unpackFrame_29 : decode cX1_unpackFrame 29 = .ok (.iload 5, 2) := by decide +kernel
theorem dX1_unpackFrame_31 : decode cX1_unpackFrame 31 = .ok (.iadd, 1) := by decide +kernel
theorem dX1_unpackFrame_32 : decode cX1_unpackFrame 32 = .ok (.iload_n 3, 1) := by decide +kernel
theorem dX1_unpackFrame_33 : decode cX1_unpackFrame 33 = .ok (.aload_n 0, 1) := by decide +kernel
theorem dX1_unpackFrame_34 : decode cX1_unpackFrame 34 = .ok (.getfield 19, 3) := by decide +kernel
theorem dX1_unpackFrame_37 : decode cX1_unpackFrame 37 = .ok (.iload 4, 2) := by decide +kernel
theorem dX1_unpackFrame_39 : decode cX1_unpackFrame 39 = .ok (.invokevirtual 87, 3) := by decide +kernel
theorem dX1_unpackFrame_42 : decode cX1_unpackFrame 42 = .ok (.iadd, 1) := by decide +kernel
theorem dX1_unpackFrame_43 : decode cX1_unpackFrame 43 = .ok (.invokevirtual 111, 3) := by decide +kernel
theorem dX1_unpackFrame_46 : decode cX1_unpackFrame 46 = .ok (.iinc 5 1, 3) := by decide +kernel
theorem dX1_unpackFrame_49 : decode cX1_unpackFrame 49 = .ok (.goto (-31), 3) := by decide +kernel
theorem dX1_unpackFrame_52 : decode cX1_unpackFrame 52 = .ok (.return_, 1) := by decide +kernel
set_option maxRecDepth 20000 in
theorem ggX1_unpackDelta_X1_readValue : GoodIn wsX1_unpackDelta wsX1_readValue := goodIn_r _ [7, 1, 8, 9, 10, 11, 12, 13, 14, 15, 25, 26, 27, 28, 29, 30] (by decide +kernel) (by decide +kernel)
set_option maxRecDepth 20000 in
theorem gX1_unpackDelta_X1_readValue : GoodIn wsX1_unpackDelta (wsV RX1 108 RX1 yX1_readValue wsX1_readValue) := goodIn_app (goodIn_of _ (by decide +kernel)) ggX1_unpackDelta_X1_readValue
set_option maxRecDepth 20000 in
theorem ggX1_unpackDelta_X0_read : GoodIn wsX1_unpackDelta wsX0_read := goodIn_r _ [13, 14, 15, 29, 30] (by decide +kernel) (by decide +kernel)
set_option maxRecDepth 20000 in
theorem gX1_unpackDelta_X0_read : GoodIn wsX1_unpackDelta (wsV RX1 87 RX0 yX0_read wsX0_read) := goodIn_app (goodIn_of _ (by decide +kernel)) ggX1_unpackDelta_X0_read
set_option maxRecDepth 20000 in
theorem ggX1_unpackDelta_X3_put : GoodIn wsX1_unpackDelta wsX3_put := goodIn_r _ [20, 21, 31] (by decide +kernel) (by decide +kernel)
set_option maxRecDepth 20000 in
theorem gX1_unpackDelta_X3_put : GoodIn wsX1_unpackDelta (wsV RX1 111 RX3 yX3_put wsX3_put) := goodIn_app (goodIn_of _ (by decide +kernel)) ggX1_unpackDelta_X3_put
set_option maxRecDepth 20000 in
theorem ggX1_unpackDelta_X1_unfold : GoodIn wsX1_unpackDelta wsX1_unfold := goodIn_r _ [24] (by decide +kernel) (by decide +kernel)
set_option maxRecDepth 20000 in
theorem gX1_unpackDelta_X1_unfold : GoodIn wsX1_unpackDelta (va_wsS RX1 117 yX1_unfold wsX1_unfold) := goodIn_app (goodIn_of _ (by decide +kernel)) ggX1_unpackDelta_X1_unfold
theorem dX1_unpackDelta_0 : decode cX1_unpackDelta 0 = .ok (.aload_n 0, 1) := by decide +kernel
theorem dX1_unpackDelta_1 : decode cX1_unpackDelta 1 = .ok (.invokevirtual 108, 3) := by decide +kernel
theorem dX1_unpackDelta_4 : decode cX1_unpackDelta 4 = .ok (.istore_n 3, 1) := by decide +kernel
theorem dX1_unpackDelta_5 : decode cX1_unpackDelta 5 = .ok (.aload_n 0, 1) := by decide +kernel
theorem dX1_unpackDelta_6 : decode cX1_unpackDelta 6 = .ok (.getfield 19, 3) := by decide +kernel
theorem dX1_unpackDelta_9 : decode cX1_unpackDelta 9 = .ok (.iconst 5, 1) := by decide +kernel
theorem dX1_unpackDelta_10 : decode cX1_unpackDelta 10 = .ok (.invokevirtual 87, 3) := by decide +kernel
theorem dX1_unpackDelta_13 : decode cX1_unpackDelta 13 = .ok (.istore 4, 2) := by decide +kernel
theorem dX1_unpackDelta_15 : decode cX1_unpackDelta 15 = .ok (.aload_n 0, 1) := by decide +kernel
theorem dX1_unpackDelta_16 : decode cX1_unpackDelta 16 = .ok (.getfield 9, 3) := by decide +kernel
theorem dX1_unpackDelta_19 : decode cX1_unpackDelta 19 = .ok (.iload_n 1, 1) := by decide +kernel
theorem dX1_unpackDelta_20 : decode cX1_unpackDelta 20 = .ok (.iload_n 3, 1) := by decide +kernel
theorem dX1_unpackDelta_21 : decode cX1_unpackDelta 21 = .ok (.invokevirtual 111, 3) := by decide +kernel
theorem dX1_unpackDelta_24 : decode cX1_unpackDelta 24 = .ok (.iconst 1, 1) := by decide +kernel
theorem dX1_unpackDelta_25 : decode cX1_unpackDelta 25 = .ok (.istore 5, 2) := by decide +kernel
theorem dX1_unpackDelta_27 : decode cX1_unpackDelta 27 = .ok (.iload 5, 2) := by decide +kernel
theorem dX1_unpackDelta_29 : decode cX1_unpackDelta 29 = .ok (.iload_n 2, 1) := by decide +kernel
theorem dX1_unpackDelta_30 : decode cX1_unpackDelta 30 = .ok (.if_icmp .ge 36, 3) := by decide +kernel
theorem dX1_unpackDelta_33 : decode cX1_unpackDelta 33 = .ok (.iload_n 3, 1) := by decide +kernel
theorem dX1_unpackDelta_34 : decode cX1_unpackDelta 34 = .ok (.aload_n 0, 1) := by decide +kernel
theorem dX1_unpackDelta_35 : decode cX1_unpackDelta 35 = .ok (.getfield 19, 3) := by decide +kernel
theorem dX1_unpackDelta_38 : decode cX1_unpackDelta 38 = .ok (.iload 4, 2) := by decide +kernel
theorem dX1_unpackDelta_40 : decode cX1_unpackDelta 40 = .ok (.invokevirtual 87, 3) := by decide +kernel
theorem dX1_unpackDelta_43 : decode cX1_unpackDelta 43 = .ok (.invokestatic 117, 3) := by decide +kernel
theorem dX1_unpackDelta_46 : decode cX1_unpackDelta 46 = .ok (.iadd, 1) := by decide +kernel
theorem dX1_unpackDelta_47 : decode cX1_unpackDelta 47 = .ok (.istore_n 3, 1) := by decide +kernel
theorem dX1_unpackDelta_48 : decode cX1_unpackDelta 48 = .ok (.aload_n 0, 1) := by decide +kernel
theorem dX1_unpackDelta_49 : decode cX1_unpackDelta 49 = .ok (.getfield 9, 3) := by decide +kernel
theorem dX1_unpackDelta_52 : decode cX1_unpackDelta 52 = .ok (.iload_n 1, 1) := by decide +kernel
theorem dX1_unpackDelta_53 : decode cX1_unpackDelta 53 = .ok (.iload 5, 2) := by decide +kernel
theorem dX1_unpackDelta_55 : decode cX1_unpackDelta 55 = .ok (.iadd, 1) := by decide +kernel
theorem dX1_unpackDelta_56 : decode cX1_unpackDelta 56 = .ok (.iload_n 3, 1) := by decide +kernel
theorem dX1_unpackDelta_57 : decode cX1_unpackDelta 57 = .ok (.invokevirtual 111, 3) := by decide +kernel
theorem dX1_unpackDelta_60 : decode cX1_unpackDelta 60 = .ok (.iinc 5 1, 3) := by decide +kernel
theorem dX1_unpackDelta_63 : decode cX1_unpackDelta 63 = .ok (.goto (-36), 3) := by decide +kernel
theorem dX1_unpackDelta_66 : decode cX1_unpackDelta 66 = .ok (.return_, 1) := by decide +kernel
theorem dX1_unfold_0 : decode cX1_unfold 0 = .ok (.iload_n 0, 1) := by decide +kernel
theorem dX1_unfold_1 : decode cX1_unfold 1 = .ok (.iconst 1, 1) := by decide +kernel
theorem dX1_unfold_2 : decode cX1_unfold 2 = .ok (.iand, 1) := by decide +kernel
theorem dX1_unfold_3 : decode cX1_unfold 3 = .ok (.ifCond .ne 9, 3) := by decide +kernel
theorem dX1_unfold_6 : decode cX1_unfold 6 = .ok (.iload_n 0, 1) := by decide +kernel
theorem dX1_unfold_7 : decode cX1_unfold 7 = .ok (.iconst 2, 1) := by decide +kernel
theorem dX1_unfold_8 : decode cX1_unfold 8 = .ok (.idiv, 1) := by decide +kernel
theorem dX1_unfold_9 : decode cX1_unfold 9 = .ok (.goto 9, 3) := by decide +kernel
theorem dX1_unfold_12 : decode cX1_unfold 12 = .ok (.iload_n 0, 1) := by decide +kernel
theorem dX1_unfold_13 : decode cX1_unfold 13 = .ok (.iconst 2, 1) := by decide +kernel
theorem dX1_unfold_14 : decode cX1_unfold 14 = .ok (.idiv, 1) := by decide +kernel
theorem dX1_unfold_15 : decode cX1_unfold 15 = .ok (.ineg, 1) := by decide +kernel
theorem dX1_unfold_16 : decode cX1_unfold 16 = .ok (.iconst 1, 1) := by decide +kernel
theorem dX1_unfold_17 : decode cX1_unfold 17 = .ok (.isub, 1) := by decide +kernel
theorem dX1_unfold_18 : decode cX1_unfold 18 = .ok (.ireturn, 1) := by decide +kernel
set_option maxRecDepth 20000 in
theorem ggX2_init_X3_init : GoodIn wsX2_init wsX3_init := goodIn_r _ [12, 13, 2, 3, 14, 15, 27] (by decide +kernel) (by decide +kernel)
set_option maxRecDepth 20000 in
theorem gX2_init_X3_init : GoodIn wsX2_init (wsX3_init) := ggX2_init_X3_init
theorem dX2_init_0 : decode cX2_init 0 = .ok (.aload_n 0, 1) := by decide +kernel
theorem dX2_init_1 : decode cX2_init 1 = .ok (.invokespecial 3, 3) := by decide +kernel
theorem dX2_init_4 : decode cX2_init 4 = .ok (.aload_n 0, 1) := by decide +kernel
theorem dX2_init_5 : decode cX2_init 5 = .ok (.aload_n 1, 1) := by decide +kernel
theorem dX2_init_6 : decode cX2_init 6 = .ok (.putfield 9, 3) := by decide +kernel
theorem dX2_init_9 : decode cX2_init 9 = .ok (.aload_n 0, 1) := by decide +kernel
theorem dX2_init_10 : decode cX2_init 10 = .ok (.new 15, 3) := by decide +kernel
theorem dX2_init_13 : decode cX2_init 13 = .ok (.dup, 1) := by decide +kernel
theorem dX2_init_14 : decode cX2_init 14 = .ok (.bipush 32, 2) := by decide +kernel
theorem dX2_init_16 : decode cX2_init 16 = .ok (.invokespecial 17, 3) := by decide +kernel
theorem dX2_init_19 : decode cX2_init 19 = .ok (.putfield 20, 3) := by decide +kernel
theorem dX2_init_22 : decode cX2_init 22 = .ok (.aload_n 0, 1) := by decide +kernel
theorem dX2_init_23 : decode cX2_init 23 = .ok (.new 15, 3) := by decide +kernel
theorem dX2_init_26 : decode cX2_init 26 = .ok (.dup, 1) := by decide +kernel
theorem dX2_init_27 : decode cX2_init 27 = .ok (.bipush 32, 2) := by decide +kernel
theorem dX2_init_29 : decode cX2_init 29 = .ok (.invokespecial 17, 3) := by decide +kernel
theorem dX2_init_32 : decode cX2_init 32 = .ok (.putfield 23, 3) := by decide +kernel
theorem dX2_init_35 : decode cX2_init 35 = .ok (.return_, 1) := by decide +kernel
set_option maxRecDepth 20000 in
theorem ggX2_study_X3_get : GoodIn wsX2_study wsX3_get := goodIn_r _ [20, 21, 48] (by decide +kernel) (by decide +kernel)
set_option maxRecDepth 20000 in
theorem gX2_study_X3_get : GoodIn wsX2_study (wsV RX2 39 RX3 yX3_get wsX3_get) := goodIn_app (goodIn_of _ (by decide +kernel)) ggX2_study_X3_get
set_option maxRecDepth 20000 in
theorem ggX2_study_X2_addDifferent : GoodIn wsX2_study wsX2_addDifferent := goodIn_r _ [26, 4, 11, 16, 17, 18, 19, 20, 21, 27, 28, 29, 30, 37, 38, 39, 40, 41, 42, 43, 44, 45, 46, 47, 48] (by decide +kernel) (by decide +kernel)
set_option maxRecDepth 20000 in
theorem gX2_study_X2_addDifferent : GoodIn wsX2_study (wsV RX2 43 RX2 yX2_addDifferent wsX2_addDifferent) := goodIn_app (goodIn_of _ (by decide +kernel)) ggX2_study_X2_addDifferent
set_option maxRecDepth 20000 in
theorem ggX2_study_X2_fold : GoodIn wsX2_study wsX2_fold := goodIn_r _ [33] (by decide +kernel) (by decide +kernel)
set_option maxRecDepth 20000 in
theorem gX2_study_X2_fold : GoodIn wsX2_study (va_wsS RX2 46 yX2_fold wsX2_fold) := goodIn_app (goodIn_of _ (by decide +kernel)) ggX2_study_X2_fold
set_option maxRecDepth 20000 in
theorem ggX2_study_X3_put : GoodIn wsX2_study wsX3_put := goodIn_r _ [30, 21, 48] (by decide +kernel) (by decide +kernel)
set_option maxRecDepth 20000 in
theorem gX2_study_X3_put : GoodIn wsX2_study (wsV RX2 55 RX3 yX3_put wsX3_put) := goodIn_app (goodIn_of _ (by decide +kernel)) ggX2_study_X3_put
set_option maxRecDepth 20000 in
theorem ggX2_study_X2_widthOf : GoodIn wsX2_study wsX2_widthOf := goodIn_r _ [36] (by decide +kernel) (by decide +kernel)
set_option maxRecDepth 20000 in
theorem gX2_study_X2_widthOf : GoodIn wsX2_study (va_wsS RX2 62 yX2_widthOf wsX2_widthOf) := goodIn_app (goodIn_of _ (by decide +kernel)) ggX2_study_X2_widthOf
theorem dX2_study_0 : decode cX2_study 0 = .ok (.aload_n 0, 1) := by decide +kernel
theorem dX2_study_1 : decode cX2_study 1 = .ok (.iload_n 1, 1) := by decide +kernel
theorem dX2_study_2 : decode cX2_study 2 = .ok (.putfield 26, 3) := by decide +kernel
theorem dX2_study_5 : decode cX2_study 5 = .ok (.aload_n 0, 1) := by decide +kernel
theorem dX2_study_6 : decode cX2_study 6 = .ok (.iload_n 2, 1) := by decide +kernel
theorem dX2_study_7 : decode cX2_study 7 = .ok (.putfield 30, 3) := by decide +kernel
theorem dX2_study_10 : decode cX2_study 10 = .ok (.aload_n 0, 1) := by decide +kernel
theorem dX2_study_11 : decode cX2_study 11 = .ok (.iconst 0, 1) := by decide +kernel
theorem dX2_study_12 : decode cX2_study 12 = .ok (.putfield 33, 3) := by decide +kernel
theorem dX2_study_15 : decode cX2_study 15 = .ok (.aload_n 0, 1) := by decide +kernel
theorem dX2_study_16 : decode cX2_study 16 = .ok (.iconst 0, 1) := by decide +kernel
theorem dX2_study_17 : decode cX2_study 17 = .ok (.putfield 36, 3) := by decide +kernel
theorem dX2_study_20 : decode cX2_study 20 = .ok (.iconst 0, 1) := by decide +kernel
theorem dX2_study_21 : decode cX2_study 21 = .ok (.istore_n 3, 1) := by decide +kernel
theorem dX2_study_22 : decode cX2_study 22 = .ok (.iconst 0, 1) := by decide +kernel
theorem dX2_study_23 : decode cX2_study 23 = .ok (.istore 4, 2) := by decide +kernel
theorem dX2_study_25 : decode cX2_study 25 = .ok (.iconst 0, 1) := by decide +kernel
theorem dX2_study_26 : decode cX2_study 26 = .ok (.istore 5, 2) := by decide +kernel
theorem dX2_study_28 : decode cX2_study 28 = .ok (.iload 5, 2) := by decide +kernel
theorem dX2_study_30 : decode cX2_study 30 = .ok (.iload_n 2, 1) := by decide +kernel
theorem dX2_study_31 : decode cX2_study 31 = .ok (.if_icmp .ge 85, 3) := by decide +kernel
theorem dX2_study_34 : decode cX2_study 34 = .ok (.aload_n 0, 1) := by decide +kernel
theorem dX2_study_35 : decode cX2_study 35 = .ok (.getfield 9, 3) := by decide +kernel
theorem dX2_study_38 : decode cX2_study 38 = .ok (.iload_n 1, 1) := by decide +kernel
theorem dX2_study_39 : decode cX2_study 39 = .ok (.iload 5, 2) := by decide +kernel
theorem dX2_study_41 : decode cX2_study 41 = .ok (.iadd, 1) := by decide +kernel
theorem dX2_study_42 : decode cX2_study 42 = .ok (.invokevirtual 39, 3) := by decide +kernel
theorem dX2_study_45 : decode cX2_study 45 = .ok (.istore 6, 2) := by decide +kernel
theorem dX2_study_47 : decode cX2_study 47 = .ok (.iload 5, 2) := by decide +kernel
theorem dX2_study_49 : decode cX2_study 49 = .ok (.ifCond .eq 10, 3) := by decide +kernel
theorem dX2_study_52 : decode cX2_study 52 = .ok (.iload 6, 2) := by decide +kernel
theorem dX2_study_54 : decode cX2_study 54 = .ok (.iload 4, 2) := by decide +kernel
theorem dX2_study_56 : decode cX2_study 56 = .ok (.if_icmp .eq 19, 3) := by decide +kernel
theorem dX2_study_59 : decode cX2_study 59 = .ok (.aload_n 0, 1) := by decide +kernel
theorem dX2_study_60 : decode cX2_study 60 = .ok (.dup, 1) := by decide +kernel
theorem dX2_study_61 : decode cX2_study 61 = .ok (.getfield 33, 3) := by decide +kernel
theorem dX2_study_64 : decode cX2_study 64 = .ok (.iconst 1, 1) := by decide +kernel
theorem dX2_study_65 : decode cX2_study 65 = .ok (.iadd, 1) := by decide +kernel
theorem dX2_study_66 : decode cX2_study 66 = .ok (.putfield 33, 3) := by decide +kernel
theorem dX2_study_69 : decode cX2_study 69 = .ok (.aload_n 0, 1) := by decide +kernel
theorem dX2_study_70 : decode cX2_study 70 = .ok (.iload 6, 2) := by decide +kernel
theorem dX2_study_72 : decode cX2_study 72 = .ok (.invokevirtual 43, 3) := by decide +kernel
theorem dX2_study_75 : decode cX2_study 75 = .ok (.iload 5, 2) := by decide +kernel
theorem dX2_study_77 : decode cX2_study 77 = .ok (.ifCond .le 16, 3) := by decide +kernel
theorem dX2_study_80 : decode cX2_study 80 = .ok (.iload_n 3, 1) := by decide +kernel
theorem dX2_study_81 : decode cX2_study 81 = .ok (.iload 6, 2) := by decide +kernel
theorem dX2_study_83 : decode cX2_study 83 = .ok (.iload 4, 2) := by decide +kernel
theorem dX2_study_85 : decode cX2_study 85 = .ok (.isub, 1) := by decide +kernel
theorem dX2_study_86 : decode cX2_study 86 = .ok (.invokestatic 46, 3) := by decide +kernel
theorem dX2_study_89 : decode cX2_study 89 = .ok (.invokestatic 49, 3) := by decide +kernel
theorem dX2_study_92 : decode cX2_study 92 = .ok (.istore_n 3, 1) := by decide +kernel
theorem dX2_study_93 : decode cX2_study 93 = .ok (.aload_n 0, 1) := by decide +kernel
theorem dX2_study_94 : decode cX2_study 94 = .ok (.getfield 20, 3) := by decide +kernel
theorem dX2_study_97 : decode cX2_study 97 = .ok (.iload 5, 2) := by decide +kernel
theorem dX2_study_99 : decode cX2_study 99 = .ok (.aload_n 0, 1) := by decide +kernel
theorem dX2_study_100 : decode cX2_study 100 = .ok (.getfield 33, 3) := by decide +kernel
theorem dX2_study_103 : decode cX2_study 103 = .ok (.invokevirtual 55, 3) := by decide +kernel
theorem dX2_study_106 : decode cX2_study 106 = .ok (.iload 6, 2) := by decide +kernel
theorem dX2_study_108 : decode cX2_study 108 = .ok (.istore 4, 2) := by decide +kernel
theorem dX2_study_110 : decode cX2_study 110 = .ok (.iinc 5 1, 3) := by decide +kernel
theorem dX2_study_113 : decode cX2_study 113 = .ok (.goto (-85), 3) := by decide +kernel
theorem dX2_study_116 : decode cX2_study 116 = .ok (.aload_n 0, 1) := by decide +kernel
theorem dX2_study_117 : decode cX2_study 117 = .ok (.aload_n 0, 1) := by decide +kernel
theorem dX2_study_118 : decode cX2_study 118 = .ok (.getfield 23, 3) := by decide +kernel
theorem dX2_study_121 : decode cX2_study 121 = .ok (.iconst 0, 1) := by decide +kernel
theorem dX2_study_122 : decode cX2_study 122 = .ok (.invokevirtual 39, 3) := by decide +kernel
theorem dX2_study_125 : decode cX2_study 125 = .ok (.putfield 59, 3) := by decide +kernel
theorem dX2_study_128 : decode cX2_study 128 = .ok (.aload_n 0, 1) := by decide +kernel
theorem dX2_study_129 : decode cX2_study 129 = .ok (.aload_n 0, 1) := by decide +kernel
theorem dX2_study_130 : decode cX2_study 130 = .ok (.getfield 36, 3) := by decide +kernel
theorem dX2_study_133 : decode cX2_study 133 = .ok (.iconst 1, 1) := by decide +kernel
theorem dX2_study_134 : decode cX2_study 134 = .ok (.isub, 1) := by decide +kernel
theorem dX2_study_135 : decode cX2_study 135 = .ok (.invokestatic 62, 3) := by decide +kernel
theorem dX2_study_138 : decode cX2_study 138 = .ok (.putfield 65, 3) := by decide +kernel
theorem dX2_study_141 : decode cX2_study 141 = .ok (.aload_n 0, 1) := by decide +kernel
theorem dX2_study_142 : decode cX2_study 142 = .ok (.aload_n 0, 1) := by decide +kernel
theorem dX2_study_143 : decode cX2_study 143 = .ok (.getfield 23, 3) := by decide +kernel
theorem dX2_study_146 : decode cX2_study 146 = .ok (.aload_n 0, 1) := by decide +kernel
theorem dX2_study_147 : decode cX2_study 147 = .ok (.getfield 36, 3) := by decide +kernel
theorem dX2_study_150 : decode cX2_study 150 = .ok (.iconst 1, 1) := by decide +kernel
theorem dX2_study_151 : decode cX2_study 151 = .ok (.isub, 1) := by decide +kernel
theorem dX2_study_152 : decode cX2_study 152 = .ok (.invokevirtual 39, 3) := by decide +kernel
theorem dX2_study_155 : decode cX2_study 155 = .ok (.aload_n 0, 1) := by decide +kernel
theorem dX2_study_156 : decode cX2_study 156 = .ok (.getfield 59, 3) := by decide +kernel
theorem dX2_study_159 : decode cX2_study 159 = .ok (.isub, 1) := by decide +kernel
theorem dX2_study_160 : decode cX2_study 160 = .ok (.invokestatic 62, 3) := by decide +kernel
theorem dX2_study_163 : decode cX2_study 163 = .ok (.putfield 68, 3) := by decide +kernel
theorem dX2_study_166 : decode cX2_study 166 = .ok (.aload_n 0, 1) := by decide +kernel
theorem dX2_study_167 : decode cX2_study 167 = .ok (.iload_n 3, 1) := by decide +kernel
theorem dX2_study_168 : decode cX2_study 168 = .ok (.invokestatic 62, 3) := by decide +kernel
theorem dX2_study_171 : decode cX2_study 171 = .ok (.putfield 71, 3) := by decide +kernel
theorem dX2_study_174 : decode cX2_study 174 = .ok (.return_, 1) := by decide +kernel
set_option maxRecDepth 20000 in
theorem ggX2_addDifferent_X3_get : GoodIn wsX2_addDifferent wsX3_get := goodIn_r _ [7, 8, 24] (by decide +kernel) (by decide +kernel)
set_option maxRecDepth 20000 in
theorem gX2_addDifferent_X3_get : GoodIn wsX2_addDifferent (wsV RX2 39 RX3 yX3_get wsX3_get) := goodIn_app (goodIn_of _ (by decide +kernel)) ggX2_addDifferent_X3_get
set_option maxRecDepth 20000 in
theorem ggX2_addDifferent_X3_put : GoodIn wsX2_addDifferent wsX3_put := goodIn_r _ [12, 8, 24] (by decide +kernel) (by decide +kernel)
set_option maxRecDepth 20000 in
theorem gX2_addDifferent_X3_put : GoodIn wsX2_addDifferent (wsV RX2 55 RX3 yX3_put wsX3_put) := goodIn_app (goodIn_of _ (by decide +kernel)) ggX2_addDifferent_X3_put
theorem dX2_addDifferent_0 : decode cX2_addDifferent 0 = .ok (.iconst 0, 1) := by decide +kernel
theorem dX2_addDifferent_1 : decode cX2_addDifferent 1 = .ok (.istore_n 2, 1) := by decide +kernel
theorem dX2_addDifferent_2 : decode cX2_addDifferent 2 = .ok (.iconst 0, 1) := by decide +kernel
theorem dX2_addDifferent_3 : decode cX2_addDifferent 3 = .ok (.istore_n 3, 1) := by decide +kernel
theorem dX2_addDifferent_4 : decode cX2_addDifferent 4 = .ok (.iload_n 3, 1) := by decide +kernel
theorem dX2_addDifferent_5 : decode cX2_addDifferent 5 = .ok (.aload_n 0, 1) := by decide +kernel
theorem dX2_addDifferent_6 : decode cX2_addDifferent 6 = .ok (.getfield 36, 3) := by decide +kernel
theorem dX2_addDifferent_9 : decode cX2_addDifferent 9 = .ok (.if_icmp .ge 24, 3) := by decide +kernel
theorem dX2_addDifferent_12 : decode cX2_addDifferent 12 = .ok (.aload_n 0, 1) := by decide +kernel
theorem dX2_addDifferent_13 : decode cX2_addDifferent 13 = .ok (.getfield 23, 3) := by decide +kernel
theorem dX2_addDifferent_16 : decode cX2_addDifferent 16 = .ok (.iload_n 3, 1) := by decide +kernel
theorem dX2_addDifferent_17 : decode cX2_addDifferent 17 = .ok (.invokevirtual 39, 3) := by decide +kernel
theorem dX2_addDifferent_20 : decode cX2_addDifferent 20 = .ok (.iload_n 1, 1) := by decide +kernel
theorem dX2_addDifferent_21 : decode cX2_addDifferent 21 = .ok (.if_icmp .ge 6, 3) := by decide +kernel
theorem dX2_addDifferent_24 : decode cX2_addDifferent 24 = .ok (.iinc 2 1, 3) := by decide +kernel
theorem dX2_addDifferent_27 : decode cX2_addDifferent 27 = .ok (.iinc 3 1, 3) := by decide +kernel
theorem dX2_addDifferent_30 : decode cX2_addDifferent 30 = .ok (.goto (-26), 3) := by decide +kernel
theorem dX2_addDifferent_33 : decode cX2_addDifferent 33 = .ok (.iload_n 2, 1) := by decide +kernel
theorem dX2_addDifferent_34 : decode cX2_addDifferent 34 = .ok (.aload_n 0, 1) := by decide +kernel
theorem dX2_addDifferent_35 : decode cX2_addDifferent 35 = .ok (.getfield 36, 3) := by decide +kernel
theorem dX2_addDifferent_38 : decode cX2_addDifferent 38 = .ok (.if_icmp .ge 16, 3) := by decide +kernel
theorem dX2_addDifferent_41 : decode cX2_addDifferent 41 = .ok (.aload_n 0, 1) := by decide +kernel
theorem dX2_addDifferent_42 : decode cX2_addDifferent 42 = .ok (.getfield 23, 3) := by decide +kernel
theorem dX2_addDifferent_45 : decode cX2_addDifferent 45 = .ok (.iload_n 2, 1) := by decide +kernel
theorem dX2_addDifferent_46 : decode cX2_addDifferent 46 = .ok (.invokevirtual 39, 3) := by decide +kernel
theorem dX2_addDifferent_49 : decode cX2_addDifferent 49 = .ok (.iload_n 1, 1) := by decide +kernel
theorem dX2_addDifferent_50 : decode cX2_addDifferent 50 = .ok (.if_icmp .ne 4, 3) := by decide +kernel
theorem dX2_addDifferent_53 : decode cX2_addDifferent 53 = .ok (.return_, 1) := by decide +kernel
theorem dX2_addDifferent_54 : decode cX2_addDifferent 54 = .ok (.aload_n 0, 1) := by decide +kernel
theorem dX2_addDifferent_55 : decode cX2_addDifferent 55 = .ok (.getfield 36, 3) := by decide +kernel
theorem dX2_addDifferent_58 : decode cX2_addDifferent 58 = .ok (.istore_n 3, 1) := by decide +kernel
theorem dX2_addDifferent_59 : decode cX2_addDifferent 59 = .ok (.iload_n 3, 1) := by decide +kernel
theorem dX2_addDifferent_60 : decode cX2_addDifferent 60 = .ok (.iload_n 2, 1) := by decide +kernel
theorem dX2_addDifferent_61 : decode cX2_addDifferent 61 = .ok (.if_icmp .le 27, 3) := by decide +kernel
theorem dX2_addDifferent_64 : decode cX2_addDifferent 64 = .ok (.aload_n 0, 1) := by decide +kernel
theorem dX2_addDifferent_65 : decode cX2_addDifferent 65 = .ok (.getfield 23, 3) := by decide +kernel
theorem dX2_addDifferent_68 : decode cX2_addDifferent 68 = .ok (.iload_n 3, 1) := by decide +kernel
theorem dX2_addDifferent_69 : decode cX2_addDifferent 69 = .ok (.aload_n 0, 1) := by decide +kernel
theorem dX2_addDifferent_70 : decode cX2_addDifferent 70 = .ok (.getfield 23, 3) := by decide +kernel
theorem dX2_addDifferent_73 : decode cX2_addDifferent 73 = .ok (.iload_n 3, 1) := by decide +kernel
theorem dX2_addDifferent_74 : decode cX2_addDifferent 74 = .ok (.iconst 1, 1) := by decide +kernel
theorem dX2_addDifferent_75 : decode cX2_addDifferent 75 = .ok (.isub, 1) := by decide +kernel
theorem dX2_addDifferent_76 : decode cX2_addDifferent 76 = .ok (.invokevirtual 39, 3) := by decide +kernel
theorem dX2_addDifferent_79 : decode cX2_addDifferent 79 = .ok (.invokevirtual 55, 3) := by decide +kernel
theorem dX2_addDifferent_82 : decode cX2_addDifferent 82 = .ok (.iinc 3 (-1), 3) := by decide +kernel
theorem dX2_addDifferent_85 : decode cX2_addDifferent 85 = .ok (.goto (-26), 3) := by decide +kernel
theorem dX2_addDifferent_88 : decode cX2_addDifferent 88 = .ok (.aload_n 0, 1) := by decide +kernel
theorem dX2_addDifferent_89 : decode cX2_addDifferent 89 = .ok (.getfield 23, 3) := by decide +kernel
theorem dX2_addDifferent_92 : decode cX2_addDifferent 92 = .ok (.iload_n 2, 1) := by decide +kernel
theorem dX2_addDifferent_93 : decode cX2_addDifferent 93 = .ok (.iload_n 1, 1) := by decide +kernel
theorem dX2_addDifferent_94 : decode cX2_addDifferent 94 = .ok (.invokevirtual 55, 3) := by decide +kernel
theorem dX2_addDifferent_97 : decode cX2_addDifferent 97 = .ok (.aload_n 0, 1) := by decide +kernel
theorem dX2_addDifferent_98 : decode cX2_addDifferent 98 = .ok (.dup, 1) := by decide +kernel
theorem dX2_addDifferent_99 : decode cX2_addDifferent 99 = .ok (.getfield 36, 3) := by decide +kernel
theorem dX2_addDifferent_102 : decode cX2_addDifferent 102 = .ok (.iconst 1, 1) := by decide +kernel
theorem dX2_addDifferent_103 : decode cX2_addDifferent 103 = .ok (.iadd, 1) := by decide +kernel
theorem dX2_addDifferent_104 : decode cX2_addDifferent 104 = .ok (.putfield 36, 3) := by decide +kernel
theorem dX2_addDifferent_107 : decode cX2_addDifferent 107 = .ok (.return_, 1) := by decide +kernel
theorem dX2_fold_0 : decode cX2_fold 0 = .ok (.iload_n 0, 1) := by decide +kernel
theorem dX2_fold_1 : decode cX2_fold 1 = .ok (.ifCond .lt 9, 3) := by decide +kernel
theorem dX2_fold_4 : decode cX2_fold 4 = .ok (.iconst 2, 1) := by decide +kernel
theorem dX2_fold_5 : decode cX2_fold 5 = .ok (.iload_n 0, 1) := by decide +kernel
theorem dX2_fold_6 : decode cX2_fold 6 = .ok (.imul, 1) := by decide +kernel
theorem dX2_fold_7 : decode cX2_fold 7 = .ok (.goto 9, 3) := by decide +kernel
theorem dX2_fold_10 : decode cX2_fold 10 = .ok (.bipush (-2), 2) := by decide +kernel
theorem dX2_fold_12 : decode cX2_fold 12 = .ok (.iload_n 0, 1) := by decide +kernel
theorem dX2_fold_13 : decode cX2_fold 13 = .ok (.imul, 1) := by decide +kernel
theorem dX2_fold_14 : decode cX2_fold 14 = .ok (.iconst 1, 1) := by decide +kernel
theorem dX2_fold_15 : decode cX2_fold 15 = .ok (.isub, 1) := by decide +kernel
theorem dX2_fold_16 : decode cX2_fold 16 = .ok (.ireturn, 1) := by decide +kernel
theorem dX2_widthOf_0 : decode cX2_widthOf 0 = .ok (.iconst 0, 1) := by decide +kernel
theorem dX2_widthOf_1 : decode cX2_widthOf 1 = .ok (.istore_n 1, 1) := by decide +kernel
theorem dX2_widthOf_2 : decode cX2_widthOf 2 = .ok (.iload_n 1, 1) := by decide +kernel
theorem dX2_widthOf_3 : decode cX2_widthOf 3 = .ok (.bipush 30, 2) := by decide +kernel
theorem dX2_widthOf_5 : decode cX2_widthOf 5 = .ok (.if_icmp .ge 16, 3) := by decide +kernel
theorem dX2_widthOf_8 : decode cX2_widthOf 8 = .ok (.iload_n 0, 1) := by decide +kernel
theorem dX2_widthOf_9 : decode cX2_widthOf 9 = .ok (.iconst 1, 1) := by decide +kernel
theorem dX2_widthOf_10 : decode cX2_widthOf 10 = .ok (.iload_n 1, 1) := by decide +kernel
theorem dX2_widthOf_11 : decode cX2_widthOf 11 = .ok (.ishl, 1) := by decide +kernel
theorem dX2_widthOf_12 : decode cX2_widthOf 12 = .ok (.if_icmp .lt 9, 3) := by decide +kernel
theorem dX2_widthOf_15 : decode cX2_widthOf 15 = .ok (.iinc 1 1, 3) := by decide +kernel
theorem dX2_widthOf_18 : decode cX2_widthOf 18 = .ok (.goto (-16), 3) := by decide +kernel
theorem dX2_widthOf_21 : decode cX2_widthOf 21 = .ok (.iload_n 1, 1) := by decide +kernel
theorem dX2_widthOf_22 : decode cX2_widthOf 22 = .ok (.ireturn, 1) := by decide +kernel
theorem dX2_differentCount_0 : decode cX2_differentCount 0 = .ok (.aload_n 0, 1) := by decide +kernel
theorem dX2_differentCount_1 : decode cX2_differentCount 1 = .ok (.getfield 36, 3) := by decide +kernel
theorem dX2_differentCount_4 : decode cX2_differentCount 4 = .ok (.ireturn, 1) := by decide +kernel
set_option maxRecDepth 20000 in
theorem ggX2_differentAt_X3_get : GoodIn wsX2_differentAt wsX3_get := goodIn_r _ [6, 7, 19] (by decide +kernel) (by decide +kernel)
set_option maxRecDepth 20000 in
theorem gX2_differentAt_X3_get : GoodIn wsX2_differentAt (wsV RX2 39 RX3 yX3_get wsX3_get) := goodIn_app (goodIn_of _ (by decide +kernel)) ggX2_differentAt_X3_get
theorem dX2_differentAt_0 : decode cX2_differentAt 0 = .ok (.aload_n 0, 1) := by decide +kernel
theorem dX2_differentAt_1 : decode cX2_differentAt 1 = .ok (.getfield 23, 3) := by decide +kernel
theorem dX2_differentAt_4 : decode cX2_differentAt 4 = .ok (.iload_n 1, 1) := by decide +kernel
theorem dX2_differentAt_5 : decode cX2_differentAt 5 = .ok (.invokevirtual 39, 3) := by decide +kernel
theorem dX2_differentAt_8 : decode cX2_differentAt 8 = .ok (.ireturn, 1) := by decide +kernel
set_option maxRecDepth 20000 in
theorem ggX2_indexOf_X3_find : GoodIn wsX2_indexOf wsX3_find := goodIn_r _ [7, 8, 20] (by decide +kernel) (by decide +kernel)
set_option maxRecDepth 20000 in
theorem gX2_indexOf_X3_find : GoodIn wsX2_indexOf (wsV RX2 74 RX3 yX3_find wsX3_find) := goodIn_app (goodIn_of _ (by decide +kernel)) ggX2_indexOf_X3_find
theorem dX2_indexOf_0 : decode cX2_indexOf 0 = .ok (.aload_n 0, 1) := by decide +kernel
theorem dX2_indexOf_1 : decode cX2_indexOf 1 = .ok (.getfield 23, 3) := by decide +kernel
theorem dX2_indexOf_4 : decode cX2_indexOf 4 = .ok (.iload_n 1, 1) := by decide +kernel
theorem dX2_indexOf_5 : decode cX2_indexOf 5 = .ok (.aload_n 0, 1) := by decide +kernel
theorem dX2_indexOf_6 : decode cX2_indexOf 6 = .ok (.getfield 36, 3) := by decide +kernel
theorem dX2_indexOf_9 : decode cX2_indexOf 9 = .ok (.invokevirtual 74, 3) := by decide +kernel
theorem dX2_indexOf_12 : decode cX2_indexOf 12 = .ok (.ireturn, 1) := by decide +kernel
theorem dX2_indexWidth_0 : decode cX2_indexWidth 0 = .ok (.aload_n 0, 1) := by decide +kernel
theorem dX2_indexWidth_1 : decode cX2_indexWidth 1 = .ok (.getfield 65, 3) := by decide +kernel
theorem dX2_indexWidth_4 : decode cX2_indexWidth 4 = .ok (.ireturn, 1) := by decide +kernel
theorem dX2_least_0 : decode cX2_least 0 = .ok (.aload_n 0, 1) := by decide +kernel
theorem dX2_least_1 : decode cX2_least 1 = .ok (.getfield 59, 3) := by decide +kernel
theorem dX2_least_4 : decode cX2_least 4 = .ok (.ireturn, 1) := by decide +kernel
theorem dX2_frameWidth_0 : decode cX2_frameWidth 0 = .ok (.aload_n 0, 1) := by decide +kernel
theorem dX2_frameWidth_1 : decode cX2_frameWidth 1 = .ok (.getfield 68, 3) := by decide +kernel
theorem dX2_frameWidth_4 : decode cX2_frameWidth 4 = .ok (.ireturn, 1) := by decide +kernel
theorem dX2_deltaWidth_0 : decode cX2_deltaWidth 0 = .ok (.aload_n 0, 1) := by decide +kernel
theorem dX2_deltaWidth_1 : decode cX2_deltaWidth 1 = .ok (.getfield 71, 3) := by decide +kernel
theorem dX2_deltaWidth_4 : decode cX2_deltaWidth 4 = .ok (.ireturn, 1) := by decide +kernel
theorem dX2_isPossible_0 : decode cX2_isPossible 0 = .ok (.iload_n 1, 1) := by decide +kernel
theorem dX2_isPossible_1 : decode cX2_isPossible 1 = .ok (.iconst 1, 1) := by decide +kernel
theorem dX2_isPossible_2 : decode cX2_isPossible 2 = .ok (.if_icmp .ne 11, 3) := by decide +kernel
theorem dX2_isPossible_5 : decode cX2_isPossible 5 = .ok (.aload_n 0, 1) := by decide +kernel
theorem dX2_isPossible_6 : decode cX2_isPossible 6 = .ok (.getfield 33, 3) := by decide +kernel
theorem dX2_isPossible_9 : decode cX2_isPossible 9 = .ok (.iconst 1, 1) := by decide +kernel
theorem dX2_isPossible_10 : decode cX2_isPossible 10 = .ok (.if_icmp .ne 7, 3) := by decide +kernel
theorem dX2_isPossible_13 : decode cX2_isPossible 13 = .ok (.iconst 1, 1) := by decide +kernel
theorem dX2_isPossible_14 : decode cX2_isPossible 14 = .ok (.goto 4, 3) := by decide +kernel
theorem dX2_isPossible_17 : decode cX2_isPossible 17 = .ok (.iconst 0, 1) := by decide +kernel
theorem dX2_isPossible_18 : decode cX2_isPossible 18 = .ok (.ireturn, 1) := by decide +kernel
set_option maxRecDepth 20000 in
theorem ggX2_sizeOf_X2_isPossible : GoodIn wsX2_sizeOf wsX2_isPossible := goodIn_r _ [11, 2, 12, 13, 14, 15, 16, 17, 18, 19, 20, 21, 22] (by decide +kernel) (by decide +kernel)
set_option maxRecDepth 20000 in
theorem gX2_sizeOf_X2_isPossible : GoodIn wsX2_sizeOf (wsV RX2 77 RX2 yX2_isPossible wsX2_isPossible) := goodIn_app (goodIn_of _ (by decide +kernel)) ggX2_sizeOf_X2_isPossible
theorem dX2_sizeOf_0 : decode cX2_sizeOf 0 = .ok (.iload_n 1, 1) := by decide +kernel
theorem dX2_sizeOf_1 : decode cX2_sizeOf 1 = .ok (.tableswitch 100 0 4 #[35, 43, 58, 66, 87], 35) := by decide +kernel
theorem dX2_sizeOf_36 : decode cX2_sizeOf 36 = .ok (.aload_n 0, 1) := by decide +kernel
theorem dX2_sizeOf_37 : decode cX2_sizeOf 37 = .ok (.getfield 30, 3) := by decide +kernel
theorem dX2_sizeOf_40 : decode cX2_sizeOf 40 = .ok (.bipush 18, 2) := by decide +kernel
theorem dX2_sizeOf_42 : decode cX2_sizeOf 42 = .ok (.imul, 1) := by decide +kernel
theorem dX2_sizeOf_43 : decode cX2_sizeOf 43 = .ok (.ireturn, 1) := by decide +kernel
theorem dX2_sizeOf_44 : decode cX2_sizeOf 44 = .ok (.aload_n 0, 1) := by decide +kernel
theorem dX2_sizeOf_45 : decode cX2_sizeOf 45 = .ok (.iconst 1, 1) := by decide +kernel
theorem dX2_sizeOf_46 : decode cX2_sizeOf 46 = .ok (.invokevirtual 77, 3) := by decide +kernel
theorem dX2_sizeOf_49 : decode cX2_sizeOf 49 = .ok (.ifCond .eq 8, 3) := by decide +kernel
theorem dX2_sizeOf_52 : decode cX2_sizeOf 52 = .ok (.bipush 18, 2) := by decide +kernel
theorem dX2_sizeOf_54 : decode cX2_sizeOf 54 = .ok (.goto 4, 3) := by decide +kernel
theorem dX2_sizeOf_57 : decode cX2_sizeOf 57 = .ok (.iconst (-1), 1) := by decide +kernel
theorem dX2_sizeOf_58 : decode cX2_sizeOf 58 = .ok (.ireturn, 1) := by decide +kernel
theorem dX2_sizeOf_59 : decode cX2_sizeOf 59 = .ok (.aload_n 0, 1) := by decide +kernel
theorem dX2_sizeOf_60 : decode cX2_sizeOf 60 = .ok (.getfield 33, 3) := by decide +kernel
theorem dX2_sizeOf_63 : decode cX2_sizeOf 63 = .ok (.bipush 24, 2) := by decide +kernel
theorem dX2_sizeOf_65 : decode cX2_sizeOf 65 = .ok (.imul, 1) := by decide +kernel
theorem dX2_sizeOf_66 : decode cX2_sizeOf 66 = .ok (.ireturn, 1) := by decide +kernel
theorem dX2_sizeOf_67 : decode cX2_sizeOf 67 = .ok (.bipush 6, 2) := by decide +kernel
theorem dX2_sizeOf_69 : decode cX2_sizeOf 69 = .ok (.aload_n 0, 1) := by decide +kernel
theorem dX2_sizeOf_70 : decode cX2_sizeOf 70 = .ok (.getfield 36, 3) := by decide +kernel
theorem dX2_sizeOf_73 : decode cX2_sizeOf 73 = .ok (.bipush 18, 2) := by decide +kernel
theorem dX2_sizeOf_75 : decode cX2_sizeOf 75 = .ok (.imul, 1) := by decide +kernel
theorem dX2_sizeOf_76 : decode cX2_sizeOf 76 = .ok (.iadd, 1) := by decide +kernel
theorem dX2_sizeOf_77 : decode cX2_sizeOf 77 = .ok (.aload_n 0, 1) := by decide +kernel
theorem dX2_sizeOf_78 : decode cX2_sizeOf 78 = .ok (.getfield 30, 3) := by decide +kernel
theorem dX2_sizeOf_81 : decode cX2_sizeOf 81 = .ok (.aload_n 0, 1) := by decide +kernel
theorem dX2_sizeOf_82 : decode cX2_sizeOf 82 = .ok (.getfield 65, 3) := by decide +kernel
theorem dX2_sizeOf_85 : decode cX2_sizeOf 85 = .ok (.imul, 1) := by decide +kernel
theorem dX2_sizeOf_86 : decode cX2_sizeOf 86 = .ok (.iadd, 1) := by decide +kernel
theorem dX2_sizeOf_87 : decode cX2_sizeOf 87 = .ok (.ireturn, 1) := by decide +kernel
theorem dX2_sizeOf_88 : decode cX2_sizeOf 88 = .ok (.bipush 23, 2) := by decide +kernel
theorem dX2_sizeOf_90 : decode cX2_sizeOf 90 = .ok (.aload_n 0, 1) := by decide +kernel
theorem dX2_sizeOf_91 : decode cX2_sizeOf 91 = .ok (.getfield 30, 3) := by decide +kernel
theorem dX2_sizeOf_94 : decode cX2_sizeOf 94 = .ok (.aload_n 0, 1) := by decide +kernel
theorem dX2_sizeOf_95 : decode cX2_sizeOf 95 = .ok (.getfield 68, 3) := by decide +kernel
theorem dX2_sizeOf_98 : decode cX2_sizeOf 98 = .ok (.imul, 1) := by decide +kernel
theorem dX2_sizeOf_99 : decode cX2_sizeOf 99 = .ok (.iadd, 1) := by decide +kernel
theorem dX2_sizeOf_100 : decode cX2_sizeOf 100 = .ok (.ireturn, 1) := by decide +kernel
theorem dX2_sizeOf_101 : decode cX2_sizeOf 101 = .ok (.bipush 23, 2) := by decide +kernel
theorem dX2_sizeOf_103 : decode cX2_sizeOf 103 = .ok (.aload_n 0, 1) := by decide +kernel
theorem dX2_sizeOf_104 : decode cX2_sizeOf 104 = .ok (.getfield 30, 3) := by decide +kernel
theorem dX2_sizeOf_107 : decode cX2_sizeOf 107 = .ok (.iconst 1, 1) := by decide +kernel
theorem dX2_sizeOf_108 : decode cX2_sizeOf 108 = .ok (.isub, 1) := by decide +kernel
theorem dX2_sizeOf_109 : decode cX2_sizeOf 109 = .ok (.aload_n 0, 1) := by decide +kernel
theorem dX2_sizeOf_110 : decode cX2_sizeOf 110 = .ok (.getfield 71, 3) := by decide +kernel
theorem dX2_sizeOf_113 : decode cX2_sizeOf 113 = .ok (.imul, 1) := by decide +kernel
theorem dX2_sizeOf_114 : decode cX2_sizeOf 114 = .ok (.iadd, 1) := by decide +kernel
theorem dX2_sizeOf_115 : decode cX2_sizeOf 115 = .ok (.ireturn, 1) := by decide +kernel
set_option maxRecDepth 20000 in
theorem ggX2_costOf_X4_aOf : GoodIn wsX2_costOf wsX4_aOf := goodIn_r _ [14, 15, 16, 17, 18, 19, 20, 21, 71, 72, 73, 74, 75, 76] (by decide +kernel) (by decide +kernel)
set_option maxRecDepth 20000 in
theorem gX2_costOf_X4_aOf : GoodIn wsX2_costOf (wsV RX2 81 RX4 yX4_aOf wsX4_aOf) := goodIn_app (goodIn_of _ (by decide +kernel)) ggX2_costOf_X4_aOf
set_option maxRecDepth 20000 in
theorem ggX2_costOf_X4_kindOf : GoodIn wsX2_costOf wsX4_kindOf := goodIn_r _ [25, 26, 16, 17, 18, 19, 20, 21, 71, 72, 73, 74, 75, 76] (by decide +kernel) (by decide +kernel)
set_option maxRecDepth 20000 in
theorem gX2_costOf_X4_kindOf : GoodIn wsX2_costOf (wsV RX2 86 RX4 yX4_kindOf wsX4_kindOf) := goodIn_app (goodIn_of _ (by decide +kernel)) ggX2_costOf_X4_kindOf
set_option maxRecDepth 20000 in
theorem ggX2_costOf_X2_costOfPoint : GoodIn wsX2_costOf wsX2_costOfPoint := goodIn_r _ [31, 32, 33, 17, 18, 19, 20, 21, 60, 61, 62, 63, 64, 65, 66, 67, 68, 69, 70, 76] (by decide +kernel) (by decide +kernel)
set_option maxRecDepth 20000 in
theorem gX2_costOf_X2_costOfPoint : GoodIn wsX2_costOf (wsV RX2 89 RX2 yX2_costOfPoint wsX2_costOfPoint) := goodIn_app (goodIn_of _ (by decide +kernel)) ggX2_costOf_X2_costOfPoint
set_option maxRecDepth 20000 in
theorem ggX2_costOf_X4_bOf : GoodIn wsX2_costOf wsX4_bOf := goodIn_r _ [37, 38, 16, 17, 18, 19, 20, 21, 71, 72, 73, 74, 75, 76] (by decide +kernel) (by decide +kernel)
set_option maxRecDepth 20000 in
theorem gX2_costOf_X4_bOf : GoodIn wsX2_costOf (wsV RX2 92 RX4 yX4_bOf wsX4_bOf) := goodIn_app (goodIn_of _ (by decide +kernel)) ggX2_costOf_X4_bOf
set_option maxRecDepth 20000 in
theorem ggX2_costOf_X2_costOfSum : GoodIn wsX2_costOf wsX2_costOfSum := goodIn_r _ [42, 32, 43, 33, 17, 18, 19, 20, 21, 60, 61, 62, 63, 64, 65, 66, 67, 68, 69, 70, 76] (by decide +kernel) (by decide +kernel)
set_option maxRecDepth 20000 in
theorem gX2_costOf_X2_costOfSum : GoodIn wsX2_costOf (wsV RX2 98 RX2 yX2_costOfSum wsX2_costOfSum) := goodIn_app (goodIn_of _ (by decide +kernel)) ggX2_costOf_X2_costOfSum
set_option maxRecDepth 20000 in
theorem ggX2_costOf_X2_costOfCount : GoodIn wsX2_costOf wsX2_costOfCount := goodIn_r _ [47, 48, 43, 49, 6, 50, 51, 52, 19, 53, 21, 54, 55, 56, 30, 57, 58, 59, 60, 61, 62, 63, 64, 65, 66, 67, 68, 69, 70, 76] (by decide +kernel) (by decide +kernel)
set_option maxRecDepth 20000 in
theorem gX2_costOf_X2_costOfCount : GoodIn wsX2_costOf (wsV RX2 102 RX2 yX2_costOfCount wsX2_costOfCount) := goodIn_app (goodIn_of _ (by decide +kernel)) ggX2_costOf_X2_costOfCount
theorem dX2_costOf_0 : decode cX2_costOf 0 = .ok (.aload_n 1, 1) := by decide +kernel
theorem dX2_costOf_1 : decode cX2_costOf 1 = .ok (.iload_n 2, 1) := by decide +kernel
theorem dX2_costOf_2 : decode cX2_costOf 2 = .ok (.invokevirtual 81, 3) := by decide +kernel
theorem dX2_costOf_5 : decode cX2_costOf 5 = .ok (.istore 4, 2) := by decide +kernel
theorem dX2_costOf_7 : decode cX2_costOf 7 = .ok (.iload 4, 2) := by decide +kernel
theorem dX2_costOf_9 : decode cX2_costOf 9 = .ok (.aload_n 0, 1) := by decide +kernel
theorem dX2_costOf_10 : decode cX2_costOf 10 = .ok (.getfield 26, 3) := by decide +kernel
theorem dX2_costOf_13 : decode cX2_costOf 13 = .ok (.isub, 1) := by decide +kernel
theorem dX2_costOf_14 : decode cX2_costOf 14 = .ok (.iconst 0, 1) := by decide +kernel
theorem dX2_costOf_15 : decode cX2_costOf 15 = .ok (.invokestatic 49, 3) := by decide +kernel
theorem dX2_costOf_18 : decode cX2_costOf 18 = .ok (.istore 5, 2) := by decide +kernel
theorem dX2_costOf_20 : decode cX2_costOf 20 = .ok (.aload_n 1, 1) := by decide +kernel
theorem dX2_costOf_21 : decode cX2_costOf 21 = .ok (.iload_n 2, 1) := by decide +kernel
theorem dX2_costOf_22 : decode cX2_costOf 22 = .ok (.invokevirtual 86, 3) := by decide +kernel
theorem dX2_costOf_25 : decode cX2_costOf 25 = .ok (.lookupswitch 99 #[(0, 27), (1, 57)], 27) := by decide +kernel
theorem dX2_costOf_52 : decode cX2_costOf 52 = .ok (.iload 4, 2) := by decide +kernel
theorem dX2_costOf_54 : decode cX2_costOf 54 = .ok (.aload_n 0, 1) := by decide +kernel
theorem dX2_costOf_55 : decode cX2_costOf 55 = .ok (.getfield 26, 3) := by decide +kernel
theorem dX2_costOf_58 : decode cX2_costOf 58 = .ok (.if_icmp .lt 12, 3) := by decide +kernel
theorem dX2_costOf_61 : decode cX2_costOf 61 = .ok (.iload 5, 2) := by decide +kernel
theorem dX2_costOf_63 : decode cX2_costOf 63 = .ok (.aload_n 0, 1) := by decide +kernel
theorem dX2_costOf_64 : decode cX2_costOf 64 = .ok (.getfield 30, 3) := by decide +kernel
theorem dX2_costOf_67 : decode cX2_costOf 67 = .ok (.if_icmp .lt 7, 3) := by decide +kernel
theorem dX2_costOf_70 : decode cX2_costOf 70 = .ok (.iconst 0, 1) := by decide +kernel
theorem dX2_costOf_71 : decode cX2_costOf 71 = .ok (.goto 10, 3) := by decide +kernel
theorem dX2_costOf_74 : decode cX2_costOf 74 = .ok (.aload_n 0, 1) := by decide +kernel
theorem dX2_costOf_75 : decode cX2_costOf 75 = .ok (.iload 5, 2) := by decide +kernel
theorem dX2_costOf_77 : decode cX2_costOf 77 = .ok (.iload_n 3, 1) := by decide +kernel
theorem dX2_costOf_78 : decode cX2_costOf 78 = .ok (.invokevirtual 89, 3) := by decide +kernel
theorem dX2_costOf_81 : decode cX2_costOf 81 = .ok (.ireturn, 1) := by decide +kernel
theorem dX2_costOf_82 : decode cX2_costOf 82 = .ok (.aload_n 1, 1) := by decide +kernel
theorem dX2_costOf_83 : decode cX2_costOf 83 = .ok (.iload_n 2, 1) := by decide +kernel
theorem dX2_costOf_84 : decode cX2_costOf 84 = .ok (.invokevirtual 92, 3) := by decide +kernel
theorem dX2_costOf_87 : decode cX2_costOf 87 = .ok (.aload_n 0, 1) := by decide +kernel
theorem dX2_costOf_88 : decode cX2_costOf 88 = .ok (.getfield 26, 3) := by decide +kernel
theorem dX2_costOf_91 : decode cX2_costOf 91 = .ok (.isub, 1) := by decide +kernel
theorem dX2_costOf_92 : decode cX2_costOf 92 = .ok (.aload_n 0, 1) := by decide +kernel
theorem dX2_costOf_93 : decode cX2_costOf 93 = .ok (.getfield 30, 3) := by decide +kernel
theorem dX2_costOf_96 : decode cX2_costOf 96 = .ok (.invokestatic 95, 3) := by decide +kernel
theorem dX2_costOf_99 : decode cX2_costOf 99 = .ok (.iconst 1, 1) := by decide +kernel
theorem dX2_costOf_100 : decode cX2_costOf 100 = .ok (.isub, 1) := by decide +kernel
theorem dX2_costOf_101 : decode cX2_costOf 101 = .ok (.istore 6, 2) := by decide +kernel
theorem dX2_costOf_103 : decode cX2_costOf 103 = .ok (.iload 5, 2) := by decide +kernel
theorem dX2_costOf_105 : decode cX2_costOf 105 = .ok (.iload 6, 2) := by decide +kernel
theorem dX2_costOf_107 : decode cX2_costOf 107 = .ok (.if_icmp .le 7, 3) := by decide +kernel
theorem dX2_costOf_110 : decode cX2_costOf 110 = .ok (.iconst 0, 1) := by decide +kernel
theorem dX2_costOf_111 : decode cX2_costOf 111 = .ok (.goto 12, 3) := by decide +kernel
theorem dX2_costOf_114 : decode cX2_costOf 114 = .ok (.aload_n 0, 1) := by decide +kernel
theorem dX2_costOf_115 : decode cX2_costOf 115 = .ok (.iload 5, 2) := by decide +kernel
theorem dX2_costOf_117 : decode cX2_costOf 117 = .ok (.iload 6, 2) := by decide +kernel
theorem dX2_costOf_119 : decode cX2_costOf 119 = .ok (.iload_n 3, 1) := by decide +kernel
theorem dX2_costOf_120 : decode cX2_costOf 120 = .ok (.invokevirtual 98, 3) := by decide +kernel
theorem dX2_costOf_123 : decode cX2_costOf 123 = .ok (.ireturn, 1) := by decide +kernel
theorem dX2_costOf_124 : decode cX2_costOf 124 = .ok (.aload_n 0, 1) := by decide +kernel
theorem dX2_costOf_125 : decode cX2_costOf 125 = .ok (.iload 4, 2) := by decide +kernel
theorem dX2_costOf_127 : decode cX2_costOf 127 = .ok (.iload_n 3, 1) := by decide +kernel
theorem dX2_costOf_128 : decode cX2_costOf 128 = .ok (.invokevirtual 102, 3) := by decide +kernel
theorem dX2_costOf_131 : decode cX2_costOf 131 = .ok (.ireturn, 1) := by decide +kernel
set_option maxRecDepth 20000 in
theorem ggX2_costOfPoint_X3_get : GoodIn wsX2_costOfPoint wsX3_get := goodIn_r _ [6, 7, 19] (by decide +kernel) (by decide +kernel)
set_option maxRecDepth 20000 in
theorem gX2_costOfPoint_X3_get : GoodIn wsX2_costOfPoint (wsV RX2 39 RX3 yX3_get wsX3_get) := goodIn_app (goodIn_of _ (by decide +kernel)) ggX2_costOfPoint_X3_get
theorem dX2_costOfPoint_0 : decode cX2_costOfPoint 0 = .ok (.iload_n 2, 1) := by decide +kernel
theorem dX2_costOfPoint_1 : decode cX2_costOfPoint 1 = .ok (.tableswitch 50 0 4 #[35, 35, 37, 48, 48], 35) := by decide +kernel
theorem dX2_costOfPoint_36 : decode cX2_costOfPoint 36 = .ok (.iconst 1, 1) := by decide +kernel
theorem dX2_costOfPoint_37 : decode cX2_costOfPoint 37 = .ok (.ireturn, 1) := by decide +kernel
theorem dX2_costOfPoint_38 : decode cX2_costOfPoint 38 = .ok (.iconst 1, 1) := by decide +kernel
theorem dX2_costOfPoint_39 : decode cX2_costOfPoint 39 = .ok (.aload_n 0, 1) := by decide +kernel
theorem dX2_costOfPoint_40 : decode cX2_costOfPoint 40 = .ok (.getfield 20, 3) := by decide +kernel
theorem dX2_costOfPoint_43 : decode cX2_costOfPoint 43 = .ok (.iload_n 1, 1) := by decide +kernel
theorem dX2_costOfPoint_44 : decode cX2_costOfPoint 44 = .ok (.invokevirtual 39, 3) := by decide +kernel
theorem dX2_costOfPoint_47 : decode cX2_costOfPoint 47 = .ok (.iadd, 1) := by decide +kernel
theorem dX2_costOfPoint_48 : decode cX2_costOfPoint 48 = .ok (.ireturn, 1) := by decide +kernel
theorem dX2_costOfPoint_49 : decode cX2_costOfPoint 49 = .ok (.iconst 2, 1) := by decide +kernel
theorem dX2_costOfPoint_50 : decode cX2_costOfPoint 50 = .ok (.ireturn, 1) := by decide +kernel
theorem dX2_costOfPoint_51 : decode cX2_costOfPoint 51 = .ok (.iload_n 1, 1) := by decide +kernel
theorem dX2_costOfPoint_52 : decode cX2_costOfPoint 52 = .ok (.iconst 1, 1) := by decide +kernel
theorem dX2_costOfPoint_53 : decode cX2_costOfPoint 53 = .ok (.iadd, 1) := by decide +kernel
theorem dX2_costOfPoint_54 : decode cX2_costOfPoint 54 = .ok (.ireturn, 1) := by decide +kernel
set_option maxRecDepth 20000 in
theorem ggX2_costOfSum_X3_get : GoodIn wsX2_costOfSum wsX3_get := goodIn_r _ [7, 8, 20] (by decide +kernel) (by decide +kernel)
set_option maxRecDepth 20000 in
theorem gX2_costOfSum_X3_get : GoodIn wsX2_costOfSum (wsV RX2 39 RX3 yX3_get wsX3_get) := goodIn_app (goodIn_of _ (by decide +kernel)) ggX2_costOfSum_X3_get
theorem dX2_costOfSum_0 : decode cX2_costOfSum 0 = .ok (.iload_n 2, 1) := by decide +kernel
theorem dX2_costOfSum_1 : decode cX2_costOfSum 1 = .ok (.iload_n 1, 1) := by decide +kernel
theorem dX2_costOfSum_2 : decode cX2_costOfSum 2 = .ok (.isub, 1) := by decide +kernel
theorem dX2_costOfSum_3 : decode cX2_costOfSum 3 = .ok (.iconst 1, 1) := by decide +kernel
theorem dX2_costOfSum_4 : decode cX2_costOfSum 4 = .ok (.iadd, 1) := by decide +kernel
theorem dX2_costOfSum_5 : decode cX2_costOfSum 5 = .ok (.istore 4, 2) := by decide +kernel
theorem dX2_costOfSum_7 : decode cX2_costOfSum 7 = .ok (.iload_n 3, 1) := by decide +kernel
theorem dX2_costOfSum_8 : decode cX2_costOfSum 8 = .ok (.tableswitch 65 0 4 #[36, 39, 41, 52, 60], 36) := by decide +kernel
theorem dX2_costOfSum_44 : decode cX2_costOfSum 44 = .ok (.iload 4, 2) := by decide +kernel
theorem dX2_costOfSum_46 : decode cX2_costOfSum 46 = .ok (.ireturn, 1) := by decide +kernel
theorem dX2_costOfSum_47 : decode cX2_costOfSum 47 = .ok (.iconst 1, 1) := by decide +kernel
theorem dX2_costOfSum_48 : decode cX2_costOfSum 48 = .ok (.ireturn, 1) := by decide +kernel
theorem dX2_costOfSum_49 : decode cX2_costOfSum 49 = .ok (.iconst 1, 1) := by decide +kernel
theorem dX2_costOfSum_50 : decode cX2_costOfSum 50 = .ok (.aload_n 0, 1) := by decide +kernel
theorem dX2_costOfSum_51 : decode cX2_costOfSum 51 = .ok (.getfield 20, 3) := by decide +kernel
theorem dX2_costOfSum_54 : decode cX2_costOfSum 54 = .ok (.iload_n 2, 1) := by decide +kernel
theorem dX2_costOfSum_55 : decode cX2_costOfSum 55 = .ok (.invokevirtual 39, 3) := by decide +kernel
theorem dX2_costOfSum_58 : decode cX2_costOfSum 58 = .ok (.iadd, 1) := by decide +kernel
theorem dX2_costOfSum_59 : decode cX2_costOfSum 59 = .ok (.ireturn, 1) := by decide +kernel
theorem dX2_costOfSum_60 : decode cX2_costOfSum 60 = .ok (.iload 4, 2) := by decide +kernel
theorem dX2_costOfSum_62 : decode cX2_costOfSum 62 = .ok (.aload_n 0, 1) := by decide +kernel
theorem dX2_costOfSum_63 : decode cX2_costOfSum 63 = .ok (.getfield 36, 3) := by decide +kernel
theorem dX2_costOfSum_66 : decode cX2_costOfSum 66 = .ok (.iadd, 1) := by decide +kernel
theorem dX2_costOfSum_67 : decode cX2_costOfSum 67 = .ok (.ireturn, 1) := by decide +kernel
theorem dX2_costOfSum_68 : decode cX2_costOfSum 68 = .ok (.iload 4, 2) := by decide +kernel
theorem dX2_costOfSum_70 : decode cX2_costOfSum 70 = .ok (.iconst 1, 1) := by decide +kernel
theorem dX2_costOfSum_71 : decode cX2_costOfSum 71 = .ok (.iadd, 1) := by decide +kernel
theorem dX2_costOfSum_72 : decode cX2_costOfSum 72 = .ok (.ireturn, 1) := by decide +kernel
theorem dX2_costOfSum_73 : decode cX2_costOfSum 73 = .ok (.iload_n 2, 1) := by decide +kernel
theorem dX2_costOfSum_74 : decode cX2_costOfSum 74 = .ok (.iconst 1, 1) := by decide +kernel
theorem dX2_costOfSum_75 : decode cX2_costOfSum 75 = .ok (.iadd, 1) := by decide +kernel
theorem dX2_costOfSum_76 : decode cX2_costOfSum 76 = .ok (.ireturn, 1) := by decide +kernel
set_option maxRecDepth 20000 in
theorem ggX2_costOfCount_X3_find : GoodIn wsX2_costOfCount wsX3_find := goodIn_r _ [9, 10, 29] (by decide +kernel) (by decide +kernel)
set_option maxRecDepth 20000 in
theorem gX2_costOfCount_X3_find : GoodIn wsX2_costOfCount (wsV RX2 74 RX3 yX3_find wsX3_find) := goodIn_app (goodIn_of _ (by decide +kernel)) ggX2_costOfCount_X3_find
set_option maxRecDepth 20000 in
theorem ggX2_costOfCount_X2_isInFrame : GoodIn wsX2_costOfCount wsX2_isInFrame := goodIn_r _ [15, 16, 17, 18, 19, 20, 21, 22, 23, 24, 25, 26, 27, 28] (by decide +kernel) (by decide +kernel)
set_option maxRecDepth 20000 in
theorem gX2_costOfCount_X2_isInFrame : GoodIn wsX2_costOfCount (wsV RX2 105 RX2 yX2_isInFrame wsX2_isInFrame) := goodIn_app (goodIn_of _ (by decide +kernel)) ggX2_costOfCount_X2_isInFrame
theorem dX2_costOfCount_0 : decode cX2_costOfCount 0 = .ok (.iload_n 2, 1) := by decide +kernel
theorem dX2_costOfCount_1 : decode cX2_costOfCount 1 = .ok (.tableswitch 88 1 4 #[31, 33, 40, 69], 31) := by decide +kernel
theorem dX2_costOfCount_32 : decode cX2_costOfCount 32 = .ok (.iconst 1, 1) := by decide +kernel
theorem dX2_costOfCount_33 : decode cX2_costOfCount 33 = .ok (.ireturn, 1) := by decide +kernel
theorem dX2_costOfCount_34 : decode cX2_costOfCount 34 = .ok (.aload_n 0, 1) := by decide +kernel
theorem dX2_costOfCount_35 : decode cX2_costOfCount 35 = .ok (.getfield 33, 3) := by decide +kernel
theorem dX2_costOfCount_38 : decode cX2_costOfCount 38 = .ok (.iconst 1, 1) := by decide +kernel
theorem dX2_costOfCount_39 : decode cX2_costOfCount 39 = .ok (.iadd, 1) := by decide +kernel
theorem dX2_costOfCount_40 : decode cX2_costOfCount 40 = .ok (.ireturn, 1) := by decide +kernel
theorem dX2_costOfCount_41 : decode cX2_costOfCount 41 = .ok (.aload_n 0, 1) := by decide +kernel
theorem dX2_costOfCount_42 : decode cX2_costOfCount 42 = .ok (.getfield 36, 3) := by decide +kernel
theorem dX2_costOfCount_45 : decode cX2_costOfCount 45 = .ok (.aload_n 0, 1) := by decide +kernel
theorem dX2_costOfCount_46 : decode cX2_costOfCount 46 = .ok (.getfield 23, 3) := by decide +kernel
theorem dX2_costOfCount_49 : decode cX2_costOfCount 49 = .ok (.iload_n 1, 1) := by decide +kernel
theorem dX2_costOfCount_50 : decode cX2_costOfCount 50 = .ok (.aload_n 0, 1) := by decide +kernel
theorem dX2_costOfCount_51 : decode cX2_costOfCount 51 = .ok (.getfield 36, 3) := by decide +kernel
theorem dX2_costOfCount_54 : decode cX2_costOfCount 54 = .ok (.invokevirtual 74, 3) := by decide +kernel
theorem dX2_costOfCount_57 : decode cX2_costOfCount 57 = .ok (.ifCond .lt 10, 3) := by decide +kernel
theorem dX2_costOfCount_60 : decode cX2_costOfCount 60 = .ok (.aload_n 0, 1) := by decide +kernel
theorem dX2_costOfCount_61 : decode cX2_costOfCount 61 = .ok (.getfield 30, 3) := by decide +kernel
theorem dX2_costOfCount_64 : decode cX2_costOfCount 64 = .ok (.goto 4, 3) := by decide +kernel
theorem dX2_costOfCount_67 : decode cX2_costOfCount 67 = .ok (.iconst 0, 1) := by decide +kernel
theorem dX2_costOfCount_68 : decode cX2_costOfCount 68 = .ok (.iadd, 1) := by decide +kernel
theorem dX2_costOfCount_69 : decode cX2_costOfCount 69 = .ok (.ireturn, 1) := by decide +kernel
theorem dX2_costOfCount_70 : decode cX2_costOfCount 70 = .ok (.iconst 1, 1) := by decide +kernel
theorem dX2_costOfCount_71 : decode cX2_costOfCount 71 = .ok (.aload_n 0, 1) := by decide +kernel
theorem dX2_costOfCount_72 : decode cX2_costOfCount 72 = .ok (.iload_n 1, 1) := by decide +kernel
theorem dX2_costOfCount_73 : decode cX2_costOfCount 73 = .ok (.invokevirtual 105, 3) := by decide +kernel
theorem dX2_costOfCount_76 : decode cX2_costOfCount 76 = .ok (.ifCond .eq 10, 3) := by decide +kernel
theorem dX2_costOfCount_79 : decode cX2_costOfCount 79 = .ok (.aload_n 0, 1) := by decide +kernel
theorem dX2_costOfCount_80 : decode cX2_costOfCount 80 = .ok (.getfield 30, 3) := by decide +kernel
theorem dX2_costOfCount_83 : decode cX2_costOfCount 83 = .ok (.goto 4, 3) := by decide +kernel
theorem dX2_costOfCount_86 : decode cX2_costOfCount 86 = .ok (.iconst 0, 1) := by decide +kernel
theorem dX2_costOfCount_87 : decode cX2_costOfCount 87 = .ok (.iadd, 1) := by decide +kernel
theorem dX2_costOfCount_88 : decode cX2_costOfCount 88 = .ok (.ireturn, 1) := by decide +kernel
theorem dX2_costOfCount_89 : decode cX2_costOfCount 89 = .ok (.aload_n 0, 1) := by decide +kernel
theorem dX2_costOfCount_90 : decode cX2_costOfCount 90 = .ok (.getfield 30, 3) := by decide +kernel
theorem dX2_costOfCount_93 : decode cX2_costOfCount 93 = .ok (.ireturn, 1) := by decide +kernel
theorem dX2_isInFrame_0 : decode cX2_isInFrame 0 = .ok (.iload_n 1, 1) := by decide +kernel
theorem dX2_isInFrame_1 : decode cX2_isInFrame 1 = .ok (.aload_n 0, 1) := by decide +kernel
theorem dX2_isInFrame_2 : decode cX2_isInFrame 2 = .ok (.getfield 59, 3) := by decide +kernel
theorem dX2_isInFrame_5 : decode cX2_isInFrame 5 = .ok (.if_icmp .lt 22, 3) := by decide +kernel
theorem dX2_isInFrame_8 : decode cX2_isInFrame 8 = .ok (.iload_n 1, 1) := by decide +kernel
theorem dX2_isInFrame_9 : decode cX2_isInFrame 9 = .ok (.aload_n 0, 1) := by decide +kernel
theorem dX2_isInFrame_10 : decode cX2_isInFrame 10 = .ok (.getfield 59, 3) := by decide +kernel
theorem dX2_isInFrame_13 : decode cX2_isInFrame 13 = .ok (.iconst 1, 1) := by decide +kernel
theorem dX2_isInFrame_14 : decode cX2_isInFrame 14 = .ok (.aload_n 0, 1) := by decide +kernel
theorem dX2_isInFrame_15 : decode cX2_isInFrame 15 = .ok (.getfield 68, 3) := by decide +kernel
theorem dX2_isInFrame_18 : decode cX2_isInFrame 18 = .ok (.ishl, 1) := by decide +kernel
theorem dX2_isInFrame_19 : decode cX2_isInFrame 19 = .ok (.iadd, 1) := by decide +kernel
theorem dX2_isInFrame_20 : decode cX2_isInFrame 20 = .ok (.if_icmp .ge 7, 3) := by decide +kernel
theorem dX2_isInFrame_23 : decode cX2_isInFrame 23 = .ok (.iconst 1, 1) := by decide +kernel
theorem dX2_isInFrame_24 : decode cX2_isInFrame 24 = .ok (.goto 4, 3) := by decide +kernel
theorem dX2_isInFrame_27 : decode cX2_isInFrame 27 = .ok (.iconst 0, 1) := by decide +kernel
theorem dX2_isInFrame_28 : decode cX2_isInFrame 28 = .ok (.ireturn, 1) := by decide +kernel
theorem dX3_init_0 : decode cX3_init 0 = .ok (.aload_n 0, 1) := by decide +kernel
theorem dX3_init_1 : decode cX3_init 1 = .ok (.invokespecial 1, 3) := by decide +kernel
theorem dX3_init_4 : decode cX3_init 4 = .ok (.aload_n 0, 1) := by decide +kernel
theorem dX3_init_5 : decode cX3_init 5 = .ok (.iload_n 1, 1) := by decide +kernel
theorem dX3_init_6 : decode cX3_init 6 = .ok (.ifCond .le 7, 3) := by decide +kernel
theorem dX3_init_9 : decode cX3_init 9 = .ok (.iload_n 1, 1) := by decide +kernel
theorem dX3_init_10 : decode cX3_init 10 = .ok (.goto 4, 3) := by decide +kernel
theorem dX3_init_13 : decode cX3_init 13 = .ok (.iconst 0, 1) := by decide +kernel
theorem dX3_init_14 : decode cX3_init 14 = .ok (.newarray .int, 2) := by decide +kernel
theorem dX3_init_16 : decode cX3_init 16 = .ok (.putfield 7, 3) := by decide +kernel
theorem dX3_init_19 : decode cX3_init 19 = .ok (.return_, 1) := by decide +kernel
theorem dX3_get_0 : decode cX3_get 0 = .ok (.iload_n 1, 1) := by decide +kernel
theorem dX3_get_1 : decode cX3_get 1 = .ok (.ifCond .lt 21, 3) := by decide +kernel
theorem dX3_get_4 : decode cX3_get 4 = .ok (.iload_n 1, 1) := by decide +kernel
theorem dX3_get_5 : decode cX3_get 5 = .ok (.aload_n 0, 1) := by decide +kernel
theorem dX3_get_6 : decode cX3_get 6 = .ok (.getfield 7, 3) := by decide +kernel
theorem dX3_get_9 : decode cX3_get 9 = .ok (.arraylength, 1) := by decide +kernel
theorem dX3_get_10 : decode cX3_get 10 = .ok (.if_icmp .ge 12, 3) := by decide +kernel
theorem dX3_get_13 : decode cX3_get 13 = .ok (.aload_n 0, 1) := by decide +kernel
theorem dX3_get_14 : decode cX3_get 14 = .ok (.getfield 7, 3) := by decide +kernel
theorem dX3_get_17 : decode cX3_get 17 = .ok (.iload_n 1, 1) := by decide +kernel
theorem dX3_get_18 : decode cX3_get 18 = .ok (.iaload, 1) := by decide +kernel
theorem dX3_get_19 : decode cX3_get 19 = .ok (.goto 4, 3) := by decide +kernel
theorem dX3_get_22 : decode cX3_get 22 = .ok (.iconst 0, 1) := by decide +kernel
theorem dX3_get_23 : decode cX3_get 23 = .ok (.ireturn, 1) := by decide +kernel
theorem dX3_put_0 : decode cX3_put 0 = .ok (.iload_n 1, 1) := by decide +kernel
theorem dX3_put_1 : decode cX3_put 1 = .ok (.ifCond .lt 19, 3) := by decide +kernel
theorem dX3_put_4 : decode cX3_put 4 = .ok (.iload_n 1, 1) := by decide +kernel
theorem dX3_put_5 : decode cX3_put 5 = .ok (.aload_n 0, 1) := by decide +kernel
theorem dX3_put_6 : decode cX3_put 6 = .ok (.getfield 7, 3) := by decide +kernel
theorem dX3_put_9 : decode cX3_put 9 = .ok (.arraylength, 1) := by decide +kernel
theorem dX3_put_10 : decode cX3_put 10 = .ok (.if_icmp .ge 10, 3) := by decide +kernel
theorem dX3_put_13 : decode cX3_put 13 = .ok (.aload_n 0, 1) := by decide +kernel
theorem dX3_put_14 : decode cX3_put 14 = .ok (.getfield 7, 3) := by decide +kernel
theorem dX3_put_17 : decode cX3_put 17 = .ok (.iload_n 1, 1) := by decide +kernel
theorem dX3_put_18 : decode cX3_put 18 = .ok (.iload_n 2, 1) := by decide +kernel
theorem dX3_put_19 : decode cX3_put 19 = .ok (.iastore, 1) := by decide +kernel
theorem dX3_put_20 : decode cX3_put 20 = .ok (.return_, 1) := by decide +kernel
theorem dX3_find_0 : decode cX3_find 0 = .ok (.iconst 0, 1) := by decide +kernel
theorem dX3_find_1 : decode cX3_find 1 = .ok (.istore_n 3, 1) := by decide +kernel
theorem dX3_find_2 : decode cX3_find 2 = .ok (.iload_n 3, 1) := by decide +kernel
theorem dX3_find_3 : decode cX3_find 3 = .ok (.iload_n 2, 1) := by decide +kernel
theorem dX3_find_4 : decode cX3_find 4 = .ok (.if_icmp .ge 30, 3) := by decide +kernel
theorem dX3_find_7 : decode cX3_find 7 = .ok (.iload_n 3, 1) := by decide +kernel
theorem dX3_find_8 : decode cX3_find 8 = .ok (.aload_n 0, 1) := by decide +kernel
theorem dX3_find_9 : decode cX3_find 9 = .ok (.getfield 7, 3) := by decide +kernel
theorem dX3_find_12 : decode cX3_find 12 = .ok (.arraylength, 1) := by decide +kernel
theorem dX3_find_13 : decode cX3_find 13 = .ok (.if_icmp .ge 21, 3) := by decide +kernel
theorem dX3_find_16 : decode cX3_find 16 = .ok (.aload_n 0, 1) := by decide +kernel
theorem dX3_find_17 : decode cX3_find 17 = .ok (.getfield 7, 3) := by decide +kernel
theorem dX3_find_20 : decode cX3_find 20 = .ok (.iload_n 3, 1) := by decide +kernel
theorem dX3_find_21 : decode cX3_find 21 = .ok (.iaload, 1) := by decide +kernel
theorem dX3_find_22 : decode cX3_find 22 = .ok (.iload_n 1, 1) := by decide +kernel
theorem dX3_find_23 : decode cX3_find 23 = .ok (.if_icmp .ne 5, 3) := by decide +kernel
theorem dX3_find_26 : decode cX3_find 26 = .ok (.iload_n 3, 1) := by decide +kernel
theorem dX3_find_27 : decode cX3_find 27 = .ok (.ireturn, 1) := by decide +kernel
theorem dX3_find_28 : decode cX3_find 28 = .ok (.iinc 3 1, 3) := by decide +kernel
theorem dX3_find_31 : decode cX3_find 31 = .ok (.goto (-29), 3) := by decide +kernel
theorem dX3_find_34 : decode cX3_find 34 = .ok (.iconst (-1), 1) := by decide +kernel
theorem dX3_find_35 : decode cX3_find 35 = .ok (.ireturn, 1) := by decide +kernel
set_option maxRecDepth 20000 in
theorem ggX4_init_X3_init : GoodIn wsX4_init wsX3_init := goodIn_r _ [14, 15, 2, 3, 16, 17, 18] (by decide +kernel) (by decide +kernel)
set_option maxRecDepth 20000 in
theorem gX4_init_X3_init : GoodIn wsX4_init (wsX3_init) := ggX4_init_X3_init
theorem dX4_init_0 : decode cX4_init 0 = .ok (.aload_n 0, 1) := by decide +kernel
theorem dX4_init_1 : decode cX4_init 1 = .ok (.invokespecial 3, 3) := by decide +kernel
theorem dX4_init_4 : decode cX4_init 4 = .ok (.aload_n 0, 1) := by decide +kernel
theorem dX4_init_5 : decode cX4_init 5 = .ok (.new 9, 3) := by decide +kernel
theorem dX4_init_8 : decode cX4_init 8 = .ok (.dup, 1) := by decide +kernel
theorem dX4_init_9 : decode cX4_init 9 = .ok (.bipush 20, 2) := by decide +kernel
theorem dX4_init_11 : decode cX4_init 11 = .ok (.invokespecial 11, 3) := by decide +kernel
theorem dX4_init_14 : decode cX4_init 14 = .ok (.putfield 14, 3) := by decide +kernel
theorem dX4_init_17 : decode cX4_init 17 = .ok (.aload_n 0, 1) := by decide +kernel
theorem dX4_init_18 : decode cX4_init 18 = .ok (.new 9, 3) := by decide +kernel
theorem dX4_init_21 : decode cX4_init 21 = .ok (.dup, 1) := by decide +kernel
theorem dX4_init_22 : decode cX4_init 22 = .ok (.bipush 20, 2) := by decide +kernel
theorem dX4_init_24 : decode cX4_init 24 = .ok (.invokespecial 11, 3) := by decide +kernel
theorem dX4_init_27 : decode cX4_init 27 = .ok (.putfield 20, 3) := by decide +kernel
theorem dX4_init_30 : decode cX4_init 30 = .ok (.aload_n 0, 1) := by decide +kernel
theorem dX4_init_31 : decode cX4_init 31 = .ok (.new 9, 3) := by decide +kernel
theorem dX4_init_34 : decode cX4_init 34 = .ok (.dup, 1) := by decide +kernel
theorem dX4_init_35 : decode cX4_init 35 = .ok (.bipush 20, 2) := by decide +kernel
theorem dX4_init_37 : decode cX4_init 37 = .ok (.invokespecial 11, 3) := by decide +kernel
theorem dX4_init_40 : decode cX4_init 40 = .ok (.putfield 23, 3) := by decide +kernel
theorem dX4_init_43 : decode cX4_init 43 = .ok (.aload_n 0, 1) := by decide +kernel
theorem dX4_init_44 : decode cX4_init 44 = .ok (.new 9, 3) := by decide +kernel
theorem dX4_init_47 : decode cX4_init 47 = .ok (.dup, 1) := by decide +kernel
theorem dX4_init_48 : decode cX4_init 48 = .ok (.bipush 20, 2) := by decide +kernel
theorem dX4_init_50 : decode cX4_init 50 = .ok (.invokespecial 11, 3) := by decide +kernel
theorem dX4_init_53 : decode cX4_init 53 = .ok (.putfield 26, 3) := by decide +kernel
theorem dX4_init_56 : decode cX4_init 56 = .ok (.aload_n 0, 1) := by decide +kernel
theorem dX4_init_57 : decode cX4_init 57 = .ok (.iconst 0, 1) := by decide +kernel
theorem dX4_init_58 : decode cX4_init 58 = .ok (.putfield 29, 3) := by decide +kernel
theorem dX4_init_61 : decode cX4_init 61 = .ok (.return_, 1) := by decide +kernel
theorem dX4_count_0 : decode cX4_count 0 = .ok (.aload_n 0, 1) := by decide +kernel
theorem dX4_count_1 : decode cX4_count 1 = .ok (.getfield 29, 3) := by decide +kernel
theorem dX4_count_4 : decode cX4_count 4 = .ok (.ireturn, 1) := by decide +kernel
set_option maxRecDepth 20000 in
theorem ggX4_add_X3_put : GoodIn wsX4_add wsX3_put := goodIn_r _ [10, 11, 17] (by decide +kernel) (by decide +kernel)
set_option maxRecDepth 20000 in
theorem gX4_add_X3_put : GoodIn wsX4_add (wsV RX4 33 RX3 yX3_put wsX3_put) := goodIn_app (goodIn_of _ (by decide +kernel)) ggX4_add_X3_put
theorem dX4_add_0 : decode cX4_add 0 = .ok (.aload_n 0, 1) := by decide +kernel
theorem dX4_add_1 : decode cX4_add 1 = .ok (.getfield 29, 3) := by decide +kernel
theorem dX4_add_4 : decode cX4_add 4 = .ok (.istore 5, 2) := by decide +kernel
theorem dX4_add_6 : decode cX4_add 6 = .ok (.aload_n 0, 1) := by decide +kernel
theorem dX4_add_7 : decode cX4_add 7 = .ok (.getfield 14, 3) := by decide +kernel
theorem dX4_add_10 : decode cX4_add 10 = .ok (.iload 5, 2) := by decide +kernel
theorem dX4_add_12 : decode cX4_add 12 = .ok (.iload_n 1, 1) := by decide +kernel
theorem dX4_add_13 : decode cX4_add 13 = .ok (.invokevirtual 33, 3) := by decide +kernel
theorem dX4_add_16 : decode cX4_add 16 = .ok (.aload_n 0, 1) := by decide +kernel
theorem dX4_add_17 : decode cX4_add 17 = .ok (.getfield 20, 3) := by decide +kernel
theorem dX4_add_20 : decode cX4_add 20 = .ok (.iload 5, 2) := by decide +kernel
theorem dX4_add_22 : decode cX4_add 22 = .ok (.iload_n 2, 1) := by decide +kernel
theorem dX4_add_23 : decode cX4_add 23 = .ok (.invokevirtual 33, 3) := by decide +kernel
theorem dX4_add_26 : decode cX4_add 26 = .ok (.aload_n 0, 1) := by decide +kernel
theorem dX4_add_27 : decode cX4_add 27 = .ok (.getfield 23, 3) := by decide +kernel
theorem dX4_add_30 : decode cX4_add 30 = .ok (.iload 5, 2) := by decide +kernel
theorem dX4_add_32 : decode cX4_add 32 = .ok (.iload_n 3, 1) := by decide +kernel
theorem dX4_add_33 : decode cX4_add 33 = .ok (.invokevirtual 33, 3) := by decide +kernel
theorem dX4_add_36 : decode cX4_add 36 = .ok (.aload_n 0, 1) := by decide +kernel
theorem dX4_add_37 : decode cX4_add 37 = .ok (.getfield 26, 3) := by decide +kernel
theorem dX4_add_40 : decode cX4_add 40 = .ok (.iload 5, 2) := by decide +kernel
theorem dX4_add_42 : decode cX4_add 42 = .ok (.iload 4, 2) := by decide +kernel
theorem dX4_add_44 : decode cX4_add 44 = .ok (.invokevirtual 33, 3) := by decide +kernel
theorem dX4_add_47 : decode cX4_add 47 = .ok (.aload_n 0, 1) := by decide +kernel
theorem dX4_add_48 : decode cX4_add 48 = .ok (.dup, 1) := by decide +kernel
theorem dX4_add_49 : decode cX4_add 49 = .ok (.getfield 29, 3) := by decide +kernel
theorem dX4_add_52 : decode cX4_add 52 = .ok (.iconst 1, 1) := by decide +kernel
theorem dX4_add_53 : decode cX4_add 53 = .ok (.iadd, 1) := by decide +kernel
theorem dX4_add_54 : decode cX4_add 54 = .ok (.putfield 29, 3) := by decide +kernel
theorem dX4_add_57 : decode cX4_add 57 = .ok (.iload 5, 2) := by decide +kernel
theorem dX4_add_59 : decode cX4_add 59 = .ok (.ireturn, 1) := by decide +kernel
theorem dX4_clear_0 : decode cX4_clear 0 = .ok (.aload_n 0, 1) := by decide +kernel
theorem dX4_clear_1 : decode cX4_clear 1 = .ok (.getfield 29, 3) := by decide +kernel
theorem dX4_clear_4 : decode cX4_clear 4 = .ok (.istore_n 1, 1) := by decide +kernel
theorem dX4_clear_5 : decode cX4_clear 5 = .ok (.aload_n 0, 1) := by decide +kernel
theorem dX4_clear_6 : decode cX4_clear 6 = .ok (.iconst 0, 1) := by decide +kernel
theorem dX4_clear_7 : decode cX4_clear 7 = .ok (.putfield 29, 3) := by decide +kernel
theorem dX4_clear_10 : decode cX4_clear 10 = .ok (.iload_n 1, 1) := by decide +kernel
theorem dX4_clear_11 : decode cX4_clear 11 = .ok (.ireturn, 1) := by decide +kernel
set_option maxRecDepth 20000 in
theorem ggX4_kindOf_X3_get : GoodIn wsX4_kindOf wsX3_get := goodIn_r _ [6, 7, 13] (by decide +kernel) (by decide +kernel)
set_option maxRecDepth 20000 in
theorem gX4_kindOf_X3_get : GoodIn wsX4_kindOf (wsV RX4 37 RX3 yX3_get wsX3_get) := goodIn_app (goodIn_of _ (by decide +kernel)) ggX4_kindOf_X3_get
theorem dX4_kindOf_0 : decode cX4_kindOf 0 = .ok (.aload_n 0, 1) := by decide +kernel
theorem dX4_kindOf_1 : decode cX4_kindOf 1 = .ok (.getfield 14, 3) := by decide +kernel
theorem dX4_kindOf_4 : decode cX4_kindOf 4 = .ok (.iload_n 1, 1) := by decide +kernel
theorem dX4_kindOf_5 : decode cX4_kindOf 5 = .ok (.invokevirtual 37, 3) := by decide +kernel
theorem dX4_kindOf_8 : decode cX4_kindOf 8 = .ok (.ireturn, 1) := by decide +kernel
set_option maxRecDepth 20000 in
theorem ggX4_aOf_X3_get : GoodIn wsX4_aOf wsX3_get := goodIn_r _ [6, 7, 13] (by decide +kernel) (by decide +kernel)
set_option maxRecDepth 20000 in
theorem gX4_aOf_X3_get : GoodIn wsX4_aOf (wsV RX4 37 RX3 yX3_get wsX3_get) := goodIn_app (goodIn_of _ (by decide +kernel)) ggX4_aOf_X3_get
theorem dX4_aOf_0 : decode cX4_aOf 0 = .ok (.aload_n 0, 1) := by decide +kernel
theorem dX4_aOf_1 : decode cX4_aOf 1 = .ok (.getfield 20, 3) := by decide +kernel
theorem dX4_aOf_4 : decode cX4_aOf 4 = .ok (.iload_n 1, 1) := by decide +kernel
theorem dX4_aOf_5 : decode cX4_aOf 5 = .ok (.invokevirtual 37, 3) := by decide +kernel
theorem dX4_aOf_8 : decode cX4_aOf 8 = .ok (.ireturn, 1) := by decide +kernel
set_option maxRecDepth 20000 in
theorem ggX4_bOf_X3_get : GoodIn wsX4_bOf wsX3_get := goodIn_r _ [6, 7, 13] (by decide +kernel) (by decide +kernel)
set_option maxRecDepth 20000 in
theorem gX4_bOf_X3_get : GoodIn wsX4_bOf (wsV RX4 37 RX3 yX3_get wsX3_get) := goodIn_app (goodIn_of _ (by decide +kernel)) ggX4_bOf_X3_get
theorem dX4_bOf_0 : decode cX4_bOf 0 = .ok (.aload_n 0, 1) := by decide +kernel
theorem dX4_bOf_1 : decode cX4_bOf 1 = .ok (.getfield 23, 3) := by decide +kernel
theorem dX4_bOf_4 : decode cX4_bOf 4 = .ok (.iload_n 1, 1) := by decide +kernel
theorem dX4_bOf_5 : decode cX4_bOf 5 = .ok (.invokevirtual 37, 3) := by decide +kernel
theorem dX4_bOf_8 : decode cX4_bOf 8 = .ok (.ireturn, 1) := by decide +kernel
set_option maxRecDepth 20000 in
theorem ggX4_weightOf_X3_get : GoodIn wsX4_weightOf wsX3_get := goodIn_r _ [6, 7, 13] (by decide +kernel) (by decide +kernel)
set_option maxRecDepth 20000 in
theorem gX4_weightOf_X3_get : GoodIn wsX4_weightOf (wsV RX4 37 RX3 yX3_get wsX3_get) := goodIn_app (goodIn_of _ (by decide +kernel)) ggX4_weightOf_X3_get
theorem dX4_weightOf_0 : decode cX4_weightOf 0 = .ok (.aload_n 0, 1) := by decide +kernel
theorem dX4_weightOf_1 : decode cX4_weightOf 1 = .ok (.getfield 26, 3) := by decide +kernel
theorem dX4_weightOf_4 : decode cX4_weightOf 4 = .ok (.iload_n 1, 1) := by decide +kernel
theorem dX4_weightOf_5 : decode cX4_weightOf 5 = .ok (.invokevirtual 37, 3) := by decide +kernel
theorem dX4_weightOf_8 : decode cX4_weightOf 8 = .ok (.ireturn, 1) := by decide +kernel
set_option maxRecDepth 20000 in
theorem ggX5_init_X4_init : GoodIn wsX5_init wsX4_init := goodIn_r _ [31, 32, 2, 3, 33, 12, 13, 34, 35, 36, 37, 38, 39, 40, 41, 42, 43, 44, 86, 81, 82, 83, 84, 85] (by decide +kernel) (by decide +kernel)
set_option maxRecDepth 20000 in
theorem gX5_init_X4_init : GoodIn wsX5_init (wsX4_init) := ggX5_init_X4_init
set_option maxRecDepth 20000 in
theorem ggX5_init_X3_init : GoodIn wsX5_init wsX3_init := goodIn_r _ [41, 42, 2, 3, 43, 44, 86] (by decide +kernel) (by decide +kernel)
set_option maxRecDepth 20000 in
theorem gX5_init_X3_init : GoodIn wsX5_init (wsX3_init) := ggX5_init_X3_init
set_option maxRecDepth 20000 in
theorem ggX5_init_X0_init : GoodIn wsX5_init wsX0_init := goodIn_r _ [48, 49, 2, 3, 43, 50, 51, 87, 88] (by decide +kernel) (by decide +kernel)
set_option maxRecDepth 20000 in
theorem gX5_init_X0_init : GoodIn wsX5_init (wsX0_init) := ggX5_init_X0_init
set_option maxRecDepth 20000 in
theorem ggX5_init_X2_init : GoodIn wsX5_init wsX2_init := goodIn_r _ [54, 55, 2, 3, 56, 57, 12, 13, 58, 59, 60, 40, 41, 42, 43, 44, 89, 90, 91, 92, 93, 94, 95, 96, 97, 98, 99, 86] (by decide +kernel) (by decide +kernel)
set_option maxRecDepth 20000 in
theorem gX5_init_X2_init : GoodIn wsX5_init (wsX2_init) := ggX5_init_X2_init
set_option maxRecDepth 20000 in
theorem ggX5_init_X1_init : GoodIn wsX5_init wsX1_init := goodIn_r _ [63, 64, 2, 3, 65, 66, 67, 68, 12, 13, 69, 70, 40, 41, 42, 43, 44, 100, 101, 102, 103, 86] (by decide +kernel) (by decide +kernel)
set_option maxRecDepth 20000 in
theorem gX5_init_X1_init : GoodIn wsX5_init (wsX1_init) := ggX5_init_X1_init
theorem dX5_init_0 : decode cX5_init 0 = .ok (.aload_n 0, 1) := by decide +kernel
theorem dX5_init_1 : decode cX5_init 1 = .ok (.invokespecial 3, 3) := by decide +kernel
theorem dX5_init_4 : decode cX5_init 4 = .ok (.aload_n 0, 1) := by decide +kernel
theorem dX5_init_5 : decode cX5_init 5 = .ok (.iconst 0, 1) := by decide +kernel
theorem dX5_init_6 : decode cX5_init 6 = .ok (.putfield 9, 3) := by decide +kernel
theorem dX5_init_9 : decode cX5_init 9 = .ok (.aload_n 0, 1) := by decide +kernel
theorem dX5_init_10 : decode cX5_init 10 = .ok (.bipush 16, 2) := by decide +kernel
theorem dX5_init_12 : decode cX5_init 12 = .ok (.putfield 13, 3) := by decide +kernel
theorem dX5_init_15 : decode cX5_init 15 = .ok (.aload_n 0, 1) := by decide +kernel
theorem dX5_init_16 : decode cX5_init 16 = .ok (.iconst 1, 1) := by decide +kernel
theorem dX5_init_17 : decode cX5_init 17 = .ok (.putfield 16, 3) := by decide +kernel
theorem dX5_init_20 : decode cX5_init 20 = .ok (.aload_n 0, 1) := by decide +kernel
theorem dX5_init_21 : decode cX5_init 21 = .ok (.new 19, 3) := by decide +kernel
theorem dX5_init_24 : decode cX5_init 24 = .ok (.dup, 1) := by decide +kernel
theorem dX5_init_25 : decode cX5_init 25 = .ok (.invokespecial 21, 3) := by decide +kernel
theorem dX5_init_28 : decode cX5_init 28 = .ok (.putfield 22, 3) := by decide +kernel
theorem dX5_init_31 : decode cX5_init 31 = .ok (.aload_n 0, 1) := by decide +kernel
theorem dX5_init_32 : decode cX5_init 32 = .ok (.new 26, 3) := by decide +kernel
theorem dX5_init_35 : decode cX5_init 35 = .ok (.dup, 1) := by decide +kernel
theorem dX5_init_36 : decode cX5_init 36 = .ok (.bipush 24, 2) := by decide +kernel
theorem dX5_init_38 : decode cX5_init 38 = .ok (.invokespecial 28, 3) := by decide +kernel
theorem dX5_init_41 : decode cX5_init 41 = .ok (.putfield 31, 3) := by decide +kernel
theorem dX5_init_44 : decode cX5_init 44 = .ok (.aload_n 0, 1) := by decide +kernel
theorem dX5_init_45 : decode cX5_init 45 = .ok (.new 26, 3) := by decide +kernel
theorem dX5_init_48 : decode cX5_init 48 = .ok (.dup, 1) := by decide +kernel
theorem dX5_init_49 : decode cX5_init 49 = .ok (.bipush 24, 2) := by decide +kernel
theorem dX5_init_51 : decode cX5_init 51 = .ok (.invokespecial 28, 3) := by decide +kernel
theorem dX5_init_54 : decode cX5_init 54 = .ok (.putfield 35, 3) := by decide +kernel
theorem dX5_init_57 : decode cX5_init 57 = .ok (.aload_n 0, 1) := by decide +kernel
theorem dX5_init_58 : decode cX5_init 58 = .ok (.new 38, 3) := by decide +kernel
theorem dX5_init_61 : decode cX5_init 61 = .ok (.dup, 1) := by decide +kernel
theorem dX5_init_62 : decode cX5_init 62 = .ok (.invokespecial 40, 3) := by decide +kernel
theorem dX5_init_65 : decode cX5_init 65 = .ok (.putfield 41, 3) := by decide +kernel
theorem dX5_init_68 : decode cX5_init 68 = .ok (.aload_n 0, 1) := by decide +kernel
theorem dX5_init_69 : decode cX5_init 69 = .ok (.new 26, 3) := by decide +kernel
theorem dX5_init_72 : decode cX5_init 72 = .ok (.dup, 1) := by decide +kernel
theorem dX5_init_73 : decode cX5_init 73 = .ok (.bipush 96, 2) := by decide +kernel
theorem dX5_init_75 : decode cX5_init 75 = .ok (.invokespecial 28, 3) := by decide +kernel
theorem dX5_init_78 : decode cX5_init 78 = .ok (.putfield 45, 3) := by decide +kernel
theorem dX5_init_81 : decode cX5_init 81 = .ok (.aload_n 0, 1) := by decide +kernel
theorem dX5_init_82 : decode cX5_init 82 = .ok (.new 48, 3) := by decide +kernel
theorem dX5_init_85 : decode cX5_init 85 = .ok (.dup, 1) := by decide +kernel
theorem dX5_init_86 : decode cX5_init 86 = .ok (.aload_n 0, 1) := by decide +kernel
theorem dX5_init_87 : decode cX5_init 87 = .ok (.getfield 45, 3) := by decide +kernel
theorem dX5_init_90 : decode cX5_init 90 = .ok (.invokespecial 50, 3) := by decide +kernel
theorem dX5_init_93 : decode cX5_init 93 = .ok (.putfield 53, 3) := by decide +kernel
theorem dX5_init_96 : decode cX5_init 96 = .ok (.aload_n 0, 1) := by decide +kernel
theorem dX5_init_97 : decode cX5_init 97 = .ok (.new 57, 3) := by decide +kernel
theorem dX5_init_100 : decode cX5_init 100 = .ok (.dup, 1) := by decide +kernel
theorem dX5_init_101 : decode cX5_init 101 = .ok (.aload_n 0, 1) := by decide +kernel
theorem dX5_init_102 : decode cX5_init 102 = .ok (.getfield 45, 3) := by decide +kernel
theorem dX5_init_105 : decode cX5_init 105 = .ok (.aload_n 0, 1) := by decide +kernel
theorem dX5_init_106 : decode cX5_init 106 = .ok (.getfield 53, 3) := by decide +kernel
theorem dX5_init_109 : decode cX5_init 109 = .ok (.aload_n 0, 1) := by decide +kernel
theorem dX5_init_110 : decode cX5_init 110 = .ok (.getfield 41, 3) := by decide +kernel
theorem dX5_init_113 : decode cX5_init 113 = .ok (.invokespecial 59, 3) := by decide +kernel
theorem dX5_init_116 : decode cX5_init 116 = .ok (.putfield 62, 3) := by decide +kernel
theorem dX5_init_119 : decode cX5_init 119 = .ok (.return_, 1) := by decide +kernel
set_option maxRecDepth 20000 in
theorem ggX5_append_X5_climb : GoodIn wsX5_append wsX5_climb := goodIn_ca (goodIn_ca (goodIn_r _ [5, 6, 7, 8, 9, 10, 11, 12, 13, 4, 14, 15, 16, 17, 18, 19, 20, 21, 22, 23, 24, 25, 26, 27, 28, 29, 30, 31, 32, 33, 34, 35, 36, 37, 38, 39, 40, 41, 42, 43, 44, 45, 46, 47, 48, 49, 50, 51, 52, 53, 54, 55, 56, 57, 58, 59, 60, 61, 62, 63, 64, 65, 66, 67, 68, 69, 70, 71, 72, 73, 74, 75, 76, 77, 78, 79, 80, 81, 82, 83, 84, 85, 86, 87, 88, 89, 90, 91, 92, 93, 94, 95, 96, 97, 98, 99, 100, 101, 102, 103, 104, 105, 106, 107, 108, 109, 110, 111, 112, 113, 114, 115, 116, 117, 118, 119, 120, 121, 122, 123, 124, 125, 126, 127, 128, 129, 130, 131, 132, 133, 134, 135, 136, 137, 138, 139, 140, 141, 142, 143, 144, 145, 146, 147, 148, 149, 150, 151, 152, 153, 154, 155, 156, 157, 158, 159, 160, 161, 162, 163, 164, 165, 166, 167, 168, 169, 170, 171, 172, 173, 174, 175, 176, 177, 178, 179, 180, 181, 182, 183, 184, 185, 186, 187, 188, 189, 190, 191, 192, 193, 194, 195, 196, 197, 198, 199, 200, 201, 202, 203, 204, 205, 206, 207, 208, 209, 210, 211, 212, 213, 214, 215, 216, 217, 218, 219, 220, 221, 222, 223, 224, 225, 226, 227, 228, 229, 230, 231, 232, 233, 234, 235, 236, 237, 238, 239, 240, 241, 242, 243, 244, 245, 246, 247, 248, 249, 250, 251, 252, 253, 254, 255, 256, 257] (by decide +kernel) (by decide +kernel)) (goodIn_sub (fun _ h => List.mem_cons_of_mem _ (List.mem_append_left _ (List.mem_append_right _ h))) (by decide +kernel))) (goodIn_sub (fun _ h => List.mem_cons_of_mem _ (List.mem_append_right _ h)) (by decide +kernel))
set_option maxRecDepth 20000 in
theorem gX5_append_X5_climb : GoodIn wsX5_append (wsV RX5 66 RX5 yX5_climb wsX5_climb) := goodIn_app (goodIn_of _ (by decide +kernel)) ggX5_append_X5_climb
theorem dX5_append_0 : decode cX5_append 0 = .ok (.aload_n 0, 1) := by decide +kernel
theorem dX5_append_1 : decode cX5_append 1 = .ok (.iload_n 1, 1) := by decide +kernel
theorem dX5_append_2 : decode cX5_append 2 = .ok (.iconst 0, 1) := by decide +kernel
theorem dX5_append_3 : decode cX5_append 3 = .ok (.iload_n 2, 1) := by decide +kernel
theorem dX5_append_4 : decode cX5_append 4 = .ok (.invokevirtual 66, 3) := by decide +kernel
theorem dX5_append_7 : decode cX5_append 7 = .ok (.ireturn, 1) := by decide +kernel
set_option maxRecDepth 20000 in
theorem ggX5_climb_X5_isRowNumber : GoodIn wsX5_climb wsX5_isRowNumber := goodIn_r _ [10] (by decide +kernel) (by decide +kernel)
set_option maxRecDepth 20000 in
theorem gX5_climb_X5_isRowNumber : GoodIn wsX5_climb (va_wsS RX5 70 yX5_isRowNumber wsX5_isRowNumber) := goodIn_app (goodIn_of _ (by decide +kernel)) ggX5_climb_X5_isRowNumber
set_option maxRecDepth 20000 in
theorem ggX5_climb_X5_isValue : GoodIn wsX5_climb wsX5_isValue := goodIn_r _ [13, 14, 15] (by decide +kernel) (by decide +kernel)
set_option maxRecDepth 20000 in
theorem gX5_climb_X5_isValue : GoodIn wsX5_climb (va_wsS RX5 74 yX5_isValue wsX5_isValue) := goodIn_app (goodIn_of _ (by decide +kernel)) ggX5_climb_X5_isValue
set_option maxRecDepth 20000 in
theorem ggX5_climb_X5_lastOfClimb : GoodIn wsX5_climb wsX5_lastOfClimb := goodIn_r _ [18] (by decide +kernel) (by decide +kernel)
set_option maxRecDepth 20000 in
theorem gX5_climb_X5_lastOfClimb : GoodIn wsX5_climb (va_wsS RX5 78 yX5_lastOfClimb wsX5_lastOfClimb) := goodIn_app (goodIn_of _ (by decide +kernel)) ggX5_climb_X5_lastOfClimb
set_option maxRecDepth 20000 in
theorem ggX5_climb_X5_segmentOf : GoodIn wsX5_climb wsX5_segmentOf := goodIn_r _ [22, 23, 226, 227, 228, 229, 230, 231, 232, 233, 234, 235] (by decide +kernel) (by decide +kernel)
set_option maxRecDepth 20000 in
theorem gX5_climb_X5_segmentOf : GoodIn wsX5_climb (wsV RX5 94 RX5 yX5_segmentOf wsX5_segmentOf) := goodIn_app (goodIn_of _ (by decide +kernel)) ggX5_climb_X5_segmentOf
set_option maxRecDepth 20000 in
theorem ggX5_climb_X5_segmentCount : GoodIn wsX5_climb wsX5_segmentCount := goodIn_r _ [27, 5, 23, 19, 20, 21, 9, 22, 226, 227, 228, 229, 230, 231, 232, 233, 234, 235] (by decide +kernel) (by decide +kernel)
set_option maxRecDepth 20000 in
theorem gX5_climb_X5_segmentCount : GoodIn wsX5_climb (wsV RX5 98 RX5 yX5_segmentCount wsX5_segmentCount) := goodIn_app (goodIn_of _ (by decide +kernel)) ggX5_climb_X5_segmentCount
set_option maxRecDepth 20000 in
theorem ggX5_climb_X5_load : GoodIn wsX5_climb wsX5_load := goodIn_r _ [31, 32, 33, 34, 35, 36, 37, 9, 38, 39, 40, 41, 42, 23, 43, 44, 45, 46, 47, 48, 49, 50, 51, 52, 53, 54, 55, 56, 57, 58, 5, 59, 60, 61, 62, 63, 64, 65, 66, 67, 68, 69, 70, 71, 72, 73, 74, 75, 76, 77, 78, 79, 80, 81, 82, 83, 84, 85, 86, 87, 88, 89, 90, 91, 92, 93, 94, 95, 96, 97, 98, 99, 100, 101, 102, 103, 104, 105, 106, 107, 108, 109, 110, 111, 112, 113, 114, 115, 116, 226, 227, 228, 229, 230, 231, 232, 233, 234, 235, 236, 237, 238, 239, 240, 241, 242] (by decide +kernel) (by decide +kernel)
set_option maxRecDepth 20000 in
theorem gX5_climb_X5_load : GoodIn wsX5_climb (wsV RX5 102 RX5 yX5_load wsX5_load) := goodIn_app (goodIn_of _ (by decide +kernel)) ggX5_climb_X5_load
set_option maxRecDepth 20000 in
theorem ggX5_climb_X3_put : GoodIn wsX5_climb wsX3_put := goodIn_r _ [87, 54, 238] (by decide +kernel) (by decide +kernel)
set_option maxRecDepth 20000 in
theorem gX5_climb_X3_put : GoodIn wsX5_climb (wsV RX5 105 RX3 yX3_put wsX3_put) := goodIn_app (goodIn_of _ (by decide +kernel)) ggX5_climb_X3_put
set_option maxRecDepth 20000 in
theorem ggX5_climb_X5_store : GoodIn wsX5_climb wsX5_store := goodIn_r _ [121, 122, 32, 33, 34, 123, 39, 40, 41, 9, 42, 23, 55, 56, 57, 58, 5, 59, 60, 61, 62, 124, 125, 126, 103, 127, 128, 129, 130, 131, 132, 133, 134, 135, 136, 137, 138, 139, 140, 141, 142, 50, 51, 52, 53, 54, 143, 144, 145, 146, 147, 85, 86, 87, 148, 149, 150, 151, 102, 104, 35, 36, 37, 38, 43, 44, 45, 46, 47, 48, 152, 153, 154, 66, 155, 72, 156, 157, 158, 159, 105, 160, 161, 162, 163, 77, 78, 164, 165, 166, 167, 83, 168, 169, 170, 171, 172, 173, 174, 175, 176, 177, 178, 179, 180, 181, 182, 183, 184, 185, 186, 187, 188, 189, 190, 191, 192, 193, 194, 195, 196, 197, 198, 199, 200, 201, 202, 203, 204, 205, 206, 207, 208, 209, 210, 211, 212, 213, 214, 215, 216, 217, 117, 218, 219, 220, 221, 222, 223, 224, 225, 226, 227, 228, 229, 230, 231, 232, 233, 234, 235, 243, 244, 245, 246, 247, 248, 249, 250, 251, 252, 253, 238, 236, 237, 239, 240, 241, 242] (by decide +kernel) (by decide +kernel)
set_option maxRecDepth 20000 in
theorem gX5_climb_X5_store : GoodIn wsX5_climb (wsV RX5 109 RX5 yX5_store wsX5_store) := goodIn_app (goodIn_of _ (by decide +kernel)) ggX5_climb_X5_store
theorem dX5_climb_0 : decode cX5_climb 0 = .ok (.iload_n 3, 1) := by decide +kernel
theorem dX5_climb_1 : decode cX5_climb 1 = .ok (.invokestatic 70, 3) := by decide +kernel
theorem dX5_climb_4 : decode cX5_climb 4 = .ok (.ifCond .eq 23, 3) := by decide +kernel
theorem dX5_climb_7 : decode cX5_climb 7 = .ok (.iload_n 1, 1) := by decide +kernel
theorem dX5_climb_8 : decode cX5_climb 8 = .ok (.i2l, 1) := by decide +kernel
theorem dX5_climb_9 : decode cX5_climb 9 = .ok (.invokestatic 74, 3) := by decide +kernel
theorem dX5_climb_12 : decode cX5_climb 12 = .ok (.ifCond .eq 15, 3) := by decide +kernel
theorem dX5_climb_15 : decode cX5_climb 15 = .ok (.iload_n 1, 1) := by decide +kernel
theorem dX5_climb_16 : decode cX5_climb 16 = .ok (.iload_n 2, 1) := by decide +kernel
theorem dX5_climb_17 : decode cX5_climb 17 = .ok (.iload_n 3, 1) := by decide +kernel
theorem dX5_climb_18 : decode cX5_climb 18 = .ok (.invokestatic 78, 3) := by decide +kernel
theorem dX5_climb_21 : decode cX5_climb 21 = .ok (.invokestatic 74, 3) := by decide +kernel
theorem dX5_climb_24 : decode cX5_climb 24 = .ok (.ifCond .ne 13, 3) := by decide +kernel
theorem dX5_climb_27 : decode cX5_climb 27 = .ok (.new 82, 3) := by decide +kernel
theorem dX5_climb_30 : decode cX5_climb 30 = .ok (.dup, 1) := by decide +kernel
theorem dX5_climb_31 : decode cX5_climb 31 = .ok (.ldc 84, 2) := by decide +kernel
theorem dX5_climb_33 : decode cX5_climb 33 = .ok (.invokespecial 86, 3) := by decide +kernel
theorem dX5_climb_36 : decode cX5_climb 36 = .ok (.athrow, 1) := by decide +kernel
theorem dX5_climb_37 : decode cX5_climb 37 = .ok (.aload_n 0, 1) := by decide +kernel
theorem dX5_climb_38 : decode cX5_climb 38 = .ok (.getfield 9, 3) := by decide +kernel
theorem dX5_climb_41 : decode cX5_climb 41 = .ok (.iload_n 3, 1) := by decide +kernel
theorem dX5_climb_42 : decode cX5_climb 42 = .ok (.iadd, 1) := by decide +kernel
theorem dX5_climb_43 : decode cX5_climb 43 = .ok (.bipush 96, 2) := by decide +kernel
theorem dX5_climb_45 : decode cX5_climb 45 = .ok (.if_icmp .le 13, 3) := by decide +kernel
theorem dX5_climb_48 : decode cX5_climb 48 = .ok (.new 89, 3) := by decide +kernel
theorem dX5_climb_51 : decode cX5_climb 51 = .ok (.dup, 1) := by decide +kernel
theorem dX5_climb_52 : decode cX5_climb 52 = .ok (.ldc 91, 2) := by decide +kernel
theorem dX5_climb_54 : decode cX5_climb 54 = .ok (.invokespecial 93, 3) := by decide +kernel
theorem dX5_climb_57 : decode cX5_climb 57 = .ok (.athrow, 1) := by decide +kernel
theorem dX5_climb_58 : decode cX5_climb 58 = .ok (.aload_n 0, 1) := by decide +kernel
theorem dX5_climb_59 : decode cX5_climb 59 = .ok (.aload_n 0, 1) := by decide +kernel
theorem dX5_climb_60 : decode cX5_climb 60 = .ok (.getfield 9, 3) := by decide +kernel
theorem dX5_climb_63 : decode cX5_climb 63 = .ok (.invokevirtual 94, 3) := by decide +kernel
theorem dX5_climb_66 : decode cX5_climb 66 = .ok (.istore 4, 2) := by decide +kernel
theorem dX5_climb_68 : decode cX5_climb 68 = .ok (.iload 4, 2) := by decide +kernel
theorem dX5_climb_70 : decode cX5_climb 70 = .ok (.aload_n 0, 1) := by decide +kernel
theorem dX5_climb_71 : decode cX5_climb 71 = .ok (.invokevirtual 98, 3) := by decide +kernel
theorem dX5_climb_74 : decode cX5_climb 74 = .ok (.if_icmp .ge 9, 3) := by decide +kernel
theorem dX5_climb_77 : decode cX5_climb 77 = .ok (.aload_n 0, 1) := by decide +kernel
theorem dX5_climb_78 : decode cX5_climb 78 = .ok (.iload 4, 2) := by decide +kernel
theorem dX5_climb_80 : decode cX5_climb 80 = .ok (.invokevirtual 102, 3) := by decide +kernel
theorem dX5_climb_83 : decode cX5_climb 83 = .ok (.iconst 0, 1) := by decide +kernel
theorem dX5_climb_84 : decode cX5_climb 84 = .ok (.istore 5, 2) := by decide +kernel
theorem dX5_climb_86 : decode cX5_climb 86 = .ok (.iload 5, 2) := by decide +kernel
theorem dX5_climb_88 : decode cX5_climb 88 = .ok (.iload_n 3, 1) := by decide +kernel
theorem dX5_climb_89 : decode cX5_climb 89 = .ok (.if_icmp .ge 29, 3) := by decide +kernel
theorem dX5_climb_92 : decode cX5_climb 92 = .ok (.aload_n 0, 1) := by decide +kernel
theorem dX5_climb_93 : decode cX5_climb 93 = .ok (.getfield 45, 3) := by decide +kernel
theorem dX5_climb_96 : decode cX5_climb 96 = .ok (.aload_n 0, 1) := by decide +kernel
theorem dX5_climb_97 : decode cX5_climb 97 = .ok (.getfield 9, 3) := by decide +kernel
theorem dX5_climb_100 : decode cX5_climb 100 = .ok (.iload 5, 2) := by decide +kernel
theorem dX5_climb_102 : decode cX5_climb 102 = .ok (.iadd, 1) := by decide +kernel
theorem dX5_climb_103 : decode cX5_climb 103 = .ok (.iload_n 1, 1) := by decide +kernel
theorem dX5_climb_104 : decode cX5_climb 104 = .ok (.iload 5, 2) := by decide +kernel
theorem dX5_climb_106 : decode cX5_climb 106 = .ok (.iload_n 2, 1) := by decide +kernel
theorem dX5_climb_107 : decode cX5_climb 107 = .ok (.imul, 1) := by decide +kernel
theorem dX5_climb_108 : decode cX5_climb 108 = .ok (.iadd, 1) := by decide +kernel
theorem dX5_climb_109 : decode cX5_climb 109 = .ok (.invokevirtual 105, 3) := by decide +kernel
theorem dX5_climb_112 : decode cX5_climb 112 = .ok (.iinc 5 1, 3) := by decide +kernel
theorem dX5_climb_115 : decode cX5_climb 115 = .ok (.goto (-29), 3) := by decide +kernel
theorem dX5_climb_118 : decode cX5_climb 118 = .ok (.aload_n 0, 1) := by decide +kernel
theorem dX5_climb_119 : decode cX5_climb 119 = .ok (.dup, 1) := by decide +kernel
theorem dX5_climb_120 : decode cX5_climb 120 = .ok (.getfield 9, 3) := by decide +kernel
theorem dX5_climb_123 : decode cX5_climb 123 = .ok (.iload_n 3, 1) := by decide +kernel
theorem dX5_climb_124 : decode cX5_climb 124 = .ok (.iadd, 1) := by decide +kernel
theorem dX5_climb_125 : decode cX5_climb 125 = .ok (.putfield 9, 3) := by decide +kernel
theorem dX5_climb_128 : decode cX5_climb 128 = .ok (.aload_n 0, 1) := by decide +kernel
theorem dX5_climb_129 : decode cX5_climb 129 = .ok (.invokevirtual 98, 3) := by decide +kernel
theorem dX5_climb_132 : decode cX5_climb 132 = .ok (.istore 5, 2) := by decide +kernel
theorem dX5_climb_134 : decode cX5_climb 134 = .ok (.iload 4, 2) := by decide +kernel
theorem dX5_climb_136 : decode cX5_climb 136 = .ok (.istore 6, 2) := by decide +kernel
theorem dX5_climb_138 : decode cX5_climb 138 = .ok (.iload 6, 2) := by decide +kernel
theorem dX5_climb_140 : decode cX5_climb 140 = .ok (.iload 5, 2) := by decide +kernel
theorem dX5_climb_142 : decode cX5_climb 142 = .ok (.if_icmp .ge 16, 3) := by decide +kernel
theorem dX5_climb_145 : decode cX5_climb 145 = .ok (.aload_n 0, 1) := by decide +kernel
theorem dX5_climb_146 : decode cX5_climb 146 = .ok (.iload 6, 2) := by decide +kernel
theorem dX5_climb_148 : decode cX5_climb 148 = .ok (.iconst 0, 1) := by decide +kernel
theorem dX5_climb_149 : decode cX5_climb 149 = .ok (.invokevirtual 109, 3) := by decide +kernel
theorem dX5_climb_152 : decode cX5_climb 152 = .ok (.iinc 6 1, 3) := by decide +kernel
theorem dX5_climb_155 : decode cX5_climb 155 = .ok (.goto (-17), 3) := by decide +kernel
theorem dX5_climb_158 : decode cX5_climb 158 = .ok (.aload_n 0, 1) := by decide +kernel
theorem dX5_climb_159 : decode cX5_climb 159 = .ok (.getfield 9, 3) := by decide +kernel
theorem dX5_climb_162 : decode cX5_climb 162 = .ok (.ireturn, 1) := by decide +kernel
set_option maxRecDepth 20000 in
theorem ggX5_set_X5_checkRow : GoodIn wsX5_set wsX5_checkRow := goodIn_ca (goodIn_r _ [8, 9, 10, 11, 220, 221, 222, 223, 224, 225, 226, 227, 228, 229] (by decide +kernel) (by decide +kernel)) (goodIn_sub (fun _ h => List.mem_cons_of_mem _ (List.mem_append_right _ h)) (by decide +kernel))
set_option maxRecDepth 20000 in
theorem gX5_set_X5_checkRow : GoodIn wsX5_set (wsV RX5 112 RX5 yX5_checkRow wsX5_checkRow) := goodIn_app (goodIn_of _ (by decide +kernel)) ggX5_set_X5_checkRow
set_option maxRecDepth 20000 in
theorem ggX5_set_X5_isValue : GoodIn wsX5_set wsX5_isValue := goodIn_r _ [14, 15, 16] (by decide +kernel) (by decide +kernel)
set_option maxRecDepth 20000 in
theorem gX5_set_X5_isValue : GoodIn wsX5_set (va_wsS RX5 74 yX5_isValue wsX5_isValue) := goodIn_app (goodIn_of _ (by decide +kernel)) ggX5_set_X5_isValue
set_option maxRecDepth 20000 in
theorem ggX5_set_X5_segmentOf : GoodIn wsX5_set wsX5_segmentOf := goodIn_r _ [20, 21, 220, 221, 222, 223, 224, 225, 226, 227, 228, 229] (by decide +kernel) (by decide +kernel)
set_option maxRecDepth 20000 in
theorem gX5_set_X5_segmentOf : GoodIn wsX5_set (wsV RX5 94 RX5 yX5_segmentOf wsX5_segmentOf) := goodIn_app (goodIn_of _ (by decide +kernel)) ggX5_set_X5_segmentOf
set_option maxRecDepth 20000 in
theorem ggX5_set_X5_load : GoodIn wsX5_set wsX5_load := goodIn_r _ [25, 26, 27, 28, 29, 30, 31, 7, 32, 33, 34, 35, 36, 21, 37, 38, 39, 40, 41, 42, 43, 44, 45, 46, 47, 48, 49, 50, 51, 52, 11, 53, 54, 55, 56, 57, 58, 59, 60, 61, 62, 63, 64, 65, 66, 67, 68, 69, 70, 71, 72, 73, 74, 75, 76, 77, 78, 79, 80, 81, 82, 83, 84, 85, 86, 87, 88, 89, 90, 91, 92, 93, 94, 95, 96, 97, 98, 99, 100, 101, 102, 103, 104, 105, 106, 107, 108, 109, 110, 220, 221, 222, 223, 224, 225, 226, 227, 228, 229, 230, 231, 232, 233, 234, 235, 236] (by decide +kernel) (by decide +kernel)
set_option maxRecDepth 20000 in
theorem gX5_set_X5_load : GoodIn wsX5_set (wsV RX5 102 RX5 yX5_load wsX5_load) := goodIn_app (goodIn_of _ (by decide +kernel)) ggX5_set_X5_load
set_option maxRecDepth 20000 in
theorem ggX5_set_X3_get : GoodIn wsX5_set wsX3_get := goodIn_r _ [47, 48, 232] (by decide +kernel) (by decide +kernel)
set_option maxRecDepth 20000 in
theorem gX5_set_X3_get : GoodIn wsX5_set (wsV RX5 117 RX3 yX3_get wsX3_get) := goodIn_app (goodIn_of _ (by decide +kernel)) ggX5_set_X3_get
set_option maxRecDepth 20000 in
theorem ggX5_set_X3_put : GoodIn wsX5_set wsX3_put := goodIn_r _ [81, 48, 232] (by decide +kernel) (by decide +kernel)
set_option maxRecDepth 20000 in
theorem gX5_set_X3_put : GoodIn wsX5_set (wsV RX5 105 RX3 yX3_put wsX3_put) := goodIn_app (goodIn_of _ (by decide +kernel)) ggX5_set_X3_put
set_option maxRecDepth 20000 in
theorem ggX5_set_X5_store : GoodIn wsX5_set wsX5_store := goodIn_r _ [115, 116, 26, 27, 28, 117, 33, 34, 35, 7, 36, 21, 49, 50, 51, 52, 11, 53, 54, 55, 56, 118, 119, 120, 97, 121, 122, 123, 124, 125, 126, 127, 128, 129, 130, 131, 132, 133, 134, 135, 136, 44, 45, 46, 47, 48, 137, 138, 139, 140, 141, 79, 80, 81, 142, 143, 144, 145, 96, 98, 29, 30, 31, 32, 37, 38, 39, 40, 41, 42, 146, 147, 148, 60, 149, 66, 150, 151, 152, 153, 99, 154, 155, 156, 157, 71, 72, 158, 159, 160, 161, 77, 162, 163, 164, 165, 166, 167, 168, 169, 170, 171, 172, 173, 174, 175, 176, 177, 178, 179, 180, 181, 182, 183, 184, 185, 186, 187, 188, 189, 190, 191, 192, 193, 194, 195, 196, 197, 198, 199, 200, 201, 202, 203, 204, 205, 206, 207, 208, 209, 210, 211, 111, 212, 213, 214, 215, 216, 217, 218, 219, 220, 221, 222, 223, 224, 225, 226, 227, 228, 229, 237, 238, 239, 240, 241, 242, 243, 244, 245, 246, 247, 232, 230, 231, 233, 234, 235, 236] (by decide +kernel) (by decide +kernel)
set_option maxRecDepth 20000 in
theorem gX5_set_X5_store : GoodIn wsX5_set (wsV RX5 109 RX5 yX5_store wsX5_store) := goodIn_app (goodIn_of _ (by decide +kernel)) ggX5_set_X5_store
