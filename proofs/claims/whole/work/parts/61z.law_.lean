theorem dL_append_0 : decode cL_append 0 = .ok (.aload_n 3, 1) := by decide +kernel
theorem dL_append_1 : decode cL_append 1 = .ok (.iconst 0, 1) := by decide +kernel
theorem dL_append_2 : decode cL_append 2 = .ok (.aload_n 0, 1) := by decide +kernel
theorem dL_append_3 : decode cL_append 3 = .ok (.iload_n 1, 1) := by decide +kernel
theorem dL_append_4 : decode cL_append 4 = .ok (.iload_n 2, 1) := by decide +kernel
theorem dL_append_5 : decode cL_append 5 = .ok (.invokevirtual 7, 3) := by decide +kernel
theorem dL_append_8 : decode cL_append 8 = .ok (.i2l, 1) := by decide +kernel
theorem dL_append_9 : decode cL_append 9 = .ok (.lastore, 1) := by decide +kernel
theorem dL_append_10 : decode cL_append 10 = .ok (.goto 11, 3) := by decide +kernel
theorem dL_append_13 : decode cL_append 13 = .ok (.astore 4, 2) := by decide +kernel
theorem dL_append_15 : decode cL_append 15 = .ok (.iconst 1, 1) := by decide +kernel
theorem dL_append_16 : decode cL_append 16 = .ok (.ireturn, 1) := by decide +kernel
theorem dL_append_17 : decode cL_append 17 = .ok (.astore 4, 2) := by decide +kernel
theorem dL_append_19 : decode cL_append 19 = .ok (.iconst 2, 1) := by decide +kernel
theorem dL_append_20 : decode cL_append 20 = .ok (.ireturn, 1) := by decide +kernel
theorem dL_append_21 : decode cL_append 21 = .ok (.iconst 0, 1) := by decide +kernel
theorem dL_append_22 : decode cL_append 22 = .ok (.ireturn, 1) := by decide +kernel
theorem dL_climb_0 : decode cL_climb 0 = .ok (.aload 4, 2) := by decide +kernel
theorem dL_climb_2 : decode cL_climb 2 = .ok (.iconst 0, 1) := by decide +kernel
theorem dL_climb_3 : decode cL_climb 3 = .ok (.aload_n 0, 1) := by decide +kernel
theorem dL_climb_4 : decode cL_climb 4 = .ok (.iload_n 1, 1) := by decide +kernel
theorem dL_climb_5 : decode cL_climb 5 = .ok (.iload_n 2, 1) := by decide +kernel
theorem dL_climb_6 : decode cL_climb 6 = .ok (.iload_n 3, 1) := by decide +kernel
theorem dL_climb_7 : decode cL_climb 7 = .ok (.invokevirtual 17, 3) := by decide +kernel
theorem dL_climb_10 : decode cL_climb 10 = .ok (.i2l, 1) := by decide +kernel
theorem dL_climb_11 : decode cL_climb 11 = .ok (.lastore, 1) := by decide +kernel
theorem dL_climb_12 : decode cL_climb 12 = .ok (.goto 11, 3) := by decide +kernel
theorem dL_climb_15 : decode cL_climb 15 = .ok (.astore 5, 2) := by decide +kernel
theorem dL_climb_17 : decode cL_climb 17 = .ok (.iconst 1, 1) := by decide +kernel
theorem dL_climb_18 : decode cL_climb 18 = .ok (.ireturn, 1) := by decide +kernel
theorem dL_climb_19 : decode cL_climb 19 = .ok (.astore 5, 2) := by decide +kernel
theorem dL_climb_21 : decode cL_climb 21 = .ok (.iconst 2, 1) := by decide +kernel
theorem dL_climb_22 : decode cL_climb 22 = .ok (.ireturn, 1) := by decide +kernel
theorem dL_climb_23 : decode cL_climb 23 = .ok (.iconst 0, 1) := by decide +kernel
theorem dL_climb_24 : decode cL_climb 24 = .ok (.ireturn, 1) := by decide +kernel
theorem dL_set_0 : decode cL_set 0 = .ok (.aload_n 3, 1) := by decide +kernel
theorem dL_set_1 : decode cL_set 1 = .ok (.iconst 0, 1) := by decide +kernel
theorem dL_set_2 : decode cL_set 2 = .ok (.aload_n 0, 1) := by decide +kernel
theorem dL_set_3 : decode cL_set 3 = .ok (.iload_n 1, 1) := by decide +kernel
theorem dL_set_4 : decode cL_set 4 = .ok (.iload_n 2, 1) := by decide +kernel
theorem dL_set_5 : decode cL_set 5 = .ok (.invokevirtual 21, 3) := by decide +kernel
theorem dL_set_8 : decode cL_set 8 = .ok (.i2l, 1) := by decide +kernel
theorem dL_set_9 : decode cL_set 9 = .ok (.lastore, 1) := by decide +kernel
theorem dL_set_10 : decode cL_set 10 = .ok (.goto 11, 3) := by decide +kernel
theorem dL_set_13 : decode cL_set 13 = .ok (.astore 4, 2) := by decide +kernel
theorem dL_set_15 : decode cL_set 15 = .ok (.iconst 1, 1) := by decide +kernel
theorem dL_set_16 : decode cL_set 16 = .ok (.ireturn, 1) := by decide +kernel
theorem dL_set_17 : decode cL_set 17 = .ok (.astore 4, 2) := by decide +kernel
theorem dL_set_19 : decode cL_set 19 = .ok (.iconst 2, 1) := by decide +kernel
theorem dL_set_20 : decode cL_set 20 = .ok (.ireturn, 1) := by decide +kernel
theorem dL_set_21 : decode cL_set 21 = .ok (.iconst 0, 1) := by decide +kernel
theorem dL_set_22 : decode cL_set 22 = .ok (.ireturn, 1) := by decide +kernel
theorem dL_cut_0 : decode cL_cut 0 = .ok (.aload_n 2, 1) := by decide +kernel
theorem dL_cut_1 : decode cL_cut 1 = .ok (.iconst 0, 1) := by decide +kernel
theorem dL_cut_2 : decode cL_cut 2 = .ok (.aload_n 0, 1) := by decide +kernel
theorem dL_cut_3 : decode cL_cut 3 = .ok (.iload_n 1, 1) := by decide +kernel
theorem dL_cut_4 : decode cL_cut 4 = .ok (.invokevirtual 26, 3) := by decide +kernel
theorem dL_cut_7 : decode cL_cut 7 = .ok (.i2l, 1) := by decide +kernel
theorem dL_cut_8 : decode cL_cut 8 = .ok (.lastore, 1) := by decide +kernel
theorem dL_cut_9 : decode cL_cut 9 = .ok (.goto 6, 3) := by decide +kernel
theorem dL_cut_12 : decode cL_cut 12 = .ok (.astore_n 3, 1) := by decide +kernel
theorem dL_cut_13 : decode cL_cut 13 = .ok (.iconst 1, 1) := by decide +kernel
theorem dL_cut_14 : decode cL_cut 14 = .ok (.ireturn, 1) := by decide +kernel
theorem dL_cut_15 : decode cL_cut 15 = .ok (.iconst 0, 1) := by decide +kernel
theorem dL_cut_16 : decode cL_cut 16 = .ok (.ireturn, 1) := by decide +kernel
theorem dL_value_0 : decode cL_value 0 = .ok (.aload_n 2, 1) := by decide +kernel
theorem dL_value_1 : decode cL_value 1 = .ok (.iconst 0, 1) := by decide +kernel
theorem dL_value_2 : decode cL_value 2 = .ok (.aload_n 0, 1) := by decide +kernel
theorem dL_value_3 : decode cL_value 3 = .ok (.iload_n 1, 1) := by decide +kernel
theorem dL_value_4 : decode cL_value 4 = .ok (.invokevirtual 30, 3) := by decide +kernel
theorem dL_value_7 : decode cL_value 7 = .ok (.i2l, 1) := by decide +kernel
theorem dL_value_8 : decode cL_value 8 = .ok (.lastore, 1) := by decide +kernel
theorem dL_value_9 : decode cL_value 9 = .ok (.goto 6, 3) := by decide +kernel
theorem dL_value_12 : decode cL_value 12 = .ok (.astore_n 3, 1) := by decide +kernel
theorem dL_value_13 : decode cL_value 13 = .ok (.iconst 1, 1) := by decide +kernel
theorem dL_value_14 : decode cL_value 14 = .ok (.ireturn, 1) := by decide +kernel
theorem dL_value_15 : decode cL_value 15 = .ok (.iconst 0, 1) := by decide +kernel
theorem dL_value_16 : decode cL_value 16 = .ok (.ireturn, 1) := by decide +kernel
theorem dL_setSegmentSize_0 : decode cL_setSegmentSize 0 = .ok (.aload_n 2, 1) := by decide +kernel
theorem dL_setSegmentSize_1 : decode cL_setSegmentSize 1 = .ok (.iconst 0, 1) := by decide +kernel
theorem dL_setSegmentSize_2 : decode cL_setSegmentSize 2 = .ok (.aload_n 0, 1) := by decide +kernel
theorem dL_setSegmentSize_3 : decode cL_setSegmentSize 3 = .ok (.iload_n 1, 1) := by decide +kernel
theorem dL_setSegmentSize_4 : decode cL_setSegmentSize 4 = .ok (.invokevirtual 33, 3) := by decide +kernel
theorem dL_setSegmentSize_7 : decode cL_setSegmentSize 7 = .ok (.i2l, 1) := by decide +kernel
theorem dL_setSegmentSize_8 : decode cL_setSegmentSize 8 = .ok (.lastore, 1) := by decide +kernel
theorem dL_setSegmentSize_9 : decode cL_setSegmentSize 9 = .ok (.goto 6, 3) := by decide +kernel
theorem dL_setSegmentSize_12 : decode cL_setSegmentSize 12 = .ok (.astore_n 3, 1) := by decide +kernel
theorem dL_setSegmentSize_13 : decode cL_setSegmentSize 13 = .ok (.iconst 1, 1) := by decide +kernel
theorem dL_setSegmentSize_14 : decode cL_setSegmentSize 14 = .ok (.ireturn, 1) := by decide +kernel
theorem dL_setSegmentSize_15 : decode cL_setSegmentSize 15 = .ok (.iconst 0, 1) := by decide +kernel
theorem dL_setSegmentSize_16 : decode cL_setSegmentSize 16 = .ok (.ireturn, 1) := by decide +kernel
theorem dL_addQuery_0 : decode cL_addQuery 0 = .ok (.aload 5, 2) := by decide +kernel
theorem dL_addQuery_2 : decode cL_addQuery 2 = .ok (.iconst 0, 1) := by decide +kernel
theorem dL_addQuery_3 : decode cL_addQuery 3 = .ok (.aload_n 0, 1) := by decide +kernel
theorem dL_addQuery_4 : decode cL_addQuery 4 = .ok (.iload_n 1, 1) := by decide +kernel
theorem dL_addQuery_5 : decode cL_addQuery 5 = .ok (.iload_n 2, 1) := by decide +kernel
theorem dL_addQuery_6 : decode cL_addQuery 6 = .ok (.iload_n 3, 1) := by decide +kernel
theorem dL_addQuery_7 : decode cL_addQuery 7 = .ok (.iload 4, 2) := by decide +kernel
theorem dL_addQuery_9 : decode cL_addQuery 9 = .ok (.invokevirtual 36, 3) := by decide +kernel
theorem dL_addQuery_12 : decode cL_addQuery 12 = .ok (.i2l, 1) := by decide +kernel
theorem dL_addQuery_13 : decode cL_addQuery 13 = .ok (.lastore, 1) := by decide +kernel
theorem dL_addQuery_14 : decode cL_addQuery 14 = .ok (.goto 11, 3) := by decide +kernel
theorem dL_addQuery_17 : decode cL_addQuery 17 = .ok (.astore 6, 2) := by decide +kernel
theorem dL_addQuery_19 : decode cL_addQuery 19 = .ok (.iconst 1, 1) := by decide +kernel
theorem dL_addQuery_20 : decode cL_addQuery 20 = .ok (.ireturn, 1) := by decide +kernel
theorem dL_addQuery_21 : decode cL_addQuery 21 = .ok (.astore 6, 2) := by decide +kernel
theorem dL_addQuery_23 : decode cL_addQuery 23 = .ok (.iconst 2, 1) := by decide +kernel
theorem dL_addQuery_24 : decode cL_addQuery 24 = .ok (.ireturn, 1) := by decide +kernel
theorem dL_addQuery_25 : decode cL_addQuery 25 = .ok (.iconst 0, 1) := by decide +kernel
theorem dL_addQuery_26 : decode cL_addQuery 26 = .ok (.ireturn, 1) := by decide +kernel
theorem dL_setPrice_0 : decode cL_setPrice 0 = .ok (.aload_n 2, 1) := by decide +kernel
theorem dL_setPrice_1 : decode cL_setPrice 1 = .ok (.iconst 0, 1) := by decide +kernel
theorem dL_setPrice_2 : decode cL_setPrice 2 = .ok (.aload_n 0, 1) := by decide +kernel
theorem dL_setPrice_3 : decode cL_setPrice 3 = .ok (.iload_n 1, 1) := by decide +kernel
theorem dL_setPrice_4 : decode cL_setPrice 4 = .ok (.invokevirtual 40, 3) := by decide +kernel
theorem dL_setPrice_7 : decode cL_setPrice 7 = .ok (.i2l, 1) := by decide +kernel
theorem dL_setPrice_8 : decode cL_setPrice 8 = .ok (.lastore, 1) := by decide +kernel
theorem dL_setPrice_9 : decode cL_setPrice 9 = .ok (.goto 6, 3) := by decide +kernel
theorem dL_setPrice_12 : decode cL_setPrice 12 = .ok (.astore_n 3, 1) := by decide +kernel
theorem dL_setPrice_13 : decode cL_setPrice 13 = .ok (.iconst 1, 1) := by decide +kernel
theorem dL_setPrice_14 : decode cL_setPrice 14 = .ok (.ireturn, 1) := by decide +kernel
theorem dL_setPrice_15 : decode cL_setPrice 15 = .ok (.iconst 0, 1) := by decide +kernel
theorem dL_setPrice_16 : decode cL_setPrice 16 = .ok (.ireturn, 1) := by decide +kernel
theorem dL_answer_0 : decode cL_answer 0 = .ok (.aload_n 2, 1) := by decide +kernel
theorem dL_answer_1 : decode cL_answer 1 = .ok (.iconst 0, 1) := by decide +kernel
theorem dL_answer_2 : decode cL_answer 2 = .ok (.aload_n 0, 1) := by decide +kernel
theorem dL_answer_3 : decode cL_answer 3 = .ok (.iload_n 1, 1) := by decide +kernel
theorem dL_answer_4 : decode cL_answer 4 = .ok (.invokevirtual 43, 3) := by decide +kernel
theorem dL_answer_7 : decode cL_answer 7 = .ok (.lastore, 1) := by decide +kernel
theorem dL_answer_8 : decode cL_answer 8 = .ok (.goto 6, 3) := by decide +kernel
theorem dL_answer_11 : decode cL_answer 11 = .ok (.astore_n 3, 1) := by decide +kernel
theorem dL_answer_12 : decode cL_answer 12 = .ok (.iconst 1, 1) := by decide +kernel
theorem dL_answer_13 : decode cL_answer 13 = .ok (.ireturn, 1) := by decide +kernel
theorem dL_answer_14 : decode cL_answer 14 = .ok (.iconst 0, 1) := by decide +kernel
theorem dL_answer_15 : decode cL_answer 15 = .ok (.ireturn, 1) := by decide +kernel
theorem dL_sizeWith_0 : decode cL_sizeWith 0 = .ok (.aload_n 3, 1) := by decide +kernel
theorem dL_sizeWith_1 : decode cL_sizeWith 1 = .ok (.iconst 0, 1) := by decide +kernel
theorem dL_sizeWith_2 : decode cL_sizeWith 2 = .ok (.aload_n 0, 1) := by decide +kernel
theorem dL_sizeWith_3 : decode cL_sizeWith 3 = .ok (.iload_n 1, 1) := by decide +kernel
theorem dL_sizeWith_4 : decode cL_sizeWith 4 = .ok (.iload_n 2, 1) := by decide +kernel
theorem dL_sizeWith_5 : decode cL_sizeWith 5 = .ok (.invokevirtual 47, 3) := by decide +kernel
theorem dL_sizeWith_8 : decode cL_sizeWith 8 = .ok (.i2l, 1) := by decide +kernel
theorem dL_sizeWith_9 : decode cL_sizeWith 9 = .ok (.lastore, 1) := by decide +kernel
theorem dL_sizeWith_10 : decode cL_sizeWith 10 = .ok (.goto 7, 3) := by decide +kernel
theorem dL_sizeWith_13 : decode cL_sizeWith 13 = .ok (.astore 4, 2) := by decide +kernel
theorem dL_sizeWith_15 : decode cL_sizeWith 15 = .ok (.iconst 1, 1) := by decide +kernel
theorem dL_sizeWith_16 : decode cL_sizeWith 16 = .ok (.ireturn, 1) := by decide +kernel
theorem dL_sizeWith_17 : decode cL_sizeWith 17 = .ok (.iconst 0, 1) := by decide +kernel
theorem dL_sizeWith_18 : decode cL_sizeWith 18 = .ok (.ireturn, 1) := by decide +kernel
theorem dL_costWith_0 : decode cL_costWith 0 = .ok (.aload 4, 2) := by decide +kernel
theorem dL_costWith_2 : decode cL_costWith 2 = .ok (.iconst 0, 1) := by decide +kernel
theorem dL_costWith_3 : decode cL_costWith 3 = .ok (.aload_n 0, 1) := by decide +kernel
theorem dL_costWith_4 : decode cL_costWith 4 = .ok (.iload_n 1, 1) := by decide +kernel
theorem dL_costWith_5 : decode cL_costWith 5 = .ok (.iload_n 2, 1) := by decide +kernel
theorem dL_costWith_6 : decode cL_costWith 6 = .ok (.iload_n 3, 1) := by decide +kernel
theorem dL_costWith_7 : decode cL_costWith 7 = .ok (.invokevirtual 50, 3) := by decide +kernel
theorem dL_costWith_10 : decode cL_costWith 10 = .ok (.i2l, 1) := by decide +kernel
theorem dL_costWith_11 : decode cL_costWith 11 = .ok (.lastore, 1) := by decide +kernel
theorem dL_costWith_12 : decode cL_costWith 12 = .ok (.goto 7, 3) := by decide +kernel
theorem dL_costWith_15 : decode cL_costWith 15 = .ok (.astore 5, 2) := by decide +kernel
theorem dL_costWith_17 : decode cL_costWith 17 = .ok (.iconst 1, 1) := by decide +kernel
theorem dL_costWith_18 : decode cL_costWith 18 = .ok (.ireturn, 1) := by decide +kernel
theorem dL_costWith_19 : decode cL_costWith 19 = .ok (.iconst 0, 1) := by decide +kernel
theorem dL_costWith_20 : decode cL_costWith 20 = .ok (.ireturn, 1) := by decide +kernel
theorem dL_scoreWith_0 : decode cL_scoreWith 0 = .ok (.aload_n 3, 1) := by decide +kernel
theorem dL_scoreWith_1 : decode cL_scoreWith 1 = .ok (.iconst 0, 1) := by decide +kernel
theorem dL_scoreWith_2 : decode cL_scoreWith 2 = .ok (.aload_n 0, 1) := by decide +kernel
theorem dL_scoreWith_3 : decode cL_scoreWith 3 = .ok (.iload_n 1, 1) := by decide +kernel
theorem dL_scoreWith_4 : decode cL_scoreWith 4 = .ok (.iload_n 2, 1) := by decide +kernel
theorem dL_scoreWith_5 : decode cL_scoreWith 5 = .ok (.invokevirtual 53, 3) := by decide +kernel
theorem dL_scoreWith_8 : decode cL_scoreWith 8 = .ok (.i2l, 1) := by decide +kernel
theorem dL_scoreWith_9 : decode cL_scoreWith 9 = .ok (.lastore, 1) := by decide +kernel
theorem dL_scoreWith_10 : decode cL_scoreWith 10 = .ok (.goto 7, 3) := by decide +kernel
theorem dL_scoreWith_13 : decode cL_scoreWith 13 = .ok (.astore 4, 2) := by decide +kernel
theorem dL_scoreWith_15 : decode cL_scoreWith 15 = .ok (.iconst 1, 1) := by decide +kernel
theorem dL_scoreWith_16 : decode cL_scoreWith 16 = .ok (.ireturn, 1) := by decide +kernel
theorem dL_scoreWith_17 : decode cL_scoreWith 17 = .ok (.iconst 0, 1) := by decide +kernel
theorem dL_scoreWith_18 : decode cL_scoreWith 18 = .ok (.ireturn, 1) := by decide +kernel
theorem dL_use_0 : decode cL_use 0 = .ok (.aload_n 3, 1) := by decide +kernel
theorem dL_use_1 : decode cL_use 1 = .ok (.iconst 0, 1) := by decide +kernel
theorem dL_use_2 : decode cL_use 2 = .ok (.aload_n 0, 1) := by decide +kernel
theorem dL_use_3 : decode cL_use 3 = .ok (.iload_n 1, 1) := by decide +kernel
theorem dL_use_4 : decode cL_use 4 = .ok (.iload_n 2, 1) := by decide +kernel
theorem dL_use_5 : decode cL_use 5 = .ok (.invokevirtual 56, 3) := by decide +kernel
theorem dL_use_8 : decode cL_use 8 = .ok (.i2l, 1) := by decide +kernel
theorem dL_use_9 : decode cL_use 9 = .ok (.lastore, 1) := by decide +kernel
theorem dL_use_10 : decode cL_use 10 = .ok (.goto 11, 3) := by decide +kernel
theorem dL_use_13 : decode cL_use 13 = .ok (.astore 4, 2) := by decide +kernel
theorem dL_use_15 : decode cL_use 15 = .ok (.iconst 1, 1) := by decide +kernel
theorem dL_use_16 : decode cL_use 16 = .ok (.ireturn, 1) := by decide +kernel
theorem dL_use_17 : decode cL_use 17 = .ok (.astore 4, 2) := by decide +kernel
theorem dL_use_19 : decode cL_use 19 = .ok (.iconst 2, 1) := by decide +kernel
theorem dL_use_20 : decode cL_use 20 = .ok (.ireturn, 1) := by decide +kernel
theorem dL_use_21 : decode cL_use 21 = .ok (.iconst 0, 1) := by decide +kernel
theorem dL_use_22 : decode cL_use 22 = .ok (.ireturn, 1) := by decide +kernel
theorem dL_encoding_0 : decode cL_encoding 0 = .ok (.aload_n 2, 1) := by decide +kernel
theorem dL_encoding_1 : decode cL_encoding 1 = .ok (.iconst 0, 1) := by decide +kernel
theorem dL_encoding_2 : decode cL_encoding 2 = .ok (.aload_n 0, 1) := by decide +kernel
theorem dL_encoding_3 : decode cL_encoding 3 = .ok (.iload_n 1, 1) := by decide +kernel
theorem dL_encoding_4 : decode cL_encoding 4 = .ok (.invokevirtual 59, 3) := by decide +kernel
theorem dL_encoding_7 : decode cL_encoding 7 = .ok (.i2l, 1) := by decide +kernel
theorem dL_encoding_8 : decode cL_encoding 8 = .ok (.lastore, 1) := by decide +kernel
theorem dL_encoding_9 : decode cL_encoding 9 = .ok (.goto 6, 3) := by decide +kernel
theorem dL_encoding_12 : decode cL_encoding 12 = .ok (.astore_n 3, 1) := by decide +kernel
theorem dL_encoding_13 : decode cL_encoding 13 = .ok (.iconst 1, 1) := by decide +kernel
theorem dL_encoding_14 : decode cL_encoding 14 = .ok (.ireturn, 1) := by decide +kernel
theorem dL_encoding_15 : decode cL_encoding 15 = .ok (.iconst 0, 1) := by decide +kernel
theorem dL_encoding_16 : decode cL_encoding 16 = .ok (.ireturn, 1) := by decide +kernel
theorem dL_bitCount_0 : decode cL_bitCount 0 = .ok (.aload_n 2, 1) := by decide +kernel
theorem dL_bitCount_1 : decode cL_bitCount 1 = .ok (.iconst 0, 1) := by decide +kernel
theorem dL_bitCount_2 : decode cL_bitCount 2 = .ok (.aload_n 0, 1) := by decide +kernel
theorem dL_bitCount_3 : decode cL_bitCount 3 = .ok (.iload_n 1, 1) := by decide +kernel
theorem dL_bitCount_4 : decode cL_bitCount 4 = .ok (.invokevirtual 62, 3) := by decide +kernel
theorem dL_bitCount_7 : decode cL_bitCount 7 = .ok (.i2l, 1) := by decide +kernel
theorem dL_bitCount_8 : decode cL_bitCount 8 = .ok (.lastore, 1) := by decide +kernel
theorem dL_bitCount_9 : decode cL_bitCount 9 = .ok (.goto 6, 3) := by decide +kernel
theorem dL_bitCount_12 : decode cL_bitCount 12 = .ok (.astore_n 3, 1) := by decide +kernel
theorem dL_bitCount_13 : decode cL_bitCount 13 = .ok (.iconst 1, 1) := by decide +kernel
theorem dL_bitCount_14 : decode cL_bitCount 14 = .ok (.ireturn, 1) := by decide +kernel
theorem dL_bitCount_15 : decode cL_bitCount 15 = .ok (.iconst 0, 1) := by decide +kernel
theorem dL_bitCount_16 : decode cL_bitCount 16 = .ok (.ireturn, 1) := by decide +kernel
theorem dL_bit_0 : decode cL_bit 0 = .ok (.aload_n 3, 1) := by decide +kernel
theorem dL_bit_1 : decode cL_bit 1 = .ok (.iconst 0, 1) := by decide +kernel
theorem dL_bit_2 : decode cL_bit 2 = .ok (.aload_n 0, 1) := by decide +kernel
theorem dL_bit_3 : decode cL_bit 3 = .ok (.iload_n 1, 1) := by decide +kernel
theorem dL_bit_4 : decode cL_bit 4 = .ok (.iload_n 2, 1) := by decide +kernel
theorem dL_bit_5 : decode cL_bit 5 = .ok (.invokevirtual 65, 3) := by decide +kernel
theorem dL_bit_8 : decode cL_bit 8 = .ok (.i2l, 1) := by decide +kernel
theorem dL_bit_9 : decode cL_bit 9 = .ok (.lastore, 1) := by decide +kernel
theorem dL_bit_10 : decode cL_bit 10 = .ok (.goto 7, 3) := by decide +kernel
theorem dL_bit_13 : decode cL_bit 13 = .ok (.astore 4, 2) := by decide +kernel
theorem dL_bit_15 : decode cL_bit 15 = .ok (.iconst 1, 1) := by decide +kernel
theorem dL_bit_16 : decode cL_bit 16 = .ok (.ireturn, 1) := by decide +kernel
theorem dL_bit_17 : decode cL_bit 17 = .ok (.iconst 0, 1) := by decide +kernel
theorem dL_bit_18 : decode cL_bit 18 = .ok (.ireturn, 1) := by decide +kernel
