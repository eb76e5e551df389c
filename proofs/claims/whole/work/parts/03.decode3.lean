theorem dX9_poke_39 : decode cX9_poke 39 = .ok (.istore 4, 2) := by decide +kernel
theorem dX9_poke_41 : decode cX9_poke 41 = .ok (.iload_n 3, 1) := by decide +kernel
theorem dX9_poke_42 : decode cX9_poke 42 = .ok (.ireturn, 1) := by decide +kernel
theorem dX9_feed_0 : decode cX9_feed 0 = .ok (.aload_n 0, 1) := by decide +kernel
theorem dX9_feed_1 : decode cX9_feed 1 = .ok (.iconst 0, 1) := by decide +kernel
theorem dX9_feed_2 : decode cX9_feed 2 = .ok (.putfield 77, 3) := by decide +kernel
theorem dX9_feed_5 : decode cX9_feed 5 = .ok (.iload_n 2, 1) := by decide +kernel
theorem dX9_feed_6 : decode cX9_feed 6 = .ok (.iconst 1, 1) := by decide +kernel
theorem dX9_feed_7 : decode cX9_feed 7 = .ok (.if_icmp .lt 22, 3) := by decide +kernel
theorem dX9_feed_10 : decode cX9_feed 10 = .ok (.iload_n 2, 1) := by decide +kernel
theorem dX9_feed_11 : decode cX9_feed 11 = .ok (.bipush 8, 2) := by decide +kernel
theorem dX9_feed_13 : decode cX9_feed 13 = .ok (.if_icmp .gt 16, 3) := by decide +kernel
theorem dX9_feed_16 : decode cX9_feed 16 = .ok (.iload_n 1, 1) := by decide +kernel
theorem dX9_feed_17 : decode cX9_feed 17 = .ok (.ifCond .lt 12, 3) := by decide +kernel
theorem dX9_feed_20 : decode cX9_feed 20 = .ok (.iload_n 1, 1) := by decide +kernel
theorem dX9_feed_21 : decode cX9_feed 21 = .ok (.sipush 1024, 3) := by decide +kernel
theorem dX9_feed_24 : decode cX9_feed 24 = .ok (.iload_n 2, 1) := by decide +kernel
theorem dX9_feed_25 : decode cX9_feed 25 = .ok (.isub, 1) := by decide +kernel
theorem dX9_feed_26 : decode cX9_feed 26 = .ok (.if_icmp .le 6, 3) := by decide +kernel
theorem dX9_feed_29 : decode cX9_feed 29 = .ok (.bipush (-2), 2) := by decide +kernel
theorem dX9_feed_31 : decode cX9_feed 31 = .ok (.ireturn, 1) := by decide +kernel
theorem dX9_feed_32 : decode cX9_feed 32 = .ok (.iconst 0, 1) := by decide +kernel
theorem dX9_feed_33 : decode cX9_feed 33 = .ok (.istore 5, 2) := by decide +kernel
theorem dX9_feed_35 : decode cX9_feed 35 = .ok (.iconst 0, 1) := by decide +kernel
theorem dX9_feed_36 : decode cX9_feed 36 = .ok (.istore 6, 2) := by decide +kernel
theorem dX9_feed_38 : decode cX9_feed 38 = .ok (.iload 6, 2) := by decide +kernel
theorem dX9_feed_40 : decode cX9_feed 40 = .ok (.iload_n 2, 1) := by decide +kernel
theorem dX9_feed_41 : decode cX9_feed 41 = .ok (.if_icmp .ge 38, 3) := by decide +kernel
theorem dX9_feed_44 : decode cX9_feed 44 = .ok (.iload 5, 2) := by decide +kernel
theorem dX9_feed_46 : decode cX9_feed 46 = .ok (.aload_n 0, 1) := by decide +kernel
theorem dX9_feed_47 : decode cX9_feed 47 = .ok (.iload_n 1, 1) := by decide +kernel
theorem dX9_feed_48 : decode cX9_feed 48 = .ok (.iload 6, 2) := by decide +kernel
theorem dX9_feed_50 : decode cX9_feed 50 = .ok (.iadd, 1) := by decide +kernel
theorem dX9_feed_51 : decode cX9_feed 51 = .ok (.lload_n 3, 1) := by decide +kernel
theorem dX9_feed_52 : decode cX9_feed 52 = .ok (.bipush 8, 2) := by decide +kernel
theorem dX9_feed_54 : decode cX9_feed 54 = .ok (.iload_n 2, 1) := by decide +kernel
theorem dX9_feed_55 : decode cX9_feed 55 = .ok (.iconst 1, 1) := by decide +kernel
theorem dX9_feed_56 : decode cX9_feed 56 = .ok (.isub, 1) := by decide +kernel
theorem dX9_feed_57 : decode cX9_feed 57 = .ok (.iload 6, 2) := by decide +kernel
theorem dX9_feed_59 : decode cX9_feed 59 = .ok (.isub, 1) := by decide +kernel
theorem dX9_feed_60 : decode cX9_feed 60 = .ok (.imul, 1) := by decide +kernel
theorem dX9_feed_61 : decode cX9_feed 61 = .ok (.lshr, 1) := by decide +kernel
theorem dX9_feed_62 : decode cX9_feed 62 = .ok (.ldc2_w 102, 3) := by decide +kernel
theorem dX9_feed_65 : decode cX9_feed 65 = .ok (.land, 1) := by decide +kernel
theorem dX9_feed_66 : decode cX9_feed 66 = .ok (.l2i, 1) := by decide +kernel
theorem dX9_feed_67 : decode cX9_feed 67 = .ok (.invokevirtual 98, 3) := by decide +kernel
theorem dX9_feed_70 : decode cX9_feed 70 = .ok (.iadd, 1) := by decide +kernel
theorem dX9_feed_71 : decode cX9_feed 71 = .ok (.istore 5, 2) := by decide +kernel
theorem dX9_feed_73 : decode cX9_feed 73 = .ok (.iinc 6 1, 3) := by decide +kernel
theorem dX9_feed_76 : decode cX9_feed 76 = .ok (.goto (-38), 3) := by decide +kernel
theorem dX9_feed_79 : decode cX9_feed 79 = .ok (.iload 5, 2) := by decide +kernel
theorem dX9_feed_81 : decode cX9_feed 81 = .ok (.ireturn, 1) := by decide +kernel
theorem dX9_peek_0 : decode cX9_peek 0 = .ok (.aload_n 0, 1) := by decide +kernel
theorem dX9_peek_1 : decode cX9_peek 1 = .ok (.aload_n 0, 1) := by decide +kernel
theorem dX9_peek_2 : decode cX9_peek 2 = .ok (.iload_n 1, 1) := by decide +kernel
theorem dX9_peek_3 : decode cX9_peek 3 = .ok (.invokevirtual 94, 3) := by decide +kernel
theorem dX9_peek_6 : decode cX9_peek 6 = .ok (.ifCond .eq 7, 3) := by decide +kernel
theorem dX9_peek_9 : decode cX9_peek 9 = .ok (.iconst 0, 1) := by decide +kernel
theorem dX9_peek_10 : decode cX9_peek 10 = .ok (.goto 4, 3) := by decide +kernel
theorem dX9_peek_13 : decode cX9_peek 13 = .ok (.iconst 1, 1) := by decide +kernel
theorem dX9_peek_14 : decode cX9_peek 14 = .ok (.putfield 77, 3) := by decide +kernel
theorem dX9_peek_17 : decode cX9_peek 17 = .ok (.aload_n 0, 1) := by decide +kernel
theorem dX9_peek_18 : decode cX9_peek 18 = .ok (.getfield 77, 3) := by decide +kernel
theorem dX9_peek_21 : decode cX9_peek 21 = .ok (.ifCond .le 7, 3) := by decide +kernel
theorem dX9_peek_24 : decode cX9_peek 24 = .ok (.iconst 0, 1) := by decide +kernel
theorem dX9_peek_25 : decode cX9_peek 25 = .ok (.goto 9, 3) := by decide +kernel
theorem dX9_peek_28 : decode cX9_peek 28 = .ok (.aload_n 0, 1) := by decide +kernel
theorem dX9_peek_29 : decode cX9_peek 29 = .ok (.getfield 7, 3) := by decide +kernel
theorem dX9_peek_32 : decode cX9_peek 32 = .ok (.iload_n 1, 1) := by decide +kernel
theorem dX9_peek_33 : decode cX9_peek 33 = .ok (.iaload, 1) := by decide +kernel
theorem dX9_peek_34 : decode cX9_peek 34 = .ok (.ireturn, 1) := by decide +kernel
theorem dX9_global_0 : decode cX9_global 0 = .ok (.aload_n 0, 1) := by decide +kernel
theorem dX9_global_1 : decode cX9_global 1 = .ok (.iload_n 1, 1) := by decide +kernel
theorem dX9_global_2 : decode cX9_global 2 = .ok (.ifCond .lt 13, 3) := by decide +kernel
theorem dX9_global_5 : decode cX9_global 5 = .ok (.iload_n 1, 1) := by decide +kernel
theorem dX9_global_6 : decode cX9_global 6 = .ok (.bipush 8, 2) := by decide +kernel
theorem dX9_global_8 : decode cX9_global 8 = .ok (.if_icmp .ge 7, 3) := by decide +kernel
theorem dX9_global_11 : decode cX9_global 11 = .ok (.iconst 0, 1) := by decide +kernel
theorem dX9_global_12 : decode cX9_global 12 = .ok (.goto 4, 3) := by decide +kernel
theorem dX9_global_15 : decode cX9_global 15 = .ok (.iconst 1, 1) := by decide +kernel
theorem dX9_global_16 : decode cX9_global 16 = .ok (.putfield 77, 3) := by decide +kernel
theorem dX9_global_19 : decode cX9_global 19 = .ok (.aload_n 0, 1) := by decide +kernel
theorem dX9_global_20 : decode cX9_global 20 = .ok (.getfield 77, 3) := by decide +kernel
theorem dX9_global_23 : decode cX9_global 23 = .ok (.ifCond .le 5, 3) := by decide +kernel
theorem dX9_global_26 : decode cX9_global 26 = .ok (.iconst 0, 1) := by decide +kernel
theorem dX9_global_27 : decode cX9_global 27 = .ok (.ireturn, 1) := by decide +kernel
theorem dX9_global_28 : decode cX9_global 28 = .ok (.aload_n 0, 1) := by decide +kernel
theorem dX9_global_29 : decode cX9_global 29 = .ok (.getfield 13, 3) := by decide +kernel
theorem dX9_global_32 : decode cX9_global 32 = .ok (.iload_n 1, 1) := by decide +kernel
theorem dX9_global_33 : decode cX9_global 33 = .ok (.iaload, 1) := by decide +kernel
theorem dX9_global_34 : decode cX9_global 34 = .ok (.istore_n 3, 1) := by decide +kernel
theorem dX9_global_35 : decode cX9_global 35 = .ok (.aload_n 0, 1) := by decide +kernel
theorem dX9_global_36 : decode cX9_global 36 = .ok (.getfield 13, 3) := by decide +kernel
theorem dX9_global_39 : decode cX9_global 39 = .ok (.iload_n 1, 1) := by decide +kernel
theorem dX9_global_40 : decode cX9_global 40 = .ok (.iload_n 2, 1) := by decide +kernel
theorem dX9_global_41 : decode cX9_global 41 = .ok (.iastore, 1) := by decide +kernel
theorem dX9_global_42 : decode cX9_global 42 = .ok (.iload_n 3, 1) := by decide +kernel
theorem dX9_global_43 : decode cX9_global 43 = .ok (.ireturn, 1) := by decide +kernel
theorem dX9_nextByte_0 : decode cX9_nextByte 0 = .ok (.aload_n 0, 1) := by decide +kernel
theorem dX9_nextByte_1 : decode cX9_nextByte 1 = .ok (.getfield 104, 3) := by decide +kernel
theorem dX9_nextByte_4 : decode cX9_nextByte 4 = .ok (.sipush 1024, 3) := by decide +kernel
theorem dX9_nextByte_7 : decode cX9_nextByte 7 = .ok (.if_icmp .lt 24, 3) := by decide +kernel
theorem dX9_nextByte_10 : decode cX9_nextByte 10 = .ok (.aload_n 0, 1) := by decide +kernel
theorem dX9_nextByte_11 : decode cX9_nextByte 11 = .ok (.aload_n 0, 1) := by decide +kernel
theorem dX9_nextByte_12 : decode cX9_nextByte 12 = .ok (.getfield 107, 3) := by decide +kernel
theorem dX9_nextByte_15 : decode cX9_nextByte 15 = .ok (.ifCond .ne 7, 3) := by decide +kernel
theorem dX9_nextByte_18 : decode cX9_nextByte 18 = .ok (.iconst 1, 1) := by decide +kernel
theorem dX9_nextByte_19 : decode cX9_nextByte 19 = .ok (.goto 7, 3) := by decide +kernel
theorem dX9_nextByte_22 : decode cX9_nextByte 22 = .ok (.aload_n 0, 1) := by decide +kernel
theorem dX9_nextByte_23 : decode cX9_nextByte 23 = .ok (.getfield 107, 3) := by decide +kernel
theorem dX9_nextByte_26 : decode cX9_nextByte 26 = .ok (.putfield 107, 3) := by decide +kernel
theorem dX9_nextByte_29 : decode cX9_nextByte 29 = .ok (.iconst 0, 1) := by decide +kernel
theorem dX9_nextByte_30 : decode cX9_nextByte 30 = .ok (.ireturn, 1) := by decide +kernel
theorem dX9_nextByte_31 : decode cX9_nextByte 31 = .ok (.aload_n 0, 1) := by decide +kernel
theorem dX9_nextByte_32 : decode cX9_nextByte 32 = .ok (.dup, 1) := by decide +kernel
theorem dX9_nextByte_33 : decode cX9_nextByte 33 = .ok (.getfield 104, 3) := by decide +kernel
theorem dX9_nextByte_36 : decode cX9_nextByte 36 = .ok (.iconst 1, 1) := by decide +kernel
theorem dX9_nextByte_37 : decode cX9_nextByte 37 = .ok (.iadd, 1) := by decide +kernel
theorem dX9_nextByte_38 : decode cX9_nextByte 38 = .ok (.putfield 104, 3) := by decide +kernel
theorem dX9_nextByte_41 : decode cX9_nextByte 41 = .ok (.aload_n 0, 1) := by decide +kernel
theorem dX9_nextByte_42 : decode cX9_nextByte 42 = .ok (.getfield 7, 3) := by decide +kernel
theorem dX9_nextByte_45 : decode cX9_nextByte 45 = .ok (.aload_n 0, 1) := by decide +kernel
theorem dX9_nextByte_46 : decode cX9_nextByte 46 = .ok (.getfield 104, 3) := by decide +kernel
theorem dX9_nextByte_49 : decode cX9_nextByte 49 = .ok (.iconst 1, 1) := by decide +kernel
theorem dX9_nextByte_50 : decode cX9_nextByte 50 = .ok (.isub, 1) := by decide +kernel
theorem dX9_nextByte_51 : decode cX9_nextByte 51 = .ok (.iaload, 1) := by decide +kernel
theorem dX9_nextByte_52 : decode cX9_nextByte 52 = .ok (.ireturn, 1) := by decide +kernel
theorem dX9_bad_0 : decode cX9_bad 0 = .ok (.aload_n 0, 1) := by decide +kernel
theorem dX9_bad_1 : decode cX9_bad 1 = .ok (.iload_n 1, 1) := by decide +kernel
theorem dX9_bad_2 : decode cX9_bad 2 = .ok (.ifCond .eq 15, 3) := by decide +kernel
theorem dX9_bad_5 : decode cX9_bad 5 = .ok (.aload_n 0, 1) := by decide +kernel
theorem dX9_bad_6 : decode cX9_bad 6 = .ok (.getfield 107, 3) := by decide +kernel
theorem dX9_bad_9 : decode cX9_bad 9 = .ok (.ifCond .ne 8, 3) := by decide +kernel
theorem dX9_bad_12 : decode cX9_bad 12 = .ok (.bipush 7, 2) := by decide +kernel
theorem dX9_bad_14 : decode cX9_bad 14 = .ok (.goto 7, 3) := by decide +kernel
theorem dX9_bad_17 : decode cX9_bad 17 = .ok (.aload_n 0, 1) := by decide +kernel
theorem dX9_bad_18 : decode cX9_bad 18 = .ok (.getfield 107, 3) := by decide +kernel
theorem dX9_bad_21 : decode cX9_bad 21 = .ok (.putfield 107, 3) := by decide +kernel
theorem dX9_bad_24 : decode cX9_bad 24 = .ok (.return_, 1) := by decide +kernel
theorem dX9_isCell_0 : decode cX9_isCell 0 = .ok (.iload_n 1, 1) := by decide +kernel
theorem dX9_isCell_1 : decode cX9_isCell 1 = .ok (.sipush 128, 3) := by decide +kernel
theorem dX9_isCell_4 : decode cX9_isCell 4 = .ok (.if_icmp .lt 15, 3) := by decide +kernel
theorem dX9_isCell_7 : decode cX9_isCell 7 = .ok (.iload_n 1, 1) := by decide +kernel
theorem dX9_isCell_8 : decode cX9_isCell 8 = .ok (.sipush 128, 3) := by decide +kernel
theorem dX9_isCell_11 : decode cX9_isCell 11 = .ok (.aload_n 0, 1) := by decide +kernel
theorem dX9_isCell_12 : decode cX9_isCell 12 = .ok (.getfield 110, 3) := by decide +kernel
theorem dX9_isCell_15 : decode cX9_isCell 15 = .ok (.iadd, 1) := by decide +kernel
theorem dX9_isCell_16 : decode cX9_isCell 16 = .ok (.if_icmp .lt 17, 3) := by decide +kernel
theorem dX9_isCell_19 : decode cX9_isCell 19 = .ok (.iload_n 1, 1) := by decide +kernel
theorem dX9_isCell_20 : decode cX9_isCell 20 = .ok (.sipush 136, 3) := by decide +kernel
theorem dX9_isCell_23 : decode cX9_isCell 23 = .ok (.if_icmp .lt 14, 3) := by decide +kernel
theorem dX9_isCell_26 : decode cX9_isCell 26 = .ok (.iload_n 1, 1) := by decide +kernel
theorem dX9_isCell_27 : decode cX9_isCell 27 = .ok (.sipush 144, 3) := by decide +kernel
theorem dX9_isCell_30 : decode cX9_isCell 30 = .ok (.if_icmp .ge 7, 3) := by decide +kernel
theorem dX9_isCell_33 : decode cX9_isCell 33 = .ok (.iconst 1, 1) := by decide +kernel
theorem dX9_isCell_34 : decode cX9_isCell 34 = .ok (.goto 4, 3) := by decide +kernel
theorem dX9_isCell_37 : decode cX9_isCell 37 = .ok (.iconst 0, 1) := by decide +kernel
theorem dX9_isCell_38 : decode cX9_isCell 38 = .ok (.ireturn, 1) := by decide +kernel
theorem dX9_operandOf_0 : decode cX9_operandOf 0 = .ok (.aload_n 0, 1) := by decide +kernel
theorem dX9_operandOf_1 : decode cX9_operandOf 1 = .ok (.getfield 107, 3) := by decide +kernel
theorem dX9_operandOf_4 : decode cX9_operandOf 4 = .ok (.ifCond .eq 4, 3) := by decide +kernel
theorem dX9_operandOf_7 : decode cX9_operandOf 7 = .ok (.return_, 1) := by decide +kernel
theorem dX9_operandOf_8 : decode cX9_operandOf 8 = .ok (.aload_n 0, 1) := by decide +kernel
theorem dX9_operandOf_9 : decode cX9_operandOf 9 = .ok (.invokevirtual 113, 3) := by decide +kernel
theorem dX9_operandOf_12 : decode cX9_operandOf 12 = .ok (.istore_n 2, 1) := by decide +kernel
theorem dX9_operandOf_13 : decode cX9_operandOf 13 = .ok (.aload_n 0, 1) := by decide +kernel
theorem dX9_operandOf_14 : decode cX9_operandOf 14 = .ok (.getfield 107, 3) := by decide +kernel
theorem dX9_operandOf_17 : decode cX9_operandOf 17 = .ok (.ifCond .ne 74, 3) := by decide +kernel
theorem dX9_operandOf_20 : decode cX9_operandOf 20 = .ok (.aload_n 0, 1) := by decide +kernel
theorem dX9_operandOf_21 : decode cX9_operandOf 21 = .ok (.iload_n 1, 1) := by decide +kernel
theorem dX9_operandOf_22 : decode cX9_operandOf 22 = .ok (.ifCond .ne 18, 3) := by decide +kernel
theorem dX9_operandOf_25 : decode cX9_operandOf 25 = .ok (.iload_n 2, 1) := by decide +kernel
theorem dX9_operandOf_26 : decode cX9_operandOf 26 = .ok (.sipush 128, 3) := by decide +kernel
theorem dX9_operandOf_29 : decode cX9_operandOf 29 = .ok (.if_icmp .lt 11, 3) := by decide +kernel
theorem dX9_operandOf_32 : decode cX9_operandOf 32 = .ok (.aload_n 0, 1) := by decide +kernel
theorem dX9_operandOf_33 : decode cX9_operandOf 33 = .ok (.iload_n 2, 1) := by decide +kernel
theorem dX9_operandOf_34 : decode cX9_operandOf 34 = .ok (.invokevirtual 117, 3) := by decide +kernel
theorem dX9_operandOf_37 : decode cX9_operandOf 37 = .ok (.ifCond .eq 26, 3) := by decide +kernel
theorem dX9_operandOf_40 : decode cX9_operandOf 40 = .ok (.iload_n 1, 1) := by decide +kernel
theorem dX9_operandOf_41 : decode cX9_operandOf 41 = .ok (.iconst 1, 1) := by decide +kernel
theorem dX9_operandOf_42 : decode cX9_operandOf 42 = .ok (.if_icmp .ne 11, 3) := by decide +kernel
theorem dX9_operandOf_45 : decode cX9_operandOf 45 = .ok (.aload_n 0, 1) := by decide +kernel
theorem dX9_operandOf_46 : decode cX9_operandOf 46 = .ok (.iload_n 2, 1) := by decide +kernel
theorem dX9_operandOf_47 : decode cX9_operandOf 47 = .ok (.invokevirtual 117, 3) := by decide +kernel
theorem dX9_operandOf_50 : decode cX9_operandOf 50 = .ok (.ifCond .eq 13, 3) := by decide +kernel
theorem dX9_operandOf_53 : decode cX9_operandOf 53 = .ok (.iload_n 1, 1) := by decide +kernel
theorem dX9_operandOf_54 : decode cX9_operandOf 54 = .ok (.iconst 3, 1) := by decide +kernel
theorem dX9_operandOf_55 : decode cX9_operandOf 55 = .ok (.if_icmp .ne 12, 3) := by decide +kernel
theorem dX9_operandOf_58 : decode cX9_operandOf 58 = .ok (.iload_n 2, 1) := by decide +kernel
theorem dX9_operandOf_59 : decode cX9_operandOf 59 = .ok (.iconst 4, 1) := by decide +kernel
theorem dX9_operandOf_60 : decode cX9_operandOf 60 = .ok (.if_icmp .le 7, 3) := by decide +kernel
theorem dX9_operandOf_63 : decode cX9_operandOf 63 = .ok (.iconst 1, 1) := by decide +kernel
theorem dX9_operandOf_64 : decode cX9_operandOf 64 = .ok (.goto 4, 3) := by decide +kernel
theorem dX9_operandOf_67 : decode cX9_operandOf 67 = .ok (.iconst 0, 1) := by decide +kernel
theorem dX9_operandOf_68 : decode cX9_operandOf 68 = .ok (.invokevirtual 120, 3) := by decide +kernel
theorem dX9_operandOf_71 : decode cX9_operandOf 71 = .ok (.aload_n 0, 1) := by decide +kernel
theorem dX9_operandOf_72 : decode cX9_operandOf 72 = .ok (.getfield 35, 3) := by decide +kernel
theorem dX9_operandOf_75 : decode cX9_operandOf 75 = .ok (.aload_n 0, 1) := by decide +kernel
theorem dX9_operandOf_76 : decode cX9_operandOf 76 = .ok (.getfield 124, 3) := by decide +kernel
theorem dX9_operandOf_79 : decode cX9_operandOf 79 = .ok (.iload_n 2, 1) := by decide +kernel
theorem dX9_operandOf_80 : decode cX9_operandOf 80 = .ok (.iastore, 1) := by decide +kernel
theorem dX9_operandOf_81 : decode cX9_operandOf 81 = .ok (.aload_n 0, 1) := by decide +kernel
theorem dX9_operandOf_82 : decode cX9_operandOf 82 = .ok (.dup, 1) := by decide +kernel
theorem dX9_operandOf_83 : decode cX9_operandOf 83 = .ok (.getfield 124, 3) := by decide +kernel
theorem dX9_operandOf_86 : decode cX9_operandOf 86 = .ok (.iconst 1, 1) := by decide +kernel
theorem dX9_operandOf_87 : decode cX9_operandOf 87 = .ok (.iadd, 1) := by decide +kernel
theorem dX9_operandOf_88 : decode cX9_operandOf 88 = .ok (.putfield 124, 3) := by decide +kernel
theorem dX9_operandOf_91 : decode cX9_operandOf 91 = .ok (.return_, 1) := by decide +kernel
theorem dX9_readAt_0 : decode cX9_readAt 0 = .ok (.aload_n 0, 1) := by decide +kernel
theorem dX9_readAt_1 : decode cX9_readAt 1 = .ok (.iload_n 1, 1) := by decide +kernel
theorem dX9_readAt_2 : decode cX9_readAt 2 = .ok (.putfield 104, 3) := by decide +kernel
theorem dX9_readAt_5 : decode cX9_readAt 5 = .ok (.aload_n 0, 1) := by decide +kernel
theorem dX9_readAt_6 : decode cX9_readAt 6 = .ok (.iconst 0, 1) := by decide +kernel
theorem dX9_readAt_7 : decode cX9_readAt 7 = .ok (.putfield 107, 3) := by decide +kernel
theorem dX9_readAt_10 : decode cX9_readAt 10 = .ok (.aload_n 0, 1) := by decide +kernel
theorem dX9_readAt_11 : decode cX9_readAt 11 = .ok (.iconst 0, 1) := by decide +kernel
theorem dX9_readAt_12 : decode cX9_readAt 12 = .ok (.putfield 124, 3) := by decide +kernel
theorem dX9_readAt_15 : decode cX9_readAt 15 = .ok (.aload_n 0, 1) := by decide +kernel
theorem dX9_readAt_16 : decode cX9_readAt 16 = .ok (.iload_n 2, 1) := by decide +kernel
theorem dX9_readAt_17 : decode cX9_readAt 17 = .ok (.putfield 110, 3) := by decide +kernel
theorem dX9_readAt_20 : decode cX9_readAt 20 = .ok (.aload_n 0, 1) := by decide +kernel
theorem dX9_readAt_21 : decode cX9_readAt 21 = .ok (.aload_n 0, 1) := by decide +kernel
theorem dX9_readAt_22 : decode cX9_readAt 22 = .ok (.invokevirtual 113, 3) := by decide +kernel
theorem dX9_readAt_25 : decode cX9_readAt 25 = .ok (.putfield 127, 3) := by decide +kernel
theorem dX9_readAt_28 : decode cX9_readAt 28 = .ok (.aload_n 0, 1) := by decide +kernel
theorem dX9_readAt_29 : decode cX9_readAt 29 = .ok (.getfield 107, 3) := by decide +kernel
theorem dX9_readAt_32 : decode cX9_readAt 32 = .ok (.ifCond .ne 21, 3) := by decide +kernel
theorem dX9_readAt_35 : decode cX9_readAt 35 = .ok (.aload_n 0, 1) := by decide +kernel
theorem dX9_readAt_36 : decode cX9_readAt 36 = .ok (.aload_n 0, 1) := by decide +kernel
theorem dX9_readAt_37 : decode cX9_readAt 37 = .ok (.getfield 127, 3) := by decide +kernel
theorem dX9_readAt_40 : decode cX9_readAt 40 = .ok (.bipush 15, 2) := by decide +kernel
theorem dX9_readAt_42 : decode cX9_readAt 42 = .ok (.if_icmp .le 7, 3) := by decide +kernel
theorem dX9_readAt_45 : decode cX9_readAt 45 = .ok (.iconst 1, 1) := by decide +kernel
theorem dX9_readAt_46 : decode cX9_readAt 46 = .ok (.goto 4, 3) := by decide +kernel
theorem dX9_readAt_49 : decode cX9_readAt 49 = .ok (.iconst 0, 1) := by decide +kernel
theorem dX9_readAt_50 : decode cX9_readAt 50 = .ok (.invokevirtual 120, 3) := by decide +kernel
theorem dX9_readAt_53 : decode cX9_readAt 53 = .ok (.aload_n 0, 1) := by decide +kernel
theorem dX9_readAt_54 : decode cX9_readAt 54 = .ok (.getfield 127, 3) := by decide +kernel
theorem dX9_readAt_57 : decode cX9_readAt 57 = .ok (.iconst 1, 1) := by decide +kernel
theorem dX9_readAt_58 : decode cX9_readAt 58 = .ok (.if_icmp .lt 12, 3) := by decide +kernel
theorem dX9_readAt_61 : decode cX9_readAt 61 = .ok (.aload_n 0, 1) := by decide +kernel
theorem dX9_readAt_62 : decode cX9_readAt 62 = .ok (.getfield 127, 3) := by decide +kernel
theorem dX9_readAt_65 : decode cX9_readAt 65 = .ok (.bipush 7, 2) := by decide +kernel
theorem dX9_readAt_67 : decode cX9_readAt 67 = .ok (.if_icmp .le 12, 3) := by decide +kernel
theorem dX9_readAt_70 : decode cX9_readAt 70 = .ok (.aload_n 0, 1) := by decide +kernel
theorem dX9_readAt_71 : decode cX9_readAt 71 = .ok (.getfield 127, 3) := by decide +kernel
theorem dX9_readAt_74 : decode cX9_readAt 74 = .ok (.bipush 12, 2) := by decide +kernel
theorem dX9_readAt_76 : decode cX9_readAt 76 = .ok (.if_icmp .ne 7, 3) := by decide +kernel
theorem dX9_readAt_79 : decode cX9_readAt 79 = .ok (.iconst 1, 1) := by decide +kernel
theorem dX9_readAt_80 : decode cX9_readAt 80 = .ok (.goto 4, 3) := by decide +kernel
theorem dX9_readAt_83 : decode cX9_readAt 83 = .ok (.iconst 0, 1) := by decide +kernel
theorem dX9_readAt_84 : decode cX9_readAt 84 = .ok (.istore_n 3, 1) := by decide +kernel
theorem dX9_readAt_85 : decode cX9_readAt 85 = .ok (.aload_n 0, 1) := by decide +kernel
theorem dX9_readAt_86 : decode cX9_readAt 86 = .ok (.getfield 127, 3) := by decide +kernel
theorem dX9_readAt_89 : decode cX9_readAt 89 = .ok (.iconst 1, 1) := by decide +kernel
theorem dX9_readAt_90 : decode cX9_readAt 90 = .ok (.if_icmp .le 12, 3) := by decide +kernel
theorem dX9_readAt_93 : decode cX9_readAt 93 = .ok (.aload_n 0, 1) := by decide +kernel
theorem dX9_readAt_94 : decode cX9_readAt 94 = .ok (.getfield 127, 3) := by decide +kernel
theorem dX9_readAt_97 : decode cX9_readAt 97 = .ok (.bipush 7, 2) := by decide +kernel
theorem dX9_readAt_99 : decode cX9_readAt 99 = .ok (.if_icmp .lt 30, 3) := by decide +kernel
theorem dX9_readAt_102 : decode cX9_readAt 102 = .ok (.aload_n 0, 1) := by decide +kernel
theorem dX9_readAt_103 : decode cX9_readAt 103 = .ok (.getfield 127, 3) := by decide +kernel
theorem dX9_readAt_106 : decode cX9_readAt 106 = .ok (.bipush 8, 2) := by decide +kernel
theorem dX9_readAt_108 : decode cX9_readAt 108 = .ok (.if_icmp .eq 21, 3) := by decide +kernel
theorem dX9_readAt_111 : decode cX9_readAt 111 = .ok (.aload_n 0, 1) := by decide +kernel
theorem dX9_readAt_112 : decode cX9_readAt 112 = .ok (.getfield 127, 3) := by decide +kernel
theorem dX9_readAt_115 : decode cX9_readAt 115 = .ok (.bipush 10, 2) := by decide +kernel
theorem dX9_readAt_117 : decode cX9_readAt 117 = .ok (.if_icmp .eq 12, 3) := by decide +kernel
theorem dX9_readAt_120 : decode cX9_readAt 120 = .ok (.aload_n 0, 1) := by decide +kernel
theorem dX9_readAt_121 : decode cX9_readAt 121 = .ok (.getfield 127, 3) := by decide +kernel
theorem dX9_readAt_124 : decode cX9_readAt 124 = .ok (.bipush 11, 2) := by decide +kernel
theorem dX9_readAt_126 : decode cX9_readAt 126 = .ok (.if_icmp .ne 7, 3) := by decide +kernel
theorem dX9_readAt_129 : decode cX9_readAt 129 = .ok (.iconst 1, 1) := by decide +kernel
theorem dX9_readAt_130 : decode cX9_readAt 130 = .ok (.goto 4, 3) := by decide +kernel
theorem dX9_readAt_133 : decode cX9_readAt 133 = .ok (.iconst 0, 1) := by decide +kernel
theorem dX9_readAt_134 : decode cX9_readAt 134 = .ok (.istore 4, 2) := by decide +kernel
theorem dX9_readAt_136 : decode cX9_readAt 136 = .ok (.iload_n 3, 1) := by decide +kernel
theorem dX9_readAt_137 : decode cX9_readAt 137 = .ok (.ifCond .eq 8, 3) := by decide +kernel
theorem dX9_readAt_140 : decode cX9_readAt 140 = .ok (.aload_n 0, 1) := by decide +kernel
theorem dX9_readAt_141 : decode cX9_readAt 141 = .ok (.iconst 1, 1) := by decide +kernel
theorem dX9_readAt_142 : decode cX9_readAt 142 = .ok (.invokevirtual 130, 3) := by decide +kernel
theorem dX9_readAt_145 : decode cX9_readAt 145 = .ok (.aload_n 0, 1) := by decide +kernel
theorem dX9_readAt_146 : decode cX9_readAt 146 = .ok (.getfield 127, 3) := by decide +kernel
theorem dX9_readAt_149 : decode cX9_readAt 149 = .ok (.bipush 8, 2) := by decide +kernel
theorem dX9_readAt_151 : decode cX9_readAt 151 = .ok (.if_icmp .le 39, 3) := by decide +kernel
theorem dX9_readAt_154 : decode cX9_readAt 154 = .ok (.aload_n 0, 1) := by decide +kernel
theorem dX9_readAt_155 : decode cX9_readAt 155 = .ok (.getfield 127, 3) := by decide +kernel
theorem dX9_readAt_158 : decode cX9_readAt 158 = .ok (.bipush 10, 2) := by decide +kernel
theorem dX9_readAt_160 : decode cX9_readAt 160 = .ok (.if_icmp .eq 30, 3) := by decide +kernel
theorem dX9_readAt_163 : decode cX9_readAt 163 = .ok (.aload_n 0, 1) := by decide +kernel
theorem dX9_readAt_164 : decode cX9_readAt 164 = .ok (.getfield 127, 3) := by decide +kernel
theorem dX9_readAt_167 : decode cX9_readAt 167 = .ok (.bipush 11, 2) := by decide +kernel
theorem dX9_readAt_169 : decode cX9_readAt 169 = .ok (.if_icmp .eq 21, 3) := by decide +kernel
theorem dX9_readAt_172 : decode cX9_readAt 172 = .ok (.aload_n 0, 1) := by decide +kernel
theorem dX9_readAt_173 : decode cX9_readAt 173 = .ok (.getfield 127, 3) := by decide +kernel
theorem dX9_readAt_176 : decode cX9_readAt 176 = .ok (.bipush 12, 2) := by decide +kernel
theorem dX9_readAt_178 : decode cX9_readAt 178 = .ok (.if_icmp .eq 12, 3) := by decide +kernel
theorem dX9_readAt_181 : decode cX9_readAt 181 = .ok (.aload_n 0, 1) := by decide +kernel
theorem dX9_readAt_182 : decode cX9_readAt 182 = .ok (.getfield 127, 3) := by decide +kernel
theorem dX9_readAt_185 : decode cX9_readAt 185 = .ok (.bipush 13, 2) := by decide +kernel
theorem dX9_readAt_187 : decode cX9_readAt 187 = .ok (.if_icmp .ne 8, 3) := by decide +kernel
theorem dX9_readAt_190 : decode cX9_readAt 190 = .ok (.aload_n 0, 1) := by decide +kernel
theorem dX9_readAt_191 : decode cX9_readAt 191 = .ok (.iconst 0, 1) := by decide +kernel
theorem dX9_readAt_192 : decode cX9_readAt 192 = .ok (.invokevirtual 130, 3) := by decide +kernel
theorem dX9_readAt_195 : decode cX9_readAt 195 = .ok (.iload 4, 2) := by decide +kernel
theorem dX9_readAt_197 : decode cX9_readAt 197 = .ok (.ifCond .eq 8, 3) := by decide +kernel
theorem dX9_readAt_200 : decode cX9_readAt 200 = .ok (.aload_n 0, 1) := by decide +kernel
theorem dX9_readAt_201 : decode cX9_readAt 201 = .ok (.iconst 0, 1) := by decide +kernel
theorem dX9_readAt_202 : decode cX9_readAt 202 = .ok (.invokevirtual 130, 3) := by decide +kernel
theorem dX9_readAt_205 : decode cX9_readAt 205 = .ok (.aload_n 0, 1) := by decide +kernel
theorem dX9_readAt_206 : decode cX9_readAt 206 = .ok (.getfield 127, 3) := by decide +kernel
theorem dX9_readAt_209 : decode cX9_readAt 209 = .ok (.bipush 9, 2) := by decide +kernel
theorem dX9_readAt_211 : decode cX9_readAt 211 = .ok (.if_icmp .eq 30, 3) := by decide +kernel
theorem dX9_readAt_214 : decode cX9_readAt 214 = .ok (.aload_n 0, 1) := by decide +kernel
theorem dX9_readAt_215 : decode cX9_readAt 215 = .ok (.getfield 127, 3) := by decide +kernel
theorem dX9_readAt_218 : decode cX9_readAt 218 = .ok (.bipush 10, 2) := by decide +kernel
theorem dX9_readAt_220 : decode cX9_readAt 220 = .ok (.if_icmp .eq 21, 3) := by decide +kernel
theorem dX9_readAt_223 : decode cX9_readAt 223 = .ok (.aload_n 0, 1) := by decide +kernel
theorem dX9_readAt_224 : decode cX9_readAt 224 = .ok (.getfield 127, 3) := by decide +kernel
theorem dX9_readAt_227 : decode cX9_readAt 227 = .ok (.bipush 11, 2) := by decide +kernel
theorem dX9_readAt_229 : decode cX9_readAt 229 = .ok (.if_icmp .eq 12, 3) := by decide +kernel
theorem dX9_readAt_232 : decode cX9_readAt 232 = .ok (.aload_n 0, 1) := by decide +kernel
theorem dX9_readAt_233 : decode cX9_readAt 233 = .ok (.getfield 127, 3) := by decide +kernel
theorem dX9_readAt_236 : decode cX9_readAt 236 = .ok (.bipush 14, 2) := by decide +kernel
theorem dX9_readAt_238 : decode cX9_readAt 238 = .ok (.if_icmp .ne 8, 3) := by decide +kernel
theorem dX9_readAt_241 : decode cX9_readAt 241 = .ok (.aload_n 0, 1) := by decide +kernel
theorem dX9_readAt_242 : decode cX9_readAt 242 = .ok (.iconst 2, 1) := by decide +kernel
theorem dX9_readAt_243 : decode cX9_readAt 243 = .ok (.invokevirtual 130, 3) := by decide +kernel
theorem dX9_readAt_246 : decode cX9_readAt 246 = .ok (.aload_n 0, 1) := by decide +kernel
theorem dX9_readAt_247 : decode cX9_readAt 247 = .ok (.getfield 127, 3) := by decide +kernel
theorem dX9_readAt_250 : decode cX9_readAt 250 = .ok (.bipush 12, 2) := by decide +kernel
theorem dX9_readAt_252 : decode cX9_readAt 252 = .ok (.if_icmp .ne 48, 3) := by decide +kernel
theorem dX9_readAt_255 : decode cX9_readAt 255 = .ok (.aload_n 0, 1) := by decide +kernel
theorem dX9_readAt_256 : decode cX9_readAt 256 = .ok (.iconst 3, 1) := by decide +kernel
theorem dX9_readAt_257 : decode cX9_readAt 257 = .ok (.invokevirtual 130, 3) := by decide +kernel
theorem dX9_readAt_260 : decode cX9_readAt 260 = .ok (.aload_n 0, 1) := by decide +kernel
theorem dX9_readAt_261 : decode cX9_readAt 261 = .ok (.getfield 107, 3) := by decide +kernel
theorem dX9_readAt_264 : decode cX9_readAt 264 = .ok (.ifCond .ne 12, 3) := by decide +kernel
theorem dX9_readAt_267 : decode cX9_readAt 267 = .ok (.aload_n 0, 1) := by decide +kernel
theorem dX9_readAt_268 : decode cX9_readAt 268 = .ok (.getfield 35, 3) := by decide +kernel
theorem dX9_readAt_271 : decode cX9_readAt 271 = .ok (.iconst 2, 1) := by decide +kernel
theorem dX9_readAt_272 : decode cX9_readAt 272 = .ok (.iaload, 1) := by decide +kernel
theorem dX9_readAt_273 : decode cX9_readAt 273 = .ok (.goto 4, 3) := by decide +kernel
theorem dX9_readAt_276 : decode cX9_readAt 276 = .ok (.iconst 0, 1) := by decide +kernel
theorem dX9_readAt_277 : decode cX9_readAt 277 = .ok (.istore 5, 2) := by decide +kernel
theorem dX9_readAt_279 : decode cX9_readAt 279 = .ok (.iconst 0, 1) := by decide +kernel
theorem dX9_readAt_280 : decode cX9_readAt 280 = .ok (.istore 6, 2) := by decide +kernel
theorem dX9_readAt_282 : decode cX9_readAt 282 = .ok (.iload 6, 2) := by decide +kernel
theorem dX9_readAt_284 : decode cX9_readAt 284 = .ok (.iload 5, 2) := by decide +kernel
theorem dX9_readAt_286 : decode cX9_readAt 286 = .ok (.if_icmp .ge 14, 3) := by decide +kernel
theorem dX9_readAt_289 : decode cX9_readAt 289 = .ok (.aload_n 0, 1) := by decide +kernel
theorem dX9_readAt_290 : decode cX9_readAt 290 = .ok (.iconst 0, 1) := by decide +kernel
theorem dX9_readAt_291 : decode cX9_readAt 291 = .ok (.invokevirtual 130, 3) := by decide +kernel
theorem dX9_readAt_294 : decode cX9_readAt 294 = .ok (.iinc 6 1, 3) := by decide +kernel
theorem dX9_readAt_297 : decode cX9_readAt 297 = .ok (.goto (-15), 3) := by decide +kernel
theorem dX9_readAt_300 : decode cX9_readAt 300 = .ok (.return_, 1) := by decide +kernel
theorem dX9_failsAt_0 : decode cX9_failsAt 0 = .ok (.aload_n 0, 1) := by decide +kernel
theorem dX9_failsAt_1 : decode cX9_failsAt 1 = .ok (.iconst 0, 1) := by decide +kernel
theorem dX9_failsAt_2 : decode cX9_failsAt 2 = .ok (.putfield 133, 3) := by decide +kernel
theorem dX9_failsAt_5 : decode cX9_failsAt 5 = .ok (.iload_n 1, 1) := by decide +kernel
theorem dX9_failsAt_6 : decode cX9_failsAt 6 = .ok (.iconst 1, 1) := by decide +kernel
theorem dX9_failsAt_7 : decode cX9_failsAt 7 = .ok (.iadd, 1) := by decide +kernel
theorem dX9_failsAt_8 : decode cX9_failsAt 8 = .ok (.istore_n 2, 1) := by decide +kernel
theorem dX9_failsAt_9 : decode cX9_failsAt 9 = .ok (.iconst 0, 1) := by decide +kernel
theorem dX9_failsAt_10 : decode cX9_failsAt 10 = .ok (.istore_n 3, 1) := by decide +kernel
theorem dX9_failsAt_11 : decode cX9_failsAt 11 = .ok (.iload_n 3, 1) := by decide +kernel
theorem dX9_failsAt_12 : decode cX9_failsAt 12 = .ok (.ifCond .ne 160, 3) := by decide +kernel
theorem dX9_failsAt_15 : decode cX9_failsAt 15 = .ok (.aload_n 0, 1) := by decide +kernel
theorem dX9_failsAt_16 : decode cX9_failsAt 16 = .ok (.iload_n 2, 1) := by decide +kernel
theorem dX9_failsAt_17 : decode cX9_failsAt 17 = .ok (.aload_n 0, 1) := by decide +kernel
theorem dX9_failsAt_18 : decode cX9_failsAt 18 = .ok (.getfield 7, 3) := by decide +kernel
theorem dX9_failsAt_21 : decode cX9_failsAt 21 = .ok (.iload_n 1, 1) := by decide +kernel
theorem dX9_failsAt_22 : decode cX9_failsAt 22 = .ok (.iaload, 1) := by decide +kernel
theorem dX9_failsAt_23 : decode cX9_failsAt 23 = .ok (.invokevirtual 136, 3) := by decide +kernel
theorem dX9_failsAt_26 : decode cX9_failsAt 26 = .ok (.aload_n 0, 1) := by decide +kernel
theorem dX9_failsAt_27 : decode cX9_failsAt 27 = .ok (.getfield 107, 3) := by decide +kernel
theorem dX9_failsAt_30 : decode cX9_failsAt 30 = .ok (.ifCond .ne 12, 3) := by decide +kernel
theorem dX9_failsAt_33 : decode cX9_failsAt 33 = .ok (.aload_n 0, 1) := by decide +kernel
theorem dX9_failsAt_34 : decode cX9_failsAt 34 = .ok (.getfield 133, 3) := by decide +kernel
theorem dX9_failsAt_37 : decode cX9_failsAt 37 = .ok (.bipush 60, 2) := by decide +kernel
theorem dX9_failsAt_39 : decode cX9_failsAt 39 = .ok (.if_icmp .ne 7, 3) := by decide +kernel
theorem dX9_failsAt_42 : decode cX9_failsAt 42 = .ok (.iload_n 2, 1) := by decide +kernel
theorem dX9_failsAt_43 : decode cX9_failsAt 43 = .ok (.iload_n 1, 1) := by decide +kernel
theorem dX9_failsAt_44 : decode cX9_failsAt 44 = .ok (.isub, 1) := by decide +kernel
theorem dX9_failsAt_45 : decode cX9_failsAt 45 = .ok (.ireturn, 1) := by decide +kernel
theorem dX9_failsAt_46 : decode cX9_failsAt 46 = .ok (.aload_n 0, 1) := by decide +kernel
theorem dX9_failsAt_47 : decode cX9_failsAt 47 = .ok (.getfield 38, 3) := by decide +kernel
theorem dX9_failsAt_50 : decode cX9_failsAt 50 = .ok (.aload_n 0, 1) := by decide +kernel
theorem dX9_failsAt_51 : decode cX9_failsAt 51 = .ok (.getfield 133, 3) := by decide +kernel
theorem dX9_failsAt_54 : decode cX9_failsAt 54 = .ok (.iload_n 2, 1) := by decide +kernel
theorem dX9_failsAt_55 : decode cX9_failsAt 55 = .ok (.iload_n 1, 1) := by decide +kernel
theorem dX9_failsAt_56 : decode cX9_failsAt 56 = .ok (.isub, 1) := by decide +kernel
theorem dX9_failsAt_57 : decode cX9_failsAt 57 = .ok (.iastore, 1) := by decide +kernel
theorem dX9_failsAt_58 : decode cX9_failsAt 58 = .ok (.aload_n 0, 1) := by decide +kernel
theorem dX9_failsAt_59 : decode cX9_failsAt 59 = .ok (.getfield 127, 3) := by decide +kernel
theorem dX9_failsAt_62 : decode cX9_failsAt 62 = .ok (.bipush 9, 2) := by decide +kernel
theorem dX9_failsAt_64 : decode cX9_failsAt 64 = .ok (.if_icmp .eq 39, 3) := by decide +kernel
theorem dX9_failsAt_67 : decode cX9_failsAt 67 = .ok (.aload_n 0, 1) := by decide +kernel
theorem dX9_failsAt_68 : decode cX9_failsAt 68 = .ok (.getfield 127, 3) := by decide +kernel
theorem dX9_failsAt_71 : decode cX9_failsAt 71 = .ok (.bipush 10, 2) := by decide +kernel
theorem dX9_failsAt_73 : decode cX9_failsAt 73 = .ok (.if_icmp .eq 30, 3) := by decide +kernel
theorem dX9_failsAt_76 : decode cX9_failsAt 76 = .ok (.aload_n 0, 1) := by decide +kernel
theorem dX9_failsAt_77 : decode cX9_failsAt 77 = .ok (.getfield 127, 3) := by decide +kernel
theorem dX9_failsAt_80 : decode cX9_failsAt 80 = .ok (.bipush 11, 2) := by decide +kernel
theorem dX9_failsAt_82 : decode cX9_failsAt 82 = .ok (.if_icmp .eq 21, 3) := by decide +kernel
theorem dX9_failsAt_85 : decode cX9_failsAt 85 = .ok (.aload_n 0, 1) := by decide +kernel
theorem dX9_failsAt_86 : decode cX9_failsAt 86 = .ok (.getfield 127, 3) := by decide +kernel
theorem dX9_failsAt_89 : decode cX9_failsAt 89 = .ok (.bipush 14, 2) := by decide +kernel
theorem dX9_failsAt_91 : decode cX9_failsAt 91 = .ok (.if_icmp .ne 16, 3) := by decide +kernel
theorem dX9_failsAt_94 : decode cX9_failsAt 94 = .ok (.aload_n 0, 1) := by decide +kernel
theorem dX9_failsAt_95 : decode cX9_failsAt 95 = .ok (.getfield 35, 3) := by decide +kernel
theorem dX9_failsAt_98 : decode cX9_failsAt 98 = .ok (.iconst 0, 1) := by decide +kernel
theorem dX9_failsAt_99 : decode cX9_failsAt 99 = .ok (.iaload, 1) := by decide +kernel
theorem dX9_failsAt_100 : decode cX9_failsAt 100 = .ok (.ifCond .eq 7, 3) := by decide +kernel
theorem dX9_failsAt_103 : decode cX9_failsAt 103 = .ok (.iconst 1, 1) := by decide +kernel
theorem dX9_failsAt_104 : decode cX9_failsAt 104 = .ok (.goto 4, 3) := by decide +kernel
theorem dX9_failsAt_107 : decode cX9_failsAt 107 = .ok (.iconst 0, 1) := by decide +kernel
theorem dX9_failsAt_108 : decode cX9_failsAt 108 = .ok (.istore 4, 2) := by decide +kernel
theorem dX9_failsAt_110 : decode cX9_failsAt 110 = .ok (.aload_n 0, 1) := by decide +kernel
theorem dX9_failsAt_111 : decode cX9_failsAt 111 = .ok (.getfield 41, 3) := by decide +kernel
theorem dX9_failsAt_114 : decode cX9_failsAt 114 = .ok (.aload_n 0, 1) := by decide +kernel
theorem dX9_failsAt_115 : decode cX9_failsAt 115 = .ok (.getfield 133, 3) := by decide +kernel
theorem dX9_failsAt_118 : decode cX9_failsAt 118 = .ok (.iload 4, 2) := by decide +kernel
theorem dX9_failsAt_120 : decode cX9_failsAt 120 = .ok (.ifCond .eq 17, 3) := by decide +kernel
theorem dX9_failsAt_123 : decode cX9_failsAt 123 = .ok (.aload_n 0, 1) := by decide +kernel
theorem dX9_failsAt_124 : decode cX9_failsAt 124 = .ok (.getfield 35, 3) := by decide +kernel
theorem dX9_failsAt_127 : decode cX9_failsAt 127 = .ok (.aload_n 0, 1) := by decide +kernel
theorem dX9_failsAt_128 : decode cX9_failsAt 128 = .ok (.getfield 124, 3) := by decide +kernel
theorem dX9_failsAt_131 : decode cX9_failsAt 131 = .ok (.iconst 1, 1) := by decide +kernel
theorem dX9_failsAt_132 : decode cX9_failsAt 132 = .ok (.isub, 1) := by decide +kernel
theorem dX9_failsAt_133 : decode cX9_failsAt 133 = .ok (.iaload, 1) := by decide +kernel
theorem dX9_failsAt_134 : decode cX9_failsAt 134 = .ok (.goto 4, 3) := by decide +kernel
theorem dX9_failsAt_137 : decode cX9_failsAt 137 = .ok (.iconst (-1), 1) := by decide +kernel
theorem dX9_failsAt_138 : decode cX9_failsAt 138 = .ok (.iastore, 1) := by decide +kernel
theorem dX9_failsAt_139 : decode cX9_failsAt 139 = .ok (.aload_n 0, 1) := by decide +kernel
theorem dX9_failsAt_140 : decode cX9_failsAt 140 = .ok (.dup, 1) := by decide +kernel
theorem dX9_failsAt_141 : decode cX9_failsAt 141 = .ok (.getfield 133, 3) := by decide +kernel
theorem dX9_failsAt_144 : decode cX9_failsAt 144 = .ok (.iconst 1, 1) := by decide +kernel
theorem dX9_failsAt_145 : decode cX9_failsAt 145 = .ok (.iadd, 1) := by decide +kernel
theorem dX9_failsAt_146 : decode cX9_failsAt 146 = .ok (.putfield 133, 3) := by decide +kernel
theorem dX9_failsAt_149 : decode cX9_failsAt 149 = .ok (.aload_n 0, 1) := by decide +kernel
theorem dX9_failsAt_150 : decode cX9_failsAt 150 = .ok (.getfield 127, 3) := by decide +kernel
theorem dX9_failsAt_153 : decode cX9_failsAt 153 = .ok (.bipush 15, 2) := by decide +kernel
theorem dX9_failsAt_155 : decode cX9_failsAt 155 = .ok (.if_icmp .ne 7, 3) := by decide +kernel
theorem dX9_failsAt_158 : decode cX9_failsAt 158 = .ok (.iconst 1, 1) := by decide +kernel
theorem dX9_failsAt_159 : decode cX9_failsAt 159 = .ok (.goto 4, 3) := by decide +kernel
theorem dX9_failsAt_162 : decode cX9_failsAt 162 = .ok (.iconst 0, 1) := by decide +kernel
theorem dX9_failsAt_163 : decode cX9_failsAt 163 = .ok (.istore_n 3, 1) := by decide +kernel
theorem dX9_failsAt_164 : decode cX9_failsAt 164 = .ok (.aload_n 0, 1) := by decide +kernel
theorem dX9_failsAt_165 : decode cX9_failsAt 165 = .ok (.getfield 104, 3) := by decide +kernel
theorem dX9_failsAt_168 : decode cX9_failsAt 168 = .ok (.istore_n 2, 1) := by decide +kernel
theorem dX9_failsAt_169 : decode cX9_failsAt 169 = .ok (.goto (-158), 3) := by decide +kernel
theorem dX9_failsAt_172 : decode cX9_failsAt 172 = .ok (.iconst 0, 1) := by decide +kernel
theorem dX9_failsAt_173 : decode cX9_failsAt 173 = .ok (.istore 4, 2) := by decide +kernel
theorem dX9_failsAt_175 : decode cX9_failsAt 175 = .ok (.iload 4, 2) := by decide +kernel
theorem dX9_failsAt_177 : decode cX9_failsAt 177 = .ok (.aload_n 0, 1) := by decide +kernel
theorem dX9_failsAt_178 : decode cX9_failsAt 178 = .ok (.getfield 133, 3) := by decide +kernel
theorem dX9_failsAt_181 : decode cX9_failsAt 181 = .ok (.if_icmp .ge 87, 3) := by decide +kernel
theorem dX9_failsAt_184 : decode cX9_failsAt 184 = .ok (.aload_n 0, 1) := by decide +kernel
theorem dX9_failsAt_185 : decode cX9_failsAt 185 = .ok (.getfield 41, 3) := by decide +kernel
theorem dX9_failsAt_188 : decode cX9_failsAt 188 = .ok (.iload 4, 2) := by decide +kernel
theorem dX9_failsAt_190 : decode cX9_failsAt 190 = .ok (.iaload, 1) := by decide +kernel
theorem dX9_failsAt_191 : decode cX9_failsAt 191 = .ok (.iconst (-1), 1) := by decide +kernel
theorem dX9_failsAt_192 : decode cX9_failsAt 192 = .ok (.if_icmp .ne 7, 3) := by decide +kernel
theorem dX9_failsAt_195 : decode cX9_failsAt 195 = .ok (.iconst 1, 1) := by decide +kernel
theorem dX9_failsAt_196 : decode cX9_failsAt 196 = .ok (.goto 4, 3) := by decide +kernel
theorem dX9_failsAt_199 : decode cX9_failsAt 199 = .ok (.iconst 0, 1) := by decide +kernel
theorem dX9_failsAt_200 : decode cX9_failsAt 200 = .ok (.istore 5, 2) := by decide +kernel
theorem dX9_failsAt_202 : decode cX9_failsAt 202 = .ok (.iconst 0, 1) := by decide +kernel
theorem dX9_failsAt_203 : decode cX9_failsAt 203 = .ok (.istore 6, 2) := by decide +kernel
theorem dX9_failsAt_205 : decode cX9_failsAt 205 = .ok (.iload 6, 2) := by decide +kernel
theorem dX9_failsAt_207 : decode cX9_failsAt 207 = .ok (.aload_n 0, 1) := by decide +kernel
theorem dX9_failsAt_208 : decode cX9_failsAt 208 = .ok (.getfield 133, 3) := by decide +kernel
theorem dX9_failsAt_211 : decode cX9_failsAt 211 = .ok (.if_icmp .ge 38, 3) := by decide +kernel
theorem dX9_failsAt_214 : decode cX9_failsAt 214 = .ok (.iload 5, 2) := by decide +kernel
theorem dX9_failsAt_216 : decode cX9_failsAt 216 = .ok (.ifCond .ne 20, 3) := by decide +kernel
theorem dX9_failsAt_219 : decode cX9_failsAt 219 = .ok (.aload_n 0, 1) := by decide +kernel
theorem dX9_failsAt_220 : decode cX9_failsAt 220 = .ok (.getfield 38, 3) := by decide +kernel
theorem dX9_failsAt_223 : decode cX9_failsAt 223 = .ok (.iload 6, 2) := by decide +kernel
theorem dX9_failsAt_225 : decode cX9_failsAt 225 = .ok (.iaload, 1) := by decide +kernel
theorem dX9_failsAt_226 : decode cX9_failsAt 226 = .ok (.aload_n 0, 1) := by decide +kernel
theorem dX9_failsAt_227 : decode cX9_failsAt 227 = .ok (.getfield 41, 3) := by decide +kernel
theorem dX9_failsAt_230 : decode cX9_failsAt 230 = .ok (.iload 4, 2) := by decide +kernel
theorem dX9_failsAt_232 : decode cX9_failsAt 232 = .ok (.iaload, 1) := by decide +kernel
theorem dX9_failsAt_233 : decode cX9_failsAt 233 = .ok (.if_icmp .ne 7, 3) := by decide +kernel
theorem dX9_failsAt_236 : decode cX9_failsAt 236 = .ok (.iconst 1, 1) := by decide +kernel
theorem dX9_failsAt_237 : decode cX9_failsAt 237 = .ok (.goto 4, 3) := by decide +kernel
theorem dX9_failsAt_240 : decode cX9_failsAt 240 = .ok (.iconst 0, 1) := by decide +kernel
theorem dX9_failsAt_241 : decode cX9_failsAt 241 = .ok (.istore 5, 2) := by decide +kernel
theorem dX9_failsAt_243 : decode cX9_failsAt 243 = .ok (.iinc 6 1, 3) := by decide +kernel
theorem dX9_failsAt_246 : decode cX9_failsAt 246 = .ok (.goto (-41), 3) := by decide +kernel
theorem dX9_failsAt_249 : decode cX9_failsAt 249 = .ok (.iload 5, 2) := by decide +kernel
theorem dX9_failsAt_251 : decode cX9_failsAt 251 = .ok (.ifCond .ne 11, 3) := by decide +kernel
theorem dX9_failsAt_254 : decode cX9_failsAt 254 = .ok (.aload_n 0, 1) := by decide +kernel
theorem dX9_failsAt_255 : decode cX9_failsAt 255 = .ok (.getfield 38, 3) := by decide +kernel
theorem dX9_failsAt_258 : decode cX9_failsAt 258 = .ok (.iload 4, 2) := by decide +kernel
theorem dX9_failsAt_260 : decode cX9_failsAt 260 = .ok (.iaload, 1) := by decide +kernel
theorem dX9_failsAt_261 : decode cX9_failsAt 261 = .ok (.ireturn, 1) := by decide +kernel
theorem dX9_failsAt_262 : decode cX9_failsAt 262 = .ok (.iinc 4 1, 3) := by decide +kernel
theorem dX9_failsAt_265 : decode cX9_failsAt 265 = .ok (.goto (-90), 3) := by decide +kernel
theorem dX9_failsAt_268 : decode cX9_failsAt 268 = .ok (.iconst (-1), 1) := by decide +kernel
theorem dX9_failsAt_269 : decode cX9_failsAt 269 = .ok (.ireturn, 1) := by decide +kernel
theorem dX9_isAddress_0 : decode cX9_isAddress 0 = .ok (.iload_n 0, 1) := by decide +kernel
theorem dX9_isAddress_1 : decode cX9_isAddress 1 = .ok (.ifCond .lt 20, 3) := by decide +kernel
theorem dX9_isAddress_4 : decode cX9_isAddress 4 = .ok (.iload_n 0, 1) := by decide +kernel
theorem dX9_isAddress_5 : decode cX9_isAddress 5 = .ok (.sipush 1024, 3) := by decide +kernel
theorem dX9_isAddress_8 : decode cX9_isAddress 8 = .ok (.if_icmp .ge 13, 3) := by decide +kernel
theorem dX9_isAddress_11 : decode cX9_isAddress 11 = .ok (.iload_n 0, 1) := by decide +kernel
theorem dX9_isAddress_12 : decode cX9_isAddress 12 = .ok (.iconst 4, 1) := by decide +kernel
theorem dX9_isAddress_13 : decode cX9_isAddress 13 = .ok (.irem, 1) := by decide +kernel
theorem dX9_isAddress_14 : decode cX9_isAddress 14 = .ok (.ifCond .ne 7, 3) := by decide +kernel
theorem dX9_isAddress_17 : decode cX9_isAddress 17 = .ok (.iconst 1, 1) := by decide +kernel
theorem dX9_isAddress_18 : decode cX9_isAddress 18 = .ok (.goto 4, 3) := by decide +kernel
theorem dX9_isAddress_21 : decode cX9_isAddress 21 = .ok (.iconst 0, 1) := by decide +kernel
theorem dX9_isAddress_22 : decode cX9_isAddress 22 = .ok (.ireturn, 1) := by decide +kernel
theorem dX9_keptOf_0 : decode cX9_keptOf 0 = .ok (.iconst 0, 1) := by decide +kernel
theorem dX9_keptOf_1 : decode cX9_keptOf 1 = .ok (.istore_n 2, 1) := by decide +kernel
theorem dX9_keptOf_2 : decode cX9_keptOf 2 = .ok (.iload_n 2, 1) := by decide +kernel
theorem dX9_keptOf_3 : decode cX9_keptOf 3 = .ok (.aload_n 0, 1) := by decide +kernel
theorem dX9_keptOf_4 : decode cX9_keptOf 4 = .ok (.getfield 80, 3) := by decide +kernel
theorem dX9_keptOf_7 : decode cX9_keptOf 7 = .ok (.if_icmp .ge 21, 3) := by decide +kernel
theorem dX9_keptOf_10 : decode cX9_keptOf 10 = .ok (.aload_n 0, 1) := by decide +kernel
theorem dX9_keptOf_11 : decode cX9_keptOf 11 = .ok (.getfield 22, 3) := by decide +kernel
theorem dX9_keptOf_14 : decode cX9_keptOf 14 = .ok (.iload_n 2, 1) := by decide +kernel
theorem dX9_keptOf_15 : decode cX9_keptOf 15 = .ok (.iaload, 1) := by decide +kernel
theorem dX9_keptOf_16 : decode cX9_keptOf 16 = .ok (.iload_n 1, 1) := by decide +kernel
theorem dX9_keptOf_17 : decode cX9_keptOf 17 = .ok (.if_icmp .ne 5, 3) := by decide +kernel
theorem dX9_keptOf_20 : decode cX9_keptOf 20 = .ok (.iload_n 2, 1) := by decide +kernel
theorem dX9_keptOf_21 : decode cX9_keptOf 21 = .ok (.ireturn, 1) := by decide +kernel
theorem dX9_keptOf_22 : decode cX9_keptOf 22 = .ok (.iinc 2 1, 3) := by decide +kernel
theorem dX9_keptOf_25 : decode cX9_keptOf 25 = .ok (.goto (-23), 3) := by decide +kernel
theorem dX9_keptOf_28 : decode cX9_keptOf 28 = .ok (.iconst (-1), 1) := by decide +kernel
theorem dX9_keptOf_29 : decode cX9_keptOf 29 = .ok (.ireturn, 1) := by decide +kernel
theorem dX9_make_0 : decode cX9_make 0 = .ok (.aload_n 0, 1) := by decide +kernel
theorem dX9_make_1 : decode cX9_make 1 = .ok (.iconst 0, 1) := by decide +kernel
theorem dX9_make_2 : decode cX9_make 2 = .ok (.putfield 77, 3) := by decide +kernel
theorem dX9_make_5 : decode cX9_make 5 = .ok (.aload_n 0, 1) := by decide +kernel
theorem dX9_make_6 : decode cX9_make 6 = .ok (.iconst (-1), 1) := by decide +kernel
theorem dX9_make_7 : decode cX9_make 7 = .ok (.putfield 31, 3) := by decide +kernel
theorem dX9_make_10 : decode cX9_make 10 = .ok (.iload_n 1, 1) := by decide +kernel
theorem dX9_make_11 : decode cX9_make 11 = .ok (.invokestatic 140, 3) := by decide +kernel
theorem dX9_make_14 : decode cX9_make 14 = .ok (.ifCond .eq 14, 3) := by decide +kernel
theorem dX9_make_17 : decode cX9_make 17 = .ok (.aload_n 0, 1) := by decide +kernel
theorem dX9_make_18 : decode cX9_make 18 = .ok (.getfield 7, 3) := by decide +kernel
theorem dX9_make_21 : decode cX9_make 21 = .ok (.iload_n 1, 1) := by decide +kernel
theorem dX9_make_22 : decode cX9_make 22 = .ok (.iaload, 1) := by decide +kernel
theorem dX9_make_23 : decode cX9_make 23 = .ok (.bipush 8, 2) := by decide +kernel
theorem dX9_make_25 : decode cX9_make 25 = .ok (.if_icmp .le 6, 3) := by decide +kernel
theorem dX9_make_28 : decode cX9_make 28 = .ok (.bipush (-2), 2) := by decide +kernel
theorem dX9_make_30 : decode cX9_make 30 = .ok (.ireturn, 1) := by decide +kernel
theorem dX9_make_31 : decode cX9_make 31 = .ok (.aload_n 0, 1) := by decide +kernel
theorem dX9_make_32 : decode cX9_make 32 = .ok (.iload_n 1, 1) := by decide +kernel
theorem dX9_make_33 : decode cX9_make 33 = .ok (.invokevirtual 143, 3) := by decide +kernel
theorem dX9_make_36 : decode cX9_make 36 = .ok (.istore_n 2, 1) := by decide +kernel
theorem dX9_make_37 : decode cX9_make 37 = .ok (.iload_n 2, 1) := by decide +kernel
theorem dX9_make_38 : decode cX9_make 38 = .ok (.iconst (-1), 1) := by decide +kernel
theorem dX9_make_39 : decode cX9_make 39 = .ok (.if_icmp .eq 11, 3) := by decide +kernel
theorem dX9_make_42 : decode cX9_make 42 = .ok (.aload_n 0, 1) := by decide +kernel
theorem dX9_make_43 : decode cX9_make 43 = .ok (.iload_n 2, 1) := by decide +kernel
theorem dX9_make_44 : decode cX9_make 44 = .ok (.putfield 31, 3) := by decide +kernel
theorem dX9_make_47 : decode cX9_make 47 = .ok (.bipush (-2), 2) := by decide +kernel
theorem dX9_make_49 : decode cX9_make 49 = .ok (.ireturn, 1) := by decide +kernel
theorem dX9_make_50 : decode cX9_make 50 = .ok (.aload_n 0, 1) := by decide +kernel
theorem dX9_make_51 : decode cX9_make 51 = .ok (.iload_n 1, 1) := by decide +kernel
theorem dX9_make_52 : decode cX9_make 52 = .ok (.invokevirtual 146, 3) := by decide +kernel
theorem dX9_make_55 : decode cX9_make 55 = .ok (.iconst (-1), 1) := by decide +kernel
theorem dX9_make_56 : decode cX9_make 56 = .ok (.if_icmp .eq 6, 3) := by decide +kernel
theorem dX9_make_59 : decode cX9_make 59 = .ok (.bipush (-4), 2) := by decide +kernel
theorem dX9_make_61 : decode cX9_make 61 = .ok (.ireturn, 1) := by decide +kernel
theorem dX9_make_62 : decode cX9_make 62 = .ok (.aload_n 0, 1) := by decide +kernel
theorem dX9_make_63 : decode cX9_make 63 = .ok (.getfield 74, 3) := by decide +kernel
theorem dX9_make_66 : decode cX9_make 66 = .ok (.ifCond .ne 6, 3) := by decide +kernel
theorem dX9_make_69 : decode cX9_make 69 = .ok (.bipush (-3), 2) := by decide +kernel
theorem dX9_make_71 : decode cX9_make 71 = .ok (.ireturn, 1) := by decide +kernel
theorem dX9_make_72 : decode cX9_make 72 = .ok (.aload_n 0, 1) := by decide +kernel
theorem dX9_make_73 : decode cX9_make 73 = .ok (.getfield 80, 3) := by decide +kernel
theorem dX9_make_76 : decode cX9_make 76 = .ok (.aload_n 0, 1) := by decide +kernel
theorem dX9_make_77 : decode cX9_make 77 = .ok (.getfield 74, 3) := by decide +kernel
theorem dX9_make_80 : decode cX9_make 80 = .ok (.if_icmp .ne 8, 3) := by decide +kernel
theorem dX9_make_83 : decode cX9_make 83 = .ok (.aload_n 0, 1) := by decide +kernel
theorem dX9_make_84 : decode cX9_make 84 = .ok (.iconst 0, 1) := by decide +kernel
theorem dX9_make_85 : decode cX9_make 85 = .ok (.invokevirtual 86, 3) := by decide +kernel
theorem dX9_make_88 : decode cX9_make 88 = .ok (.aload_n 0, 1) := by decide +kernel
theorem dX9_make_89 : decode cX9_make 89 = .ok (.getfield 22, 3) := by decide +kernel
theorem dX9_make_92 : decode cX9_make 92 = .ok (.aload_n 0, 1) := by decide +kernel
theorem dX9_make_93 : decode cX9_make 93 = .ok (.getfield 80, 3) := by decide +kernel
theorem dX9_make_96 : decode cX9_make 96 = .ok (.iload_n 1, 1) := by decide +kernel
theorem dX9_make_97 : decode cX9_make 97 = .ok (.iastore, 1) := by decide +kernel
theorem dX9_make_98 : decode cX9_make 98 = .ok (.aload_n 0, 1) := by decide +kernel
theorem dX9_make_99 : decode cX9_make 99 = .ok (.getfield 25, 3) := by decide +kernel
theorem dX9_make_102 : decode cX9_make 102 = .ok (.aload_n 0, 1) := by decide +kernel
theorem dX9_make_103 : decode cX9_make 103 = .ok (.getfield 80, 3) := by decide +kernel
theorem dX9_make_106 : decode cX9_make 106 = .ok (.iload_n 1, 1) := by decide +kernel
theorem dX9_make_107 : decode cX9_make 107 = .ok (.aload_n 0, 1) := by decide +kernel
theorem dX9_make_108 : decode cX9_make 108 = .ok (.getfield 38, 3) := by decide +kernel
theorem dX9_make_111 : decode cX9_make 111 = .ok (.aload_n 0, 1) := by decide +kernel
theorem dX9_make_112 : decode cX9_make 112 = .ok (.getfield 133, 3) := by decide +kernel
theorem dX9_make_115 : decode cX9_make 115 = .ok (.iconst 1, 1) := by decide +kernel
theorem dX9_make_116 : decode cX9_make 116 = .ok (.isub, 1) := by decide +kernel
theorem dX9_make_117 : decode cX9_make 117 = .ok (.iaload, 1) := by decide +kernel
theorem dX9_make_118 : decode cX9_make 118 = .ok (.iadd, 1) := by decide +kernel
theorem dX9_make_119 : decode cX9_make 119 = .ok (.iastore, 1) := by decide +kernel
theorem dX9_make_120 : decode cX9_make 120 = .ok (.aload_n 0, 1) := by decide +kernel
theorem dX9_make_121 : decode cX9_make 121 = .ok (.getfield 28, 3) := by decide +kernel
theorem dX9_make_124 : decode cX9_make 124 = .ok (.aload_n 0, 1) := by decide +kernel
theorem dX9_make_125 : decode cX9_make 125 = .ok (.getfield 80, 3) := by decide +kernel
theorem dX9_make_128 : decode cX9_make 128 = .ok (.aload_n 0, 1) := by decide +kernel
theorem dX9_make_129 : decode cX9_make 129 = .ok (.getfield 149, 3) := by decide +kernel
theorem dX9_make_132 : decode cX9_make 132 = .ok (.iastore, 1) := by decide +kernel
theorem dX9_make_133 : decode cX9_make 133 = .ok (.aload_n 0, 1) := by decide +kernel
theorem dX9_make_134 : decode cX9_make 134 = .ok (.dup, 1) := by decide +kernel
theorem dX9_make_135 : decode cX9_make 135 = .ok (.getfield 80, 3) := by decide +kernel
theorem dX9_make_138 : decode cX9_make 138 = .ok (.iconst 1, 1) := by decide +kernel
theorem dX9_make_139 : decode cX9_make 139 = .ok (.iadd, 1) := by decide +kernel
theorem dX9_make_140 : decode cX9_make 140 = .ok (.putfield 80, 3) := by decide +kernel
theorem dX9_make_143 : decode cX9_make 143 = .ok (.aload_n 0, 1) := by decide +kernel
theorem dX9_make_144 : decode cX9_make 144 = .ok (.dup, 1) := by decide +kernel
theorem dX9_make_145 : decode cX9_make 145 = .ok (.getfield 149, 3) := by decide +kernel
theorem dX9_make_148 : decode cX9_make 148 = .ok (.iconst 1, 1) := by decide +kernel
theorem dX9_make_149 : decode cX9_make 149 = .ok (.iadd, 1) := by decide +kernel
theorem dX9_make_150 : decode cX9_make 150 = .ok (.putfield 149, 3) := by decide +kernel
theorem dX9_make_153 : decode cX9_make 153 = .ok (.aload_n 0, 1) := by decide +kernel
theorem dX9_make_154 : decode cX9_make 154 = .ok (.getfield 133, 3) := by decide +kernel
theorem dX9_make_157 : decode cX9_make 157 = .ok (.ireturn, 1) := by decide +kernel
theorem dX9_place_0 : decode cX9_place 0 = .ok (.aload_n 0, 1) := by decide +kernel
theorem dX9_place_1 : decode cX9_place 1 = .ok (.iconst 0, 1) := by decide +kernel
theorem dX9_place_2 : decode cX9_place 2 = .ok (.putfield 77, 3) := by decide +kernel
theorem dX9_place_5 : decode cX9_place 5 = .ok (.aload_n 0, 1) := by decide +kernel
theorem dX9_place_6 : decode cX9_place 6 = .ok (.getfield 31, 3) := by decide +kernel
theorem dX9_place_9 : decode cX9_place 9 = .ok (.ireturn, 1) := by decide +kernel
theorem dX9_fails_0 : decode cX9_fails 0 = .ok (.aload_n 0, 1) := by decide +kernel
theorem dX9_fails_1 : decode cX9_fails 1 = .ok (.iload_n 1, 1) := by decide +kernel
theorem dX9_fails_2 : decode cX9_fails 2 = .ok (.putfield 152, 3) := by decide +kernel
theorem dX9_fails_5 : decode cX9_fails 5 = .ok (.aload_n 0, 1) := by decide +kernel
theorem dX9_fails_6 : decode cX9_fails 6 = .ok (.aload_n 0, 1) := by decide +kernel
theorem dX9_fails_7 : decode cX9_fails 7 = .ok (.getfield 155, 3) := by decide +kernel
theorem dX9_fails_10 : decode cX9_fails 10 = .ok (.putfield 68, 3) := by decide +kernel
theorem dX9_fails_13 : decode cX9_fails 13 = .ok (.aload_n 0, 1) := by decide +kernel
theorem dX9_fails_14 : decode cX9_fails 14 = .ok (.aload_n 0, 1) := by decide +kernel
theorem dX9_fails_15 : decode cX9_fails 15 = .ok (.getfield 158, 3) := by decide +kernel
theorem dX9_fails_18 : decode cX9_fails 18 = .ok (.putfield 71, 3) := by decide +kernel
theorem dX9_fails_21 : decode cX9_fails 21 = .ok (.return_, 1) := by decide +kernel
theorem dX9_valueOf_0 : decode cX9_valueOf 0 = .ok (.iload_n 1, 1) := by decide +kernel
theorem dX9_valueOf_1 : decode cX9_valueOf 1 = .ok (.sipush 128, 3) := by decide +kernel
theorem dX9_valueOf_4 : decode cX9_valueOf 4 = .ok (.if_icmp .ge 7, 3) := by decide +kernel
theorem dX9_valueOf_7 : decode cX9_valueOf 7 = .ok (.iload_n 1, 1) := by decide +kernel
theorem dX9_valueOf_8 : decode cX9_valueOf 8 = .ok (.goto 43, 3) := by decide +kernel
theorem dX9_valueOf_11 : decode cX9_valueOf 11 = .ok (.iload_n 1, 1) := by decide +kernel
theorem dX9_valueOf_12 : decode cX9_valueOf 12 = .ok (.sipush 136, 3) := by decide +kernel
theorem dX9_valueOf_15 : decode cX9_valueOf 15 = .ok (.if_icmp .ge 26, 3) := by decide +kernel
theorem dX9_valueOf_18 : decode cX9_valueOf 18 = .ok (.aload_n 0, 1) := by decide +kernel
theorem dX9_valueOf_19 : decode cX9_valueOf 19 = .ok (.getfield 62, 3) := by decide +kernel
theorem dX9_valueOf_22 : decode cX9_valueOf 22 = .ok (.bipush 8, 2) := by decide +kernel
theorem dX9_valueOf_24 : decode cX9_valueOf 24 = .ok (.aload_n 0, 1) := by decide +kernel
theorem dX9_valueOf_25 : decode cX9_valueOf 25 = .ok (.getfield 161, 3) := by decide +kernel
theorem dX9_valueOf_28 : decode cX9_valueOf 28 = .ok (.iconst 1, 1) := by decide +kernel
theorem dX9_valueOf_29 : decode cX9_valueOf 29 = .ok (.isub, 1) := by decide +kernel
theorem dX9_valueOf_30 : decode cX9_valueOf 30 = .ok (.imul, 1) := by decide +kernel
theorem dX9_valueOf_31 : decode cX9_valueOf 31 = .ok (.iload_n 1, 1) := by decide +kernel
theorem dX9_valueOf_32 : decode cX9_valueOf 32 = .ok (.iadd, 1) := by decide +kernel
theorem dX9_valueOf_33 : decode cX9_valueOf 33 = .ok (.sipush 128, 3) := by decide +kernel
theorem dX9_valueOf_36 : decode cX9_valueOf 36 = .ok (.isub, 1) := by decide +kernel
theorem dX9_valueOf_37 : decode cX9_valueOf 37 = .ok (.iaload, 1) := by decide +kernel
theorem dX9_valueOf_38 : decode cX9_valueOf 38 = .ok (.goto 13, 3) := by decide +kernel
theorem dX9_valueOf_41 : decode cX9_valueOf 41 = .ok (.aload_n 0, 1) := by decide +kernel
theorem dX9_valueOf_42 : decode cX9_valueOf 42 = .ok (.getfield 13, 3) := by decide +kernel
theorem dX9_valueOf_45 : decode cX9_valueOf 45 = .ok (.iload_n 1, 1) := by decide +kernel
theorem dX9_valueOf_46 : decode cX9_valueOf 46 = .ok (.sipush 136, 3) := by decide +kernel
theorem dX9_valueOf_49 : decode cX9_valueOf 49 = .ok (.isub, 1) := by decide +kernel
theorem dX9_valueOf_50 : decode cX9_valueOf 50 = .ok (.iaload, 1) := by decide +kernel
theorem dX9_valueOf_51 : decode cX9_valueOf 51 = .ok (.ireturn, 1) := by decide +kernel
theorem dX9_becomes_0 : decode cX9_becomes 0 = .ok (.iload_n 1, 1) := by decide +kernel
theorem dX9_becomes_1 : decode cX9_becomes 1 = .ok (.sipush 136, 3) := by decide +kernel
theorem dX9_becomes_4 : decode cX9_becomes 4 = .ok (.if_icmp .ge 27, 3) := by decide +kernel
theorem dX9_becomes_7 : decode cX9_becomes 7 = .ok (.aload_n 0, 1) := by decide +kernel
theorem dX9_becomes_8 : decode cX9_becomes 8 = .ok (.getfield 62, 3) := by decide +kernel
theorem dX9_becomes_11 : decode cX9_becomes 11 = .ok (.bipush 8, 2) := by decide +kernel
theorem dX9_becomes_13 : decode cX9_becomes 13 = .ok (.aload_n 0, 1) := by decide +kernel
theorem dX9_becomes_14 : decode cX9_becomes 14 = .ok (.getfield 161, 3) := by decide +kernel
theorem dX9_becomes_17 : decode cX9_becomes 17 = .ok (.iconst 1, 1) := by decide +kernel
theorem dX9_becomes_18 : decode cX9_becomes 18 = .ok (.isub, 1) := by decide +kernel
theorem dX9_becomes_19 : decode cX9_becomes 19 = .ok (.imul, 1) := by decide +kernel
theorem dX9_becomes_20 : decode cX9_becomes 20 = .ok (.iload_n 1, 1) := by decide +kernel
theorem dX9_becomes_21 : decode cX9_becomes 21 = .ok (.iadd, 1) := by decide +kernel
theorem dX9_becomes_22 : decode cX9_becomes 22 = .ok (.sipush 128, 3) := by decide +kernel
theorem dX9_becomes_25 : decode cX9_becomes 25 = .ok (.isub, 1) := by decide +kernel
theorem dX9_becomes_26 : decode cX9_becomes 26 = .ok (.iload_n 2, 1) := by decide +kernel
theorem dX9_becomes_27 : decode cX9_becomes 27 = .ok (.iastore, 1) := by decide +kernel
theorem dX9_becomes_28 : decode cX9_becomes 28 = .ok (.goto 14, 3) := by decide +kernel
theorem dX9_becomes_31 : decode cX9_becomes 31 = .ok (.aload_n 0, 1) := by decide +kernel
theorem dX9_becomes_32 : decode cX9_becomes 32 = .ok (.getfield 13, 3) := by decide +kernel
theorem dX9_becomes_35 : decode cX9_becomes 35 = .ok (.iload_n 1, 1) := by decide +kernel
theorem dX9_becomes_36 : decode cX9_becomes 36 = .ok (.sipush 136, 3) := by decide +kernel
theorem dX9_becomes_39 : decode cX9_becomes 39 = .ok (.isub, 1) := by decide +kernel
theorem dX9_becomes_40 : decode cX9_becomes 40 = .ok (.iload_n 2, 1) := by decide +kernel
theorem dX9_becomes_41 : decode cX9_becomes 41 = .ok (.iastore, 1) := by decide +kernel
theorem dX9_becomes_42 : decode cX9_becomes 42 = .ok (.return_, 1) := by decide +kernel
theorem dX9_step_0 : decode cX9_step 0 = .ok (.aload_n 0, 1) := by decide +kernel
theorem dX9_step_1 : decode cX9_step 1 = .ok (.getfield 164, 3) := by decide +kernel
theorem dX9_step_4 : decode cX9_step 4 = .ok (.sipush 400, 3) := by decide +kernel
theorem dX9_step_7 : decode cX9_step 7 = .ok (.if_icmp .ne 10, 3) := by decide +kernel
theorem dX9_step_10 : decode cX9_step 10 = .ok (.aload_n 0, 1) := by decide +kernel
theorem dX9_step_11 : decode cX9_step 11 = .ok (.iconst 5, 1) := by decide +kernel
theorem dX9_step_12 : decode cX9_step 12 = .ok (.invokevirtual 167, 3) := by decide +kernel
theorem dX9_step_15 : decode cX9_step 15 = .ok (.iconst 0, 1) := by decide +kernel
theorem dX9_step_16 : decode cX9_step 16 = .ok (.ireturn, 1) := by decide +kernel
theorem dX9_step_17 : decode cX9_step 17 = .ok (.aload_n 0, 1) := by decide +kernel
theorem dX9_step_18 : decode cX9_step 18 = .ok (.dup, 1) := by decide +kernel
theorem dX9_step_19 : decode cX9_step 19 = .ok (.getfield 164, 3) := by decide +kernel
theorem dX9_step_22 : decode cX9_step 22 = .ok (.iconst 1, 1) := by decide +kernel
theorem dX9_step_23 : decode cX9_step 23 = .ok (.iadd, 1) := by decide +kernel
theorem dX9_step_24 : decode cX9_step 24 = .ok (.putfield 164, 3) := by decide +kernel
theorem dX9_step_27 : decode cX9_step 27 = .ok (.aload_n 0, 1) := by decide +kernel
theorem dX9_step_28 : decode cX9_step 28 = .ok (.dup, 1) := by decide +kernel
theorem dX9_step_29 : decode cX9_step 29 = .ok (.getfield 170, 3) := by decide +kernel
theorem dX9_step_32 : decode cX9_step 32 = .ok (.iconst 1, 1) := by decide +kernel
theorem dX9_step_33 : decode cX9_step 33 = .ok (.iadd, 1) := by decide +kernel
theorem dX9_step_34 : decode cX9_step 34 = .ok (.putfield 170, 3) := by decide +kernel
theorem dX9_step_37 : decode cX9_step 37 = .ok (.iconst 1, 1) := by decide +kernel
theorem dX9_step_38 : decode cX9_step 38 = .ok (.ireturn, 1) := by decide +kernel
theorem dX9_builtIn_0 : decode cX9_builtIn 0 = .ok (.iconst 0, 1) := by decide +kernel
theorem dX9_builtIn_1 : decode cX9_builtIn 1 = .ok (.istore_n 2, 1) := by decide +kernel
theorem dX9_builtIn_2 : decode cX9_builtIn 2 = .ok (.iload_n 1, 1) := by decide +kernel
theorem dX9_builtIn_3 : decode cX9_builtIn 3 = .ok (.tableswitch 130 1 3 #[25, 52, 95], 25) := by decide +kernel
theorem dX9_builtIn_28 : decode cX9_builtIn 28 = .ok (.iconst 0, 1) := by decide +kernel
theorem dX9_builtIn_29 : decode cX9_builtIn 29 = .ok (.istore_n 3, 1) := by decide +kernel
theorem dX9_builtIn_30 : decode cX9_builtIn 30 = .ok (.iload_n 3, 1) := by decide +kernel
theorem dX9_builtIn_31 : decode cX9_builtIn 31 = .ok (.aload_n 0, 1) := by decide +kernel
theorem dX9_builtIn_32 : decode cX9_builtIn 32 = .ok (.getfield 173, 3) := by decide +kernel
theorem dX9_builtIn_35 : decode cX9_builtIn 35 = .ok (.if_icmp .ge 18, 3) := by decide +kernel
theorem dX9_builtIn_38 : decode cX9_builtIn 38 = .ok (.iload_n 2, 1) := by decide +kernel
theorem dX9_builtIn_39 : decode cX9_builtIn 39 = .ok (.aload_n 0, 1) := by decide +kernel
theorem dX9_builtIn_40 : decode cX9_builtIn 40 = .ok (.getfield 65, 3) := by decide +kernel
theorem dX9_builtIn_43 : decode cX9_builtIn 43 = .ok (.iload_n 3, 1) := by decide +kernel
theorem dX9_builtIn_44 : decode cX9_builtIn 44 = .ok (.iaload, 1) := by decide +kernel
theorem dX9_builtIn_45 : decode cX9_builtIn 45 = .ok (.iadd, 1) := by decide +kernel
theorem dX9_builtIn_46 : decode cX9_builtIn 46 = .ok (.istore_n 2, 1) := by decide +kernel
theorem dX9_builtIn_47 : decode cX9_builtIn 47 = .ok (.iinc 3 1, 3) := by decide +kernel
theorem dX9_builtIn_50 : decode cX9_builtIn 50 = .ok (.goto (-20), 3) := by decide +kernel
theorem dX9_builtIn_53 : decode cX9_builtIn 53 = .ok (.iload_n 2, 1) := by decide +kernel
theorem dX9_builtIn_54 : decode cX9_builtIn 54 = .ok (.ireturn, 1) := by decide +kernel
theorem dX9_builtIn_55 : decode cX9_builtIn 55 = .ok (.iconst 0, 1) := by decide +kernel
theorem dX9_builtIn_56 : decode cX9_builtIn 56 = .ok (.istore_n 3, 1) := by decide +kernel
theorem dX9_builtIn_57 : decode cX9_builtIn 57 = .ok (.iload_n 3, 1) := by decide +kernel
theorem dX9_builtIn_58 : decode cX9_builtIn 58 = .ok (.aload_n 0, 1) := by decide +kernel
theorem dX9_builtIn_59 : decode cX9_builtIn 59 = .ok (.getfield 173, 3) := by decide +kernel
theorem dX9_builtIn_62 : decode cX9_builtIn 62 = .ok (.if_icmp .ge 34, 3) := by decide +kernel
theorem dX9_builtIn_65 : decode cX9_builtIn 65 = .ok (.iload_n 3, 1) := by decide +kernel
theorem dX9_builtIn_66 : decode cX9_builtIn 66 = .ok (.ifCond .eq 13, 3) := by decide +kernel
theorem dX9_builtIn_69 : decode cX9_builtIn 69 = .ok (.aload_n 0, 1) := by decide +kernel
theorem dX9_builtIn_70 : decode cX9_builtIn 70 = .ok (.getfield 65, 3) := by decide +kernel
theorem dX9_builtIn_73 : decode cX9_builtIn 73 = .ok (.iload_n 3, 1) := by decide +kernel
theorem dX9_builtIn_74 : decode cX9_builtIn 74 = .ok (.iaload, 1) := by decide +kernel
theorem dX9_builtIn_75 : decode cX9_builtIn 75 = .ok (.iload_n 2, 1) := by decide +kernel
theorem dX9_builtIn_76 : decode cX9_builtIn 76 = .ok (.if_icmp .le 12, 3) := by decide +kernel
theorem dX9_builtIn_79 : decode cX9_builtIn 79 = .ok (.aload_n 0, 1) := by decide +kernel
theorem dX9_builtIn_80 : decode cX9_builtIn 80 = .ok (.getfield 65, 3) := by decide +kernel
theorem dX9_builtIn_83 : decode cX9_builtIn 83 = .ok (.iload_n 3, 1) := by decide +kernel
theorem dX9_builtIn_84 : decode cX9_builtIn 84 = .ok (.iaload, 1) := by decide +kernel
theorem dX9_builtIn_85 : decode cX9_builtIn 85 = .ok (.goto 4, 3) := by decide +kernel
theorem dX9_builtIn_88 : decode cX9_builtIn 88 = .ok (.iload_n 2, 1) := by decide +kernel
theorem dX9_builtIn_89 : decode cX9_builtIn 89 = .ok (.istore_n 2, 1) := by decide +kernel
theorem dX9_builtIn_90 : decode cX9_builtIn 90 = .ok (.iinc 3 1, 3) := by decide +kernel
theorem dX9_builtIn_93 : decode cX9_builtIn 93 = .ok (.goto (-36), 3) := by decide +kernel
theorem dX9_builtIn_96 : decode cX9_builtIn 96 = .ok (.iload_n 2, 1) := by decide +kernel
theorem dX9_builtIn_97 : decode cX9_builtIn 97 = .ok (.ireturn, 1) := by decide +kernel
theorem dX9_builtIn_98 : decode cX9_builtIn 98 = .ok (.iconst 0, 1) := by decide +kernel
theorem dX9_builtIn_99 : decode cX9_builtIn 99 = .ok (.istore_n 3, 1) := by decide +kernel
theorem dX9_builtIn_100 : decode cX9_builtIn 100 = .ok (.iload_n 3, 1) := by decide +kernel
theorem dX9_builtIn_101 : decode cX9_builtIn 101 = .ok (.aload_n 0, 1) := by decide +kernel
theorem dX9_builtIn_102 : decode cX9_builtIn 102 = .ok (.getfield 173, 3) := by decide +kernel
theorem dX9_builtIn_105 : decode cX9_builtIn 105 = .ok (.if_icmp .ge 26, 3) := by decide +kernel
theorem dX9_builtIn_108 : decode cX9_builtIn 108 = .ok (.iload_n 2, 1) := by decide +kernel
theorem dX9_builtIn_109 : decode cX9_builtIn 109 = .ok (.aload_n 0, 1) := by decide +kernel
theorem dX9_builtIn_110 : decode cX9_builtIn 110 = .ok (.getfield 65, 3) := by decide +kernel
theorem dX9_builtIn_113 : decode cX9_builtIn 113 = .ok (.iload_n 3, 1) := by decide +kernel
theorem dX9_builtIn_114 : decode cX9_builtIn 114 = .ok (.iaload, 1) := by decide +kernel
theorem dX9_builtIn_115 : decode cX9_builtIn 115 = .ok (.ifCond .eq 7, 3) := by decide +kernel
theorem dX9_builtIn_118 : decode cX9_builtIn 118 = .ok (.iconst 1, 1) := by decide +kernel
theorem dX9_builtIn_119 : decode cX9_builtIn 119 = .ok (.goto 4, 3) := by decide +kernel
theorem dX9_builtIn_122 : decode cX9_builtIn 122 = .ok (.iconst 0, 1) := by decide +kernel
theorem dX9_builtIn_123 : decode cX9_builtIn 123 = .ok (.iadd, 1) := by decide +kernel
theorem dX9_builtIn_124 : decode cX9_builtIn 124 = .ok (.istore_n 2, 1) := by decide +kernel
theorem dX9_builtIn_125 : decode cX9_builtIn 125 = .ok (.iinc 3 1, 3) := by decide +kernel
theorem dX9_builtIn_128 : decode cX9_builtIn 128 = .ok (.goto (-28), 3) := by decide +kernel
theorem dX9_builtIn_131 : decode cX9_builtIn 131 = .ok (.iload_n 2, 1) := by decide +kernel
theorem dX9_builtIn_132 : decode cX9_builtIn 132 = .ok (.ireturn, 1) := by decide +kernel
theorem dX9_builtIn_133 : decode cX9_builtIn 133 = .ok (.aload_n 0, 1) := by decide +kernel
theorem dX9_builtIn_134 : decode cX9_builtIn 134 = .ok (.getfield 173, 3) := by decide +kernel
theorem dX9_builtIn_137 : decode cX9_builtIn 137 = .ok (.ifCond .eq 16, 3) := by decide +kernel
theorem dX9_builtIn_140 : decode cX9_builtIn 140 = .ok (.aload_n 0, 1) := by decide +kernel
theorem dX9_builtIn_141 : decode cX9_builtIn 141 = .ok (.aload_n 0, 1) := by decide +kernel
theorem dX9_builtIn_142 : decode cX9_builtIn 142 = .ok (.getfield 65, 3) := by decide +kernel
theorem dX9_builtIn_145 : decode cX9_builtIn 145 = .ok (.iconst 0, 1) := by decide +kernel
theorem dX9_builtIn_146 : decode cX9_builtIn 146 = .ok (.iaload, 1) := by decide +kernel
theorem dX9_builtIn_147 : decode cX9_builtIn 147 = .ok (.invokevirtual 94, 3) := by decide +kernel
theorem dX9_builtIn_150 : decode cX9_builtIn 150 = .ok (.ifCond .ne 10, 3) := by decide +kernel
theorem dX9_builtIn_153 : decode cX9_builtIn 153 = .ok (.aload_n 0, 1) := by decide +kernel
theorem dX9_builtIn_154 : decode cX9_builtIn 154 = .ok (.iconst 1, 1) := by decide +kernel
theorem dX9_builtIn_155 : decode cX9_builtIn 155 = .ok (.invokevirtual 167, 3) := by decide +kernel
theorem dX9_builtIn_158 : decode cX9_builtIn 158 = .ok (.iconst 0, 1) := by decide +kernel
theorem dX9_builtIn_159 : decode cX9_builtIn 159 = .ok (.ireturn, 1) := by decide +kernel
theorem dX9_builtIn_160 : decode cX9_builtIn 160 = .ok (.aload_n 0, 1) := by decide +kernel
theorem dX9_builtIn_161 : decode cX9_builtIn 161 = .ok (.getfield 7, 3) := by decide +kernel
theorem dX9_builtIn_164 : decode cX9_builtIn 164 = .ok (.aload_n 0, 1) := by decide +kernel
theorem dX9_builtIn_165 : decode cX9_builtIn 165 = .ok (.getfield 65, 3) := by decide +kernel
theorem dX9_builtIn_168 : decode cX9_builtIn 168 = .ok (.iconst 0, 1) := by decide +kernel
theorem dX9_builtIn_169 : decode cX9_builtIn 169 = .ok (.iaload, 1) := by decide +kernel
theorem dX9_builtIn_170 : decode cX9_builtIn 170 = .ok (.iaload, 1) := by decide +kernel
theorem dX9_builtIn_171 : decode cX9_builtIn 171 = .ok (.ireturn, 1) := by decide +kernel
theorem dX9_go_0 : decode cX9_go 0 = .ok (.iload_n 1, 1) := by decide +kernel
theorem dX9_go_1 : decode cX9_go 1 = .ok (.invokestatic 140, 3) := by decide +kernel
theorem dX9_go_4 : decode cX9_go 4 = .ok (.ifCond .eq 69, 3) := by decide +kernel
theorem dX9_go_7 : decode cX9_go 7 = .ok (.aload_n 0, 1) := by decide +kernel
theorem dX9_go_8 : decode cX9_go 8 = .ok (.getfield 19, 3) := by decide +kernel
theorem dX9_go_11 : decode cX9_go 11 = .ok (.iload_n 1, 1) := by decide +kernel
theorem dX9_go_12 : decode cX9_go 12 = .ok (.iconst 4, 1) := by decide +kernel
theorem dX9_go_13 : decode cX9_go 13 = .ok (.idiv, 1) := by decide +kernel
theorem dX9_go_14 : decode cX9_go 14 = .ok (.iaload, 1) := by decide +kernel
theorem dX9_go_15 : decode cX9_go 15 = .ok (.ifCond .eq 58, 3) := by decide +kernel
theorem dX9_go_18 : decode cX9_go 18 = .ok (.aload_n 0, 1) := by decide +kernel
theorem dX9_go_19 : decode cX9_go 19 = .ok (.invokevirtual 176, 3) := by decide +kernel
theorem dX9_go_22 : decode cX9_go 22 = .ok (.ifCond .eq 50, 3) := by decide +kernel
theorem dX9_go_25 : decode cX9_go 25 = .ok (.aload_n 0, 1) := by decide +kernel
theorem dX9_go_26 : decode cX9_go 26 = .ok (.aload_n 0, 1) := by decide +kernel
theorem dX9_go_27 : decode cX9_go 27 = .ok (.getfield 19, 3) := by decide +kernel
theorem dX9_go_30 : decode cX9_go 30 = .ok (.iload_n 1, 1) := by decide +kernel
theorem dX9_go_31 : decode cX9_go 31 = .ok (.iconst 4, 1) := by decide +kernel
theorem dX9_go_32 : decode cX9_go 32 = .ok (.idiv, 1) := by decide +kernel
theorem dX9_go_33 : decode cX9_go 33 = .ok (.iaload, 1) := by decide +kernel
theorem dX9_go_34 : decode cX9_go 34 = .ok (.invokevirtual 180, 3) := by decide +kernel
theorem dX9_go_37 : decode cX9_go 37 = .ok (.istore_n 3, 1) := by decide +kernel
theorem dX9_go_38 : decode cX9_go 38 = .ok (.aload_n 0, 1) := by decide +kernel
theorem dX9_go_39 : decode cX9_go 39 = .ok (.getfield 152, 3) := by decide +kernel
theorem dX9_go_42 : decode cX9_go 42 = .ok (.ifCond .ne 14, 3) := by decide +kernel
theorem dX9_go_45 : decode cX9_go 45 = .ok (.iload_n 2, 1) := by decide +kernel
theorem dX9_go_46 : decode cX9_go 46 = .ok (.iconst (-1), 1) := by decide +kernel
theorem dX9_go_47 : decode cX9_go 47 = .ok (.if_icmp .eq 9, 3) := by decide +kernel
theorem dX9_go_50 : decode cX9_go 50 = .ok (.aload_n 0, 1) := by decide +kernel
theorem dX9_go_51 : decode cX9_go 51 = .ok (.iload_n 2, 1) := by decide +kernel
theorem dX9_go_52 : decode cX9_go 52 = .ok (.iload_n 3, 1) := by decide +kernel
theorem dX9_go_53 : decode cX9_go 53 = .ok (.invokevirtual 183, 3) := by decide +kernel
theorem dX9_go_56 : decode cX9_go 56 = .ok (.aload_n 0, 1) := by decide +kernel
theorem dX9_go_57 : decode cX9_go 57 = .ok (.aload_n 0, 1) := by decide +kernel
theorem dX9_go_58 : decode cX9_go 58 = .ok (.getfield 152, 3) := by decide +kernel
theorem dX9_go_61 : decode cX9_go 61 = .ok (.ifCond .ne 7, 3) := by decide +kernel
theorem dX9_go_64 : decode cX9_go 64 = .ok (.iload_n 3, 1) := by decide +kernel
theorem dX9_go_65 : decode cX9_go 65 = .ok (.goto 4, 3) := by decide +kernel
theorem dX9_go_68 : decode cX9_go 68 = .ok (.iconst 0, 1) := by decide +kernel
theorem dX9_go_69 : decode cX9_go 69 = .ok (.putfield 186, 3) := by decide +kernel
theorem dX9_go_72 : decode cX9_go 72 = .ok (.return_, 1) := by decide +kernel
theorem dX9_go_73 : decode cX9_go 73 = .ok (.aload_n 0, 1) := by decide +kernel
theorem dX9_go_74 : decode cX9_go 74 = .ok (.getfield 161, 3) := by decide +kernel
theorem dX9_go_77 : decode cX9_go 77 = .ok (.bipush 12, 2) := by decide +kernel
theorem dX9_go_79 : decode cX9_go 79 = .ok (.if_icmp .ne 9, 3) := by decide +kernel
theorem dX9_go_82 : decode cX9_go 82 = .ok (.aload_n 0, 1) := by decide +kernel
theorem dX9_go_83 : decode cX9_go 83 = .ok (.iconst 4, 1) := by decide +kernel
theorem dX9_go_84 : decode cX9_go 84 = .ok (.invokevirtual 167, 3) := by decide +kernel
theorem dX9_go_87 : decode cX9_go 87 = .ok (.return_, 1) := by decide +kernel
theorem dX9_go_88 : decode cX9_go 88 = .ok (.iload_n 1, 1) := by decide +kernel
theorem dX9_go_89 : decode cX9_go 89 = .ok (.invokestatic 140, 3) := by decide +kernel
theorem dX9_go_92 : decode cX9_go 92 = .ok (.ifCond .eq 14, 3) := by decide +kernel
theorem dX9_go_95 : decode cX9_go 95 = .ok (.aload_n 0, 1) := by decide +kernel
theorem dX9_go_96 : decode cX9_go 96 = .ok (.getfield 7, 3) := by decide +kernel
theorem dX9_go_99 : decode cX9_go 99 = .ok (.iload_n 1, 1) := by decide +kernel
theorem dX9_go_100 : decode cX9_go 100 = .ok (.iaload, 1) := by decide +kernel
theorem dX9_go_101 : decode cX9_go 101 = .ok (.bipush 8, 2) := by decide +kernel
theorem dX9_go_103 : decode cX9_go 103 = .ok (.if_icmp .le 9, 3) := by decide +kernel
theorem dX9_go_106 : decode cX9_go 106 = .ok (.aload_n 0, 1) := by decide +kernel
theorem dX9_go_107 : decode cX9_go 107 = .ok (.iconst 3, 1) := by decide +kernel
theorem dX9_go_108 : decode cX9_go 108 = .ok (.invokevirtual 167, 3) := by decide +kernel
theorem dX9_go_111 : decode cX9_go 111 = .ok (.return_, 1) := by decide +kernel
theorem dX9_go_112 : decode cX9_go 112 = .ok (.aload_n 0, 1) := by decide +kernel
theorem dX9_go_113 : decode cX9_go 113 = .ok (.getfield 44, 3) := by decide +kernel
theorem dX9_go_116 : decode cX9_go 116 = .ok (.aload_n 0, 1) := by decide +kernel
theorem dX9_go_117 : decode cX9_go 117 = .ok (.getfield 161, 3) := by decide +kernel
theorem dX9_go_120 : decode cX9_go 120 = .ok (.iload_n 1, 1) := by decide +kernel
theorem dX9_go_121 : decode cX9_go 121 = .ok (.iastore, 1) := by decide +kernel
theorem dX9_go_122 : decode cX9_go 122 = .ok (.aload_n 0, 1) := by decide +kernel
theorem dX9_go_123 : decode cX9_go 123 = .ok (.getfield 47, 3) := by decide +kernel
theorem dX9_go_126 : decode cX9_go 126 = .ok (.aload_n 0, 1) := by decide +kernel
theorem dX9_go_127 : decode cX9_go 127 = .ok (.getfield 161, 3) := by decide +kernel
theorem dX9_go_130 : decode cX9_go 130 = .ok (.iload_n 1, 1) := by decide +kernel
theorem dX9_go_131 : decode cX9_go 131 = .ok (.iconst 1, 1) := by decide +kernel
theorem dX9_go_132 : decode cX9_go 132 = .ok (.iadd, 1) := by decide +kernel
theorem dX9_go_133 : decode cX9_go 133 = .ok (.iastore, 1) := by decide +kernel
theorem dX9_go_134 : decode cX9_go 134 = .ok (.aload_n 0, 1) := by decide +kernel
theorem dX9_go_135 : decode cX9_go 135 = .ok (.getfield 50, 3) := by decide +kernel
theorem dX9_go_138 : decode cX9_go 138 = .ok (.aload_n 0, 1) := by decide +kernel
theorem dX9_go_139 : decode cX9_go 139 = .ok (.getfield 161, 3) := by decide +kernel
theorem dX9_go_142 : decode cX9_go 142 = .ok (.aload_n 0, 1) := by decide +kernel
theorem dX9_go_143 : decode cX9_go 143 = .ok (.getfield 7, 3) := by decide +kernel
theorem dX9_go_146 : decode cX9_go 146 = .ok (.iload_n 1, 1) := by decide +kernel
theorem dX9_go_147 : decode cX9_go 147 = .ok (.iaload, 1) := by decide +kernel
theorem dX9_go_148 : decode cX9_go 148 = .ok (.iastore, 1) := by decide +kernel
theorem dX9_go_149 : decode cX9_go 149 = .ok (.aload_n 0, 1) := by decide +kernel
theorem dX9_go_150 : decode cX9_go 150 = .ok (.getfield 53, 3) := by decide +kernel
theorem dX9_go_153 : decode cX9_go 153 = .ok (.aload_n 0, 1) := by decide +kernel
theorem dX9_go_154 : decode cX9_go 154 = .ok (.getfield 161, 3) := by decide +kernel
theorem dX9_go_157 : decode cX9_go 157 = .ok (.iconst 0, 1) := by decide +kernel
theorem dX9_go_158 : decode cX9_go 158 = .ok (.iastore, 1) := by decide +kernel
theorem dX9_go_159 : decode cX9_go 159 = .ok (.aload_n 0, 1) := by decide +kernel
theorem dX9_go_160 : decode cX9_go 160 = .ok (.getfield 56, 3) := by decide +kernel
theorem dX9_go_163 : decode cX9_go 163 = .ok (.aload_n 0, 1) := by decide +kernel
theorem dX9_go_164 : decode cX9_go 164 = .ok (.getfield 161, 3) := by decide +kernel
theorem dX9_go_167 : decode cX9_go 167 = .ok (.iload_n 2, 1) := by decide +kernel
theorem dX9_go_168 : decode cX9_go 168 = .ok (.iastore, 1) := by decide +kernel
theorem dX9_go_169 : decode cX9_go 169 = .ok (.aload_n 0, 1) := by decide +kernel
theorem dX9_go_170 : decode cX9_go 170 = .ok (.getfield 189, 3) := by decide +kernel
theorem dX9_go_173 : decode cX9_go 173 = .ok (.ifCond .eq 11, 3) := by decide +kernel
theorem dX9_go_176 : decode cX9_go 176 = .ok (.aload_n 0, 1) := by decide +kernel
theorem dX9_go_177 : decode cX9_go 177 = .ok (.iload_n 1, 1) := by decide +kernel
theorem dX9_go_178 : decode cX9_go 178 = .ok (.invokevirtual 146, 3) := by decide +kernel
theorem dX9_go_181 : decode cX9_go 181 = .ok (.goto 4, 3) := by decide +kernel
theorem dX9_go_184 : decode cX9_go 184 = .ok (.iconst (-1), 1) := by decide +kernel
theorem dX9_go_185 : decode cX9_go 185 = .ok (.istore_n 3, 1) := by decide +kernel
theorem dX9_go_186 : decode cX9_go 186 = .ok (.aload_n 0, 1) := by decide +kernel
theorem dX9_go_187 : decode cX9_go 187 = .ok (.getfield 59, 3) := by decide +kernel
theorem dX9_go_190 : decode cX9_go 190 = .ok (.aload_n 0, 1) := by decide +kernel
theorem dX9_go_191 : decode cX9_go 191 = .ok (.getfield 161, 3) := by decide +kernel
theorem dX9_go_194 : decode cX9_go 194 = .ok (.iload_n 3, 1) := by decide +kernel
theorem dX9_go_195 : decode cX9_go 195 = .ok (.iconst (-1), 1) := by decide +kernel
theorem dX9_go_196 : decode cX9_go 196 = .ok (.if_icmp .ne 7, 3) := by decide +kernel
theorem dX9_go_199 : decode cX9_go 199 = .ok (.iconst (-1), 1) := by decide +kernel
theorem dX9_go_200 : decode cX9_go 200 = .ok (.goto 9, 3) := by decide +kernel
theorem dX9_go_203 : decode cX9_go 203 = .ok (.aload_n 0, 1) := by decide +kernel
theorem dX9_go_204 : decode cX9_go 204 = .ok (.getfield 28, 3) := by decide +kernel
theorem dX9_go_207 : decode cX9_go 207 = .ok (.iload_n 3, 1) := by decide +kernel
theorem dX9_go_208 : decode cX9_go 208 = .ok (.iaload, 1) := by decide +kernel
theorem dX9_go_209 : decode cX9_go 209 = .ok (.iastore, 1) := by decide +kernel
theorem dX9_go_210 : decode cX9_go 210 = .ok (.iconst 0, 1) := by decide +kernel
theorem dX9_go_211 : decode cX9_go 211 = .ok (.istore 4, 2) := by decide +kernel
theorem dX9_go_213 : decode cX9_go 213 = .ok (.iload 4, 2) := by decide +kernel
theorem dX9_go_215 : decode cX9_go 215 = .ok (.bipush 8, 2) := by decide +kernel
theorem dX9_go_217 : decode cX9_go 217 = .ok (.if_icmp .ge 55, 3) := by decide +kernel
theorem dX9_go_220 : decode cX9_go 220 = .ok (.aload_n 0, 1) := by decide +kernel
theorem dX9_go_221 : decode cX9_go 221 = .ok (.getfield 62, 3) := by decide +kernel
theorem dX9_go_224 : decode cX9_go 224 = .ok (.bipush 8, 2) := by decide +kernel
theorem dX9_go_226 : decode cX9_go 226 = .ok (.aload_n 0, 1) := by decide +kernel
theorem dX9_go_227 : decode cX9_go 227 = .ok (.getfield 161, 3) := by decide +kernel
theorem dX9_go_230 : decode cX9_go 230 = .ok (.imul, 1) := by decide +kernel
theorem dX9_go_231 : decode cX9_go 231 = .ok (.iload 4, 2) := by decide +kernel
theorem dX9_go_233 : decode cX9_go 233 = .ok (.iadd, 1) := by decide +kernel
theorem dX9_go_234 : decode cX9_go 234 = .ok (.iload 4, 2) := by decide +kernel
theorem dX9_go_236 : decode cX9_go 236 = .ok (.aload_n 0, 1) := by decide +kernel
theorem dX9_go_237 : decode cX9_go 237 = .ok (.getfield 173, 3) := by decide +kernel
theorem dX9_go_240 : decode cX9_go 240 = .ok (.if_icmp .ge 24, 3) := by decide +kernel
theorem dX9_go_243 : decode cX9_go 243 = .ok (.iload 4, 2) := by decide +kernel
theorem dX9_go_245 : decode cX9_go 245 = .ok (.aload_n 0, 1) := by decide +kernel
theorem dX9_go_246 : decode cX9_go 246 = .ok (.getfield 7, 3) := by decide +kernel
theorem dX9_go_249 : decode cX9_go 249 = .ok (.iload_n 1, 1) := by decide +kernel
theorem dX9_go_250 : decode cX9_go 250 = .ok (.iaload, 1) := by decide +kernel
theorem dX9_go_251 : decode cX9_go 251 = .ok (.if_icmp .ge 13, 3) := by decide +kernel
theorem dX9_go_254 : decode cX9_go 254 = .ok (.aload_n 0, 1) := by decide +kernel
theorem dX9_go_255 : decode cX9_go 255 = .ok (.getfield 65, 3) := by decide +kernel
theorem dX9_go_258 : decode cX9_go 258 = .ok (.iload 4, 2) := by decide +kernel
theorem dX9_go_260 : decode cX9_go 260 = .ok (.iaload, 1) := by decide +kernel
theorem dX9_go_261 : decode cX9_go 261 = .ok (.goto 4, 3) := by decide +kernel
theorem dX9_go_264 : decode cX9_go 264 = .ok (.iconst 0, 1) := by decide +kernel
theorem dX9_go_265 : decode cX9_go 265 = .ok (.iastore, 1) := by decide +kernel
theorem dX9_go_266 : decode cX9_go 266 = .ok (.iinc 4 1, 3) := by decide +kernel
theorem dX9_go_269 : decode cX9_go 269 = .ok (.goto (-56), 3) := by decide +kernel
theorem dX9_go_272 : decode cX9_go 272 = .ok (.aload_n 0, 1) := by decide +kernel
theorem dX9_go_273 : decode cX9_go 273 = .ok (.dup, 1) := by decide +kernel
theorem dX9_go_274 : decode cX9_go 274 = .ok (.getfield 161, 3) := by decide +kernel
theorem dX9_go_277 : decode cX9_go 277 = .ok (.iconst 1, 1) := by decide +kernel
theorem dX9_go_278 : decode cX9_go 278 = .ok (.iadd, 1) := by decide +kernel
theorem dX9_go_279 : decode cX9_go 279 = .ok (.putfield 161, 3) := by decide +kernel
theorem dX9_go_282 : decode cX9_go 282 = .ok (.aload_n 0, 1) := by decide +kernel
theorem dX9_go_283 : decode cX9_go 283 = .ok (.dup, 1) := by decide +kernel
theorem dX9_go_284 : decode cX9_go 284 = .ok (.getfield 193, 3) := by decide +kernel
theorem dX9_go_287 : decode cX9_go 287 = .ok (.iconst 1, 1) := by decide +kernel
theorem dX9_go_288 : decode cX9_go 288 = .ok (.iadd, 1) := by decide +kernel
theorem dX9_go_289 : decode cX9_go 289 = .ok (.putfield 193, 3) := by decide +kernel
theorem dX9_go_292 : decode cX9_go 292 = .ok (.aload_n 0, 1) := by decide +kernel
theorem dX9_go_293 : decode cX9_go 293 = .ok (.dup, 1) := by decide +kernel
theorem dX9_go_294 : decode cX9_go 294 = .ok (.getfield 196, 3) := by decide +kernel
theorem dX9_go_297 : decode cX9_go 297 = .ok (.iload_n 3, 1) := by decide +kernel
theorem dX9_go_298 : decode cX9_go 298 = .ok (.iconst (-1), 1) := by decide +kernel
theorem dX9_go_299 : decode cX9_go 299 = .ok (.if_icmp .ne 7, 3) := by decide +kernel
theorem dX9_go_302 : decode cX9_go 302 = .ok (.iconst 0, 1) := by decide +kernel
theorem dX9_go_303 : decode cX9_go 303 = .ok (.goto 4, 3) := by decide +kernel
theorem dX9_go_306 : decode cX9_go 306 = .ok (.iconst 1, 1) := by decide +kernel
theorem dX9_go_307 : decode cX9_go 307 = .ok (.iadd, 1) := by decide +kernel
theorem dX9_go_308 : decode cX9_go 308 = .ok (.putfield 196, 3) := by decide +kernel
theorem dX9_go_311 : decode cX9_go 311 = .ok (.return_, 1) := by decide +kernel
theorem dX9_isMade_0 : decode cX9_isMade 0 = .ok (.iconst 0, 1) := by decide +kernel
theorem dX9_isMade_1 : decode cX9_isMade 1 = .ok (.istore_n 1, 1) := by decide +kernel
theorem dX9_isMade_2 : decode cX9_isMade 2 = .ok (.iload_n 1, 1) := by decide +kernel
theorem dX9_isMade_3 : decode cX9_isMade 3 = .ok (.aload_n 0, 1) := by decide +kernel
theorem dX9_isMade_4 : decode cX9_isMade 4 = .ok (.getfield 80, 3) := by decide +kernel
theorem dX9_isMade_7 : decode cX9_isMade 7 = .ok (.if_icmp .ge 31, 3) := by decide +kernel
theorem dX9_isMade_10 : decode cX9_isMade 10 = .ok (.aload_n 0, 1) := by decide +kernel
theorem dX9_isMade_11 : decode cX9_isMade 11 = .ok (.getfield 28, 3) := by decide +kernel
theorem dX9_isMade_14 : decode cX9_isMade 14 = .ok (.iload_n 1, 1) := by decide +kernel
theorem dX9_isMade_15 : decode cX9_isMade 15 = .ok (.iaload, 1) := by decide +kernel
theorem dX9_isMade_16 : decode cX9_isMade 16 = .ok (.aload_n 0, 1) := by decide +kernel
theorem dX9_isMade_17 : decode cX9_isMade 17 = .ok (.getfield 59, 3) := by decide +kernel
theorem dX9_isMade_20 : decode cX9_isMade 20 = .ok (.aload_n 0, 1) := by decide +kernel
theorem dX9_isMade_21 : decode cX9_isMade 21 = .ok (.getfield 161, 3) := by decide +kernel
theorem dX9_isMade_24 : decode cX9_isMade 24 = .ok (.iconst 1, 1) := by decide +kernel
theorem dX9_isMade_25 : decode cX9_isMade 25 = .ok (.isub, 1) := by decide +kernel
theorem dX9_isMade_26 : decode cX9_isMade 26 = .ok (.iaload, 1) := by decide +kernel
theorem dX9_isMade_27 : decode cX9_isMade 27 = .ok (.if_icmp .ne 5, 3) := by decide +kernel
theorem dX9_isMade_30 : decode cX9_isMade 30 = .ok (.iconst 1, 1) := by decide +kernel
theorem dX9_isMade_31 : decode cX9_isMade 31 = .ok (.ireturn, 1) := by decide +kernel
theorem dX9_isMade_32 : decode cX9_isMade 32 = .ok (.iinc 1 1, 3) := by decide +kernel
theorem dX9_isMade_35 : decode cX9_isMade 35 = .ok (.goto (-33), 3) := by decide +kernel
theorem dX9_isMade_38 : decode cX9_isMade 38 = .ok (.iconst 0, 1) := by decide +kernel
theorem dX9_isMade_39 : decode cX9_isMade 39 = .ok (.ireturn, 1) := by decide +kernel
theorem dX9_ends_0 : decode cX9_ends 0 = .ok (.aload_n 0, 1) := by decide +kernel
theorem dX9_ends_1 : decode cX9_ends 1 = .ok (.getfield 56, 3) := by decide +kernel
theorem dX9_ends_4 : decode cX9_ends 4 = .ok (.aload_n 0, 1) := by decide +kernel
theorem dX9_ends_5 : decode cX9_ends 5 = .ok (.getfield 161, 3) := by decide +kernel
theorem dX9_ends_8 : decode cX9_ends 8 = .ok (.iconst 1, 1) := by decide +kernel
theorem dX9_ends_9 : decode cX9_ends 9 = .ok (.isub, 1) := by decide +kernel
theorem dX9_ends_10 : decode cX9_ends 10 = .ok (.iaload, 1) := by decide +kernel
theorem dX9_ends_11 : decode cX9_ends 11 = .ok (.istore_n 2, 1) := by decide +kernel
theorem dX9_ends_12 : decode cX9_ends 12 = .ok (.aload_n 0, 1) := by decide +kernel
theorem dX9_ends_13 : decode cX9_ends 13 = .ok (.dup, 1) := by decide +kernel
theorem dX9_ends_14 : decode cX9_ends 14 = .ok (.getfield 161, 3) := by decide +kernel
theorem dX9_ends_17 : decode cX9_ends 17 = .ok (.iconst 1, 1) := by decide +kernel
theorem dX9_ends_18 : decode cX9_ends 18 = .ok (.isub, 1) := by decide +kernel
theorem dX9_ends_19 : decode cX9_ends 19 = .ok (.putfield 161, 3) := by decide +kernel
theorem dX9_ends_22 : decode cX9_ends 22 = .ok (.aload_n 0, 1) := by decide +kernel
theorem dX9_ends_23 : decode cX9_ends 23 = .ok (.getfield 161, 3) := by decide +kernel
theorem dX9_ends_26 : decode cX9_ends 26 = .ok (.ifCond .ne 11, 3) := by decide +kernel
theorem dX9_ends_29 : decode cX9_ends 29 = .ok (.aload_n 0, 1) := by decide +kernel
theorem dX9_ends_30 : decode cX9_ends 30 = .ok (.iload_n 1, 1) := by decide +kernel
theorem dX9_ends_31 : decode cX9_ends 31 = .ok (.putfield 186, 3) := by decide +kernel
theorem dX9_ends_34 : decode cX9_ends 34 = .ok (.goto 9, 3) := by decide +kernel
theorem dX9_ends_37 : decode cX9_ends 37 = .ok (.aload_n 0, 1) := by decide +kernel
theorem dX9_ends_38 : decode cX9_ends 38 = .ok (.iload_n 2, 1) := by decide +kernel
theorem dX9_ends_39 : decode cX9_ends 39 = .ok (.iload_n 1, 1) := by decide +kernel
theorem dX9_ends_40 : decode cX9_ends 40 = .ok (.invokevirtual 183, 3) := by decide +kernel
theorem dX9_ends_43 : decode cX9_ends 43 = .ok (.return_, 1) := by decide +kernel
theorem dX9_throwing_0 : decode cX9_throwing 0 = .ok (.aload_n 0, 1) := by decide +kernel
theorem dX9_throwing_1 : decode cX9_throwing 1 = .ok (.dup, 1) := by decide +kernel
theorem dX9_throwing_2 : decode cX9_throwing 2 = .ok (.getfield 161, 3) := by decide +kernel
theorem dX9_throwing_5 : decode cX9_throwing 5 = .ok (.iconst 1, 1) := by decide +kernel
theorem dX9_throwing_6 : decode cX9_throwing 6 = .ok (.isub, 1) := by decide +kernel
theorem dX9_throwing_7 : decode cX9_throwing 7 = .ok (.putfield 161, 3) := by decide +kernel
theorem dX9_throwing_10 : decode cX9_throwing 10 = .ok (.aload_n 0, 1) := by decide +kernel
theorem dX9_throwing_11 : decode cX9_throwing 11 = .ok (.getfield 161, 3) := by decide +kernel
theorem dX9_throwing_14 : decode cX9_throwing 14 = .ok (.ifCond .le 30, 3) := by decide +kernel
theorem dX9_throwing_17 : decode cX9_throwing 17 = .ok (.aload_n 0, 1) := by decide +kernel
theorem dX9_throwing_18 : decode cX9_throwing 18 = .ok (.getfield 53, 3) := by decide +kernel
theorem dX9_throwing_21 : decode cX9_throwing 21 = .ok (.aload_n 0, 1) := by decide +kernel
theorem dX9_throwing_22 : decode cX9_throwing 22 = .ok (.getfield 161, 3) := by decide +kernel
theorem dX9_throwing_25 : decode cX9_throwing 25 = .ok (.iconst 1, 1) := by decide +kernel
theorem dX9_throwing_26 : decode cX9_throwing 26 = .ok (.isub, 1) := by decide +kernel
theorem dX9_throwing_27 : decode cX9_throwing 27 = .ok (.iaload, 1) := by decide +kernel
theorem dX9_throwing_28 : decode cX9_throwing 28 = .ok (.ifCond .ne 16, 3) := by decide +kernel
theorem dX9_throwing_31 : decode cX9_throwing 31 = .ok (.aload_n 0, 1) := by decide +kernel
theorem dX9_throwing_32 : decode cX9_throwing 32 = .ok (.dup, 1) := by decide +kernel
theorem dX9_throwing_33 : decode cX9_throwing 33 = .ok (.getfield 161, 3) := by decide +kernel
theorem dX9_throwing_36 : decode cX9_throwing 36 = .ok (.iconst 1, 1) := by decide +kernel
theorem dX9_throwing_37 : decode cX9_throwing 37 = .ok (.isub, 1) := by decide +kernel
theorem dX9_throwing_38 : decode cX9_throwing 38 = .ok (.putfield 161, 3) := by decide +kernel
theorem dX9_throwing_41 : decode cX9_throwing 41 = .ok (.goto (-31), 3) := by decide +kernel
theorem dX9_throwing_44 : decode cX9_throwing 44 = .ok (.aload_n 0, 1) := by decide +kernel
theorem dX9_throwing_45 : decode cX9_throwing 45 = .ok (.getfield 161, 3) := by decide +kernel
theorem dX9_throwing_48 : decode cX9_throwing 48 = .ok (.ifCond .ne 15, 3) := by decide +kernel
theorem dX9_throwing_51 : decode cX9_throwing 51 = .ok (.aload_n 0, 1) := by decide +kernel
theorem dX9_throwing_52 : decode cX9_throwing 52 = .ok (.bipush 6, 2) := by decide +kernel
theorem dX9_throwing_54 : decode cX9_throwing 54 = .ok (.invokevirtual 167, 3) := by decide +kernel
theorem dX9_throwing_57 : decode cX9_throwing 57 = .ok (.aload_n 0, 1) := by decide +kernel
theorem dX9_throwing_58 : decode cX9_throwing 58 = .ok (.iload_n 1, 1) := by decide +kernel
theorem dX9_throwing_59 : decode cX9_throwing 59 = .ok (.putfield 199, 3) := by decide +kernel
theorem dX9_throwing_62 : decode cX9_throwing 62 = .ok (.return_, 1) := by decide +kernel
theorem dX9_throwing_63 : decode cX9_throwing 63 = .ok (.aload_n 0, 1) := by decide +kernel
theorem dX9_throwing_64 : decode cX9_throwing 64 = .ok (.dup, 1) := by decide +kernel
theorem dX9_throwing_65 : decode cX9_throwing 65 = .ok (.getfield 202, 3) := by decide +kernel
theorem dX9_throwing_68 : decode cX9_throwing 68 = .ok (.iconst 1, 1) := by decide +kernel
theorem dX9_throwing_69 : decode cX9_throwing 69 = .ok (.iadd, 1) := by decide +kernel
theorem dX9_throwing_70 : decode cX9_throwing 70 = .ok (.putfield 202, 3) := by decide +kernel
theorem dX9_throwing_73 : decode cX9_throwing 73 = .ok (.aload_n 0, 1) := by decide +kernel
theorem dX9_throwing_74 : decode cX9_throwing 74 = .ok (.getfield 13, 3) := by decide +kernel
theorem dX9_throwing_77 : decode cX9_throwing 77 = .ok (.bipush 7, 2) := by decide +kernel
theorem dX9_throwing_79 : decode cX9_throwing 79 = .ok (.iload_n 1, 1) := by decide +kernel
theorem dX9_throwing_80 : decode cX9_throwing 80 = .ok (.iastore, 1) := by decide +kernel
theorem dX9_throwing_81 : decode cX9_throwing 81 = .ok (.aload_n 0, 1) := by decide +kernel
theorem dX9_throwing_82 : decode cX9_throwing 82 = .ok (.getfield 47, 3) := by decide +kernel
theorem dX9_throwing_85 : decode cX9_throwing 85 = .ok (.aload_n 0, 1) := by decide +kernel
theorem dX9_throwing_86 : decode cX9_throwing 86 = .ok (.getfield 161, 3) := by decide +kernel
theorem dX9_throwing_89 : decode cX9_throwing 89 = .ok (.iconst 1, 1) := by decide +kernel
theorem dX9_throwing_90 : decode cX9_throwing 90 = .ok (.isub, 1) := by decide +kernel
theorem dX9_throwing_91 : decode cX9_throwing 91 = .ok (.aload_n 0, 1) := by decide +kernel
theorem dX9_throwing_92 : decode cX9_throwing 92 = .ok (.getfield 44, 3) := by decide +kernel
theorem dX9_throwing_95 : decode cX9_throwing 95 = .ok (.aload_n 0, 1) := by decide +kernel
theorem dX9_throwing_96 : decode cX9_throwing 96 = .ok (.getfield 161, 3) := by decide +kernel
theorem dX9_throwing_99 : decode cX9_throwing 99 = .ok (.iconst 1, 1) := by decide +kernel
theorem dX9_throwing_100 : decode cX9_throwing 100 = .ok (.isub, 1) := by decide +kernel
theorem dX9_throwing_101 : decode cX9_throwing 101 = .ok (.iaload, 1) := by decide +kernel
theorem dX9_throwing_102 : decode cX9_throwing 102 = .ok (.aload_n 0, 1) := by decide +kernel
theorem dX9_throwing_103 : decode cX9_throwing 103 = .ok (.getfield 53, 3) := by decide +kernel
theorem dX9_throwing_106 : decode cX9_throwing 106 = .ok (.aload_n 0, 1) := by decide +kernel
theorem dX9_throwing_107 : decode cX9_throwing 107 = .ok (.getfield 161, 3) := by decide +kernel
theorem dX9_throwing_110 : decode cX9_throwing 110 = .ok (.iconst 1, 1) := by decide +kernel
theorem dX9_throwing_111 : decode cX9_throwing 111 = .ok (.isub, 1) := by decide +kernel
