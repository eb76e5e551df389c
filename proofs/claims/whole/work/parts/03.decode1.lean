theorem dX0_isCode_0 : decode cX0_isCode 0 = .ok (.iload_n 0, 1) := by decide +kernel
theorem dX0_isCode_1 : decode cX0_isCode 1 = .ok (.ifCond .lt 13, 3) := by decide +kernel
theorem dX0_isCode_4 : decode cX0_isCode 4 = .ok (.iload_n 0, 1) := by decide +kernel
theorem dX0_isCode_5 : decode cX0_isCode 5 = .ok (.bipush 15, 2) := by decide +kernel
theorem dX0_isCode_7 : decode cX0_isCode 7 = .ok (.if_icmp .gt 7, 3) := by decide +kernel
theorem dX0_isCode_10 : decode cX0_isCode 10 = .ok (.iconst 1, 1) := by decide +kernel
theorem dX0_isCode_11 : decode cX0_isCode 11 = .ok (.goto 4, 3) := by decide +kernel
theorem dX0_isCode_14 : decode cX0_isCode 14 = .ok (.iconst 0, 1) := by decide +kernel
theorem dX0_isCode_15 : decode cX0_isCode 15 = .ok (.ireturn, 1) := by decide +kernel
theorem dX0_formOf_0 : decode cX0_formOf 0 = .ok (.iload_n 0, 1) := by decide +kernel
theorem dX0_formOf_1 : decode cX0_formOf 1 = .ok (.invokestatic 11, 3) := by decide +kernel
theorem dX0_formOf_4 : decode cX0_formOf 4 = .ok (.ifCond .eq 11, 3) := by decide +kernel
theorem dX0_formOf_7 : decode cX0_formOf 7 = .ok (.getstatic 15, 3) := by decide +kernel
theorem dX0_formOf_10 : decode cX0_formOf 10 = .ok (.iload_n 0, 1) := by decide +kernel
theorem dX0_formOf_11 : decode cX0_formOf 11 = .ok (.iaload, 1) := by decide +kernel
theorem dX0_formOf_12 : decode cX0_formOf 12 = .ok (.goto 4, 3) := by decide +kernel
theorem dX0_formOf_15 : decode cX0_formOf 15 = .ok (.iconst 0, 1) := by decide +kernel
theorem dX0_formOf_16 : decode cX0_formOf 16 = .ok (.ireturn, 1) := by decide +kernel
theorem dX0_formBehind_0 : decode cX0_formBehind 0 = .ok (.iload_n 0, 1) := by decide +kernel
theorem dX0_formBehind_1 : decode cX0_formBehind 1 = .ok (.bipush 15, 2) := by decide +kernel
theorem dX0_formBehind_3 : decode cX0_formBehind 3 = .ok (.iand, 1) := by decide +kernel
theorem dX0_formBehind_4 : decode cX0_formBehind 4 = .ok (.iconst 4, 1) := by decide +kernel
theorem dX0_formBehind_5 : decode cX0_formBehind 5 = .ok (.if_icmp .ne 15, 3) := by decide +kernel
theorem dX0_formBehind_8 : decode cX0_formBehind 8 = .ok (.sipush 4369, 3) := by decide +kernel
theorem dX0_formBehind_11 : decode cX0_formBehind 11 = .ok (.iconst 4, 1) := by decide +kernel
theorem dX0_formBehind_12 : decode cX0_formBehind 12 = .ok (.iconst 4, 1) := by decide +kernel
theorem dX0_formBehind_13 : decode cX0_formBehind 13 = .ok (.iload_n 1, 1) := by decide +kernel
theorem dX0_formBehind_14 : decode cX0_formBehind 14 = .ok (.isub, 1) := by decide +kernel
theorem dX0_formBehind_15 : decode cX0_formBehind 15 = .ok (.imul, 1) := by decide +kernel
theorem dX0_formBehind_16 : decode cX0_formBehind 16 = .ok (.ishr, 1) := by decide +kernel
theorem dX0_formBehind_17 : decode cX0_formBehind 17 = .ok (.goto 6, 3) := by decide +kernel
theorem dX0_formBehind_20 : decode cX0_formBehind 20 = .ok (.iload_n 0, 1) := by decide +kernel
theorem dX0_formBehind_21 : decode cX0_formBehind 21 = .ok (.iconst 4, 1) := by decide +kernel
theorem dX0_formBehind_22 : decode cX0_formBehind 22 = .ok (.ishr, 1) := by decide +kernel
theorem dX0_formBehind_23 : decode cX0_formBehind 23 = .ok (.ireturn, 1) := by decide +kernel
theorem dX0_fits_0 : decode cX0_fits 0 = .ok (.iload_n 0, 1) := by decide +kernel
theorem dX0_fits_1 : decode cX0_fits 1 = .ok (.bipush 15, 2) := by decide +kernel
theorem dX0_fits_3 : decode cX0_fits 3 = .ok (.iand, 1) := by decide +kernel
theorem dX0_fits_4 : decode cX0_fits 4 = .ok (.tableswitch 57 1 3 #[28, 49, 55], 28) := by decide +kernel
theorem dX0_fits_32 : decode cX0_fits 32 = .ok (.iload_n 1, 1) := by decide +kernel
theorem dX0_fits_33 : decode cX0_fits 33 = .ok (.sipush 128, 3) := by decide +kernel
theorem dX0_fits_36 : decode cX0_fits 36 = .ok (.if_icmp .lt 11, 3) := by decide +kernel
theorem dX0_fits_39 : decode cX0_fits 39 = .ok (.iload_n 1, 1) := by decide +kernel
theorem dX0_fits_40 : decode cX0_fits 40 = .ok (.iload_n 2, 1) := by decide +kernel
theorem dX0_fits_41 : decode cX0_fits 41 = .ok (.invokestatic 19, 3) := by decide +kernel
theorem dX0_fits_44 : decode cX0_fits 44 = .ok (.ifCond .eq 7, 3) := by decide +kernel
theorem dX0_fits_47 : decode cX0_fits 47 = .ok (.iconst 1, 1) := by decide +kernel
theorem dX0_fits_48 : decode cX0_fits 48 = .ok (.goto 4, 3) := by decide +kernel
theorem dX0_fits_51 : decode cX0_fits 51 = .ok (.iconst 0, 1) := by decide +kernel
theorem dX0_fits_52 : decode cX0_fits 52 = .ok (.ireturn, 1) := by decide +kernel
theorem dX0_fits_53 : decode cX0_fits 53 = .ok (.iload_n 1, 1) := by decide +kernel
theorem dX0_fits_54 : decode cX0_fits 54 = .ok (.iload_n 2, 1) := by decide +kernel
theorem dX0_fits_55 : decode cX0_fits 55 = .ok (.invokestatic 19, 3) := by decide +kernel
theorem dX0_fits_58 : decode cX0_fits 58 = .ok (.ireturn, 1) := by decide +kernel
theorem dX0_fits_59 : decode cX0_fits 59 = .ok (.iconst 1, 1) := by decide +kernel
theorem dX0_fits_60 : decode cX0_fits 60 = .ok (.ireturn, 1) := by decide +kernel
theorem dX0_fits_61 : decode cX0_fits 61 = .ok (.iload_n 1, 1) := by decide +kernel
theorem dX0_fits_62 : decode cX0_fits 62 = .ok (.iconst 4, 1) := by decide +kernel
theorem dX0_fits_63 : decode cX0_fits 63 = .ok (.if_icmp .gt 7, 3) := by decide +kernel
theorem dX0_fits_66 : decode cX0_fits 66 = .ok (.iconst 1, 1) := by decide +kernel
theorem dX0_fits_67 : decode cX0_fits 67 = .ok (.goto 4, 3) := by decide +kernel
theorem dX0_fits_70 : decode cX0_fits 70 = .ok (.iconst 0, 1) := by decide +kernel
theorem dX0_fits_71 : decode cX0_fits 71 = .ok (.ireturn, 1) := by decide +kernel
theorem dX0_isCell_0 : decode cX0_isCell 0 = .ok (.iload_n 0, 1) := by decide +kernel
theorem dX0_isCell_1 : decode cX0_isCell 1 = .ok (.sipush 128, 3) := by decide +kernel
theorem dX0_isCell_4 : decode cX0_isCell 4 = .ok (.if_icmp .lt 12, 3) := by decide +kernel
theorem dX0_isCell_7 : decode cX0_isCell 7 = .ok (.iload_n 0, 1) := by decide +kernel
theorem dX0_isCell_8 : decode cX0_isCell 8 = .ok (.sipush 128, 3) := by decide +kernel
theorem dX0_isCell_11 : decode cX0_isCell 11 = .ok (.iload_n 1, 1) := by decide +kernel
theorem dX0_isCell_12 : decode cX0_isCell 12 = .ok (.iadd, 1) := by decide +kernel
theorem dX0_isCell_13 : decode cX0_isCell 13 = .ok (.if_icmp .lt 17, 3) := by decide +kernel
theorem dX0_isCell_16 : decode cX0_isCell 16 = .ok (.iload_n 0, 1) := by decide +kernel
theorem dX0_isCell_17 : decode cX0_isCell 17 = .ok (.sipush 136, 3) := by decide +kernel
theorem dX0_isCell_20 : decode cX0_isCell 20 = .ok (.if_icmp .lt 14, 3) := by decide +kernel
theorem dX0_isCell_23 : decode cX0_isCell 23 = .ok (.iload_n 0, 1) := by decide +kernel
theorem dX0_isCell_24 : decode cX0_isCell 24 = .ok (.sipush 144, 3) := by decide +kernel
theorem dX0_isCell_27 : decode cX0_isCell 27 = .ok (.if_icmp .ge 7, 3) := by decide +kernel
theorem dX0_isCell_30 : decode cX0_isCell 30 = .ok (.iconst 1, 1) := by decide +kernel
theorem dX0_isCell_31 : decode cX0_isCell 31 = .ok (.goto 4, 3) := by decide +kernel
theorem dX0_isCell_34 : decode cX0_isCell 34 = .ok (.iconst 0, 1) := by decide +kernel
theorem dX0_isCell_35 : decode cX0_isCell 35 = .ok (.ireturn, 1) := by decide +kernel
theorem dX0_columnOfOffset_0 : decode cX0_columnOfOffset 0 = .ok (.iload_n 0, 1) := by decide +kernel
theorem dX0_columnOfOffset_1 : decode cX0_columnOfOffset 1 = .ok (.tableswitch 43 9 14 #[39, 41, 41, 43, 43, 39], 39) := by decide +kernel
theorem dX0_columnOfOffset_40 : decode cX0_columnOfOffset 40 = .ok (.iconst 1, 1) := by decide +kernel
theorem dX0_columnOfOffset_41 : decode cX0_columnOfOffset 41 = .ok (.ireturn, 1) := by decide +kernel
theorem dX0_columnOfOffset_42 : decode cX0_columnOfOffset 42 = .ok (.iconst 3, 1) := by decide +kernel
theorem dX0_columnOfOffset_43 : decode cX0_columnOfOffset 43 = .ok (.ireturn, 1) := by decide +kernel
theorem dX0_columnOfOffset_44 : decode cX0_columnOfOffset 44 = .ok (.iconst 0, 1) := by decide +kernel
theorem dX0_columnOfOffset_45 : decode cX0_columnOfOffset 45 = .ok (.ireturn, 1) := by decide +kernel
theorem dX1_init_0 : decode cX1_init 0 = .ok (.aload_n 0, 1) := by decide +kernel
theorem dX1_init_1 : decode cX1_init 1 = .ok (.invokespecial 3, 3) := by decide +kernel
theorem dX1_init_4 : decode cX1_init 4 = .ok (.aload_n 0, 1) := by decide +kernel
theorem dX1_init_5 : decode cX1_init 5 = .ok (.bipush 8, 2) := by decide +kernel
theorem dX1_init_7 : decode cX1_init 7 = .ok (.newarray .int, 2) := by decide +kernel
theorem dX1_init_9 : decode cX1_init 9 = .ok (.putfield 9, 3) := by decide +kernel
theorem dX1_init_12 : decode cX1_init 12 = .ok (.return_, 1) := by decide +kernel
theorem dX1_open_0 : decode cX1_open 0 = .ok (.aload_n 0, 1) := by decide +kernel
theorem dX1_open_1 : decode cX1_open 1 = .ok (.iload_n 1, 1) := by decide +kernel
theorem dX1_open_2 : decode cX1_open 2 = .ok (.putfield 15, 3) := by decide +kernel
theorem dX1_open_5 : decode cX1_open 5 = .ok (.aload_n 0, 1) := by decide +kernel
theorem dX1_open_6 : decode cX1_open 6 = .ok (.iload_n 2, 1) := by decide +kernel
theorem dX1_open_7 : decode cX1_open 7 = .ok (.putfield 19, 3) := by decide +kernel
theorem dX1_open_10 : decode cX1_open 10 = .ok (.iconst 0, 1) := by decide +kernel
theorem dX1_open_11 : decode cX1_open 11 = .ok (.istore 5, 2) := by decide +kernel
theorem dX1_open_13 : decode cX1_open 13 = .ok (.iload 5, 2) := by decide +kernel
theorem dX1_open_15 : decode cX1_open 15 = .ok (.bipush 8, 2) := by decide +kernel
theorem dX1_open_17 : decode cX1_open 17 = .ok (.if_icmp .ge 37, 3) := by decide +kernel
theorem dX1_open_20 : decode cX1_open 20 = .ok (.aload_n 0, 1) := by decide +kernel
theorem dX1_open_21 : decode cX1_open 21 = .ok (.getfield 9, 3) := by decide +kernel
theorem dX1_open_24 : decode cX1_open 24 = .ok (.iload 5, 2) := by decide +kernel
theorem dX1_open_26 : decode cX1_open 26 = .ok (.iload 5, 2) := by decide +kernel
theorem dX1_open_28 : decode cX1_open 28 = .ok (.iload 4, 2) := by decide +kernel
theorem dX1_open_30 : decode cX1_open 30 = .ok (.if_icmp .ge 16, 3) := by decide +kernel
theorem dX1_open_33 : decode cX1_open 33 = .ok (.iload 5, 2) := by decide +kernel
theorem dX1_open_35 : decode cX1_open 35 = .ok (.iload_n 2, 1) := by decide +kernel
theorem dX1_open_36 : decode cX1_open 36 = .ok (.if_icmp .ge 10, 3) := by decide +kernel
theorem dX1_open_39 : decode cX1_open 39 = .ok (.aload_n 3, 1) := by decide +kernel
theorem dX1_open_40 : decode cX1_open 40 = .ok (.iload 5, 2) := by decide +kernel
theorem dX1_open_42 : decode cX1_open 42 = .ok (.iaload, 1) := by decide +kernel
theorem dX1_open_43 : decode cX1_open 43 = .ok (.goto 4, 3) := by decide +kernel
theorem dX1_open_46 : decode cX1_open 46 = .ok (.iconst 0, 1) := by decide +kernel
theorem dX1_open_47 : decode cX1_open 47 = .ok (.iastore, 1) := by decide +kernel
theorem dX1_open_48 : decode cX1_open 48 = .ok (.iinc 5 1, 3) := by decide +kernel
theorem dX1_open_51 : decode cX1_open 51 = .ok (.goto (-38), 3) := by decide +kernel
theorem dX1_open_54 : decode cX1_open 54 = .ok (.aload_n 0, 1) := by decide +kernel
theorem dX1_open_55 : decode cX1_open 55 = .ok (.iconst 1, 1) := by decide +kernel
theorem dX1_open_56 : decode cX1_open 56 = .ok (.putfield 22, 3) := by decide +kernel
theorem dX1_open_59 : decode cX1_open 59 = .ok (.aload_n 0, 1) := by decide +kernel
theorem dX1_open_60 : decode cX1_open 60 = .ok (.iconst 0, 1) := by decide +kernel
theorem dX1_open_61 : decode cX1_open 61 = .ok (.putfield 25, 3) := by decide +kernel
theorem dX1_open_64 : decode cX1_open 64 = .ok (.aload_n 0, 1) := by decide +kernel
theorem dX1_open_65 : decode cX1_open 65 = .ok (.iconst 0, 1) := by decide +kernel
theorem dX1_open_66 : decode cX1_open 66 = .ok (.putfield 28, 3) := by decide +kernel
theorem dX1_open_69 : decode cX1_open 69 = .ok (.aload_n 0, 1) := by decide +kernel
theorem dX1_open_70 : decode cX1_open 70 = .ok (.iconst (-1), 1) := by decide +kernel
theorem dX1_open_71 : decode cX1_open 71 = .ok (.putfield 31, 3) := by decide +kernel
theorem dX1_open_74 : decode cX1_open 74 = .ok (.return_, 1) := by decide +kernel
theorem dX1_goesByMade_0 : decode cX1_goesByMade 0 = .ok (.aload_n 0, 1) := by decide +kernel
theorem dX1_goesByMade_1 : decode cX1_goesByMade 1 = .ok (.getfield 34, 3) := by decide +kernel
theorem dX1_goesByMade_4 : decode cX1_goesByMade 4 = .ok (.ifnull 38, 3) := by decide +kernel
theorem dX1_goesByMade_7 : decode cX1_goesByMade 7 = .ok (.aload_n 0, 1) := by decide +kernel
theorem dX1_goesByMade_8 : decode cX1_goesByMade 8 = .ok (.getfield 34, 3) := by decide +kernel
theorem dX1_goesByMade_11 : decode cX1_goesByMade 11 = .ok (.getfield 38, 3) := by decide +kernel
theorem dX1_goesByMade_14 : decode cX1_goesByMade 14 = .ok (.ifCond .eq 28, 3) := by decide +kernel
theorem dX1_goesByMade_17 : decode cX1_goesByMade 17 = .ok (.aload_n 0, 1) := by decide +kernel
theorem dX1_goesByMade_18 : decode cX1_goesByMade 18 = .ok (.getfield 25, 3) := by decide +kernel
theorem dX1_goesByMade_21 : decode cX1_goesByMade 21 = .ok (.ifCond .lt 21, 3) := by decide +kernel
theorem dX1_goesByMade_24 : decode cX1_goesByMade 24 = .ok (.aload_n 0, 1) := by decide +kernel
theorem dX1_goesByMade_25 : decode cX1_goesByMade 25 = .ok (.getfield 25, 3) := by decide +kernel
theorem dX1_goesByMade_28 : decode cX1_goesByMade 28 = .ok (.aload_n 0, 1) := by decide +kernel
theorem dX1_goesByMade_29 : decode cX1_goesByMade 29 = .ok (.getfield 34, 3) := by decide +kernel
theorem dX1_goesByMade_32 : decode cX1_goesByMade 32 = .ok (.getfield 44, 3) := by decide +kernel
theorem dX1_goesByMade_35 : decode cX1_goesByMade 35 = .ok (.if_icmp .ge 7, 3) := by decide +kernel
theorem dX1_goesByMade_38 : decode cX1_goesByMade 38 = .ok (.iconst 1, 1) := by decide +kernel
theorem dX1_goesByMade_39 : decode cX1_goesByMade 39 = .ok (.goto 4, 3) := by decide +kernel
theorem dX1_goesByMade_42 : decode cX1_goesByMade 42 = .ok (.iconst 0, 1) := by decide +kernel
theorem dX1_goesByMade_43 : decode cX1_goesByMade 43 = .ok (.ireturn, 1) := by decide +kernel
theorem dX2_init_0 : decode cX2_init 0 = .ok (.aload_n 0, 1) := by decide +kernel
theorem dX2_init_1 : decode cX2_init 1 = .ok (.invokespecial 3, 3) := by decide +kernel
theorem dX2_init_4 : decode cX2_init 4 = .ok (.aload_n 0, 1) := by decide +kernel
theorem dX2_init_5 : decode cX2_init 5 = .ok (.sipush 660, 3) := by decide +kernel
theorem dX2_init_8 : decode cX2_init 8 = .ok (.newarray .int, 2) := by decide +kernel
theorem dX2_init_10 : decode cX2_init 10 = .ok (.putfield 13, 3) := by decide +kernel
theorem dX2_init_13 : decode cX2_init 13 = .ok (.return_, 1) := by decide +kernel
theorem dX2_readAhead_0 : decode cX2_readAhead 0 = .ok (.aload_n 0, 1) := by decide +kernel
theorem dX2_readAhead_1 : decode cX2_readAhead 1 = .ok (.iload_n 2, 1) := by decide +kernel
theorem dX2_readAhead_2 : decode cX2_readAhead 2 = .ok (.putfield 17, 3) := by decide +kernel
theorem dX2_readAhead_5 : decode cX2_readAhead 5 = .ok (.aload_n 0, 1) := by decide +kernel
theorem dX2_readAhead_6 : decode cX2_readAhead 6 = .ok (.iconst 0, 1) := by decide +kernel
theorem dX2_readAhead_7 : decode cX2_readAhead 7 = .ok (.putfield 21, 3) := by decide +kernel
theorem dX2_readAhead_10 : decode cX2_readAhead 10 = .ok (.iconst 1, 1) := by decide +kernel
theorem dX2_readAhead_11 : decode cX2_readAhead 11 = .ok (.istore_n 3, 1) := by decide +kernel
theorem dX2_readAhead_12 : decode cX2_readAhead 12 = .ok (.iconst 0, 1) := by decide +kernel
theorem dX2_readAhead_13 : decode cX2_readAhead 13 = .ok (.istore 4, 2) := by decide +kernel
theorem dX2_readAhead_15 : decode cX2_readAhead 15 = .ok (.iload 4, 2) := by decide +kernel
theorem dX2_readAhead_17 : decode cX2_readAhead 17 = .ok (.bipush 60, 2) := by decide +kernel
theorem dX2_readAhead_19 : decode cX2_readAhead 19 = .ok (.if_icmp .ge 107, 3) := by decide +kernel
theorem dX2_readAhead_22 : decode cX2_readAhead 22 = .ok (.iload 4, 2) := by decide +kernel
theorem dX2_readAhead_24 : decode cX2_readAhead 24 = .ok (.bipush 11, 2) := by decide +kernel
theorem dX2_readAhead_26 : decode cX2_readAhead 26 = .ok (.imul, 1) := by decide +kernel
theorem dX2_readAhead_27 : decode cX2_readAhead 27 = .ok (.istore 5, 2) := by decide +kernel
theorem dX2_readAhead_29 : decode cX2_readAhead 29 = .ok (.aload_n 1, 1) := by decide +kernel
theorem dX2_readAhead_30 : decode cX2_readAhead 30 = .ok (.iload_n 2, 1) := by decide +kernel
theorem dX2_readAhead_31 : decode cX2_readAhead 31 = .ok (.iload_n 3, 1) := by decide +kernel
theorem dX2_readAhead_32 : decode cX2_readAhead 32 = .ok (.iadd, 1) := by decide +kernel
theorem dX2_readAhead_33 : decode cX2_readAhead 33 = .ok (.aload_n 1, 1) := by decide +kernel
theorem dX2_readAhead_34 : decode cX2_readAhead 34 = .ok (.getfield 24, 3) := by decide +kernel
theorem dX2_readAhead_37 : decode cX2_readAhead 37 = .ok (.iload_n 2, 1) := by decide +kernel
theorem dX2_readAhead_38 : decode cX2_readAhead 38 = .ok (.iaload, 1) := by decide +kernel
theorem dX2_readAhead_39 : decode cX2_readAhead 39 = .ok (.aload_n 0, 1) := by decide +kernel
theorem dX2_readAhead_40 : decode cX2_readAhead 40 = .ok (.getfield 13, 3) := by decide +kernel
theorem dX2_readAhead_43 : decode cX2_readAhead 43 = .ok (.iload 5, 2) := by decide +kernel
theorem dX2_readAhead_45 : decode cX2_readAhead 45 = .ok (.invokevirtual 29, 3) := by decide +kernel
theorem dX2_readAhead_48 : decode cX2_readAhead 48 = .ok (.ifCond .eq 5, 3) := by decide +kernel
theorem dX2_readAhead_51 : decode cX2_readAhead 51 = .ok (.iload_n 3, 1) := by decide +kernel
theorem dX2_readAhead_52 : decode cX2_readAhead 52 = .ok (.ireturn, 1) := by decide +kernel
theorem dX2_readAhead_53 : decode cX2_readAhead 53 = .ok (.aload_n 0, 1) := by decide +kernel
theorem dX2_readAhead_54 : decode cX2_readAhead 54 = .ok (.getfield 13, 3) := by decide +kernel
theorem dX2_readAhead_57 : decode cX2_readAhead 57 = .ok (.iload 5, 2) := by decide +kernel
theorem dX2_readAhead_59 : decode cX2_readAhead 59 = .ok (.bipush 9, 2) := by decide +kernel
theorem dX2_readAhead_61 : decode cX2_readAhead 61 = .ok (.iadd, 1) := by decide +kernel
theorem dX2_readAhead_62 : decode cX2_readAhead 62 = .ok (.iload_n 3, 1) := by decide +kernel
theorem dX2_readAhead_63 : decode cX2_readAhead 63 = .ok (.iastore, 1) := by decide +kernel
theorem dX2_readAhead_64 : decode cX2_readAhead 64 = .ok (.aload_n 0, 1) := by decide +kernel
theorem dX2_readAhead_65 : decode cX2_readAhead 65 = .ok (.getfield 13, 3) := by decide +kernel
theorem dX2_readAhead_68 : decode cX2_readAhead 68 = .ok (.iload 5, 2) := by decide +kernel
theorem dX2_readAhead_70 : decode cX2_readAhead 70 = .ok (.iaload, 1) := by decide +kernel
theorem dX2_readAhead_71 : decode cX2_readAhead 71 = .ok (.bipush 15, 2) := by decide +kernel
theorem dX2_readAhead_73 : decode cX2_readAhead 73 = .ok (.if_icmp .ne 34, 3) := by decide +kernel
theorem dX2_readAhead_76 : decode cX2_readAhead 76 = .ok (.aload_n 0, 1) := by decide +kernel
theorem dX2_readAhead_77 : decode cX2_readAhead 77 = .ok (.iload 4, 2) := by decide +kernel
theorem dX2_readAhead_79 : decode cX2_readAhead 79 = .ok (.iconst 1, 1) := by decide +kernel
theorem dX2_readAhead_80 : decode cX2_readAhead 80 = .ok (.iadd, 1) := by decide +kernel
theorem dX2_readAhead_81 : decode cX2_readAhead 81 = .ok (.putfield 21, 3) := by decide +kernel
theorem dX2_readAhead_84 : decode cX2_readAhead 84 = .ok (.aload_n 0, 1) := by decide +kernel
theorem dX2_readAhead_85 : decode cX2_readAhead 85 = .ok (.iload_n 2, 1) := by decide +kernel
theorem dX2_readAhead_86 : decode cX2_readAhead 86 = .ok (.bipush 64, 2) := by decide +kernel
theorem dX2_readAhead_88 : decode cX2_readAhead 88 = .ok (.idiv, 1) := by decide +kernel
theorem dX2_readAhead_89 : decode cX2_readAhead 89 = .ok (.putfield 35, 3) := by decide +kernel
theorem dX2_readAhead_92 : decode cX2_readAhead 92 = .ok (.aload_n 0, 1) := by decide +kernel
theorem dX2_readAhead_93 : decode cX2_readAhead 93 = .ok (.iload_n 2, 1) := by decide +kernel
theorem dX2_readAhead_94 : decode cX2_readAhead 94 = .ok (.iload_n 3, 1) := by decide +kernel
theorem dX2_readAhead_95 : decode cX2_readAhead 95 = .ok (.iadd, 1) := by decide +kernel
theorem dX2_readAhead_96 : decode cX2_readAhead 96 = .ok (.bipush 64, 2) := by decide +kernel
theorem dX2_readAhead_98 : decode cX2_readAhead 98 = .ok (.idiv, 1) := by decide +kernel
theorem dX2_readAhead_99 : decode cX2_readAhead 99 = .ok (.putfield 38, 3) := by decide +kernel
theorem dX2_readAhead_102 : decode cX2_readAhead 102 = .ok (.aload_n 0, 1) := by decide +kernel
theorem dX2_readAhead_103 : decode cX2_readAhead 103 = .ok (.invokevirtual 41, 3) := by decide +kernel
theorem dX2_readAhead_106 : decode cX2_readAhead 106 = .ok (.ireturn, 1) := by decide +kernel
theorem dX2_readAhead_107 : decode cX2_readAhead 107 = .ok (.iload_n 3, 1) := by decide +kernel
theorem dX2_readAhead_108 : decode cX2_readAhead 108 = .ok (.aload_n 0, 1) := by decide +kernel
theorem dX2_readAhead_109 : decode cX2_readAhead 109 = .ok (.getfield 13, 3) := by decide +kernel
theorem dX2_readAhead_112 : decode cX2_readAhead 112 = .ok (.iload 5, 2) := by decide +kernel
theorem dX2_readAhead_114 : decode cX2_readAhead 114 = .ok (.bipush 8, 2) := by decide +kernel
theorem dX2_readAhead_116 : decode cX2_readAhead 116 = .ok (.iadd, 1) := by decide +kernel
theorem dX2_readAhead_117 : decode cX2_readAhead 117 = .ok (.iaload, 1) := by decide +kernel
theorem dX2_readAhead_118 : decode cX2_readAhead 118 = .ok (.iadd, 1) := by decide +kernel
theorem dX2_readAhead_119 : decode cX2_readAhead 119 = .ok (.istore_n 3, 1) := by decide +kernel
theorem dX2_readAhead_120 : decode cX2_readAhead 120 = .ok (.iinc 4 1, 3) := by decide +kernel
theorem dX2_readAhead_123 : decode cX2_readAhead 123 = .ok (.goto (-108), 3) := by decide +kernel
theorem dX2_readAhead_126 : decode cX2_readAhead 126 = .ok (.iload_n 3, 1) := by decide +kernel
theorem dX2_readAhead_127 : decode cX2_readAhead 127 = .ok (.ireturn, 1) := by decide +kernel
theorem dX2_linkTargets_0 : decode cX2_linkTargets 0 = .ok (.iconst 0, 1) := by decide +kernel
theorem dX2_linkTargets_1 : decode cX2_linkTargets 1 = .ok (.istore_n 1, 1) := by decide +kernel
theorem dX2_linkTargets_2 : decode cX2_linkTargets 2 = .ok (.iload_n 1, 1) := by decide +kernel
theorem dX2_linkTargets_3 : decode cX2_linkTargets 3 = .ok (.aload_n 0, 1) := by decide +kernel
theorem dX2_linkTargets_4 : decode cX2_linkTargets 4 = .ok (.getfield 21, 3) := by decide +kernel
theorem dX2_linkTargets_7 : decode cX2_linkTargets 7 = .ok (.if_icmp .ge 92, 3) := by decide +kernel
theorem dX2_linkTargets_10 : decode cX2_linkTargets 10 = .ok (.iload_n 1, 1) := by decide +kernel
theorem dX2_linkTargets_11 : decode cX2_linkTargets 11 = .ok (.bipush 11, 2) := by decide +kernel
theorem dX2_linkTargets_13 : decode cX2_linkTargets 13 = .ok (.imul, 1) := by decide +kernel
theorem dX2_linkTargets_14 : decode cX2_linkTargets 14 = .ok (.istore_n 2, 1) := by decide +kernel
theorem dX2_linkTargets_15 : decode cX2_linkTargets 15 = .ok (.aload_n 0, 1) := by decide +kernel
theorem dX2_linkTargets_16 : decode cX2_linkTargets 16 = .ok (.getfield 13, 3) := by decide +kernel
theorem dX2_linkTargets_19 : decode cX2_linkTargets 19 = .ok (.iload_n 2, 1) := by decide +kernel
theorem dX2_linkTargets_20 : decode cX2_linkTargets 20 = .ok (.iaload, 1) := by decide +kernel
theorem dX2_linkTargets_21 : decode cX2_linkTargets 21 = .ok (.invokestatic 45, 3) := by decide +kernel
theorem dX2_linkTargets_24 : decode cX2_linkTargets 24 = .ok (.istore_n 3, 1) := by decide +kernel
theorem dX2_linkTargets_25 : decode cX2_linkTargets 25 = .ok (.iload_n 3, 1) := by decide +kernel
theorem dX2_linkTargets_26 : decode cX2_linkTargets 26 = .ok (.ifCond .ne 6, 3) := by decide +kernel
theorem dX2_linkTargets_29 : decode cX2_linkTargets 29 = .ok (.goto 64, 3) := by decide +kernel
theorem dX2_linkTargets_32 : decode cX2_linkTargets 32 = .ok (.aload_n 0, 1) := by decide +kernel
theorem dX2_linkTargets_33 : decode cX2_linkTargets 33 = .ok (.getfield 13, 3) := by decide +kernel
theorem dX2_linkTargets_36 : decode cX2_linkTargets 36 = .ok (.iload_n 2, 1) := by decide +kernel
theorem dX2_linkTargets_37 : decode cX2_linkTargets 37 = .ok (.iload_n 3, 1) := by decide +kernel
theorem dX2_linkTargets_38 : decode cX2_linkTargets 38 = .ok (.iadd, 1) := by decide +kernel
theorem dX2_linkTargets_39 : decode cX2_linkTargets 39 = .ok (.iaload, 1) := by decide +kernel
theorem dX2_linkTargets_40 : decode cX2_linkTargets 40 = .ok (.istore 4, 2) := by decide +kernel
theorem dX2_linkTargets_42 : decode cX2_linkTargets 42 = .ok (.aload_n 0, 1) := by decide +kernel
theorem dX2_linkTargets_43 : decode cX2_linkTargets 43 = .ok (.iload 4, 2) := by decide +kernel
theorem dX2_linkTargets_45 : decode cX2_linkTargets 45 = .ok (.invokevirtual 49, 3) := by decide +kernel
theorem dX2_linkTargets_48 : decode cX2_linkTargets 48 = .ok (.istore 5, 2) := by decide +kernel
theorem dX2_linkTargets_50 : decode cX2_linkTargets 50 = .ok (.iload 5, 2) := by decide +kernel
theorem dX2_linkTargets_52 : decode cX2_linkTargets 52 = .ok (.iconst (-1), 1) := by decide +kernel
theorem dX2_linkTargets_53 : decode cX2_linkTargets 53 = .ok (.if_icmp .ne 29, 3) := by decide +kernel
theorem dX2_linkTargets_56 : decode cX2_linkTargets 56 = .ok (.aload_n 0, 1) := by decide +kernel
theorem dX2_linkTargets_57 : decode cX2_linkTargets 57 = .ok (.getfield 13, 3) := by decide +kernel
theorem dX2_linkTargets_60 : decode cX2_linkTargets 60 = .ok (.iload_n 2, 1) := by decide +kernel
theorem dX2_linkTargets_61 : decode cX2_linkTargets 61 = .ok (.iaload, 1) := by decide +kernel
theorem dX2_linkTargets_62 : decode cX2_linkTargets 62 = .ok (.bipush 14, 2) := by decide +kernel
theorem dX2_linkTargets_64 : decode cX2_linkTargets 64 = .ok (.if_icmp .ne 8, 3) := by decide +kernel
theorem dX2_linkTargets_67 : decode cX2_linkTargets 67 = .ok (.iload 4, 2) := by decide +kernel
theorem dX2_linkTargets_69 : decode cX2_linkTargets 69 = .ok (.ifCond .eq 13, 3) := by decide +kernel
theorem dX2_linkTargets_72 : decode cX2_linkTargets 72 = .ok (.aload_n 0, 1) := by decide +kernel
theorem dX2_linkTargets_73 : decode cX2_linkTargets 73 = .ok (.getfield 13, 3) := by decide +kernel
theorem dX2_linkTargets_76 : decode cX2_linkTargets 76 = .ok (.iload_n 2, 1) := by decide +kernel
theorem dX2_linkTargets_77 : decode cX2_linkTargets 77 = .ok (.bipush 9, 2) := by decide +kernel
theorem dX2_linkTargets_79 : decode cX2_linkTargets 79 = .ok (.iadd, 1) := by decide +kernel
theorem dX2_linkTargets_80 : decode cX2_linkTargets 80 = .ok (.iaload, 1) := by decide +kernel
theorem dX2_linkTargets_81 : decode cX2_linkTargets 81 = .ok (.ireturn, 1) := by decide +kernel
theorem dX2_linkTargets_82 : decode cX2_linkTargets 82 = .ok (.aload_n 0, 1) := by decide +kernel
theorem dX2_linkTargets_83 : decode cX2_linkTargets 83 = .ok (.getfield 13, 3) := by decide +kernel
theorem dX2_linkTargets_86 : decode cX2_linkTargets 86 = .ok (.iload_n 2, 1) := by decide +kernel
theorem dX2_linkTargets_87 : decode cX2_linkTargets 87 = .ok (.bipush 10, 2) := by decide +kernel
theorem dX2_linkTargets_89 : decode cX2_linkTargets 89 = .ok (.iadd, 1) := by decide +kernel
theorem dX2_linkTargets_90 : decode cX2_linkTargets 90 = .ok (.iload 5, 2) := by decide +kernel
theorem dX2_linkTargets_92 : decode cX2_linkTargets 92 = .ok (.iastore, 1) := by decide +kernel
theorem dX2_linkTargets_93 : decode cX2_linkTargets 93 = .ok (.iinc 1 1, 3) := by decide +kernel
theorem dX2_linkTargets_96 : decode cX2_linkTargets 96 = .ok (.goto (-94), 3) := by decide +kernel
theorem dX2_linkTargets_99 : decode cX2_linkTargets 99 = .ok (.iconst (-1), 1) := by decide +kernel
theorem dX2_linkTargets_100 : decode cX2_linkTargets 100 = .ok (.ireturn, 1) := by decide +kernel
theorem dX2_indexOf_0 : decode cX2_indexOf 0 = .ok (.iconst 0, 1) := by decide +kernel
theorem dX2_indexOf_1 : decode cX2_indexOf 1 = .ok (.istore_n 2, 1) := by decide +kernel
theorem dX2_indexOf_2 : decode cX2_indexOf 2 = .ok (.iload_n 2, 1) := by decide +kernel
theorem dX2_indexOf_3 : decode cX2_indexOf 3 = .ok (.aload_n 0, 1) := by decide +kernel
theorem dX2_indexOf_4 : decode cX2_indexOf 4 = .ok (.getfield 21, 3) := by decide +kernel
theorem dX2_indexOf_7 : decode cX2_indexOf 7 = .ok (.if_icmp .ge 27, 3) := by decide +kernel
theorem dX2_indexOf_10 : decode cX2_indexOf 10 = .ok (.aload_n 0, 1) := by decide +kernel
theorem dX2_indexOf_11 : decode cX2_indexOf 11 = .ok (.getfield 13, 3) := by decide +kernel
theorem dX2_indexOf_14 : decode cX2_indexOf 14 = .ok (.iload_n 2, 1) := by decide +kernel
theorem dX2_indexOf_15 : decode cX2_indexOf 15 = .ok (.bipush 11, 2) := by decide +kernel
theorem dX2_indexOf_17 : decode cX2_indexOf 17 = .ok (.imul, 1) := by decide +kernel
theorem dX2_indexOf_18 : decode cX2_indexOf 18 = .ok (.bipush 9, 2) := by decide +kernel
theorem dX2_indexOf_20 : decode cX2_indexOf 20 = .ok (.iadd, 1) := by decide +kernel
theorem dX2_indexOf_21 : decode cX2_indexOf 21 = .ok (.iaload, 1) := by decide +kernel
theorem dX2_indexOf_22 : decode cX2_indexOf 22 = .ok (.iload_n 1, 1) := by decide +kernel
theorem dX2_indexOf_23 : decode cX2_indexOf 23 = .ok (.if_icmp .ne 5, 3) := by decide +kernel
theorem dX2_indexOf_26 : decode cX2_indexOf 26 = .ok (.iload_n 2, 1) := by decide +kernel
theorem dX2_indexOf_27 : decode cX2_indexOf 27 = .ok (.ireturn, 1) := by decide +kernel
theorem dX2_indexOf_28 : decode cX2_indexOf 28 = .ok (.iinc 2 1, 3) := by decide +kernel
theorem dX2_indexOf_31 : decode cX2_indexOf 31 = .ok (.goto (-29), 3) := by decide +kernel
theorem dX2_indexOf_34 : decode cX2_indexOf 34 = .ok (.iconst (-1), 1) := by decide +kernel
theorem dX2_indexOf_35 : decode cX2_indexOf 35 = .ok (.ireturn, 1) := by decide +kernel
theorem dX2_hasPage_0 : decode cX2_hasPage 0 = .ok (.iload_n 1, 1) := by decide +kernel
theorem dX2_hasPage_1 : decode cX2_hasPage 1 = .ok (.aload_n 0, 1) := by decide +kernel
theorem dX2_hasPage_2 : decode cX2_hasPage 2 = .ok (.getfield 35, 3) := by decide +kernel
theorem dX2_hasPage_5 : decode cX2_hasPage 5 = .ok (.if_icmp .lt 15, 3) := by decide +kernel
theorem dX2_hasPage_8 : decode cX2_hasPage 8 = .ok (.iload_n 1, 1) := by decide +kernel
theorem dX2_hasPage_9 : decode cX2_hasPage 9 = .ok (.aload_n 0, 1) := by decide +kernel
theorem dX2_hasPage_10 : decode cX2_hasPage 10 = .ok (.getfield 38, 3) := by decide +kernel
theorem dX2_hasPage_13 : decode cX2_hasPage 13 = .ok (.if_icmp .gt 7, 3) := by decide +kernel
theorem dX2_hasPage_16 : decode cX2_hasPage 16 = .ok (.iconst 1, 1) := by decide +kernel
theorem dX2_hasPage_17 : decode cX2_hasPage 17 = .ok (.goto 4, 3) := by decide +kernel
theorem dX2_hasPage_20 : decode cX2_hasPage 20 = .ok (.iconst 0, 1) := by decide +kernel
theorem dX2_hasPage_21 : decode cX2_hasPage 21 = .ok (.ireturn, 1) := by decide +kernel
theorem dX3_init_0 : decode cX3_init 0 = .ok (.aload_n 0, 1) := by decide +kernel
theorem dX3_init_1 : decode cX3_init 1 = .ok (.invokespecial 3, 3) := by decide +kernel
theorem dX3_init_4 : decode cX3_init 4 = .ok (.aload_n 0, 1) := by decide +kernel
theorem dX3_init_5 : decode cX3_init 5 = .ok (.sipush 1024, 3) := by decide +kernel
theorem dX3_init_8 : decode cX3_init 8 = .ok (.newarray .int, 2) := by decide +kernel
theorem dX3_init_10 : decode cX3_init 10 = .ok (.putfield 9, 3) := by decide +kernel
theorem dX3_init_13 : decode cX3_init 13 = .ok (.aload_n 0, 1) := by decide +kernel
theorem dX3_init_14 : decode cX3_init 14 = .ok (.aload_n 1, 1) := by decide +kernel
theorem dX3_init_15 : decode cX3_init 15 = .ok (.putfield 15, 3) := by decide +kernel
theorem dX3_init_18 : decode cX3_init 18 = .ok (.return_, 1) := by decide +kernel
theorem dX3_hasRoutine_0 : decode cX3_hasRoutine 0 = .ok (.aload_n 0, 1) := by decide +kernel
theorem dX3_hasRoutine_1 : decode cX3_hasRoutine 1 = .ok (.getfield 9, 3) := by decide +kernel
theorem dX3_hasRoutine_4 : decode cX3_hasRoutine 4 = .ok (.iload_n 1, 1) := by decide +kernel
theorem dX3_hasRoutine_5 : decode cX3_hasRoutine 5 = .ok (.iaload, 1) := by decide +kernel
theorem dX3_hasRoutine_6 : decode cX3_hasRoutine 6 = .ok (.bipush 8, 2) := by decide +kernel
theorem dX3_hasRoutine_8 : decode cX3_hasRoutine 8 = .ok (.if_icmp .gt 7, 3) := by decide +kernel
theorem dX3_hasRoutine_11 : decode cX3_hasRoutine 11 = .ok (.iconst 1, 1) := by decide +kernel
theorem dX3_hasRoutine_12 : decode cX3_hasRoutine 12 = .ok (.goto 4, 3) := by decide +kernel
theorem dX3_hasRoutine_15 : decode cX3_hasRoutine 15 = .ok (.iconst 0, 1) := by decide +kernel
theorem dX3_hasRoutine_16 : decode cX3_hasRoutine 16 = .ok (.ireturn, 1) := by decide +kernel
theorem dX3_change_0 : decode cX3_change 0 = .ok (.iload_n 2, 1) := by decide +kernel
theorem dX3_change_1 : decode cX3_change 1 = .ok (.sipush 255, 3) := by decide +kernel
theorem dX3_change_4 : decode cX3_change 4 = .ok (.iand, 1) := by decide +kernel
theorem dX3_change_5 : decode cX3_change 5 = .ok (.istore_n 3, 1) := by decide +kernel
theorem dX3_change_6 : decode cX3_change 6 = .ok (.aload_n 0, 1) := by decide +kernel
theorem dX3_change_7 : decode cX3_change 7 = .ok (.getfield 9, 3) := by decide +kernel
theorem dX3_change_10 : decode cX3_change 10 = .ok (.iload_n 1, 1) := by decide +kernel
theorem dX3_change_11 : decode cX3_change 11 = .ok (.iaload, 1) := by decide +kernel
theorem dX3_change_12 : decode cX3_change 12 = .ok (.iload_n 3, 1) := by decide +kernel
theorem dX3_change_13 : decode cX3_change 13 = .ok (.if_icmp .ne 5, 3) := by decide +kernel
theorem dX3_change_16 : decode cX3_change 16 = .ok (.iconst 0, 1) := by decide +kernel
theorem dX3_change_17 : decode cX3_change 17 = .ok (.ireturn, 1) := by decide +kernel
theorem dX3_change_18 : decode cX3_change 18 = .ok (.aload_n 0, 1) := by decide +kernel
theorem dX3_change_19 : decode cX3_change 19 = .ok (.getfield 9, 3) := by decide +kernel
theorem dX3_change_22 : decode cX3_change 22 = .ok (.iload_n 1, 1) := by decide +kernel
theorem dX3_change_23 : decode cX3_change 23 = .ok (.iload_n 3, 1) := by decide +kernel
theorem dX3_change_24 : decode cX3_change 24 = .ok (.iastore, 1) := by decide +kernel
theorem dX3_change_25 : decode cX3_change 25 = .ok (.aload_n 0, 1) := by decide +kernel
theorem dX3_change_26 : decode cX3_change 26 = .ok (.getfield 15, 3) := by decide +kernel
theorem dX3_change_29 : decode cX3_change 29 = .ok (.iload_n 1, 1) := by decide +kernel
theorem dX3_change_30 : decode cX3_change 30 = .ok (.bipush 64, 2) := by decide +kernel
theorem dX3_change_32 : decode cX3_change 32 = .ok (.idiv, 1) := by decide +kernel
theorem dX3_change_33 : decode cX3_change 33 = .ok (.invokevirtual 19, 3) := by decide +kernel
theorem dX3_change_36 : decode cX3_change 36 = .ok (.ireturn, 1) := by decide +kernel
theorem dX3_read_0 : decode cX3_read 0 = .ok (.iload_n 1, 1) := by decide +kernel
theorem dX3_read_1 : decode cX3_read 1 = .ok (.invokestatic 25, 3) := by decide +kernel
theorem dX3_read_4 : decode cX3_read 4 = .ok (.ifCond .ne 5, 3) := by decide +kernel
theorem dX3_read_7 : decode cX3_read 7 = .ok (.iconst 1, 1) := by decide +kernel
theorem dX3_read_8 : decode cX3_read 8 = .ok (.ireturn, 1) := by decide +kernel
theorem dX3_read_9 : decode cX3_read 9 = .ok (.aload_n 0, 1) := by decide +kernel
theorem dX3_read_10 : decode cX3_read 10 = .ok (.getfield 9, 3) := by decide +kernel
theorem dX3_read_13 : decode cX3_read 13 = .ok (.iload_n 1, 1) := by decide +kernel
theorem dX3_read_14 : decode cX3_read 14 = .ok (.iaload, 1) := by decide +kernel
theorem dX3_read_15 : decode cX3_read 15 = .ok (.invokestatic 29, 3) := by decide +kernel
theorem dX3_read_18 : decode cX3_read 18 = .ok (.ifCond .ne 6, 3) := by decide +kernel
theorem dX3_read_21 : decode cX3_read 21 = .ok (.bipush 7, 2) := by decide +kernel
theorem dX3_read_23 : decode cX3_read 23 = .ok (.ireturn, 1) := by decide +kernel
theorem dX3_read_24 : decode cX3_read 24 = .ok (.aload_n 3, 1) := by decide +kernel
theorem dX3_read_25 : decode cX3_read 25 = .ok (.iload 4, 2) := by decide +kernel
theorem dX3_read_27 : decode cX3_read 27 = .ok (.aload_n 0, 1) := by decide +kernel
theorem dX3_read_28 : decode cX3_read 28 = .ok (.getfield 9, 3) := by decide +kernel
theorem dX3_read_31 : decode cX3_read 31 = .ok (.iload_n 1, 1) := by decide +kernel
theorem dX3_read_32 : decode cX3_read 32 = .ok (.iaload, 1) := by decide +kernel
theorem dX3_read_33 : decode cX3_read 33 = .ok (.iastore, 1) := by decide +kernel
theorem dX3_read_34 : decode cX3_read 34 = .ok (.aload_n 0, 1) := by decide +kernel
theorem dX3_read_35 : decode cX3_read 35 = .ok (.getfield 9, 3) := by decide +kernel
theorem dX3_read_38 : decode cX3_read 38 = .ok (.iload_n 1, 1) := by decide +kernel
theorem dX3_read_39 : decode cX3_read 39 = .ok (.iaload, 1) := by decide +kernel
theorem dX3_read_40 : decode cX3_read 40 = .ok (.invokestatic 34, 3) := by decide +kernel
theorem dX3_read_43 : decode cX3_read 43 = .ok (.istore 5, 2) := by decide +kernel
theorem dX3_read_45 : decode cX3_read 45 = .ok (.iconst 1, 1) := by decide +kernel
theorem dX3_read_46 : decode cX3_read 46 = .ok (.istore 6, 2) := by decide +kernel
theorem dX3_read_48 : decode cX3_read 48 = .ok (.iload 5, 2) := by decide +kernel
theorem dX3_read_50 : decode cX3_read 50 = .ok (.ifCond .eq 71, 3) := by decide +kernel
theorem dX3_read_53 : decode cX3_read 53 = .ok (.iload 6, 2) := by decide +kernel
theorem dX3_read_55 : decode cX3_read 55 = .ok (.bipush 8, 2) := by decide +kernel
theorem dX3_read_57 : decode cX3_read 57 = .ok (.if_icmp .ge 64, 3) := by decide +kernel
theorem dX3_read_60 : decode cX3_read 60 = .ok (.iload_n 1, 1) := by decide +kernel
theorem dX3_read_61 : decode cX3_read 61 = .ok (.iload 6, 2) := by decide +kernel
theorem dX3_read_63 : decode cX3_read 63 = .ok (.iadd, 1) := by decide +kernel
theorem dX3_read_64 : decode cX3_read 64 = .ok (.invokestatic 25, 3) := by decide +kernel
theorem dX3_read_67 : decode cX3_read 67 = .ok (.ifCond .ne 5, 3) := by decide +kernel
theorem dX3_read_70 : decode cX3_read 70 = .ok (.iconst 1, 1) := by decide +kernel
theorem dX3_read_71 : decode cX3_read 71 = .ok (.ireturn, 1) := by decide +kernel
theorem dX3_read_72 : decode cX3_read 72 = .ok (.aload_n 0, 1) := by decide +kernel
theorem dX3_read_73 : decode cX3_read 73 = .ok (.getfield 9, 3) := by decide +kernel
theorem dX3_read_76 : decode cX3_read 76 = .ok (.iload_n 1, 1) := by decide +kernel
theorem dX3_read_77 : decode cX3_read 77 = .ok (.iload 6, 2) := by decide +kernel
theorem dX3_read_79 : decode cX3_read 79 = .ok (.iadd, 1) := by decide +kernel
theorem dX3_read_80 : decode cX3_read 80 = .ok (.iaload, 1) := by decide +kernel
theorem dX3_read_81 : decode cX3_read 81 = .ok (.istore 7, 2) := by decide +kernel
theorem dX3_read_83 : decode cX3_read 83 = .ok (.iload 5, 2) := by decide +kernel
theorem dX3_read_85 : decode cX3_read 85 = .ok (.iload 7, 2) := by decide +kernel
theorem dX3_read_87 : decode cX3_read 87 = .ok (.iload_n 2, 1) := by decide +kernel
theorem dX3_read_88 : decode cX3_read 88 = .ok (.invokestatic 39, 3) := by decide +kernel
theorem dX3_read_91 : decode cX3_read 91 = .ok (.ifCond .ne 6, 3) := by decide +kernel
theorem dX3_read_94 : decode cX3_read 94 = .ok (.bipush 7, 2) := by decide +kernel
theorem dX3_read_96 : decode cX3_read 96 = .ok (.ireturn, 1) := by decide +kernel
theorem dX3_read_97 : decode cX3_read 97 = .ok (.aload_n 3, 1) := by decide +kernel
theorem dX3_read_98 : decode cX3_read 98 = .ok (.iload 4, 2) := by decide +kernel
theorem dX3_read_100 : decode cX3_read 100 = .ok (.iload 6, 2) := by decide +kernel
theorem dX3_read_102 : decode cX3_read 102 = .ok (.iadd, 1) := by decide +kernel
theorem dX3_read_103 : decode cX3_read 103 = .ok (.iload 7, 2) := by decide +kernel
theorem dX3_read_105 : decode cX3_read 105 = .ok (.iastore, 1) := by decide +kernel
theorem dX3_read_106 : decode cX3_read 106 = .ok (.iload 5, 2) := by decide +kernel
theorem dX3_read_108 : decode cX3_read 108 = .ok (.iload 7, 2) := by decide +kernel
theorem dX3_read_110 : decode cX3_read 110 = .ok (.invokestatic 43, 3) := by decide +kernel
theorem dX3_read_113 : decode cX3_read 113 = .ok (.istore 5, 2) := by decide +kernel
theorem dX3_read_115 : decode cX3_read 115 = .ok (.iinc 6 1, 3) := by decide +kernel
theorem dX3_read_118 : decode cX3_read 118 = .ok (.goto (-70), 3) := by decide +kernel
theorem dX3_read_121 : decode cX3_read 121 = .ok (.aload_n 3, 1) := by decide +kernel
theorem dX3_read_122 : decode cX3_read 122 = .ok (.iload 4, 2) := by decide +kernel
theorem dX3_read_124 : decode cX3_read 124 = .ok (.bipush 8, 2) := by decide +kernel
theorem dX3_read_126 : decode cX3_read 126 = .ok (.iadd, 1) := by decide +kernel
theorem dX3_read_127 : decode cX3_read 127 = .ok (.iload 6, 2) := by decide +kernel
theorem dX3_read_129 : decode cX3_read 129 = .ok (.iastore, 1) := by decide +kernel
theorem dX3_read_130 : decode cX3_read 130 = .ok (.iconst 0, 1) := by decide +kernel
theorem dX3_read_131 : decode cX3_read 131 = .ok (.ireturn, 1) := by decide +kernel
theorem dX4_init_0 : decode cX4_init 0 = .ok (.aload_n 0, 1) := by decide +kernel
theorem dX4_init_1 : decode cX4_init 1 = .ok (.invokespecial 3, 3) := by decide +kernel
theorem dX4_init_4 : decode cX4_init 4 = .ok (.aload_n 0, 1) := by decide +kernel
theorem dX4_init_5 : decode cX4_init 5 = .ok (.iconst (-1), 1) := by decide +kernel
theorem dX4_init_6 : decode cX4_init 6 = .ok (.putfield 9, 3) := by decide +kernel
theorem dX4_init_9 : decode cX4_init 9 = .ok (.aload_n 0, 1) := by decide +kernel
theorem dX4_init_10 : decode cX4_init 10 = .ok (.iconst (-1), 1) := by decide +kernel
theorem dX4_init_11 : decode cX4_init 11 = .ok (.putfield 15, 3) := by decide +kernel
theorem dX4_init_14 : decode cX4_init 14 = .ok (.return_, 1) := by decide +kernel
theorem dX4_clear_0 : decode cX4_clear 0 = .ok (.aload_n 0, 1) := by decide +kernel
theorem dX4_clear_1 : decode cX4_clear 1 = .ok (.iconst 0, 1) := by decide +kernel
theorem dX4_clear_2 : decode cX4_clear 2 = .ok (.putfield 18, 3) := by decide +kernel
theorem dX4_clear_5 : decode cX4_clear 5 = .ok (.aload_n 0, 1) := by decide +kernel
theorem dX4_clear_6 : decode cX4_clear 6 = .ok (.iconst 0, 1) := by decide +kernel
theorem dX4_clear_7 : decode cX4_clear 7 = .ok (.putfield 21, 3) := by decide +kernel
theorem dX4_clear_10 : decode cX4_clear 10 = .ok (.aload_n 0, 1) := by decide +kernel
theorem dX4_clear_11 : decode cX4_clear 11 = .ok (.iconst (-1), 1) := by decide +kernel
theorem dX4_clear_12 : decode cX4_clear 12 = .ok (.putfield 9, 3) := by decide +kernel
theorem dX4_clear_15 : decode cX4_clear 15 = .ok (.aload_n 0, 1) := by decide +kernel
theorem dX4_clear_16 : decode cX4_clear 16 = .ok (.iconst (-1), 1) := by decide +kernel
theorem dX4_clear_17 : decode cX4_clear 17 = .ok (.putfield 15, 3) := by decide +kernel
theorem dX4_clear_20 : decode cX4_clear 20 = .ok (.aload_n 0, 1) := by decide +kernel
theorem dX4_clear_21 : decode cX4_clear 21 = .ok (.iconst 0, 1) := by decide +kernel
theorem dX4_clear_22 : decode cX4_clear 22 = .ok (.putfield 24, 3) := by decide +kernel
theorem dX4_clear_25 : decode cX4_clear 25 = .ok (.return_, 1) := by decide +kernel
theorem dX6_init_0 : decode cX6_init 0 = .ok (.aload_n 0, 1) := by decide +kernel
theorem dX6_init_1 : decode cX6_init 1 = .ok (.invokespecial 3, 3) := by decide +kernel
theorem dX6_init_4 : decode cX6_init 4 = .ok (.aload_n 0, 1) := by decide +kernel
theorem dX6_init_5 : decode cX6_init 5 = .ok (.new 9, 3) := by decide +kernel
theorem dX6_init_8 : decode cX6_init 8 = .ok (.dup, 1) := by decide +kernel
theorem dX6_init_9 : decode cX6_init 9 = .ok (.invokespecial 11, 3) := by decide +kernel
theorem dX6_init_12 : decode cX6_init 12 = .ok (.putfield 12, 3) := by decide +kernel
theorem dX6_init_15 : decode cX6_init 15 = .ok (.aload_n 0, 1) := by decide +kernel
theorem dX6_init_16 : decode cX6_init 16 = .ok (.sipush 256, 3) := by decide +kernel
theorem dX6_init_19 : decode cX6_init 19 = .ok (.newarray .int, 2) := by decide +kernel
theorem dX6_init_21 : decode cX6_init 21 = .ok (.putfield 18, 3) := by decide +kernel
theorem dX6_init_24 : decode cX6_init 24 = .ok (.aload_n 0, 1) := by decide +kernel
theorem dX6_init_25 : decode cX6_init 25 = .ok (.bipush 12, 2) := by decide +kernel
theorem dX6_init_27 : decode cX6_init 27 = .ok (.anewarray 22, 3) := by decide +kernel
theorem dX6_init_30 : decode cX6_init 30 = .ok (.putfield 24, 3) := by decide +kernel
theorem dX6_init_33 : decode cX6_init 33 = .ok (.aload_n 0, 1) := by decide +kernel
theorem dX6_init_34 : decode cX6_init 34 = .ok (.iconst 4, 1) := by decide +kernel
theorem dX6_init_35 : decode cX6_init 35 = .ok (.newarray .int, 2) := by decide +kernel
theorem dX6_init_37 : decode cX6_init 37 = .ok (.putfield 28, 3) := by decide +kernel
theorem dX6_init_40 : decode cX6_init 40 = .ok (.aload_n 0, 1) := by decide +kernel
theorem dX6_init_41 : decode cX6_init 41 = .ok (.bipush 11, 2) := by decide +kernel
theorem dX6_init_43 : decode cX6_init 43 = .ok (.newarray .int, 2) := by decide +kernel
theorem dX6_init_45 : decode cX6_init 45 = .ok (.putfield 33, 3) := by decide +kernel
theorem dX6_init_48 : decode cX6_init 48 = .ok (.aload_n 0, 1) := by decide +kernel
theorem dX6_init_49 : decode cX6_init 49 = .ok (.aload_n 0, 1) := by decide +kernel
theorem dX6_init_50 : decode cX6_init 50 = .ok (.getfield 33, 3) := by decide +kernel
theorem dX6_init_53 : decode cX6_init 53 = .ok (.putfield 36, 3) := by decide +kernel
theorem dX6_init_56 : decode cX6_init 56 = .ok (.aload_n 0, 1) := by decide +kernel
theorem dX6_init_57 : decode cX6_init 57 = .ok (.aload_n 1, 1) := by decide +kernel
theorem dX6_init_58 : decode cX6_init 58 = .ok (.putfield 39, 3) := by decide +kernel
theorem dX6_init_61 : decode cX6_init 61 = .ok (.aload_n 0, 1) := by decide +kernel
theorem dX6_init_62 : decode cX6_init 62 = .ok (.aload_n 2, 1) := by decide +kernel
theorem dX6_init_63 : decode cX6_init 63 = .ok (.putfield 43, 3) := by decide +kernel
theorem dX6_init_66 : decode cX6_init 66 = .ok (.aload_n 0, 1) := by decide +kernel
theorem dX6_init_67 : decode cX6_init 67 = .ok (.aload_n 3, 1) := by decide +kernel
theorem dX6_init_68 : decode cX6_init 68 = .ok (.putfield 47, 3) := by decide +kernel
theorem dX6_init_71 : decode cX6_init 71 = .ok (.aload_n 0, 1) := by decide +kernel
theorem dX6_init_72 : decode cX6_init 72 = .ok (.aload 4, 2) := by decide +kernel
theorem dX6_init_74 : decode cX6_init 74 = .ok (.putfield 50, 3) := by decide +kernel
theorem dX6_init_77 : decode cX6_init 77 = .ok (.iconst 0, 1) := by decide +kernel
theorem dX6_init_78 : decode cX6_init 78 = .ok (.istore 5, 2) := by decide +kernel
theorem dX6_init_80 : decode cX6_init 80 = .ok (.iload 5, 2) := by decide +kernel
theorem dX6_init_82 : decode cX6_init 82 = .ok (.bipush 12, 2) := by decide +kernel
theorem dX6_init_84 : decode cX6_init 84 = .ok (.if_icmp .ge 23, 3) := by decide +kernel
theorem dX6_init_87 : decode cX6_init 87 = .ok (.aload_n 0, 1) := by decide +kernel
theorem dX6_init_88 : decode cX6_init 88 = .ok (.getfield 24, 3) := by decide +kernel
theorem dX6_init_91 : decode cX6_init 91 = .ok (.iload 5, 2) := by decide +kernel
theorem dX6_init_93 : decode cX6_init 93 = .ok (.new 22, 3) := by decide +kernel
theorem dX6_init_96 : decode cX6_init 96 = .ok (.dup, 1) := by decide +kernel
theorem dX6_init_97 : decode cX6_init 97 = .ok (.invokespecial 53, 3) := by decide +kernel
theorem dX6_init_100 : decode cX6_init 100 = .ok (.aastore, 1) := by decide +kernel
theorem dX6_init_101 : decode cX6_init 101 = .ok (.iinc 5 1, 3) := by decide +kernel
theorem dX6_init_104 : decode cX6_init 104 = .ok (.goto (-24), 3) := by decide +kernel
theorem dX6_init_107 : decode cX6_init 107 = .ok (.return_, 1) := by decide +kernel
theorem dX6_run_0 : decode cX6_run 0 = .ok (.aload_n 0, 1) := by decide +kernel
theorem dX6_run_1 : decode cX6_run 1 = .ok (.getfield 12, 3) := by decide +kernel
theorem dX6_run_4 : decode cX6_run 4 = .ok (.invokevirtual 54, 3) := by decide +kernel
theorem dX6_run_7 : decode cX6_run 7 = .ok (.aload_n 0, 1) := by decide +kernel
theorem dX6_run_8 : decode cX6_run 8 = .ok (.iload 4, 2) := by decide +kernel
theorem dX6_run_10 : decode cX6_run 10 = .ok (.putfield 57, 3) := by decide +kernel
theorem dX6_run_13 : decode cX6_run 13 = .ok (.aload_n 0, 1) := by decide +kernel
theorem dX6_run_14 : decode cX6_run 14 = .ok (.iconst 0, 1) := by decide +kernel
theorem dX6_run_15 : decode cX6_run 15 = .ok (.putfield 61, 3) := by decide +kernel
theorem dX6_run_18 : decode cX6_run 18 = .ok (.aload_n 0, 1) := by decide +kernel
theorem dX6_run_19 : decode cX6_run 19 = .ok (.iconst 0, 1) := by decide +kernel
theorem dX6_run_20 : decode cX6_run 20 = .ok (.putfield 65, 3) := by decide +kernel
theorem dX6_run_23 : decode cX6_run 23 = .ok (.aload_n 0, 1) := by decide +kernel
theorem dX6_run_24 : decode cX6_run 24 = .ok (.iload_n 1, 1) := by decide +kernel
theorem dX6_run_25 : decode cX6_run 25 = .ok (.putfield 68, 3) := by decide +kernel
theorem dX6_run_28 : decode cX6_run 28 = .ok (.aload_n 0, 1) := by decide +kernel
theorem dX6_run_29 : decode cX6_run 29 = .ok (.iconst 0, 1) := by decide +kernel
theorem dX6_run_30 : decode cX6_run 30 = .ok (.putfield 71, 3) := by decide +kernel
theorem dX6_run_33 : decode cX6_run 33 = .ok (.iconst 0, 1) := by decide +kernel
theorem dX6_run_34 : decode cX6_run 34 = .ok (.istore 5, 2) := by decide +kernel
theorem dX6_run_36 : decode cX6_run 36 = .ok (.iload 5, 2) := by decide +kernel
theorem dX6_run_38 : decode cX6_run 38 = .ok (.iload_n 3, 1) := by decide +kernel
theorem dX6_run_39 : decode cX6_run 39 = .ok (.if_icmp .ge 20, 3) := by decide +kernel
theorem dX6_run_42 : decode cX6_run 42 = .ok (.aload_n 0, 1) := by decide +kernel
theorem dX6_run_43 : decode cX6_run 43 = .ok (.getfield 28, 3) := by decide +kernel
theorem dX6_run_46 : decode cX6_run 46 = .ok (.iload 5, 2) := by decide +kernel
theorem dX6_run_48 : decode cX6_run 48 = .ok (.aload_n 2, 1) := by decide +kernel
theorem dX6_run_49 : decode cX6_run 49 = .ok (.iload 5, 2) := by decide +kernel
theorem dX6_run_51 : decode cX6_run 51 = .ok (.iaload, 1) := by decide +kernel
theorem dX6_run_52 : decode cX6_run 52 = .ok (.iastore, 1) := by decide +kernel
theorem dX6_run_53 : decode cX6_run 53 = .ok (.iinc 5 1, 3) := by decide +kernel
theorem dX6_run_56 : decode cX6_run 56 = .ok (.goto (-20), 3) := by decide +kernel
theorem dX6_run_59 : decode cX6_run 59 = .ok (.aload_n 0, 1) := by decide +kernel
theorem dX6_run_60 : decode cX6_run 60 = .ok (.iload_n 1, 1) := by decide +kernel
theorem dX6_run_61 : decode cX6_run 61 = .ok (.iload_n 3, 1) := by decide +kernel
theorem dX6_run_62 : decode cX6_run 62 = .ok (.invokevirtual 74, 3) := by decide +kernel
theorem dX6_run_65 : decode cX6_run 65 = .ok (.iconst 0, 1) := by decide +kernel
theorem dX6_run_66 : decode cX6_run 66 = .ok (.istore 5, 2) := by decide +kernel
theorem dX6_run_68 : decode cX6_run 68 = .ok (.iload 5, 2) := by decide +kernel
theorem dX6_run_70 : decode cX6_run 70 = .ok (.sipush 400, 3) := by decide +kernel
theorem dX6_run_73 : decode cX6_run 73 = .ok (.if_icmp .gt 44, 3) := by decide +kernel
theorem dX6_run_76 : decode cX6_run 76 = .ok (.aload_n 0, 1) := by decide +kernel
theorem dX6_run_77 : decode cX6_run 77 = .ok (.getfield 61, 3) := by decide +kernel
theorem dX6_run_80 : decode cX6_run 80 = .ok (.ifCond .le 37, 3) := by decide +kernel
theorem dX6_run_83 : decode cX6_run 83 = .ok (.aload_n 0, 1) := by decide +kernel
theorem dX6_run_84 : decode cX6_run 84 = .ok (.getfield 24, 3) := by decide +kernel
theorem dX6_run_87 : decode cX6_run 87 = .ok (.aload_n 0, 1) := by decide +kernel
theorem dX6_run_88 : decode cX6_run 88 = .ok (.getfield 61, 3) := by decide +kernel
theorem dX6_run_91 : decode cX6_run 91 = .ok (.iconst 1, 1) := by decide +kernel
theorem dX6_run_92 : decode cX6_run 92 = .ok (.isub, 1) := by decide +kernel
theorem dX6_run_93 : decode cX6_run 93 = .ok (.aaload, 1) := by decide +kernel
theorem dX6_run_94 : decode cX6_run 94 = .ok (.astore 6, 2) := by decide +kernel
theorem dX6_run_96 : decode cX6_run 96 = .ok (.aload_n 0, 1) := by decide +kernel
theorem dX6_run_97 : decode cX6_run 97 = .ok (.aload 6, 2) := by decide +kernel
theorem dX6_run_99 : decode cX6_run 99 = .ok (.invokevirtual 78, 3) := by decide +kernel
theorem dX6_run_102 : decode cX6_run 102 = .ok (.ifCond .eq 9, 3) := by decide +kernel
theorem dX6_run_105 : decode cX6_run 105 = .ok (.aload_n 0, 1) := by decide +kernel
theorem dX6_run_106 : decode cX6_run 106 = .ok (.aload 6, 2) := by decide +kernel
theorem dX6_run_108 : decode cX6_run 108 = .ok (.invokevirtual 82, 3) := by decide +kernel
theorem dX6_run_111 : decode cX6_run 111 = .ok (.iinc 5 1, 3) := by decide +kernel
theorem dX6_run_114 : decode cX6_run 114 = .ok (.goto (-46), 3) := by decide +kernel
theorem dX6_run_117 : decode cX6_run 117 = .ok (.aload_n 0, 1) := by decide +kernel
theorem dX6_run_118 : decode cX6_run 118 = .ok (.getfield 12, 3) := by decide +kernel
theorem dX6_run_121 : decode cX6_run 121 = .ok (.getfield 86, 3) := by decide +kernel
theorem dX6_run_124 : decode cX6_run 124 = .ok (.ifCond .ne 7, 3) := by decide +kernel
theorem dX6_run_127 : decode cX6_run 127 = .ok (.iconst 0, 1) := by decide +kernel
theorem dX6_run_128 : decode cX6_run 128 = .ok (.goto 13, 3) := by decide +kernel
theorem dX6_run_131 : decode cX6_run 131 = .ok (.bipush (-10), 2) := by decide +kernel
theorem dX6_run_133 : decode cX6_run 133 = .ok (.aload_n 0, 1) := by decide +kernel
theorem dX6_run_134 : decode cX6_run 134 = .ok (.getfield 12, 3) := by decide +kernel
theorem dX6_run_137 : decode cX6_run 137 = .ok (.getfield 86, 3) := by decide +kernel
theorem dX6_run_140 : decode cX6_run 140 = .ok (.isub, 1) := by decide +kernel
theorem dX6_run_141 : decode cX6_run 141 = .ok (.ireturn, 1) := by decide +kernel
theorem dX6_enter_0 : decode cX6_enter 0 = .ok (.iload_n 1, 1) := by decide +kernel
theorem dX6_enter_1 : decode cX6_enter 1 = .ok (.iconst (-1), 1) := by decide +kernel
theorem dX6_enter_2 : decode cX6_enter 2 = .ok (.if_icmp .ne 7, 3) := by decide +kernel
theorem dX6_enter_5 : decode cX6_enter 5 = .ok (.iconst 0, 1) := by decide +kernel
theorem dX6_enter_6 : decode cX6_enter 6 = .ok (.goto 11, 3) := by decide +kernel
theorem dX6_enter_9 : decode cX6_enter 9 = .ok (.aload_n 0, 1) := by decide +kernel
theorem dX6_enter_10 : decode cX6_enter 10 = .ok (.getfield 18, 3) := by decide +kernel
theorem dX6_enter_13 : decode cX6_enter 13 = .ok (.iload_n 1, 1) := by decide +kernel
theorem dX6_enter_14 : decode cX6_enter 14 = .ok (.iconst 4, 1) := by decide +kernel
theorem dX6_enter_15 : decode cX6_enter 15 = .ok (.idiv, 1) := by decide +kernel
theorem dX6_enter_16 : decode cX6_enter 16 = .ok (.iaload, 1) := by decide +kernel
theorem dX6_enter_17 : decode cX6_enter 17 = .ok (.istore_n 3, 1) := by decide +kernel
theorem dX6_enter_18 : decode cX6_enter 18 = .ok (.iload_n 3, 1) := by decide +kernel
theorem dX6_enter_19 : decode cX6_enter 19 = .ok (.ifCond .eq 28, 3) := by decide +kernel
theorem dX6_enter_22 : decode cX6_enter 22 = .ok (.aload_n 0, 1) := by decide +kernel
theorem dX6_enter_23 : decode cX6_enter 23 = .ok (.iload_n 3, 1) := by decide +kernel
theorem dX6_enter_24 : decode cX6_enter 24 = .ok (.iload_n 2, 1) := by decide +kernel
theorem dX6_enter_25 : decode cX6_enter 25 = .ok (.invokevirtual 89, 3) := by decide +kernel
theorem dX6_enter_28 : decode cX6_enter 28 = .ok (.istore 4, 2) := by decide +kernel
theorem dX6_enter_30 : decode cX6_enter 30 = .ok (.aload_n 0, 1) := by decide +kernel
theorem dX6_enter_31 : decode cX6_enter 31 = .ok (.getfield 12, 3) := by decide +kernel
theorem dX6_enter_34 : decode cX6_enter 34 = .ok (.getfield 86, 3) := by decide +kernel
theorem dX6_enter_37 : decode cX6_enter 37 = .ok (.ifCond .ne 9, 3) := by decide +kernel
theorem dX6_enter_40 : decode cX6_enter 40 = .ok (.aload_n 0, 1) := by decide +kernel
theorem dX6_enter_41 : decode cX6_enter 41 = .ok (.iload 4, 2) := by decide +kernel
theorem dX6_enter_43 : decode cX6_enter 43 = .ok (.invokevirtual 93, 3) := by decide +kernel
theorem dX6_enter_46 : decode cX6_enter 46 = .ok (.return_, 1) := by decide +kernel
theorem dX6_enter_47 : decode cX6_enter 47 = .ok (.aload_n 0, 1) := by decide +kernel
theorem dX6_enter_48 : decode cX6_enter 48 = .ok (.getfield 61, 3) := by decide +kernel
theorem dX6_enter_51 : decode cX6_enter 51 = .ok (.bipush 12, 2) := by decide +kernel
theorem dX6_enter_53 : decode cX6_enter 53 = .ok (.if_icmp .lt 9, 3) := by decide +kernel
theorem dX6_enter_56 : decode cX6_enter 56 = .ok (.aload_n 0, 1) := by decide +kernel
theorem dX6_enter_57 : decode cX6_enter 57 = .ok (.iconst 4, 1) := by decide +kernel
theorem dX6_enter_58 : decode cX6_enter 58 = .ok (.invokevirtual 97, 3) := by decide +kernel
theorem dX6_enter_61 : decode cX6_enter 61 = .ok (.return_, 1) := by decide +kernel
theorem dX6_enter_62 : decode cX6_enter 62 = .ok (.iload_n 1, 1) := by decide +kernel
theorem dX6_enter_63 : decode cX6_enter 63 = .ok (.iconst (-1), 1) := by decide +kernel
theorem dX6_enter_64 : decode cX6_enter 64 = .ok (.if_icmp .eq 14, 3) := by decide +kernel
theorem dX6_enter_67 : decode cX6_enter 67 = .ok (.aload_n 0, 1) := by decide +kernel
theorem dX6_enter_68 : decode cX6_enter 68 = .ok (.getfield 39, 3) := by decide +kernel
theorem dX6_enter_71 : decode cX6_enter 71 = .ok (.iload_n 1, 1) := by decide +kernel
theorem dX6_enter_72 : decode cX6_enter 72 = .ok (.invokevirtual 100, 3) := by decide +kernel
theorem dX6_enter_75 : decode cX6_enter 75 = .ok (.ifCond .ne 9, 3) := by decide +kernel
theorem dX6_enter_78 : decode cX6_enter 78 = .ok (.aload_n 0, 1) := by decide +kernel
theorem dX6_enter_79 : decode cX6_enter 79 = .ok (.iconst 3, 1) := by decide +kernel
theorem dX6_enter_80 : decode cX6_enter 80 = .ok (.invokevirtual 97, 3) := by decide +kernel
theorem dX6_enter_83 : decode cX6_enter 83 = .ok (.return_, 1) := by decide +kernel
theorem dX6_enter_84 : decode cX6_enter 84 = .ok (.aload_n 0, 1) := by decide +kernel
theorem dX6_enter_85 : decode cX6_enter 85 = .ok (.getfield 24, 3) := by decide +kernel
theorem dX6_enter_88 : decode cX6_enter 88 = .ok (.aload_n 0, 1) := by decide +kernel
theorem dX6_enter_89 : decode cX6_enter 89 = .ok (.getfield 61, 3) := by decide +kernel
theorem dX6_enter_92 : decode cX6_enter 92 = .ok (.aaload, 1) := by decide +kernel
theorem dX6_enter_93 : decode cX6_enter 93 = .ok (.astore 4, 2) := by decide +kernel
theorem dX6_enter_95 : decode cX6_enter 95 = .ok (.aload_n 0, 1) := by decide +kernel
theorem dX6_enter_96 : decode cX6_enter 96 = .ok (.dup, 1) := by decide +kernel
theorem dX6_enter_97 : decode cX6_enter 97 = .ok (.getfield 61, 3) := by decide +kernel
theorem dX6_enter_100 : decode cX6_enter 100 = .ok (.iconst 1, 1) := by decide +kernel
theorem dX6_enter_101 : decode cX6_enter 101 = .ok (.iadd, 1) := by decide +kernel
theorem dX6_enter_102 : decode cX6_enter 102 = .ok (.putfield 61, 3) := by decide +kernel
theorem dX6_enter_105 : decode cX6_enter 105 = .ok (.aload 4, 2) := by decide +kernel
theorem dX6_enter_107 : decode cX6_enter 107 = .ok (.iload_n 1, 1) := by decide +kernel
theorem dX6_enter_108 : decode cX6_enter 108 = .ok (.aload_n 0, 1) := by decide +kernel
theorem dX6_enter_109 : decode cX6_enter 109 = .ok (.getfield 39, 3) := by decide +kernel
theorem dX6_enter_112 : decode cX6_enter 112 = .ok (.getfield 106, 3) := by decide +kernel
theorem dX6_enter_115 : decode cX6_enter 115 = .ok (.iload_n 1, 1) := by decide +kernel
theorem dX6_enter_116 : decode cX6_enter 116 = .ok (.iaload, 1) := by decide +kernel
theorem dX6_enter_117 : decode cX6_enter 117 = .ok (.aload_n 0, 1) := by decide +kernel
theorem dX6_enter_118 : decode cX6_enter 118 = .ok (.getfield 28, 3) := by decide +kernel
theorem dX6_enter_121 : decode cX6_enter 121 = .ok (.iload_n 2, 1) := by decide +kernel
theorem dX6_enter_122 : decode cX6_enter 122 = .ok (.invokevirtual 109, 3) := by decide +kernel
theorem dX6_enter_125 : decode cX6_enter 125 = .ok (.aload 4, 2) := by decide +kernel
theorem dX6_enter_127 : decode cX6_enter 127 = .ok (.aload_n 0, 1) := by decide +kernel
theorem dX6_enter_128 : decode cX6_enter 128 = .ok (.getfield 57, 3) := by decide +kernel
theorem dX6_enter_131 : decode cX6_enter 131 = .ok (.ifCond .eq 14, 3) := by decide +kernel
theorem dX6_enter_134 : decode cX6_enter 134 = .ok (.aload_n 0, 1) := by decide +kernel
theorem dX6_enter_135 : decode cX6_enter 135 = .ok (.getfield 43, 3) := by decide +kernel
theorem dX6_enter_138 : decode cX6_enter 138 = .ok (.iload_n 1, 1) := by decide +kernel
theorem dX6_enter_139 : decode cX6_enter 139 = .ok (.invokevirtual 113, 3) := by decide +kernel
theorem dX6_enter_142 : decode cX6_enter 142 = .ok (.goto 4, 3) := by decide +kernel
theorem dX6_enter_145 : decode cX6_enter 145 = .ok (.aconst_null, 1) := by decide +kernel
theorem dX6_enter_146 : decode cX6_enter 146 = .ok (.putfield 119, 3) := by decide +kernel
theorem dX6_enter_149 : decode cX6_enter 149 = .ok (.aload_n 0, 1) := by decide +kernel
theorem dX6_enter_150 : decode cX6_enter 150 = .ok (.getfield 50, 3) := by decide +kernel
theorem dX6_enter_153 : decode cX6_enter 153 = .ok (.iconst 4, 1) := by decide +kernel
theorem dX6_enter_154 : decode cX6_enter 154 = .ok (.dup2, 1) := by decide +kernel
theorem dX6_enter_155 : decode cX6_enter 155 = .ok (.iaload, 1) := by decide +kernel
theorem dX6_enter_156 : decode cX6_enter 156 = .ok (.iconst 1, 1) := by decide +kernel
theorem dX6_enter_157 : decode cX6_enter 157 = .ok (.iadd, 1) := by decide +kernel
theorem dX6_enter_158 : decode cX6_enter 158 = .ok (.iastore, 1) := by decide +kernel
theorem dX6_enter_159 : decode cX6_enter 159 = .ok (.aload 4, 2) := by decide +kernel
theorem dX6_enter_161 : decode cX6_enter 161 = .ok (.getfield 119, 3) := by decide +kernel
theorem dX6_enter_164 : decode cX6_enter 164 = .ok (.ifnull 13, 3) := by decide +kernel
theorem dX6_enter_167 : decode cX6_enter 167 = .ok (.aload_n 0, 1) := by decide +kernel
theorem dX6_enter_168 : decode cX6_enter 168 = .ok (.getfield 50, 3) := by decide +kernel
theorem dX6_enter_171 : decode cX6_enter 171 = .ok (.iconst 5, 1) := by decide +kernel
theorem dX6_enter_172 : decode cX6_enter 172 = .ok (.dup2, 1) := by decide +kernel
theorem dX6_enter_173 : decode cX6_enter 173 = .ok (.iaload, 1) := by decide +kernel
theorem dX6_enter_174 : decode cX6_enter 174 = .ok (.iconst 1, 1) := by decide +kernel
theorem dX6_enter_175 : decode cX6_enter 175 = .ok (.iadd, 1) := by decide +kernel
theorem dX6_enter_176 : decode cX6_enter 176 = .ok (.iastore, 1) := by decide +kernel
theorem dX6_enter_177 : decode cX6_enter 177 = .ok (.return_, 1) := by decide +kernel
theorem dX6_valueOfBuiltIn_0 : decode cX6_valueOfBuiltIn 0 = .ok (.aload_n 0, 1) := by decide +kernel
theorem dX6_valueOfBuiltIn_1 : decode cX6_valueOfBuiltIn 1 = .ok (.invokevirtual 123, 3) := by decide +kernel
theorem dX6_valueOfBuiltIn_4 : decode cX6_valueOfBuiltIn 4 = .ok (.ifCond .ne 5, 3) := by decide +kernel
theorem dX6_valueOfBuiltIn_7 : decode cX6_valueOfBuiltIn 7 = .ok (.iconst 0, 1) := by decide +kernel
theorem dX6_valueOfBuiltIn_8 : decode cX6_valueOfBuiltIn 8 = .ok (.ireturn, 1) := by decide +kernel
theorem dX6_valueOfBuiltIn_9 : decode cX6_valueOfBuiltIn 9 = .ok (.iload_n 1, 1) := by decide +kernel
theorem dX6_valueOfBuiltIn_10 : decode cX6_valueOfBuiltIn 10 = .ok (.tableswitch 44 1 3 #[26, 32, 38], 26) := by decide +kernel
theorem dX6_valueOfBuiltIn_36 : decode cX6_valueOfBuiltIn 36 = .ok (.aload_n 0, 1) := by decide +kernel
theorem dX6_valueOfBuiltIn_37 : decode cX6_valueOfBuiltIn 37 = .ok (.iload_n 2, 1) := by decide +kernel
theorem dX6_valueOfBuiltIn_38 : decode cX6_valueOfBuiltIn 38 = .ok (.invokevirtual 127, 3) := by decide +kernel
theorem dX6_valueOfBuiltIn_41 : decode cX6_valueOfBuiltIn 41 = .ok (.ireturn, 1) := by decide +kernel
theorem dX6_valueOfBuiltIn_42 : decode cX6_valueOfBuiltIn 42 = .ok (.aload_n 0, 1) := by decide +kernel
theorem dX6_valueOfBuiltIn_43 : decode cX6_valueOfBuiltIn 43 = .ok (.iload_n 2, 1) := by decide +kernel
theorem dX6_valueOfBuiltIn_44 : decode cX6_valueOfBuiltIn 44 = .ok (.invokevirtual 131, 3) := by decide +kernel
theorem dX6_valueOfBuiltIn_47 : decode cX6_valueOfBuiltIn 47 = .ok (.ireturn, 1) := by decide +kernel
theorem dX6_valueOfBuiltIn_48 : decode cX6_valueOfBuiltIn 48 = .ok (.aload_n 0, 1) := by decide +kernel
theorem dX6_valueOfBuiltIn_49 : decode cX6_valueOfBuiltIn 49 = .ok (.iload_n 2, 1) := by decide +kernel
theorem dX6_valueOfBuiltIn_50 : decode cX6_valueOfBuiltIn 50 = .ok (.invokevirtual 134, 3) := by decide +kernel
theorem dX6_valueOfBuiltIn_53 : decode cX6_valueOfBuiltIn 53 = .ok (.ireturn, 1) := by decide +kernel
theorem dX6_valueOfBuiltIn_54 : decode cX6_valueOfBuiltIn 54 = .ok (.aload_n 0, 1) := by decide +kernel
theorem dX6_valueOfBuiltIn_55 : decode cX6_valueOfBuiltIn 55 = .ok (.iload_n 2, 1) := by decide +kernel
theorem dX6_valueOfBuiltIn_56 : decode cX6_valueOfBuiltIn 56 = .ok (.invokevirtual 137, 3) := by decide +kernel
theorem dX6_valueOfBuiltIn_59 : decode cX6_valueOfBuiltIn 59 = .ok (.ireturn, 1) := by decide +kernel
theorem dX6_sumOfHanded_0 : decode cX6_sumOfHanded 0 = .ok (.iconst 0, 1) := by decide +kernel
theorem dX6_sumOfHanded_1 : decode cX6_sumOfHanded 1 = .ok (.istore_n 2, 1) := by decide +kernel
theorem dX6_sumOfHanded_2 : decode cX6_sumOfHanded 2 = .ok (.iconst 0, 1) := by decide +kernel
theorem dX6_sumOfHanded_3 : decode cX6_sumOfHanded 3 = .ok (.istore_n 3, 1) := by decide +kernel
theorem dX6_sumOfHanded_4 : decode cX6_sumOfHanded 4 = .ok (.iload_n 3, 1) := by decide +kernel
theorem dX6_sumOfHanded_5 : decode cX6_sumOfHanded 5 = .ok (.iload_n 1, 1) := by decide +kernel
theorem dX6_sumOfHanded_6 : decode cX6_sumOfHanded 6 = .ok (.if_icmp .ge 18, 3) := by decide +kernel
theorem dX6_sumOfHanded_9 : decode cX6_sumOfHanded 9 = .ok (.iload_n 2, 1) := by decide +kernel
theorem dX6_sumOfHanded_10 : decode cX6_sumOfHanded 10 = .ok (.aload_n 0, 1) := by decide +kernel
theorem dX6_sumOfHanded_11 : decode cX6_sumOfHanded 11 = .ok (.getfield 28, 3) := by decide +kernel
theorem dX6_sumOfHanded_14 : decode cX6_sumOfHanded 14 = .ok (.iload_n 3, 1) := by decide +kernel
theorem dX6_sumOfHanded_15 : decode cX6_sumOfHanded 15 = .ok (.iaload, 1) := by decide +kernel
theorem dX6_sumOfHanded_16 : decode cX6_sumOfHanded 16 = .ok (.iadd, 1) := by decide +kernel
theorem dX6_sumOfHanded_17 : decode cX6_sumOfHanded 17 = .ok (.istore_n 2, 1) := by decide +kernel
theorem dX6_sumOfHanded_18 : decode cX6_sumOfHanded 18 = .ok (.iinc 3 1, 3) := by decide +kernel
theorem dX6_sumOfHanded_21 : decode cX6_sumOfHanded 21 = .ok (.goto (-17), 3) := by decide +kernel
theorem dX6_sumOfHanded_24 : decode cX6_sumOfHanded 24 = .ok (.iload_n 2, 1) := by decide +kernel
theorem dX6_sumOfHanded_25 : decode cX6_sumOfHanded 25 = .ok (.ireturn, 1) := by decide +kernel
theorem dX6_greatestOfHanded_0 : decode cX6_greatestOfHanded 0 = .ok (.iload_n 1, 1) := by decide +kernel
theorem dX6_greatestOfHanded_1 : decode cX6_greatestOfHanded 1 = .ok (.ifCond .ne 7, 3) := by decide +kernel
theorem dX6_greatestOfHanded_4 : decode cX6_greatestOfHanded 4 = .ok (.iconst 0, 1) := by decide +kernel
theorem dX6_greatestOfHanded_5 : decode cX6_greatestOfHanded 5 = .ok (.goto 9, 3) := by decide +kernel
theorem dX6_greatestOfHanded_8 : decode cX6_greatestOfHanded 8 = .ok (.aload_n 0, 1) := by decide +kernel
theorem dX6_greatestOfHanded_9 : decode cX6_greatestOfHanded 9 = .ok (.getfield 28, 3) := by decide +kernel
theorem dX6_greatestOfHanded_12 : decode cX6_greatestOfHanded 12 = .ok (.iconst 0, 1) := by decide +kernel
theorem dX6_greatestOfHanded_13 : decode cX6_greatestOfHanded 13 = .ok (.iaload, 1) := by decide +kernel
theorem dX6_greatestOfHanded_14 : decode cX6_greatestOfHanded 14 = .ok (.istore_n 2, 1) := by decide +kernel
theorem dX6_greatestOfHanded_15 : decode cX6_greatestOfHanded 15 = .ok (.iconst 1, 1) := by decide +kernel
theorem dX6_greatestOfHanded_16 : decode cX6_greatestOfHanded 16 = .ok (.istore_n 3, 1) := by decide +kernel
theorem dX6_greatestOfHanded_17 : decode cX6_greatestOfHanded 17 = .ok (.iload_n 3, 1) := by decide +kernel
theorem dX6_greatestOfHanded_18 : decode cX6_greatestOfHanded 18 = .ok (.iload_n 1, 1) := by decide +kernel
theorem dX6_greatestOfHanded_19 : decode cX6_greatestOfHanded 19 = .ok (.if_icmp .ge 20, 3) := by decide +kernel
theorem dX6_greatestOfHanded_22 : decode cX6_greatestOfHanded 22 = .ok (.iload_n 2, 1) := by decide +kernel
theorem dX6_greatestOfHanded_23 : decode cX6_greatestOfHanded 23 = .ok (.aload_n 0, 1) := by decide +kernel
theorem dX6_greatestOfHanded_24 : decode cX6_greatestOfHanded 24 = .ok (.getfield 28, 3) := by decide +kernel
theorem dX6_greatestOfHanded_27 : decode cX6_greatestOfHanded 27 = .ok (.iload_n 3, 1) := by decide +kernel
theorem dX6_greatestOfHanded_28 : decode cX6_greatestOfHanded 28 = .ok (.iaload, 1) := by decide +kernel
theorem dX6_greatestOfHanded_29 : decode cX6_greatestOfHanded 29 = .ok (.invokestatic 140, 3) := by decide +kernel
theorem dX6_greatestOfHanded_32 : decode cX6_greatestOfHanded 32 = .ok (.istore_n 2, 1) := by decide +kernel
theorem dX6_greatestOfHanded_33 : decode cX6_greatestOfHanded 33 = .ok (.iinc 3 1, 3) := by decide +kernel
theorem dX6_greatestOfHanded_36 : decode cX6_greatestOfHanded 36 = .ok (.goto (-19), 3) := by decide +kernel
theorem dX6_greatestOfHanded_39 : decode cX6_greatestOfHanded 39 = .ok (.iload_n 2, 1) := by decide +kernel
theorem dX6_greatestOfHanded_40 : decode cX6_greatestOfHanded 40 = .ok (.ireturn, 1) := by decide +kernel
theorem dX6_handedNotZero_0 : decode cX6_handedNotZero 0 = .ok (.iconst 0, 1) := by decide +kernel
theorem dX6_handedNotZero_1 : decode cX6_handedNotZero 1 = .ok (.istore_n 2, 1) := by decide +kernel
theorem dX6_handedNotZero_2 : decode cX6_handedNotZero 2 = .ok (.iconst 0, 1) := by decide +kernel
theorem dX6_handedNotZero_3 : decode cX6_handedNotZero 3 = .ok (.istore_n 3, 1) := by decide +kernel
theorem dX6_handedNotZero_4 : decode cX6_handedNotZero 4 = .ok (.iload_n 3, 1) := by decide +kernel
theorem dX6_handedNotZero_5 : decode cX6_handedNotZero 5 = .ok (.iload_n 1, 1) := by decide +kernel
theorem dX6_handedNotZero_6 : decode cX6_handedNotZero 6 = .ok (.if_icmp .ge 21, 3) := by decide +kernel
theorem dX6_handedNotZero_9 : decode cX6_handedNotZero 9 = .ok (.aload_n 0, 1) := by decide +kernel
theorem dX6_handedNotZero_10 : decode cX6_handedNotZero 10 = .ok (.getfield 28, 3) := by decide +kernel
theorem dX6_handedNotZero_13 : decode cX6_handedNotZero 13 = .ok (.iload_n 3, 1) := by decide +kernel
theorem dX6_handedNotZero_14 : decode cX6_handedNotZero 14 = .ok (.iaload, 1) := by decide +kernel
theorem dX6_handedNotZero_15 : decode cX6_handedNotZero 15 = .ok (.ifCond .eq 6, 3) := by decide +kernel
theorem dX6_handedNotZero_18 : decode cX6_handedNotZero 18 = .ok (.iinc 2 1, 3) := by decide +kernel
theorem dX6_handedNotZero_21 : decode cX6_handedNotZero 21 = .ok (.iinc 3 1, 3) := by decide +kernel
theorem dX6_handedNotZero_24 : decode cX6_handedNotZero 24 = .ok (.goto (-20), 3) := by decide +kernel
theorem dX6_handedNotZero_27 : decode cX6_handedNotZero 27 = .ok (.iload_n 2, 1) := by decide +kernel
theorem dX6_handedNotZero_28 : decode cX6_handedNotZero 28 = .ok (.ireturn, 1) := by decide +kernel
theorem dX6_byteAtFirstHanded_0 : decode cX6_byteAtFirstHanded 0 = .ok (.iload_n 1, 1) := by decide +kernel
theorem dX6_byteAtFirstHanded_1 : decode cX6_byteAtFirstHanded 1 = .ok (.ifCond .eq 15, 3) := by decide +kernel
theorem dX6_byteAtFirstHanded_4 : decode cX6_byteAtFirstHanded 4 = .ok (.aload_n 0, 1) := by decide +kernel
theorem dX6_byteAtFirstHanded_5 : decode cX6_byteAtFirstHanded 5 = .ok (.getfield 28, 3) := by decide +kernel
theorem dX6_byteAtFirstHanded_8 : decode cX6_byteAtFirstHanded 8 = .ok (.iconst 0, 1) := by decide +kernel
theorem dX6_byteAtFirstHanded_9 : decode cX6_byteAtFirstHanded 9 = .ok (.iaload, 1) := by decide +kernel
theorem dX6_byteAtFirstHanded_10 : decode cX6_byteAtFirstHanded 10 = .ok (.invokestatic 145, 3) := by decide +kernel
theorem dX6_byteAtFirstHanded_13 : decode cX6_byteAtFirstHanded 13 = .ok (.ifCond .ne 10, 3) := by decide +kernel
theorem dX6_byteAtFirstHanded_16 : decode cX6_byteAtFirstHanded 16 = .ok (.aload_n 0, 1) := by decide +kernel
theorem dX6_byteAtFirstHanded_17 : decode cX6_byteAtFirstHanded 17 = .ok (.iconst 1, 1) := by decide +kernel
theorem dX6_byteAtFirstHanded_18 : decode cX6_byteAtFirstHanded 18 = .ok (.invokevirtual 97, 3) := by decide +kernel
theorem dX6_byteAtFirstHanded_21 : decode cX6_byteAtFirstHanded 21 = .ok (.iconst 0, 1) := by decide +kernel
theorem dX6_byteAtFirstHanded_22 : decode cX6_byteAtFirstHanded 22 = .ok (.ireturn, 1) := by decide +kernel
theorem dX6_byteAtFirstHanded_23 : decode cX6_byteAtFirstHanded 23 = .ok (.aload_n 0, 1) := by decide +kernel
theorem dX6_byteAtFirstHanded_24 : decode cX6_byteAtFirstHanded 24 = .ok (.getfield 39, 3) := by decide +kernel
theorem dX6_byteAtFirstHanded_27 : decode cX6_byteAtFirstHanded 27 = .ok (.getfield 106, 3) := by decide +kernel
theorem dX6_byteAtFirstHanded_30 : decode cX6_byteAtFirstHanded 30 = .ok (.aload_n 0, 1) := by decide +kernel
theorem dX6_byteAtFirstHanded_31 : decode cX6_byteAtFirstHanded 31 = .ok (.getfield 28, 3) := by decide +kernel
theorem dX6_byteAtFirstHanded_34 : decode cX6_byteAtFirstHanded 34 = .ok (.iconst 0, 1) := by decide +kernel
theorem dX6_byteAtFirstHanded_35 : decode cX6_byteAtFirstHanded 35 = .ok (.iaload, 1) := by decide +kernel
theorem dX6_byteAtFirstHanded_36 : decode cX6_byteAtFirstHanded 36 = .ok (.iaload, 1) := by decide +kernel
theorem dX6_byteAtFirstHanded_37 : decode cX6_byteAtFirstHanded 37 = .ok (.ireturn, 1) := by decide +kernel
theorem dX6_spendStep_0 : decode cX6_spendStep 0 = .ok (.aload_n 0, 1) := by decide +kernel
theorem dX6_spendStep_1 : decode cX6_spendStep 1 = .ok (.getfield 65, 3) := by decide +kernel
theorem dX6_spendStep_4 : decode cX6_spendStep 4 = .ok (.sipush 400, 3) := by decide +kernel
theorem dX6_spendStep_7 : decode cX6_spendStep 7 = .ok (.if_icmp .lt 10, 3) := by decide +kernel
theorem dX6_spendStep_10 : decode cX6_spendStep 10 = .ok (.aload_n 0, 1) := by decide +kernel
theorem dX6_spendStep_11 : decode cX6_spendStep 11 = .ok (.iconst 5, 1) := by decide +kernel
theorem dX6_spendStep_12 : decode cX6_spendStep 12 = .ok (.invokevirtual 97, 3) := by decide +kernel
theorem dX6_spendStep_15 : decode cX6_spendStep 15 = .ok (.iconst 0, 1) := by decide +kernel
theorem dX6_spendStep_16 : decode cX6_spendStep 16 = .ok (.ireturn, 1) := by decide +kernel
theorem dX6_spendStep_17 : decode cX6_spendStep 17 = .ok (.aload_n 0, 1) := by decide +kernel
theorem dX6_spendStep_18 : decode cX6_spendStep 18 = .ok (.dup, 1) := by decide +kernel
theorem dX6_spendStep_19 : decode cX6_spendStep 19 = .ok (.getfield 65, 3) := by decide +kernel
theorem dX6_spendStep_22 : decode cX6_spendStep 22 = .ok (.iconst 1, 1) := by decide +kernel
theorem dX6_spendStep_23 : decode cX6_spendStep 23 = .ok (.iadd, 1) := by decide +kernel
theorem dX6_spendStep_24 : decode cX6_spendStep 24 = .ok (.putfield 65, 3) := by decide +kernel
theorem dX6_spendStep_27 : decode cX6_spendStep 27 = .ok (.aload_n 0, 1) := by decide +kernel
theorem dX6_spendStep_28 : decode cX6_spendStep 28 = .ok (.getfield 50, 3) := by decide +kernel
theorem dX6_spendStep_31 : decode cX6_spendStep 31 = .ok (.iconst 2, 1) := by decide +kernel
theorem dX6_spendStep_32 : decode cX6_spendStep 32 = .ok (.dup2, 1) := by decide +kernel
theorem dX6_spendStep_33 : decode cX6_spendStep 33 = .ok (.iaload, 1) := by decide +kernel
theorem dX6_spendStep_34 : decode cX6_spendStep 34 = .ok (.iconst 1, 1) := by decide +kernel
theorem dX6_spendStep_35 : decode cX6_spendStep 35 = .ok (.iadd, 1) := by decide +kernel
theorem dX6_spendStep_36 : decode cX6_spendStep 36 = .ok (.iastore, 1) := by decide +kernel
theorem dX6_spendStep_37 : decode cX6_spendStep 37 = .ok (.iconst 1, 1) := by decide +kernel
theorem dX6_spendStep_38 : decode cX6_spendStep 38 = .ok (.ireturn, 1) := by decide +kernel
theorem dX6_fetch_0 : decode cX6_fetch 0 = .ok (.aload_n 0, 1) := by decide +kernel
theorem dX6_fetch_1 : decode cX6_fetch 1 = .ok (.aload_n 1, 1) := by decide +kernel
theorem dX6_fetch_2 : decode cX6_fetch 2 = .ok (.getfield 148, 3) := by decide +kernel
theorem dX6_fetch_5 : decode cX6_fetch 5 = .ok (.putfield 68, 3) := by decide +kernel
theorem dX6_fetch_8 : decode cX6_fetch 8 = .ok (.aload_n 0, 1) := by decide +kernel
theorem dX6_fetch_9 : decode cX6_fetch 9 = .ok (.aload_n 1, 1) := by decide +kernel
theorem dX6_fetch_10 : decode cX6_fetch 10 = .ok (.getfield 151, 3) := by decide +kernel
theorem dX6_fetch_13 : decode cX6_fetch 13 = .ok (.putfield 71, 3) := by decide +kernel
theorem dX6_fetch_16 : decode cX6_fetch 16 = .ok (.aload_n 0, 1) := by decide +kernel
theorem dX6_fetch_17 : decode cX6_fetch 17 = .ok (.invokevirtual 123, 3) := by decide +kernel
theorem dX6_fetch_20 : decode cX6_fetch 20 = .ok (.ifCond .ne 5, 3) := by decide +kernel
theorem dX6_fetch_23 : decode cX6_fetch 23 = .ok (.iconst 0, 1) := by decide +kernel
theorem dX6_fetch_24 : decode cX6_fetch 24 = .ok (.ireturn, 1) := by decide +kernel
theorem dX6_fetch_25 : decode cX6_fetch 25 = .ok (.aload_n 1, 1) := by decide +kernel
theorem dX6_fetch_26 : decode cX6_fetch 26 = .ok (.invokevirtual 154, 3) := by decide +kernel
theorem dX6_fetch_29 : decode cX6_fetch 29 = .ok (.ifCond .eq 38, 3) := by decide +kernel
theorem dX6_fetch_32 : decode cX6_fetch 32 = .ok (.aload_n 0, 1) := by decide +kernel
theorem dX6_fetch_33 : decode cX6_fetch 33 = .ok (.getfield 50, 3) := by decide +kernel
theorem dX6_fetch_36 : decode cX6_fetch 36 = .ok (.iconst 3, 1) := by decide +kernel
theorem dX6_fetch_37 : decode cX6_fetch 37 = .ok (.dup2, 1) := by decide +kernel
theorem dX6_fetch_38 : decode cX6_fetch 38 = .ok (.iaload, 1) := by decide +kernel
theorem dX6_fetch_39 : decode cX6_fetch 39 = .ok (.iconst 1, 1) := by decide +kernel
theorem dX6_fetch_40 : decode cX6_fetch 40 = .ok (.iadd, 1) := by decide +kernel
theorem dX6_fetch_41 : decode cX6_fetch 41 = .ok (.iastore, 1) := by decide +kernel
theorem dX6_fetch_42 : decode cX6_fetch 42 = .ok (.aload_n 0, 1) := by decide +kernel
theorem dX6_fetch_43 : decode cX6_fetch 43 = .ok (.aload_n 1, 1) := by decide +kernel
theorem dX6_fetch_44 : decode cX6_fetch 44 = .ok (.getfield 119, 3) := by decide +kernel
theorem dX6_fetch_47 : decode cX6_fetch 47 = .ok (.getfield 157, 3) := by decide +kernel
theorem dX6_fetch_50 : decode cX6_fetch 50 = .ok (.putfield 36, 3) := by decide +kernel
theorem dX6_fetch_53 : decode cX6_fetch 53 = .ok (.aload_n 0, 1) := by decide +kernel
theorem dX6_fetch_54 : decode cX6_fetch 54 = .ok (.aload_n 1, 1) := by decide +kernel
theorem dX6_fetch_55 : decode cX6_fetch 55 = .ok (.getfield 160, 3) := by decide +kernel
theorem dX6_fetch_58 : decode cX6_fetch 58 = .ok (.bipush 11, 2) := by decide +kernel
theorem dX6_fetch_60 : decode cX6_fetch 60 = .ok (.imul, 1) := by decide +kernel
theorem dX6_fetch_61 : decode cX6_fetch 61 = .ok (.putfield 163, 3) := by decide +kernel
theorem dX6_fetch_64 : decode cX6_fetch 64 = .ok (.goto 53, 3) := by decide +kernel
theorem dX6_fetch_67 : decode cX6_fetch 67 = .ok (.aload_n 0, 1) := by decide +kernel
theorem dX6_fetch_68 : decode cX6_fetch 68 = .ok (.aload_n 0, 1) := by decide +kernel
theorem dX6_fetch_69 : decode cX6_fetch 69 = .ok (.getfield 33, 3) := by decide +kernel
theorem dX6_fetch_72 : decode cX6_fetch 72 = .ok (.putfield 36, 3) := by decide +kernel
theorem dX6_fetch_75 : decode cX6_fetch 75 = .ok (.aload_n 0, 1) := by decide +kernel
theorem dX6_fetch_76 : decode cX6_fetch 76 = .ok (.iconst 0, 1) := by decide +kernel
theorem dX6_fetch_77 : decode cX6_fetch 77 = .ok (.putfield 163, 3) := by decide +kernel
theorem dX6_fetch_80 : decode cX6_fetch 80 = .ok (.aload_n 0, 1) := by decide +kernel
theorem dX6_fetch_81 : decode cX6_fetch 81 = .ok (.getfield 39, 3) := by decide +kernel
theorem dX6_fetch_84 : decode cX6_fetch 84 = .ok (.aload_n 1, 1) := by decide +kernel
theorem dX6_fetch_85 : decode cX6_fetch 85 = .ok (.getfield 148, 3) := by decide +kernel
theorem dX6_fetch_88 : decode cX6_fetch 88 = .ok (.aload_n 1, 1) := by decide +kernel
theorem dX6_fetch_89 : decode cX6_fetch 89 = .ok (.getfield 151, 3) := by decide +kernel
theorem dX6_fetch_92 : decode cX6_fetch 92 = .ok (.iadd, 1) := by decide +kernel
theorem dX6_fetch_93 : decode cX6_fetch 93 = .ok (.aload_n 1, 1) := by decide +kernel
theorem dX6_fetch_94 : decode cX6_fetch 94 = .ok (.getfield 166, 3) := by decide +kernel
theorem dX6_fetch_97 : decode cX6_fetch 97 = .ok (.aload_n 0, 1) := by decide +kernel
theorem dX6_fetch_98 : decode cX6_fetch 98 = .ok (.getfield 33, 3) := by decide +kernel
theorem dX6_fetch_101 : decode cX6_fetch 101 = .ok (.iconst 0, 1) := by decide +kernel
theorem dX6_fetch_102 : decode cX6_fetch 102 = .ok (.invokevirtual 169, 3) := by decide +kernel
theorem dX6_fetch_105 : decode cX6_fetch 105 = .ok (.istore_n 2, 1) := by decide +kernel
theorem dX6_fetch_106 : decode cX6_fetch 106 = .ok (.iload_n 2, 1) := by decide +kernel
theorem dX6_fetch_107 : decode cX6_fetch 107 = .ok (.ifCond .eq 10, 3) := by decide +kernel
theorem dX6_fetch_110 : decode cX6_fetch 110 = .ok (.aload_n 0, 1) := by decide +kernel
theorem dX6_fetch_111 : decode cX6_fetch 111 = .ok (.iload_n 2, 1) := by decide +kernel
theorem dX6_fetch_112 : decode cX6_fetch 112 = .ok (.invokevirtual 97, 3) := by decide +kernel
theorem dX6_fetch_115 : decode cX6_fetch 115 = .ok (.iconst 0, 1) := by decide +kernel
theorem dX6_fetch_116 : decode cX6_fetch 116 = .ok (.ireturn, 1) := by decide +kernel
theorem dX6_fetch_117 : decode cX6_fetch 117 = .ok (.aload_n 1, 1) := by decide +kernel
theorem dX6_fetch_118 : decode cX6_fetch 118 = .ok (.dup, 1) := by decide +kernel
theorem dX6_fetch_119 : decode cX6_fetch 119 = .ok (.getfield 151, 3) := by decide +kernel
theorem dX6_fetch_122 : decode cX6_fetch 122 = .ok (.aload_n 0, 1) := by decide +kernel
theorem dX6_fetch_123 : decode cX6_fetch 123 = .ok (.getfield 36, 3) := by decide +kernel
theorem dX6_fetch_126 : decode cX6_fetch 126 = .ok (.aload_n 0, 1) := by decide +kernel
theorem dX6_fetch_127 : decode cX6_fetch 127 = .ok (.getfield 163, 3) := by decide +kernel
theorem dX6_fetch_130 : decode cX6_fetch 130 = .ok (.bipush 8, 2) := by decide +kernel
theorem dX6_fetch_132 : decode cX6_fetch 132 = .ok (.iadd, 1) := by decide +kernel
theorem dX6_fetch_133 : decode cX6_fetch 133 = .ok (.iaload, 1) := by decide +kernel
theorem dX6_fetch_134 : decode cX6_fetch 134 = .ok (.iadd, 1) := by decide +kernel
theorem dX6_fetch_135 : decode cX6_fetch 135 = .ok (.putfield 151, 3) := by decide +kernel
theorem dX6_fetch_138 : decode cX6_fetch 138 = .ok (.aload_n 1, 1) := by decide +kernel
theorem dX6_fetch_139 : decode cX6_fetch 139 = .ok (.dup, 1) := by decide +kernel
theorem dX6_fetch_140 : decode cX6_fetch 140 = .ok (.getfield 160, 3) := by decide +kernel
theorem dX6_fetch_143 : decode cX6_fetch 143 = .ok (.iconst 1, 1) := by decide +kernel
theorem dX6_fetch_144 : decode cX6_fetch 144 = .ok (.iadd, 1) := by decide +kernel
theorem dX6_fetch_145 : decode cX6_fetch 145 = .ok (.putfield 160, 3) := by decide +kernel
theorem dX6_fetch_148 : decode cX6_fetch 148 = .ok (.iconst 1, 1) := by decide +kernel
theorem dX6_fetch_149 : decode cX6_fetch 149 = .ok (.ireturn, 1) := by decide +kernel
theorem dX6_carryOut_0 : decode cX6_carryOut 0 = .ok (.aload_n 0, 1) := by decide +kernel
theorem dX6_carryOut_1 : decode cX6_carryOut 1 = .ok (.getfield 36, 3) := by decide +kernel
theorem dX6_carryOut_4 : decode cX6_carryOut 4 = .ok (.aload_n 0, 1) := by decide +kernel
theorem dX6_carryOut_5 : decode cX6_carryOut 5 = .ok (.getfield 163, 3) := by decide +kernel
theorem dX6_carryOut_8 : decode cX6_carryOut 8 = .ok (.iaload, 1) := by decide +kernel
theorem dX6_carryOut_9 : decode cX6_carryOut 9 = .ok (.istore_n 2, 1) := by decide +kernel
theorem dX6_carryOut_10 : decode cX6_carryOut 10 = .ok (.aload_n 0, 1) := by decide +kernel
theorem dX6_carryOut_11 : decode cX6_carryOut 11 = .ok (.getfield 36, 3) := by decide +kernel
theorem dX6_carryOut_14 : decode cX6_carryOut 14 = .ok (.aload_n 0, 1) := by decide +kernel
theorem dX6_carryOut_15 : decode cX6_carryOut 15 = .ok (.getfield 163, 3) := by decide +kernel
theorem dX6_carryOut_18 : decode cX6_carryOut 18 = .ok (.iconst 1, 1) := by decide +kernel
theorem dX6_carryOut_19 : decode cX6_carryOut 19 = .ok (.iadd, 1) := by decide +kernel
theorem dX6_carryOut_20 : decode cX6_carryOut 20 = .ok (.iaload, 1) := by decide +kernel
theorem dX6_carryOut_21 : decode cX6_carryOut 21 = .ok (.istore_n 3, 1) := by decide +kernel
theorem dX6_carryOut_22 : decode cX6_carryOut 22 = .ok (.aload_n 0, 1) := by decide +kernel
theorem dX6_carryOut_23 : decode cX6_carryOut 23 = .ok (.getfield 36, 3) := by decide +kernel
theorem dX6_carryOut_26 : decode cX6_carryOut 26 = .ok (.aload_n 0, 1) := by decide +kernel
theorem dX6_carryOut_27 : decode cX6_carryOut 27 = .ok (.getfield 163, 3) := by decide +kernel
theorem dX6_carryOut_30 : decode cX6_carryOut 30 = .ok (.iconst 2, 1) := by decide +kernel
theorem dX6_carryOut_31 : decode cX6_carryOut 31 = .ok (.iadd, 1) := by decide +kernel
theorem dX6_carryOut_32 : decode cX6_carryOut 32 = .ok (.iaload, 1) := by decide +kernel
theorem dX6_carryOut_33 : decode cX6_carryOut 33 = .ok (.istore 4, 2) := by decide +kernel
theorem dX6_carryOut_35 : decode cX6_carryOut 35 = .ok (.iload_n 2, 1) := by decide +kernel
theorem dX6_carryOut_36 : decode cX6_carryOut 36 = .ok (.tableswitch 302 0 15 #[80, 93, 302, 302, 302, 302, 302, 109, 125, 145, 154, 189, 224, 257, 270, 294], 80) := by decide +kernel
theorem dX6_carryOut_116 : decode cX6_carryOut 116 = .ok (.aload_n 0, 1) := by decide +kernel
theorem dX6_carryOut_117 : decode cX6_carryOut 117 = .ok (.aload_n 0, 1) := by decide +kernel
theorem dX6_carryOut_118 : decode cX6_carryOut 118 = .ok (.aload_n 1, 1) := by decide +kernel
theorem dX6_carryOut_119 : decode cX6_carryOut 119 = .ok (.iload_n 3, 1) := by decide +kernel
theorem dX6_carryOut_120 : decode cX6_carryOut 120 = .ok (.invokevirtual 173, 3) := by decide +kernel
theorem dX6_carryOut_123 : decode cX6_carryOut 123 = .ok (.invokevirtual 177, 3) := by decide +kernel
theorem dX6_carryOut_126 : decode cX6_carryOut 126 = .ok (.goto 219, 3) := by decide +kernel
theorem dX6_carryOut_129 : decode cX6_carryOut 129 = .ok (.aload_n 0, 1) := by decide +kernel
theorem dX6_carryOut_130 : decode cX6_carryOut 130 = .ok (.aload_n 1, 1) := by decide +kernel
theorem dX6_carryOut_131 : decode cX6_carryOut 131 = .ok (.iload_n 3, 1) := by decide +kernel
theorem dX6_carryOut_132 : decode cX6_carryOut 132 = .ok (.aload_n 0, 1) := by decide +kernel
theorem dX6_carryOut_133 : decode cX6_carryOut 133 = .ok (.aload_n 1, 1) := by decide +kernel
theorem dX6_carryOut_134 : decode cX6_carryOut 134 = .ok (.iload 4, 2) := by decide +kernel
theorem dX6_carryOut_136 : decode cX6_carryOut 136 = .ok (.invokevirtual 173, 3) := by decide +kernel
theorem dX6_carryOut_139 : decode cX6_carryOut 139 = .ok (.invokevirtual 180, 3) := by decide +kernel
theorem dX6_carryOut_142 : decode cX6_carryOut 142 = .ok (.goto 203, 3) := by decide +kernel
theorem dX6_carryOut_145 : decode cX6_carryOut 145 = .ok (.aload_n 0, 1) := by decide +kernel
theorem dX6_carryOut_146 : decode cX6_carryOut 146 = .ok (.aload_n 1, 1) := by decide +kernel
theorem dX6_carryOut_147 : decode cX6_carryOut 147 = .ok (.iload_n 3, 1) := by decide +kernel
theorem dX6_carryOut_148 : decode cX6_carryOut 148 = .ok (.aload_n 0, 1) := by decide +kernel
theorem dX6_carryOut_149 : decode cX6_carryOut 149 = .ok (.aload_n 1, 1) := by decide +kernel
theorem dX6_carryOut_150 : decode cX6_carryOut 150 = .ok (.iload 4, 2) := by decide +kernel
theorem dX6_carryOut_152 : decode cX6_carryOut 152 = .ok (.invokevirtual 173, 3) := by decide +kernel
theorem dX6_carryOut_155 : decode cX6_carryOut 155 = .ok (.invokevirtual 184, 3) := by decide +kernel
theorem dX6_carryOut_158 : decode cX6_carryOut 158 = .ok (.goto 187, 3) := by decide +kernel
theorem dX6_carryOut_161 : decode cX6_carryOut 161 = .ok (.aload_n 0, 1) := by decide +kernel
theorem dX6_carryOut_162 : decode cX6_carryOut 162 = .ok (.aload_n 0, 1) := by decide +kernel
theorem dX6_carryOut_163 : decode cX6_carryOut 163 = .ok (.aload_n 1, 1) := by decide +kernel
theorem dX6_carryOut_164 : decode cX6_carryOut 164 = .ok (.iload_n 3, 1) := by decide +kernel
theorem dX6_carryOut_165 : decode cX6_carryOut 165 = .ok (.invokevirtual 173, 3) := by decide +kernel
theorem dX6_carryOut_168 : decode cX6_carryOut 168 = .ok (.aload_n 0, 1) := by decide +kernel
theorem dX6_carryOut_169 : decode cX6_carryOut 169 = .ok (.aload_n 1, 1) := by decide +kernel
theorem dX6_carryOut_170 : decode cX6_carryOut 170 = .ok (.iload 4, 2) := by decide +kernel
theorem dX6_carryOut_172 : decode cX6_carryOut 172 = .ok (.invokevirtual 173, 3) := by decide +kernel
theorem dX6_carryOut_175 : decode cX6_carryOut 175 = .ok (.invokevirtual 187, 3) := by decide +kernel
theorem dX6_carryOut_178 : decode cX6_carryOut 178 = .ok (.goto 167, 3) := by decide +kernel
theorem dX6_carryOut_181 : decode cX6_carryOut 181 = .ok (.aload_n 0, 1) := by decide +kernel
theorem dX6_carryOut_182 : decode cX6_carryOut 182 = .ok (.aload_n 1, 1) := by decide +kernel
theorem dX6_carryOut_183 : decode cX6_carryOut 183 = .ok (.iload_n 3, 1) := by decide +kernel
theorem dX6_carryOut_184 : decode cX6_carryOut 184 = .ok (.invokevirtual 190, 3) := by decide +kernel
theorem dX6_carryOut_187 : decode cX6_carryOut 187 = .ok (.goto 158, 3) := by decide +kernel
theorem dX6_carryOut_190 : decode cX6_carryOut 190 = .ok (.aload_n 0, 1) := by decide +kernel
theorem dX6_carryOut_191 : decode cX6_carryOut 191 = .ok (.aload_n 1, 1) := by decide +kernel
theorem dX6_carryOut_192 : decode cX6_carryOut 192 = .ok (.iload_n 3, 1) := by decide +kernel
theorem dX6_carryOut_193 : decode cX6_carryOut 193 = .ok (.invokevirtual 173, 3) := by decide +kernel
theorem dX6_carryOut_196 : decode cX6_carryOut 196 = .ok (.aload_n 0, 1) := by decide +kernel
theorem dX6_carryOut_197 : decode cX6_carryOut 197 = .ok (.aload_n 1, 1) := by decide +kernel
theorem dX6_carryOut_198 : decode cX6_carryOut 198 = .ok (.iload 4, 2) := by decide +kernel
theorem dX6_carryOut_200 : decode cX6_carryOut 200 = .ok (.invokevirtual 173, 3) := by decide +kernel
theorem dX6_carryOut_203 : decode cX6_carryOut 203 = .ok (.if_icmp .ge 142, 3) := by decide +kernel
theorem dX6_carryOut_206 : decode cX6_carryOut 206 = .ok (.aload_n 0, 1) := by decide +kernel
theorem dX6_carryOut_207 : decode cX6_carryOut 207 = .ok (.aload_n 1, 1) := by decide +kernel
theorem dX6_carryOut_208 : decode cX6_carryOut 208 = .ok (.aload_n 0, 1) := by decide +kernel
theorem dX6_carryOut_209 : decode cX6_carryOut 209 = .ok (.getfield 36, 3) := by decide +kernel
theorem dX6_carryOut_212 : decode cX6_carryOut 212 = .ok (.aload_n 0, 1) := by decide +kernel
theorem dX6_carryOut_213 : decode cX6_carryOut 213 = .ok (.getfield 163, 3) := by decide +kernel
theorem dX6_carryOut_216 : decode cX6_carryOut 216 = .ok (.iconst 3, 1) := by decide +kernel
theorem dX6_carryOut_217 : decode cX6_carryOut 217 = .ok (.iadd, 1) := by decide +kernel
theorem dX6_carryOut_218 : decode cX6_carryOut 218 = .ok (.iaload, 1) := by decide +kernel
theorem dX6_carryOut_219 : decode cX6_carryOut 219 = .ok (.invokevirtual 190, 3) := by decide +kernel
theorem dX6_carryOut_222 : decode cX6_carryOut 222 = .ok (.goto 123, 3) := by decide +kernel
theorem dX6_carryOut_225 : decode cX6_carryOut 225 = .ok (.aload_n 0, 1) := by decide +kernel
theorem dX6_carryOut_226 : decode cX6_carryOut 226 = .ok (.aload_n 1, 1) := by decide +kernel
theorem dX6_carryOut_227 : decode cX6_carryOut 227 = .ok (.iload_n 3, 1) := by decide +kernel
theorem dX6_carryOut_228 : decode cX6_carryOut 228 = .ok (.invokevirtual 173, 3) := by decide +kernel
theorem dX6_carryOut_231 : decode cX6_carryOut 231 = .ok (.aload_n 0, 1) := by decide +kernel
theorem dX6_carryOut_232 : decode cX6_carryOut 232 = .ok (.aload_n 1, 1) := by decide +kernel
theorem dX6_carryOut_233 : decode cX6_carryOut 233 = .ok (.iload 4, 2) := by decide +kernel
theorem dX6_carryOut_235 : decode cX6_carryOut 235 = .ok (.invokevirtual 173, 3) := by decide +kernel
theorem dX6_carryOut_238 : decode cX6_carryOut 238 = .ok (.if_icmp .ne 107, 3) := by decide +kernel
theorem dX6_carryOut_241 : decode cX6_carryOut 241 = .ok (.aload_n 0, 1) := by decide +kernel
theorem dX6_carryOut_242 : decode cX6_carryOut 242 = .ok (.aload_n 1, 1) := by decide +kernel
theorem dX6_carryOut_243 : decode cX6_carryOut 243 = .ok (.aload_n 0, 1) := by decide +kernel
theorem dX6_carryOut_244 : decode cX6_carryOut 244 = .ok (.getfield 36, 3) := by decide +kernel
theorem dX6_carryOut_247 : decode cX6_carryOut 247 = .ok (.aload_n 0, 1) := by decide +kernel
theorem dX6_carryOut_248 : decode cX6_carryOut 248 = .ok (.getfield 163, 3) := by decide +kernel
theorem dX6_carryOut_251 : decode cX6_carryOut 251 = .ok (.iconst 3, 1) := by decide +kernel
theorem dX6_carryOut_252 : decode cX6_carryOut 252 = .ok (.iadd, 1) := by decide +kernel
theorem dX6_carryOut_253 : decode cX6_carryOut 253 = .ok (.iaload, 1) := by decide +kernel
theorem dX6_carryOut_254 : decode cX6_carryOut 254 = .ok (.invokevirtual 190, 3) := by decide +kernel
theorem dX6_carryOut_257 : decode cX6_carryOut 257 = .ok (.goto 88, 3) := by decide +kernel
theorem dX6_carryOut_260 : decode cX6_carryOut 260 = .ok (.aload_n 0, 1) := by decide +kernel
theorem dX6_carryOut_261 : decode cX6_carryOut 261 = .ok (.aload_n 1, 1) := by decide +kernel
theorem dX6_carryOut_262 : decode cX6_carryOut 262 = .ok (.invokevirtual 194, 3) := by decide +kernel
theorem dX6_carryOut_265 : decode cX6_carryOut 265 = .ok (.aload_n 0, 1) := by decide +kernel
theorem dX6_carryOut_266 : decode cX6_carryOut 266 = .ok (.aload_n 0, 1) := by decide +kernel
theorem dX6_carryOut_267 : decode cX6_carryOut 267 = .ok (.aload_n 1, 1) := by decide +kernel
theorem dX6_carryOut_268 : decode cX6_carryOut 268 = .ok (.iload 4, 2) := by decide +kernel
theorem dX6_carryOut_270 : decode cX6_carryOut 270 = .ok (.invokevirtual 173, 3) := by decide +kernel
theorem dX6_carryOut_273 : decode cX6_carryOut 273 = .ok (.invokestatic 197, 3) := by decide +kernel
theorem dX6_carryOut_276 : decode cX6_carryOut 276 = .ok (.aload_n 0, 1) := by decide +kernel
theorem dX6_carryOut_277 : decode cX6_carryOut 277 = .ok (.getfield 36, 3) := by decide +kernel
theorem dX6_carryOut_280 : decode cX6_carryOut 280 = .ok (.aload_n 0, 1) := by decide +kernel
theorem dX6_carryOut_281 : decode cX6_carryOut 281 = .ok (.getfield 163, 3) := by decide +kernel
theorem dX6_carryOut_284 : decode cX6_carryOut 284 = .ok (.iconst 3, 1) := by decide +kernel
theorem dX6_carryOut_285 : decode cX6_carryOut 285 = .ok (.iadd, 1) := by decide +kernel
theorem dX6_carryOut_286 : decode cX6_carryOut 286 = .ok (.iaload, 1) := by decide +kernel
theorem dX6_carryOut_287 : decode cX6_carryOut 287 = .ok (.invokevirtual 74, 3) := by decide +kernel
theorem dX6_carryOut_290 : decode cX6_carryOut 290 = .ok (.goto 55, 3) := by decide +kernel
theorem dX6_carryOut_293 : decode cX6_carryOut 293 = .ok (.aload_n 0, 1) := by decide +kernel
theorem dX6_carryOut_294 : decode cX6_carryOut 294 = .ok (.aload_n 0, 1) := by decide +kernel
theorem dX6_carryOut_295 : decode cX6_carryOut 295 = .ok (.aload_n 1, 1) := by decide +kernel
theorem dX6_carryOut_296 : decode cX6_carryOut 296 = .ok (.iload_n 3, 1) := by decide +kernel
theorem dX6_carryOut_297 : decode cX6_carryOut 297 = .ok (.invokevirtual 173, 3) := by decide +kernel
theorem dX6_carryOut_300 : decode cX6_carryOut 300 = .ok (.invokevirtual 200, 3) := by decide +kernel
theorem dX6_carryOut_303 : decode cX6_carryOut 303 = .ok (.goto 42, 3) := by decide +kernel
theorem dX6_carryOut_306 : decode cX6_carryOut 306 = .ok (.aload_n 1, 1) := by decide +kernel
theorem dX6_carryOut_307 : decode cX6_carryOut 307 = .ok (.iload_n 3, 1) := by decide +kernel
theorem dX6_carryOut_308 : decode cX6_carryOut 308 = .ok (.putfield 203, 3) := by decide +kernel
theorem dX6_carryOut_311 : decode cX6_carryOut 311 = .ok (.aload_n 1, 1) := by decide +kernel
theorem dX6_carryOut_312 : decode cX6_carryOut 312 = .ok (.aload_n 0, 1) := by decide +kernel
theorem dX6_carryOut_313 : decode cX6_carryOut 313 = .ok (.getfield 36, 3) := by decide +kernel
theorem dX6_carryOut_316 : decode cX6_carryOut 316 = .ok (.aload_n 0, 1) := by decide +kernel
theorem dX6_carryOut_317 : decode cX6_carryOut 317 = .ok (.getfield 163, 3) := by decide +kernel
theorem dX6_carryOut_320 : decode cX6_carryOut 320 = .ok (.bipush 10, 2) := by decide +kernel
theorem dX6_carryOut_322 : decode cX6_carryOut 322 = .ok (.iadd, 1) := by decide +kernel
theorem dX6_carryOut_323 : decode cX6_carryOut 323 = .ok (.iaload, 1) := by decide +kernel
theorem dX6_carryOut_324 : decode cX6_carryOut 324 = .ok (.putfield 206, 3) := by decide +kernel
theorem dX6_carryOut_327 : decode cX6_carryOut 327 = .ok (.goto 18, 3) := by decide +kernel
theorem dX6_carryOut_330 : decode cX6_carryOut 330 = .ok (.aload_n 0, 1) := by decide +kernel
theorem dX6_carryOut_331 : decode cX6_carryOut 331 = .ok (.iconst 0, 1) := by decide +kernel
theorem dX6_carryOut_332 : decode cX6_carryOut 332 = .ok (.invokevirtual 177, 3) := by decide +kernel
theorem dX6_carryOut_335 : decode cX6_carryOut 335 = .ok (.goto 10, 3) := by decide +kernel
theorem dX6_carryOut_338 : decode cX6_carryOut 338 = .ok (.aload_n 0, 1) := by decide +kernel
theorem dX6_carryOut_339 : decode cX6_carryOut 339 = .ok (.aload_n 1, 1) := by decide +kernel
theorem dX6_carryOut_340 : decode cX6_carryOut 340 = .ok (.iload_n 2, 1) := by decide +kernel
theorem dX6_carryOut_341 : decode cX6_carryOut 341 = .ok (.iload_n 3, 1) := by decide +kernel
theorem dX6_carryOut_342 : decode cX6_carryOut 342 = .ok (.invokevirtual 209, 3) := by decide +kernel
theorem dX6_carryOut_345 : decode cX6_carryOut 345 = .ok (.return_, 1) := by decide +kernel
theorem dX6_reckon_0 : decode cX6_reckon 0 = .ok (.aload_n 0, 1) := by decide +kernel
theorem dX6_reckon_1 : decode cX6_reckon 1 = .ok (.aload_n 1, 1) := by decide +kernel
theorem dX6_reckon_2 : decode cX6_reckon 2 = .ok (.aload_n 0, 1) := by decide +kernel
theorem dX6_reckon_3 : decode cX6_reckon 3 = .ok (.getfield 36, 3) := by decide +kernel
theorem dX6_reckon_6 : decode cX6_reckon 6 = .ok (.aload_n 0, 1) := by decide +kernel
theorem dX6_reckon_7 : decode cX6_reckon 7 = .ok (.getfield 163, 3) := by decide +kernel
theorem dX6_reckon_10 : decode cX6_reckon 10 = .ok (.iconst 2, 1) := by decide +kernel
theorem dX6_reckon_11 : decode cX6_reckon 11 = .ok (.iadd, 1) := by decide +kernel
theorem dX6_reckon_12 : decode cX6_reckon 12 = .ok (.iaload, 1) := by decide +kernel
theorem dX6_reckon_13 : decode cX6_reckon 13 = .ok (.invokevirtual 173, 3) := by decide +kernel
theorem dX6_reckon_16 : decode cX6_reckon 16 = .ok (.istore 4, 2) := by decide +kernel
theorem dX6_reckon_18 : decode cX6_reckon 18 = .ok (.aload_n 0, 1) := by decide +kernel
theorem dX6_reckon_19 : decode cX6_reckon 19 = .ok (.aload_n 1, 1) := by decide +kernel
theorem dX6_reckon_20 : decode cX6_reckon 20 = .ok (.aload_n 0, 1) := by decide +kernel
theorem dX6_reckon_21 : decode cX6_reckon 21 = .ok (.getfield 36, 3) := by decide +kernel
theorem dX6_reckon_24 : decode cX6_reckon 24 = .ok (.aload_n 0, 1) := by decide +kernel
theorem dX6_reckon_25 : decode cX6_reckon 25 = .ok (.getfield 163, 3) := by decide +kernel
theorem dX6_reckon_28 : decode cX6_reckon 28 = .ok (.iconst 3, 1) := by decide +kernel
theorem dX6_reckon_29 : decode cX6_reckon 29 = .ok (.iadd, 1) := by decide +kernel
theorem dX6_reckon_30 : decode cX6_reckon 30 = .ok (.iaload, 1) := by decide +kernel
theorem dX6_reckon_31 : decode cX6_reckon 31 = .ok (.invokevirtual 173, 3) := by decide +kernel
theorem dX6_reckon_34 : decode cX6_reckon 34 = .ok (.istore 5, 2) := by decide +kernel
theorem dX6_reckon_36 : decode cX6_reckon 36 = .ok (.iload 5, 2) := by decide +kernel
theorem dX6_reckon_38 : decode cX6_reckon 38 = .ok (.ifCond .ne 20, 3) := by decide +kernel
theorem dX6_reckon_41 : decode cX6_reckon 41 = .ok (.iload_n 2, 1) := by decide +kernel
theorem dX6_reckon_42 : decode cX6_reckon 42 = .ok (.iconst 5, 1) := by decide +kernel
theorem dX6_reckon_43 : decode cX6_reckon 43 = .ok (.if_icmp .eq 9, 3) := by decide +kernel
