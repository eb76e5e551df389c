theorem dX6_reckon_46 : decode cX6_reckon 46 = .ok (.iload_n 2, 1) := by decide +kernel
theorem dX6_reckon_47 : decode cX6_reckon 47 = .ok (.bipush 6, 2) := by decide +kernel
theorem dX6_reckon_49 : decode cX6_reckon 49 = .ok (.if_icmp .ne 9, 3) := by decide +kernel
theorem dX6_reckon_52 : decode cX6_reckon 52 = .ok (.aload_n 0, 1) := by decide +kernel
theorem dX6_reckon_53 : decode cX6_reckon 53 = .ok (.iconst 2, 1) := by decide +kernel
theorem dX6_reckon_54 : decode cX6_reckon 54 = .ok (.invokevirtual 97, 3) := by decide +kernel
theorem dX6_reckon_57 : decode cX6_reckon 57 = .ok (.return_, 1) := by decide +kernel
theorem dX6_reckon_58 : decode cX6_reckon 58 = .ok (.iload_n 2, 1) := by decide +kernel
theorem dX6_reckon_59 : decode cX6_reckon 59 = .ok (.tableswitch 97 2 5 #[29, 43, 57, 71], 29) := by decide +kernel
theorem dX6_reckon_88 : decode cX6_reckon 88 = .ok (.aload_n 0, 1) := by decide +kernel
theorem dX6_reckon_89 : decode cX6_reckon 89 = .ok (.aload_n 1, 1) := by decide +kernel
theorem dX6_reckon_90 : decode cX6_reckon 90 = .ok (.iload_n 3, 1) := by decide +kernel
theorem dX6_reckon_91 : decode cX6_reckon 91 = .ok (.iload 4, 2) := by decide +kernel
theorem dX6_reckon_93 : decode cX6_reckon 93 = .ok (.iload 5, 2) := by decide +kernel
theorem dX6_reckon_95 : decode cX6_reckon 95 = .ok (.iadd, 1) := by decide +kernel
theorem dX6_reckon_96 : decode cX6_reckon 96 = .ok (.invokevirtual 180, 3) := by decide +kernel
theorem dX6_reckon_99 : decode cX6_reckon 99 = .ok (.goto 78, 3) := by decide +kernel
theorem dX6_reckon_102 : decode cX6_reckon 102 = .ok (.aload_n 0, 1) := by decide +kernel
theorem dX6_reckon_103 : decode cX6_reckon 103 = .ok (.aload_n 1, 1) := by decide +kernel
theorem dX6_reckon_104 : decode cX6_reckon 104 = .ok (.iload_n 3, 1) := by decide +kernel
theorem dX6_reckon_105 : decode cX6_reckon 105 = .ok (.iload 4, 2) := by decide +kernel
theorem dX6_reckon_107 : decode cX6_reckon 107 = .ok (.iload 5, 2) := by decide +kernel
theorem dX6_reckon_109 : decode cX6_reckon 109 = .ok (.isub, 1) := by decide +kernel
theorem dX6_reckon_110 : decode cX6_reckon 110 = .ok (.invokevirtual 180, 3) := by decide +kernel
theorem dX6_reckon_113 : decode cX6_reckon 113 = .ok (.goto 64, 3) := by decide +kernel
theorem dX6_reckon_116 : decode cX6_reckon 116 = .ok (.aload_n 0, 1) := by decide +kernel
theorem dX6_reckon_117 : decode cX6_reckon 117 = .ok (.aload_n 1, 1) := by decide +kernel
theorem dX6_reckon_118 : decode cX6_reckon 118 = .ok (.iload_n 3, 1) := by decide +kernel
theorem dX6_reckon_119 : decode cX6_reckon 119 = .ok (.iload 4, 2) := by decide +kernel
theorem dX6_reckon_121 : decode cX6_reckon 121 = .ok (.iload 5, 2) := by decide +kernel
theorem dX6_reckon_123 : decode cX6_reckon 123 = .ok (.imul, 1) := by decide +kernel
theorem dX6_reckon_124 : decode cX6_reckon 124 = .ok (.invokevirtual 180, 3) := by decide +kernel
theorem dX6_reckon_127 : decode cX6_reckon 127 = .ok (.goto 50, 3) := by decide +kernel
theorem dX6_reckon_130 : decode cX6_reckon 130 = .ok (.aload_n 0, 1) := by decide +kernel
theorem dX6_reckon_131 : decode cX6_reckon 131 = .ok (.aload_n 1, 1) := by decide +kernel
theorem dX6_reckon_132 : decode cX6_reckon 132 = .ok (.iload_n 3, 1) := by decide +kernel
theorem dX6_reckon_133 : decode cX6_reckon 133 = .ok (.iload 5, 2) := by decide +kernel
theorem dX6_reckon_135 : decode cX6_reckon 135 = .ok (.iconst (-1), 1) := by decide +kernel
theorem dX6_reckon_136 : decode cX6_reckon 136 = .ok (.if_icmp .ne 9, 3) := by decide +kernel
theorem dX6_reckon_139 : decode cX6_reckon 139 = .ok (.iload 4, 2) := by decide +kernel
theorem dX6_reckon_141 : decode cX6_reckon 141 = .ok (.ineg, 1) := by decide +kernel
theorem dX6_reckon_142 : decode cX6_reckon 142 = .ok (.goto 8, 3) := by decide +kernel
theorem dX6_reckon_145 : decode cX6_reckon 145 = .ok (.iload 4, 2) := by decide +kernel
theorem dX6_reckon_147 : decode cX6_reckon 147 = .ok (.iload 5, 2) := by decide +kernel
theorem dX6_reckon_149 : decode cX6_reckon 149 = .ok (.idiv, 1) := by decide +kernel
theorem dX6_reckon_150 : decode cX6_reckon 150 = .ok (.invokevirtual 180, 3) := by decide +kernel
theorem dX6_reckon_153 : decode cX6_reckon 153 = .ok (.goto 24, 3) := by decide +kernel
theorem dX6_reckon_156 : decode cX6_reckon 156 = .ok (.aload_n 0, 1) := by decide +kernel
theorem dX6_reckon_157 : decode cX6_reckon 157 = .ok (.aload_n 1, 1) := by decide +kernel
theorem dX6_reckon_158 : decode cX6_reckon 158 = .ok (.iload_n 3, 1) := by decide +kernel
theorem dX6_reckon_159 : decode cX6_reckon 159 = .ok (.iload 5, 2) := by decide +kernel
theorem dX6_reckon_161 : decode cX6_reckon 161 = .ok (.iconst (-1), 1) := by decide +kernel
theorem dX6_reckon_162 : decode cX6_reckon 162 = .ok (.if_icmp .ne 7, 3) := by decide +kernel
theorem dX6_reckon_165 : decode cX6_reckon 165 = .ok (.iconst 0, 1) := by decide +kernel
theorem dX6_reckon_166 : decode cX6_reckon 166 = .ok (.goto 8, 3) := by decide +kernel
theorem dX6_reckon_169 : decode cX6_reckon 169 = .ok (.iload 4, 2) := by decide +kernel
theorem dX6_reckon_171 : decode cX6_reckon 171 = .ok (.iload 5, 2) := by decide +kernel
theorem dX6_reckon_173 : decode cX6_reckon 173 = .ok (.irem, 1) := by decide +kernel
theorem dX6_reckon_174 : decode cX6_reckon 174 = .ok (.invokevirtual 180, 3) := by decide +kernel
theorem dX6_reckon_177 : decode cX6_reckon 177 = .ok (.return_, 1) := by decide +kernel
theorem dX6_load_0 : decode cX6_load 0 = .ok (.iload_n 3, 1) := by decide +kernel
theorem dX6_load_1 : decode cX6_load 1 = .ok (.invokestatic 145, 3) := by decide +kernel
theorem dX6_load_4 : decode cX6_load 4 = .ok (.ifCond .ne 9, 3) := by decide +kernel
theorem dX6_load_7 : decode cX6_load 7 = .ok (.aload_n 0, 1) := by decide +kernel
theorem dX6_load_8 : decode cX6_load 8 = .ok (.iconst 1, 1) := by decide +kernel
theorem dX6_load_9 : decode cX6_load 9 = .ok (.invokevirtual 97, 3) := by decide +kernel
theorem dX6_load_12 : decode cX6_load 12 = .ok (.return_, 1) := by decide +kernel
theorem dX6_load_13 : decode cX6_load 13 = .ok (.aload_n 0, 1) := by decide +kernel
theorem dX6_load_14 : decode cX6_load 14 = .ok (.aload_n 1, 1) := by decide +kernel
theorem dX6_load_15 : decode cX6_load 15 = .ok (.iload_n 2, 1) := by decide +kernel
theorem dX6_load_16 : decode cX6_load 16 = .ok (.aload_n 0, 1) := by decide +kernel
theorem dX6_load_17 : decode cX6_load 17 = .ok (.getfield 39, 3) := by decide +kernel
theorem dX6_load_20 : decode cX6_load 20 = .ok (.getfield 106, 3) := by decide +kernel
theorem dX6_load_23 : decode cX6_load 23 = .ok (.iload_n 3, 1) := by decide +kernel
theorem dX6_load_24 : decode cX6_load 24 = .ok (.iaload, 1) := by decide +kernel
theorem dX6_load_25 : decode cX6_load 25 = .ok (.invokevirtual 180, 3) := by decide +kernel
theorem dX6_load_28 : decode cX6_load 28 = .ok (.return_, 1) := by decide +kernel
theorem dX6_store_0 : decode cX6_store 0 = .ok (.iload_n 1, 1) := by decide +kernel
theorem dX6_store_1 : decode cX6_store 1 = .ok (.invokestatic 145, 3) := by decide +kernel
theorem dX6_store_4 : decode cX6_store 4 = .ok (.ifCond .ne 9, 3) := by decide +kernel
theorem dX6_store_7 : decode cX6_store 7 = .ok (.aload_n 0, 1) := by decide +kernel
theorem dX6_store_8 : decode cX6_store 8 = .ok (.iconst 1, 1) := by decide +kernel
theorem dX6_store_9 : decode cX6_store 9 = .ok (.invokevirtual 97, 3) := by decide +kernel
theorem dX6_store_12 : decode cX6_store 12 = .ok (.return_, 1) := by decide +kernel
theorem dX6_store_13 : decode cX6_store 13 = .ok (.aload_n 0, 1) := by decide +kernel
theorem dX6_store_14 : decode cX6_store 14 = .ok (.getfield 39, 3) := by decide +kernel
theorem dX6_store_17 : decode cX6_store 17 = .ok (.iload_n 1, 1) := by decide +kernel
theorem dX6_store_18 : decode cX6_store 18 = .ok (.iload_n 2, 1) := by decide +kernel
theorem dX6_store_19 : decode cX6_store 19 = .ok (.invokevirtual 214, 3) := by decide +kernel
theorem dX6_store_22 : decode cX6_store 22 = .ok (.pop, 1) := by decide +kernel
theorem dX6_store_23 : decode cX6_store 23 = .ok (.return_, 1) := by decide +kernel
theorem dX6_jump_0 : decode cX6_jump 0 = .ok (.aload_n 1, 1) := by decide +kernel
theorem dX6_jump_1 : decode cX6_jump 1 = .ok (.iload_n 2, 1) := by decide +kernel
theorem dX6_jump_2 : decode cX6_jump 2 = .ok (.putfield 151, 3) := by decide +kernel
theorem dX6_jump_5 : decode cX6_jump 5 = .ok (.aload_n 1, 1) := by decide +kernel
theorem dX6_jump_6 : decode cX6_jump 6 = .ok (.aload_n 0, 1) := by decide +kernel
theorem dX6_jump_7 : decode cX6_jump 7 = .ok (.getfield 36, 3) := by decide +kernel
theorem dX6_jump_10 : decode cX6_jump 10 = .ok (.aload_n 0, 1) := by decide +kernel
theorem dX6_jump_11 : decode cX6_jump 11 = .ok (.getfield 163, 3) := by decide +kernel
theorem dX6_jump_14 : decode cX6_jump 14 = .ok (.bipush 10, 2) := by decide +kernel
theorem dX6_jump_16 : decode cX6_jump 16 = .ok (.iadd, 1) := by decide +kernel
theorem dX6_jump_17 : decode cX6_jump 17 = .ok (.iaload, 1) := by decide +kernel
theorem dX6_jump_18 : decode cX6_jump 18 = .ok (.putfield 160, 3) := by decide +kernel
theorem dX6_jump_21 : decode cX6_jump 21 = .ok (.return_, 1) := by decide +kernel
theorem dX6_handOver_0 : decode cX6_handOver 0 = .ok (.aload_n 0, 1) := by decide +kernel
theorem dX6_handOver_1 : decode cX6_handOver 1 = .ok (.getfield 36, 3) := by decide +kernel
theorem dX6_handOver_4 : decode cX6_handOver 4 = .ok (.aload_n 0, 1) := by decide +kernel
theorem dX6_handOver_5 : decode cX6_handOver 5 = .ok (.getfield 163, 3) := by decide +kernel
theorem dX6_handOver_8 : decode cX6_handOver 8 = .ok (.iconst 3, 1) := by decide +kernel
theorem dX6_handOver_9 : decode cX6_handOver 9 = .ok (.iadd, 1) := by decide +kernel
theorem dX6_handOver_10 : decode cX6_handOver 10 = .ok (.iaload, 1) := by decide +kernel
theorem dX6_handOver_11 : decode cX6_handOver 11 = .ok (.istore_n 2, 1) := by decide +kernel
theorem dX6_handOver_12 : decode cX6_handOver 12 = .ok (.iconst 0, 1) := by decide +kernel
theorem dX6_handOver_13 : decode cX6_handOver 13 = .ok (.istore_n 3, 1) := by decide +kernel
theorem dX6_handOver_14 : decode cX6_handOver 14 = .ok (.iload_n 3, 1) := by decide +kernel
theorem dX6_handOver_15 : decode cX6_handOver 15 = .ok (.iload_n 2, 1) := by decide +kernel
theorem dX6_handOver_16 : decode cX6_handOver 16 = .ok (.if_icmp .ge 38, 3) := by decide +kernel
theorem dX6_handOver_19 : decode cX6_handOver 19 = .ok (.iload_n 3, 1) := by decide +kernel
theorem dX6_handOver_20 : decode cX6_handOver 20 = .ok (.iconst 4, 1) := by decide +kernel
theorem dX6_handOver_21 : decode cX6_handOver 21 = .ok (.if_icmp .ge 33, 3) := by decide +kernel
theorem dX6_handOver_24 : decode cX6_handOver 24 = .ok (.aload_n 0, 1) := by decide +kernel
theorem dX6_handOver_25 : decode cX6_handOver 25 = .ok (.getfield 28, 3) := by decide +kernel
theorem dX6_handOver_28 : decode cX6_handOver 28 = .ok (.iload_n 3, 1) := by decide +kernel
theorem dX6_handOver_29 : decode cX6_handOver 29 = .ok (.aload_n 0, 1) := by decide +kernel
theorem dX6_handOver_30 : decode cX6_handOver 30 = .ok (.aload_n 1, 1) := by decide +kernel
theorem dX6_handOver_31 : decode cX6_handOver 31 = .ok (.aload_n 0, 1) := by decide +kernel
theorem dX6_handOver_32 : decode cX6_handOver 32 = .ok (.getfield 36, 3) := by decide +kernel
theorem dX6_handOver_35 : decode cX6_handOver 35 = .ok (.aload_n 0, 1) := by decide +kernel
theorem dX6_handOver_36 : decode cX6_handOver 36 = .ok (.getfield 163, 3) := by decide +kernel
theorem dX6_handOver_39 : decode cX6_handOver 39 = .ok (.iconst 4, 1) := by decide +kernel
theorem dX6_handOver_40 : decode cX6_handOver 40 = .ok (.iadd, 1) := by decide +kernel
theorem dX6_handOver_41 : decode cX6_handOver 41 = .ok (.iload_n 3, 1) := by decide +kernel
theorem dX6_handOver_42 : decode cX6_handOver 42 = .ok (.iadd, 1) := by decide +kernel
theorem dX6_handOver_43 : decode cX6_handOver 43 = .ok (.iaload, 1) := by decide +kernel
theorem dX6_handOver_44 : decode cX6_handOver 44 = .ok (.invokevirtual 173, 3) := by decide +kernel
theorem dX6_handOver_47 : decode cX6_handOver 47 = .ok (.iastore, 1) := by decide +kernel
theorem dX6_handOver_48 : decode cX6_handOver 48 = .ok (.iinc 3 1, 3) := by decide +kernel
theorem dX6_handOver_51 : decode cX6_handOver 51 = .ok (.goto (-37), 3) := by decide +kernel
theorem dX6_handOver_54 : decode cX6_handOver 54 = .ok (.aload_n 1, 1) := by decide +kernel
theorem dX6_handOver_55 : decode cX6_handOver 55 = .ok (.aload_n 0, 1) := by decide +kernel
theorem dX6_handOver_56 : decode cX6_handOver 56 = .ok (.getfield 36, 3) := by decide +kernel
theorem dX6_handOver_59 : decode cX6_handOver 59 = .ok (.aload_n 0, 1) := by decide +kernel
theorem dX6_handOver_60 : decode cX6_handOver 60 = .ok (.getfield 163, 3) := by decide +kernel
theorem dX6_handOver_63 : decode cX6_handOver 63 = .ok (.iconst 1, 1) := by decide +kernel
theorem dX6_handOver_64 : decode cX6_handOver 64 = .ok (.iadd, 1) := by decide +kernel
theorem dX6_handOver_65 : decode cX6_handOver 65 = .ok (.iaload, 1) := by decide +kernel
theorem dX6_handOver_66 : decode cX6_handOver 66 = .ok (.putfield 217, 3) := by decide +kernel
theorem dX6_handOver_69 : decode cX6_handOver 69 = .ok (.return_, 1) := by decide +kernel
theorem dX6_addressFor_0 : decode cX6_addressFor 0 = .ok (.iload_n 0, 1) := by decide +kernel
theorem dX6_addressFor_1 : decode cX6_addressFor 1 = .ok (.ifCond .lt 16, 3) := by decide +kernel
theorem dX6_addressFor_4 : decode cX6_addressFor 4 = .ok (.iload_n 0, 1) := by decide +kernel
theorem dX6_addressFor_5 : decode cX6_addressFor 5 = .ok (.sipush 256, 3) := by decide +kernel
theorem dX6_addressFor_8 : decode cX6_addressFor 8 = .ok (.if_icmp .ge 9, 3) := by decide +kernel
theorem dX6_addressFor_11 : decode cX6_addressFor 11 = .ok (.iconst 4, 1) := by decide +kernel
theorem dX6_addressFor_12 : decode cX6_addressFor 12 = .ok (.iload_n 0, 1) := by decide +kernel
theorem dX6_addressFor_13 : decode cX6_addressFor 13 = .ok (.imul, 1) := by decide +kernel
theorem dX6_addressFor_14 : decode cX6_addressFor 14 = .ok (.goto 4, 3) := by decide +kernel
theorem dX6_addressFor_17 : decode cX6_addressFor 17 = .ok (.iconst (-1), 1) := by decide +kernel
theorem dX6_addressFor_18 : decode cX6_addressFor 18 = .ok (.ireturn, 1) := by decide +kernel
theorem dX6_leave_0 : decode cX6_leave 0 = .ok (.aload_n 0, 1) := by decide +kernel
theorem dX6_leave_1 : decode cX6_leave 1 = .ok (.dup, 1) := by decide +kernel
theorem dX6_leave_2 : decode cX6_leave 2 = .ok (.getfield 61, 3) := by decide +kernel
theorem dX6_leave_5 : decode cX6_leave 5 = .ok (.iconst 1, 1) := by decide +kernel
theorem dX6_leave_6 : decode cX6_leave 6 = .ok (.isub, 1) := by decide +kernel
theorem dX6_leave_7 : decode cX6_leave 7 = .ok (.putfield 61, 3) := by decide +kernel
theorem dX6_leave_10 : decode cX6_leave 10 = .ok (.aload_n 0, 1) := by decide +kernel
theorem dX6_leave_11 : decode cX6_leave 11 = .ok (.iload_n 1, 1) := by decide +kernel
theorem dX6_leave_12 : decode cX6_leave 12 = .ok (.invokevirtual 93, 3) := by decide +kernel
theorem dX6_leave_15 : decode cX6_leave 15 = .ok (.return_, 1) := by decide +kernel
theorem dX6_give_0 : decode cX6_give 0 = .ok (.aload_n 0, 1) := by decide +kernel
theorem dX6_give_1 : decode cX6_give 1 = .ok (.getfield 61, 3) := by decide +kernel
theorem dX6_give_4 : decode cX6_give 4 = .ok (.ifCond .ne 12, 3) := by decide +kernel
theorem dX6_give_7 : decode cX6_give 7 = .ok (.aload_n 0, 1) := by decide +kernel
theorem dX6_give_8 : decode cX6_give 8 = .ok (.getfield 12, 3) := by decide +kernel
theorem dX6_give_11 : decode cX6_give 11 = .ok (.iload_n 1, 1) := by decide +kernel
theorem dX6_give_12 : decode cX6_give 12 = .ok (.putfield 220, 3) := by decide +kernel
theorem dX6_give_15 : decode cX6_give 15 = .ok (.return_, 1) := by decide +kernel
theorem dX6_give_16 : decode cX6_give 16 = .ok (.aload_n 0, 1) := by decide +kernel
theorem dX6_give_17 : decode cX6_give 17 = .ok (.getfield 24, 3) := by decide +kernel
theorem dX6_give_20 : decode cX6_give 20 = .ok (.aload_n 0, 1) := by decide +kernel
theorem dX6_give_21 : decode cX6_give 21 = .ok (.getfield 61, 3) := by decide +kernel
theorem dX6_give_24 : decode cX6_give 24 = .ok (.iconst 1, 1) := by decide +kernel
theorem dX6_give_25 : decode cX6_give 25 = .ok (.isub, 1) := by decide +kernel
theorem dX6_give_26 : decode cX6_give 26 = .ok (.aaload, 1) := by decide +kernel
theorem dX6_give_27 : decode cX6_give 27 = .ok (.astore_n 2, 1) := by decide +kernel
theorem dX6_give_28 : decode cX6_give 28 = .ok (.aload_n 0, 1) := by decide +kernel
theorem dX6_give_29 : decode cX6_give 29 = .ok (.aload_n 2, 1) := by decide +kernel
theorem dX6_give_30 : decode cX6_give 30 = .ok (.aload_n 2, 1) := by decide +kernel
theorem dX6_give_31 : decode cX6_give 31 = .ok (.getfield 217, 3) := by decide +kernel
theorem dX6_give_34 : decode cX6_give 34 = .ok (.iload_n 1, 1) := by decide +kernel
theorem dX6_give_35 : decode cX6_give 35 = .ok (.invokevirtual 180, 3) := by decide +kernel
theorem dX6_give_38 : decode cX6_give 38 = .ok (.return_, 1) := by decide +kernel
theorem dX6_throwOut_0 : decode cX6_throwOut 0 = .ok (.aload_n 0, 1) := by decide +kernel
theorem dX6_throwOut_1 : decode cX6_throwOut 1 = .ok (.getfield 61, 3) := by decide +kernel
theorem dX6_throwOut_4 : decode cX6_throwOut 4 = .ok (.iconst 2, 1) := by decide +kernel
theorem dX6_throwOut_5 : decode cX6_throwOut 5 = .ok (.isub, 1) := by decide +kernel
theorem dX6_throwOut_6 : decode cX6_throwOut 6 = .ok (.istore_n 2, 1) := by decide +kernel
theorem dX6_throwOut_7 : decode cX6_throwOut 7 = .ok (.iload_n 2, 1) := by decide +kernel
theorem dX6_throwOut_8 : decode cX6_throwOut 8 = .ok (.ifCond .lt 66, 3) := by decide +kernel
theorem dX6_throwOut_11 : decode cX6_throwOut 11 = .ok (.aload_n 0, 1) := by decide +kernel
theorem dX6_throwOut_12 : decode cX6_throwOut 12 = .ok (.getfield 24, 3) := by decide +kernel
theorem dX6_throwOut_15 : decode cX6_throwOut 15 = .ok (.iload_n 2, 1) := by decide +kernel
theorem dX6_throwOut_16 : decode cX6_throwOut 16 = .ok (.aaload, 1) := by decide +kernel
theorem dX6_throwOut_17 : decode cX6_throwOut 17 = .ok (.astore_n 3, 1) := by decide +kernel
theorem dX6_throwOut_18 : decode cX6_throwOut 18 = .ok (.aload_n 3, 1) := by decide +kernel
theorem dX6_throwOut_19 : decode cX6_throwOut 19 = .ok (.getfield 203, 3) := by decide +kernel
theorem dX6_throwOut_22 : decode cX6_throwOut 22 = .ok (.ifCond .eq 46, 3) := by decide +kernel
theorem dX6_throwOut_25 : decode cX6_throwOut 25 = .ok (.aload_n 0, 1) := by decide +kernel
theorem dX6_throwOut_26 : decode cX6_throwOut 26 = .ok (.iload_n 2, 1) := by decide +kernel
theorem dX6_throwOut_27 : decode cX6_throwOut 27 = .ok (.iconst 1, 1) := by decide +kernel
theorem dX6_throwOut_28 : decode cX6_throwOut 28 = .ok (.iadd, 1) := by decide +kernel
theorem dX6_throwOut_29 : decode cX6_throwOut 29 = .ok (.putfield 61, 3) := by decide +kernel
theorem dX6_throwOut_32 : decode cX6_throwOut 32 = .ok (.aload_n 3, 1) := by decide +kernel
theorem dX6_throwOut_33 : decode cX6_throwOut 33 = .ok (.aload_n 3, 1) := by decide +kernel
theorem dX6_throwOut_34 : decode cX6_throwOut 34 = .ok (.getfield 203, 3) := by decide +kernel
theorem dX6_throwOut_37 : decode cX6_throwOut 37 = .ok (.putfield 151, 3) := by decide +kernel
theorem dX6_throwOut_40 : decode cX6_throwOut 40 = .ok (.aload_n 3, 1) := by decide +kernel
theorem dX6_throwOut_41 : decode cX6_throwOut 41 = .ok (.aload_n 3, 1) := by decide +kernel
theorem dX6_throwOut_42 : decode cX6_throwOut 42 = .ok (.getfield 206, 3) := by decide +kernel
theorem dX6_throwOut_45 : decode cX6_throwOut 45 = .ok (.putfield 160, 3) := by decide +kernel
theorem dX6_throwOut_48 : decode cX6_throwOut 48 = .ok (.aload_n 0, 1) := by decide +kernel
theorem dX6_throwOut_49 : decode cX6_throwOut 49 = .ok (.getfield 47, 3) := by decide +kernel
theorem dX6_throwOut_52 : decode cX6_throwOut 52 = .ok (.bipush 7, 2) := by decide +kernel
theorem dX6_throwOut_54 : decode cX6_throwOut 54 = .ok (.iload_n 1, 1) := by decide +kernel
theorem dX6_throwOut_55 : decode cX6_throwOut 55 = .ok (.iastore, 1) := by decide +kernel
theorem dX6_throwOut_56 : decode cX6_throwOut 56 = .ok (.aload_n 0, 1) := by decide +kernel
theorem dX6_throwOut_57 : decode cX6_throwOut 57 = .ok (.getfield 50, 3) := by decide +kernel
theorem dX6_throwOut_60 : decode cX6_throwOut 60 = .ok (.bipush 7, 2) := by decide +kernel
theorem dX6_throwOut_62 : decode cX6_throwOut 62 = .ok (.dup2, 1) := by decide +kernel
theorem dX6_throwOut_63 : decode cX6_throwOut 63 = .ok (.iaload, 1) := by decide +kernel
theorem dX6_throwOut_64 : decode cX6_throwOut 64 = .ok (.iconst 1, 1) := by decide +kernel
theorem dX6_throwOut_65 : decode cX6_throwOut 65 = .ok (.iadd, 1) := by decide +kernel
theorem dX6_throwOut_66 : decode cX6_throwOut 66 = .ok (.iastore, 1) := by decide +kernel
theorem dX6_throwOut_67 : decode cX6_throwOut 67 = .ok (.return_, 1) := by decide +kernel
theorem dX6_throwOut_68 : decode cX6_throwOut 68 = .ok (.iinc 2 (-1), 3) := by decide +kernel
theorem dX6_throwOut_71 : decode cX6_throwOut 71 = .ok (.goto (-64), 3) := by decide +kernel
theorem dX6_throwOut_74 : decode cX6_throwOut 74 = .ok (.aload_n 0, 1) := by decide +kernel
theorem dX6_throwOut_75 : decode cX6_throwOut 75 = .ok (.getfield 12, 3) := by decide +kernel
theorem dX6_throwOut_78 : decode cX6_throwOut 78 = .ok (.iload_n 1, 1) := by decide +kernel
theorem dX6_throwOut_79 : decode cX6_throwOut 79 = .ok (.putfield 223, 3) := by decide +kernel
theorem dX6_throwOut_82 : decode cX6_throwOut 82 = .ok (.aload_n 0, 1) := by decide +kernel
theorem dX6_throwOut_83 : decode cX6_throwOut 83 = .ok (.bipush 6, 2) := by decide +kernel
theorem dX6_throwOut_85 : decode cX6_throwOut 85 = .ok (.invokevirtual 97, 3) := by decide +kernel
theorem dX6_throwOut_88 : decode cX6_throwOut 88 = .ok (.return_, 1) := by decide +kernel
theorem dX6_fail_0 : decode cX6_fail 0 = .ok (.aload_n 0, 1) := by decide +kernel
theorem dX6_fail_1 : decode cX6_fail 1 = .ok (.getfield 12, 3) := by decide +kernel
theorem dX6_fail_4 : decode cX6_fail 4 = .ok (.iload_n 1, 1) := by decide +kernel
theorem dX6_fail_5 : decode cX6_fail 5 = .ok (.putfield 86, 3) := by decide +kernel
theorem dX6_fail_8 : decode cX6_fail 8 = .ok (.aload_n 0, 1) := by decide +kernel
theorem dX6_fail_9 : decode cX6_fail 9 = .ok (.getfield 12, 3) := by decide +kernel
theorem dX6_fail_12 : decode cX6_fail 12 = .ok (.aload_n 0, 1) := by decide +kernel
theorem dX6_fail_13 : decode cX6_fail 13 = .ok (.getfield 68, 3) := by decide +kernel
theorem dX6_fail_16 : decode cX6_fail 16 = .ok (.putfield 226, 3) := by decide +kernel
theorem dX6_fail_19 : decode cX6_fail 19 = .ok (.aload_n 0, 1) := by decide +kernel
theorem dX6_fail_20 : decode cX6_fail 20 = .ok (.getfield 12, 3) := by decide +kernel
theorem dX6_fail_23 : decode cX6_fail 23 = .ok (.aload_n 0, 1) := by decide +kernel
theorem dX6_fail_24 : decode cX6_fail 24 = .ok (.getfield 71, 3) := by decide +kernel
theorem dX6_fail_27 : decode cX6_fail 27 = .ok (.putfield 227, 3) := by decide +kernel
theorem dX6_fail_30 : decode cX6_fail 30 = .ok (.aload_n 0, 1) := by decide +kernel
theorem dX6_fail_31 : decode cX6_fail 31 = .ok (.getfield 50, 3) := by decide +kernel
theorem dX6_fail_34 : decode cX6_fail 34 = .ok (.bipush 6, 2) := by decide +kernel
theorem dX6_fail_36 : decode cX6_fail 36 = .ok (.dup2, 1) := by decide +kernel
theorem dX6_fail_37 : decode cX6_fail 37 = .ok (.iaload, 1) := by decide +kernel
theorem dX6_fail_38 : decode cX6_fail 38 = .ok (.iconst 1, 1) := by decide +kernel
theorem dX6_fail_39 : decode cX6_fail 39 = .ok (.iadd, 1) := by decide +kernel
theorem dX6_fail_40 : decode cX6_fail 40 = .ok (.iastore, 1) := by decide +kernel
theorem dX6_fail_41 : decode cX6_fail 41 = .ok (.aload_n 0, 1) := by decide +kernel
theorem dX6_fail_42 : decode cX6_fail 42 = .ok (.iconst 0, 1) := by decide +kernel
theorem dX6_fail_43 : decode cX6_fail 43 = .ok (.putfield 61, 3) := by decide +kernel
theorem dX6_fail_46 : decode cX6_fail 46 = .ok (.return_, 1) := by decide +kernel
theorem dX6_valueOf_0 : decode cX6_valueOf 0 = .ok (.iload_n 2, 1) := by decide +kernel
theorem dX6_valueOf_1 : decode cX6_valueOf 1 = .ok (.sipush 128, 3) := by decide +kernel
theorem dX6_valueOf_4 : decode cX6_valueOf 4 = .ok (.if_icmp .ge 5, 3) := by decide +kernel
theorem dX6_valueOf_7 : decode cX6_valueOf 7 = .ok (.iload_n 2, 1) := by decide +kernel
theorem dX6_valueOf_8 : decode cX6_valueOf 8 = .ok (.ireturn, 1) := by decide +kernel
theorem dX6_valueOf_9 : decode cX6_valueOf 9 = .ok (.iload_n 2, 1) := by decide +kernel
theorem dX6_valueOf_10 : decode cX6_valueOf 10 = .ok (.sipush 136, 3) := by decide +kernel
theorem dX6_valueOf_13 : decode cX6_valueOf 13 = .ok (.if_icmp .ge 15, 3) := by decide +kernel
theorem dX6_valueOf_16 : decode cX6_valueOf 16 = .ok (.aload_n 1, 1) := by decide +kernel
theorem dX6_valueOf_17 : decode cX6_valueOf 17 = .ok (.getfield 230, 3) := by decide +kernel
theorem dX6_valueOf_20 : decode cX6_valueOf 20 = .ok (.iload_n 2, 1) := by decide +kernel
theorem dX6_valueOf_21 : decode cX6_valueOf 21 = .ok (.invokestatic 233, 3) := by decide +kernel
theorem dX6_valueOf_24 : decode cX6_valueOf 24 = .ok (.iaload, 1) := by decide +kernel
theorem dX6_valueOf_25 : decode cX6_valueOf 25 = .ok (.goto 12, 3) := by decide +kernel
theorem dX6_valueOf_28 : decode cX6_valueOf 28 = .ok (.aload_n 0, 1) := by decide +kernel
theorem dX6_valueOf_29 : decode cX6_valueOf 29 = .ok (.getfield 47, 3) := by decide +kernel
theorem dX6_valueOf_32 : decode cX6_valueOf 32 = .ok (.iload_n 2, 1) := by decide +kernel
theorem dX6_valueOf_33 : decode cX6_valueOf 33 = .ok (.invokestatic 233, 3) := by decide +kernel
theorem dX6_valueOf_36 : decode cX6_valueOf 36 = .ok (.iaload, 1) := by decide +kernel
theorem dX6_valueOf_37 : decode cX6_valueOf 37 = .ok (.ireturn, 1) := by decide +kernel
theorem dX6_set_0 : decode cX6_set 0 = .ok (.iload_n 2, 1) := by decide +kernel
theorem dX6_set_1 : decode cX6_set 1 = .ok (.sipush 136, 3) := by decide +kernel
theorem dX6_set_4 : decode cX6_set 4 = .ok (.if_icmp .ge 16, 3) := by decide +kernel
theorem dX6_set_7 : decode cX6_set 7 = .ok (.aload_n 1, 1) := by decide +kernel
theorem dX6_set_8 : decode cX6_set 8 = .ok (.getfield 230, 3) := by decide +kernel
theorem dX6_set_11 : decode cX6_set 11 = .ok (.iload_n 2, 1) := by decide +kernel
theorem dX6_set_12 : decode cX6_set 12 = .ok (.invokestatic 233, 3) := by decide +kernel
theorem dX6_set_15 : decode cX6_set 15 = .ok (.iload_n 3, 1) := by decide +kernel
theorem dX6_set_16 : decode cX6_set 16 = .ok (.iastore, 1) := by decide +kernel
theorem dX6_set_17 : decode cX6_set 17 = .ok (.goto 13, 3) := by decide +kernel
theorem dX6_set_20 : decode cX6_set 20 = .ok (.aload_n 0, 1) := by decide +kernel
theorem dX6_set_21 : decode cX6_set 21 = .ok (.getfield 47, 3) := by decide +kernel
theorem dX6_set_24 : decode cX6_set 24 = .ok (.iload_n 2, 1) := by decide +kernel
theorem dX6_set_25 : decode cX6_set 25 = .ok (.invokestatic 233, 3) := by decide +kernel
theorem dX6_set_28 : decode cX6_set 28 = .ok (.iload_n 3, 1) := by decide +kernel
theorem dX6_set_29 : decode cX6_set 29 = .ok (.iastore, 1) := by decide +kernel
theorem dX6_set_30 : decode cX6_set 30 = .ok (.return_, 1) := by decide +kernel
theorem dX6_indexOfCell_0 : decode cX6_indexOfCell 0 = .ok (.iload_n 0, 1) := by decide +kernel
theorem dX6_indexOfCell_1 : decode cX6_indexOfCell 1 = .ok (.bipush 7, 2) := by decide +kernel
theorem dX6_indexOfCell_3 : decode cX6_indexOfCell 3 = .ok (.iand, 1) := by decide +kernel
theorem dX6_indexOfCell_4 : decode cX6_indexOfCell 4 = .ok (.ireturn, 1) := by decide +kernel
theorem dX7_init_0 : decode cX7_init 0 = .ok (.aload_n 0, 1) := by decide +kernel
theorem dX7_init_1 : decode cX7_init 1 = .ok (.invokespecial 3, 3) := by decide +kernel
theorem dX7_init_4 : decode cX7_init 4 = .ok (.aload_n 0, 1) := by decide +kernel
theorem dX7_init_5 : decode cX7_init 5 = .ok (.iload_n 1, 1) := by decide +kernel
theorem dX7_init_6 : decode cX7_init 6 = .ok (.putfield 9, 3) := by decide +kernel
theorem dX7_init_9 : decode cX7_init 9 = .ok (.aload_n 0, 1) := by decide +kernel
theorem dX7_init_10 : decode cX7_init 10 = .ok (.aload_n 2, 1) := by decide +kernel
theorem dX7_init_11 : decode cX7_init 11 = .ok (.putfield 15, 3) := by decide +kernel
theorem dX7_init_14 : decode cX7_init 14 = .ok (.aload_n 0, 1) := by decide +kernel
theorem dX7_init_15 : decode cX7_init 15 = .ok (.iload_n 1, 1) := by decide +kernel
theorem dX7_init_16 : decode cX7_init 16 = .ok (.iconst 1, 1) := by decide +kernel
theorem dX7_init_17 : decode cX7_init 17 = .ok (.iadd, 1) := by decide +kernel
theorem dX7_init_18 : decode cX7_init 18 = .ok (.anewarray 19, 3) := by decide +kernel
theorem dX7_init_21 : decode cX7_init 21 = .ok (.putfield 21, 3) := by decide +kernel
theorem dX7_init_24 : decode cX7_init 24 = .ok (.iconst 0, 1) := by decide +kernel
theorem dX7_init_25 : decode cX7_init 25 = .ok (.istore_n 3, 1) := by decide +kernel
theorem dX7_init_26 : decode cX7_init 26 = .ok (.iload_n 3, 1) := by decide +kernel
theorem dX7_init_27 : decode cX7_init 27 = .ok (.iload_n 1, 1) := by decide +kernel
theorem dX7_init_28 : decode cX7_init 28 = .ok (.if_icmp .gt 22, 3) := by decide +kernel
theorem dX7_init_31 : decode cX7_init 31 = .ok (.aload_n 0, 1) := by decide +kernel
theorem dX7_init_32 : decode cX7_init 32 = .ok (.getfield 21, 3) := by decide +kernel
theorem dX7_init_35 : decode cX7_init 35 = .ok (.iload_n 3, 1) := by decide +kernel
theorem dX7_init_36 : decode cX7_init 36 = .ok (.new 19, 3) := by decide +kernel
theorem dX7_init_39 : decode cX7_init 39 = .ok (.dup, 1) := by decide +kernel
theorem dX7_init_40 : decode cX7_init 40 = .ok (.invokespecial 25, 3) := by decide +kernel
theorem dX7_init_43 : decode cX7_init 43 = .ok (.aastore, 1) := by decide +kernel
theorem dX7_init_44 : decode cX7_init 44 = .ok (.iinc 3 1, 3) := by decide +kernel
theorem dX7_init_47 : decode cX7_init 47 = .ok (.goto (-21), 3) := by decide +kernel
theorem dX7_init_50 : decode cX7_init 50 = .ok (.return_, 1) := by decide +kernel
theorem dX7_draft_0 : decode cX7_draft 0 = .ok (.aload_n 0, 1) := by decide +kernel
theorem dX7_draft_1 : decode cX7_draft 1 = .ok (.getfield 21, 3) := by decide +kernel
theorem dX7_draft_4 : decode cX7_draft 4 = .ok (.aload_n 0, 1) := by decide +kernel
theorem dX7_draft_5 : decode cX7_draft 5 = .ok (.getfield 26, 3) := by decide +kernel
theorem dX7_draft_8 : decode cX7_draft 8 = .ok (.aaload, 1) := by decide +kernel
theorem dX7_draft_9 : decode cX7_draft 9 = .ok (.areturn, 1) := by decide +kernel
theorem dX7_keepDraft_0 : decode cX7_keepDraft 0 = .ok (.aload_n 0, 1) := by decide +kernel
theorem dX7_keepDraft_1 : decode cX7_keepDraft 1 = .ok (.getfield 26, 3) := by decide +kernel
theorem dX7_keepDraft_4 : decode cX7_keepDraft 4 = .ok (.aload_n 0, 1) := by decide +kernel
theorem dX7_keepDraft_5 : decode cX7_keepDraft 5 = .ok (.getfield 9, 3) := by decide +kernel
theorem dX7_keepDraft_8 : decode cX7_keepDraft 8 = .ok (.if_icmp .ne 8, 3) := by decide +kernel
theorem dX7_keepDraft_11 : decode cX7_keepDraft 11 = .ok (.aload_n 0, 1) := by decide +kernel
theorem dX7_keepDraft_12 : decode cX7_keepDraft 12 = .ok (.iconst 0, 1) := by decide +kernel
theorem dX7_keepDraft_13 : decode cX7_keepDraft 13 = .ok (.invokevirtual 29, 3) := by decide +kernel
theorem dX7_keepDraft_16 : decode cX7_keepDraft 16 = .ok (.aload_n 0, 1) := by decide +kernel
theorem dX7_keepDraft_17 : decode cX7_keepDraft 17 = .ok (.getfield 21, 3) := by decide +kernel
theorem dX7_keepDraft_20 : decode cX7_keepDraft 20 = .ok (.aload_n 0, 1) := by decide +kernel
theorem dX7_keepDraft_21 : decode cX7_keepDraft 21 = .ok (.getfield 26, 3) := by decide +kernel
theorem dX7_keepDraft_24 : decode cX7_keepDraft 24 = .ok (.aaload, 1) := by decide +kernel
theorem dX7_keepDraft_25 : decode cX7_keepDraft 25 = .ok (.iconst 1, 1) := by decide +kernel
theorem dX7_keepDraft_26 : decode cX7_keepDraft 26 = .ok (.putfield 33, 3) := by decide +kernel
theorem dX7_keepDraft_29 : decode cX7_keepDraft 29 = .ok (.aload_n 0, 1) := by decide +kernel
theorem dX7_keepDraft_30 : decode cX7_keepDraft 30 = .ok (.dup, 1) := by decide +kernel
theorem dX7_keepDraft_31 : decode cX7_keepDraft 31 = .ok (.getfield 26, 3) := by decide +kernel
theorem dX7_keepDraft_34 : decode cX7_keepDraft 34 = .ok (.iconst 1, 1) := by decide +kernel
theorem dX7_keepDraft_35 : decode cX7_keepDraft 35 = .ok (.iadd, 1) := by decide +kernel
theorem dX7_keepDraft_36 : decode cX7_keepDraft 36 = .ok (.putfield 26, 3) := by decide +kernel
theorem dX7_keepDraft_39 : decode cX7_keepDraft 39 = .ok (.aload_n 0, 1) := by decide +kernel
theorem dX7_keepDraft_40 : decode cX7_keepDraft 40 = .ok (.getfield 15, 3) := by decide +kernel
theorem dX7_keepDraft_43 : decode cX7_keepDraft 43 = .ok (.iconst 0, 1) := by decide +kernel
theorem dX7_keepDraft_44 : decode cX7_keepDraft 44 = .ok (.dup2, 1) := by decide +kernel
theorem dX7_keepDraft_45 : decode cX7_keepDraft 45 = .ok (.iaload, 1) := by decide +kernel
theorem dX7_keepDraft_46 : decode cX7_keepDraft 46 = .ok (.iconst 1, 1) := by decide +kernel
theorem dX7_keepDraft_47 : decode cX7_keepDraft 47 = .ok (.iadd, 1) := by decide +kernel
theorem dX7_keepDraft_48 : decode cX7_keepDraft 48 = .ok (.iastore, 1) := by decide +kernel
theorem dX7_keepDraft_49 : decode cX7_keepDraft 49 = .ok (.return_, 1) := by decide +kernel
theorem dX7_find_0 : decode cX7_find 0 = .ok (.iconst 0, 1) := by decide +kernel
theorem dX7_find_1 : decode cX7_find 1 = .ok (.istore_n 2, 1) := by decide +kernel
theorem dX7_find_2 : decode cX7_find 2 = .ok (.iload_n 2, 1) := by decide +kernel
theorem dX7_find_3 : decode cX7_find 3 = .ok (.aload_n 0, 1) := by decide +kernel
theorem dX7_find_4 : decode cX7_find 4 = .ok (.getfield 26, 3) := by decide +kernel
theorem dX7_find_7 : decode cX7_find 7 = .ok (.if_icmp .ge 29, 3) := by decide +kernel
theorem dX7_find_10 : decode cX7_find 10 = .ok (.aload_n 0, 1) := by decide +kernel
theorem dX7_find_11 : decode cX7_find 11 = .ok (.getfield 21, 3) := by decide +kernel
theorem dX7_find_14 : decode cX7_find 14 = .ok (.iload_n 2, 1) := by decide +kernel
theorem dX7_find_15 : decode cX7_find 15 = .ok (.aaload, 1) := by decide +kernel
theorem dX7_find_16 : decode cX7_find 16 = .ok (.getfield 37, 3) := by decide +kernel
theorem dX7_find_19 : decode cX7_find 19 = .ok (.iload_n 1, 1) := by decide +kernel
theorem dX7_find_20 : decode cX7_find 20 = .ok (.if_icmp .ne 10, 3) := by decide +kernel
theorem dX7_find_23 : decode cX7_find 23 = .ok (.aload_n 0, 1) := by decide +kernel
theorem dX7_find_24 : decode cX7_find 24 = .ok (.getfield 21, 3) := by decide +kernel
theorem dX7_find_27 : decode cX7_find 27 = .ok (.iload_n 2, 1) := by decide +kernel
theorem dX7_find_28 : decode cX7_find 28 = .ok (.aaload, 1) := by decide +kernel
theorem dX7_find_29 : decode cX7_find 29 = .ok (.areturn, 1) := by decide +kernel
theorem dX7_find_30 : decode cX7_find 30 = .ok (.iinc 2 1, 3) := by decide +kernel
theorem dX7_find_33 : decode cX7_find 33 = .ok (.goto (-31), 3) := by decide +kernel
theorem dX7_find_36 : decode cX7_find 36 = .ok (.aconst_null, 1) := by decide +kernel
theorem dX7_find_37 : decode cX7_find 37 = .ok (.areturn, 1) := by decide +kernel
theorem dX7_addressOf_0 : decode cX7_addressOf 0 = .ok (.iload_n 1, 1) := by decide +kernel
theorem dX7_addressOf_1 : decode cX7_addressOf 1 = .ok (.ifCond .lt 11, 3) := by decide +kernel
theorem dX7_addressOf_4 : decode cX7_addressOf 4 = .ok (.iload_n 1, 1) := by decide +kernel
theorem dX7_addressOf_5 : decode cX7_addressOf 5 = .ok (.aload_n 0, 1) := by decide +kernel
theorem dX7_addressOf_6 : decode cX7_addressOf 6 = .ok (.getfield 26, 3) := by decide +kernel
theorem dX7_addressOf_9 : decode cX7_addressOf 9 = .ok (.if_icmp .lt 7, 3) := by decide +kernel
theorem dX7_addressOf_12 : decode cX7_addressOf 12 = .ok (.iconst (-1), 1) := by decide +kernel
theorem dX7_addressOf_13 : decode cX7_addressOf 13 = .ok (.goto 12, 3) := by decide +kernel
theorem dX7_addressOf_16 : decode cX7_addressOf 16 = .ok (.aload_n 0, 1) := by decide +kernel
theorem dX7_addressOf_17 : decode cX7_addressOf 17 = .ok (.getfield 21, 3) := by decide +kernel
theorem dX7_addressOf_20 : decode cX7_addressOf 20 = .ok (.iload_n 1, 1) := by decide +kernel
theorem dX7_addressOf_21 : decode cX7_addressOf 21 = .ok (.aaload, 1) := by decide +kernel
theorem dX7_addressOf_22 : decode cX7_addressOf 22 = .ok (.getfield 37, 3) := by decide +kernel
theorem dX7_addressOf_25 : decode cX7_addressOf 25 = .ok (.ireturn, 1) := by decide +kernel
theorem dX7_dropPage_0 : decode cX7_dropPage 0 = .ok (.iconst 0, 1) := by decide +kernel
theorem dX7_dropPage_1 : decode cX7_dropPage 1 = .ok (.istore_n 2, 1) := by decide +kernel
theorem dX7_dropPage_2 : decode cX7_dropPage 2 = .ok (.aload_n 0, 1) := by decide +kernel
theorem dX7_dropPage_3 : decode cX7_dropPage 3 = .ok (.getfield 26, 3) := by decide +kernel
theorem dX7_dropPage_6 : decode cX7_dropPage 6 = .ok (.iconst 1, 1) := by decide +kernel
theorem dX7_dropPage_7 : decode cX7_dropPage 7 = .ok (.isub, 1) := by decide +kernel
theorem dX7_dropPage_8 : decode cX7_dropPage 8 = .ok (.istore_n 3, 1) := by decide +kernel
theorem dX7_dropPage_9 : decode cX7_dropPage 9 = .ok (.iload_n 3, 1) := by decide +kernel
theorem dX7_dropPage_10 : decode cX7_dropPage 10 = .ok (.ifCond .lt 30, 3) := by decide +kernel
theorem dX7_dropPage_13 : decode cX7_dropPage 13 = .ok (.aload_n 0, 1) := by decide +kernel
theorem dX7_dropPage_14 : decode cX7_dropPage 14 = .ok (.getfield 21, 3) := by decide +kernel
theorem dX7_dropPage_17 : decode cX7_dropPage 17 = .ok (.iload_n 3, 1) := by decide +kernel
theorem dX7_dropPage_18 : decode cX7_dropPage 18 = .ok (.aaload, 1) := by decide +kernel
theorem dX7_dropPage_19 : decode cX7_dropPage 19 = .ok (.iload_n 1, 1) := by decide +kernel
theorem dX7_dropPage_20 : decode cX7_dropPage 20 = .ok (.invokevirtual 40, 3) := by decide +kernel
theorem dX7_dropPage_23 : decode cX7_dropPage 23 = .ok (.ifCond .eq 11, 3) := by decide +kernel
theorem dX7_dropPage_26 : decode cX7_dropPage 26 = .ok (.aload_n 0, 1) := by decide +kernel
theorem dX7_dropPage_27 : decode cX7_dropPage 27 = .ok (.iload_n 3, 1) := by decide +kernel
theorem dX7_dropPage_28 : decode cX7_dropPage 28 = .ok (.invokevirtual 29, 3) := by decide +kernel
theorem dX7_dropPage_31 : decode cX7_dropPage 31 = .ok (.iinc 2 1, 3) := by decide +kernel
theorem dX7_dropPage_34 : decode cX7_dropPage 34 = .ok (.iinc 3 (-1), 3) := by decide +kernel
theorem dX7_dropPage_37 : decode cX7_dropPage 37 = .ok (.goto (-28), 3) := by decide +kernel
theorem dX7_dropPage_40 : decode cX7_dropPage 40 = .ok (.iload_n 2, 1) := by decide +kernel
theorem dX7_dropPage_41 : decode cX7_dropPage 41 = .ok (.ireturn, 1) := by decide +kernel
theorem dX7_dropAt_0 : decode cX7_dropAt 0 = .ok (.aload_n 0, 1) := by decide +kernel
theorem dX7_dropAt_1 : decode cX7_dropAt 1 = .ok (.getfield 21, 3) := by decide +kernel
theorem dX7_dropAt_4 : decode cX7_dropAt 4 = .ok (.iload_n 1, 1) := by decide +kernel
theorem dX7_dropAt_5 : decode cX7_dropAt 5 = .ok (.aaload, 1) := by decide +kernel
theorem dX7_dropAt_6 : decode cX7_dropAt 6 = .ok (.astore_n 2, 1) := by decide +kernel
theorem dX7_dropAt_7 : decode cX7_dropAt 7 = .ok (.iload_n 1, 1) := by decide +kernel
theorem dX7_dropAt_8 : decode cX7_dropAt 8 = .ok (.istore_n 3, 1) := by decide +kernel
theorem dX7_dropAt_9 : decode cX7_dropAt 9 = .ok (.iload_n 3, 1) := by decide +kernel
theorem dX7_dropAt_10 : decode cX7_dropAt 10 = .ok (.aload_n 0, 1) := by decide +kernel
theorem dX7_dropAt_11 : decode cX7_dropAt 11 = .ok (.getfield 9, 3) := by decide +kernel
theorem dX7_dropAt_14 : decode cX7_dropAt 14 = .ok (.if_icmp .ge 23, 3) := by decide +kernel
theorem dX7_dropAt_17 : decode cX7_dropAt 17 = .ok (.aload_n 0, 1) := by decide +kernel
theorem dX7_dropAt_18 : decode cX7_dropAt 18 = .ok (.getfield 21, 3) := by decide +kernel
theorem dX7_dropAt_21 : decode cX7_dropAt 21 = .ok (.iload_n 3, 1) := by decide +kernel
theorem dX7_dropAt_22 : decode cX7_dropAt 22 = .ok (.aload_n 0, 1) := by decide +kernel
theorem dX7_dropAt_23 : decode cX7_dropAt 23 = .ok (.getfield 21, 3) := by decide +kernel
theorem dX7_dropAt_26 : decode cX7_dropAt 26 = .ok (.iload_n 3, 1) := by decide +kernel
theorem dX7_dropAt_27 : decode cX7_dropAt 27 = .ok (.iconst 1, 1) := by decide +kernel
theorem dX7_dropAt_28 : decode cX7_dropAt 28 = .ok (.iadd, 1) := by decide +kernel
theorem dX7_dropAt_29 : decode cX7_dropAt 29 = .ok (.aaload, 1) := by decide +kernel
theorem dX7_dropAt_30 : decode cX7_dropAt 30 = .ok (.aastore, 1) := by decide +kernel
theorem dX7_dropAt_31 : decode cX7_dropAt 31 = .ok (.iinc 3 1, 3) := by decide +kernel
theorem dX7_dropAt_34 : decode cX7_dropAt 34 = .ok (.goto (-25), 3) := by decide +kernel
theorem dX7_dropAt_37 : decode cX7_dropAt 37 = .ok (.aload_n 0, 1) := by decide +kernel
theorem dX7_dropAt_38 : decode cX7_dropAt 38 = .ok (.getfield 21, 3) := by decide +kernel
theorem dX7_dropAt_41 : decode cX7_dropAt 41 = .ok (.aload_n 0, 1) := by decide +kernel
theorem dX7_dropAt_42 : decode cX7_dropAt 42 = .ok (.getfield 9, 3) := by decide +kernel
theorem dX7_dropAt_45 : decode cX7_dropAt 45 = .ok (.aload_n 2, 1) := by decide +kernel
theorem dX7_dropAt_46 : decode cX7_dropAt 46 = .ok (.aastore, 1) := by decide +kernel
theorem dX7_dropAt_47 : decode cX7_dropAt 47 = .ok (.aload_n 2, 1) := by decide +kernel
theorem dX7_dropAt_48 : decode cX7_dropAt 48 = .ok (.iconst 0, 1) := by decide +kernel
theorem dX7_dropAt_49 : decode cX7_dropAt 49 = .ok (.putfield 33, 3) := by decide +kernel
theorem dX7_dropAt_52 : decode cX7_dropAt 52 = .ok (.aload_n 0, 1) := by decide +kernel
theorem dX7_dropAt_53 : decode cX7_dropAt 53 = .ok (.dup, 1) := by decide +kernel
theorem dX7_dropAt_54 : decode cX7_dropAt 54 = .ok (.getfield 26, 3) := by decide +kernel
theorem dX7_dropAt_57 : decode cX7_dropAt 57 = .ok (.iconst 1, 1) := by decide +kernel
theorem dX7_dropAt_58 : decode cX7_dropAt 58 = .ok (.isub, 1) := by decide +kernel
theorem dX7_dropAt_59 : decode cX7_dropAt 59 = .ok (.putfield 26, 3) := by decide +kernel
theorem dX7_dropAt_62 : decode cX7_dropAt 62 = .ok (.aload_n 0, 1) := by decide +kernel
theorem dX7_dropAt_63 : decode cX7_dropAt 63 = .ok (.getfield 15, 3) := by decide +kernel
theorem dX7_dropAt_66 : decode cX7_dropAt 66 = .ok (.iconst 1, 1) := by decide +kernel
theorem dX7_dropAt_67 : decode cX7_dropAt 67 = .ok (.dup2, 1) := by decide +kernel
theorem dX7_dropAt_68 : decode cX7_dropAt 68 = .ok (.iaload, 1) := by decide +kernel
theorem dX7_dropAt_69 : decode cX7_dropAt 69 = .ok (.iconst 1, 1) := by decide +kernel
theorem dX7_dropAt_70 : decode cX7_dropAt 70 = .ok (.iadd, 1) := by decide +kernel
theorem dX7_dropAt_71 : decode cX7_dropAt 71 = .ok (.iastore, 1) := by decide +kernel
theorem dX7_dropAt_72 : decode cX7_dropAt 72 = .ok (.return_, 1) := by decide +kernel
theorem dX8_init_0 : decode cX8_init 0 = .ok (.aload_n 0, 1) := by decide +kernel
theorem dX8_init_1 : decode cX8_init 1 = .ok (.invokespecial 1, 3) := by decide +kernel
theorem dX8_init_4 : decode cX8_init 4 = .ok (.aload_n 0, 1) := by decide +kernel
theorem dX8_init_5 : decode cX8_init 5 = .ok (.bipush 8, 2) := by decide +kernel
theorem dX8_init_7 : decode cX8_init 7 = .ok (.newarray .int, 2) := by decide +kernel
theorem dX8_init_9 : decode cX8_init 9 = .ok (.putfield 9, 3) := by decide +kernel
theorem dX8_init_12 : decode cX8_init 12 = .ok (.aload_n 0, 1) := by decide +kernel
theorem dX8_init_13 : decode cX8_init 13 = .ok (.bipush 8, 2) := by decide +kernel
theorem dX8_init_15 : decode cX8_init 15 = .ok (.newarray .int, 2) := by decide +kernel
theorem dX8_init_17 : decode cX8_init 17 = .ok (.putfield 13, 3) := by decide +kernel
theorem dX8_init_20 : decode cX8_init 20 = .ok (.aload_n 0, 1) := by decide +kernel
theorem dX8_init_21 : decode cX8_init 21 = .ok (.iconst 4, 1) := by decide +kernel
theorem dX8_init_22 : decode cX8_init 22 = .ok (.newarray .int, 2) := by decide +kernel
theorem dX8_init_24 : decode cX8_init 24 = .ok (.putfield 16, 3) := by decide +kernel
theorem dX8_init_27 : decode cX8_init 27 = .ok (.aload_n 0, 1) := by decide +kernel
theorem dX8_init_28 : decode cX8_init 28 = .ok (.new 19, 3) := by decide +kernel
theorem dX8_init_31 : decode cX8_init 31 = .ok (.dup, 1) := by decide +kernel
theorem dX8_init_32 : decode cX8_init 32 = .ok (.iconst 0, 1) := by decide +kernel
theorem dX8_init_33 : decode cX8_init 33 = .ok (.bipush 20, 2) := by decide +kernel
theorem dX8_init_35 : decode cX8_init 35 = .ok (.iload_n 1, 1) := by decide +kernel
theorem dX8_init_36 : decode cX8_init 36 = .ok (.invokestatic 21, 3) := by decide +kernel
theorem dX8_init_39 : decode cX8_init 39 = .ok (.invokestatic 27, 3) := by decide +kernel
theorem dX8_init_42 : decode cX8_init 42 = .ok (.aload_n 0, 1) := by decide +kernel
theorem dX8_init_43 : decode cX8_init 43 = .ok (.getfield 9, 3) := by decide +kernel
theorem dX8_init_46 : decode cX8_init 46 = .ok (.invokespecial 30, 3) := by decide +kernel
theorem dX8_init_49 : decode cX8_init 49 = .ok (.putfield 33, 3) := by decide +kernel
theorem dX8_init_52 : decode cX8_init 52 = .ok (.aload_n 0, 1) := by decide +kernel
theorem dX8_init_53 : decode cX8_init 53 = .ok (.new 37, 3) := by decide +kernel
theorem dX8_init_56 : decode cX8_init 56 = .ok (.dup, 1) := by decide +kernel
theorem dX8_init_57 : decode cX8_init 57 = .ok (.aload_n 0, 1) := by decide +kernel
theorem dX8_init_58 : decode cX8_init 58 = .ok (.getfield 33, 3) := by decide +kernel
theorem dX8_init_61 : decode cX8_init 61 = .ok (.invokespecial 39, 3) := by decide +kernel
theorem dX8_init_64 : decode cX8_init 64 = .ok (.putfield 42, 3) := by decide +kernel
theorem dX8_init_67 : decode cX8_init 67 = .ok (.aload_n 0, 1) := by decide +kernel
theorem dX8_init_68 : decode cX8_init 68 = .ok (.new 46, 3) := by decide +kernel
theorem dX8_init_71 : decode cX8_init 71 = .ok (.dup, 1) := by decide +kernel
theorem dX8_init_72 : decode cX8_init 72 = .ok (.aload_n 0, 1) := by decide +kernel
theorem dX8_init_73 : decode cX8_init 73 = .ok (.getfield 42, 3) := by decide +kernel
theorem dX8_init_76 : decode cX8_init 76 = .ok (.aload_n 0, 1) := by decide +kernel
theorem dX8_init_77 : decode cX8_init 77 = .ok (.getfield 33, 3) := by decide +kernel
theorem dX8_init_80 : decode cX8_init 80 = .ok (.aload_n 0, 1) := by decide +kernel
theorem dX8_init_81 : decode cX8_init 81 = .ok (.getfield 13, 3) := by decide +kernel
theorem dX8_init_84 : decode cX8_init 84 = .ok (.aload_n 0, 1) := by decide +kernel
theorem dX8_init_85 : decode cX8_init 85 = .ok (.getfield 9, 3) := by decide +kernel
theorem dX8_init_88 : decode cX8_init 88 = .ok (.invokespecial 48, 3) := by decide +kernel
theorem dX8_init_91 : decode cX8_init 91 = .ok (.putfield 51, 3) := by decide +kernel
theorem dX8_init_94 : decode cX8_init 94 = .ok (.aload_n 0, 1) := by decide +kernel
theorem dX8_init_95 : decode cX8_init 95 = .ok (.iconst (-1), 1) := by decide +kernel
theorem dX8_init_96 : decode cX8_init 96 = .ok (.putfield 55, 3) := by decide +kernel
theorem dX8_init_99 : decode cX8_init 99 = .ok (.return_, 1) := by decide +kernel
theorem dX8_poke_0 : decode cX8_poke 0 = .ok (.iload_n 1, 1) := by decide +kernel
theorem dX8_poke_1 : decode cX8_poke 1 = .ok (.invokestatic 59, 3) := by decide +kernel
theorem dX8_poke_4 : decode cX8_poke 4 = .ok (.ifCond .ne 13, 3) := by decide +kernel
theorem dX8_poke_7 : decode cX8_poke 7 = .ok (.new 63, 3) := by decide +kernel
theorem dX8_poke_10 : decode cX8_poke 10 = .ok (.dup, 1) := by decide +kernel
theorem dX8_poke_11 : decode cX8_poke 11 = .ok (.ldc 65, 2) := by decide +kernel
theorem dX8_poke_13 : decode cX8_poke 13 = .ok (.invokespecial 67, 3) := by decide +kernel
theorem dX8_poke_16 : decode cX8_poke 16 = .ok (.athrow, 1) := by decide +kernel
theorem dX8_poke_17 : decode cX8_poke 17 = .ok (.aload_n 0, 1) := by decide +kernel
theorem dX8_poke_18 : decode cX8_poke 18 = .ok (.getfield 42, 3) := by decide +kernel
theorem dX8_poke_21 : decode cX8_poke 21 = .ok (.getfield 70, 3) := by decide +kernel
theorem dX8_poke_24 : decode cX8_poke 24 = .ok (.iload_n 1, 1) := by decide +kernel
theorem dX8_poke_25 : decode cX8_poke 25 = .ok (.iaload, 1) := by decide +kernel
theorem dX8_poke_26 : decode cX8_poke 26 = .ok (.istore_n 3, 1) := by decide +kernel
theorem dX8_poke_27 : decode cX8_poke 27 = .ok (.aload_n 0, 1) := by decide +kernel
theorem dX8_poke_28 : decode cX8_poke 28 = .ok (.getfield 42, 3) := by decide +kernel
theorem dX8_poke_31 : decode cX8_poke 31 = .ok (.iload_n 1, 1) := by decide +kernel
theorem dX8_poke_32 : decode cX8_poke 32 = .ok (.iload_n 2, 1) := by decide +kernel
theorem dX8_poke_33 : decode cX8_poke 33 = .ok (.invokevirtual 73, 3) := by decide +kernel
theorem dX8_poke_36 : decode cX8_poke 36 = .ok (.pop, 1) := by decide +kernel
theorem dX8_poke_37 : decode cX8_poke 37 = .ok (.iload_n 3, 1) := by decide +kernel
theorem dX8_poke_38 : decode cX8_poke 38 = .ok (.ireturn, 1) := by decide +kernel
theorem dX8_feed_0 : decode cX8_feed 0 = .ok (.iload_n 2, 1) := by decide +kernel
theorem dX8_feed_1 : decode cX8_feed 1 = .ok (.iconst 1, 1) := by decide +kernel
theorem dX8_feed_2 : decode cX8_feed 2 = .ok (.if_icmp .lt 22, 3) := by decide +kernel
theorem dX8_feed_5 : decode cX8_feed 5 = .ok (.iload_n 2, 1) := by decide +kernel
theorem dX8_feed_6 : decode cX8_feed 6 = .ok (.bipush 8, 2) := by decide +kernel
theorem dX8_feed_8 : decode cX8_feed 8 = .ok (.if_icmp .gt 16, 3) := by decide +kernel
theorem dX8_feed_11 : decode cX8_feed 11 = .ok (.iload_n 1, 1) := by decide +kernel
theorem dX8_feed_12 : decode cX8_feed 12 = .ok (.ifCond .lt 12, 3) := by decide +kernel
theorem dX8_feed_15 : decode cX8_feed 15 = .ok (.iload_n 1, 1) := by decide +kernel
theorem dX8_feed_16 : decode cX8_feed 16 = .ok (.sipush 1024, 3) := by decide +kernel
theorem dX8_feed_19 : decode cX8_feed 19 = .ok (.iload_n 2, 1) := by decide +kernel
theorem dX8_feed_20 : decode cX8_feed 20 = .ok (.isub, 1) := by decide +kernel
theorem dX8_feed_21 : decode cX8_feed 21 = .ok (.if_icmp .le 6, 3) := by decide +kernel
theorem dX8_feed_24 : decode cX8_feed 24 = .ok (.bipush (-2), 2) := by decide +kernel
theorem dX8_feed_26 : decode cX8_feed 26 = .ok (.ireturn, 1) := by decide +kernel
theorem dX8_feed_27 : decode cX8_feed 27 = .ok (.iconst 0, 1) := by decide +kernel
theorem dX8_feed_28 : decode cX8_feed 28 = .ok (.istore 5, 2) := by decide +kernel
theorem dX8_feed_30 : decode cX8_feed 30 = .ok (.iconst 0, 1) := by decide +kernel
theorem dX8_feed_31 : decode cX8_feed 31 = .ok (.istore 6, 2) := by decide +kernel
theorem dX8_feed_33 : decode cX8_feed 33 = .ok (.iload 6, 2) := by decide +kernel
theorem dX8_feed_35 : decode cX8_feed 35 = .ok (.iload_n 2, 1) := by decide +kernel
theorem dX8_feed_36 : decode cX8_feed 36 = .ok (.if_icmp .ge 37, 3) := by decide +kernel
theorem dX8_feed_39 : decode cX8_feed 39 = .ok (.iload 5, 2) := by decide +kernel
theorem dX8_feed_41 : decode cX8_feed 41 = .ok (.aload_n 0, 1) := by decide +kernel
theorem dX8_feed_42 : decode cX8_feed 42 = .ok (.getfield 42, 3) := by decide +kernel
theorem dX8_feed_45 : decode cX8_feed 45 = .ok (.iload_n 1, 1) := by decide +kernel
theorem dX8_feed_46 : decode cX8_feed 46 = .ok (.iload 6, 2) := by decide +kernel
theorem dX8_feed_48 : decode cX8_feed 48 = .ok (.iadd, 1) := by decide +kernel
theorem dX8_feed_49 : decode cX8_feed 49 = .ok (.lload_n 3, 1) := by decide +kernel
theorem dX8_feed_50 : decode cX8_feed 50 = .ok (.bipush 8, 2) := by decide +kernel
theorem dX8_feed_52 : decode cX8_feed 52 = .ok (.iload_n 2, 1) := by decide +kernel
theorem dX8_feed_53 : decode cX8_feed 53 = .ok (.iconst 1, 1) := by decide +kernel
theorem dX8_feed_54 : decode cX8_feed 54 = .ok (.isub, 1) := by decide +kernel
theorem dX8_feed_55 : decode cX8_feed 55 = .ok (.iload 6, 2) := by decide +kernel
theorem dX8_feed_57 : decode cX8_feed 57 = .ok (.isub, 1) := by decide +kernel
theorem dX8_feed_58 : decode cX8_feed 58 = .ok (.imul, 1) := by decide +kernel
theorem dX8_feed_59 : decode cX8_feed 59 = .ok (.lushr, 1) := by decide +kernel
theorem dX8_feed_60 : decode cX8_feed 60 = .ok (.l2i, 1) := by decide +kernel
theorem dX8_feed_61 : decode cX8_feed 61 = .ok (.invokevirtual 73, 3) := by decide +kernel
theorem dX8_feed_64 : decode cX8_feed 64 = .ok (.iadd, 1) := by decide +kernel
theorem dX8_feed_65 : decode cX8_feed 65 = .ok (.istore 5, 2) := by decide +kernel
theorem dX8_feed_67 : decode cX8_feed 67 = .ok (.iinc 6 1, 3) := by decide +kernel
theorem dX8_feed_70 : decode cX8_feed 70 = .ok (.goto (-37), 3) := by decide +kernel
theorem dX8_feed_73 : decode cX8_feed 73 = .ok (.iload 5, 2) := by decide +kernel
theorem dX8_feed_75 : decode cX8_feed 75 = .ok (.ireturn, 1) := by decide +kernel
theorem dX8_peek_0 : decode cX8_peek 0 = .ok (.iload_n 1, 1) := by decide +kernel
theorem dX8_peek_1 : decode cX8_peek 1 = .ok (.invokestatic 59, 3) := by decide +kernel
theorem dX8_peek_4 : decode cX8_peek 4 = .ok (.ifCond .ne 13, 3) := by decide +kernel
theorem dX8_peek_7 : decode cX8_peek 7 = .ok (.new 63, 3) := by decide +kernel
theorem dX8_peek_10 : decode cX8_peek 10 = .ok (.dup, 1) := by decide +kernel
theorem dX8_peek_11 : decode cX8_peek 11 = .ok (.ldc 65, 2) := by decide +kernel
theorem dX8_peek_13 : decode cX8_peek 13 = .ok (.invokespecial 67, 3) := by decide +kernel
theorem dX8_peek_16 : decode cX8_peek 16 = .ok (.athrow, 1) := by decide +kernel
theorem dX8_peek_17 : decode cX8_peek 17 = .ok (.aload_n 0, 1) := by decide +kernel
theorem dX8_peek_18 : decode cX8_peek 18 = .ok (.getfield 42, 3) := by decide +kernel
theorem dX8_peek_21 : decode cX8_peek 21 = .ok (.getfield 70, 3) := by decide +kernel
theorem dX8_peek_24 : decode cX8_peek 24 = .ok (.iload_n 1, 1) := by decide +kernel
theorem dX8_peek_25 : decode cX8_peek 25 = .ok (.iaload, 1) := by decide +kernel
theorem dX8_peek_26 : decode cX8_peek 26 = .ok (.ireturn, 1) := by decide +kernel
theorem dX8_global_0 : decode cX8_global 0 = .ok (.iload_n 1, 1) := by decide +kernel
theorem dX8_global_1 : decode cX8_global 1 = .ok (.ifCond .lt 9, 3) := by decide +kernel
theorem dX8_global_4 : decode cX8_global 4 = .ok (.iload_n 1, 1) := by decide +kernel
theorem dX8_global_5 : decode cX8_global 5 = .ok (.bipush 8, 2) := by decide +kernel
theorem dX8_global_7 : decode cX8_global 7 = .ok (.if_icmp .lt 13, 3) := by decide +kernel
theorem dX8_global_10 : decode cX8_global 10 = .ok (.new 63, 3) := by decide +kernel
theorem dX8_global_13 : decode cX8_global 13 = .ok (.dup, 1) := by decide +kernel
theorem dX8_global_14 : decode cX8_global 14 = .ok (.ldc 76, 2) := by decide +kernel
theorem dX8_global_16 : decode cX8_global 16 = .ok (.invokespecial 67, 3) := by decide +kernel
theorem dX8_global_19 : decode cX8_global 19 = .ok (.athrow, 1) := by decide +kernel
theorem dX8_global_20 : decode cX8_global 20 = .ok (.aload_n 0, 1) := by decide +kernel
theorem dX8_global_21 : decode cX8_global 21 = .ok (.getfield 13, 3) := by decide +kernel
theorem dX8_global_24 : decode cX8_global 24 = .ok (.iload_n 1, 1) := by decide +kernel
theorem dX8_global_25 : decode cX8_global 25 = .ok (.iaload, 1) := by decide +kernel
theorem dX8_global_26 : decode cX8_global 26 = .ok (.istore_n 3, 1) := by decide +kernel
theorem dX8_global_27 : decode cX8_global 27 = .ok (.aload_n 0, 1) := by decide +kernel
theorem dX8_global_28 : decode cX8_global 28 = .ok (.getfield 13, 3) := by decide +kernel
theorem dX8_global_31 : decode cX8_global 31 = .ok (.iload_n 1, 1) := by decide +kernel
theorem dX8_global_32 : decode cX8_global 32 = .ok (.iload_n 2, 1) := by decide +kernel
theorem dX8_global_33 : decode cX8_global 33 = .ok (.iastore, 1) := by decide +kernel
theorem dX8_global_34 : decode cX8_global 34 = .ok (.iload_n 3, 1) := by decide +kernel
theorem dX8_global_35 : decode cX8_global 35 = .ok (.ireturn, 1) := by decide +kernel
theorem dX8_make_0 : decode cX8_make 0 = .ok (.aload_n 0, 1) := by decide +kernel
theorem dX8_make_1 : decode cX8_make 1 = .ok (.iconst (-1), 1) := by decide +kernel
theorem dX8_make_2 : decode cX8_make 2 = .ok (.putfield 55, 3) := by decide +kernel
theorem dX8_make_5 : decode cX8_make 5 = .ok (.iload_n 1, 1) := by decide +kernel
theorem dX8_make_6 : decode cX8_make 6 = .ok (.invokestatic 78, 3) := by decide +kernel
theorem dX8_make_9 : decode cX8_make 9 = .ok (.ifCond .eq 14, 3) := by decide +kernel
theorem dX8_make_12 : decode cX8_make 12 = .ok (.aload_n 0, 1) := by decide +kernel
theorem dX8_make_13 : decode cX8_make 13 = .ok (.getfield 42, 3) := by decide +kernel
theorem dX8_make_16 : decode cX8_make 16 = .ok (.iload_n 1, 1) := by decide +kernel
theorem dX8_make_17 : decode cX8_make 17 = .ok (.invokevirtual 81, 3) := by decide +kernel
theorem dX8_make_20 : decode cX8_make 20 = .ok (.ifCond .ne 6, 3) := by decide +kernel
theorem dX8_make_23 : decode cX8_make 23 = .ok (.bipush (-2), 2) := by decide +kernel
theorem dX8_make_25 : decode cX8_make 25 = .ok (.ireturn, 1) := by decide +kernel
theorem dX8_make_26 : decode cX8_make 26 = .ok (.aload_n 0, 1) := by decide +kernel
theorem dX8_make_27 : decode cX8_make 27 = .ok (.getfield 33, 3) := by decide +kernel
theorem dX8_make_30 : decode cX8_make 30 = .ok (.invokevirtual 84, 3) := by decide +kernel
theorem dX8_make_33 : decode cX8_make 33 = .ok (.astore_n 2, 1) := by decide +kernel
theorem dX8_make_34 : decode cX8_make 34 = .ok (.aload_n 0, 1) := by decide +kernel
theorem dX8_make_35 : decode cX8_make 35 = .ok (.aload_n 2, 1) := by decide +kernel
theorem dX8_make_36 : decode cX8_make 36 = .ok (.aload_n 0, 1) := by decide +kernel
theorem dX8_make_37 : decode cX8_make 37 = .ok (.getfield 42, 3) := by decide +kernel
theorem dX8_make_40 : decode cX8_make 40 = .ok (.iload_n 1, 1) := by decide +kernel
theorem dX8_make_41 : decode cX8_make 41 = .ok (.invokevirtual 88, 3) := by decide +kernel
theorem dX8_make_44 : decode cX8_make 44 = .ok (.putfield 55, 3) := by decide +kernel
theorem dX8_make_47 : decode cX8_make 47 = .ok (.aload_n 0, 1) := by decide +kernel
theorem dX8_make_48 : decode cX8_make 48 = .ok (.getfield 55, 3) := by decide +kernel
theorem dX8_make_51 : decode cX8_make 51 = .ok (.iconst (-1), 1) := by decide +kernel
theorem dX8_make_52 : decode cX8_make 52 = .ok (.if_icmp .eq 6, 3) := by decide +kernel
theorem dX8_make_55 : decode cX8_make 55 = .ok (.bipush (-2), 2) := by decide +kernel
theorem dX8_make_57 : decode cX8_make 57 = .ok (.ireturn, 1) := by decide +kernel
theorem dX8_make_58 : decode cX8_make 58 = .ok (.aload_n 0, 1) := by decide +kernel
theorem dX8_make_59 : decode cX8_make 59 = .ok (.getfield 33, 3) := by decide +kernel
theorem dX8_make_62 : decode cX8_make 62 = .ok (.iload_n 1, 1) := by decide +kernel
theorem dX8_make_63 : decode cX8_make 63 = .ok (.invokevirtual 94, 3) := by decide +kernel
theorem dX8_make_66 : decode cX8_make 66 = .ok (.ifnull 6, 3) := by decide +kernel
theorem dX8_make_69 : decode cX8_make 69 = .ok (.bipush (-4), 2) := by decide +kernel
theorem dX8_make_71 : decode cX8_make 71 = .ok (.ireturn, 1) := by decide +kernel
theorem dX8_make_72 : decode cX8_make 72 = .ok (.aload_n 0, 1) := by decide +kernel
theorem dX8_make_73 : decode cX8_make 73 = .ok (.getfield 33, 3) := by decide +kernel
theorem dX8_make_76 : decode cX8_make 76 = .ok (.getfield 98, 3) := by decide +kernel
theorem dX8_make_79 : decode cX8_make 79 = .ok (.ifCond .ne 6, 3) := by decide +kernel
theorem dX8_make_82 : decode cX8_make 82 = .ok (.bipush (-3), 2) := by decide +kernel
theorem dX8_make_84 : decode cX8_make 84 = .ok (.ireturn, 1) := by decide +kernel
theorem dX8_make_85 : decode cX8_make 85 = .ok (.aload_n 0, 1) := by decide +kernel
theorem dX8_make_86 : decode cX8_make 86 = .ok (.getfield 33, 3) := by decide +kernel
theorem dX8_make_89 : decode cX8_make 89 = .ok (.invokevirtual 101, 3) := by decide +kernel
theorem dX8_make_92 : decode cX8_make 92 = .ok (.aload_n 2, 1) := by decide +kernel
theorem dX8_make_93 : decode cX8_make 93 = .ok (.getfield 104, 3) := by decide +kernel
theorem dX8_make_96 : decode cX8_make 96 = .ok (.ireturn, 1) := by decide +kernel
theorem dX8_place_0 : decode cX8_place 0 = .ok (.aload_n 0, 1) := by decide +kernel
theorem dX8_place_1 : decode cX8_place 1 = .ok (.getfield 55, 3) := by decide +kernel
theorem dX8_place_4 : decode cX8_place 4 = .ok (.ireturn, 1) := by decide +kernel
theorem dX8_argument_0 : decode cX8_argument 0 = .ok (.iload_n 1, 1) := by decide +kernel
theorem dX8_argument_1 : decode cX8_argument 1 = .ok (.ifCond .lt 8, 3) := by decide +kernel
theorem dX8_argument_4 : decode cX8_argument 4 = .ok (.iload_n 1, 1) := by decide +kernel
theorem dX8_argument_5 : decode cX8_argument 5 = .ok (.iconst 4, 1) := by decide +kernel
theorem dX8_argument_6 : decode cX8_argument 6 = .ok (.if_icmp .lt 6, 3) := by decide +kernel
theorem dX8_argument_9 : decode cX8_argument 9 = .ok (.bipush (-2), 2) := by decide +kernel
theorem dX8_argument_11 : decode cX8_argument 11 = .ok (.ireturn, 1) := by decide +kernel
theorem dX8_argument_12 : decode cX8_argument 12 = .ok (.aload_n 0, 1) := by decide +kernel
theorem dX8_argument_13 : decode cX8_argument 13 = .ok (.getfield 16, 3) := by decide +kernel
theorem dX8_argument_16 : decode cX8_argument 16 = .ok (.iload_n 1, 1) := by decide +kernel
theorem dX8_argument_17 : decode cX8_argument 17 = .ok (.iload_n 2, 1) := by decide +kernel
theorem dX8_argument_18 : decode cX8_argument 18 = .ok (.iastore, 1) := by decide +kernel
theorem dX8_argument_19 : decode cX8_argument 19 = .ok (.iconst 1, 1) := by decide +kernel
theorem dX8_argument_20 : decode cX8_argument 20 = .ok (.ireturn, 1) := by decide +kernel
theorem dX8_call_0 : decode cX8_call 0 = .ok (.aload_n 0, 1) := by decide +kernel
theorem dX8_call_1 : decode cX8_call 1 = .ok (.iload_n 1, 1) := by decide +kernel
theorem dX8_call_2 : decode cX8_call 2 = .ok (.iload_n 2, 1) := by decide +kernel
theorem dX8_call_3 : decode cX8_call 3 = .ok (.invokevirtual 107, 3) := by decide +kernel
theorem dX8_call_6 : decode cX8_call 6 = .ok (.istore_n 3, 1) := by decide +kernel
theorem dX8_call_7 : decode cX8_call 7 = .ok (.iload_n 3, 1) := by decide +kernel
theorem dX8_call_8 : decode cX8_call 8 = .ok (.ifCond .eq 7, 3) := by decide +kernel
theorem dX8_call_11 : decode cX8_call 11 = .ok (.iload_n 3, 1) := by decide +kernel
theorem dX8_call_12 : decode cX8_call 12 = .ok (.goto 17, 3) := by decide +kernel
theorem dX8_call_15 : decode cX8_call 15 = .ok (.aload_n 0, 1) := by decide +kernel
theorem dX8_call_16 : decode cX8_call 16 = .ok (.getfield 51, 3) := by decide +kernel
theorem dX8_call_19 : decode cX8_call 19 = .ok (.iload_n 1, 1) := by decide +kernel
theorem dX8_call_20 : decode cX8_call 20 = .ok (.aload_n 0, 1) := by decide +kernel
theorem dX8_call_21 : decode cX8_call 21 = .ok (.getfield 16, 3) := by decide +kernel
theorem dX8_call_24 : decode cX8_call 24 = .ok (.iload_n 2, 1) := by decide +kernel
theorem dX8_call_25 : decode cX8_call 25 = .ok (.iconst 1, 1) := by decide +kernel
theorem dX8_call_26 : decode cX8_call 26 = .ok (.invokevirtual 110, 3) := by decide +kernel
theorem dX8_call_29 : decode cX8_call 29 = .ok (.ireturn, 1) := by decide +kernel
theorem dX8_walk_0 : decode cX8_walk 0 = .ok (.aload_n 0, 1) := by decide +kernel
theorem dX8_walk_1 : decode cX8_walk 1 = .ok (.iload_n 1, 1) := by decide +kernel
theorem dX8_walk_2 : decode cX8_walk 2 = .ok (.iload_n 2, 1) := by decide +kernel
theorem dX8_walk_3 : decode cX8_walk 3 = .ok (.invokevirtual 107, 3) := by decide +kernel
theorem dX8_walk_6 : decode cX8_walk 6 = .ok (.istore_n 3, 1) := by decide +kernel
theorem dX8_walk_7 : decode cX8_walk 7 = .ok (.iload_n 3, 1) := by decide +kernel
theorem dX8_walk_8 : decode cX8_walk 8 = .ok (.ifCond .eq 7, 3) := by decide +kernel
theorem dX8_walk_11 : decode cX8_walk 11 = .ok (.iload_n 3, 1) := by decide +kernel
theorem dX8_walk_12 : decode cX8_walk 12 = .ok (.goto 17, 3) := by decide +kernel
theorem dX8_walk_15 : decode cX8_walk 15 = .ok (.aload_n 0, 1) := by decide +kernel
theorem dX8_walk_16 : decode cX8_walk 16 = .ok (.getfield 51, 3) := by decide +kernel
theorem dX8_walk_19 : decode cX8_walk 19 = .ok (.iload_n 1, 1) := by decide +kernel
theorem dX8_walk_20 : decode cX8_walk 20 = .ok (.aload_n 0, 1) := by decide +kernel
theorem dX8_walk_21 : decode cX8_walk 21 = .ok (.getfield 16, 3) := by decide +kernel
theorem dX8_walk_24 : decode cX8_walk 24 = .ok (.iload_n 2, 1) := by decide +kernel
theorem dX8_walk_25 : decode cX8_walk 25 = .ok (.iconst 0, 1) := by decide +kernel
theorem dX8_walk_26 : decode cX8_walk 26 = .ok (.invokevirtual 110, 3) := by decide +kernel
theorem dX8_walk_29 : decode cX8_walk 29 = .ok (.ireturn, 1) := by decide +kernel
theorem dX8_result_0 : decode cX8_result 0 = .ok (.aload_n 0, 1) := by decide +kernel
theorem dX8_result_1 : decode cX8_result 1 = .ok (.getfield 51, 3) := by decide +kernel
theorem dX8_result_4 : decode cX8_result 4 = .ok (.getfield 114, 3) := by decide +kernel
theorem dX8_result_7 : decode cX8_result 7 = .ok (.getfield 118, 3) := by decide +kernel
theorem dX8_result_10 : decode cX8_result 10 = .ok (.ireturn, 1) := by decide +kernel
theorem dX8_fault_0 : decode cX8_fault 0 = .ok (.aload_n 0, 1) := by decide +kernel
theorem dX8_fault_1 : decode cX8_fault 1 = .ok (.getfield 51, 3) := by decide +kernel
theorem dX8_fault_4 : decode cX8_fault 4 = .ok (.getfield 114, 3) := by decide +kernel
theorem dX8_fault_7 : decode cX8_fault 7 = .ok (.astore_n 2, 1) := by decide +kernel
theorem dX8_fault_8 : decode cX8_fault 8 = .ok (.iload_n 1, 1) := by decide +kernel
theorem dX8_fault_9 : decode cX8_fault 9 = .ok (.tableswitch 42 0 2 #[27, 32, 37], 27) := by decide +kernel
theorem dX8_fault_36 : decode cX8_fault 36 = .ok (.aload_n 2, 1) := by decide +kernel
theorem dX8_fault_37 : decode cX8_fault 37 = .ok (.getfield 123, 3) := by decide +kernel
theorem dX8_fault_40 : decode cX8_fault 40 = .ok (.ireturn, 1) := by decide +kernel
theorem dX8_fault_41 : decode cX8_fault 41 = .ok (.aload_n 2, 1) := by decide +kernel
theorem dX8_fault_42 : decode cX8_fault 42 = .ok (.getfield 126, 3) := by decide +kernel
theorem dX8_fault_45 : decode cX8_fault 45 = .ok (.ireturn, 1) := by decide +kernel
theorem dX8_fault_46 : decode cX8_fault 46 = .ok (.aload_n 2, 1) := by decide +kernel
theorem dX8_fault_47 : decode cX8_fault 47 = .ok (.getfield 129, 3) := by decide +kernel
theorem dX8_fault_50 : decode cX8_fault 50 = .ok (.ireturn, 1) := by decide +kernel
theorem dX8_fault_51 : decode cX8_fault 51 = .ok (.bipush (-2), 2) := by decide +kernel
theorem dX8_fault_53 : decode cX8_fault 53 = .ok (.ireturn, 1) := by decide +kernel
theorem dX8_accelerate_0 : decode cX8_accelerate 0 = .ok (.iload_n 1, 1) := by decide +kernel
theorem dX8_accelerate_1 : decode cX8_accelerate 1 = .ok (.invokestatic 78, 3) := by decide +kernel
theorem dX8_accelerate_4 : decode cX8_accelerate 4 = .ok (.ifCond .eq 12, 3) := by decide +kernel
theorem dX8_accelerate_7 : decode cX8_accelerate 7 = .ok (.iload_n 2, 1) := by decide +kernel
theorem dX8_accelerate_8 : decode cX8_accelerate 8 = .ok (.ifCond .lt 8, 3) := by decide +kernel
theorem dX8_accelerate_11 : decode cX8_accelerate 11 = .ok (.iload_n 2, 1) := by decide +kernel
theorem dX8_accelerate_12 : decode cX8_accelerate 12 = .ok (.iconst 4, 1) := by decide +kernel
theorem dX8_accelerate_13 : decode cX8_accelerate 13 = .ok (.if_icmp .le 6, 3) := by decide +kernel
theorem dX8_accelerate_16 : decode cX8_accelerate 16 = .ok (.bipush (-2), 2) := by decide +kernel
theorem dX8_accelerate_18 : decode cX8_accelerate 18 = .ok (.ireturn, 1) := by decide +kernel
theorem dX8_accelerate_19 : decode cX8_accelerate 19 = .ok (.aload_n 0, 1) := by decide +kernel
theorem dX8_accelerate_20 : decode cX8_accelerate 20 = .ok (.getfield 51, 3) := by decide +kernel
theorem dX8_accelerate_23 : decode cX8_accelerate 23 = .ok (.getfield 132, 3) := by decide +kernel
theorem dX8_accelerate_26 : decode cX8_accelerate 26 = .ok (.iload_n 1, 1) := by decide +kernel
theorem dX8_accelerate_27 : decode cX8_accelerate 27 = .ok (.iconst 4, 1) := by decide +kernel
theorem dX8_accelerate_28 : decode cX8_accelerate 28 = .ok (.idiv, 1) := by decide +kernel
theorem dX8_accelerate_29 : decode cX8_accelerate 29 = .ok (.iaload, 1) := by decide +kernel
theorem dX8_accelerate_30 : decode cX8_accelerate 30 = .ok (.istore_n 3, 1) := by decide +kernel
theorem dX8_accelerate_31 : decode cX8_accelerate 31 = .ok (.aload_n 0, 1) := by decide +kernel
theorem dX8_accelerate_32 : decode cX8_accelerate 32 = .ok (.getfield 51, 3) := by decide +kernel
theorem dX8_accelerate_35 : decode cX8_accelerate 35 = .ok (.getfield 132, 3) := by decide +kernel
theorem dX8_accelerate_38 : decode cX8_accelerate 38 = .ok (.iload_n 1, 1) := by decide +kernel
theorem dX8_accelerate_39 : decode cX8_accelerate 39 = .ok (.iconst 4, 1) := by decide +kernel
theorem dX8_accelerate_40 : decode cX8_accelerate 40 = .ok (.idiv, 1) := by decide +kernel
theorem dX8_accelerate_41 : decode cX8_accelerate 41 = .ok (.iload_n 2, 1) := by decide +kernel
theorem dX8_accelerate_42 : decode cX8_accelerate 42 = .ok (.iastore, 1) := by decide +kernel
theorem dX8_accelerate_43 : decode cX8_accelerate 43 = .ok (.iload_n 3, 1) := by decide +kernel
theorem dX8_accelerate_44 : decode cX8_accelerate 44 = .ok (.ireturn, 1) := by decide +kernel
theorem dX8_kept_0 : decode cX8_kept 0 = .ok (.aload_n 0, 1) := by decide +kernel
theorem dX8_kept_1 : decode cX8_kept 1 = .ok (.getfield 33, 3) := by decide +kernel
theorem dX8_kept_4 : decode cX8_kept 4 = .ok (.iload_n 1, 1) := by decide +kernel
theorem dX8_kept_5 : decode cX8_kept 5 = .ok (.invokevirtual 135, 3) := by decide +kernel
theorem dX8_kept_8 : decode cX8_kept 8 = .ok (.ireturn, 1) := by decide +kernel
theorem dX8_drop_0 : decode cX8_drop 0 = .ok (.iload_n 1, 1) := by decide +kernel
theorem dX8_drop_1 : decode cX8_drop 1 = .ok (.ifCond .lt 9, 3) := by decide +kernel
theorem dX8_drop_4 : decode cX8_drop 4 = .ok (.iload_n 1, 1) := by decide +kernel
theorem dX8_drop_5 : decode cX8_drop 5 = .ok (.bipush 16, 2) := by decide +kernel
theorem dX8_drop_7 : decode cX8_drop 7 = .ok (.if_icmp .lt 6, 3) := by decide +kernel
theorem dX8_drop_10 : decode cX8_drop 10 = .ok (.bipush (-2), 2) := by decide +kernel
theorem dX8_drop_12 : decode cX8_drop 12 = .ok (.ireturn, 1) := by decide +kernel
theorem dX8_drop_13 : decode cX8_drop 13 = .ok (.aload_n 0, 1) := by decide +kernel
theorem dX8_drop_14 : decode cX8_drop 14 = .ok (.getfield 33, 3) := by decide +kernel
theorem dX8_drop_17 : decode cX8_drop 17 = .ok (.iload_n 1, 1) := by decide +kernel
theorem dX8_drop_18 : decode cX8_drop 18 = .ok (.invokevirtual 139, 3) := by decide +kernel
theorem dX8_drop_21 : decode cX8_drop 21 = .ok (.ireturn, 1) := by decide +kernel
theorem dX8_count_0 : decode cX8_count 0 = .ok (.iload_n 1, 1) := by decide +kernel
theorem dX8_count_1 : decode cX8_count 1 = .ok (.ifCond .lt 9, 3) := by decide +kernel
theorem dX8_count_4 : decode cX8_count 4 = .ok (.iload_n 1, 1) := by decide +kernel
theorem dX8_count_5 : decode cX8_count 5 = .ok (.bipush 8, 2) := by decide +kernel
theorem dX8_count_7 : decode cX8_count 7 = .ok (.if_icmp .lt 8, 3) := by decide +kernel
theorem dX8_count_10 : decode cX8_count 10 = .ok (.bipush (-2), 2) := by decide +kernel
theorem dX8_count_12 : decode cX8_count 12 = .ok (.goto 9, 3) := by decide +kernel
theorem dX8_count_15 : decode cX8_count 15 = .ok (.aload_n 0, 1) := by decide +kernel
theorem dX8_count_16 : decode cX8_count 16 = .ok (.getfield 9, 3) := by decide +kernel
theorem dX8_count_19 : decode cX8_count 19 = .ok (.iload_n 1, 1) := by decide +kernel
theorem dX8_count_20 : decode cX8_count 20 = .ok (.iaload, 1) := by decide +kernel
theorem dX8_count_21 : decode cX8_count 21 = .ok (.ireturn, 1) := by decide +kernel
theorem dX8_refusalOf_0 : decode cX8_refusalOf 0 = .ok (.iload_n 2, 1) := by decide +kernel
theorem dX8_refusalOf_1 : decode cX8_refusalOf 1 = .ok (.ifCond .lt 15, 3) := by decide +kernel
theorem dX8_refusalOf_4 : decode cX8_refusalOf 4 = .ok (.iload_n 2, 1) := by decide +kernel
theorem dX8_refusalOf_5 : decode cX8_refusalOf 5 = .ok (.iconst 4, 1) := by decide +kernel
theorem dX8_refusalOf_6 : decode cX8_refusalOf 6 = .ok (.if_icmp .gt 10, 3) := by decide +kernel
theorem dX8_refusalOf_9 : decode cX8_refusalOf 9 = .ok (.iload_n 1, 1) := by decide +kernel
theorem dX8_refusalOf_10 : decode cX8_refusalOf 10 = .ok (.invokestatic 78, 3) := by decide +kernel
theorem dX8_refusalOf_13 : decode cX8_refusalOf 13 = .ok (.ifCond .ne 6, 3) := by decide +kernel
theorem dX8_refusalOf_16 : decode cX8_refusalOf 16 = .ok (.bipush (-2), 2) := by decide +kernel
theorem dX8_refusalOf_18 : decode cX8_refusalOf 18 = .ok (.ireturn, 1) := by decide +kernel
theorem dX8_refusalOf_19 : decode cX8_refusalOf 19 = .ok (.aload_n 0, 1) := by decide +kernel
theorem dX8_refusalOf_20 : decode cX8_refusalOf 20 = .ok (.getfield 9, 3) := by decide +kernel
theorem dX8_refusalOf_23 : decode cX8_refusalOf 23 = .ok (.bipush 6, 2) := by decide +kernel
theorem dX8_refusalOf_25 : decode cX8_refusalOf 25 = .ok (.iaload, 1) := by decide +kernel
theorem dX8_refusalOf_26 : decode cX8_refusalOf 26 = .ok (.sipush 500, 3) := by decide +kernel
theorem dX8_refusalOf_29 : decode cX8_refusalOf 29 = .ok (.if_icmp .lt 8, 3) := by decide +kernel
theorem dX8_refusalOf_32 : decode cX8_refusalOf 32 = .ok (.bipush (-3), 2) := by decide +kernel
theorem dX8_refusalOf_34 : decode cX8_refusalOf 34 = .ok (.goto 4, 3) := by decide +kernel
theorem dX8_refusalOf_37 : decode cX8_refusalOf 37 = .ok (.iconst 0, 1) := by decide +kernel
theorem dX8_refusalOf_38 : decode cX8_refusalOf 38 = .ok (.ireturn, 1) := by decide +kernel
theorem dX8_isAddress_0 : decode cX8_isAddress 0 = .ok (.iload_n 0, 1) := by decide +kernel
theorem dX8_isAddress_1 : decode cX8_isAddress 1 = .ok (.ifCond .lt 20, 3) := by decide +kernel
theorem dX8_isAddress_4 : decode cX8_isAddress 4 = .ok (.iload_n 0, 1) := by decide +kernel
theorem dX8_isAddress_5 : decode cX8_isAddress 5 = .ok (.sipush 1020, 3) := by decide +kernel
theorem dX8_isAddress_8 : decode cX8_isAddress 8 = .ok (.if_icmp .gt 13, 3) := by decide +kernel
theorem dX8_isAddress_11 : decode cX8_isAddress 11 = .ok (.iload_n 0, 1) := by decide +kernel
theorem dX8_isAddress_12 : decode cX8_isAddress 12 = .ok (.iconst 4, 1) := by decide +kernel
theorem dX8_isAddress_13 : decode cX8_isAddress 13 = .ok (.irem, 1) := by decide +kernel
theorem dX8_isAddress_14 : decode cX8_isAddress 14 = .ok (.ifCond .ne 7, 3) := by decide +kernel
theorem dX8_isAddress_17 : decode cX8_isAddress 17 = .ok (.iconst 1, 1) := by decide +kernel
theorem dX8_isAddress_18 : decode cX8_isAddress 18 = .ok (.goto 4, 3) := by decide +kernel
theorem dX8_isAddress_21 : decode cX8_isAddress 21 = .ok (.iconst 0, 1) := by decide +kernel
theorem dX8_isAddress_22 : decode cX8_isAddress 22 = .ok (.ireturn, 1) := by decide +kernel
theorem dX8_isPlace_0 : decode cX8_isPlace 0 = .ok (.iload_n 0, 1) := by decide +kernel
theorem dX8_isPlace_1 : decode cX8_isPlace 1 = .ok (.ifCond .lt 14, 3) := by decide +kernel
theorem dX8_isPlace_4 : decode cX8_isPlace 4 = .ok (.iload_n 0, 1) := by decide +kernel
theorem dX8_isPlace_5 : decode cX8_isPlace 5 = .ok (.sipush 1024, 3) := by decide +kernel
theorem dX8_isPlace_8 : decode cX8_isPlace 8 = .ok (.if_icmp .ge 7, 3) := by decide +kernel
theorem dX8_isPlace_11 : decode cX8_isPlace 11 = .ok (.iconst 1, 1) := by decide +kernel
theorem dX8_isPlace_12 : decode cX8_isPlace 12 = .ok (.goto 4, 3) := by decide +kernel
theorem dX8_isPlace_15 : decode cX8_isPlace 15 = .ok (.iconst 0, 1) := by decide +kernel
theorem dX8_isPlace_16 : decode cX8_isPlace 16 = .ok (.ireturn, 1) := by decide +kernel
theorem dX9_init_0 : decode cX9_init 0 = .ok (.aload_n 0, 1) := by decide +kernel
theorem dX9_init_1 : decode cX9_init 1 = .ok (.invokespecial 1, 3) := by decide +kernel
theorem dX9_init_4 : decode cX9_init 4 = .ok (.aload_n 0, 1) := by decide +kernel
theorem dX9_init_5 : decode cX9_init 5 = .ok (.sipush 1024, 3) := by decide +kernel
theorem dX9_init_8 : decode cX9_init 8 = .ok (.newarray .int, 2) := by decide +kernel
theorem dX9_init_10 : decode cX9_init 10 = .ok (.putfield 7, 3) := by decide +kernel
theorem dX9_init_13 : decode cX9_init 13 = .ok (.aload_n 0, 1) := by decide +kernel
theorem dX9_init_14 : decode cX9_init 14 = .ok (.bipush 8, 2) := by decide +kernel
theorem dX9_init_16 : decode cX9_init 16 = .ok (.newarray .int, 2) := by decide +kernel
theorem dX9_init_18 : decode cX9_init 18 = .ok (.putfield 13, 3) := by decide +kernel
theorem dX9_init_21 : decode cX9_init 21 = .ok (.aload_n 0, 1) := by decide +kernel
theorem dX9_init_22 : decode cX9_init 22 = .ok (.iconst 4, 1) := by decide +kernel
theorem dX9_init_23 : decode cX9_init 23 = .ok (.newarray .int, 2) := by decide +kernel
theorem dX9_init_25 : decode cX9_init 25 = .ok (.putfield 16, 3) := by decide +kernel
theorem dX9_init_28 : decode cX9_init 28 = .ok (.aload_n 0, 1) := by decide +kernel
theorem dX9_init_29 : decode cX9_init 29 = .ok (.sipush 256, 3) := by decide +kernel
theorem dX9_init_32 : decode cX9_init 32 = .ok (.newarray .int, 2) := by decide +kernel
theorem dX9_init_34 : decode cX9_init 34 = .ok (.putfield 19, 3) := by decide +kernel
theorem dX9_init_37 : decode cX9_init 37 = .ok (.aload_n 0, 1) := by decide +kernel
theorem dX9_init_38 : decode cX9_init 38 = .ok (.bipush 21, 2) := by decide +kernel
theorem dX9_init_40 : decode cX9_init 40 = .ok (.newarray .int, 2) := by decide +kernel
theorem dX9_init_42 : decode cX9_init 42 = .ok (.putfield 22, 3) := by decide +kernel
theorem dX9_init_45 : decode cX9_init 45 = .ok (.aload_n 0, 1) := by decide +kernel
theorem dX9_init_46 : decode cX9_init 46 = .ok (.bipush 21, 2) := by decide +kernel
theorem dX9_init_48 : decode cX9_init 48 = .ok (.newarray .int, 2) := by decide +kernel
theorem dX9_init_50 : decode cX9_init 50 = .ok (.putfield 25, 3) := by decide +kernel
theorem dX9_init_53 : decode cX9_init 53 = .ok (.aload_n 0, 1) := by decide +kernel
theorem dX9_init_54 : decode cX9_init 54 = .ok (.bipush 21, 2) := by decide +kernel
theorem dX9_init_56 : decode cX9_init 56 = .ok (.newarray .int, 2) := by decide +kernel
theorem dX9_init_58 : decode cX9_init 58 = .ok (.putfield 28, 3) := by decide +kernel
theorem dX9_init_61 : decode cX9_init 61 = .ok (.aload_n 0, 1) := by decide +kernel
theorem dX9_init_62 : decode cX9_init 62 = .ok (.iconst (-1), 1) := by decide +kernel
theorem dX9_init_63 : decode cX9_init 63 = .ok (.putfield 31, 3) := by decide +kernel
theorem dX9_init_66 : decode cX9_init 66 = .ok (.aload_n 0, 1) := by decide +kernel
theorem dX9_init_67 : decode cX9_init 67 = .ok (.bipush 8, 2) := by decide +kernel
theorem dX9_init_69 : decode cX9_init 69 = .ok (.newarray .int, 2) := by decide +kernel
theorem dX9_init_71 : decode cX9_init 71 = .ok (.putfield 35, 3) := by decide +kernel
theorem dX9_init_74 : decode cX9_init 74 = .ok (.aload_n 0, 1) := by decide +kernel
theorem dX9_init_75 : decode cX9_init 75 = .ok (.bipush 61, 2) := by decide +kernel
theorem dX9_init_77 : decode cX9_init 77 = .ok (.newarray .int, 2) := by decide +kernel
theorem dX9_init_79 : decode cX9_init 79 = .ok (.putfield 38, 3) := by decide +kernel
theorem dX9_init_82 : decode cX9_init 82 = .ok (.aload_n 0, 1) := by decide +kernel
theorem dX9_init_83 : decode cX9_init 83 = .ok (.bipush 61, 2) := by decide +kernel
theorem dX9_init_85 : decode cX9_init 85 = .ok (.newarray .int, 2) := by decide +kernel
theorem dX9_init_87 : decode cX9_init 87 = .ok (.putfield 41, 3) := by decide +kernel
theorem dX9_init_90 : decode cX9_init 90 = .ok (.aload_n 0, 1) := by decide +kernel
theorem dX9_init_91 : decode cX9_init 91 = .ok (.bipush 12, 2) := by decide +kernel
theorem dX9_init_93 : decode cX9_init 93 = .ok (.newarray .int, 2) := by decide +kernel
theorem dX9_init_95 : decode cX9_init 95 = .ok (.putfield 44, 3) := by decide +kernel
theorem dX9_init_98 : decode cX9_init 98 = .ok (.aload_n 0, 1) := by decide +kernel
theorem dX9_init_99 : decode cX9_init 99 = .ok (.bipush 12, 2) := by decide +kernel
theorem dX9_init_101 : decode cX9_init 101 = .ok (.newarray .int, 2) := by decide +kernel
theorem dX9_init_103 : decode cX9_init 103 = .ok (.putfield 47, 3) := by decide +kernel
theorem dX9_init_106 : decode cX9_init 106 = .ok (.aload_n 0, 1) := by decide +kernel
theorem dX9_init_107 : decode cX9_init 107 = .ok (.bipush 12, 2) := by decide +kernel
theorem dX9_init_109 : decode cX9_init 109 = .ok (.newarray .int, 2) := by decide +kernel
theorem dX9_init_111 : decode cX9_init 111 = .ok (.putfield 50, 3) := by decide +kernel
theorem dX9_init_114 : decode cX9_init 114 = .ok (.aload_n 0, 1) := by decide +kernel
theorem dX9_init_115 : decode cX9_init 115 = .ok (.bipush 12, 2) := by decide +kernel
theorem dX9_init_117 : decode cX9_init 117 = .ok (.newarray .int, 2) := by decide +kernel
theorem dX9_init_119 : decode cX9_init 119 = .ok (.putfield 53, 3) := by decide +kernel
theorem dX9_init_122 : decode cX9_init 122 = .ok (.aload_n 0, 1) := by decide +kernel
theorem dX9_init_123 : decode cX9_init 123 = .ok (.bipush 12, 2) := by decide +kernel
theorem dX9_init_125 : decode cX9_init 125 = .ok (.newarray .int, 2) := by decide +kernel
theorem dX9_init_127 : decode cX9_init 127 = .ok (.putfield 56, 3) := by decide +kernel
theorem dX9_init_130 : decode cX9_init 130 = .ok (.aload_n 0, 1) := by decide +kernel
theorem dX9_init_131 : decode cX9_init 131 = .ok (.bipush 12, 2) := by decide +kernel
theorem dX9_init_133 : decode cX9_init 133 = .ok (.newarray .int, 2) := by decide +kernel
theorem dX9_init_135 : decode cX9_init 135 = .ok (.putfield 59, 3) := by decide +kernel
theorem dX9_init_138 : decode cX9_init 138 = .ok (.aload_n 0, 1) := by decide +kernel
theorem dX9_init_139 : decode cX9_init 139 = .ok (.bipush 96, 2) := by decide +kernel
theorem dX9_init_141 : decode cX9_init 141 = .ok (.newarray .int, 2) := by decide +kernel
theorem dX9_init_143 : decode cX9_init 143 = .ok (.putfield 62, 3) := by decide +kernel
theorem dX9_init_146 : decode cX9_init 146 = .ok (.aload_n 0, 1) := by decide +kernel
theorem dX9_init_147 : decode cX9_init 147 = .ok (.iconst 4, 1) := by decide +kernel
theorem dX9_init_148 : decode cX9_init 148 = .ok (.newarray .int, 2) := by decide +kernel
theorem dX9_init_150 : decode cX9_init 150 = .ok (.putfield 65, 3) := by decide +kernel
theorem dX9_init_153 : decode cX9_init 153 = .ok (.aload_n 0, 1) := by decide +kernel
theorem dX9_init_154 : decode cX9_init 154 = .ok (.iconst (-1), 1) := by decide +kernel
theorem dX9_init_155 : decode cX9_init 155 = .ok (.putfield 68, 3) := by decide +kernel
theorem dX9_init_158 : decode cX9_init 158 = .ok (.aload_n 0, 1) := by decide +kernel
theorem dX9_init_159 : decode cX9_init 159 = .ok (.iconst (-1), 1) := by decide +kernel
theorem dX9_init_160 : decode cX9_init 160 = .ok (.putfield 71, 3) := by decide +kernel
theorem dX9_init_163 : decode cX9_init 163 = .ok (.aload_n 0, 1) := by decide +kernel
theorem dX9_init_164 : decode cX9_init 164 = .ok (.iload_n 1, 1) := by decide +kernel
theorem dX9_init_165 : decode cX9_init 165 = .ok (.ifCond .ge 7, 3) := by decide +kernel
theorem dX9_init_168 : decode cX9_init 168 = .ok (.iconst 0, 1) := by decide +kernel
theorem dX9_init_169 : decode cX9_init 169 = .ok (.goto 15, 3) := by decide +kernel
theorem dX9_init_172 : decode cX9_init 172 = .ok (.iload_n 1, 1) := by decide +kernel
theorem dX9_init_173 : decode cX9_init 173 = .ok (.bipush 20, 2) := by decide +kernel
theorem dX9_init_175 : decode cX9_init 175 = .ok (.if_icmp .le 8, 3) := by decide +kernel
theorem dX9_init_178 : decode cX9_init 178 = .ok (.bipush 20, 2) := by decide +kernel
theorem dX9_init_180 : decode cX9_init 180 = .ok (.goto 4, 3) := by decide +kernel
theorem dX9_init_183 : decode cX9_init 183 = .ok (.iload_n 1, 1) := by decide +kernel
theorem dX9_init_184 : decode cX9_init 184 = .ok (.putfield 74, 3) := by decide +kernel
theorem dX9_init_187 : decode cX9_init 187 = .ok (.return_, 1) := by decide +kernel
theorem dX9_thrown_0 : decode cX9_thrown 0 = .ok (.aload_n 0, 1) := by decide +kernel
theorem dX9_thrown_1 : decode cX9_thrown 1 = .ok (.getfield 77, 3) := by decide +kernel
theorem dX9_thrown_4 : decode cX9_thrown 4 = .ok (.ireturn, 1) := by decide +kernel
theorem dX9_isPlace_0 : decode cX9_isPlace 0 = .ok (.iload_n 1, 1) := by decide +kernel
theorem dX9_isPlace_1 : decode cX9_isPlace 1 = .ok (.ifCond .lt 14, 3) := by decide +kernel
theorem dX9_isPlace_4 : decode cX9_isPlace 4 = .ok (.iload_n 1, 1) := by decide +kernel
theorem dX9_isPlace_5 : decode cX9_isPlace 5 = .ok (.sipush 1024, 3) := by decide +kernel
theorem dX9_isPlace_8 : decode cX9_isPlace 8 = .ok (.if_icmp .ge 7, 3) := by decide +kernel
theorem dX9_isPlace_11 : decode cX9_isPlace 11 = .ok (.iconst 1, 1) := by decide +kernel
theorem dX9_isPlace_12 : decode cX9_isPlace 12 = .ok (.goto 4, 3) := by decide +kernel
theorem dX9_isPlace_15 : decode cX9_isPlace 15 = .ok (.iconst 0, 1) := by decide +kernel
theorem dX9_isPlace_16 : decode cX9_isPlace 16 = .ok (.ireturn, 1) := by decide +kernel
theorem dX9_away_0 : decode cX9_away 0 = .ok (.aload_n 0, 1) := by decide +kernel
theorem dX9_away_1 : decode cX9_away 1 = .ok (.dup, 1) := by decide +kernel
theorem dX9_away_2 : decode cX9_away 2 = .ok (.getfield 80, 3) := by decide +kernel
theorem dX9_away_5 : decode cX9_away 5 = .ok (.iconst 1, 1) := by decide +kernel
theorem dX9_away_6 : decode cX9_away 6 = .ok (.isub, 1) := by decide +kernel
theorem dX9_away_7 : decode cX9_away 7 = .ok (.putfield 80, 3) := by decide +kernel
theorem dX9_away_10 : decode cX9_away 10 = .ok (.aload_n 0, 1) := by decide +kernel
theorem dX9_away_11 : decode cX9_away 11 = .ok (.dup, 1) := by decide +kernel
theorem dX9_away_12 : decode cX9_away 12 = .ok (.getfield 83, 3) := by decide +kernel
theorem dX9_away_15 : decode cX9_away 15 = .ok (.iconst 1, 1) := by decide +kernel
theorem dX9_away_16 : decode cX9_away 16 = .ok (.iadd, 1) := by decide +kernel
theorem dX9_away_17 : decode cX9_away 17 = .ok (.putfield 83, 3) := by decide +kernel
theorem dX9_away_20 : decode cX9_away 20 = .ok (.iload_n 1, 1) := by decide +kernel
theorem dX9_away_21 : decode cX9_away 21 = .ok (.istore_n 2, 1) := by decide +kernel
theorem dX9_away_22 : decode cX9_away 22 = .ok (.iload_n 2, 1) := by decide +kernel
theorem dX9_away_23 : decode cX9_away 23 = .ok (.aload_n 0, 1) := by decide +kernel
theorem dX9_away_24 : decode cX9_away 24 = .ok (.getfield 80, 3) := by decide +kernel
theorem dX9_away_27 : decode cX9_away 27 = .ok (.if_icmp .ge 51, 3) := by decide +kernel
theorem dX9_away_30 : decode cX9_away 30 = .ok (.aload_n 0, 1) := by decide +kernel
theorem dX9_away_31 : decode cX9_away 31 = .ok (.getfield 22, 3) := by decide +kernel
theorem dX9_away_34 : decode cX9_away 34 = .ok (.iload_n 2, 1) := by decide +kernel
theorem dX9_away_35 : decode cX9_away 35 = .ok (.aload_n 0, 1) := by decide +kernel
theorem dX9_away_36 : decode cX9_away 36 = .ok (.getfield 22, 3) := by decide +kernel
theorem dX9_away_39 : decode cX9_away 39 = .ok (.iload_n 2, 1) := by decide +kernel
theorem dX9_away_40 : decode cX9_away 40 = .ok (.iconst 1, 1) := by decide +kernel
theorem dX9_away_41 : decode cX9_away 41 = .ok (.iadd, 1) := by decide +kernel
theorem dX9_away_42 : decode cX9_away 42 = .ok (.iaload, 1) := by decide +kernel
theorem dX9_away_43 : decode cX9_away 43 = .ok (.iastore, 1) := by decide +kernel
theorem dX9_away_44 : decode cX9_away 44 = .ok (.aload_n 0, 1) := by decide +kernel
theorem dX9_away_45 : decode cX9_away 45 = .ok (.getfield 25, 3) := by decide +kernel
theorem dX9_away_48 : decode cX9_away 48 = .ok (.iload_n 2, 1) := by decide +kernel
theorem dX9_away_49 : decode cX9_away 49 = .ok (.aload_n 0, 1) := by decide +kernel
theorem dX9_away_50 : decode cX9_away 50 = .ok (.getfield 25, 3) := by decide +kernel
theorem dX9_away_53 : decode cX9_away 53 = .ok (.iload_n 2, 1) := by decide +kernel
theorem dX9_away_54 : decode cX9_away 54 = .ok (.iconst 1, 1) := by decide +kernel
theorem dX9_away_55 : decode cX9_away 55 = .ok (.iadd, 1) := by decide +kernel
theorem dX9_away_56 : decode cX9_away 56 = .ok (.iaload, 1) := by decide +kernel
theorem dX9_away_57 : decode cX9_away 57 = .ok (.iastore, 1) := by decide +kernel
theorem dX9_away_58 : decode cX9_away 58 = .ok (.aload_n 0, 1) := by decide +kernel
theorem dX9_away_59 : decode cX9_away 59 = .ok (.getfield 28, 3) := by decide +kernel
theorem dX9_away_62 : decode cX9_away 62 = .ok (.iload_n 2, 1) := by decide +kernel
theorem dX9_away_63 : decode cX9_away 63 = .ok (.aload_n 0, 1) := by decide +kernel
theorem dX9_away_64 : decode cX9_away 64 = .ok (.getfield 28, 3) := by decide +kernel
theorem dX9_away_67 : decode cX9_away 67 = .ok (.iload_n 2, 1) := by decide +kernel
theorem dX9_away_68 : decode cX9_away 68 = .ok (.iconst 1, 1) := by decide +kernel
theorem dX9_away_69 : decode cX9_away 69 = .ok (.iadd, 1) := by decide +kernel
theorem dX9_away_70 : decode cX9_away 70 = .ok (.iaload, 1) := by decide +kernel
theorem dX9_away_71 : decode cX9_away 71 = .ok (.iastore, 1) := by decide +kernel
theorem dX9_away_72 : decode cX9_away 72 = .ok (.iinc 2 1, 3) := by decide +kernel
theorem dX9_away_75 : decode cX9_away 75 = .ok (.goto (-53), 3) := by decide +kernel
theorem dX9_away_78 : decode cX9_away 78 = .ok (.return_, 1) := by decide +kernel
theorem dX9_dropPage_0 : decode cX9_dropPage 0 = .ok (.aload_n 0, 1) := by decide +kernel
theorem dX9_dropPage_1 : decode cX9_dropPage 1 = .ok (.getfield 80, 3) := by decide +kernel
theorem dX9_dropPage_4 : decode cX9_dropPage 4 = .ok (.istore_n 2, 1) := by decide +kernel
theorem dX9_dropPage_5 : decode cX9_dropPage 5 = .ok (.aload_n 0, 1) := by decide +kernel
theorem dX9_dropPage_6 : decode cX9_dropPage 6 = .ok (.getfield 80, 3) := by decide +kernel
theorem dX9_dropPage_9 : decode cX9_dropPage 9 = .ok (.iconst 1, 1) := by decide +kernel
theorem dX9_dropPage_10 : decode cX9_dropPage 10 = .ok (.isub, 1) := by decide +kernel
theorem dX9_dropPage_11 : decode cX9_dropPage 11 = .ok (.istore_n 3, 1) := by decide +kernel
theorem dX9_dropPage_12 : decode cX9_dropPage 12 = .ok (.iload_n 3, 1) := by decide +kernel
theorem dX9_dropPage_13 : decode cX9_dropPage 13 = .ok (.ifCond .lt 40, 3) := by decide +kernel
theorem dX9_dropPage_16 : decode cX9_dropPage 16 = .ok (.aload_n 0, 1) := by decide +kernel
theorem dX9_dropPage_17 : decode cX9_dropPage 17 = .ok (.getfield 22, 3) := by decide +kernel
theorem dX9_dropPage_20 : decode cX9_dropPage 20 = .ok (.iload_n 3, 1) := by decide +kernel
theorem dX9_dropPage_21 : decode cX9_dropPage 21 = .ok (.iaload, 1) := by decide +kernel
theorem dX9_dropPage_22 : decode cX9_dropPage 22 = .ok (.bipush 64, 2) := by decide +kernel
theorem dX9_dropPage_24 : decode cX9_dropPage 24 = .ok (.idiv, 1) := by decide +kernel
theorem dX9_dropPage_25 : decode cX9_dropPage 25 = .ok (.iload_n 1, 1) := by decide +kernel
theorem dX9_dropPage_26 : decode cX9_dropPage 26 = .ok (.if_icmp .gt 21, 3) := by decide +kernel
theorem dX9_dropPage_29 : decode cX9_dropPage 29 = .ok (.aload_n 0, 1) := by decide +kernel
theorem dX9_dropPage_30 : decode cX9_dropPage 30 = .ok (.getfield 25, 3) := by decide +kernel
theorem dX9_dropPage_33 : decode cX9_dropPage 33 = .ok (.iload_n 3, 1) := by decide +kernel
theorem dX9_dropPage_34 : decode cX9_dropPage 34 = .ok (.iaload, 1) := by decide +kernel
theorem dX9_dropPage_35 : decode cX9_dropPage 35 = .ok (.bipush 64, 2) := by decide +kernel
theorem dX9_dropPage_37 : decode cX9_dropPage 37 = .ok (.idiv, 1) := by decide +kernel
theorem dX9_dropPage_38 : decode cX9_dropPage 38 = .ok (.iload_n 1, 1) := by decide +kernel
theorem dX9_dropPage_39 : decode cX9_dropPage 39 = .ok (.if_icmp .lt 8, 3) := by decide +kernel
theorem dX9_dropPage_42 : decode cX9_dropPage 42 = .ok (.aload_n 0, 1) := by decide +kernel
theorem dX9_dropPage_43 : decode cX9_dropPage 43 = .ok (.iload_n 3, 1) := by decide +kernel
theorem dX9_dropPage_44 : decode cX9_dropPage 44 = .ok (.invokevirtual 86, 3) := by decide +kernel
theorem dX9_dropPage_47 : decode cX9_dropPage 47 = .ok (.iinc 3 (-1), 3) := by decide +kernel
theorem dX9_dropPage_50 : decode cX9_dropPage 50 = .ok (.goto (-38), 3) := by decide +kernel
theorem dX9_dropPage_53 : decode cX9_dropPage 53 = .ok (.iload_n 2, 1) := by decide +kernel
theorem dX9_dropPage_54 : decode cX9_dropPage 54 = .ok (.aload_n 0, 1) := by decide +kernel
theorem dX9_dropPage_55 : decode cX9_dropPage 55 = .ok (.getfield 80, 3) := by decide +kernel
theorem dX9_dropPage_58 : decode cX9_dropPage 58 = .ok (.isub, 1) := by decide +kernel
theorem dX9_dropPage_59 : decode cX9_dropPage 59 = .ok (.ireturn, 1) := by decide +kernel
theorem dX9_write_0 : decode cX9_write 0 = .ok (.iload_n 2, 1) := by decide +kernel
theorem dX9_write_1 : decode cX9_write 1 = .ok (.sipush 255, 3) := by decide +kernel
theorem dX9_write_4 : decode cX9_write 4 = .ok (.iand, 1) := by decide +kernel
theorem dX9_write_5 : decode cX9_write 5 = .ok (.istore_n 3, 1) := by decide +kernel
theorem dX9_write_6 : decode cX9_write 6 = .ok (.aload_n 0, 1) := by decide +kernel
theorem dX9_write_7 : decode cX9_write 7 = .ok (.getfield 7, 3) := by decide +kernel
theorem dX9_write_10 : decode cX9_write 10 = .ok (.iload_n 1, 1) := by decide +kernel
theorem dX9_write_11 : decode cX9_write 11 = .ok (.iaload, 1) := by decide +kernel
theorem dX9_write_12 : decode cX9_write 12 = .ok (.iload_n 3, 1) := by decide +kernel
theorem dX9_write_13 : decode cX9_write 13 = .ok (.if_icmp .ne 5, 3) := by decide +kernel
theorem dX9_write_16 : decode cX9_write 16 = .ok (.iconst 0, 1) := by decide +kernel
theorem dX9_write_17 : decode cX9_write 17 = .ok (.ireturn, 1) := by decide +kernel
theorem dX9_write_18 : decode cX9_write 18 = .ok (.aload_n 0, 1) := by decide +kernel
theorem dX9_write_19 : decode cX9_write 19 = .ok (.getfield 7, 3) := by decide +kernel
theorem dX9_write_22 : decode cX9_write 22 = .ok (.iload_n 1, 1) := by decide +kernel
theorem dX9_write_23 : decode cX9_write 23 = .ok (.iload_n 3, 1) := by decide +kernel
theorem dX9_write_24 : decode cX9_write 24 = .ok (.iastore, 1) := by decide +kernel
theorem dX9_write_25 : decode cX9_write 25 = .ok (.aload_n 0, 1) := by decide +kernel
theorem dX9_write_26 : decode cX9_write 26 = .ok (.iload_n 1, 1) := by decide +kernel
theorem dX9_write_27 : decode cX9_write 27 = .ok (.bipush 64, 2) := by decide +kernel
theorem dX9_write_29 : decode cX9_write 29 = .ok (.idiv, 1) := by decide +kernel
theorem dX9_write_30 : decode cX9_write 30 = .ok (.invokevirtual 90, 3) := by decide +kernel
theorem dX9_write_33 : decode cX9_write 33 = .ok (.ireturn, 1) := by decide +kernel
theorem dX9_poke_0 : decode cX9_poke 0 = .ok (.aload_n 0, 1) := by decide +kernel
theorem dX9_poke_1 : decode cX9_poke 1 = .ok (.aload_n 0, 1) := by decide +kernel
theorem dX9_poke_2 : decode cX9_poke 2 = .ok (.iload_n 1, 1) := by decide +kernel
theorem dX9_poke_3 : decode cX9_poke 3 = .ok (.invokevirtual 94, 3) := by decide +kernel
theorem dX9_poke_6 : decode cX9_poke 6 = .ok (.ifCond .eq 7, 3) := by decide +kernel
theorem dX9_poke_9 : decode cX9_poke 9 = .ok (.iconst 0, 1) := by decide +kernel
theorem dX9_poke_10 : decode cX9_poke 10 = .ok (.goto 4, 3) := by decide +kernel
theorem dX9_poke_13 : decode cX9_poke 13 = .ok (.iconst 1, 1) := by decide +kernel
theorem dX9_poke_14 : decode cX9_poke 14 = .ok (.putfield 77, 3) := by decide +kernel
theorem dX9_poke_17 : decode cX9_poke 17 = .ok (.aload_n 0, 1) := by decide +kernel
theorem dX9_poke_18 : decode cX9_poke 18 = .ok (.getfield 77, 3) := by decide +kernel
theorem dX9_poke_21 : decode cX9_poke 21 = .ok (.ifCond .le 5, 3) := by decide +kernel
theorem dX9_poke_24 : decode cX9_poke 24 = .ok (.iconst 0, 1) := by decide +kernel
theorem dX9_poke_25 : decode cX9_poke 25 = .ok (.ireturn, 1) := by decide +kernel
theorem dX9_poke_26 : decode cX9_poke 26 = .ok (.aload_n 0, 1) := by decide +kernel
theorem dX9_poke_27 : decode cX9_poke 27 = .ok (.getfield 7, 3) := by decide +kernel
theorem dX9_poke_30 : decode cX9_poke 30 = .ok (.iload_n 1, 1) := by decide +kernel
theorem dX9_poke_31 : decode cX9_poke 31 = .ok (.iaload, 1) := by decide +kernel
theorem dX9_poke_32 : decode cX9_poke 32 = .ok (.istore_n 3, 1) := by decide +kernel
theorem dX9_poke_33 : decode cX9_poke 33 = .ok (.aload_n 0, 1) := by decide +kernel
theorem dX9_poke_34 : decode cX9_poke 34 = .ok (.iload_n 1, 1) := by decide +kernel
theorem dX9_poke_35 : decode cX9_poke 35 = .ok (.iload_n 2, 1) := by decide +kernel
theorem dX9_poke_36 : decode cX9_poke 36 = .ok (.invokevirtual 98, 3) := by decide +kernel
