theorem d_Pg_size_0 : decode prog_6_method_2_code 0 = .ok (.aload_n 0, 1) := by decide +kernel
theorem d_Pg_size_1 : decode prog_6_method_2_code 1 = .ok (.getfield 20, 3) := by decide +kernel
theorem d_Pg_size_4 : decode prog_6_method_2_code 4 = .ok (.ireturn, 1) := by decide +kernel
theorem d_Co_count_0 : decode prog_1_method_22_code 0 = .ok (.iload_n 1, 1) := by decide +kernel
theorem d_Co_count_1 : decode prog_1_method_22_code 1 = .ok (.tableswitch 159 0 11 #[63, 71, 79, 87, 95, 106, 114, 122, 130, 141, 149, 154], 63) := by decide +kernel
theorem d_Co_count_64 : decode prog_1_method_22_code 64 = .ok (.aload_n 0, 1) := by decide +kernel
theorem d_Co_count_65 : decode prog_1_method_22_code 65 = .ok (.getfield 28, 3) := by decide +kernel
theorem d_Co_count_68 : decode prog_1_method_22_code 68 = .ok (.invokevirtual 241, 3) := by decide +kernel
theorem d_Co_count_71 : decode prog_1_method_22_code 71 = .ok (.ireturn, 1) := by decide +kernel
theorem d_Co_count_72 : decode prog_1_method_22_code 72 = .ok (.aload_n 0, 1) := by decide +kernel
theorem d_Co_count_73 : decode prog_1_method_22_code 73 = .ok (.getfield 28, 3) := by decide +kernel
theorem d_Co_count_76 : decode prog_1_method_22_code 76 = .ok (.invokevirtual 94, 3) := by decide +kernel
theorem d_Co_count_79 : decode prog_1_method_22_code 79 = .ok (.ireturn, 1) := by decide +kernel
theorem d_Co_count_80 : decode prog_1_method_22_code 80 = .ok (.aload_n 0, 1) := by decide +kernel
theorem d_Co_count_81 : decode prog_1_method_22_code 81 = .ok (.getfield 28, 3) := by decide +kernel
theorem d_Co_count_84 : decode prog_1_method_22_code 84 = .ok (.invokevirtual 244, 3) := by decide +kernel
theorem d_Co_count_87 : decode prog_1_method_22_code 87 = .ok (.ireturn, 1) := by decide +kernel
theorem d_Co_count_88 : decode prog_1_method_22_code 88 = .ok (.aload_n 0, 1) := by decide +kernel
theorem d_Co_count_89 : decode prog_1_method_22_code 89 = .ok (.getfield 28, 3) := by decide +kernel
theorem d_Co_count_92 : decode prog_1_method_22_code 92 = .ok (.invokevirtual 247, 3) := by decide +kernel
theorem d_Co_count_95 : decode prog_1_method_22_code 95 = .ok (.ireturn, 1) := by decide +kernel
theorem d_Co_count_96 : decode prog_1_method_22_code 96 = .ok (.aload_n 0, 1) := by decide +kernel
theorem d_Co_count_97 : decode prog_1_method_22_code 97 = .ok (.getfield 28, 3) := by decide +kernel
theorem d_Co_count_100 : decode prog_1_method_22_code 100 = .ok (.invokevirtual 129, 3) := by decide +kernel
theorem d_Co_count_103 : decode prog_1_method_22_code 103 = .ok (.invokestatic 250, 3) := by decide +kernel
theorem d_Co_count_106 : decode prog_1_method_22_code 106 = .ok (.ireturn, 1) := by decide +kernel
theorem d_Co_count_107 : decode prog_1_method_22_code 107 = .ok (.aload_n 0, 1) := by decide +kernel
theorem d_Co_count_108 : decode prog_1_method_22_code 108 = .ok (.getfield 28, 3) := by decide +kernel
theorem d_Co_count_111 : decode prog_1_method_22_code 111 = .ok (.invokevirtual 180, 3) := by decide +kernel
theorem d_Co_count_114 : decode prog_1_method_22_code 114 = .ok (.ireturn, 1) := by decide +kernel
theorem d_Co_count_115 : decode prog_1_method_22_code 115 = .ok (.aload_n 0, 1) := by decide +kernel
theorem d_Co_count_116 : decode prog_1_method_22_code 116 = .ok (.getfield 28, 3) := by decide +kernel
theorem d_Co_count_119 : decode prog_1_method_22_code 119 = .ok (.invokevirtual 164, 3) := by decide +kernel
theorem d_Co_count_122 : decode prog_1_method_22_code 122 = .ok (.ireturn, 1) := by decide +kernel
theorem d_Co_count_123 : decode prog_1_method_22_code 123 = .ok (.aload_n 0, 1) := by decide +kernel
theorem d_Co_count_124 : decode prog_1_method_22_code 124 = .ok (.getfield 28, 3) := by decide +kernel
theorem d_Co_count_127 : decode prog_1_method_22_code 127 = .ok (.invokevirtual 154, 3) := by decide +kernel
theorem d_Co_count_130 : decode prog_1_method_22_code 130 = .ok (.ireturn, 1) := by decide +kernel
theorem d_Co_count_131 : decode prog_1_method_22_code 131 = .ok (.aload_n 0, 1) := by decide +kernel
theorem d_Co_count_132 : decode prog_1_method_22_code 132 = .ok (.getfield 28, 3) := by decide +kernel
theorem d_Co_count_135 : decode prog_1_method_22_code 135 = .ok (.invokevirtual 219, 3) := by decide +kernel
theorem d_Co_count_138 : decode prog_1_method_22_code 138 = .ok (.invokevirtual 223, 3) := by decide +kernel
theorem d_Co_count_141 : decode prog_1_method_22_code 141 = .ok (.ireturn, 1) := by decide +kernel
theorem d_Co_count_142 : decode prog_1_method_22_code 142 = .ok (.aload_n 0, 1) := by decide +kernel
theorem d_Co_count_143 : decode prog_1_method_22_code 143 = .ok (.getfield 10, 3) := by decide +kernel
theorem d_Co_count_146 : decode prog_1_method_22_code 146 = .ok (.invokevirtual 65, 3) := by decide +kernel
theorem d_Co_count_149 : decode prog_1_method_22_code 149 = .ok (.ireturn, 1) := by decide +kernel
theorem d_Co_count_150 : decode prog_1_method_22_code 150 = .ok (.aload_n 0, 1) := by decide +kernel
theorem d_Co_count_151 : decode prog_1_method_22_code 151 = .ok (.getfield 90, 3) := by decide +kernel
theorem d_Co_count_154 : decode prog_1_method_22_code 154 = .ok (.ireturn, 1) := by decide +kernel
theorem d_Co_count_155 : decode prog_1_method_22_code 155 = .ok (.aload_n 0, 1) := by decide +kernel
theorem d_Co_count_156 : decode prog_1_method_22_code 156 = .ok (.getfield 183, 3) := by decide +kernel
theorem d_Co_count_159 : decode prog_1_method_22_code 159 = .ok (.ireturn, 1) := by decide +kernel
theorem d_Co_count_160 : decode prog_1_method_22_code 160 = .ok (.bipush (-102), 2) := by decide +kernel
theorem d_Co_count_162 : decode prog_1_method_22_code 162 = .ok (.ireturn, 1) := by decide +kernel
theorem d_Pg_code_0 : decode prog_6_method_3_code 0 = .ok (.aload_n 0, 1) := by decide +kernel
theorem d_Pg_code_1 : decode prog_6_method_3_code 1 = .ok (.getfield 14, 3) := by decide +kernel
theorem d_Pg_code_4 : decode prog_6_method_3_code 4 = .ok (.iload_n 1, 1) := by decide +kernel
theorem d_Pg_code_5 : decode prog_6_method_3_code 5 = .ok (.invokevirtual 24, 3) := by decide +kernel
theorem d_Pg_code_8 : decode prog_6_method_3_code 8 = .ok (.ireturn, 1) := by decide +kernel
theorem d_Rd_isDigit_0 : decode prog_8_method_10_code 0 = .ok (.iload_n 0, 1) := by decide +kernel
theorem d_Rd_isDigit_1 : decode prog_8_method_10_code 1 = .ok (.bipush 48, 2) := by decide +kernel
theorem d_Rd_isDigit_3 : decode prog_8_method_10_code 3 = .ok (.iload_n 1, 1) := by decide +kernel
theorem d_Rd_isDigit_4 : decode prog_8_method_10_code 4 = .ok (.iadd, 1) := by decide +kernel
theorem d_Rd_isDigit_5 : decode prog_8_method_10_code 5 = .ok (.if_icmp .lt 15, 3) := by decide +kernel
theorem d_Rd_isDigit_8 : decode prog_8_method_10_code 8 = .ok (.iload_n 0, 1) := by decide +kernel
theorem d_Rd_isDigit_9 : decode prog_8_method_10_code 9 = .ok (.bipush 48, 2) := by decide +kernel
theorem d_Rd_isDigit_11 : decode prog_8_method_10_code 11 = .ok (.iload_n 2, 1) := by decide +kernel
theorem d_Rd_isDigit_12 : decode prog_8_method_10_code 12 = .ok (.iadd, 1) := by decide +kernel
theorem d_Rd_isDigit_13 : decode prog_8_method_10_code 13 = .ok (.if_icmp .gt 7, 3) := by decide +kernel
theorem d_Rd_isDigit_16 : decode prog_8_method_10_code 16 = .ok (.iconst 1, 1) := by decide +kernel
theorem d_Rd_isDigit_17 : decode prog_8_method_10_code 17 = .ok (.goto 4, 3) := by decide +kernel
theorem d_Rd_isDigit_20 : decode prog_8_method_10_code 20 = .ok (.iconst 0, 1) := by decide +kernel
theorem d_Rd_isDigit_21 : decode prog_8_method_10_code 21 = .ok (.ireturn, 1) := by decide +kernel
theorem d_Rd_goesOn_0 : decode prog_8_method_9_code 0 = .ok (.iload_n 1, 1) := by decide +kernel
theorem d_Rd_goesOn_1 : decode prog_8_method_9_code 1 = .ok (.ifCond .eq 8, 3) := by decide +kernel
theorem d_Rd_goesOn_4 : decode prog_8_method_9_code 4 = .ok (.aload_n 0, 1) := by decide +kernel
theorem d_Rd_goesOn_5 : decode prog_8_method_9_code 5 = .ok (.iload_n 2, 1) := by decide +kernel
theorem d_Rd_goesOn_6 : decode prog_8_method_9_code 6 = .ok (.putfield 15, 3) := by decide +kernel
theorem d_Rd_goesOn_9 : decode prog_8_method_9_code 9 = .ok (.iload_n 1, 1) := by decide +kernel
theorem d_Rd_goesOn_10 : decode prog_8_method_9_code 10 = .ok (.ireturn, 1) := by decide +kernel
theorem d_Rd_takesDigitOfTree_0 : decode prog_8_method_6_code 0 = .ok (.iload_n 1, 1) := by decide +kernel
theorem d_Rd_takesDigitOfTree_1 : decode prog_8_method_6_code 1 = .ok (.iconst 0, 1) := by decide +kernel
theorem d_Rd_takesDigitOfTree_2 : decode prog_8_method_6_code 2 = .ok (.bipush 9, 2) := by decide +kernel
theorem d_Rd_takesDigitOfTree_4 : decode prog_8_method_6_code 4 = .ok (.invokestatic 75, 3) := by decide +kernel
theorem d_Rd_takesDigitOfTree_7 : decode prog_8_method_6_code 7 = .ok (.istore_n 2, 1) := by decide +kernel
theorem d_Rd_takesDigitOfTree_8 : decode prog_8_method_6_code 8 = .ok (.aload_n 0, 1) := by decide +kernel
theorem d_Rd_takesDigitOfTree_9 : decode prog_8_method_6_code 9 = .ok (.getfield 15, 3) := by decide +kernel
theorem d_Rd_takesDigitOfTree_12 : decode prog_8_method_6_code 12 = .ok (.ifCond .ne 10, 3) := by decide +kernel
theorem d_Rd_takesDigitOfTree_15 : decode prog_8_method_6_code 15 = .ok (.aload_n 0, 1) := by decide +kernel
theorem d_Rd_takesDigitOfTree_16 : decode prog_8_method_6_code 16 = .ok (.iload_n 2, 1) := by decide +kernel
theorem d_Rd_takesDigitOfTree_17 : decode prog_8_method_6_code 17 = .ok (.iconst 1, 1) := by decide +kernel
theorem d_Rd_takesDigitOfTree_18 : decode prog_8_method_6_code 18 = .ok (.invokevirtual 71, 3) := by decide +kernel
theorem d_Rd_takesDigitOfTree_21 : decode prog_8_method_6_code 21 = .ok (.ireturn, 1) := by decide +kernel
theorem d_Rd_takesDigitOfTree_22 : decode prog_8_method_6_code 22 = .ok (.aload_n 0, 1) := by decide +kernel
theorem d_Rd_takesDigitOfTree_23 : decode prog_8_method_6_code 23 = .ok (.dup, 1) := by decide +kernel
theorem d_Rd_takesDigitOfTree_24 : decode prog_8_method_6_code 24 = .ok (.getfield 19, 3) := by decide +kernel
theorem d_Rd_takesDigitOfTree_27 : decode prog_8_method_6_code 27 = .ok (.iload_n 2, 1) := by decide +kernel
theorem d_Rd_takesDigitOfTree_28 : decode prog_8_method_6_code 28 = .ok (.ifCond .eq 7, 3) := by decide +kernel
theorem d_Rd_takesDigitOfTree_31 : decode prog_8_method_6_code 31 = .ok (.iconst 1, 1) := by decide +kernel
theorem d_Rd_takesDigitOfTree_32 : decode prog_8_method_6_code 32 = .ok (.goto 4, 3) := by decide +kernel
theorem d_Rd_takesDigitOfTree_35 : decode prog_8_method_6_code 35 = .ok (.iconst 0, 1) := by decide +kernel
theorem d_Rd_takesDigitOfTree_36 : decode prog_8_method_6_code 36 = .ok (.iadd, 1) := by decide +kernel
theorem d_Rd_takesDigitOfTree_37 : decode prog_8_method_6_code 37 = .ok (.putfield 19, 3) := by decide +kernel
theorem d_Rd_takesDigitOfTree_40 : decode prog_8_method_6_code 40 = .ok (.aload_n 0, 1) := by decide +kernel
theorem d_Rd_takesDigitOfTree_41 : decode prog_8_method_6_code 41 = .ok (.iload_n 2, 1) := by decide +kernel
theorem d_Rd_takesDigitOfTree_42 : decode prog_8_method_6_code 42 = .ok (.iconst 2, 1) := by decide +kernel
theorem d_Rd_takesDigitOfTree_43 : decode prog_8_method_6_code 43 = .ok (.invokevirtual 71, 3) := by decide +kernel
theorem d_Rd_takesDigitOfTree_46 : decode prog_8_method_6_code 46 = .ok (.ireturn, 1) := by decide +kernel
theorem d_Rd_takesTreeEnd_0 : decode prog_8_method_7_code 0 = .ok (.iload_n 1, 1) := by decide +kernel
theorem d_Rd_takesTreeEnd_1 : decode prog_8_method_7_code 1 = .ok (.bipush 59, 2) := by decide +kernel
theorem d_Rd_takesTreeEnd_3 : decode prog_8_method_7_code 3 = .ok (.if_icmp .ne 10, 3) := by decide +kernel
theorem d_Rd_takesTreeEnd_6 : decode prog_8_method_7_code 6 = .ok (.aload_n 0, 1) := by decide +kernel
theorem d_Rd_takesTreeEnd_7 : decode prog_8_method_7_code 7 = .ok (.iconst 1, 1) := by decide +kernel
theorem d_Rd_takesTreeEnd_8 : decode prog_8_method_7_code 8 = .ok (.iconst 3, 1) := by decide +kernel
theorem d_Rd_takesTreeEnd_9 : decode prog_8_method_7_code 9 = .ok (.invokevirtual 71, 3) := by decide +kernel
theorem d_Rd_takesTreeEnd_12 : decode prog_8_method_7_code 12 = .ok (.ireturn, 1) := by decide +kernel
theorem d_Rd_takesTreeEnd_13 : decode prog_8_method_7_code 13 = .ok (.aload_n 0, 1) := by decide +kernel
theorem d_Rd_takesTreeEnd_14 : decode prog_8_method_7_code 14 = .ok (.iload_n 1, 1) := by decide +kernel
theorem d_Rd_takesTreeEnd_15 : decode prog_8_method_7_code 15 = .ok (.bipush 44, 2) := by decide +kernel
theorem d_Rd_takesTreeEnd_17 : decode prog_8_method_7_code 17 = .ok (.if_icmp .ne 15, 3) := by decide +kernel
theorem d_Rd_takesTreeEnd_20 : decode prog_8_method_7_code 20 = .ok (.aload_n 0, 1) := by decide +kernel
theorem d_Rd_takesTreeEnd_21 : decode prog_8_method_7_code 21 = .ok (.getfield 19, 3) := by decide +kernel
theorem d_Rd_takesTreeEnd_24 : decode prog_8_method_7_code 24 = .ok (.iconst 3, 1) := by decide +kernel
theorem d_Rd_takesTreeEnd_25 : decode prog_8_method_7_code 25 = .ok (.if_icmp .ge 7, 3) := by decide +kernel
theorem d_Rd_takesTreeEnd_28 : decode prog_8_method_7_code 28 = .ok (.iconst 1, 1) := by decide +kernel
theorem d_Rd_takesTreeEnd_29 : decode prog_8_method_7_code 29 = .ok (.goto 4, 3) := by decide +kernel
theorem d_Rd_takesTreeEnd_32 : decode prog_8_method_7_code 32 = .ok (.iconst 0, 1) := by decide +kernel
theorem d_Rd_takesTreeEnd_33 : decode prog_8_method_7_code 33 = .ok (.iconst 0, 1) := by decide +kernel
theorem d_Rd_takesTreeEnd_34 : decode prog_8_method_7_code 34 = .ok (.invokevirtual 71, 3) := by decide +kernel
theorem d_Rd_takesTreeEnd_37 : decode prog_8_method_7_code 37 = .ok (.ireturn, 1) := by decide +kernel
theorem d_Rd_takesHang_0 : decode prog_8_method_8_code 0 = .ok (.iload_n 1, 1) := by decide +kernel
theorem d_Rd_takesHang_1 : decode prog_8_method_8_code 1 = .ok (.bipush 45, 2) := by decide +kernel
theorem d_Rd_takesHang_3 : decode prog_8_method_8_code 3 = .ok (.if_icmp .eq 17, 3) := by decide +kernel
theorem d_Rd_takesHang_6 : decode prog_8_method_8_code 6 = .ok (.iload_n 1, 1) := by decide +kernel
theorem d_Rd_takesHang_7 : decode prog_8_method_8_code 7 = .ok (.iconst 0, 1) := by decide +kernel
theorem d_Rd_takesHang_8 : decode prog_8_method_8_code 8 = .ok (.aload_n 0, 1) := by decide +kernel
theorem d_Rd_takesHang_9 : decode prog_8_method_8_code 9 = .ok (.getfield 22, 3) := by decide +kernel
theorem d_Rd_takesHang_12 : decode prog_8_method_8_code 12 = .ok (.iconst 1, 1) := by decide +kernel
theorem d_Rd_takesHang_13 : decode prog_8_method_8_code 13 = .ok (.isub, 1) := by decide +kernel
theorem d_Rd_takesHang_14 : decode prog_8_method_8_code 14 = .ok (.invokestatic 75, 3) := by decide +kernel
theorem d_Rd_takesHang_17 : decode prog_8_method_8_code 17 = .ok (.ifCond .eq 7, 3) := by decide +kernel
theorem d_Rd_takesHang_20 : decode prog_8_method_8_code 20 = .ok (.iconst 1, 1) := by decide +kernel
theorem d_Rd_takesHang_21 : decode prog_8_method_8_code 21 = .ok (.goto 4, 3) := by decide +kernel
theorem d_Rd_takesHang_24 : decode prog_8_method_8_code 24 = .ok (.iconst 0, 1) := by decide +kernel
theorem d_Rd_takesHang_25 : decode prog_8_method_8_code 25 = .ok (.istore_n 2, 1) := by decide +kernel
theorem d_Rd_takesHang_26 : decode prog_8_method_8_code 26 = .ok (.aload_n 0, 1) := by decide +kernel
theorem d_Rd_takesHang_27 : decode prog_8_method_8_code 27 = .ok (.dup, 1) := by decide +kernel
theorem d_Rd_takesHang_28 : decode prog_8_method_8_code 28 = .ok (.getfield 22, 3) := by decide +kernel
theorem d_Rd_takesHang_31 : decode prog_8_method_8_code 31 = .ok (.iload_n 2, 1) := by decide +kernel
theorem d_Rd_takesHang_32 : decode prog_8_method_8_code 32 = .ok (.ifCond .eq 7, 3) := by decide +kernel
theorem d_Rd_takesHang_35 : decode prog_8_method_8_code 35 = .ok (.iconst 1, 1) := by decide +kernel
theorem d_Rd_takesHang_36 : decode prog_8_method_8_code 36 = .ok (.goto 4, 3) := by decide +kernel
theorem d_Rd_takesHang_39 : decode prog_8_method_8_code 39 = .ok (.iconst 0, 1) := by decide +kernel
theorem d_Rd_takesHang_40 : decode prog_8_method_8_code 40 = .ok (.iadd, 1) := by decide +kernel
theorem d_Rd_takesHang_41 : decode prog_8_method_8_code 41 = .ok (.putfield 22, 3) := by decide +kernel
theorem d_Rd_takesHang_44 : decode prog_8_method_8_code 44 = .ok (.aload_n 0, 1) := by decide +kernel
theorem d_Rd_takesHang_45 : decode prog_8_method_8_code 45 = .ok (.iload_n 2, 1) := by decide +kernel
theorem d_Rd_takesHang_46 : decode prog_8_method_8_code 46 = .ok (.bipush 7, 2) := by decide +kernel
theorem d_Rd_takesHang_48 : decode prog_8_method_8_code 48 = .ok (.invokevirtual 71, 3) := by decide +kernel
theorem d_Rd_takesHang_51 : decode prog_8_method_8_code 51 = .ok (.ireturn, 1) := by decide +kernel
theorem d_Rd_takes_0 : decode prog_8_method_5_code 0 = .ok (.aload_n 0, 1) := by decide +kernel
theorem d_Rd_takes_1 : decode prog_8_method_5_code 1 = .ok (.getfield 15, 3) := by decide +kernel
theorem d_Rd_takes_4 : decode prog_8_method_5_code 4 = .ok (.tableswitch 110 0 6 #[44, 44, 50, 56, 77, 90, 104], 44) := by decide +kernel
theorem d_Rd_takes_48 : decode prog_8_method_5_code 48 = .ok (.aload_n 0, 1) := by decide +kernel
theorem d_Rd_takes_49 : decode prog_8_method_5_code 49 = .ok (.iload_n 1, 1) := by decide +kernel
theorem d_Rd_takes_50 : decode prog_8_method_5_code 50 = .ok (.invokevirtual 65, 3) := by decide +kernel
theorem d_Rd_takes_53 : decode prog_8_method_5_code 53 = .ok (.ireturn, 1) := by decide +kernel
theorem d_Rd_takes_54 : decode prog_8_method_5_code 54 = .ok (.aload_n 0, 1) := by decide +kernel
theorem d_Rd_takes_55 : decode prog_8_method_5_code 55 = .ok (.iload_n 1, 1) := by decide +kernel
theorem d_Rd_takes_56 : decode prog_8_method_5_code 56 = .ok (.invokevirtual 68, 3) := by decide +kernel
theorem d_Rd_takes_59 : decode prog_8_method_5_code 59 = .ok (.ireturn, 1) := by decide +kernel
theorem d_Rd_takes_60 : decode prog_8_method_5_code 60 = .ok (.aload_n 0, 1) := by decide +kernel
theorem d_Rd_takes_61 : decode prog_8_method_5_code 61 = .ok (.ldc 54, 2) := by decide +kernel
theorem d_Rd_takes_63 : decode prog_8_method_5_code 63 = .ok (.iload_n 1, 1) := by decide +kernel
theorem d_Rd_takes_64 : decode prog_8_method_5_code 64 = .ok (.i2c, 1) := by decide +kernel
theorem d_Rd_takes_65 : decode prog_8_method_5_code 65 = .ok (.invokevirtual 56, 3) := by decide +kernel
theorem d_Rd_takes_68 : decode prog_8_method_5_code 68 = .ok (.ifCond .lt 7, 3) := by decide +kernel
theorem d_Rd_takes_71 : decode prog_8_method_5_code 71 = .ok (.iconst 1, 1) := by decide +kernel
theorem d_Rd_takes_72 : decode prog_8_method_5_code 72 = .ok (.goto 4, 3) := by decide +kernel
theorem d_Rd_takes_75 : decode prog_8_method_5_code 75 = .ok (.iconst 0, 1) := by decide +kernel
theorem d_Rd_takes_76 : decode prog_8_method_5_code 76 = .ok (.iconst 4, 1) := by decide +kernel
theorem d_Rd_takes_77 : decode prog_8_method_5_code 77 = .ok (.invokevirtual 71, 3) := by decide +kernel
theorem d_Rd_takes_80 : decode prog_8_method_5_code 80 = .ok (.ireturn, 1) := by decide +kernel
theorem d_Rd_takes_81 : decode prog_8_method_5_code 81 = .ok (.aload_n 0, 1) := by decide +kernel
theorem d_Rd_takes_82 : decode prog_8_method_5_code 82 = .ok (.iload_n 1, 1) := by decide +kernel
theorem d_Rd_takes_83 : decode prog_8_method_5_code 83 = .ok (.iconst 1, 1) := by decide +kernel
theorem d_Rd_takes_84 : decode prog_8_method_5_code 84 = .ok (.bipush 9, 2) := by decide +kernel
theorem d_Rd_takes_86 : decode prog_8_method_5_code 86 = .ok (.invokestatic 75, 3) := by decide +kernel
theorem d_Rd_takes_89 : decode prog_8_method_5_code 89 = .ok (.iconst 5, 1) := by decide +kernel
theorem d_Rd_takes_90 : decode prog_8_method_5_code 90 = .ok (.invokevirtual 71, 3) := by decide +kernel
theorem d_Rd_takes_93 : decode prog_8_method_5_code 93 = .ok (.ireturn, 1) := by decide +kernel
theorem d_Rd_takes_94 : decode prog_8_method_5_code 94 = .ok (.aload_n 0, 1) := by decide +kernel
theorem d_Rd_takes_95 : decode prog_8_method_5_code 95 = .ok (.iload_n 1, 1) := by decide +kernel
theorem d_Rd_takes_96 : decode prog_8_method_5_code 96 = .ok (.iconst 1, 1) := by decide +kernel
theorem d_Rd_takes_97 : decode prog_8_method_5_code 97 = .ok (.bipush 9, 2) := by decide +kernel
theorem d_Rd_takes_99 : decode prog_8_method_5_code 99 = .ok (.invokestatic 75, 3) := by decide +kernel
theorem d_Rd_takes_102 : decode prog_8_method_5_code 102 = .ok (.bipush 6, 2) := by decide +kernel
theorem d_Rd_takes_104 : decode prog_8_method_5_code 104 = .ok (.invokevirtual 71, 3) := by decide +kernel
theorem d_Rd_takes_107 : decode prog_8_method_5_code 107 = .ok (.ireturn, 1) := by decide +kernel
theorem d_Rd_takes_108 : decode prog_8_method_5_code 108 = .ok (.aload_n 0, 1) := by decide +kernel
theorem d_Rd_takes_109 : decode prog_8_method_5_code 109 = .ok (.iload_n 1, 1) := by decide +kernel
theorem d_Rd_takes_110 : decode prog_8_method_5_code 110 = .ok (.invokevirtual 79, 3) := by decide +kernel
theorem d_Rd_takes_113 : decode prog_8_method_5_code 113 = .ok (.ireturn, 1) := by decide +kernel
theorem d_Rd_takes_114 : decode prog_8_method_5_code 114 = .ok (.aload_n 0, 1) := by decide +kernel
theorem d_Rd_takes_115 : decode prog_8_method_5_code 115 = .ok (.iload_n 1, 1) := by decide +kernel
theorem d_Rd_takes_116 : decode prog_8_method_5_code 116 = .ok (.bipush 44, 2) := by decide +kernel
theorem d_Rd_takes_118 : decode prog_8_method_5_code 118 = .ok (.if_icmp .ne 16, 3) := by decide +kernel
theorem d_Rd_takes_121 : decode prog_8_method_5_code 121 = .ok (.aload_n 0, 1) := by decide +kernel
theorem d_Rd_takes_122 : decode prog_8_method_5_code 122 = .ok (.getfield 22, 3) := by decide +kernel
theorem d_Rd_takes_125 : decode prog_8_method_5_code 125 = .ok (.bipush 7, 2) := by decide +kernel
theorem d_Rd_takes_127 : decode prog_8_method_5_code 127 = .ok (.if_icmp .ge 7, 3) := by decide +kernel
theorem d_Rd_takes_130 : decode prog_8_method_5_code 130 = .ok (.iconst 1, 1) := by decide +kernel
theorem d_Rd_takes_131 : decode prog_8_method_5_code 131 = .ok (.goto 4, 3) := by decide +kernel
theorem d_Rd_takes_134 : decode prog_8_method_5_code 134 = .ok (.iconst 0, 1) := by decide +kernel
theorem d_Rd_takes_135 : decode prog_8_method_5_code 135 = .ok (.iconst 3, 1) := by decide +kernel
theorem d_Rd_takes_136 : decode prog_8_method_5_code 136 = .ok (.invokevirtual 71, 3) := by decide +kernel
theorem d_Rd_takes_139 : decode prog_8_method_5_code 139 = .ok (.ireturn, 1) := by decide +kernel
theorem d_Rd_firstFault_0 : decode prog_8_method_2_code 0 = .ok (.aload_n 0, 1) := by decide +kernel
theorem d_Rd_firstFault_1 : decode prog_8_method_2_code 1 = .ok (.iconst 0, 1) := by decide +kernel
theorem d_Rd_firstFault_2 : decode prog_8_method_2_code 2 = .ok (.putfield 15, 3) := by decide +kernel
theorem d_Rd_firstFault_5 : decode prog_8_method_2_code 5 = .ok (.aload_n 0, 1) := by decide +kernel
theorem d_Rd_firstFault_6 : decode prog_8_method_2_code 6 = .ok (.iconst 0, 1) := by decide +kernel
theorem d_Rd_firstFault_7 : decode prog_8_method_2_code 7 = .ok (.putfield 19, 3) := by decide +kernel
theorem d_Rd_firstFault_10 : decode prog_8_method_2_code 10 = .ok (.aload_n 0, 1) := by decide +kernel
theorem d_Rd_firstFault_11 : decode prog_8_method_2_code 11 = .ok (.iconst 0, 1) := by decide +kernel
theorem d_Rd_firstFault_12 : decode prog_8_method_2_code 12 = .ok (.putfield 22, 3) := by decide +kernel
theorem d_Rd_firstFault_15 : decode prog_8_method_2_code 15 = .ok (.iconst 0, 1) := by decide +kernel
theorem d_Rd_firstFault_16 : decode prog_8_method_2_code 16 = .ok (.istore_n 1, 1) := by decide +kernel
theorem d_Rd_firstFault_17 : decode prog_8_method_2_code 17 = .ok (.iload_n 1, 1) := by decide +kernel
theorem d_Rd_firstFault_18 : decode prog_8_method_2_code 18 = .ok (.aload_n 0, 1) := by decide +kernel
theorem d_Rd_firstFault_19 : decode prog_8_method_2_code 19 = .ok (.getfield 9, 3) := by decide +kernel
theorem d_Rd_firstFault_22 : decode prog_8_method_2_code 22 = .ok (.invokevirtual 25, 3) := by decide +kernel
theorem d_Rd_firstFault_25 : decode prog_8_method_2_code 25 = .ok (.if_icmp .ge 26, 3) := by decide +kernel
theorem d_Rd_firstFault_28 : decode prog_8_method_2_code 28 = .ok (.aload_n 0, 1) := by decide +kernel
theorem d_Rd_firstFault_29 : decode prog_8_method_2_code 29 = .ok (.aload_n 0, 1) := by decide +kernel
theorem d_Rd_firstFault_30 : decode prog_8_method_2_code 30 = .ok (.getfield 9, 3) := by decide +kernel
theorem d_Rd_firstFault_33 : decode prog_8_method_2_code 33 = .ok (.iload_n 1, 1) := by decide +kernel
theorem d_Rd_firstFault_34 : decode prog_8_method_2_code 34 = .ok (.invokevirtual 31, 3) := by decide +kernel
theorem d_Rd_firstFault_37 : decode prog_8_method_2_code 37 = .ok (.invokevirtual 35, 3) := by decide +kernel
theorem d_Rd_firstFault_40 : decode prog_8_method_2_code 40 = .ok (.ifCond .ne 5, 3) := by decide +kernel
theorem d_Rd_firstFault_43 : decode prog_8_method_2_code 43 = .ok (.iload_n 1, 1) := by decide +kernel
theorem d_Rd_firstFault_44 : decode prog_8_method_2_code 44 = .ok (.ireturn, 1) := by decide +kernel
theorem d_Rd_firstFault_45 : decode prog_8_method_2_code 45 = .ok (.iinc 1 1, 3) := by decide +kernel
theorem d_Rd_firstFault_48 : decode prog_8_method_2_code 48 = .ok (.goto (-31), 3) := by decide +kernel
theorem d_Rd_firstFault_51 : decode prog_8_method_2_code 51 = .ok (.aload_n 0, 1) := by decide +kernel
theorem d_Rd_firstFault_52 : decode prog_8_method_2_code 52 = .ok (.getfield 9, 3) := by decide +kernel
theorem d_Rd_firstFault_55 : decode prog_8_method_2_code 55 = .ok (.invokevirtual 25, 3) := by decide +kernel
theorem d_Rd_firstFault_58 : decode prog_8_method_2_code 58 = .ok (.ireturn, 1) := by decide +kernel
theorem d_Co_fault_0 : decode prog_1_method_4_code 0 = .ok (.aload_n 0, 1) := by decide +kernel
theorem d_Co_fault_1 : decode prog_1_method_4_code 1 = .ok (.getfield 21, 3) := by decide +kernel
theorem d_Co_fault_4 : decode prog_1_method_4_code 4 = .ok (.invokevirtual 76, 3) := by decide +kernel
theorem d_Co_fault_7 : decode prog_1_method_4_code 7 = .ok (.ireturn, 1) := by decide +kernel
theorem d_Pg_add_0 : decode prog_6_method_5_code 0 = .ok (.aload_n 0, 1) := by decide +kernel
theorem d_Pg_add_1 : decode prog_6_method_5_code 1 = .ok (.getfield 14, 3) := by decide +kernel
theorem d_Pg_add_4 : decode prog_6_method_5_code 4 = .ok (.aload_n 0, 1) := by decide +kernel
theorem d_Pg_add_5 : decode prog_6_method_5_code 5 = .ok (.getfield 20, 3) := by decide +kernel
theorem d_Pg_add_8 : decode prog_6_method_5_code 8 = .ok (.iload_n 1, 1) := by decide +kernel
theorem d_Pg_add_9 : decode prog_6_method_5_code 9 = .ok (.invokevirtual 28, 3) := by decide +kernel
theorem d_Pg_add_12 : decode prog_6_method_5_code 12 = .ok (.aload_n 0, 1) := by decide +kernel
theorem d_Pg_add_13 : decode prog_6_method_5_code 13 = .ok (.dup, 1) := by decide +kernel
theorem d_Pg_add_14 : decode prog_6_method_5_code 14 = .ok (.getfield 20, 3) := by decide +kernel
theorem d_Pg_add_17 : decode prog_6_method_5_code 17 = .ok (.iconst 1, 1) := by decide +kernel
theorem d_Pg_add_18 : decode prog_6_method_5_code 18 = .ok (.iadd, 1) := by decide +kernel
theorem d_Pg_add_19 : decode prog_6_method_5_code 19 = .ok (.putfield 20, 3) := by decide +kernel
theorem d_Pg_add_22 : decode prog_6_method_5_code 22 = .ok (.return_, 1) := by decide +kernel
theorem d_Co_letter_0 : decode prog_1_method_2_code 0 = .ok (.iload_n 1, 1) := by decide +kernel
theorem d_Co_letter_1 : decode prog_1_method_2_code 1 = .ok (.bipush 32, 2) := by decide +kernel
theorem d_Co_letter_3 : decode prog_1_method_2_code 3 = .ok (.if_icmp .lt 9, 3) := by decide +kernel
theorem d_Co_letter_6 : decode prog_1_method_2_code 6 = .ok (.iload_n 1, 1) := by decide +kernel
theorem d_Co_letter_7 : decode prog_1_method_2_code 7 = .ok (.bipush 126, 2) := by decide +kernel
theorem d_Co_letter_9 : decode prog_1_method_2_code 9 = .ok (.if_icmp .le 6, 3) := by decide +kernel
theorem d_Co_letter_12 : decode prog_1_method_2_code 12 = .ok (.bipush (-102), 2) := by decide +kernel
theorem d_Co_letter_14 : decode prog_1_method_2_code 14 = .ok (.ireturn, 1) := by decide +kernel
theorem d_Co_letter_15 : decode prog_1_method_2_code 15 = .ok (.aload_n 0, 1) := by decide +kernel
theorem d_Co_letter_16 : decode prog_1_method_2_code 16 = .ok (.getfield 10, 3) := by decide +kernel
theorem d_Co_letter_19 : decode prog_1_method_2_code 19 = .ok (.invokevirtual 65, 3) := by decide +kernel
theorem d_Co_letter_22 : decode prog_1_method_2_code 22 = .ok (.bipush 46, 2) := by decide +kernel
theorem d_Co_letter_24 : decode prog_1_method_2_code 24 = .ok (.if_icmp .lt 6, 3) := by decide +kernel
theorem d_Co_letter_27 : decode prog_1_method_2_code 27 = .ok (.bipush (-104), 2) := by decide +kernel
theorem d_Co_letter_29 : decode prog_1_method_2_code 29 = .ok (.ireturn, 1) := by decide +kernel
theorem d_Co_letter_30 : decode prog_1_method_2_code 30 = .ok (.aload_n 0, 1) := by decide +kernel
theorem d_Co_letter_31 : decode prog_1_method_2_code 31 = .ok (.getfield 10, 3) := by decide +kernel
theorem d_Co_letter_34 : decode prog_1_method_2_code 34 = .ok (.iload_n 1, 1) := by decide +kernel
theorem d_Co_letter_35 : decode prog_1_method_2_code 35 = .ok (.invokevirtual 69, 3) := by decide +kernel
theorem d_Co_letter_38 : decode prog_1_method_2_code 38 = .ok (.aload_n 0, 1) := by decide +kernel
theorem d_Co_letter_39 : decode prog_1_method_2_code 39 = .ok (.getfield 10, 3) := by decide +kernel
theorem d_Co_letter_42 : decode prog_1_method_2_code 42 = .ok (.invokevirtual 65, 3) := by decide +kernel
theorem d_Co_letter_45 : decode prog_1_method_2_code 45 = .ok (.ireturn, 1) := by decide +kernel
theorem d_Sh_worth_0 : decode prog_10_method_20_code 0 = .ok (.aload_n 0, 1) := by decide +kernel
theorem d_Sh_worth_1 : decode prog_10_method_20_code 1 = .ok (.getfield 29, 3) := by decide +kernel
theorem d_Sh_worth_4 : decode prog_10_method_20_code 4 = .ok (.iload_n 1, 1) := by decide +kernel
theorem d_Sh_worth_5 : decode prog_10_method_20_code 5 = .ok (.invokevirtual 71, 3) := by decide +kernel
theorem d_Sh_worth_8 : decode prog_10_method_20_code 8 = .ok (.ireturn, 1) := by decide +kernel
theorem d_Sh_setClaim_0 : decode prog_10_method_37_code 0 = .ok (.aload_n 0, 1) := by decide +kernel
theorem d_Sh_setClaim_1 : decode prog_10_method_37_code 1 = .ok (.getfield 26, 3) := by decide +kernel
theorem d_Sh_setClaim_4 : decode prog_10_method_37_code 4 = .ok (.iload_n 1, 1) := by decide +kernel
theorem d_Sh_setClaim_5 : decode prog_10_method_37_code 5 = .ok (.iload_n 2, 1) := by decide +kernel
theorem d_Sh_setClaim_6 : decode prog_10_method_37_code 6 = .ok (.invokevirtual 67, 3) := by decide +kernel
theorem d_Sh_setClaim_9 : decode prog_10_method_37_code 9 = .ok (.aload_n 0, 1) := by decide +kernel
theorem d_Sh_setClaim_10 : decode prog_10_method_37_code 10 = .ok (.getfield 29, 3) := by decide +kernel
theorem d_Sh_setClaim_13 : decode prog_10_method_37_code 13 = .ok (.iload_n 1, 1) := by decide +kernel
theorem d_Sh_setClaim_14 : decode prog_10_method_37_code 14 = .ok (.iload_n 3, 1) := by decide +kernel
theorem d_Sh_setClaim_15 : decode prog_10_method_37_code 15 = .ok (.invokevirtual 67, 3) := by decide +kernel
theorem d_Sh_setClaim_18 : decode prog_10_method_37_code 18 = .ok (.return_, 1) := by decide +kernel
theorem d_Co_plead_0 : decode prog_1_method_12_code 0 = .ok (.aload_n 0, 1) := by decide +kernel
theorem d_Co_plead_1 : decode prog_1_method_12_code 1 = .ok (.getfield 28, 3) := by decide +kernel
theorem d_Co_plead_4 : decode prog_1_method_12_code 4 = .ok (.iload_n 1, 1) := by decide +kernel
theorem d_Co_plead_5 : decode prog_1_method_12_code 5 = .ok (.invokevirtual 111, 3) := by decide +kernel
theorem d_Co_plead_8 : decode prog_1_method_12_code 8 = .ok (.ifCond .ne 6, 3) := by decide +kernel
theorem d_Co_plead_11 : decode prog_1_method_12_code 11 = .ok (.bipush (-101), 2) := by decide +kernel
theorem d_Co_plead_13 : decode prog_1_method_12_code 13 = .ok (.ireturn, 1) := by decide +kernel
theorem d_Co_plead_14 : decode prog_1_method_12_code 14 = .ok (.iload_n 2, 1) := by decide +kernel
theorem d_Co_plead_15 : decode prog_1_method_12_code 15 = .ok (.iconst 1, 1) := by decide +kernel
theorem d_Co_plead_16 : decode prog_1_method_12_code 16 = .ok (.if_icmp .lt 20, 3) := by decide +kernel
theorem d_Co_plead_19 : decode prog_1_method_12_code 19 = .ok (.iload_n 2, 1) := by decide +kernel
theorem d_Co_plead_20 : decode prog_1_method_12_code 20 = .ok (.bipush 9, 2) := by decide +kernel
theorem d_Co_plead_22 : decode prog_1_method_12_code 22 = .ok (.if_icmp .gt 14, 3) := by decide +kernel
theorem d_Co_plead_25 : decode prog_1_method_12_code 25 = .ok (.iload_n 3, 1) := by decide +kernel
theorem d_Co_plead_26 : decode prog_1_method_12_code 26 = .ok (.iconst 1, 1) := by decide +kernel
theorem d_Co_plead_27 : decode prog_1_method_12_code 27 = .ok (.if_icmp .lt 9, 3) := by decide +kernel
theorem d_Co_plead_30 : decode prog_1_method_12_code 30 = .ok (.iload_n 3, 1) := by decide +kernel
theorem d_Co_plead_31 : decode prog_1_method_12_code 31 = .ok (.bipush 9, 2) := by decide +kernel
theorem d_Co_plead_33 : decode prog_1_method_12_code 33 = .ok (.if_icmp .le 6, 3) := by decide +kernel
theorem d_Co_plead_36 : decode prog_1_method_12_code 36 = .ok (.bipush (-102), 2) := by decide +kernel
theorem d_Co_plead_38 : decode prog_1_method_12_code 38 = .ok (.ireturn, 1) := by decide +kernel
theorem d_Co_plead_39 : decode prog_1_method_12_code 39 = .ok (.aload_n 0, 1) := by decide +kernel
theorem d_Co_plead_40 : decode prog_1_method_12_code 40 = .ok (.getfield 28, 3) := by decide +kernel
theorem d_Co_plead_43 : decode prog_1_method_12_code 43 = .ok (.iload_n 1, 1) := by decide +kernel
theorem d_Co_plead_44 : decode prog_1_method_12_code 44 = .ok (.invokevirtual 120, 3) := by decide +kernel
theorem d_Co_plead_47 : decode prog_1_method_12_code 47 = .ok (.istore 4, 2) := by decide +kernel
theorem d_Co_plead_49 : decode prog_1_method_12_code 49 = .ok (.aload_n 0, 1) := by decide +kernel
theorem d_Co_plead_50 : decode prog_1_method_12_code 50 = .ok (.getfield 28, 3) := by decide +kernel
theorem d_Co_plead_53 : decode prog_1_method_12_code 53 = .ok (.iload_n 1, 1) := by decide +kernel
theorem d_Co_plead_54 : decode prog_1_method_12_code 54 = .ok (.iload_n 2, 1) := by decide +kernel
theorem d_Co_plead_55 : decode prog_1_method_12_code 55 = .ok (.iload_n 3, 1) := by decide +kernel
theorem d_Co_plead_56 : decode prog_1_method_12_code 56 = .ok (.invokevirtual 173, 3) := by decide +kernel
theorem d_Co_plead_59 : decode prog_1_method_12_code 59 = .ok (.iload 4, 2) := by decide +kernel
theorem d_Co_plead_61 : decode prog_1_method_12_code 61 = .ok (.ireturn, 1) := by decide +kernel
theorem d_Sh_shakes_0 : decode prog_10_method_26_code 0 = .ok (.aload_n 0, 1) := by decide +kernel
theorem d_Sh_shakes_1 : decode prog_10_method_26_code 1 = .ok (.getfield 55, 3) := by decide +kernel
theorem d_Sh_shakes_4 : decode prog_10_method_26_code 4 = .ok (.aload_n 0, 1) := by decide +kernel
theorem d_Sh_shakes_5 : decode prog_10_method_26_code 5 = .ok (.getfield 38, 3) := by decide +kernel
theorem d_Sh_shakes_8 : decode prog_10_method_26_code 8 = .ok (.iload_n 1, 1) := by decide +kernel
theorem d_Sh_shakes_9 : decode prog_10_method_26_code 9 = .ok (.invokevirtual 71, 3) := by decide +kernel
theorem d_Sh_shakes_12 : decode prog_10_method_26_code 12 = .ok (.iand, 1) := by decide +kernel
theorem d_Sh_shakes_13 : decode prog_10_method_26_code 13 = .ok (.invokestatic 97, 3) := by decide +kernel
theorem d_Sh_shakes_16 : decode prog_10_method_26_code 16 = .ok (.ireturn, 1) := by decide +kernel
theorem d_Co_right_0 : decode prog_1_method_9_code 0 = .ok (.aload_n 0, 1) := by decide +kernel
theorem d_Co_right_1 : decode prog_1_method_9_code 1 = .ok (.getfield 28, 3) := by decide +kernel
theorem d_Co_right_4 : decode prog_1_method_9_code 4 = .ok (.iload_n 1, 1) := by decide +kernel
theorem d_Co_right_5 : decode prog_1_method_9_code 5 = .ok (.invokevirtual 111, 3) := by decide +kernel
theorem d_Co_right_8 : decode prog_1_method_9_code 8 = .ok (.ifCond .eq 14, 3) := by decide +kernel
theorem d_Co_right_11 : decode prog_1_method_9_code 11 = .ok (.aload_n 0, 1) := by decide +kernel
theorem d_Co_right_12 : decode prog_1_method_9_code 12 = .ok (.getfield 28, 3) := by decide +kernel
theorem d_Co_right_15 : decode prog_1_method_9_code 15 = .ok (.iload_n 2, 1) := by decide +kernel
theorem d_Co_right_16 : decode prog_1_method_9_code 16 = .ok (.invokevirtual 97, 3) := by decide +kernel
theorem d_Co_right_19 : decode prog_1_method_9_code 19 = .ok (.ifCond .ne 6, 3) := by decide +kernel
theorem d_Co_right_22 : decode prog_1_method_9_code 22 = .ok (.bipush (-101), 2) := by decide +kernel
theorem d_Co_right_24 : decode prog_1_method_9_code 24 = .ok (.ireturn, 1) := by decide +kernel
theorem d_Co_right_25 : decode prog_1_method_9_code 25 = .ok (.aload_n 0, 1) := by decide +kernel
theorem d_Co_right_26 : decode prog_1_method_9_code 26 = .ok (.getfield 28, 3) := by decide +kernel
theorem d_Co_right_29 : decode prog_1_method_9_code 29 = .ok (.iload_n 1, 1) := by decide +kernel
theorem d_Co_right_30 : decode prog_1_method_9_code 30 = .ok (.iload_n 2, 1) := by decide +kernel
theorem d_Co_right_31 : decode prog_1_method_9_code 31 = .ok (.invokevirtual 151, 3) := by decide +kernel
theorem d_Co_right_34 : decode prog_1_method_9_code 34 = .ok (.ifCond .ne 6, 3) := by decide +kernel
theorem d_Co_right_37 : decode prog_1_method_9_code 37 = .ok (.bipush (-103), 2) := by decide +kernel
theorem d_Co_right_39 : decode prog_1_method_9_code 39 = .ok (.ireturn, 1) := by decide +kernel
theorem d_Co_right_40 : decode prog_1_method_9_code 40 = .ok (.aload_n 0, 1) := by decide +kernel
theorem d_Co_right_41 : decode prog_1_method_9_code 41 = .ok (.getfield 28, 3) := by decide +kernel
theorem d_Co_right_44 : decode prog_1_method_9_code 44 = .ok (.invokevirtual 154, 3) := by decide +kernel
theorem d_Co_right_47 : decode prog_1_method_9_code 47 = .ok (.sipush 999, 3) := by decide +kernel
theorem d_Co_right_50 : decode prog_1_method_9_code 50 = .ok (.if_icmp .lt 6, 3) := by decide +kernel
theorem d_Co_right_53 : decode prog_1_method_9_code 53 = .ok (.bipush (-104), 2) := by decide +kernel
theorem d_Co_right_55 : decode prog_1_method_9_code 55 = .ok (.ireturn, 1) := by decide +kernel
theorem d_Co_right_56 : decode prog_1_method_9_code 56 = .ok (.aload_n 0, 1) := by decide +kernel
theorem d_Co_right_57 : decode prog_1_method_9_code 57 = .ok (.getfield 28, 3) := by decide +kernel
theorem d_Co_right_60 : decode prog_1_method_9_code 60 = .ok (.iload_n 1, 1) := by decide +kernel
theorem d_Co_right_61 : decode prog_1_method_9_code 61 = .ok (.invokevirtual 139, 3) := by decide +kernel
theorem d_Co_right_64 : decode prog_1_method_9_code 64 = .ok (.istore_n 3, 1) := by decide +kernel
theorem d_Co_right_65 : decode prog_1_method_9_code 65 = .ok (.aload_n 0, 1) := by decide +kernel
theorem d_Co_right_66 : decode prog_1_method_9_code 66 = .ok (.getfield 28, 3) := by decide +kernel
theorem d_Co_right_69 : decode prog_1_method_9_code 69 = .ok (.iload_n 1, 1) := by decide +kernel
theorem d_Co_right_70 : decode prog_1_method_9_code 70 = .ok (.iload_n 2, 1) := by decide +kernel
theorem d_Co_right_71 : decode prog_1_method_9_code 71 = .ok (.invokevirtual 157, 3) := by decide +kernel
theorem d_Co_right_74 : decode prog_1_method_9_code 74 = .ok (.iload_n 3, 1) := by decide +kernel
theorem d_Co_right_75 : decode prog_1_method_9_code 75 = .ok (.ireturn, 1) := by decide +kernel
theorem d_Rd_isWholeShire_0 : decode prog_8_method_3_code 0 = .ok (.aload_n 0, 1) := by decide +kernel
theorem d_Rd_isWholeShire_1 : decode prog_8_method_3_code 1 = .ok (.invokevirtual 39, 3) := by decide +kernel
theorem d_Rd_isWholeShire_4 : decode prog_8_method_3_code 4 = .ok (.aload_n 0, 1) := by decide +kernel
theorem d_Rd_isWholeShire_5 : decode prog_8_method_3_code 5 = .ok (.getfield 9, 3) := by decide +kernel
theorem d_Rd_isWholeShire_8 : decode prog_8_method_3_code 8 = .ok (.invokevirtual 25, 3) := by decide +kernel
theorem d_Rd_isWholeShire_11 : decode prog_8_method_3_code 11 = .ok (.if_icmp .ne 24, 3) := by decide +kernel
theorem d_Rd_isWholeShire_14 : decode prog_8_method_3_code 14 = .ok (.aload_n 0, 1) := by decide +kernel
theorem d_Rd_isWholeShire_15 : decode prog_8_method_3_code 15 = .ok (.getfield 15, 3) := by decide +kernel
theorem d_Rd_isWholeShire_18 : decode prog_8_method_3_code 18 = .ok (.bipush 7, 2) := by decide +kernel
theorem d_Rd_isWholeShire_20 : decode prog_8_method_3_code 20 = .ok (.if_icmp .ne 15, 3) := by decide +kernel
theorem d_Rd_isWholeShire_23 : decode prog_8_method_3_code 23 = .ok (.aload_n 0, 1) := by decide +kernel
theorem d_Rd_isWholeShire_24 : decode prog_8_method_3_code 24 = .ok (.getfield 22, 3) := by decide +kernel
theorem d_Rd_isWholeShire_27 : decode prog_8_method_3_code 27 = .ok (.iconst 2, 1) := by decide +kernel
theorem d_Rd_isWholeShire_28 : decode prog_8_method_3_code 28 = .ok (.if_icmp .lt 7, 3) := by decide +kernel
theorem d_Rd_isWholeShire_31 : decode prog_8_method_3_code 31 = .ok (.iconst 1, 1) := by decide +kernel
theorem d_Rd_isWholeShire_32 : decode prog_8_method_3_code 32 = .ok (.goto 4, 3) := by decide +kernel
theorem d_Rd_isWholeShire_35 : decode prog_8_method_3_code 35 = .ok (.iconst 0, 1) := by decide +kernel
theorem d_Rd_isWholeShire_36 : decode prog_8_method_3_code 36 = .ok (.ireturn, 1) := by decide +kernel
theorem d_Si_clear_0 : decode prog_11_method_4_code 0 = .ok (.aload_n 0, 1) := by decide +kernel
theorem d_Si_clear_1 : decode prog_11_method_4_code 1 = .ok (.iconst 0, 1) := by decide +kernel
theorem d_Si_clear_2 : decode prog_11_method_4_code 2 = .ok (.putfield 26, 3) := by decide +kernel
theorem d_Si_clear_5 : decode prog_11_method_4_code 5 = .ok (.return_, 1) := by decide +kernel
theorem d_Sh_begin_0 : decode prog_10_method_2_code 0 = .ok (.aload_n 0, 1) := by decide +kernel
theorem d_Sh_begin_1 : decode prog_10_method_2_code 1 = .ok (.iconst 0, 1) := by decide +kernel
theorem d_Sh_begin_2 : decode prog_10_method_2_code 2 = .ok (.putfield 48, 3) := by decide +kernel
theorem d_Sh_begin_5 : decode prog_10_method_2_code 5 = .ok (.aload_n 0, 1) := by decide +kernel
theorem d_Sh_begin_6 : decode prog_10_method_2_code 6 = .ok (.iconst 0, 1) := by decide +kernel
theorem d_Sh_begin_7 : decode prog_10_method_2_code 7 = .ok (.putfield 52, 3) := by decide +kernel
theorem d_Sh_begin_10 : decode prog_10_method_2_code 10 = .ok (.aload_n 0, 1) := by decide +kernel
theorem d_Sh_begin_11 : decode prog_10_method_2_code 11 = .ok (.iconst 0, 1) := by decide +kernel
theorem d_Sh_begin_12 : decode prog_10_method_2_code 12 = .ok (.putfield 55, 3) := by decide +kernel
theorem d_Sh_begin_15 : decode prog_10_method_2_code 15 = .ok (.aload_n 0, 1) := by decide +kernel
theorem d_Sh_begin_16 : decode prog_10_method_2_code 16 = .ok (.iconst 0, 1) := by decide +kernel
theorem d_Sh_begin_17 : decode prog_10_method_2_code 17 = .ok (.putfield 58, 3) := by decide +kernel
theorem d_Sh_begin_20 : decode prog_10_method_2_code 20 = .ok (.aload_n 0, 1) := by decide +kernel
theorem d_Sh_begin_21 : decode prog_10_method_2_code 21 = .ok (.iconst 0, 1) := by decide +kernel
theorem d_Sh_begin_22 : decode prog_10_method_2_code 22 = .ok (.putfield 61, 3) := by decide +kernel
theorem d_Sh_begin_25 : decode prog_10_method_2_code 25 = .ok (.aload_n 0, 1) := by decide +kernel
theorem d_Sh_begin_26 : decode prog_10_method_2_code 26 = .ok (.getfield 44, 3) := by decide +kernel
theorem d_Sh_begin_29 : decode prog_10_method_2_code 29 = .ok (.invokevirtual 64, 3) := by decide +kernel
theorem d_Sh_begin_32 : decode prog_10_method_2_code 32 = .ok (.return_, 1) := by decide +kernel
theorem d_Pg_digit_0 : decode prog_6_method_4_code 0 = .ok (.aload_n 0, 1) := by decide +kernel
theorem d_Pg_digit_1 : decode prog_6_method_4_code 1 = .ok (.getfield 14, 3) := by decide +kernel
theorem d_Pg_digit_4 : decode prog_6_method_4_code 4 = .ok (.iload_n 1, 1) := by decide +kernel
theorem d_Pg_digit_5 : decode prog_6_method_4_code 5 = .ok (.invokevirtual 24, 3) := by decide +kernel
theorem d_Pg_digit_8 : decode prog_6_method_4_code 8 = .ok (.bipush 48, 2) := by decide +kernel
theorem d_Pg_digit_10 : decode prog_6_method_4_code 10 = .ok (.isub, 1) := by decide +kernel
theorem d_Pg_digit_11 : decode prog_6_method_4_code 11 = .ok (.ireturn, 1) := by decide +kernel
theorem d_Sh_addTree_0 : decode prog_10_method_3_code 0 = .ok (.aload_n 0, 1) := by decide +kernel
theorem d_Sh_addTree_1 : decode prog_10_method_3_code 1 = .ok (.getfield 14, 3) := by decide +kernel
theorem d_Sh_addTree_4 : decode prog_10_method_3_code 4 = .ok (.aload_n 0, 1) := by decide +kernel
theorem d_Sh_addTree_5 : decode prog_10_method_3_code 5 = .ok (.getfield 48, 3) := by decide +kernel
theorem d_Sh_addTree_8 : decode prog_10_method_3_code 8 = .ok (.iload_n 1, 1) := by decide +kernel
theorem d_Sh_addTree_9 : decode prog_10_method_3_code 9 = .ok (.invokevirtual 67, 3) := by decide +kernel
theorem d_Sh_addTree_12 : decode prog_10_method_3_code 12 = .ok (.aload_n 0, 1) := by decide +kernel
theorem d_Sh_addTree_13 : decode prog_10_method_3_code 13 = .ok (.getfield 20, 3) := by decide +kernel
theorem d_Sh_addTree_16 : decode prog_10_method_3_code 16 = .ok (.aload_n 0, 1) := by decide +kernel
theorem d_Sh_addTree_17 : decode prog_10_method_3_code 17 = .ok (.getfield 48, 3) := by decide +kernel
theorem d_Sh_addTree_20 : decode prog_10_method_3_code 20 = .ok (.iload_n 2, 1) := by decide +kernel
theorem d_Sh_addTree_21 : decode prog_10_method_3_code 21 = .ok (.invokevirtual 67, 3) := by decide +kernel
theorem d_Sh_addTree_24 : decode prog_10_method_3_code 24 = .ok (.aload_n 0, 1) := by decide +kernel
theorem d_Sh_addTree_25 : decode prog_10_method_3_code 25 = .ok (.dup, 1) := by decide +kernel
theorem d_Sh_addTree_26 : decode prog_10_method_3_code 26 = .ok (.getfield 48, 3) := by decide +kernel
theorem d_Sh_addTree_29 : decode prog_10_method_3_code 29 = .ok (.iconst 1, 1) := by decide +kernel
theorem d_Sh_addTree_30 : decode prog_10_method_3_code 30 = .ok (.iadd, 1) := by decide +kernel
theorem d_Sh_addTree_31 : decode prog_10_method_3_code 31 = .ok (.putfield 48, 3) := by decide +kernel
theorem d_Sh_addTree_34 : decode prog_10_method_3_code 34 = .ok (.return_, 1) := by decide +kernel
theorem d_Sh_addSuit_0 : decode prog_10_method_4_code 0 = .ok (.aload_n 0, 1) := by decide +kernel
theorem d_Sh_addSuit_1 : decode prog_10_method_4_code 1 = .ok (.getfield 52, 3) := by decide +kernel
theorem d_Sh_addSuit_4 : decode prog_10_method_4_code 4 = .ok (.istore 5, 2) := by decide +kernel
theorem d_Sh_addSuit_6 : decode prog_10_method_4_code 6 = .ok (.aload_n 0, 1) := by decide +kernel
theorem d_Sh_addSuit_7 : decode prog_10_method_4_code 7 = .ok (.getfield 23, 3) := by decide +kernel
theorem d_Sh_addSuit_10 : decode prog_10_method_4_code 10 = .ok (.iload 5, 2) := by decide +kernel
theorem d_Sh_addSuit_12 : decode prog_10_method_4_code 12 = .ok (.iload_n 1, 1) := by decide +kernel
theorem d_Sh_addSuit_13 : decode prog_10_method_4_code 13 = .ok (.invokevirtual 67, 3) := by decide +kernel
theorem d_Sh_addSuit_16 : decode prog_10_method_4_code 16 = .ok (.aload_n 0, 1) := by decide +kernel
theorem d_Sh_addSuit_17 : decode prog_10_method_4_code 17 = .ok (.getfield 26, 3) := by decide +kernel
theorem d_Sh_addSuit_20 : decode prog_10_method_4_code 20 = .ok (.iload 5, 2) := by decide +kernel
theorem d_Sh_addSuit_22 : decode prog_10_method_4_code 22 = .ok (.iload_n 2, 1) := by decide +kernel
theorem d_Sh_addSuit_23 : decode prog_10_method_4_code 23 = .ok (.invokevirtual 67, 3) := by decide +kernel
theorem d_Sh_addSuit_26 : decode prog_10_method_4_code 26 = .ok (.aload_n 0, 1) := by decide +kernel
theorem d_Sh_addSuit_27 : decode prog_10_method_4_code 27 = .ok (.getfield 29, 3) := by decide +kernel
theorem d_Sh_addSuit_30 : decode prog_10_method_4_code 30 = .ok (.iload 5, 2) := by decide +kernel
theorem d_Sh_addSuit_32 : decode prog_10_method_4_code 32 = .ok (.iload_n 3, 1) := by decide +kernel
theorem d_Sh_addSuit_33 : decode prog_10_method_4_code 33 = .ok (.invokevirtual 67, 3) := by decide +kernel
theorem d_Sh_addSuit_36 : decode prog_10_method_4_code 36 = .ok (.aload_n 0, 1) := by decide +kernel
theorem d_Sh_addSuit_37 : decode prog_10_method_4_code 37 = .ok (.getfield 32, 3) := by decide +kernel
theorem d_Sh_addSuit_40 : decode prog_10_method_4_code 40 = .ok (.iload 5, 2) := by decide +kernel
theorem d_Sh_addSuit_42 : decode prog_10_method_4_code 42 = .ok (.iload 4, 2) := by decide +kernel
theorem d_Sh_addSuit_44 : decode prog_10_method_4_code 44 = .ok (.invokevirtual 67, 3) := by decide +kernel
theorem d_Sh_addSuit_47 : decode prog_10_method_4_code 47 = .ok (.aload_n 0, 1) := by decide +kernel
theorem d_Sh_addSuit_48 : decode prog_10_method_4_code 48 = .ok (.getfield 35, 3) := by decide +kernel
theorem d_Sh_addSuit_51 : decode prog_10_method_4_code 51 = .ok (.iload 5, 2) := by decide +kernel
theorem d_Sh_addSuit_53 : decode prog_10_method_4_code 53 = .ok (.iconst 0, 1) := by decide +kernel
theorem d_Sh_addSuit_54 : decode prog_10_method_4_code 54 = .ok (.invokevirtual 67, 3) := by decide +kernel
theorem d_Sh_addSuit_57 : decode prog_10_method_4_code 57 = .ok (.aload_n 0, 1) := by decide +kernel
theorem d_Sh_addSuit_58 : decode prog_10_method_4_code 58 = .ok (.getfield 38, 3) := by decide +kernel
theorem d_Sh_addSuit_61 : decode prog_10_method_4_code 61 = .ok (.iload 5, 2) := by decide +kernel
theorem d_Sh_addSuit_63 : decode prog_10_method_4_code 63 = .ok (.iconst 0, 1) := by decide +kernel
theorem d_Sh_addSuit_64 : decode prog_10_method_4_code 64 = .ok (.invokevirtual 67, 3) := by decide +kernel
theorem d_Sh_addSuit_67 : decode prog_10_method_4_code 67 = .ok (.aload_n 0, 1) := by decide +kernel
theorem d_Sh_addSuit_68 : decode prog_10_method_4_code 68 = .ok (.getfield 35, 3) := by decide +kernel
theorem d_Sh_addSuit_71 : decode prog_10_method_4_code 71 = .ok (.iload 4, 2) := by decide +kernel
theorem d_Sh_addSuit_73 : decode prog_10_method_4_code 73 = .ok (.aload_n 0, 1) := by decide +kernel
theorem d_Sh_addSuit_74 : decode prog_10_method_4_code 74 = .ok (.getfield 35, 3) := by decide +kernel
theorem d_Sh_addSuit_77 : decode prog_10_method_4_code 77 = .ok (.iload 4, 2) := by decide +kernel
theorem d_Sh_addSuit_79 : decode prog_10_method_4_code 79 = .ok (.invokevirtual 71, 3) := by decide +kernel
theorem d_Sh_addSuit_82 : decode prog_10_method_4_code 82 = .ok (.iconst 1, 1) := by decide +kernel
theorem d_Sh_addSuit_83 : decode prog_10_method_4_code 83 = .ok (.iadd, 1) := by decide +kernel
theorem d_Sh_addSuit_84 : decode prog_10_method_4_code 84 = .ok (.invokevirtual 67, 3) := by decide +kernel
theorem d_Sh_addSuit_87 : decode prog_10_method_4_code 87 = .ok (.iload 4, 2) := by decide +kernel
theorem d_Sh_addSuit_89 : decode prog_10_method_4_code 89 = .ok (.istore 6, 2) := by decide +kernel
theorem d_Sh_addSuit_91 : decode prog_10_method_4_code 91 = .ok (.iconst 0, 1) := by decide +kernel
theorem d_Sh_addSuit_92 : decode prog_10_method_4_code 92 = .ok (.istore 7, 2) := by decide +kernel
theorem d_Sh_addSuit_94 : decode prog_10_method_4_code 94 = .ok (.iload 7, 2) := by decide +kernel
theorem d_Sh_addSuit_96 : decode prog_10_method_4_code 96 = .ok (.bipush 7, 2) := by decide +kernel
theorem d_Sh_addSuit_98 : decode prog_10_method_4_code 98 = .ok (.if_icmp .ge 50, 3) := by decide +kernel
theorem d_Sh_addSuit_101 : decode prog_10_method_4_code 101 = .ok (.iload 6, 2) := by decide +kernel
theorem d_Sh_addSuit_103 : decode prog_10_method_4_code 103 = .ok (.iconst (-1), 1) := by decide +kernel
theorem d_Sh_addSuit_104 : decode prog_10_method_4_code 104 = .ok (.if_icmp .eq 44, 3) := by decide +kernel
theorem d_Sh_addSuit_107 : decode prog_10_method_4_code 107 = .ok (.aload_n 0, 1) := by decide +kernel
theorem d_Sh_addSuit_108 : decode prog_10_method_4_code 108 = .ok (.getfield 38, 3) := by decide +kernel
theorem d_Sh_addSuit_111 : decode prog_10_method_4_code 111 = .ok (.iload 6, 2) := by decide +kernel
theorem d_Sh_addSuit_113 : decode prog_10_method_4_code 113 = .ok (.aload_n 0, 1) := by decide +kernel
theorem d_Sh_addSuit_114 : decode prog_10_method_4_code 114 = .ok (.getfield 38, 3) := by decide +kernel
theorem d_Sh_addSuit_117 : decode prog_10_method_4_code 117 = .ok (.iload 6, 2) := by decide +kernel
theorem d_Sh_addSuit_119 : decode prog_10_method_4_code 119 = .ok (.invokevirtual 71, 3) := by decide +kernel
theorem d_Sh_addSuit_122 : decode prog_10_method_4_code 122 = .ok (.iload 5, 2) := by decide +kernel
theorem d_Sh_addSuit_124 : decode prog_10_method_4_code 124 = .ok (.invokestatic 75, 3) := by decide +kernel
theorem d_Sh_addSuit_127 : decode prog_10_method_4_code 127 = .ok (.ior, 1) := by decide +kernel
theorem d_Sh_addSuit_128 : decode prog_10_method_4_code 128 = .ok (.invokevirtual 67, 3) := by decide +kernel
theorem d_Sh_addSuit_131 : decode prog_10_method_4_code 131 = .ok (.aload_n 0, 1) := by decide +kernel
theorem d_Sh_addSuit_132 : decode prog_10_method_4_code 132 = .ok (.getfield 32, 3) := by decide +kernel
theorem d_Sh_addSuit_135 : decode prog_10_method_4_code 135 = .ok (.iload 6, 2) := by decide +kernel
theorem d_Sh_addSuit_137 : decode prog_10_method_4_code 137 = .ok (.invokevirtual 71, 3) := by decide +kernel
theorem d_Sh_addSuit_140 : decode prog_10_method_4_code 140 = .ok (.istore 6, 2) := by decide +kernel
theorem d_Sh_addSuit_142 : decode prog_10_method_4_code 142 = .ok (.iinc 7 1, 3) := by decide +kernel
theorem d_Sh_addSuit_145 : decode prog_10_method_4_code 145 = .ok (.goto (-51), 3) := by decide +kernel
theorem d_Sh_addSuit_148 : decode prog_10_method_4_code 148 = .ok (.aload_n 0, 1) := by decide +kernel
theorem d_Sh_addSuit_149 : decode prog_10_method_4_code 149 = .ok (.dup, 1) := by decide +kernel
theorem d_Sh_addSuit_150 : decode prog_10_method_4_code 150 = .ok (.getfield 52, 3) := by decide +kernel
theorem d_Sh_addSuit_153 : decode prog_10_method_4_code 153 = .ok (.iconst 1, 1) := by decide +kernel
theorem d_Sh_addSuit_154 : decode prog_10_method_4_code 154 = .ok (.iadd, 1) := by decide +kernel
theorem d_Sh_addSuit_155 : decode prog_10_method_4_code 155 = .ok (.putfield 52, 3) := by decide +kernel
theorem d_Sh_addSuit_158 : decode prog_10_method_4_code 158 = .ok (.return_, 1) := by decide +kernel
theorem d_Rd_readInto_0 : decode prog_8_method_4_code 0 = .ok (.aload_n 1, 1) := by decide +kernel
theorem d_Rd_readInto_1 : decode prog_8_method_4_code 1 = .ok (.ifnonnull 4, 3) := by decide +kernel
theorem d_Rd_readInto_4 : decode prog_8_method_4_code 4 = .ok (.return_, 1) := by decide +kernel
theorem d_Rd_readInto_5 : decode prog_8_method_4_code 5 = .ok (.aload_n 1, 1) := by decide +kernel
theorem d_Rd_readInto_6 : decode prog_8_method_4_code 6 = .ok (.invokevirtual 42, 3) := by decide +kernel
theorem d_Rd_readInto_9 : decode prog_8_method_4_code 9 = .ok (.iconst 0, 1) := by decide +kernel
theorem d_Rd_readInto_10 : decode prog_8_method_4_code 10 = .ok (.istore_n 2, 1) := by decide +kernel
theorem d_Rd_readInto_11 : decode prog_8_method_4_code 11 = .ok (.iload_n 2, 1) := by decide +kernel
theorem d_Rd_readInto_12 : decode prog_8_method_4_code 12 = .ok (.aload_n 0, 1) := by decide +kernel
theorem d_Rd_readInto_13 : decode prog_8_method_4_code 13 = .ok (.getfield 19, 3) := by decide +kernel
theorem d_Rd_readInto_16 : decode prog_8_method_4_code 16 = .ok (.if_icmp .ge 35, 3) := by decide +kernel
theorem d_Rd_readInto_19 : decode prog_8_method_4_code 19 = .ok (.iconst 3, 1) := by decide +kernel
theorem d_Rd_readInto_20 : decode prog_8_method_4_code 20 = .ok (.iload_n 2, 1) := by decide +kernel
theorem d_Rd_readInto_21 : decode prog_8_method_4_code 21 = .ok (.imul, 1) := by decide +kernel
theorem d_Rd_readInto_22 : decode prog_8_method_4_code 22 = .ok (.istore_n 3, 1) := by decide +kernel
theorem d_Rd_readInto_23 : decode prog_8_method_4_code 23 = .ok (.aload_n 1, 1) := by decide +kernel
theorem d_Rd_readInto_24 : decode prog_8_method_4_code 24 = .ok (.aload_n 0, 1) := by decide +kernel
theorem d_Rd_readInto_25 : decode prog_8_method_4_code 25 = .ok (.getfield 9, 3) := by decide +kernel
theorem d_Rd_readInto_28 : decode prog_8_method_4_code 28 = .ok (.iload_n 3, 1) := by decide +kernel
theorem d_Rd_readInto_29 : decode prog_8_method_4_code 29 = .ok (.invokevirtual 47, 3) := by decide +kernel
theorem d_Rd_readInto_32 : decode prog_8_method_4_code 32 = .ok (.aload_n 0, 1) := by decide +kernel
theorem d_Rd_readInto_33 : decode prog_8_method_4_code 33 = .ok (.getfield 9, 3) := by decide +kernel
theorem d_Rd_readInto_36 : decode prog_8_method_4_code 36 = .ok (.iload_n 3, 1) := by decide +kernel
theorem d_Rd_readInto_37 : decode prog_8_method_4_code 37 = .ok (.iconst 1, 1) := by decide +kernel
theorem d_Rd_readInto_38 : decode prog_8_method_4_code 38 = .ok (.iadd, 1) := by decide +kernel
theorem d_Rd_readInto_39 : decode prog_8_method_4_code 39 = .ok (.invokevirtual 47, 3) := by decide +kernel
theorem d_Rd_readInto_42 : decode prog_8_method_4_code 42 = .ok (.invokevirtual 50, 3) := by decide +kernel
theorem d_Rd_readInto_45 : decode prog_8_method_4_code 45 = .ok (.iinc 2 1, 3) := by decide +kernel
theorem d_Rd_readInto_48 : decode prog_8_method_4_code 48 = .ok (.goto (-37), 3) := by decide +kernel
theorem d_Rd_readInto_51 : decode prog_8_method_4_code 51 = .ok (.iconst 0, 1) := by decide +kernel
theorem d_Rd_readInto_52 : decode prog_8_method_4_code 52 = .ok (.istore_n 2, 1) := by decide +kernel
theorem d_Rd_readInto_53 : decode prog_8_method_4_code 53 = .ok (.iload_n 2, 1) := by decide +kernel
theorem d_Rd_readInto_54 : decode prog_8_method_4_code 54 = .ok (.aload_n 0, 1) := by decide +kernel
theorem d_Rd_readInto_55 : decode prog_8_method_4_code 55 = .ok (.getfield 22, 3) := by decide +kernel
theorem d_Rd_readInto_58 : decode prog_8_method_4_code 58 = .ok (.if_icmp .ge 95, 3) := by decide +kernel
theorem d_Rd_readInto_61 : decode prog_8_method_4_code 61 = .ok (.iconst 3, 1) := by decide +kernel
theorem d_Rd_readInto_62 : decode prog_8_method_4_code 62 = .ok (.aload_n 0, 1) := by decide +kernel
theorem d_Rd_readInto_63 : decode prog_8_method_4_code 63 = .ok (.getfield 19, 3) := by decide +kernel
theorem d_Rd_readInto_66 : decode prog_8_method_4_code 66 = .ok (.imul, 1) := by decide +kernel
theorem d_Rd_readInto_67 : decode prog_8_method_4_code 67 = .ok (.iconst 5, 1) := by decide +kernel
theorem d_Rd_readInto_68 : decode prog_8_method_4_code 68 = .ok (.iload_n 2, 1) := by decide +kernel
theorem d_Rd_readInto_69 : decode prog_8_method_4_code 69 = .ok (.imul, 1) := by decide +kernel
theorem d_Rd_readInto_70 : decode prog_8_method_4_code 70 = .ok (.iadd, 1) := by decide +kernel
theorem d_Rd_readInto_71 : decode prog_8_method_4_code 71 = .ok (.istore_n 3, 1) := by decide +kernel
theorem d_Rd_readInto_72 : decode prog_8_method_4_code 72 = .ok (.ldc 54, 2) := by decide +kernel
theorem d_Rd_readInto_74 : decode prog_8_method_4_code 74 = .ok (.aload_n 0, 1) := by decide +kernel
theorem d_Rd_readInto_75 : decode prog_8_method_4_code 75 = .ok (.getfield 9, 3) := by decide +kernel
theorem d_Rd_readInto_78 : decode prog_8_method_4_code 78 = .ok (.iload_n 3, 1) := by decide +kernel
theorem d_Rd_readInto_79 : decode prog_8_method_4_code 79 = .ok (.invokevirtual 31, 3) := by decide +kernel
theorem d_Rd_readInto_82 : decode prog_8_method_4_code 82 = .ok (.i2c, 1) := by decide +kernel
theorem d_Rd_readInto_83 : decode prog_8_method_4_code 83 = .ok (.invokevirtual 56, 3) := by decide +kernel
theorem d_Rd_readInto_86 : decode prog_8_method_4_code 86 = .ok (.istore 4, 2) := by decide +kernel
theorem d_Rd_readInto_88 : decode prog_8_method_4_code 88 = .ok (.aload_n 0, 1) := by decide +kernel
theorem d_Rd_readInto_89 : decode prog_8_method_4_code 89 = .ok (.getfield 9, 3) := by decide +kernel
theorem d_Rd_readInto_92 : decode prog_8_method_4_code 92 = .ok (.iload_n 3, 1) := by decide +kernel
theorem d_Rd_readInto_93 : decode prog_8_method_4_code 93 = .ok (.iconst 3, 1) := by decide +kernel
theorem d_Rd_readInto_94 : decode prog_8_method_4_code 94 = .ok (.iadd, 1) := by decide +kernel
theorem d_Rd_readInto_95 : decode prog_8_method_4_code 95 = .ok (.invokevirtual 31, 3) := by decide +kernel
theorem d_Rd_readInto_98 : decode prog_8_method_4_code 98 = .ok (.bipush 45, 2) := by decide +kernel
theorem d_Rd_readInto_100 : decode prog_8_method_4_code 100 = .ok (.if_icmp .ne 7, 3) := by decide +kernel
theorem d_Rd_readInto_103 : decode prog_8_method_4_code 103 = .ok (.iconst (-1), 1) := by decide +kernel
theorem d_Rd_readInto_104 : decode prog_8_method_4_code 104 = .ok (.goto 13, 3) := by decide +kernel
theorem d_Rd_readInto_107 : decode prog_8_method_4_code 107 = .ok (.aload_n 0, 1) := by decide +kernel
theorem d_Rd_readInto_108 : decode prog_8_method_4_code 108 = .ok (.getfield 9, 3) := by decide +kernel
theorem d_Rd_readInto_111 : decode prog_8_method_4_code 111 = .ok (.iload_n 3, 1) := by decide +kernel
theorem d_Rd_readInto_112 : decode prog_8_method_4_code 112 = .ok (.iconst 3, 1) := by decide +kernel
theorem d_Rd_readInto_113 : decode prog_8_method_4_code 113 = .ok (.iadd, 1) := by decide +kernel
theorem d_Rd_readInto_114 : decode prog_8_method_4_code 114 = .ok (.invokevirtual 47, 3) := by decide +kernel
theorem d_Rd_readInto_117 : decode prog_8_method_4_code 117 = .ok (.istore 5, 2) := by decide +kernel
theorem d_Rd_readInto_119 : decode prog_8_method_4_code 119 = .ok (.aload_n 1, 1) := by decide +kernel
theorem d_Rd_readInto_120 : decode prog_8_method_4_code 120 = .ok (.iload 4, 2) := by decide +kernel
theorem d_Rd_readInto_122 : decode prog_8_method_4_code 122 = .ok (.aload_n 0, 1) := by decide +kernel
theorem d_Rd_readInto_123 : decode prog_8_method_4_code 123 = .ok (.getfield 9, 3) := by decide +kernel
theorem d_Rd_readInto_126 : decode prog_8_method_4_code 126 = .ok (.iload_n 3, 1) := by decide +kernel
theorem d_Rd_readInto_127 : decode prog_8_method_4_code 127 = .ok (.iconst 1, 1) := by decide +kernel
theorem d_Rd_readInto_128 : decode prog_8_method_4_code 128 = .ok (.iadd, 1) := by decide +kernel
theorem d_Rd_readInto_129 : decode prog_8_method_4_code 129 = .ok (.invokevirtual 47, 3) := by decide +kernel
theorem d_Rd_readInto_132 : decode prog_8_method_4_code 132 = .ok (.aload_n 0, 1) := by decide +kernel
theorem d_Rd_readInto_133 : decode prog_8_method_4_code 133 = .ok (.getfield 9, 3) := by decide +kernel
theorem d_Rd_readInto_136 : decode prog_8_method_4_code 136 = .ok (.iload_n 3, 1) := by decide +kernel
theorem d_Rd_readInto_137 : decode prog_8_method_4_code 137 = .ok (.iconst 2, 1) := by decide +kernel
theorem d_Rd_readInto_138 : decode prog_8_method_4_code 138 = .ok (.iadd, 1) := by decide +kernel
theorem d_Rd_readInto_139 : decode prog_8_method_4_code 139 = .ok (.invokevirtual 47, 3) := by decide +kernel
theorem d_Rd_readInto_142 : decode prog_8_method_4_code 142 = .ok (.iload 5, 2) := by decide +kernel
theorem d_Rd_readInto_144 : decode prog_8_method_4_code 144 = .ok (.invokevirtual 61, 3) := by decide +kernel
theorem d_Rd_readInto_147 : decode prog_8_method_4_code 147 = .ok (.iinc 2 1, 3) := by decide +kernel
theorem d_Rd_readInto_150 : decode prog_8_method_4_code 150 = .ok (.goto (-97), 3) := by decide +kernel
theorem d_Rd_readInto_153 : decode prog_8_method_4_code 153 = .ok (.return_, 1) := by decide +kernel
theorem d_Pg_clear_0 : decode prog_6_method_6_code 0 = .ok (.aload_n 0, 1) := by decide +kernel
theorem d_Pg_clear_1 : decode prog_6_method_6_code 1 = .ok (.iconst 0, 1) := by decide +kernel
theorem d_Pg_clear_2 : decode prog_6_method_6_code 2 = .ok (.putfield 20, 3) := by decide +kernel
theorem d_Pg_clear_5 : decode prog_6_method_6_code 5 = .ok (.return_, 1) := by decide +kernel
theorem d_Co_shire_0 : decode prog_1_method_5_code 0 = .ok (.aload_n 0, 1) := by decide +kernel
theorem d_Co_shire_1 : decode prog_1_method_5_code 1 = .ok (.getfield 21, 3) := by decide +kernel
theorem d_Co_shire_4 : decode prog_1_method_5_code 4 = .ok (.invokevirtual 79, 3) := by decide +kernel
theorem d_Co_shire_7 : decode prog_1_method_5_code 7 = .ok (.ifCond .ne 6, 3) := by decide +kernel
theorem d_Co_shire_10 : decode prog_1_method_5_code 10 = .ok (.bipush (-103), 2) := by decide +kernel
theorem d_Co_shire_12 : decode prog_1_method_5_code 12 = .ok (.ireturn, 1) := by decide +kernel
theorem d_Co_shire_13 : decode prog_1_method_5_code 13 = .ok (.aload_n 0, 1) := by decide +kernel
theorem d_Co_shire_14 : decode prog_1_method_5_code 14 = .ok (.getfield 21, 3) := by decide +kernel
theorem d_Co_shire_17 : decode prog_1_method_5_code 17 = .ok (.aload_n 0, 1) := by decide +kernel
theorem d_Co_shire_18 : decode prog_1_method_5_code 18 = .ok (.getfield 28, 3) := by decide +kernel
theorem d_Co_shire_21 : decode prog_1_method_5_code 21 = .ok (.invokevirtual 83, 3) := by decide +kernel
theorem d_Co_shire_24 : decode prog_1_method_5_code 24 = .ok (.aload_n 0, 1) := by decide +kernel
theorem d_Co_shire_25 : decode prog_1_method_5_code 25 = .ok (.getfield 10, 3) := by decide +kernel
theorem d_Co_shire_28 : decode prog_1_method_5_code 28 = .ok (.invokevirtual 73, 3) := by decide +kernel
theorem d_Co_shire_31 : decode prog_1_method_5_code 31 = .ok (.aload_n 0, 1) := by decide +kernel
theorem d_Co_shire_32 : decode prog_1_method_5_code 32 = .ok (.iconst 0, 1) := by decide +kernel
theorem d_Co_shire_33 : decode prog_1_method_5_code 33 = .ok (.putfield 86, 3) := by decide +kernel
theorem d_Co_shire_36 : decode prog_1_method_5_code 36 = .ok (.aload_n 0, 1) := by decide +kernel
theorem d_Co_shire_37 : decode prog_1_method_5_code 37 = .ok (.dup, 1) := by decide +kernel
theorem d_Co_shire_38 : decode prog_1_method_5_code 38 = .ok (.getfield 90, 3) := by decide +kernel
theorem d_Co_shire_41 : decode prog_1_method_5_code 41 = .ok (.iconst 1, 1) := by decide +kernel
theorem d_Co_shire_42 : decode prog_1_method_5_code 42 = .ok (.iadd, 1) := by decide +kernel
theorem d_Co_shire_43 : decode prog_1_method_5_code 43 = .ok (.putfield 90, 3) := by decide +kernel
theorem d_Co_shire_46 : decode prog_1_method_5_code 46 = .ok (.aload_n 0, 1) := by decide +kernel
theorem d_Co_shire_47 : decode prog_1_method_5_code 47 = .ok (.getfield 28, 3) := by decide +kernel
theorem d_Co_shire_50 : decode prog_1_method_5_code 50 = .ok (.invokevirtual 94, 3) := by decide +kernel
theorem d_Co_shire_53 : decode prog_1_method_5_code 53 = .ok (.ireturn, 1) := by decide +kernel
theorem d_Sh_kind_0 : decode prog_10_method_18_code 0 = .ok (.aload_n 0, 1) := by decide +kernel
theorem d_Sh_kind_1 : decode prog_10_method_18_code 1 = .ok (.getfield 23, 3) := by decide +kernel
theorem d_Sh_kind_4 : decode prog_10_method_18_code 4 = .ok (.iload_n 1, 1) := by decide +kernel
theorem d_Sh_kind_5 : decode prog_10_method_18_code 5 = .ok (.invokevirtual 71, 3) := by decide +kernel
theorem d_Sh_kind_8 : decode prog_10_method_18_code 8 = .ok (.ireturn, 1) := by decide +kernel
theorem d_Sh_need_0 : decode prog_10_method_19_code 0 = .ok (.aload_n 0, 1) := by decide +kernel
theorem d_Sh_need_1 : decode prog_10_method_19_code 1 = .ok (.getfield 26, 3) := by decide +kernel
theorem d_Sh_need_4 : decode prog_10_method_19_code 4 = .ok (.iload_n 1, 1) := by decide +kernel
theorem d_Sh_need_5 : decode prog_10_method_19_code 5 = .ok (.invokevirtual 71, 3) := by decide +kernel
theorem d_Sh_need_8 : decode prog_10_method_19_code 8 = .ok (.ireturn, 1) := by decide +kernel
theorem d_Sh_hangsOn_0 : decode prog_10_method_21_code 0 = .ok (.aload_n 0, 1) := by decide +kernel
theorem d_Sh_hangsOn_1 : decode prog_10_method_21_code 1 = .ok (.getfield 32, 3) := by decide +kernel
theorem d_Sh_hangsOn_4 : decode prog_10_method_21_code 4 = .ok (.iload_n 1, 1) := by decide +kernel
theorem d_Sh_hangsOn_5 : decode prog_10_method_21_code 5 = .ok (.invokevirtual 71, 3) := by decide +kernel
theorem d_Sh_hangsOn_8 : decode prog_10_method_21_code 8 = .ok (.ireturn, 1) := by decide +kernel
theorem d_Sh_below_0 : decode prog_10_method_22_code 0 = .ok (.aload_n 0, 1) := by decide +kernel
theorem d_Sh_below_1 : decode prog_10_method_22_code 1 = .ok (.getfield 38, 3) := by decide +kernel
theorem d_Sh_below_4 : decode prog_10_method_22_code 4 = .ok (.iload_n 1, 1) := by decide +kernel
theorem d_Sh_below_5 : decode prog_10_method_22_code 5 = .ok (.invokevirtual 71, 3) := by decide +kernel
theorem d_Sh_below_8 : decode prog_10_method_22_code 8 = .ok (.ireturn, 1) := by decide +kernel
theorem d_Si_allow_0 : decode prog_11_method_6_code 0 = .ok (.iconst 0, 1) := by decide +kernel
theorem d_Si_allow_1 : decode prog_11_method_6_code 1 = .ok (.istore_n 3, 1) := by decide +kernel
theorem d_Si_allow_2 : decode prog_11_method_6_code 2 = .ok (.iload_n 3, 1) := by decide +kernel
theorem d_Si_allow_3 : decode prog_11_method_6_code 3 = .ok (.aload_n 0, 1) := by decide +kernel
theorem d_Si_allow_4 : decode prog_11_method_6_code 4 = .ok (.getfield 26, 3) := by decide +kernel
theorem d_Si_allow_7 : decode prog_11_method_6_code 7 = .ok (.if_icmp .ge 64, 3) := by decide +kernel
theorem d_Si_allow_10 : decode prog_11_method_6_code 10 = .ok (.aload_n 0, 1) := by decide +kernel
theorem d_Si_allow_11 : decode prog_11_method_6_code 11 = .ok (.getfield 20, 3) := by decide +kernel
theorem d_Si_allow_14 : decode prog_11_method_6_code 14 = .ok (.iload_n 3, 1) := by decide +kernel
theorem d_Si_allow_15 : decode prog_11_method_6_code 15 = .ok (.invokevirtual 38, 3) := by decide +kernel
theorem d_Si_allow_18 : decode prog_11_method_6_code 18 = .ok (.iload_n 2, 1) := by decide +kernel
theorem d_Si_allow_19 : decode prog_11_method_6_code 19 = .ok (.if_icmp .lt 7, 3) := by decide +kernel
theorem d_Si_allow_22 : decode prog_11_method_6_code 22 = .ok (.iconst 1, 1) := by decide +kernel
theorem d_Si_allow_23 : decode prog_11_method_6_code 23 = .ok (.goto 4, 3) := by decide +kernel
theorem d_Si_allow_26 : decode prog_11_method_6_code 26 = .ok (.iconst 0, 1) := by decide +kernel
theorem d_Si_allow_27 : decode prog_11_method_6_code 27 = .ok (.istore 4, 2) := by decide +kernel
theorem d_Si_allow_29 : decode prog_11_method_6_code 29 = .ok (.aload_n 0, 1) := by decide +kernel
theorem d_Si_allow_30 : decode prog_11_method_6_code 30 = .ok (.getfield 14, 3) := by decide +kernel
theorem d_Si_allow_33 : decode prog_11_method_6_code 33 = .ok (.iload_n 3, 1) := by decide +kernel
theorem d_Si_allow_34 : decode prog_11_method_6_code 34 = .ok (.invokevirtual 38, 3) := by decide +kernel
theorem d_Si_allow_37 : decode prog_11_method_6_code 37 = .ok (.iload_n 1, 1) := by decide +kernel
theorem d_Si_allow_38 : decode prog_11_method_6_code 38 = .ok (.if_icmp .ne 27, 3) := by decide +kernel
theorem d_Si_allow_41 : decode prog_11_method_6_code 41 = .ok (.iload 4, 2) := by decide +kernel
theorem d_Si_allow_43 : decode prog_11_method_6_code 43 = .ok (.aload_n 0, 1) := by decide +kernel
theorem d_Si_allow_44 : decode prog_11_method_6_code 44 = .ok (.getfield 23, 3) := by decide +kernel
theorem d_Si_allow_47 : decode prog_11_method_6_code 47 = .ok (.iload_n 3, 1) := by decide +kernel
theorem d_Si_allow_48 : decode prog_11_method_6_code 48 = .ok (.invokevirtual 38, 3) := by decide +kernel
theorem d_Si_allow_51 : decode prog_11_method_6_code 51 = .ok (.iconst 1, 1) := by decide +kernel
theorem d_Si_allow_52 : decode prog_11_method_6_code 52 = .ok (.if_icmp .ne 7, 3) := by decide +kernel
theorem d_Si_allow_55 : decode prog_11_method_6_code 55 = .ok (.iconst 1, 1) := by decide +kernel
theorem d_Si_allow_56 : decode prog_11_method_6_code 56 = .ok (.goto 4, 3) := by decide +kernel
theorem d_Si_allow_59 : decode prog_11_method_6_code 59 = .ok (.iconst 0, 1) := by decide +kernel
theorem d_Si_allow_60 : decode prog_11_method_6_code 60 = .ok (.if_icmp .eq 5, 3) := by decide +kernel
theorem d_Si_allow_63 : decode prog_11_method_6_code 63 = .ok (.iconst 0, 1) := by decide +kernel
theorem d_Si_allow_64 : decode prog_11_method_6_code 64 = .ok (.ireturn, 1) := by decide +kernel
theorem d_Si_allow_65 : decode prog_11_method_6_code 65 = .ok (.iinc 3 1, 3) := by decide +kernel
theorem d_Si_allow_68 : decode prog_11_method_6_code 68 = .ok (.goto (-66), 3) := by decide +kernel
theorem d_Si_allow_71 : decode prog_11_method_6_code 71 = .ok (.iconst 1, 1) := by decide +kernel
theorem d_Si_allow_72 : decode prog_11_method_6_code 72 = .ok (.ireturn, 1) := by decide +kernel
theorem d_Gu_possibleNeeds_0 : decode prog_5_method_2_code 0 = .ok (.iconst 0, 1) := by decide +kernel
theorem d_Gu_possibleNeeds_1 : decode prog_5_method_2_code 1 = .ok (.istore_n 2, 1) := by decide +kernel
theorem d_Gu_possibleNeeds_2 : decode prog_5_method_2_code 2 = .ok (.iconst 1, 1) := by decide +kernel
theorem d_Gu_possibleNeeds_3 : decode prog_5_method_2_code 3 = .ok (.istore_n 3, 1) := by decide +kernel
theorem d_Gu_possibleNeeds_4 : decode prog_5_method_2_code 4 = .ok (.iload_n 3, 1) := by decide +kernel
theorem d_Gu_possibleNeeds_5 : decode prog_5_method_2_code 5 = .ok (.bipush 9, 2) := by decide +kernel
theorem d_Gu_possibleNeeds_7 : decode prog_5_method_2_code 7 = .ok (.if_icmp .gt 41, 3) := by decide +kernel
theorem d_Gu_possibleNeeds_10 : decode prog_5_method_2_code 10 = .ok (.aload_n 0, 1) := by decide +kernel
theorem d_Gu_possibleNeeds_11 : decode prog_5_method_2_code 11 = .ok (.getfield 9, 3) := by decide +kernel
theorem d_Gu_possibleNeeds_14 : decode prog_5_method_2_code 14 = .ok (.invokevirtual 15, 3) := by decide +kernel
theorem d_Gu_possibleNeeds_17 : decode prog_5_method_2_code 17 = .ok (.iload_n 1, 1) := by decide +kernel
theorem d_Gu_possibleNeeds_18 : decode prog_5_method_2_code 18 = .ok (.aload_n 0, 1) := by decide +kernel
theorem d_Gu_possibleNeeds_19 : decode prog_5_method_2_code 19 = .ok (.getfield 9, 3) := by decide +kernel
theorem d_Gu_possibleNeeds_22 : decode prog_5_method_2_code 22 = .ok (.iload_n 1, 1) := by decide +kernel
theorem d_Gu_possibleNeeds_23 : decode prog_5_method_2_code 23 = .ok (.iload_n 3, 1) := by decide +kernel
theorem d_Gu_possibleNeeds_24 : decode prog_5_method_2_code 24 = .ok (.invokevirtual 21, 3) := by decide +kernel
theorem d_Gu_possibleNeeds_27 : decode prog_5_method_2_code 27 = .ok (.invokevirtual 25, 3) := by decide +kernel
theorem d_Gu_possibleNeeds_30 : decode prog_5_method_2_code 30 = .ok (.ifCond .eq 12, 3) := by decide +kernel
theorem d_Gu_possibleNeeds_33 : decode prog_5_method_2_code 33 = .ok (.iload_n 2, 1) := by decide +kernel
theorem d_Gu_possibleNeeds_34 : decode prog_5_method_2_code 34 = .ok (.iload_n 3, 1) := by decide +kernel
theorem d_Gu_possibleNeeds_35 : decode prog_5_method_2_code 35 = .ok (.iconst 1, 1) := by decide +kernel
theorem d_Gu_possibleNeeds_36 : decode prog_5_method_2_code 36 = .ok (.isub, 1) := by decide +kernel
theorem d_Gu_possibleNeeds_37 : decode prog_5_method_2_code 37 = .ok (.invokestatic 31, 3) := by decide +kernel
theorem d_Gu_possibleNeeds_40 : decode prog_5_method_2_code 40 = .ok (.ior, 1) := by decide +kernel
theorem d_Gu_possibleNeeds_41 : decode prog_5_method_2_code 41 = .ok (.istore_n 2, 1) := by decide +kernel
theorem d_Gu_possibleNeeds_42 : decode prog_5_method_2_code 42 = .ok (.iinc 3 1, 3) := by decide +kernel
theorem d_Gu_possibleNeeds_45 : decode prog_5_method_2_code 45 = .ok (.goto (-41), 3) := by decide +kernel
theorem d_Gu_possibleNeeds_48 : decode prog_5_method_2_code 48 = .ok (.iload_n 2, 1) := by decide +kernel
theorem d_Gu_possibleNeeds_49 : decode prog_5_method_2_code 49 = .ok (.ireturn, 1) := by decide +kernel
theorem d_Gu_leftAtWorst_0 : decode prog_5_method_4_code 0 = .ok (.iconst 0, 1) := by decide +kernel
theorem d_Gu_leftAtWorst_1 : decode prog_5_method_4_code 1 = .ok (.istore 4, 2) := by decide +kernel
theorem d_Gu_leftAtWorst_3 : decode prog_5_method_4_code 3 = .ok (.iconst 1, 1) := by decide +kernel
theorem d_Gu_leftAtWorst_4 : decode prog_5_method_4_code 4 = .ok (.istore 5, 2) := by decide +kernel
theorem d_Gu_leftAtWorst_6 : decode prog_5_method_4_code 6 = .ok (.iload 5, 2) := by decide +kernel
theorem d_Gu_leftAtWorst_8 : decode prog_5_method_4_code 8 = .ok (.bipush 9, 2) := by decide +kernel
theorem d_Gu_leftAtWorst_10 : decode prog_5_method_4_code 10 = .ok (.if_icmp .gt 56, 3) := by decide +kernel
theorem d_Gu_leftAtWorst_13 : decode prog_5_method_4_code 13 = .ok (.aload_n 0, 1) := by decide +kernel
theorem d_Gu_leftAtWorst_14 : decode prog_5_method_4_code 14 = .ok (.getfield 9, 3) := by decide +kernel
theorem d_Gu_leftAtWorst_17 : decode prog_5_method_4_code 17 = .ok (.iload_n 1, 1) := by decide +kernel
theorem d_Gu_leftAtWorst_18 : decode prog_5_method_4_code 18 = .ok (.iload 5, 2) := by decide +kernel
theorem d_Gu_leftAtWorst_20 : decode prog_5_method_4_code 20 = .ok (.invokevirtual 21, 3) := by decide +kernel
theorem d_Gu_leftAtWorst_23 : decode prog_5_method_4_code 23 = .ok (.iload_n 3, 1) := by decide +kernel
theorem d_Gu_leftAtWorst_24 : decode prog_5_method_4_code 24 = .ok (.if_icmp .gt 7, 3) := by decide +kernel
theorem d_Gu_leftAtWorst_27 : decode prog_5_method_4_code 27 = .ok (.iconst 1, 1) := by decide +kernel
theorem d_Gu_leftAtWorst_28 : decode prog_5_method_4_code 28 = .ok (.goto 4, 3) := by decide +kernel
theorem d_Gu_leftAtWorst_31 : decode prog_5_method_4_code 31 = .ok (.iconst 0, 1) := by decide +kernel
theorem d_Gu_leftAtWorst_32 : decode prog_5_method_4_code 32 = .ok (.istore 6, 2) := by decide +kernel
theorem d_Gu_leftAtWorst_34 : decode prog_5_method_4_code 34 = .ok (.iload 4, 2) := by decide +kernel
theorem d_Gu_leftAtWorst_36 : decode prog_5_method_4_code 36 = .ok (.iload 6, 2) := by decide +kernel
theorem d_Gu_leftAtWorst_38 : decode prog_5_method_4_code 38 = .ok (.ifCond .eq 18, 3) := by decide +kernel
theorem d_Gu_leftAtWorst_41 : decode prog_5_method_4_code 41 = .ok (.iload_n 2, 1) := by decide +kernel
theorem d_Gu_leftAtWorst_42 : decode prog_5_method_4_code 42 = .ok (.iload 5, 2) := by decide +kernel
theorem d_Gu_leftAtWorst_44 : decode prog_5_method_4_code 44 = .ok (.iconst 1, 1) := by decide +kernel
theorem d_Gu_leftAtWorst_45 : decode prog_5_method_4_code 45 = .ok (.isub, 1) := by decide +kernel
theorem d_Gu_leftAtWorst_46 : decode prog_5_method_4_code 46 = .ok (.invokestatic 42, 3) := by decide +kernel
theorem d_Gu_leftAtWorst_49 : decode prog_5_method_4_code 49 = .ok (.ifCond .eq 7, 3) := by decide +kernel
theorem d_Gu_leftAtWorst_52 : decode prog_5_method_4_code 52 = .ok (.iconst 1, 1) := by decide +kernel
theorem d_Gu_leftAtWorst_53 : decode prog_5_method_4_code 53 = .ok (.goto 4, 3) := by decide +kernel
theorem d_Gu_leftAtWorst_56 : decode prog_5_method_4_code 56 = .ok (.iconst 0, 1) := by decide +kernel
theorem d_Gu_leftAtWorst_57 : decode prog_5_method_4_code 57 = .ok (.iadd, 1) := by decide +kernel
theorem d_Gu_leftAtWorst_58 : decode prog_5_method_4_code 58 = .ok (.istore 4, 2) := by decide +kernel
theorem d_Gu_leftAtWorst_60 : decode prog_5_method_4_code 60 = .ok (.iinc 5 1, 3) := by decide +kernel
theorem d_Gu_leftAtWorst_63 : decode prog_5_method_4_code 63 = .ok (.goto (-57), 3) := by decide +kernel
theorem d_Gu_leftAtWorst_66 : decode prog_5_method_4_code 66 = .ok (.iload 4, 2) := by decide +kernel
theorem d_Gu_leftAtWorst_68 : decode prog_5_method_4_code 68 = .ok (.iload_n 2, 1) := by decide +kernel
theorem d_Gu_leftAtWorst_69 : decode prog_5_method_4_code 69 = .ok (.invokestatic 45, 3) := by decide +kernel
theorem d_Gu_leftAtWorst_72 : decode prog_5_method_4_code 72 = .ok (.iload 4, 2) := by decide +kernel
theorem d_Gu_leftAtWorst_74 : decode prog_5_method_4_code 74 = .ok (.isub, 1) := by decide +kernel
theorem d_Gu_leftAtWorst_75 : decode prog_5_method_4_code 75 = .ok (.invokestatic 50, 3) := by decide +kernel
theorem d_Gu_leftAtWorst_78 : decode prog_5_method_4_code 78 = .ok (.ireturn, 1) := by decide +kernel
theorem d_Gu_bestTry_0 : decode prog_5_method_3_code 0 = .ok (.aload_n 0, 1) := by decide +kernel
theorem d_Gu_bestTry_1 : decode prog_5_method_3_code 1 = .ok (.iload_n 1, 1) := by decide +kernel
theorem d_Gu_bestTry_2 : decode prog_5_method_3_code 2 = .ok (.invokevirtual 35, 3) := by decide +kernel
theorem d_Gu_bestTry_5 : decode prog_5_method_3_code 5 = .ok (.istore_n 2, 1) := by decide +kernel
theorem d_Gu_bestTry_6 : decode prog_5_method_3_code 6 = .ok (.iload_n 2, 1) := by decide +kernel
theorem d_Gu_bestTry_7 : decode prog_5_method_3_code 7 = .ok (.ifCond .ne 5, 3) := by decide +kernel
theorem d_Gu_bestTry_10 : decode prog_5_method_3_code 10 = .ok (.iconst (-1), 1) := by decide +kernel
theorem d_Gu_bestTry_11 : decode prog_5_method_3_code 11 = .ok (.ireturn, 1) := by decide +kernel
theorem d_Gu_bestTry_12 : decode prog_5_method_3_code 12 = .ok (.iconst (-1), 1) := by decide +kernel
theorem d_Gu_bestTry_13 : decode prog_5_method_3_code 13 = .ok (.istore_n 3, 1) := by decide +kernel
theorem d_Gu_bestTry_14 : decode prog_5_method_3_code 14 = .ok (.bipush 10, 2) := by decide +kernel
theorem d_Gu_bestTry_16 : decode prog_5_method_3_code 16 = .ok (.istore 4, 2) := by decide +kernel
theorem d_Gu_bestTry_18 : decode prog_5_method_3_code 18 = .ok (.iconst 1, 1) := by decide +kernel
theorem d_Gu_bestTry_19 : decode prog_5_method_3_code 19 = .ok (.istore 5, 2) := by decide +kernel
theorem d_Gu_bestTry_21 : decode prog_5_method_3_code 21 = .ok (.iload 5, 2) := by decide +kernel
theorem d_Gu_bestTry_23 : decode prog_5_method_3_code 23 = .ok (.bipush 18, 2) := by decide +kernel
theorem d_Gu_bestTry_25 : decode prog_5_method_3_code 25 = .ok (.if_icmp .gt 33, 3) := by decide +kernel
theorem d_Gu_bestTry_28 : decode prog_5_method_3_code 28 = .ok (.aload_n 0, 1) := by decide +kernel
theorem d_Gu_bestTry_29 : decode prog_5_method_3_code 29 = .ok (.iload_n 1, 1) := by decide +kernel
theorem d_Gu_bestTry_30 : decode prog_5_method_3_code 30 = .ok (.iload_n 2, 1) := by decide +kernel
theorem d_Gu_bestTry_31 : decode prog_5_method_3_code 31 = .ok (.iload 5, 2) := by decide +kernel
theorem d_Gu_bestTry_33 : decode prog_5_method_3_code 33 = .ok (.invokevirtual 38, 3) := by decide +kernel
theorem d_Gu_bestTry_36 : decode prog_5_method_3_code 36 = .ok (.istore 6, 2) := by decide +kernel
theorem d_Gu_bestTry_38 : decode prog_5_method_3_code 38 = .ok (.iload 6, 2) := by decide +kernel
theorem d_Gu_bestTry_40 : decode prog_5_method_3_code 40 = .ok (.iload 4, 2) := by decide +kernel
theorem d_Gu_bestTry_42 : decode prog_5_method_3_code 42 = .ok (.if_icmp .ge 10, 3) := by decide +kernel
theorem d_Gu_bestTry_45 : decode prog_5_method_3_code 45 = .ok (.iload 6, 2) := by decide +kernel
theorem d_Gu_bestTry_47 : decode prog_5_method_3_code 47 = .ok (.istore 4, 2) := by decide +kernel
theorem d_Gu_bestTry_49 : decode prog_5_method_3_code 49 = .ok (.iload 5, 2) := by decide +kernel
theorem d_Gu_bestTry_51 : decode prog_5_method_3_code 51 = .ok (.istore_n 3, 1) := by decide +kernel
theorem d_Gu_bestTry_52 : decode prog_5_method_3_code 52 = .ok (.iinc 5 1, 3) := by decide +kernel
theorem d_Gu_bestTry_55 : decode prog_5_method_3_code 55 = .ok (.goto (-34), 3) := by decide +kernel
theorem d_Gu_bestTry_58 : decode prog_5_method_3_code 58 = .ok (.iload_n 3, 1) := by decide +kernel
theorem d_Gu_bestTry_59 : decode prog_5_method_3_code 59 = .ok (.ireturn, 1) := by decide +kernel
theorem d_Co_suit_0 : decode prog_1_method_7_code 0 = .ok (.aload_n 0, 1) := by decide +kernel
theorem d_Co_suit_1 : decode prog_1_method_7_code 1 = .ok (.getfield 28, 3) := by decide +kernel
theorem d_Co_suit_4 : decode prog_1_method_7_code 4 = .ok (.iload_n 1, 1) := by decide +kernel
theorem d_Co_suit_5 : decode prog_1_method_7_code 5 = .ok (.invokevirtual 111, 3) := by decide +kernel
theorem d_Co_suit_8 : decode prog_1_method_7_code 8 = .ok (.ifCond .ne 6, 3) := by decide +kernel
theorem d_Co_suit_11 : decode prog_1_method_7_code 11 = .ok (.bipush (-101), 2) := by decide +kernel
theorem d_Co_suit_13 : decode prog_1_method_7_code 13 = .ok (.ireturn, 1) := by decide +kernel
theorem d_Co_suit_14 : decode prog_1_method_7_code 14 = .ok (.iload_n 2, 1) := by decide +kernel
theorem d_Co_suit_15 : decode prog_1_method_7_code 15 = .ok (.tableswitch 154 0 9 #[53, 62, 71, 80, 89, 98, 118, 127, 136, 145], 53) := by decide +kernel
theorem d_Co_suit_68 : decode prog_1_method_7_code 68 = .ok (.aload_n 0, 1) := by decide +kernel
theorem d_Co_suit_69 : decode prog_1_method_7_code 69 = .ok (.getfield 28, 3) := by decide +kernel
theorem d_Co_suit_72 : decode prog_1_method_7_code 72 = .ok (.iload_n 1, 1) := by decide +kernel
theorem d_Co_suit_73 : decode prog_1_method_7_code 73 = .ok (.invokevirtual 114, 3) := by decide +kernel
theorem d_Co_suit_76 : decode prog_1_method_7_code 76 = .ok (.ireturn, 1) := by decide +kernel
theorem d_Co_suit_77 : decode prog_1_method_7_code 77 = .ok (.aload_n 0, 1) := by decide +kernel
theorem d_Co_suit_78 : decode prog_1_method_7_code 78 = .ok (.getfield 28, 3) := by decide +kernel
theorem d_Co_suit_81 : decode prog_1_method_7_code 81 = .ok (.iload_n 1, 1) := by decide +kernel
theorem d_Co_suit_82 : decode prog_1_method_7_code 82 = .ok (.invokevirtual 117, 3) := by decide +kernel
theorem d_Co_suit_85 : decode prog_1_method_7_code 85 = .ok (.ireturn, 1) := by decide +kernel
theorem d_Co_suit_86 : decode prog_1_method_7_code 86 = .ok (.aload_n 0, 1) := by decide +kernel
theorem d_Co_suit_87 : decode prog_1_method_7_code 87 = .ok (.getfield 28, 3) := by decide +kernel
theorem d_Co_suit_90 : decode prog_1_method_7_code 90 = .ok (.iload_n 1, 1) := by decide +kernel
theorem d_Co_suit_91 : decode prog_1_method_7_code 91 = .ok (.invokevirtual 120, 3) := by decide +kernel
theorem d_Co_suit_94 : decode prog_1_method_7_code 94 = .ok (.ireturn, 1) := by decide +kernel
theorem d_Co_suit_95 : decode prog_1_method_7_code 95 = .ok (.aload_n 0, 1) := by decide +kernel
theorem d_Co_suit_96 : decode prog_1_method_7_code 96 = .ok (.getfield 28, 3) := by decide +kernel
theorem d_Co_suit_99 : decode prog_1_method_7_code 99 = .ok (.iload_n 1, 1) := by decide +kernel
theorem d_Co_suit_100 : decode prog_1_method_7_code 100 = .ok (.invokevirtual 123, 3) := by decide +kernel
theorem d_Co_suit_103 : decode prog_1_method_7_code 103 = .ok (.ireturn, 1) := by decide +kernel
theorem d_Co_suit_104 : decode prog_1_method_7_code 104 = .ok (.aload_n 0, 1) := by decide +kernel
theorem d_Co_suit_105 : decode prog_1_method_7_code 105 = .ok (.getfield 28, 3) := by decide +kernel
theorem d_Co_suit_108 : decode prog_1_method_7_code 108 = .ok (.iload_n 1, 1) := by decide +kernel
theorem d_Co_suit_109 : decode prog_1_method_7_code 109 = .ok (.invokevirtual 126, 3) := by decide +kernel
theorem d_Co_suit_112 : decode prog_1_method_7_code 112 = .ok (.ireturn, 1) := by decide +kernel
theorem d_Co_suit_113 : decode prog_1_method_7_code 113 = .ok (.aload_n 0, 1) := by decide +kernel
theorem d_Co_suit_114 : decode prog_1_method_7_code 114 = .ok (.getfield 28, 3) := by decide +kernel
theorem d_Co_suit_117 : decode prog_1_method_7_code 117 = .ok (.invokevirtual 129, 3) := by decide +kernel
theorem d_Co_suit_120 : decode prog_1_method_7_code 120 = .ok (.iload_n 1, 1) := by decide +kernel
theorem d_Co_suit_121 : decode prog_1_method_7_code 121 = .ok (.invokestatic 132, 3) := by decide +kernel
theorem d_Co_suit_124 : decode prog_1_method_7_code 124 = .ok (.ifCond .eq 7, 3) := by decide +kernel
theorem d_Co_suit_127 : decode prog_1_method_7_code 127 = .ok (.iconst 1, 1) := by decide +kernel
theorem d_Co_suit_128 : decode prog_1_method_7_code 128 = .ok (.goto 4, 3) := by decide +kernel
theorem d_Co_suit_131 : decode prog_1_method_7_code 131 = .ok (.iconst 0, 1) := by decide +kernel
theorem d_Co_suit_132 : decode prog_1_method_7_code 132 = .ok (.ireturn, 1) := by decide +kernel
theorem d_Co_suit_133 : decode prog_1_method_7_code 133 = .ok (.aload_n 0, 1) := by decide +kernel
theorem d_Co_suit_134 : decode prog_1_method_7_code 134 = .ok (.getfield 28, 3) := by decide +kernel
theorem d_Co_suit_137 : decode prog_1_method_7_code 137 = .ok (.iload_n 1, 1) := by decide +kernel
theorem d_Co_suit_138 : decode prog_1_method_7_code 138 = .ok (.invokevirtual 136, 3) := by decide +kernel
theorem d_Co_suit_141 : decode prog_1_method_7_code 141 = .ok (.ireturn, 1) := by decide +kernel
theorem d_Co_suit_142 : decode prog_1_method_7_code 142 = .ok (.aload_n 0, 1) := by decide +kernel
theorem d_Co_suit_143 : decode prog_1_method_7_code 143 = .ok (.getfield 28, 3) := by decide +kernel
theorem d_Co_suit_146 : decode prog_1_method_7_code 146 = .ok (.iload_n 1, 1) := by decide +kernel
theorem d_Co_suit_147 : decode prog_1_method_7_code 147 = .ok (.invokevirtual 139, 3) := by decide +kernel
theorem d_Co_suit_150 : decode prog_1_method_7_code 150 = .ok (.ireturn, 1) := by decide +kernel
theorem d_Co_suit_151 : decode prog_1_method_7_code 151 = .ok (.aload_n 0, 1) := by decide +kernel
theorem d_Co_suit_152 : decode prog_1_method_7_code 152 = .ok (.getfield 40, 3) := by decide +kernel
theorem d_Co_suit_155 : decode prog_1_method_7_code 155 = .ok (.iload_n 1, 1) := by decide +kernel
theorem d_Co_suit_156 : decode prog_1_method_7_code 156 = .ok (.invokevirtual 142, 3) := by decide +kernel
theorem d_Co_suit_159 : decode prog_1_method_7_code 159 = .ok (.ireturn, 1) := by decide +kernel
theorem d_Co_suit_160 : decode prog_1_method_7_code 160 = .ok (.aload_n 0, 1) := by decide +kernel
theorem d_Co_suit_161 : decode prog_1_method_7_code 161 = .ok (.getfield 40, 3) := by decide +kernel
theorem d_Co_suit_164 : decode prog_1_method_7_code 164 = .ok (.iload_n 1, 1) := by decide +kernel
theorem d_Co_suit_165 : decode prog_1_method_7_code 165 = .ok (.invokevirtual 145, 3) := by decide +kernel
theorem d_Co_suit_168 : decode prog_1_method_7_code 168 = .ok (.ireturn, 1) := by decide +kernel
theorem d_Co_suit_169 : decode prog_1_method_7_code 169 = .ok (.bipush (-102), 2) := by decide +kernel
theorem d_Co_suit_171 : decode prog_1_method_7_code 171 = .ok (.ireturn, 1) := by decide +kernel
theorem d_Sh_berries_0 : decode prog_10_method_14_code 0 = .ok (.aload_n 0, 1) := by decide +kernel
theorem d_Sh_berries_1 : decode prog_10_method_14_code 1 = .ok (.getfield 14, 3) := by decide +kernel
theorem d_Sh_berries_4 : decode prog_10_method_14_code 4 = .ok (.iload_n 1, 1) := by decide +kernel
theorem d_Sh_berries_5 : decode prog_10_method_14_code 5 = .ok (.invokevirtual 71, 3) := by decide +kernel
theorem d_Sh_berries_8 : decode prog_10_method_14_code 8 = .ok (.ireturn, 1) := by decide +kernel
theorem d_Sh_possibleAt_0 : decode prog_10_method_31_code 0 = .ok (.iconst 0, 1) := by decide +kernel
theorem d_Sh_possibleAt_1 : decode prog_10_method_31_code 1 = .ok (.istore_n 2, 1) := by decide +kernel
theorem d_Sh_possibleAt_2 : decode prog_10_method_31_code 2 = .ok (.iconst 0, 1) := by decide +kernel
theorem d_Sh_possibleAt_3 : decode prog_10_method_31_code 3 = .ok (.istore_n 3, 1) := by decide +kernel
theorem d_Sh_possibleAt_4 : decode prog_10_method_31_code 4 = .ok (.iload_n 3, 1) := by decide +kernel
theorem d_Sh_possibleAt_5 : decode prog_10_method_31_code 5 = .ok (.aload_n 0, 1) := by decide +kernel
theorem d_Sh_possibleAt_6 : decode prog_10_method_31_code 6 = .ok (.getfield 52, 3) := by decide +kernel
theorem d_Sh_possibleAt_9 : decode prog_10_method_31_code 9 = .ok (.if_icmp .ge 29, 3) := by decide +kernel
theorem d_Sh_possibleAt_12 : decode prog_10_method_31_code 12 = .ok (.iload_n 2, 1) := by decide +kernel
theorem d_Sh_possibleAt_13 : decode prog_10_method_31_code 13 = .ok (.aload_n 0, 1) := by decide +kernel
theorem d_Sh_possibleAt_14 : decode prog_10_method_31_code 14 = .ok (.iload_n 3, 1) := by decide +kernel
theorem d_Sh_possibleAt_15 : decode prog_10_method_31_code 15 = .ok (.iload_n 1, 1) := by decide +kernel
theorem d_Sh_possibleAt_16 : decode prog_10_method_31_code 16 = .ok (.invokevirtual 115, 3) := by decide +kernel
theorem d_Sh_possibleAt_19 : decode prog_10_method_31_code 19 = .ok (.ifCond .eq 10, 3) := by decide +kernel
theorem d_Sh_possibleAt_22 : decode prog_10_method_31_code 22 = .ok (.iload_n 3, 1) := by decide +kernel
theorem d_Sh_possibleAt_23 : decode prog_10_method_31_code 23 = .ok (.invokestatic 75, 3) := by decide +kernel
theorem d_Sh_possibleAt_26 : decode prog_10_method_31_code 26 = .ok (.goto 4, 3) := by decide +kernel
theorem d_Sh_possibleAt_29 : decode prog_10_method_31_code 29 = .ok (.iconst 0, 1) := by decide +kernel
theorem d_Sh_possibleAt_30 : decode prog_10_method_31_code 30 = .ok (.ior, 1) := by decide +kernel
theorem d_Sh_possibleAt_31 : decode prog_10_method_31_code 31 = .ok (.istore_n 2, 1) := by decide +kernel
theorem d_Sh_possibleAt_32 : decode prog_10_method_31_code 32 = .ok (.iinc 3 1, 3) := by decide +kernel
theorem d_Sh_possibleAt_35 : decode prog_10_method_31_code 35 = .ok (.goto (-31), 3) := by decide +kernel
theorem d_Sh_possibleAt_38 : decode prog_10_method_31_code 38 = .ok (.iload_n 2, 1) := by decide +kernel
theorem d_Sh_possibleAt_39 : decode prog_10_method_31_code 39 = .ok (.ireturn, 1) := by decide +kernel
theorem d_Co_tree_0 : decode prog_1_method_6_code 0 = .ok (.aload_n 0, 1) := by decide +kernel
theorem d_Co_tree_1 : decode prog_1_method_6_code 1 = .ok (.getfield 28, 3) := by decide +kernel
theorem d_Co_tree_4 : decode prog_1_method_6_code 4 = .ok (.iload_n 1, 1) := by decide +kernel
theorem d_Co_tree_5 : decode prog_1_method_6_code 5 = .ok (.invokevirtual 97, 3) := by decide +kernel
theorem d_Co_tree_8 : decode prog_1_method_6_code 8 = .ok (.ifCond .ne 6, 3) := by decide +kernel
theorem d_Co_tree_11 : decode prog_1_method_6_code 11 = .ok (.bipush (-101), 2) := by decide +kernel
theorem d_Co_tree_13 : decode prog_1_method_6_code 13 = .ok (.ireturn, 1) := by decide +kernel
theorem d_Co_tree_14 : decode prog_1_method_6_code 14 = .ok (.iload_n 2, 1) := by decide +kernel
theorem d_Co_tree_15 : decode prog_1_method_6_code 15 = .ok (.tableswitch 52 0 2 #[25, 34, 43], 25) := by decide +kernel
theorem d_Co_tree_40 : decode prog_1_method_6_code 40 = .ok (.aload_n 0, 1) := by decide +kernel
theorem d_Co_tree_41 : decode prog_1_method_6_code 41 = .ok (.getfield 28, 3) := by decide +kernel
theorem d_Co_tree_44 : decode prog_1_method_6_code 44 = .ok (.iload_n 1, 1) := by decide +kernel
theorem d_Co_tree_45 : decode prog_1_method_6_code 45 = .ok (.invokevirtual 101, 3) := by decide +kernel
theorem d_Co_tree_48 : decode prog_1_method_6_code 48 = .ok (.ireturn, 1) := by decide +kernel
theorem d_Co_tree_49 : decode prog_1_method_6_code 49 = .ok (.aload_n 0, 1) := by decide +kernel
theorem d_Co_tree_50 : decode prog_1_method_6_code 50 = .ok (.getfield 28, 3) := by decide +kernel
theorem d_Co_tree_53 : decode prog_1_method_6_code 53 = .ok (.iload_n 1, 1) := by decide +kernel
theorem d_Co_tree_54 : decode prog_1_method_6_code 54 = .ok (.invokevirtual 105, 3) := by decide +kernel
theorem d_Co_tree_57 : decode prog_1_method_6_code 57 = .ok (.ireturn, 1) := by decide +kernel
theorem d_Co_tree_58 : decode prog_1_method_6_code 58 = .ok (.aload_n 0, 1) := by decide +kernel
theorem d_Co_tree_59 : decode prog_1_method_6_code 59 = .ok (.getfield 28, 3) := by decide +kernel
theorem d_Co_tree_62 : decode prog_1_method_6_code 62 = .ok (.iload_n 1, 1) := by decide +kernel
theorem d_Co_tree_63 : decode prog_1_method_6_code 63 = .ok (.invokevirtual 108, 3) := by decide +kernel
theorem d_Co_tree_66 : decode prog_1_method_6_code 66 = .ok (.ireturn, 1) := by decide +kernel
theorem d_Co_tree_67 : decode prog_1_method_6_code 67 = .ok (.bipush (-102), 2) := by decide +kernel
theorem d_Co_tree_69 : decode prog_1_method_6_code 69 = .ok (.ireturn, 1) := by decide +kernel
theorem d_Sh_unright_0 : decode prog_10_method_34_code 0 = .ok (.aload_n 0, 1) := by decide +kernel
theorem d_Sh_unright_1 : decode prog_10_method_34_code 1 = .ok (.dup, 1) := by decide +kernel
theorem d_Sh_unright_2 : decode prog_10_method_34_code 2 = .ok (.getfield 55, 3) := by decide +kernel
theorem d_Sh_unright_5 : decode prog_10_method_34_code 5 = .ok (.iload_n 1, 1) := by decide +kernel
theorem d_Sh_unright_6 : decode prog_10_method_34_code 6 = .ok (.invokestatic 75, 3) := by decide +kernel
theorem d_Sh_unright_9 : decode prog_10_method_34_code 9 = .ok (.iconst (-1), 1) := by decide +kernel
theorem d_Sh_unright_10 : decode prog_10_method_34_code 10 = .ok (.ixor, 1) := by decide +kernel
theorem d_Sh_unright_11 : decode prog_10_method_34_code 11 = .ok (.iand, 1) := by decide +kernel
theorem d_Sh_unright_12 : decode prog_10_method_34_code 12 = .ok (.putfield 55, 3) := by decide +kernel
theorem d_Sh_unright_15 : decode prog_10_method_34_code 15 = .ok (.return_, 1) := by decide +kernel
theorem d_Co_walk_0 : decode prog_1_method_13_code 0 = .ok (.aload_n 0, 1) := by decide +kernel
theorem d_Co_walk_1 : decode prog_1_method_13_code 1 = .ok (.getfield 28, 3) := by decide +kernel
theorem d_Co_walk_4 : decode prog_1_method_13_code 4 = .ok (.iload_n 1, 1) := by decide +kernel
theorem d_Co_walk_5 : decode prog_1_method_13_code 5 = .ok (.invokevirtual 111, 3) := by decide +kernel
theorem d_Co_walk_8 : decode prog_1_method_13_code 8 = .ok (.ifCond .ne 6, 3) := by decide +kernel
theorem d_Co_walk_11 : decode prog_1_method_13_code 11 = .ok (.bipush (-101), 2) := by decide +kernel
theorem d_Co_walk_13 : decode prog_1_method_13_code 13 = .ok (.ireturn, 1) := by decide +kernel
theorem d_Co_walk_14 : decode prog_1_method_13_code 14 = .ok (.aload_n 0, 1) := by decide +kernel
theorem d_Co_walk_15 : decode prog_1_method_13_code 15 = .ok (.getfield 28, 3) := by decide +kernel
theorem d_Co_walk_18 : decode prog_1_method_13_code 18 = .ok (.invokevirtual 129, 3) := by decide +kernel
theorem d_Co_walk_21 : decode prog_1_method_13_code 21 = .ok (.iload_n 1, 1) := by decide +kernel
theorem d_Co_walk_22 : decode prog_1_method_13_code 22 = .ok (.invokestatic 132, 3) := by decide +kernel
theorem d_Co_walk_25 : decode prog_1_method_13_code 25 = .ok (.ifCond .ne 6, 3) := by decide +kernel
theorem d_Co_walk_28 : decode prog_1_method_13_code 28 = .ok (.bipush (-103), 2) := by decide +kernel
theorem d_Co_walk_30 : decode prog_1_method_13_code 30 = .ok (.ireturn, 1) := by decide +kernel
theorem d_Co_walk_31 : decode prog_1_method_13_code 31 = .ok (.aload_n 0, 1) := by decide +kernel
theorem d_Co_walk_32 : decode prog_1_method_13_code 32 = .ok (.getfield 28, 3) := by decide +kernel
theorem d_Co_walk_35 : decode prog_1_method_13_code 35 = .ok (.iload_n 1, 1) := by decide +kernel
theorem d_Co_walk_36 : decode prog_1_method_13_code 36 = .ok (.invokevirtual 177, 3) := by decide +kernel
theorem d_Co_walk_39 : decode prog_1_method_13_code 39 = .ok (.aload_n 0, 1) := by decide +kernel
theorem d_Co_walk_40 : decode prog_1_method_13_code 40 = .ok (.getfield 28, 3) := by decide +kernel
theorem d_Co_walk_43 : decode prog_1_method_13_code 43 = .ok (.invokevirtual 180, 3) := by decide +kernel
theorem d_Co_walk_46 : decode prog_1_method_13_code 46 = .ok (.ireturn, 1) := by decide +kernel
theorem d_Co_year_0 : decode prog_1_method_10_code 0 = .ok (.aload_n 0, 1) := by decide +kernel
theorem d_Co_year_1 : decode prog_1_method_10_code 1 = .ok (.invokevirtual 161, 3) := by decide +kernel
theorem d_Co_year_4 : decode prog_1_method_10_code 4 = .ok (.ifCond .ne 6, 3) := by decide +kernel
theorem d_Co_year_7 : decode prog_1_method_10_code 7 = .ok (.bipush (-103), 2) := by decide +kernel
theorem d_Co_year_9 : decode prog_1_method_10_code 9 = .ok (.ireturn, 1) := by decide +kernel
theorem d_Co_year_10 : decode prog_1_method_10_code 10 = .ok (.aload_n 0, 1) := by decide +kernel
theorem d_Co_year_11 : decode prog_1_method_10_code 11 = .ok (.getfield 28, 3) := by decide +kernel
theorem d_Co_year_14 : decode prog_1_method_10_code 14 = .ok (.invokevirtual 164, 3) := by decide +kernel
theorem d_Co_year_17 : decode prog_1_method_10_code 17 = .ok (.sipush 999, 3) := by decide +kernel
theorem d_Co_year_20 : decode prog_1_method_10_code 20 = .ok (.if_icmp .lt 6, 3) := by decide +kernel
theorem d_Co_year_23 : decode prog_1_method_10_code 23 = .ok (.bipush (-104), 2) := by decide +kernel
theorem d_Co_year_25 : decode prog_1_method_10_code 25 = .ok (.ireturn, 1) := by decide +kernel
theorem d_Co_year_26 : decode prog_1_method_10_code 26 = .ok (.aload_n 0, 1) := by decide +kernel
theorem d_Co_year_27 : decode prog_1_method_10_code 27 = .ok (.getfield 28, 3) := by decide +kernel
theorem d_Co_year_30 : decode prog_1_method_10_code 30 = .ok (.invokevirtual 167, 3) := by decide +kernel
theorem d_Co_year_33 : decode prog_1_method_10_code 33 = .ok (.aload_n 0, 1) := by decide +kernel
theorem d_Co_year_34 : decode prog_1_method_10_code 34 = .ok (.getfield 28, 3) := by decide +kernel
theorem d_Co_year_37 : decode prog_1_method_10_code 37 = .ok (.invokevirtual 164, 3) := by decide +kernel
theorem d_Co_year_40 : decode prog_1_method_10_code 40 = .ok (.ireturn, 1) := by decide +kernel
