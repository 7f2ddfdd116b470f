theorem d_Co_letter_0 : decode prog_1_method_2_code 0 = .ok (.iload_n 1, 1) := by decide +kernel
theorem d_Co_letter_1 : decode prog_1_method_2_code 1 = .ok (.bipush 32, 2) := by decide +kernel
theorem d_Co_letter_3 : decode prog_1_method_2_code 3 = .ok (.if_icmp .lt 9, 3) := by decide +kernel
theorem d_Co_letter_6 : decode prog_1_method_2_code 6 = .ok (.iload_n 1, 1) := by decide +kernel
theorem d_Co_letter_7 : decode prog_1_method_2_code 7 = .ok (.bipush 126, 2) := by decide +kernel
theorem d_Co_letter_9 : decode prog_1_method_2_code 9 = .ok (.if_icmp .le 6, 3) := by decide +kernel
theorem d_Co_letter_12 : decode prog_1_method_2_code 12 = .ok (.bipush (-102), 2) := by decide +kernel
theorem d_Co_letter_14 : decode prog_1_method_2_code 14 = .ok (.ireturn, 1) := by decide +kernel
theorem d_Co_letter_15 : decode prog_1_method_2_code 15 = .ok (.aload_n 0, 1) := by decide +kernel
theorem d_Co_letter_16 : decode prog_1_method_2_code 16 = .ok (.getfield 10, 3) := by decide +kernel
theorem d_Co_letter_19 : decode prog_1_method_2_code 19 = .ok (.invokevirtual 65, 3) := by decide +kernel
theorem d_Co_letter_22 : decode prog_1_method_2_code 22 = .ok (.bipush 46, 2) := by decide +kernel
theorem d_Co_letter_24 : decode prog_1_method_2_code 24 = .ok (.if_icmp .lt 6, 3) := by decide +kernel
theorem d_Co_letter_27 : decode prog_1_method_2_code 27 = .ok (.bipush (-104), 2) := by decide +kernel
theorem d_Co_letter_29 : decode prog_1_method_2_code 29 = .ok (.ireturn, 1) := by decide +kernel
theorem d_Co_letter_30 : decode prog_1_method_2_code 30 = .ok (.aload_n 0, 1) := by decide +kernel
theorem d_Co_letter_31 : decode prog_1_method_2_code 31 = .ok (.getfield 10, 3) := by decide +kernel
theorem d_Co_letter_34 : decode prog_1_method_2_code 34 = .ok (.iload_n 1, 1) := by decide +kernel
theorem d_Co_letter_35 : decode prog_1_method_2_code 35 = .ok (.invokevirtual 69, 3) := by decide +kernel
theorem d_Co_letter_38 : decode prog_1_method_2_code 38 = .ok (.aload_n 0, 1) := by decide +kernel
theorem d_Co_letter_39 : decode prog_1_method_2_code 39 = .ok (.getfield 10, 3) := by decide +kernel
theorem d_Co_letter_42 : decode prog_1_method_2_code 42 = .ok (.invokevirtual 65, 3) := by decide +kernel
theorem d_Co_letter_45 : decode prog_1_method_2_code 45 = .ok (.ireturn, 1) := by decide +kernel
theorem d_Pl_canBeBetter_0 : decode prog_7_method_8_code 0 = .ok (.aload_n 0, 1) := by decide +kernel
theorem d_Pl_canBeBetter_1 : decode prog_7_method_8_code 1 = .ok (.getfield 26, 3) := by decide +kernel
theorem d_Pl_canBeBetter_4 : decode prog_7_method_8_code 4 = .ok (.iload_n 2, 1) := by decide +kernel
theorem d_Pl_canBeBetter_5 : decode prog_7_method_8_code 5 = .ok (.iload_n 1, 1) := by decide +kernel
theorem d_Pl_canBeBetter_6 : decode prog_7_method_8_code 6 = .ok (.invokestatic 93, 3) := by decide +kernel
theorem d_Pl_canBeBetter_9 : decode prog_7_method_8_code 9 = .ok (.ineg, 1) := by decide +kernel
theorem d_Pl_canBeBetter_10 : decode prog_7_method_8_code 10 = .ok (.ior, 1) := by decide +kernel
theorem d_Pl_canBeBetter_11 : decode prog_7_method_8_code 11 = .ok (.invokevirtual 72, 3) := by decide +kernel
theorem d_Pl_canBeBetter_14 : decode prog_7_method_8_code 14 = .ok (.istore 4, 2) := by decide +kernel
theorem d_Pl_canBeBetter_16 : decode prog_7_method_8_code 16 = .ok (.iload 4, 2) := by decide +kernel
theorem d_Pl_canBeBetter_18 : decode prog_7_method_8_code 18 = .ok (.aload_n 0, 1) := by decide +kernel
theorem d_Pl_canBeBetter_19 : decode prog_7_method_8_code 19 = .ok (.getfield 30, 3) := by decide +kernel
theorem d_Pl_canBeBetter_22 : decode prog_7_method_8_code 22 = .ok (.if_icmp .gt 20, 3) := by decide +kernel
theorem d_Pl_canBeBetter_25 : decode prog_7_method_8_code 25 = .ok (.iload 4, 2) := by decide +kernel
theorem d_Pl_canBeBetter_27 : decode prog_7_method_8_code 27 = .ok (.aload_n 0, 1) := by decide +kernel
theorem d_Pl_canBeBetter_28 : decode prog_7_method_8_code 28 = .ok (.getfield 30, 3) := by decide +kernel
theorem d_Pl_canBeBetter_31 : decode prog_7_method_8_code 31 = .ok (.if_icmp .ne 15, 3) := by decide +kernel
theorem d_Pl_canBeBetter_34 : decode prog_7_method_8_code 34 = .ok (.iload_n 3, 1) := by decide +kernel
theorem d_Pl_canBeBetter_35 : decode prog_7_method_8_code 35 = .ok (.aload_n 0, 1) := by decide +kernel
theorem d_Pl_canBeBetter_36 : decode prog_7_method_8_code 36 = .ok (.getfield 34, 3) := by decide +kernel
theorem d_Pl_canBeBetter_39 : decode prog_7_method_8_code 39 = .ok (.if_icmp .ge 7, 3) := by decide +kernel
theorem d_Pl_canBeBetter_42 : decode prog_7_method_8_code 42 = .ok (.iconst 1, 1) := by decide +kernel
theorem d_Pl_canBeBetter_43 : decode prog_7_method_8_code 43 = .ok (.goto 4, 3) := by decide +kernel
theorem d_Pl_canBeBetter_46 : decode prog_7_method_8_code 46 = .ok (.iconst 0, 1) := by decide +kernel
theorem d_Pl_canBeBetter_47 : decode prog_7_method_8_code 47 = .ok (.ireturn, 1) := by decide +kernel
theorem d_Pl_placeAtEachTree_0 : decode prog_7_method_7_code 0 = .ok (.aload_n 0, 1) := by decide +kernel
theorem d_Pl_placeAtEachTree_1 : decode prog_7_method_7_code 1 = .ok (.getfield 26, 3) := by decide +kernel
theorem d_Pl_placeAtEachTree_4 : decode prog_7_method_7_code 4 = .ok (.iload_n 1, 1) := by decide +kernel
theorem d_Pl_placeAtEachTree_5 : decode prog_7_method_7_code 5 = .ok (.invokevirtual 87, 3) := by decide +kernel
theorem d_Pl_placeAtEachTree_8 : decode prog_7_method_7_code 8 = .ok (.istore 4, 2) := by decide +kernel
theorem d_Pl_placeAtEachTree_10 : decode prog_7_method_7_code 10 = .ok (.iconst 0, 1) := by decide +kernel
theorem d_Pl_placeAtEachTree_11 : decode prog_7_method_7_code 11 = .ok (.istore 5, 2) := by decide +kernel
theorem d_Pl_placeAtEachTree_13 : decode prog_7_method_7_code 13 = .ok (.iload 5, 2) := by decide +kernel
theorem d_Pl_placeAtEachTree_15 : decode prog_7_method_7_code 15 = .ok (.aload_n 0, 1) := by decide +kernel
theorem d_Pl_placeAtEachTree_16 : decode prog_7_method_7_code 16 = .ok (.getfield 26, 3) := by decide +kernel
theorem d_Pl_placeAtEachTree_19 : decode prog_7_method_7_code 19 = .ok (.invokevirtual 47, 3) := by decide +kernel
theorem d_Pl_placeAtEachTree_22 : decode prog_7_method_7_code 22 = .ok (.if_icmp .ge 71, 3) := by decide +kernel
theorem d_Pl_placeAtEachTree_25 : decode prog_7_method_7_code 25 = .ok (.aload_n 0, 1) := by decide +kernel
theorem d_Pl_placeAtEachTree_26 : decode prog_7_method_7_code 26 = .ok (.getfield 14, 3) := by decide +kernel
theorem d_Pl_placeAtEachTree_29 : decode prog_7_method_7_code 29 = .ok (.iload 5, 2) := by decide +kernel
theorem d_Pl_placeAtEachTree_31 : decode prog_7_method_7_code 31 = .ok (.invokevirtual 43, 3) := by decide +kernel
theorem d_Pl_placeAtEachTree_34 : decode prog_7_method_7_code 34 = .ok (.istore 6, 2) := by decide +kernel
theorem d_Pl_placeAtEachTree_36 : decode prog_7_method_7_code 36 = .ok (.iload 6, 2) := by decide +kernel
theorem d_Pl_placeAtEachTree_38 : decode prog_7_method_7_code 38 = .ok (.iload 4, 2) := by decide +kernel
theorem d_Pl_placeAtEachTree_40 : decode prog_7_method_7_code 40 = .ok (.if_icmp .lt 47, 3) := by decide +kernel
theorem d_Pl_placeAtEachTree_43 : decode prog_7_method_7_code 43 = .ok (.aload_n 0, 1) := by decide +kernel
theorem d_Pl_placeAtEachTree_44 : decode prog_7_method_7_code 44 = .ok (.getfield 14, 3) := by decide +kernel
theorem d_Pl_placeAtEachTree_47 : decode prog_7_method_7_code 47 = .ok (.iload 5, 2) := by decide +kernel
theorem d_Pl_placeAtEachTree_49 : decode prog_7_method_7_code 49 = .ok (.iload 6, 2) := by decide +kernel
theorem d_Pl_placeAtEachTree_51 : decode prog_7_method_7_code 51 = .ok (.iload 4, 2) := by decide +kernel
theorem d_Pl_placeAtEachTree_53 : decode prog_7_method_7_code 53 = .ok (.isub, 1) := by decide +kernel
theorem d_Pl_placeAtEachTree_54 : decode prog_7_method_7_code 54 = .ok (.invokevirtual 54, 3) := by decide +kernel
theorem d_Pl_placeAtEachTree_57 : decode prog_7_method_7_code 57 = .ok (.aload_n 0, 1) := by decide +kernel
theorem d_Pl_placeAtEachTree_58 : decode prog_7_method_7_code 58 = .ok (.getfield 20, 3) := by decide +kernel
theorem d_Pl_placeAtEachTree_61 : decode prog_7_method_7_code 61 = .ok (.iload_n 1, 1) := by decide +kernel
theorem d_Pl_placeAtEachTree_62 : decode prog_7_method_7_code 62 = .ok (.iload 5, 2) := by decide +kernel
theorem d_Pl_placeAtEachTree_64 : decode prog_7_method_7_code 64 = .ok (.invokevirtual 54, 3) := by decide +kernel
theorem d_Pl_placeAtEachTree_67 : decode prog_7_method_7_code 67 = .ok (.aload_n 0, 1) := by decide +kernel
theorem d_Pl_placeAtEachTree_68 : decode prog_7_method_7_code 68 = .ok (.iload_n 1, 1) := by decide +kernel
theorem d_Pl_placeAtEachTree_69 : decode prog_7_method_7_code 69 = .ok (.iconst 1, 1) := by decide +kernel
theorem d_Pl_placeAtEachTree_70 : decode prog_7_method_7_code 70 = .ok (.iadd, 1) := by decide +kernel
theorem d_Pl_placeAtEachTree_71 : decode prog_7_method_7_code 71 = .ok (.iload_n 2, 1) := by decide +kernel
theorem d_Pl_placeAtEachTree_72 : decode prog_7_method_7_code 72 = .ok (.iload_n 3, 1) := by decide +kernel
theorem d_Pl_placeAtEachTree_73 : decode prog_7_method_7_code 73 = .ok (.invokevirtual 61, 3) := by decide +kernel
theorem d_Pl_placeAtEachTree_76 : decode prog_7_method_7_code 76 = .ok (.aload_n 0, 1) := by decide +kernel
theorem d_Pl_placeAtEachTree_77 : decode prog_7_method_7_code 77 = .ok (.getfield 14, 3) := by decide +kernel
theorem d_Pl_placeAtEachTree_80 : decode prog_7_method_7_code 80 = .ok (.iload 5, 2) := by decide +kernel
theorem d_Pl_placeAtEachTree_82 : decode prog_7_method_7_code 82 = .ok (.iload 6, 2) := by decide +kernel
theorem d_Pl_placeAtEachTree_84 : decode prog_7_method_7_code 84 = .ok (.invokevirtual 54, 3) := by decide +kernel
theorem d_Pl_placeAtEachTree_87 : decode prog_7_method_7_code 87 = .ok (.iinc 5 1, 3) := by decide +kernel
theorem d_Pl_placeAtEachTree_90 : decode prog_7_method_7_code 90 = .ok (.goto (-77), 3) := by decide +kernel
theorem d_Pl_placeAtEachTree_93 : decode prog_7_method_7_code 93 = .ok (.return_, 1) := by decide +kernel
theorem d_Pl_placeFrom_0 : decode prog_7_method_6_code 0 = .ok (.aload_n 0, 1) := by decide +kernel
theorem d_Pl_placeFrom_1 : decode prog_7_method_6_code 1 = .ok (.iload_n 1, 1) := by decide +kernel
theorem d_Pl_placeFrom_2 : decode prog_7_method_6_code 2 = .ok (.iload_n 2, 1) := by decide +kernel
theorem d_Pl_placeFrom_3 : decode prog_7_method_6_code 3 = .ok (.iload_n 3, 1) := by decide +kernel
theorem d_Pl_placeFrom_4 : decode prog_7_method_6_code 4 = .ok (.invokevirtual 65, 3) := by decide +kernel
theorem d_Pl_placeFrom_7 : decode prog_7_method_6_code 7 = .ok (.ifCond .ne 4, 3) := by decide +kernel
theorem d_Pl_placeFrom_10 : decode prog_7_method_6_code 10 = .ok (.return_, 1) := by decide +kernel
theorem d_Pl_placeFrom_11 : decode prog_7_method_6_code 11 = .ok (.iload_n 1, 1) := by decide +kernel
theorem d_Pl_placeFrom_12 : decode prog_7_method_6_code 12 = .ok (.aload_n 0, 1) := by decide +kernel
theorem d_Pl_placeFrom_13 : decode prog_7_method_6_code 13 = .ok (.getfield 26, 3) := by decide +kernel
theorem d_Pl_placeFrom_16 : decode prog_7_method_6_code 16 = .ok (.invokevirtual 69, 3) := by decide +kernel
theorem d_Pl_placeFrom_19 : decode prog_7_method_6_code 19 = .ok (.if_icmp .lt 32, 3) := by decide +kernel
theorem d_Pl_placeFrom_22 : decode prog_7_method_6_code 22 = .ok (.aload_n 0, 1) := by decide +kernel
theorem d_Pl_placeFrom_23 : decode prog_7_method_6_code 23 = .ok (.aload_n 0, 1) := by decide +kernel
theorem d_Pl_placeFrom_24 : decode prog_7_method_6_code 24 = .ok (.getfield 26, 3) := by decide +kernel
theorem d_Pl_placeFrom_27 : decode prog_7_method_6_code 27 = .ok (.iload_n 2, 1) := by decide +kernel
theorem d_Pl_placeFrom_28 : decode prog_7_method_6_code 28 = .ok (.invokevirtual 72, 3) := by decide +kernel
theorem d_Pl_placeFrom_31 : decode prog_7_method_6_code 31 = .ok (.putfield 30, 3) := by decide +kernel
theorem d_Pl_placeFrom_34 : decode prog_7_method_6_code 34 = .ok (.aload_n 0, 1) := by decide +kernel
theorem d_Pl_placeFrom_35 : decode prog_7_method_6_code 35 = .ok (.iload_n 3, 1) := by decide +kernel
theorem d_Pl_placeFrom_36 : decode prog_7_method_6_code 36 = .ok (.putfield 34, 3) := by decide +kernel
theorem d_Pl_placeFrom_39 : decode prog_7_method_6_code 39 = .ok (.aload_n 0, 1) := by decide +kernel
theorem d_Pl_placeFrom_40 : decode prog_7_method_6_code 40 = .ok (.getfield 23, 3) := by decide +kernel
theorem d_Pl_placeFrom_43 : decode prog_7_method_6_code 43 = .ok (.aload_n 0, 1) := by decide +kernel
theorem d_Pl_placeFrom_44 : decode prog_7_method_6_code 44 = .ok (.getfield 20, 3) := by decide +kernel
theorem d_Pl_placeFrom_47 : decode prog_7_method_6_code 47 = .ok (.invokevirtual 75, 3) := by decide +kernel
theorem d_Pl_placeFrom_50 : decode prog_7_method_6_code 50 = .ok (.return_, 1) := by decide +kernel
theorem d_Pl_placeFrom_51 : decode prog_7_method_6_code 51 = .ok (.aload_n 0, 1) := by decide +kernel
theorem d_Pl_placeFrom_52 : decode prog_7_method_6_code 52 = .ok (.getfield 20, 3) := by decide +kernel
theorem d_Pl_placeFrom_55 : decode prog_7_method_6_code 55 = .ok (.iload_n 1, 1) := by decide +kernel
theorem d_Pl_placeFrom_56 : decode prog_7_method_6_code 56 = .ok (.iconst (-1), 1) := by decide +kernel
theorem d_Pl_placeFrom_57 : decode prog_7_method_6_code 57 = .ok (.invokevirtual 54, 3) := by decide +kernel
theorem d_Pl_placeFrom_60 : decode prog_7_method_6_code 60 = .ok (.aload_n 0, 1) := by decide +kernel
theorem d_Pl_placeFrom_61 : decode prog_7_method_6_code 61 = .ok (.iload_n 1, 1) := by decide +kernel
theorem d_Pl_placeFrom_62 : decode prog_7_method_6_code 62 = .ok (.iconst 1, 1) := by decide +kernel
theorem d_Pl_placeFrom_63 : decode prog_7_method_6_code 63 = .ok (.iadd, 1) := by decide +kernel
theorem d_Pl_placeFrom_64 : decode prog_7_method_6_code 64 = .ok (.iload_n 2, 1) := by decide +kernel
theorem d_Pl_placeFrom_65 : decode prog_7_method_6_code 65 = .ok (.iload_n 3, 1) := by decide +kernel
theorem d_Pl_placeFrom_66 : decode prog_7_method_6_code 66 = .ok (.invokevirtual 61, 3) := by decide +kernel
theorem d_Pl_placeFrom_69 : decode prog_7_method_6_code 69 = .ok (.aload_n 0, 1) := by decide +kernel
theorem d_Pl_placeFrom_70 : decode prog_7_method_6_code 70 = .ok (.getfield 26, 3) := by decide +kernel
theorem d_Pl_placeFrom_73 : decode prog_7_method_6_code 73 = .ok (.iload_n 1, 1) := by decide +kernel
theorem d_Pl_placeFrom_74 : decode prog_7_method_6_code 74 = .ok (.iload_n 2, 1) := by decide +kernel
theorem d_Pl_placeFrom_75 : decode prog_7_method_6_code 75 = .ok (.invokevirtual 79, 3) := by decide +kernel
theorem d_Pl_placeFrom_78 : decode prog_7_method_6_code 78 = .ok (.ifCond .eq 27, 3) := by decide +kernel
theorem d_Pl_placeFrom_81 : decode prog_7_method_6_code 81 = .ok (.aload_n 0, 1) := by decide +kernel
theorem d_Pl_placeFrom_82 : decode prog_7_method_6_code 82 = .ok (.iload_n 1, 1) := by decide +kernel
theorem d_Pl_placeFrom_83 : decode prog_7_method_6_code 83 = .ok (.aload_n 0, 1) := by decide +kernel
theorem d_Pl_placeFrom_84 : decode prog_7_method_6_code 84 = .ok (.getfield 26, 3) := by decide +kernel
theorem d_Pl_placeFrom_87 : decode prog_7_method_6_code 87 = .ok (.iload_n 1, 1) := by decide +kernel
theorem d_Pl_placeFrom_88 : decode prog_7_method_6_code 88 = .ok (.iload_n 2, 1) := by decide +kernel
theorem d_Pl_placeFrom_89 : decode prog_7_method_6_code 89 = .ok (.invokevirtual 83, 3) := by decide +kernel
theorem d_Pl_placeFrom_92 : decode prog_7_method_6_code 92 = .ok (.iload_n 3, 1) := by decide +kernel
theorem d_Pl_placeFrom_93 : decode prog_7_method_6_code 93 = .ok (.aload_n 0, 1) := by decide +kernel
theorem d_Pl_placeFrom_94 : decode prog_7_method_6_code 94 = .ok (.getfield 26, 3) := by decide +kernel
theorem d_Pl_placeFrom_97 : decode prog_7_method_6_code 97 = .ok (.iload_n 1, 1) := by decide +kernel
theorem d_Pl_placeFrom_98 : decode prog_7_method_6_code 98 = .ok (.invokevirtual 87, 3) := by decide +kernel
theorem d_Pl_placeFrom_101 : decode prog_7_method_6_code 101 = .ok (.iadd, 1) := by decide +kernel
theorem d_Pl_placeFrom_102 : decode prog_7_method_6_code 102 = .ok (.invokevirtual 90, 3) := by decide +kernel
theorem d_Pl_placeFrom_105 : decode prog_7_method_6_code 105 = .ok (.return_, 1) := by decide +kernel
theorem d_Pl_seek_0 : decode prog_7_method_5_code 0 = .ok (.aload_n 0, 1) := by decide +kernel
theorem d_Pl_seek_1 : decode prog_7_method_5_code 1 = .ok (.iconst (-1), 1) := by decide +kernel
theorem d_Pl_seek_2 : decode prog_7_method_5_code 2 = .ok (.putfield 30, 3) := by decide +kernel
theorem d_Pl_seek_5 : decode prog_7_method_5_code 5 = .ok (.aload_n 0, 1) := by decide +kernel
theorem d_Pl_seek_6 : decode prog_7_method_5_code 6 = .ok (.iconst 0, 1) := by decide +kernel
theorem d_Pl_seek_7 : decode prog_7_method_5_code 7 = .ok (.putfield 34, 3) := by decide +kernel
theorem d_Pl_seek_10 : decode prog_7_method_5_code 10 = .ok (.iconst 0, 1) := by decide +kernel
theorem d_Pl_seek_11 : decode prog_7_method_5_code 11 = .ok (.istore_n 1, 1) := by decide +kernel
theorem d_Pl_seek_12 : decode prog_7_method_5_code 12 = .ok (.iload_n 1, 1) := by decide +kernel
theorem d_Pl_seek_13 : decode prog_7_method_5_code 13 = .ok (.aload_n 0, 1) := by decide +kernel
theorem d_Pl_seek_14 : decode prog_7_method_5_code 14 = .ok (.getfield 26, 3) := by decide +kernel
theorem d_Pl_seek_17 : decode prog_7_method_5_code 17 = .ok (.invokevirtual 47, 3) := by decide +kernel
theorem d_Pl_seek_20 : decode prog_7_method_5_code 20 = .ok (.if_icmp .ge 25, 3) := by decide +kernel
theorem d_Pl_seek_23 : decode prog_7_method_5_code 23 = .ok (.aload_n 0, 1) := by decide +kernel
theorem d_Pl_seek_24 : decode prog_7_method_5_code 24 = .ok (.getfield 14, 3) := by decide +kernel
theorem d_Pl_seek_27 : decode prog_7_method_5_code 27 = .ok (.iload_n 1, 1) := by decide +kernel
theorem d_Pl_seek_28 : decode prog_7_method_5_code 28 = .ok (.aload_n 0, 1) := by decide +kernel
theorem d_Pl_seek_29 : decode prog_7_method_5_code 29 = .ok (.getfield 26, 3) := by decide +kernel
theorem d_Pl_seek_32 : decode prog_7_method_5_code 32 = .ok (.iload_n 1, 1) := by decide +kernel
theorem d_Pl_seek_33 : decode prog_7_method_5_code 33 = .ok (.invokevirtual 51, 3) := by decide +kernel
theorem d_Pl_seek_36 : decode prog_7_method_5_code 36 = .ok (.invokevirtual 54, 3) := by decide +kernel
theorem d_Pl_seek_39 : decode prog_7_method_5_code 39 = .ok (.iinc 1 1, 3) := by decide +kernel
theorem d_Pl_seek_42 : decode prog_7_method_5_code 42 = .ok (.goto (-30), 3) := by decide +kernel
theorem d_Pl_seek_45 : decode prog_7_method_5_code 45 = .ok (.aload_n 0, 1) := by decide +kernel
theorem d_Pl_seek_46 : decode prog_7_method_5_code 46 = .ok (.iconst 0, 1) := by decide +kernel
theorem d_Pl_seek_47 : decode prog_7_method_5_code 47 = .ok (.aload_n 0, 1) := by decide +kernel
theorem d_Pl_seek_48 : decode prog_7_method_5_code 48 = .ok (.getfield 26, 3) := by decide +kernel
theorem d_Pl_seek_51 : decode prog_7_method_5_code 51 = .ok (.invokevirtual 58, 3) := by decide +kernel
theorem d_Pl_seek_54 : decode prog_7_method_5_code 54 = .ok (.iconst 0, 1) := by decide +kernel
theorem d_Pl_seek_55 : decode prog_7_method_5_code 55 = .ok (.invokevirtual 61, 3) := by decide +kernel
theorem d_Pl_seek_58 : decode prog_7_method_5_code 58 = .ok (.return_, 1) := by decide +kernel
theorem d_Pl_placeOf_0 : decode prog_7_method_4_code 0 = .ok (.aload_n 0, 1) := by decide +kernel
theorem d_Pl_placeOf_1 : decode prog_7_method_4_code 1 = .ok (.getfield 26, 3) := by decide +kernel
theorem d_Pl_placeOf_4 : decode prog_7_method_4_code 4 = .ok (.iload_n 1, 1) := by decide +kernel
theorem d_Pl_placeOf_5 : decode prog_7_method_4_code 5 = .ok (.invokevirtual 37, 3) := by decide +kernel
theorem d_Pl_placeOf_8 : decode prog_7_method_4_code 8 = .ok (.ifCond .eq 14, 3) := by decide +kernel
theorem d_Pl_placeOf_11 : decode prog_7_method_4_code 11 = .ok (.aload_n 0, 1) := by decide +kernel
theorem d_Pl_placeOf_12 : decode prog_7_method_4_code 12 = .ok (.getfield 23, 3) := by decide +kernel
theorem d_Pl_placeOf_15 : decode prog_7_method_4_code 15 = .ok (.iload_n 1, 1) := by decide +kernel
theorem d_Pl_placeOf_16 : decode prog_7_method_4_code 16 = .ok (.invokevirtual 43, 3) := by decide +kernel
theorem d_Pl_placeOf_19 : decode prog_7_method_4_code 19 = .ok (.goto 4, 3) := by decide +kernel
theorem d_Pl_placeOf_22 : decode prog_7_method_4_code 22 = .ok (.iconst (-1), 1) := by decide +kernel
theorem d_Pl_placeOf_23 : decode prog_7_method_4_code 23 = .ok (.ireturn, 1) := by decide +kernel
theorem d_Pl_holds_0 : decode prog_7_method_2_code 0 = .ok (.aload_n 0, 1) := by decide +kernel
theorem d_Pl_holds_1 : decode prog_7_method_2_code 1 = .ok (.getfield 30, 3) := by decide +kernel
theorem d_Pl_holds_4 : decode prog_7_method_2_code 4 = .ok (.ireturn, 1) := by decide +kernel
theorem d_Pl_spent_0 : decode prog_7_method_3_code 0 = .ok (.aload_n 0, 1) := by decide +kernel
theorem d_Pl_spent_1 : decode prog_7_method_3_code 1 = .ok (.getfield 34, 3) := by decide +kernel
theorem d_Pl_spent_4 : decode prog_7_method_3_code 4 = .ok (.ireturn, 1) := by decide +kernel
theorem d_Co_plan_0 : decode prog_1_method_14_code 0 = .ok (.iload_n 1, 1) := by decide +kernel
theorem d_Co_plan_1 : decode prog_1_method_14_code 1 = .ok (.bipush 10, 2) := by decide +kernel
theorem d_Co_plan_3 : decode prog_1_method_14_code 3 = .ok (.if_icmp .lt 13, 3) := by decide +kernel
theorem d_Co_plan_6 : decode prog_1_method_14_code 6 = .ok (.iload_n 1, 1) := by decide +kernel
theorem d_Co_plan_7 : decode prog_1_method_14_code 7 = .ok (.bipush 17, 2) := by decide +kernel
theorem d_Co_plan_9 : decode prog_1_method_14_code 9 = .ok (.if_icmp .ge 7, 3) := by decide +kernel
theorem d_Co_plan_12 : decode prog_1_method_14_code 12 = .ok (.iconst 1, 1) := by decide +kernel
theorem d_Co_plan_13 : decode prog_1_method_14_code 13 = .ok (.goto 4, 3) := by decide +kernel
theorem d_Co_plan_16 : decode prog_1_method_14_code 16 = .ok (.iconst 0, 1) := by decide +kernel
theorem d_Co_plan_17 : decode prog_1_method_14_code 17 = .ok (.istore_n 2, 1) := by decide +kernel
theorem d_Co_plan_18 : decode prog_1_method_14_code 18 = .ok (.iload_n 1, 1) := by decide +kernel
theorem d_Co_plan_19 : decode prog_1_method_14_code 19 = .ok (.ifCond .eq 15, 3) := by decide +kernel
theorem d_Co_plan_22 : decode prog_1_method_14_code 22 = .ok (.iload_n 1, 1) := by decide +kernel
theorem d_Co_plan_23 : decode prog_1_method_14_code 23 = .ok (.iconst 1, 1) := by decide +kernel
theorem d_Co_plan_24 : decode prog_1_method_14_code 24 = .ok (.if_icmp .eq 10, 3) := by decide +kernel
theorem d_Co_plan_27 : decode prog_1_method_14_code 27 = .ok (.iload_n 2, 1) := by decide +kernel
theorem d_Co_plan_28 : decode prog_1_method_14_code 28 = .ok (.ifCond .ne 6, 3) := by decide +kernel
theorem d_Co_plan_31 : decode prog_1_method_14_code 31 = .ok (.bipush (-102), 2) := by decide +kernel
theorem d_Co_plan_33 : decode prog_1_method_14_code 33 = .ok (.ireturn, 1) := by decide +kernel
theorem d_Co_plan_34 : decode prog_1_method_14_code 34 = .ok (.aload_n 0, 1) := by decide +kernel
theorem d_Co_plan_35 : decode prog_1_method_14_code 35 = .ok (.invokevirtual 161, 3) := by decide +kernel
theorem d_Co_plan_38 : decode prog_1_method_14_code 38 = .ok (.ifCond .eq 12, 3) := by decide +kernel
theorem d_Co_plan_41 : decode prog_1_method_14_code 41 = .ok (.aload_n 0, 1) := by decide +kernel
theorem d_Co_plan_42 : decode prog_1_method_14_code 42 = .ok (.getfield 183, 3) := by decide +kernel
theorem d_Co_plan_45 : decode prog_1_method_14_code 45 = .ok (.bipush 20, 2) := by decide +kernel
theorem d_Co_plan_47 : decode prog_1_method_14_code 47 = .ok (.if_icmp .lt 6, 3) := by decide +kernel
theorem d_Co_plan_50 : decode prog_1_method_14_code 50 = .ok (.bipush (-103), 2) := by decide +kernel
theorem d_Co_plan_52 : decode prog_1_method_14_code 52 = .ok (.ireturn, 1) := by decide +kernel
theorem d_Co_plan_53 : decode prog_1_method_14_code 53 = .ok (.aload_n 0, 1) := by decide +kernel
theorem d_Co_plan_54 : decode prog_1_method_14_code 54 = .ok (.dup, 1) := by decide +kernel
theorem d_Co_plan_55 : decode prog_1_method_14_code 55 = .ok (.getfield 183, 3) := by decide +kernel
theorem d_Co_plan_58 : decode prog_1_method_14_code 58 = .ok (.iconst 1, 1) := by decide +kernel
theorem d_Co_plan_59 : decode prog_1_method_14_code 59 = .ok (.iadd, 1) := by decide +kernel
theorem d_Co_plan_60 : decode prog_1_method_14_code 60 = .ok (.putfield 183, 3) := by decide +kernel
theorem d_Co_plan_63 : decode prog_1_method_14_code 63 = .ok (.aload_n 0, 1) := by decide +kernel
theorem d_Co_plan_64 : decode prog_1_method_14_code 64 = .ok (.getfield 47, 3) := by decide +kernel
theorem d_Co_plan_67 : decode prog_1_method_14_code 67 = .ok (.invokevirtual 186, 3) := by decide +kernel
theorem d_Co_plan_70 : decode prog_1_method_14_code 70 = .ok (.iload_n 2, 1) := by decide +kernel
theorem d_Co_plan_71 : decode prog_1_method_14_code 71 = .ok (.ifCond .eq 15, 3) := by decide +kernel
theorem d_Co_plan_74 : decode prog_1_method_14_code 74 = .ok (.aload_n 0, 1) := by decide +kernel
theorem d_Co_plan_75 : decode prog_1_method_14_code 75 = .ok (.getfield 47, 3) := by decide +kernel
theorem d_Co_plan_78 : decode prog_1_method_14_code 78 = .ok (.iload_n 1, 1) := by decide +kernel
theorem d_Co_plan_79 : decode prog_1_method_14_code 79 = .ok (.bipush 10, 2) := by decide +kernel
theorem d_Co_plan_81 : decode prog_1_method_14_code 81 = .ok (.isub, 1) := by decide +kernel
theorem d_Co_plan_82 : decode prog_1_method_14_code 82 = .ok (.invokevirtual 189, 3) := by decide +kernel
theorem d_Co_plan_85 : decode prog_1_method_14_code 85 = .ok (.ireturn, 1) := by decide +kernel
theorem d_Co_plan_86 : decode prog_1_method_14_code 86 = .ok (.iload_n 1, 1) := by decide +kernel
theorem d_Co_plan_87 : decode prog_1_method_14_code 87 = .ok (.ifCond .ne 13, 3) := by decide +kernel
theorem d_Co_plan_90 : decode prog_1_method_14_code 90 = .ok (.aload_n 0, 1) := by decide +kernel
theorem d_Co_plan_91 : decode prog_1_method_14_code 91 = .ok (.getfield 47, 3) := by decide +kernel
theorem d_Co_plan_94 : decode prog_1_method_14_code 94 = .ok (.invokevirtual 192, 3) := by decide +kernel
theorem d_Co_plan_97 : decode prog_1_method_14_code 97 = .ok (.goto 10, 3) := by decide +kernel
theorem d_Co_plan_100 : decode prog_1_method_14_code 100 = .ok (.aload_n 0, 1) := by decide +kernel
theorem d_Co_plan_101 : decode prog_1_method_14_code 101 = .ok (.getfield 47, 3) := by decide +kernel
theorem d_Co_plan_104 : decode prog_1_method_14_code 104 = .ok (.invokevirtual 193, 3) := by decide +kernel
theorem d_Co_plan_107 : decode prog_1_method_14_code 107 = .ok (.ireturn, 1) := by decide +kernel
theorem d_Sh_setClaim_0 : decode prog_10_method_37_code 0 = .ok (.aload_n 0, 1) := by decide +kernel
theorem d_Sh_setClaim_1 : decode prog_10_method_37_code 1 = .ok (.getfield 26, 3) := by decide +kernel
theorem d_Sh_setClaim_4 : decode prog_10_method_37_code 4 = .ok (.iload_n 1, 1) := by decide +kernel
theorem d_Sh_setClaim_5 : decode prog_10_method_37_code 5 = .ok (.iload_n 2, 1) := by decide +kernel
theorem d_Sh_setClaim_6 : decode prog_10_method_37_code 6 = .ok (.invokevirtual 67, 3) := by decide +kernel
theorem d_Sh_setClaim_9 : decode prog_10_method_37_code 9 = .ok (.aload_n 0, 1) := by decide +kernel
theorem d_Sh_setClaim_10 : decode prog_10_method_37_code 10 = .ok (.getfield 29, 3) := by decide +kernel
theorem d_Sh_setClaim_13 : decode prog_10_method_37_code 13 = .ok (.iload_n 1, 1) := by decide +kernel
theorem d_Sh_setClaim_14 : decode prog_10_method_37_code 14 = .ok (.iload_n 3, 1) := by decide +kernel
theorem d_Sh_setClaim_15 : decode prog_10_method_37_code 15 = .ok (.invokevirtual 67, 3) := by decide +kernel
theorem d_Sh_setClaim_18 : decode prog_10_method_37_code 18 = .ok (.return_, 1) := by decide +kernel
theorem d_Co_plead_0 : decode prog_1_method_12_code 0 = .ok (.aload_n 0, 1) := by decide +kernel
theorem d_Co_plead_1 : decode prog_1_method_12_code 1 = .ok (.getfield 28, 3) := by decide +kernel
theorem d_Co_plead_4 : decode prog_1_method_12_code 4 = .ok (.iload_n 1, 1) := by decide +kernel
theorem d_Co_plead_5 : decode prog_1_method_12_code 5 = .ok (.invokevirtual 111, 3) := by decide +kernel
theorem d_Co_plead_8 : decode prog_1_method_12_code 8 = .ok (.ifCond .ne 6, 3) := by decide +kernel
theorem d_Co_plead_11 : decode prog_1_method_12_code 11 = .ok (.bipush (-101), 2) := by decide +kernel
theorem d_Co_plead_13 : decode prog_1_method_12_code 13 = .ok (.ireturn, 1) := by decide +kernel
theorem d_Co_plead_14 : decode prog_1_method_12_code 14 = .ok (.iload_n 2, 1) := by decide +kernel
theorem d_Co_plead_15 : decode prog_1_method_12_code 15 = .ok (.iconst 1, 1) := by decide +kernel
theorem d_Co_plead_16 : decode prog_1_method_12_code 16 = .ok (.if_icmp .lt 20, 3) := by decide +kernel
theorem d_Co_plead_19 : decode prog_1_method_12_code 19 = .ok (.iload_n 2, 1) := by decide +kernel
theorem d_Co_plead_20 : decode prog_1_method_12_code 20 = .ok (.bipush 9, 2) := by decide +kernel
theorem d_Co_plead_22 : decode prog_1_method_12_code 22 = .ok (.if_icmp .gt 14, 3) := by decide +kernel
theorem d_Co_plead_25 : decode prog_1_method_12_code 25 = .ok (.iload_n 3, 1) := by decide +kernel
theorem d_Co_plead_26 : decode prog_1_method_12_code 26 = .ok (.iconst 1, 1) := by decide +kernel
theorem d_Co_plead_27 : decode prog_1_method_12_code 27 = .ok (.if_icmp .lt 9, 3) := by decide +kernel
theorem d_Co_plead_30 : decode prog_1_method_12_code 30 = .ok (.iload_n 3, 1) := by decide +kernel
theorem d_Co_plead_31 : decode prog_1_method_12_code 31 = .ok (.bipush 9, 2) := by decide +kernel
theorem d_Co_plead_33 : decode prog_1_method_12_code 33 = .ok (.if_icmp .le 6, 3) := by decide +kernel
theorem d_Co_plead_36 : decode prog_1_method_12_code 36 = .ok (.bipush (-102), 2) := by decide +kernel
theorem d_Co_plead_38 : decode prog_1_method_12_code 38 = .ok (.ireturn, 1) := by decide +kernel
theorem d_Co_plead_39 : decode prog_1_method_12_code 39 = .ok (.aload_n 0, 1) := by decide +kernel
theorem d_Co_plead_40 : decode prog_1_method_12_code 40 = .ok (.getfield 28, 3) := by decide +kernel
theorem d_Co_plead_43 : decode prog_1_method_12_code 43 = .ok (.iload_n 1, 1) := by decide +kernel
theorem d_Co_plead_44 : decode prog_1_method_12_code 44 = .ok (.invokevirtual 120, 3) := by decide +kernel
theorem d_Co_plead_47 : decode prog_1_method_12_code 47 = .ok (.istore 4, 2) := by decide +kernel
theorem d_Co_plead_49 : decode prog_1_method_12_code 49 = .ok (.aload_n 0, 1) := by decide +kernel
theorem d_Co_plead_50 : decode prog_1_method_12_code 50 = .ok (.getfield 28, 3) := by decide +kernel
theorem d_Co_plead_53 : decode prog_1_method_12_code 53 = .ok (.iload_n 1, 1) := by decide +kernel
theorem d_Co_plead_54 : decode prog_1_method_12_code 54 = .ok (.iload_n 2, 1) := by decide +kernel
theorem d_Co_plead_55 : decode prog_1_method_12_code 55 = .ok (.iload_n 3, 1) := by decide +kernel
theorem d_Co_plead_56 : decode prog_1_method_12_code 56 = .ok (.invokevirtual 173, 3) := by decide +kernel
theorem d_Co_plead_59 : decode prog_1_method_12_code 59 = .ok (.iload 4, 2) := by decide +kernel
theorem d_Co_plead_61 : decode prog_1_method_12_code 61 = .ok (.ireturn, 1) := by decide +kernel
theorem d_Co_restore_0 : decode prog_1_method_21_code 0 = .ok (.aload_n 0, 1) := by decide +kernel
theorem d_Co_restore_1 : decode prog_1_method_21_code 1 = .ok (.getfield 86, 3) := by decide +kernel
theorem d_Co_restore_4 : decode prog_1_method_21_code 4 = .ok (.ifCond .ne 6, 3) := by decide +kernel
theorem d_Co_restore_7 : decode prog_1_method_21_code 7 = .ok (.bipush (-103), 2) := by decide +kernel
theorem d_Co_restore_9 : decode prog_1_method_21_code 9 = .ok (.ireturn, 1) := by decide +kernel
theorem d_Co_restore_10 : decode prog_1_method_21_code 10 = .ok (.aload_n 0, 1) := by decide +kernel
theorem d_Co_restore_11 : decode prog_1_method_21_code 11 = .ok (.getfield 28, 3) := by decide +kernel
theorem d_Co_restore_14 : decode prog_1_method_21_code 14 = .ok (.aload_n 0, 1) := by decide +kernel
theorem d_Co_restore_15 : decode prog_1_method_21_code 15 = .ok (.getfield 32, 3) := by decide +kernel
theorem d_Co_restore_18 : decode prog_1_method_21_code 18 = .ok (.invokevirtual 238, 3) := by decide +kernel
theorem d_Co_restore_21 : decode prog_1_method_21_code 21 = .ok (.aload_n 0, 1) := by decide +kernel
theorem d_Co_restore_22 : decode prog_1_method_21_code 22 = .ok (.getfield 28, 3) := by decide +kernel
theorem d_Co_restore_25 : decode prog_1_method_21_code 25 = .ok (.invokevirtual 164, 3) := by decide +kernel
theorem d_Co_restore_28 : decode prog_1_method_21_code 28 = .ok (.ireturn, 1) := by decide +kernel
theorem d_Co_right_0 : decode prog_1_method_9_code 0 = .ok (.aload_n 0, 1) := by decide +kernel
theorem d_Co_right_1 : decode prog_1_method_9_code 1 = .ok (.getfield 28, 3) := by decide +kernel
theorem d_Co_right_4 : decode prog_1_method_9_code 4 = .ok (.iload_n 1, 1) := by decide +kernel
theorem d_Co_right_5 : decode prog_1_method_9_code 5 = .ok (.invokevirtual 111, 3) := by decide +kernel
theorem d_Co_right_8 : decode prog_1_method_9_code 8 = .ok (.ifCond .eq 14, 3) := by decide +kernel
theorem d_Co_right_11 : decode prog_1_method_9_code 11 = .ok (.aload_n 0, 1) := by decide +kernel
theorem d_Co_right_12 : decode prog_1_method_9_code 12 = .ok (.getfield 28, 3) := by decide +kernel
theorem d_Co_right_15 : decode prog_1_method_9_code 15 = .ok (.iload_n 2, 1) := by decide +kernel
theorem d_Co_right_16 : decode prog_1_method_9_code 16 = .ok (.invokevirtual 97, 3) := by decide +kernel
theorem d_Co_right_19 : decode prog_1_method_9_code 19 = .ok (.ifCond .ne 6, 3) := by decide +kernel
theorem d_Co_right_22 : decode prog_1_method_9_code 22 = .ok (.bipush (-101), 2) := by decide +kernel
theorem d_Co_right_24 : decode prog_1_method_9_code 24 = .ok (.ireturn, 1) := by decide +kernel
theorem d_Co_right_25 : decode prog_1_method_9_code 25 = .ok (.aload_n 0, 1) := by decide +kernel
theorem d_Co_right_26 : decode prog_1_method_9_code 26 = .ok (.getfield 28, 3) := by decide +kernel
theorem d_Co_right_29 : decode prog_1_method_9_code 29 = .ok (.iload_n 1, 1) := by decide +kernel
theorem d_Co_right_30 : decode prog_1_method_9_code 30 = .ok (.iload_n 2, 1) := by decide +kernel
theorem d_Co_right_31 : decode prog_1_method_9_code 31 = .ok (.invokevirtual 151, 3) := by decide +kernel
theorem d_Co_right_34 : decode prog_1_method_9_code 34 = .ok (.ifCond .ne 6, 3) := by decide +kernel
theorem d_Co_right_37 : decode prog_1_method_9_code 37 = .ok (.bipush (-103), 2) := by decide +kernel
theorem d_Co_right_39 : decode prog_1_method_9_code 39 = .ok (.ireturn, 1) := by decide +kernel
theorem d_Co_right_40 : decode prog_1_method_9_code 40 = .ok (.aload_n 0, 1) := by decide +kernel
theorem d_Co_right_41 : decode prog_1_method_9_code 41 = .ok (.getfield 28, 3) := by decide +kernel
theorem d_Co_right_44 : decode prog_1_method_9_code 44 = .ok (.invokevirtual 154, 3) := by decide +kernel
theorem d_Co_right_47 : decode prog_1_method_9_code 47 = .ok (.sipush 999, 3) := by decide +kernel
theorem d_Co_right_50 : decode prog_1_method_9_code 50 = .ok (.if_icmp .lt 6, 3) := by decide +kernel
theorem d_Co_right_53 : decode prog_1_method_9_code 53 = .ok (.bipush (-104), 2) := by decide +kernel
theorem d_Co_right_55 : decode prog_1_method_9_code 55 = .ok (.ireturn, 1) := by decide +kernel
theorem d_Co_right_56 : decode prog_1_method_9_code 56 = .ok (.aload_n 0, 1) := by decide +kernel
theorem d_Co_right_57 : decode prog_1_method_9_code 57 = .ok (.getfield 28, 3) := by decide +kernel
theorem d_Co_right_60 : decode prog_1_method_9_code 60 = .ok (.iload_n 1, 1) := by decide +kernel
theorem d_Co_right_61 : decode prog_1_method_9_code 61 = .ok (.invokevirtual 139, 3) := by decide +kernel
theorem d_Co_right_64 : decode prog_1_method_9_code 64 = .ok (.istore_n 3, 1) := by decide +kernel
theorem d_Co_right_65 : decode prog_1_method_9_code 65 = .ok (.aload_n 0, 1) := by decide +kernel
theorem d_Co_right_66 : decode prog_1_method_9_code 66 = .ok (.getfield 28, 3) := by decide +kernel
theorem d_Co_right_69 : decode prog_1_method_9_code 69 = .ok (.iload_n 1, 1) := by decide +kernel
theorem d_Co_right_70 : decode prog_1_method_9_code 70 = .ok (.iload_n 2, 1) := by decide +kernel
theorem d_Co_right_71 : decode prog_1_method_9_code 71 = .ok (.invokevirtual 157, 3) := by decide +kernel
theorem d_Co_right_74 : decode prog_1_method_9_code 74 = .ok (.iload_n 3, 1) := by decide +kernel
theorem d_Co_right_75 : decode prog_1_method_9_code 75 = .ok (.ireturn, 1) := by decide +kernel
theorem d_Si_add_0 : decode prog_11_method_3_code 0 = .ok (.aload_n 0, 1) := by decide +kernel
theorem d_Si_add_1 : decode prog_11_method_3_code 1 = .ok (.getfield 14, 3) := by decide +kernel
theorem d_Si_add_4 : decode prog_11_method_3_code 4 = .ok (.aload_n 0, 1) := by decide +kernel
theorem d_Si_add_5 : decode prog_11_method_3_code 5 = .ok (.getfield 26, 3) := by decide +kernel
theorem d_Si_add_8 : decode prog_11_method_3_code 8 = .ok (.iload_n 1, 1) := by decide +kernel
theorem d_Si_add_9 : decode prog_11_method_3_code 9 = .ok (.invokevirtual 30, 3) := by decide +kernel
theorem d_Si_add_12 : decode prog_11_method_3_code 12 = .ok (.aload_n 0, 1) := by decide +kernel
theorem d_Si_add_13 : decode prog_11_method_3_code 13 = .ok (.getfield 20, 3) := by decide +kernel
theorem d_Si_add_16 : decode prog_11_method_3_code 16 = .ok (.aload_n 0, 1) := by decide +kernel
theorem d_Si_add_17 : decode prog_11_method_3_code 17 = .ok (.getfield 26, 3) := by decide +kernel
theorem d_Si_add_20 : decode prog_11_method_3_code 20 = .ok (.iload_n 2, 1) := by decide +kernel
theorem d_Si_add_21 : decode prog_11_method_3_code 21 = .ok (.invokevirtual 30, 3) := by decide +kernel
theorem d_Si_add_24 : decode prog_11_method_3_code 24 = .ok (.aload_n 0, 1) := by decide +kernel
theorem d_Si_add_25 : decode prog_11_method_3_code 25 = .ok (.getfield 23, 3) := by decide +kernel
theorem d_Si_add_28 : decode prog_11_method_3_code 28 = .ok (.aload_n 0, 1) := by decide +kernel
theorem d_Si_add_29 : decode prog_11_method_3_code 29 = .ok (.getfield 26, 3) := by decide +kernel
theorem d_Si_add_32 : decode prog_11_method_3_code 32 = .ok (.iload_n 3, 1) := by decide +kernel
theorem d_Si_add_33 : decode prog_11_method_3_code 33 = .ok (.ifCond .eq 7, 3) := by decide +kernel
theorem d_Si_add_36 : decode prog_11_method_3_code 36 = .ok (.iconst 1, 1) := by decide +kernel
theorem d_Si_add_37 : decode prog_11_method_3_code 37 = .ok (.goto 4, 3) := by decide +kernel
theorem d_Si_add_40 : decode prog_11_method_3_code 40 = .ok (.iconst 0, 1) := by decide +kernel
theorem d_Si_add_41 : decode prog_11_method_3_code 41 = .ok (.invokevirtual 30, 3) := by decide +kernel
theorem d_Si_add_44 : decode prog_11_method_3_code 44 = .ok (.aload_n 0, 1) := by decide +kernel
theorem d_Si_add_45 : decode prog_11_method_3_code 45 = .ok (.dup, 1) := by decide +kernel
theorem d_Si_add_46 : decode prog_11_method_3_code 46 = .ok (.getfield 26, 3) := by decide +kernel
theorem d_Si_add_49 : decode prog_11_method_3_code 49 = .ok (.iconst 1, 1) := by decide +kernel
theorem d_Si_add_50 : decode prog_11_method_3_code 50 = .ok (.iadd, 1) := by decide +kernel
theorem d_Si_add_51 : decode prog_11_method_3_code 51 = .ok (.putfield 26, 3) := by decide +kernel
theorem d_Si_add_54 : decode prog_11_method_3_code 54 = .ok (.return_, 1) := by decide +kernel
theorem d_Co_see_0 : decode prog_1_method_17_code 0 = .ok (.aload_n 0, 1) := by decide +kernel
theorem d_Co_see_1 : decode prog_1_method_17_code 1 = .ok (.getfield 28, 3) := by decide +kernel
theorem d_Co_see_4 : decode prog_1_method_17_code 4 = .ok (.iload_n 1, 1) := by decide +kernel
theorem d_Co_see_5 : decode prog_1_method_17_code 5 = .ok (.invokevirtual 111, 3) := by decide +kernel
theorem d_Co_see_8 : decode prog_1_method_17_code 8 = .ok (.ifCond .ne 6, 3) := by decide +kernel
theorem d_Co_see_11 : decode prog_1_method_17_code 11 = .ok (.bipush (-101), 2) := by decide +kernel
theorem d_Co_see_13 : decode prog_1_method_17_code 13 = .ok (.ireturn, 1) := by decide +kernel
theorem d_Co_see_14 : decode prog_1_method_17_code 14 = .ok (.iload_n 2, 1) := by decide +kernel
theorem d_Co_see_15 : decode prog_1_method_17_code 15 = .ok (.iconst 1, 1) := by decide +kernel
theorem d_Co_see_16 : decode prog_1_method_17_code 16 = .ok (.if_icmp .lt 9, 3) := by decide +kernel
theorem d_Co_see_19 : decode prog_1_method_17_code 19 = .ok (.iload_n 2, 1) := by decide +kernel
theorem d_Co_see_20 : decode prog_1_method_17_code 20 = .ok (.bipush 18, 2) := by decide +kernel
theorem d_Co_see_22 : decode prog_1_method_17_code 22 = .ok (.if_icmp .le 6, 3) := by decide +kernel
theorem d_Co_see_25 : decode prog_1_method_17_code 25 = .ok (.bipush (-102), 2) := by decide +kernel
theorem d_Co_see_27 : decode prog_1_method_17_code 27 = .ok (.ireturn, 1) := by decide +kernel
theorem d_Co_see_28 : decode prog_1_method_17_code 28 = .ok (.aload_n 0, 1) := by decide +kernel
theorem d_Co_see_29 : decode prog_1_method_17_code 29 = .ok (.getfield 28, 3) := by decide +kernel
theorem d_Co_see_32 : decode prog_1_method_17_code 32 = .ok (.invokevirtual 219, 3) := by decide +kernel
theorem d_Co_see_35 : decode prog_1_method_17_code 35 = .ok (.invokevirtual 223, 3) := by decide +kernel
theorem d_Co_see_38 : decode prog_1_method_17_code 38 = .ok (.bipush 8, 2) := by decide +kernel
theorem d_Co_see_40 : decode prog_1_method_17_code 40 = .ok (.if_icmp .lt 6, 3) := by decide +kernel
theorem d_Co_see_43 : decode prog_1_method_17_code 43 = .ok (.bipush (-104), 2) := by decide +kernel
theorem d_Co_see_45 : decode prog_1_method_17_code 45 = .ok (.ireturn, 1) := by decide +kernel
theorem d_Co_see_46 : decode prog_1_method_17_code 46 = .ok (.aload_n 0, 1) := by decide +kernel
theorem d_Co_see_47 : decode prog_1_method_17_code 47 = .ok (.getfield 28, 3) := by decide +kernel
theorem d_Co_see_50 : decode prog_1_method_17_code 50 = .ok (.invokevirtual 219, 3) := by decide +kernel
theorem d_Co_see_53 : decode prog_1_method_17_code 53 = .ok (.iload_n 1, 1) := by decide +kernel
theorem d_Co_see_54 : decode prog_1_method_17_code 54 = .ok (.iload_n 2, 1) := by decide +kernel
theorem d_Co_see_55 : decode prog_1_method_17_code 55 = .ok (.iload_n 3, 1) := by decide +kernel
theorem d_Co_see_56 : decode prog_1_method_17_code 56 = .ok (.invokevirtual 226, 3) := by decide +kernel
theorem d_Co_see_59 : decode prog_1_method_17_code 59 = .ok (.aload_n 0, 1) := by decide +kernel
theorem d_Co_see_60 : decode prog_1_method_17_code 60 = .ok (.getfield 28, 3) := by decide +kernel
theorem d_Co_see_63 : decode prog_1_method_17_code 63 = .ok (.invokevirtual 219, 3) := by decide +kernel
theorem d_Co_see_66 : decode prog_1_method_17_code 66 = .ok (.invokevirtual 223, 3) := by decide +kernel
theorem d_Co_see_69 : decode prog_1_method_17_code 69 = .ok (.ireturn, 1) := by decide +kernel
theorem d_Rd_isWholeShire_0 : decode prog_8_method_3_code 0 = .ok (.aload_n 0, 1) := by decide +kernel
theorem d_Rd_isWholeShire_1 : decode prog_8_method_3_code 1 = .ok (.invokevirtual 39, 3) := by decide +kernel
theorem d_Rd_isWholeShire_4 : decode prog_8_method_3_code 4 = .ok (.aload_n 0, 1) := by decide +kernel
theorem d_Rd_isWholeShire_5 : decode prog_8_method_3_code 5 = .ok (.getfield 9, 3) := by decide +kernel
theorem d_Rd_isWholeShire_8 : decode prog_8_method_3_code 8 = .ok (.invokevirtual 25, 3) := by decide +kernel
theorem d_Rd_isWholeShire_11 : decode prog_8_method_3_code 11 = .ok (.if_icmp .ne 24, 3) := by decide +kernel
theorem d_Rd_isWholeShire_14 : decode prog_8_method_3_code 14 = .ok (.aload_n 0, 1) := by decide +kernel
theorem d_Rd_isWholeShire_15 : decode prog_8_method_3_code 15 = .ok (.getfield 15, 3) := by decide +kernel
theorem d_Rd_isWholeShire_18 : decode prog_8_method_3_code 18 = .ok (.bipush 7, 2) := by decide +kernel
theorem d_Rd_isWholeShire_20 : decode prog_8_method_3_code 20 = .ok (.if_icmp .ne 15, 3) := by decide +kernel
theorem d_Rd_isWholeShire_23 : decode prog_8_method_3_code 23 = .ok (.aload_n 0, 1) := by decide +kernel
theorem d_Rd_isWholeShire_24 : decode prog_8_method_3_code 24 = .ok (.getfield 22, 3) := by decide +kernel
theorem d_Rd_isWholeShire_27 : decode prog_8_method_3_code 27 = .ok (.iconst 2, 1) := by decide +kernel
theorem d_Rd_isWholeShire_28 : decode prog_8_method_3_code 28 = .ok (.if_icmp .lt 7, 3) := by decide +kernel
theorem d_Rd_isWholeShire_31 : decode prog_8_method_3_code 31 = .ok (.iconst 1, 1) := by decide +kernel
theorem d_Rd_isWholeShire_32 : decode prog_8_method_3_code 32 = .ok (.goto 4, 3) := by decide +kernel
theorem d_Rd_isWholeShire_35 : decode prog_8_method_3_code 35 = .ok (.iconst 0, 1) := by decide +kernel
theorem d_Rd_isWholeShire_36 : decode prog_8_method_3_code 36 = .ok (.ireturn, 1) := by decide +kernel
theorem d_Sh_begin_0 : decode prog_10_method_2_code 0 = .ok (.aload_n 0, 1) := by decide +kernel
theorem d_Sh_begin_1 : decode prog_10_method_2_code 1 = .ok (.iconst 0, 1) := by decide +kernel
theorem d_Sh_begin_2 : decode prog_10_method_2_code 2 = .ok (.putfield 48, 3) := by decide +kernel
theorem d_Sh_begin_5 : decode prog_10_method_2_code 5 = .ok (.aload_n 0, 1) := by decide +kernel
theorem d_Sh_begin_6 : decode prog_10_method_2_code 6 = .ok (.iconst 0, 1) := by decide +kernel
theorem d_Sh_begin_7 : decode prog_10_method_2_code 7 = .ok (.putfield 52, 3) := by decide +kernel
theorem d_Sh_begin_10 : decode prog_10_method_2_code 10 = .ok (.aload_n 0, 1) := by decide +kernel
theorem d_Sh_begin_11 : decode prog_10_method_2_code 11 = .ok (.iconst 0, 1) := by decide +kernel
theorem d_Sh_begin_12 : decode prog_10_method_2_code 12 = .ok (.putfield 55, 3) := by decide +kernel
theorem d_Sh_begin_15 : decode prog_10_method_2_code 15 = .ok (.aload_n 0, 1) := by decide +kernel
theorem d_Sh_begin_16 : decode prog_10_method_2_code 16 = .ok (.iconst 0, 1) := by decide +kernel
theorem d_Sh_begin_17 : decode prog_10_method_2_code 17 = .ok (.putfield 58, 3) := by decide +kernel
theorem d_Sh_begin_20 : decode prog_10_method_2_code 20 = .ok (.aload_n 0, 1) := by decide +kernel
theorem d_Sh_begin_21 : decode prog_10_method_2_code 21 = .ok (.iconst 0, 1) := by decide +kernel
theorem d_Sh_begin_22 : decode prog_10_method_2_code 22 = .ok (.putfield 61, 3) := by decide +kernel
theorem d_Sh_begin_25 : decode prog_10_method_2_code 25 = .ok (.aload_n 0, 1) := by decide +kernel
theorem d_Sh_begin_26 : decode prog_10_method_2_code 26 = .ok (.getfield 44, 3) := by decide +kernel
theorem d_Sh_begin_29 : decode prog_10_method_2_code 29 = .ok (.invokevirtual 64, 3) := by decide +kernel
theorem d_Sh_begin_32 : decode prog_10_method_2_code 32 = .ok (.return_, 1) := by decide +kernel
theorem d_Pg_digit_0 : decode prog_6_method_4_code 0 = .ok (.aload_n 0, 1) := by decide +kernel
theorem d_Pg_digit_1 : decode prog_6_method_4_code 1 = .ok (.getfield 14, 3) := by decide +kernel
theorem d_Pg_digit_4 : decode prog_6_method_4_code 4 = .ok (.iload_n 1, 1) := by decide +kernel
theorem d_Pg_digit_5 : decode prog_6_method_4_code 5 = .ok (.invokevirtual 24, 3) := by decide +kernel
theorem d_Pg_digit_8 : decode prog_6_method_4_code 8 = .ok (.bipush 48, 2) := by decide +kernel
theorem d_Pg_digit_10 : decode prog_6_method_4_code 10 = .ok (.isub, 1) := by decide +kernel
theorem d_Pg_digit_11 : decode prog_6_method_4_code 11 = .ok (.ireturn, 1) := by decide +kernel
theorem d_Sh_addTree_0 : decode prog_10_method_3_code 0 = .ok (.aload_n 0, 1) := by decide +kernel
theorem d_Sh_addTree_1 : decode prog_10_method_3_code 1 = .ok (.getfield 14, 3) := by decide +kernel
theorem d_Sh_addTree_4 : decode prog_10_method_3_code 4 = .ok (.aload_n 0, 1) := by decide +kernel
theorem d_Sh_addTree_5 : decode prog_10_method_3_code 5 = .ok (.getfield 48, 3) := by decide +kernel
theorem d_Sh_addTree_8 : decode prog_10_method_3_code 8 = .ok (.iload_n 1, 1) := by decide +kernel
theorem d_Sh_addTree_9 : decode prog_10_method_3_code 9 = .ok (.invokevirtual 67, 3) := by decide +kernel
theorem d_Sh_addTree_12 : decode prog_10_method_3_code 12 = .ok (.aload_n 0, 1) := by decide +kernel
theorem d_Sh_addTree_13 : decode prog_10_method_3_code 13 = .ok (.getfield 20, 3) := by decide +kernel
theorem d_Sh_addTree_16 : decode prog_10_method_3_code 16 = .ok (.aload_n 0, 1) := by decide +kernel
theorem d_Sh_addTree_17 : decode prog_10_method_3_code 17 = .ok (.getfield 48, 3) := by decide +kernel
theorem d_Sh_addTree_20 : decode prog_10_method_3_code 20 = .ok (.iload_n 2, 1) := by decide +kernel
theorem d_Sh_addTree_21 : decode prog_10_method_3_code 21 = .ok (.invokevirtual 67, 3) := by decide +kernel
theorem d_Sh_addTree_24 : decode prog_10_method_3_code 24 = .ok (.aload_n 0, 1) := by decide +kernel
theorem d_Sh_addTree_25 : decode prog_10_method_3_code 25 = .ok (.dup, 1) := by decide +kernel
theorem d_Sh_addTree_26 : decode prog_10_method_3_code 26 = .ok (.getfield 48, 3) := by decide +kernel
theorem d_Sh_addTree_29 : decode prog_10_method_3_code 29 = .ok (.iconst 1, 1) := by decide +kernel
theorem d_Sh_addTree_30 : decode prog_10_method_3_code 30 = .ok (.iadd, 1) := by decide +kernel
theorem d_Sh_addTree_31 : decode prog_10_method_3_code 31 = .ok (.putfield 48, 3) := by decide +kernel
theorem d_Sh_addTree_34 : decode prog_10_method_3_code 34 = .ok (.return_, 1) := by decide +kernel
theorem d_Sh_addSuit_0 : decode prog_10_method_4_code 0 = .ok (.aload_n 0, 1) := by decide +kernel
theorem d_Sh_addSuit_1 : decode prog_10_method_4_code 1 = .ok (.getfield 52, 3) := by decide +kernel
theorem d_Sh_addSuit_4 : decode prog_10_method_4_code 4 = .ok (.istore 5, 2) := by decide +kernel
theorem d_Sh_addSuit_6 : decode prog_10_method_4_code 6 = .ok (.aload_n 0, 1) := by decide +kernel
theorem d_Sh_addSuit_7 : decode prog_10_method_4_code 7 = .ok (.getfield 23, 3) := by decide +kernel
theorem d_Sh_addSuit_10 : decode prog_10_method_4_code 10 = .ok (.iload 5, 2) := by decide +kernel
theorem d_Sh_addSuit_12 : decode prog_10_method_4_code 12 = .ok (.iload_n 1, 1) := by decide +kernel
theorem d_Sh_addSuit_13 : decode prog_10_method_4_code 13 = .ok (.invokevirtual 67, 3) := by decide +kernel
theorem d_Sh_addSuit_16 : decode prog_10_method_4_code 16 = .ok (.aload_n 0, 1) := by decide +kernel
theorem d_Sh_addSuit_17 : decode prog_10_method_4_code 17 = .ok (.getfield 26, 3) := by decide +kernel
theorem d_Sh_addSuit_20 : decode prog_10_method_4_code 20 = .ok (.iload 5, 2) := by decide +kernel
theorem d_Sh_addSuit_22 : decode prog_10_method_4_code 22 = .ok (.iload_n 2, 1) := by decide +kernel
theorem d_Sh_addSuit_23 : decode prog_10_method_4_code 23 = .ok (.invokevirtual 67, 3) := by decide +kernel
theorem d_Sh_addSuit_26 : decode prog_10_method_4_code 26 = .ok (.aload_n 0, 1) := by decide +kernel
theorem d_Sh_addSuit_27 : decode prog_10_method_4_code 27 = .ok (.getfield 29, 3) := by decide +kernel
theorem d_Sh_addSuit_30 : decode prog_10_method_4_code 30 = .ok (.iload 5, 2) := by decide +kernel
theorem d_Sh_addSuit_32 : decode prog_10_method_4_code 32 = .ok (.iload_n 3, 1) := by decide +kernel
theorem d_Sh_addSuit_33 : decode prog_10_method_4_code 33 = .ok (.invokevirtual 67, 3) := by decide +kernel
theorem d_Sh_addSuit_36 : decode prog_10_method_4_code 36 = .ok (.aload_n 0, 1) := by decide +kernel
theorem d_Sh_addSuit_37 : decode prog_10_method_4_code 37 = .ok (.getfield 32, 3) := by decide +kernel
theorem d_Sh_addSuit_40 : decode prog_10_method_4_code 40 = .ok (.iload 5, 2) := by decide +kernel
theorem d_Sh_addSuit_42 : decode prog_10_method_4_code 42 = .ok (.iload 4, 2) := by decide +kernel
theorem d_Sh_addSuit_44 : decode prog_10_method_4_code 44 = .ok (.invokevirtual 67, 3) := by decide +kernel
theorem d_Sh_addSuit_47 : decode prog_10_method_4_code 47 = .ok (.aload_n 0, 1) := by decide +kernel
theorem d_Sh_addSuit_48 : decode prog_10_method_4_code 48 = .ok (.getfield 35, 3) := by decide +kernel
theorem d_Sh_addSuit_51 : decode prog_10_method_4_code 51 = .ok (.iload 5, 2) := by decide +kernel
theorem d_Sh_addSuit_53 : decode prog_10_method_4_code 53 = .ok (.iconst 0, 1) := by decide +kernel
theorem d_Sh_addSuit_54 : decode prog_10_method_4_code 54 = .ok (.invokevirtual 67, 3) := by decide +kernel
theorem d_Sh_addSuit_57 : decode prog_10_method_4_code 57 = .ok (.aload_n 0, 1) := by decide +kernel
theorem d_Sh_addSuit_58 : decode prog_10_method_4_code 58 = .ok (.getfield 38, 3) := by decide +kernel
theorem d_Sh_addSuit_61 : decode prog_10_method_4_code 61 = .ok (.iload 5, 2) := by decide +kernel
theorem d_Sh_addSuit_63 : decode prog_10_method_4_code 63 = .ok (.iconst 0, 1) := by decide +kernel
theorem d_Sh_addSuit_64 : decode prog_10_method_4_code 64 = .ok (.invokevirtual 67, 3) := by decide +kernel
theorem d_Sh_addSuit_67 : decode prog_10_method_4_code 67 = .ok (.aload_n 0, 1) := by decide +kernel
theorem d_Sh_addSuit_68 : decode prog_10_method_4_code 68 = .ok (.getfield 35, 3) := by decide +kernel
theorem d_Sh_addSuit_71 : decode prog_10_method_4_code 71 = .ok (.iload 4, 2) := by decide +kernel
theorem d_Sh_addSuit_73 : decode prog_10_method_4_code 73 = .ok (.aload_n 0, 1) := by decide +kernel
theorem d_Sh_addSuit_74 : decode prog_10_method_4_code 74 = .ok (.getfield 35, 3) := by decide +kernel
theorem d_Sh_addSuit_77 : decode prog_10_method_4_code 77 = .ok (.iload 4, 2) := by decide +kernel
theorem d_Sh_addSuit_79 : decode prog_10_method_4_code 79 = .ok (.invokevirtual 71, 3) := by decide +kernel
theorem d_Sh_addSuit_82 : decode prog_10_method_4_code 82 = .ok (.iconst 1, 1) := by decide +kernel
theorem d_Sh_addSuit_83 : decode prog_10_method_4_code 83 = .ok (.iadd, 1) := by decide +kernel
theorem d_Sh_addSuit_84 : decode prog_10_method_4_code 84 = .ok (.invokevirtual 67, 3) := by decide +kernel
theorem d_Sh_addSuit_87 : decode prog_10_method_4_code 87 = .ok (.iload 4, 2) := by decide +kernel
theorem d_Sh_addSuit_89 : decode prog_10_method_4_code 89 = .ok (.istore 6, 2) := by decide +kernel
theorem d_Sh_addSuit_91 : decode prog_10_method_4_code 91 = .ok (.iconst 0, 1) := by decide +kernel
theorem d_Sh_addSuit_92 : decode prog_10_method_4_code 92 = .ok (.istore 7, 2) := by decide +kernel
theorem d_Sh_addSuit_94 : decode prog_10_method_4_code 94 = .ok (.iload 7, 2) := by decide +kernel
theorem d_Sh_addSuit_96 : decode prog_10_method_4_code 96 = .ok (.bipush 7, 2) := by decide +kernel
theorem d_Sh_addSuit_98 : decode prog_10_method_4_code 98 = .ok (.if_icmp .ge 50, 3) := by decide +kernel
theorem d_Sh_addSuit_101 : decode prog_10_method_4_code 101 = .ok (.iload 6, 2) := by decide +kernel
theorem d_Sh_addSuit_103 : decode prog_10_method_4_code 103 = .ok (.iconst (-1), 1) := by decide +kernel
theorem d_Sh_addSuit_104 : decode prog_10_method_4_code 104 = .ok (.if_icmp .eq 44, 3) := by decide +kernel
theorem d_Sh_addSuit_107 : decode prog_10_method_4_code 107 = .ok (.aload_n 0, 1) := by decide +kernel
theorem d_Sh_addSuit_108 : decode prog_10_method_4_code 108 = .ok (.getfield 38, 3) := by decide +kernel
theorem d_Sh_addSuit_111 : decode prog_10_method_4_code 111 = .ok (.iload 6, 2) := by decide +kernel
theorem d_Sh_addSuit_113 : decode prog_10_method_4_code 113 = .ok (.aload_n 0, 1) := by decide +kernel
theorem d_Sh_addSuit_114 : decode prog_10_method_4_code 114 = .ok (.getfield 38, 3) := by decide +kernel
theorem d_Sh_addSuit_117 : decode prog_10_method_4_code 117 = .ok (.iload 6, 2) := by decide +kernel
theorem d_Sh_addSuit_119 : decode prog_10_method_4_code 119 = .ok (.invokevirtual 71, 3) := by decide +kernel
theorem d_Sh_addSuit_122 : decode prog_10_method_4_code 122 = .ok (.iload 5, 2) := by decide +kernel
theorem d_Sh_addSuit_124 : decode prog_10_method_4_code 124 = .ok (.invokestatic 75, 3) := by decide +kernel
theorem d_Sh_addSuit_127 : decode prog_10_method_4_code 127 = .ok (.ior, 1) := by decide +kernel
theorem d_Sh_addSuit_128 : decode prog_10_method_4_code 128 = .ok (.invokevirtual 67, 3) := by decide +kernel
theorem d_Sh_addSuit_131 : decode prog_10_method_4_code 131 = .ok (.aload_n 0, 1) := by decide +kernel
theorem d_Sh_addSuit_132 : decode prog_10_method_4_code 132 = .ok (.getfield 32, 3) := by decide +kernel
theorem d_Sh_addSuit_135 : decode prog_10_method_4_code 135 = .ok (.iload 6, 2) := by decide +kernel
theorem d_Sh_addSuit_137 : decode prog_10_method_4_code 137 = .ok (.invokevirtual 71, 3) := by decide +kernel
theorem d_Sh_addSuit_140 : decode prog_10_method_4_code 140 = .ok (.istore 6, 2) := by decide +kernel
theorem d_Sh_addSuit_142 : decode prog_10_method_4_code 142 = .ok (.iinc 7 1, 3) := by decide +kernel
theorem d_Sh_addSuit_145 : decode prog_10_method_4_code 145 = .ok (.goto (-51), 3) := by decide +kernel
theorem d_Sh_addSuit_148 : decode prog_10_method_4_code 148 = .ok (.aload_n 0, 1) := by decide +kernel
theorem d_Sh_addSuit_149 : decode prog_10_method_4_code 149 = .ok (.dup, 1) := by decide +kernel
theorem d_Sh_addSuit_150 : decode prog_10_method_4_code 150 = .ok (.getfield 52, 3) := by decide +kernel
theorem d_Sh_addSuit_153 : decode prog_10_method_4_code 153 = .ok (.iconst 1, 1) := by decide +kernel
theorem d_Sh_addSuit_154 : decode prog_10_method_4_code 154 = .ok (.iadd, 1) := by decide +kernel
theorem d_Sh_addSuit_155 : decode prog_10_method_4_code 155 = .ok (.putfield 52, 3) := by decide +kernel
theorem d_Sh_addSuit_158 : decode prog_10_method_4_code 158 = .ok (.return_, 1) := by decide +kernel
theorem d_Rd_readInto_0 : decode prog_8_method_4_code 0 = .ok (.aload_n 1, 1) := by decide +kernel
theorem d_Rd_readInto_1 : decode prog_8_method_4_code 1 = .ok (.ifnonnull 4, 3) := by decide +kernel
theorem d_Rd_readInto_4 : decode prog_8_method_4_code 4 = .ok (.return_, 1) := by decide +kernel
theorem d_Rd_readInto_5 : decode prog_8_method_4_code 5 = .ok (.aload_n 1, 1) := by decide +kernel
theorem d_Rd_readInto_6 : decode prog_8_method_4_code 6 = .ok (.invokevirtual 42, 3) := by decide +kernel
theorem d_Rd_readInto_9 : decode prog_8_method_4_code 9 = .ok (.iconst 0, 1) := by decide +kernel
theorem d_Rd_readInto_10 : decode prog_8_method_4_code 10 = .ok (.istore_n 2, 1) := by decide +kernel
theorem d_Rd_readInto_11 : decode prog_8_method_4_code 11 = .ok (.iload_n 2, 1) := by decide +kernel
theorem d_Rd_readInto_12 : decode prog_8_method_4_code 12 = .ok (.aload_n 0, 1) := by decide +kernel
theorem d_Rd_readInto_13 : decode prog_8_method_4_code 13 = .ok (.getfield 19, 3) := by decide +kernel
theorem d_Rd_readInto_16 : decode prog_8_method_4_code 16 = .ok (.if_icmp .ge 35, 3) := by decide +kernel
theorem d_Rd_readInto_19 : decode prog_8_method_4_code 19 = .ok (.iconst 3, 1) := by decide +kernel
theorem d_Rd_readInto_20 : decode prog_8_method_4_code 20 = .ok (.iload_n 2, 1) := by decide +kernel
theorem d_Rd_readInto_21 : decode prog_8_method_4_code 21 = .ok (.imul, 1) := by decide +kernel
theorem d_Rd_readInto_22 : decode prog_8_method_4_code 22 = .ok (.istore_n 3, 1) := by decide +kernel
theorem d_Rd_readInto_23 : decode prog_8_method_4_code 23 = .ok (.aload_n 1, 1) := by decide +kernel
theorem d_Rd_readInto_24 : decode prog_8_method_4_code 24 = .ok (.aload_n 0, 1) := by decide +kernel
theorem d_Rd_readInto_25 : decode prog_8_method_4_code 25 = .ok (.getfield 9, 3) := by decide +kernel
theorem d_Rd_readInto_28 : decode prog_8_method_4_code 28 = .ok (.iload_n 3, 1) := by decide +kernel
theorem d_Rd_readInto_29 : decode prog_8_method_4_code 29 = .ok (.invokevirtual 47, 3) := by decide +kernel
theorem d_Rd_readInto_32 : decode prog_8_method_4_code 32 = .ok (.aload_n 0, 1) := by decide +kernel
theorem d_Rd_readInto_33 : decode prog_8_method_4_code 33 = .ok (.getfield 9, 3) := by decide +kernel
theorem d_Rd_readInto_36 : decode prog_8_method_4_code 36 = .ok (.iload_n 3, 1) := by decide +kernel
theorem d_Rd_readInto_37 : decode prog_8_method_4_code 37 = .ok (.iconst 1, 1) := by decide +kernel
theorem d_Rd_readInto_38 : decode prog_8_method_4_code 38 = .ok (.iadd, 1) := by decide +kernel
theorem d_Rd_readInto_39 : decode prog_8_method_4_code 39 = .ok (.invokevirtual 47, 3) := by decide +kernel
theorem d_Rd_readInto_42 : decode prog_8_method_4_code 42 = .ok (.invokevirtual 50, 3) := by decide +kernel
theorem d_Rd_readInto_45 : decode prog_8_method_4_code 45 = .ok (.iinc 2 1, 3) := by decide +kernel
theorem d_Rd_readInto_48 : decode prog_8_method_4_code 48 = .ok (.goto (-37), 3) := by decide +kernel
theorem d_Rd_readInto_51 : decode prog_8_method_4_code 51 = .ok (.iconst 0, 1) := by decide +kernel
theorem d_Rd_readInto_52 : decode prog_8_method_4_code 52 = .ok (.istore_n 2, 1) := by decide +kernel
theorem d_Rd_readInto_53 : decode prog_8_method_4_code 53 = .ok (.iload_n 2, 1) := by decide +kernel
theorem d_Rd_readInto_54 : decode prog_8_method_4_code 54 = .ok (.aload_n 0, 1) := by decide +kernel
theorem d_Rd_readInto_55 : decode prog_8_method_4_code 55 = .ok (.getfield 22, 3) := by decide +kernel
theorem d_Rd_readInto_58 : decode prog_8_method_4_code 58 = .ok (.if_icmp .ge 95, 3) := by decide +kernel
theorem d_Rd_readInto_61 : decode prog_8_method_4_code 61 = .ok (.iconst 3, 1) := by decide +kernel
theorem d_Rd_readInto_62 : decode prog_8_method_4_code 62 = .ok (.aload_n 0, 1) := by decide +kernel
theorem d_Rd_readInto_63 : decode prog_8_method_4_code 63 = .ok (.getfield 19, 3) := by decide +kernel
theorem d_Rd_readInto_66 : decode prog_8_method_4_code 66 = .ok (.imul, 1) := by decide +kernel
theorem d_Rd_readInto_67 : decode prog_8_method_4_code 67 = .ok (.iconst 5, 1) := by decide +kernel
theorem d_Rd_readInto_68 : decode prog_8_method_4_code 68 = .ok (.iload_n 2, 1) := by decide +kernel
theorem d_Rd_readInto_69 : decode prog_8_method_4_code 69 = .ok (.imul, 1) := by decide +kernel
theorem d_Rd_readInto_70 : decode prog_8_method_4_code 70 = .ok (.iadd, 1) := by decide +kernel
theorem d_Rd_readInto_71 : decode prog_8_method_4_code 71 = .ok (.istore_n 3, 1) := by decide +kernel
theorem d_Rd_readInto_72 : decode prog_8_method_4_code 72 = .ok (.ldc 54, 2) := by decide +kernel
theorem d_Rd_readInto_74 : decode prog_8_method_4_code 74 = .ok (.aload_n 0, 1) := by decide +kernel
theorem d_Rd_readInto_75 : decode prog_8_method_4_code 75 = .ok (.getfield 9, 3) := by decide +kernel
theorem d_Rd_readInto_78 : decode prog_8_method_4_code 78 = .ok (.iload_n 3, 1) := by decide +kernel
theorem d_Rd_readInto_79 : decode prog_8_method_4_code 79 = .ok (.invokevirtual 31, 3) := by decide +kernel
theorem d_Rd_readInto_82 : decode prog_8_method_4_code 82 = .ok (.i2c, 1) := by decide +kernel
theorem d_Rd_readInto_83 : decode prog_8_method_4_code 83 = .ok (.invokevirtual 56, 3) := by decide +kernel
theorem d_Rd_readInto_86 : decode prog_8_method_4_code 86 = .ok (.istore 4, 2) := by decide +kernel
theorem d_Rd_readInto_88 : decode prog_8_method_4_code 88 = .ok (.aload_n 0, 1) := by decide +kernel
theorem d_Rd_readInto_89 : decode prog_8_method_4_code 89 = .ok (.getfield 9, 3) := by decide +kernel
theorem d_Rd_readInto_92 : decode prog_8_method_4_code 92 = .ok (.iload_n 3, 1) := by decide +kernel
theorem d_Rd_readInto_93 : decode prog_8_method_4_code 93 = .ok (.iconst 3, 1) := by decide +kernel
theorem d_Rd_readInto_94 : decode prog_8_method_4_code 94 = .ok (.iadd, 1) := by decide +kernel
theorem d_Rd_readInto_95 : decode prog_8_method_4_code 95 = .ok (.invokevirtual 31, 3) := by decide +kernel
theorem d_Rd_readInto_98 : decode prog_8_method_4_code 98 = .ok (.bipush 45, 2) := by decide +kernel
theorem d_Rd_readInto_100 : decode prog_8_method_4_code 100 = .ok (.if_icmp .ne 7, 3) := by decide +kernel
theorem d_Rd_readInto_103 : decode prog_8_method_4_code 103 = .ok (.iconst (-1), 1) := by decide +kernel
theorem d_Rd_readInto_104 : decode prog_8_method_4_code 104 = .ok (.goto 13, 3) := by decide +kernel
theorem d_Rd_readInto_107 : decode prog_8_method_4_code 107 = .ok (.aload_n 0, 1) := by decide +kernel
theorem d_Rd_readInto_108 : decode prog_8_method_4_code 108 = .ok (.getfield 9, 3) := by decide +kernel
theorem d_Rd_readInto_111 : decode prog_8_method_4_code 111 = .ok (.iload_n 3, 1) := by decide +kernel
theorem d_Rd_readInto_112 : decode prog_8_method_4_code 112 = .ok (.iconst 3, 1) := by decide +kernel
theorem d_Rd_readInto_113 : decode prog_8_method_4_code 113 = .ok (.iadd, 1) := by decide +kernel
theorem d_Rd_readInto_114 : decode prog_8_method_4_code 114 = .ok (.invokevirtual 47, 3) := by decide +kernel
theorem d_Rd_readInto_117 : decode prog_8_method_4_code 117 = .ok (.istore 5, 2) := by decide +kernel
theorem d_Rd_readInto_119 : decode prog_8_method_4_code 119 = .ok (.aload_n 1, 1) := by decide +kernel
theorem d_Rd_readInto_120 : decode prog_8_method_4_code 120 = .ok (.iload 4, 2) := by decide +kernel
theorem d_Rd_readInto_122 : decode prog_8_method_4_code 122 = .ok (.aload_n 0, 1) := by decide +kernel
theorem d_Rd_readInto_123 : decode prog_8_method_4_code 123 = .ok (.getfield 9, 3) := by decide +kernel
theorem d_Rd_readInto_126 : decode prog_8_method_4_code 126 = .ok (.iload_n 3, 1) := by decide +kernel
theorem d_Rd_readInto_127 : decode prog_8_method_4_code 127 = .ok (.iconst 1, 1) := by decide +kernel
theorem d_Rd_readInto_128 : decode prog_8_method_4_code 128 = .ok (.iadd, 1) := by decide +kernel
theorem d_Rd_readInto_129 : decode prog_8_method_4_code 129 = .ok (.invokevirtual 47, 3) := by decide +kernel
theorem d_Rd_readInto_132 : decode prog_8_method_4_code 132 = .ok (.aload_n 0, 1) := by decide +kernel
theorem d_Rd_readInto_133 : decode prog_8_method_4_code 133 = .ok (.getfield 9, 3) := by decide +kernel
theorem d_Rd_readInto_136 : decode prog_8_method_4_code 136 = .ok (.iload_n 3, 1) := by decide +kernel
theorem d_Rd_readInto_137 : decode prog_8_method_4_code 137 = .ok (.iconst 2, 1) := by decide +kernel
theorem d_Rd_readInto_138 : decode prog_8_method_4_code 138 = .ok (.iadd, 1) := by decide +kernel
theorem d_Rd_readInto_139 : decode prog_8_method_4_code 139 = .ok (.invokevirtual 47, 3) := by decide +kernel
theorem d_Rd_readInto_142 : decode prog_8_method_4_code 142 = .ok (.iload 5, 2) := by decide +kernel
theorem d_Rd_readInto_144 : decode prog_8_method_4_code 144 = .ok (.invokevirtual 61, 3) := by decide +kernel
theorem d_Rd_readInto_147 : decode prog_8_method_4_code 147 = .ok (.iinc 2 1, 3) := by decide +kernel
theorem d_Rd_readInto_150 : decode prog_8_method_4_code 150 = .ok (.goto (-97), 3) := by decide +kernel
theorem d_Rd_readInto_153 : decode prog_8_method_4_code 153 = .ok (.return_, 1) := by decide +kernel
theorem d_Co_shire_0 : decode prog_1_method_5_code 0 = .ok (.aload_n 0, 1) := by decide +kernel
theorem d_Co_shire_1 : decode prog_1_method_5_code 1 = .ok (.getfield 21, 3) := by decide +kernel
theorem d_Co_shire_4 : decode prog_1_method_5_code 4 = .ok (.invokevirtual 79, 3) := by decide +kernel
theorem d_Co_shire_7 : decode prog_1_method_5_code 7 = .ok (.ifCond .ne 6, 3) := by decide +kernel
theorem d_Co_shire_10 : decode prog_1_method_5_code 10 = .ok (.bipush (-103), 2) := by decide +kernel
theorem d_Co_shire_12 : decode prog_1_method_5_code 12 = .ok (.ireturn, 1) := by decide +kernel
theorem d_Co_shire_13 : decode prog_1_method_5_code 13 = .ok (.aload_n 0, 1) := by decide +kernel
theorem d_Co_shire_14 : decode prog_1_method_5_code 14 = .ok (.getfield 21, 3) := by decide +kernel
theorem d_Co_shire_17 : decode prog_1_method_5_code 17 = .ok (.aload_n 0, 1) := by decide +kernel
theorem d_Co_shire_18 : decode prog_1_method_5_code 18 = .ok (.getfield 28, 3) := by decide +kernel
theorem d_Co_shire_21 : decode prog_1_method_5_code 21 = .ok (.invokevirtual 83, 3) := by decide +kernel
theorem d_Co_shire_24 : decode prog_1_method_5_code 24 = .ok (.aload_n 0, 1) := by decide +kernel
theorem d_Co_shire_25 : decode prog_1_method_5_code 25 = .ok (.getfield 10, 3) := by decide +kernel
theorem d_Co_shire_28 : decode prog_1_method_5_code 28 = .ok (.invokevirtual 73, 3) := by decide +kernel
theorem d_Co_shire_31 : decode prog_1_method_5_code 31 = .ok (.aload_n 0, 1) := by decide +kernel
theorem d_Co_shire_32 : decode prog_1_method_5_code 32 = .ok (.iconst 0, 1) := by decide +kernel
theorem d_Co_shire_33 : decode prog_1_method_5_code 33 = .ok (.putfield 86, 3) := by decide +kernel
theorem d_Co_shire_36 : decode prog_1_method_5_code 36 = .ok (.aload_n 0, 1) := by decide +kernel
theorem d_Co_shire_37 : decode prog_1_method_5_code 37 = .ok (.dup, 1) := by decide +kernel
theorem d_Co_shire_38 : decode prog_1_method_5_code 38 = .ok (.getfield 90, 3) := by decide +kernel
theorem d_Co_shire_41 : decode prog_1_method_5_code 41 = .ok (.iconst 1, 1) := by decide +kernel
theorem d_Co_shire_42 : decode prog_1_method_5_code 42 = .ok (.iadd, 1) := by decide +kernel
theorem d_Co_shire_43 : decode prog_1_method_5_code 43 = .ok (.putfield 90, 3) := by decide +kernel
theorem d_Co_shire_46 : decode prog_1_method_5_code 46 = .ok (.aload_n 0, 1) := by decide +kernel
theorem d_Co_shire_47 : decode prog_1_method_5_code 47 = .ok (.getfield 28, 3) := by decide +kernel
theorem d_Co_shire_50 : decode prog_1_method_5_code 50 = .ok (.invokevirtual 94, 3) := by decide +kernel
theorem d_Co_shire_53 : decode prog_1_method_5_code 53 = .ok (.ireturn, 1) := by decide +kernel
theorem d_Sh_unright_0 : decode prog_10_method_34_code 0 = .ok (.aload_n 0, 1) := by decide +kernel
theorem d_Sh_unright_1 : decode prog_10_method_34_code 1 = .ok (.dup, 1) := by decide +kernel
theorem d_Sh_unright_2 : decode prog_10_method_34_code 2 = .ok (.getfield 55, 3) := by decide +kernel
theorem d_Sh_unright_5 : decode prog_10_method_34_code 5 = .ok (.iload_n 1, 1) := by decide +kernel
theorem d_Sh_unright_6 : decode prog_10_method_34_code 6 = .ok (.invokestatic 75, 3) := by decide +kernel
theorem d_Sh_unright_9 : decode prog_10_method_34_code 9 = .ok (.iconst (-1), 1) := by decide +kernel
theorem d_Sh_unright_10 : decode prog_10_method_34_code 10 = .ok (.ixor, 1) := by decide +kernel
theorem d_Sh_unright_11 : decode prog_10_method_34_code 11 = .ok (.iand, 1) := by decide +kernel
theorem d_Sh_unright_12 : decode prog_10_method_34_code 12 = .ok (.putfield 55, 3) := by decide +kernel
theorem d_Sh_unright_15 : decode prog_10_method_34_code 15 = .ok (.return_, 1) := by decide +kernel
theorem d_Co_walk_0 : decode prog_1_method_13_code 0 = .ok (.aload_n 0, 1) := by decide +kernel
theorem d_Co_walk_1 : decode prog_1_method_13_code 1 = .ok (.getfield 28, 3) := by decide +kernel
theorem d_Co_walk_4 : decode prog_1_method_13_code 4 = .ok (.iload_n 1, 1) := by decide +kernel
theorem d_Co_walk_5 : decode prog_1_method_13_code 5 = .ok (.invokevirtual 111, 3) := by decide +kernel
theorem d_Co_walk_8 : decode prog_1_method_13_code 8 = .ok (.ifCond .ne 6, 3) := by decide +kernel
theorem d_Co_walk_11 : decode prog_1_method_13_code 11 = .ok (.bipush (-101), 2) := by decide +kernel
theorem d_Co_walk_13 : decode prog_1_method_13_code 13 = .ok (.ireturn, 1) := by decide +kernel
theorem d_Co_walk_14 : decode prog_1_method_13_code 14 = .ok (.aload_n 0, 1) := by decide +kernel
theorem d_Co_walk_15 : decode prog_1_method_13_code 15 = .ok (.getfield 28, 3) := by decide +kernel
theorem d_Co_walk_18 : decode prog_1_method_13_code 18 = .ok (.invokevirtual 129, 3) := by decide +kernel
theorem d_Co_walk_21 : decode prog_1_method_13_code 21 = .ok (.iload_n 1, 1) := by decide +kernel
theorem d_Co_walk_22 : decode prog_1_method_13_code 22 = .ok (.invokestatic 132, 3) := by decide +kernel
theorem d_Co_walk_25 : decode prog_1_method_13_code 25 = .ok (.ifCond .ne 6, 3) := by decide +kernel
theorem d_Co_walk_28 : decode prog_1_method_13_code 28 = .ok (.bipush (-103), 2) := by decide +kernel
theorem d_Co_walk_30 : decode prog_1_method_13_code 30 = .ok (.ireturn, 1) := by decide +kernel
theorem d_Co_walk_31 : decode prog_1_method_13_code 31 = .ok (.aload_n 0, 1) := by decide +kernel
theorem d_Co_walk_32 : decode prog_1_method_13_code 32 = .ok (.getfield 28, 3) := by decide +kernel
theorem d_Co_walk_35 : decode prog_1_method_13_code 35 = .ok (.iload_n 1, 1) := by decide +kernel
theorem d_Co_walk_36 : decode prog_1_method_13_code 36 = .ok (.invokevirtual 177, 3) := by decide +kernel
theorem d_Co_walk_39 : decode prog_1_method_13_code 39 = .ok (.aload_n 0, 1) := by decide +kernel
theorem d_Co_walk_40 : decode prog_1_method_13_code 40 = .ok (.getfield 28, 3) := by decide +kernel
theorem d_Co_walk_43 : decode prog_1_method_13_code 43 = .ok (.invokevirtual 180, 3) := by decide +kernel
theorem d_Co_walk_46 : decode prog_1_method_13_code 46 = .ok (.ireturn, 1) := by decide +kernel
theorem d_Co_year_0 : decode prog_1_method_10_code 0 = .ok (.aload_n 0, 1) := by decide +kernel
theorem d_Co_year_1 : decode prog_1_method_10_code 1 = .ok (.invokevirtual 161, 3) := by decide +kernel
theorem d_Co_year_4 : decode prog_1_method_10_code 4 = .ok (.ifCond .ne 6, 3) := by decide +kernel
theorem d_Co_year_7 : decode prog_1_method_10_code 7 = .ok (.bipush (-103), 2) := by decide +kernel
theorem d_Co_year_9 : decode prog_1_method_10_code 9 = .ok (.ireturn, 1) := by decide +kernel
theorem d_Co_year_10 : decode prog_1_method_10_code 10 = .ok (.aload_n 0, 1) := by decide +kernel
theorem d_Co_year_11 : decode prog_1_method_10_code 11 = .ok (.getfield 28, 3) := by decide +kernel
theorem d_Co_year_14 : decode prog_1_method_10_code 14 = .ok (.invokevirtual 164, 3) := by decide +kernel
theorem d_Co_year_17 : decode prog_1_method_10_code 17 = .ok (.sipush 999, 3) := by decide +kernel
theorem d_Co_year_20 : decode prog_1_method_10_code 20 = .ok (.if_icmp .lt 6, 3) := by decide +kernel
theorem d_Co_year_23 : decode prog_1_method_10_code 23 = .ok (.bipush (-104), 2) := by decide +kernel
theorem d_Co_year_25 : decode prog_1_method_10_code 25 = .ok (.ireturn, 1) := by decide +kernel
theorem d_Co_year_26 : decode prog_1_method_10_code 26 = .ok (.aload_n 0, 1) := by decide +kernel
theorem d_Co_year_27 : decode prog_1_method_10_code 27 = .ok (.getfield 28, 3) := by decide +kernel
theorem d_Co_year_30 : decode prog_1_method_10_code 30 = .ok (.invokevirtual 167, 3) := by decide +kernel
theorem d_Co_year_33 : decode prog_1_method_10_code 33 = .ok (.aload_n 0, 1) := by decide +kernel
theorem d_Co_year_34 : decode prog_1_method_10_code 34 = .ok (.getfield 28, 3) := by decide +kernel
theorem d_Co_year_37 : decode prog_1_method_10_code 37 = .ok (.invokevirtual 164, 3) := by decide +kernel
theorem d_Co_year_40 : decode prog_1_method_10_code 40 = .ok (.ireturn, 1) := by decide +kernel
theorem d_Mo_isIn_0 : decode prog_13_method_4_code 0 = .ok (.iload_n 0, 1) := by decide +kernel
theorem d_Mo_isIn_1 : decode prog_13_method_4_code 1 = .ok (.iload_n 1, 1) := by decide +kernel
theorem d_Mo_isIn_2 : decode prog_13_method_4_code 2 = .ok (.ishr, 1) := by decide +kernel
theorem d_Mo_isIn_3 : decode prog_13_method_4_code 3 = .ok (.iconst 1, 1) := by decide +kernel
theorem d_Mo_isIn_4 : decode prog_13_method_4_code 4 = .ok (.iand, 1) := by decide +kernel
theorem d_Mo_isIn_5 : decode prog_13_method_4_code 5 = .ok (.iconst 1, 1) := by decide +kernel
theorem d_Mo_isIn_6 : decode prog_13_method_4_code 6 = .ok (.if_icmp .ne 7, 3) := by decide +kernel
theorem d_Mo_isIn_9 : decode prog_13_method_4_code 9 = .ok (.iconst 1, 1) := by decide +kernel
theorem d_Mo_isIn_10 : decode prog_13_method_4_code 10 = .ok (.goto 4, 3) := by decide +kernel
theorem d_Mo_isIn_13 : decode prog_13_method_4_code 13 = .ok (.iconst 0, 1) := by decide +kernel
theorem d_Mo_isIn_14 : decode prog_13_method_4_code 14 = .ok (.ireturn, 1) := by decide +kernel
theorem d_Mo_allOn_0 : decode prog_13_method_20_code 0 = .ok (.iconst 0, 1) := by decide +kernel
theorem d_Mo_allOn_1 : decode prog_13_method_20_code 1 = .ok (.istore_n 2, 1) := by decide +kernel
theorem d_Mo_allOn_2 : decode prog_13_method_20_code 2 = .ok (.iload_n 1, 1) := by decide +kernel
theorem d_Mo_allOn_3 : decode prog_13_method_20_code 3 = .ok (.iconst 1, 1) := by decide +kernel
theorem d_Mo_allOn_4 : decode prog_13_method_20_code 4 = .ok (.iadd, 1) := by decide +kernel
theorem d_Mo_allOn_5 : decode prog_13_method_20_code 5 = .ok (.istore_n 3, 1) := by decide +kernel
theorem d_Mo_allOn_6 : decode prog_13_method_20_code 6 = .ok (.iload_n 3, 1) := by decide +kernel
theorem d_Mo_allOn_7 : decode prog_13_method_20_code 7 = .ok (.aload_n 0, 1) := by decide +kernel
theorem d_Mo_allOn_8 : decode prog_13_method_20_code 8 = .ok (.getfield 124, 3) := by decide +kernel
theorem d_Mo_allOn_11 : decode prog_13_method_20_code 11 = .ok (.if_icmp .ge 64, 3) := by decide +kernel
theorem d_Mo_allOn_14 : decode prog_13_method_20_code 14 = .ok (.aload_n 0, 1) := by decide +kernel
theorem d_Mo_allOn_15 : decode prog_13_method_20_code 15 = .ok (.getfield 25, 3) := by decide +kernel
theorem d_Mo_allOn_18 : decode prog_13_method_20_code 18 = .ok (.iload_n 3, 1) := by decide +kernel
theorem d_Mo_allOn_19 : decode prog_13_method_20_code 19 = .ok (.iaload, 1) := by decide +kernel
theorem d_Mo_allOn_20 : decode prog_13_method_20_code 20 = .ok (.iload_n 1, 1) := by decide +kernel
theorem d_Mo_allOn_21 : decode prog_13_method_20_code 21 = .ok (.if_icmp .eq 26, 3) := by decide +kernel
theorem d_Mo_allOn_24 : decode prog_13_method_20_code 24 = .ok (.aload_n 0, 1) := by decide +kernel
theorem d_Mo_allOn_25 : decode prog_13_method_20_code 25 = .ok (.getfield 25, 3) := by decide +kernel
theorem d_Mo_allOn_28 : decode prog_13_method_20_code 28 = .ok (.iload_n 3, 1) := by decide +kernel
theorem d_Mo_allOn_29 : decode prog_13_method_20_code 29 = .ok (.iaload, 1) := by decide +kernel
theorem d_Mo_allOn_30 : decode prog_13_method_20_code 30 = .ok (.iconst (-1), 1) := by decide +kernel
theorem d_Mo_allOn_31 : decode prog_13_method_20_code 31 = .ok (.if_icmp .eq 20, 3) := by decide +kernel
theorem d_Mo_allOn_34 : decode prog_13_method_20_code 34 = .ok (.iload_n 2, 1) := by decide +kernel
theorem d_Mo_allOn_35 : decode prog_13_method_20_code 35 = .ok (.aload_n 0, 1) := by decide +kernel
theorem d_Mo_allOn_36 : decode prog_13_method_20_code 36 = .ok (.getfield 25, 3) := by decide +kernel
theorem d_Mo_allOn_39 : decode prog_13_method_20_code 39 = .ok (.iload_n 3, 1) := by decide +kernel
theorem d_Mo_allOn_40 : decode prog_13_method_20_code 40 = .ok (.iaload, 1) := by decide +kernel
theorem d_Mo_allOn_41 : decode prog_13_method_20_code 41 = .ok (.invokestatic 142, 3) := by decide +kernel
theorem d_Mo_allOn_44 : decode prog_13_method_20_code 44 = .ok (.ifCond .eq 7, 3) := by decide +kernel
theorem d_Mo_allOn_47 : decode prog_13_method_20_code 47 = .ok (.iconst 1, 1) := by decide +kernel
theorem d_Mo_allOn_48 : decode prog_13_method_20_code 48 = .ok (.goto 4, 3) := by decide +kernel
theorem d_Mo_allOn_51 : decode prog_13_method_20_code 51 = .ok (.iconst 0, 1) := by decide +kernel
theorem d_Mo_allOn_52 : decode prog_13_method_20_code 52 = .ok (.istore 4, 2) := by decide +kernel
theorem d_Mo_allOn_54 : decode prog_13_method_20_code 54 = .ok (.iload_n 2, 1) := by decide +kernel
theorem d_Mo_allOn_55 : decode prog_13_method_20_code 55 = .ok (.iload 4, 2) := by decide +kernel
theorem d_Mo_allOn_57 : decode prog_13_method_20_code 57 = .ok (.ifCond .eq 9, 3) := by decide +kernel
theorem d_Mo_allOn_60 : decode prog_13_method_20_code 60 = .ok (.iconst 1, 1) := by decide +kernel
theorem d_Mo_allOn_61 : decode prog_13_method_20_code 61 = .ok (.iload_n 3, 1) := by decide +kernel
theorem d_Mo_allOn_62 : decode prog_13_method_20_code 62 = .ok (.ishl, 1) := by decide +kernel
theorem d_Mo_allOn_63 : decode prog_13_method_20_code 63 = .ok (.goto 4, 3) := by decide +kernel
theorem d_Mo_allOn_66 : decode prog_13_method_20_code 66 = .ok (.iconst 0, 1) := by decide +kernel
theorem d_Mo_allOn_67 : decode prog_13_method_20_code 67 = .ok (.ior, 1) := by decide +kernel
theorem d_Mo_allOn_68 : decode prog_13_method_20_code 68 = .ok (.istore_n 2, 1) := by decide +kernel
theorem d_Mo_allOn_69 : decode prog_13_method_20_code 69 = .ok (.iinc 3 1, 3) := by decide +kernel
theorem d_Mo_allOn_72 : decode prog_13_method_20_code 72 = .ok (.goto (-66), 3) := by decide +kernel
theorem d_Mo_allOn_75 : decode prog_13_method_20_code 75 = .ok (.iload_n 2, 1) := by decide +kernel
theorem d_Mo_allOn_76 : decode prog_13_method_20_code 76 = .ok (.ireturn, 1) := by decide +kernel
theorem d_Mo_within_0 : decode prog_13_method_3_code 0 = .ok (.iload_n 0, 1) := by decide +kernel
theorem d_Mo_within_1 : decode prog_13_method_3_code 1 = .ok (.iload_n 1, 1) := by decide +kernel
theorem d_Mo_within_2 : decode prog_13_method_3_code 2 = .ok (.if_icmp .lt 12, 3) := by decide +kernel
theorem d_Mo_within_5 : decode prog_13_method_3_code 5 = .ok (.iload_n 0, 1) := by decide +kernel
theorem d_Mo_within_6 : decode prog_13_method_3_code 6 = .ok (.iload_n 2, 1) := by decide +kernel
theorem d_Mo_within_7 : decode prog_13_method_3_code 7 = .ok (.if_icmp .gt 7, 3) := by decide +kernel
theorem d_Mo_within_10 : decode prog_13_method_3_code 10 = .ok (.iconst 1, 1) := by decide +kernel
theorem d_Mo_within_11 : decode prog_13_method_3_code 11 = .ok (.goto 4, 3) := by decide +kernel
theorem d_Mo_within_14 : decode prog_13_method_3_code 14 = .ok (.iconst 0, 1) := by decide +kernel
theorem d_Mo_within_15 : decode prog_13_method_3_code 15 = .ok (.ireturn, 1) := by decide +kernel
theorem d_Mo_isCase_0 : decode prog_13_method_18_code 0 = .ok (.iload_n 1, 1) := by decide +kernel
theorem d_Mo_isCase_1 : decode prog_13_method_18_code 1 = .ok (.iconst 0, 1) := by decide +kernel
theorem d_Mo_isCase_2 : decode prog_13_method_18_code 2 = .ok (.aload_n 0, 1) := by decide +kernel
theorem d_Mo_isCase_3 : decode prog_13_method_18_code 3 = .ok (.getfield 124, 3) := by decide +kernel
theorem d_Mo_isCase_6 : decode prog_13_method_18_code 6 = .ok (.iconst 1, 1) := by decide +kernel
theorem d_Mo_isCase_7 : decode prog_13_method_18_code 7 = .ok (.isub, 1) := by decide +kernel
theorem d_Mo_isCase_8 : decode prog_13_method_18_code 8 = .ok (.invokestatic 83, 3) := by decide +kernel
theorem d_Mo_isCase_11 : decode prog_13_method_18_code 11 = .ok (.ireturn, 1) := by decide +kernel
theorem d_Mo_as_0 : decode prog_13_method_29_code 0 = .ok (.aload_n 0, 1) := by decide +kernel
theorem d_Mo_as_1 : decode prog_13_method_29_code 1 = .ok (.iload_n 1, 1) := by decide +kernel
theorem d_Mo_as_2 : decode prog_13_method_29_code 2 = .ok (.invokevirtual 178, 3) := by decide +kernel
theorem d_Mo_as_5 : decode prog_13_method_29_code 5 = .ok (.ifCond .ne 6, 3) := by decide +kernel
theorem d_Mo_as_8 : decode prog_13_method_29_code 8 = .ok (.bipush (-101), 2) := by decide +kernel
theorem d_Mo_as_10 : decode prog_13_method_29_code 10 = .ok (.ireturn, 1) := by decide +kernel
theorem d_Mo_as_11 : decode prog_13_method_29_code 11 = .ok (.iload_n 2, 1) := by decide +kernel
theorem d_Mo_as_12 : decode prog_13_method_29_code 12 = .ok (.iconst 0, 1) := by decide +kernel
theorem d_Mo_as_13 : decode prog_13_method_29_code 13 = .ok (.iconst 4, 1) := by decide +kernel
theorem d_Mo_as_14 : decode prog_13_method_29_code 14 = .ok (.invokestatic 83, 3) := by decide +kernel
theorem d_Mo_as_17 : decode prog_13_method_29_code 17 = .ok (.ifCond .ne 6, 3) := by decide +kernel
theorem d_Mo_as_20 : decode prog_13_method_29_code 20 = .ok (.bipush (-102), 2) := by decide +kernel
theorem d_Mo_as_22 : decode prog_13_method_29_code 22 = .ok (.ireturn, 1) := by decide +kernel
theorem d_Mo_as_23 : decode prog_13_method_29_code 23 = .ok (.aload_n 0, 1) := by decide +kernel
theorem d_Mo_as_24 : decode prog_13_method_29_code 24 = .ok (.getfield 16, 3) := by decide +kernel
theorem d_Mo_as_27 : decode prog_13_method_29_code 27 = .ok (.iload_n 1, 1) := by decide +kernel
theorem d_Mo_as_28 : decode prog_13_method_29_code 28 = .ok (.iaload, 1) := by decide +kernel
theorem d_Mo_as_29 : decode prog_13_method_29_code 29 = .ok (.istore_n 3, 1) := by decide +kernel
theorem d_Mo_as_30 : decode prog_13_method_29_code 30 = .ok (.iload_n 2, 1) := by decide +kernel
theorem d_Mo_as_31 : decode prog_13_method_29_code 31 = .ok (.ifCond .eq 18, 3) := by decide +kernel
theorem d_Mo_as_34 : decode prog_13_method_29_code 34 = .ok (.iload_n 3, 1) := by decide +kernel
theorem d_Mo_as_35 : decode prog_13_method_29_code 35 = .ok (.iload_n 2, 1) := by decide +kernel
theorem d_Mo_as_36 : decode prog_13_method_29_code 36 = .ok (.if_icmp .eq 13, 3) := by decide +kernel
theorem d_Mo_as_39 : decode prog_13_method_29_code 39 = .ok (.iload_n 2, 1) := by decide +kernel
theorem d_Mo_as_40 : decode prog_13_method_29_code 40 = .ok (.iconst 1, 1) := by decide +kernel
theorem d_Mo_as_41 : decode prog_13_method_29_code 41 = .ok (.if_icmp .ne 12, 3) := by decide +kernel
theorem d_Mo_as_44 : decode prog_13_method_29_code 44 = .ok (.iload_n 3, 1) := by decide +kernel
theorem d_Mo_as_45 : decode prog_13_method_29_code 45 = .ok (.iconst 4, 1) := by decide +kernel
theorem d_Mo_as_46 : decode prog_13_method_29_code 46 = .ok (.if_icmp .ne 7, 3) := by decide +kernel
theorem d_Mo_as_49 : decode prog_13_method_29_code 49 = .ok (.iload_n 1, 1) := by decide +kernel
theorem d_Mo_as_50 : decode prog_13_method_29_code 50 = .ok (.goto 4, 3) := by decide +kernel
theorem d_Mo_as_53 : decode prog_13_method_29_code 53 = .ok (.iconst (-1), 1) := by decide +kernel
theorem d_Mo_as_54 : decode prog_13_method_29_code 54 = .ok (.ireturn, 1) := by decide +kernel
theorem d_Mo_at_0 : decode prog_13_method_10_code 0 = .ok (.iload_n 1, 1) := by decide +kernel
theorem d_Mo_at_1 : decode prog_13_method_10_code 1 = .ok (.aload_n 0, 1) := by decide +kernel
theorem d_Mo_at_2 : decode prog_13_method_10_code 2 = .ok (.getfield 87, 3) := by decide +kernel
theorem d_Mo_at_5 : decode prog_13_method_10_code 5 = .ok (.if_icmp .ge 12, 3) := by decide +kernel
theorem d_Mo_at_8 : decode prog_13_method_10_code 8 = .ok (.aload_n 0, 1) := by decide +kernel
theorem d_Mo_at_9 : decode prog_13_method_10_code 9 = .ok (.getfield 37, 3) := by decide +kernel
theorem d_Mo_at_12 : decode prog_13_method_10_code 12 = .ok (.iload_n 1, 1) := by decide +kernel
theorem d_Mo_at_13 : decode prog_13_method_10_code 13 = .ok (.baload, 1) := by decide +kernel
theorem d_Mo_at_14 : decode prog_13_method_10_code 14 = .ok (.goto 4, 3) := by decide +kernel
theorem d_Mo_at_17 : decode prog_13_method_10_code 17 = .ok (.iconst 0, 1) := by decide +kernel
theorem d_Mo_at_18 : decode prog_13_method_10_code 18 = .ok (.ireturn, 1) := by decide +kernel
theorem d_Mo_isOpen_0 : decode prog_13_method_22_code 0 = .ok (.aload_n 0, 1) := by decide +kernel
theorem d_Mo_isOpen_1 : decode prog_13_method_22_code 1 = .ok (.getfield 16, 3) := by decide +kernel
theorem d_Mo_isOpen_4 : decode prog_13_method_22_code 4 = .ok (.iload_n 1, 1) := by decide +kernel
theorem d_Mo_isOpen_5 : decode prog_13_method_22_code 5 = .ok (.iaload, 1) := by decide +kernel
theorem d_Mo_isOpen_6 : decode prog_13_method_22_code 6 = .ok (.iconst 3, 1) := by decide +kernel
theorem d_Mo_isOpen_7 : decode prog_13_method_22_code 7 = .ok (.if_icmp .ne 26, 3) := by decide +kernel
theorem d_Mo_isOpen_10 : decode prog_13_method_22_code 10 = .ok (.aload_n 0, 1) := by decide +kernel
theorem d_Mo_isOpen_11 : decode prog_13_method_22_code 11 = .ok (.getfield 25, 3) := by decide +kernel
theorem d_Mo_isOpen_14 : decode prog_13_method_22_code 14 = .ok (.iload_n 1, 1) := by decide +kernel
theorem d_Mo_isOpen_15 : decode prog_13_method_22_code 15 = .ok (.iaload, 1) := by decide +kernel
theorem d_Mo_isOpen_16 : decode prog_13_method_22_code 16 = .ok (.iconst (-1), 1) := by decide +kernel
theorem d_Mo_isOpen_17 : decode prog_13_method_22_code 17 = .ok (.if_icmp .eq 16, 3) := by decide +kernel
theorem d_Mo_isOpen_20 : decode prog_13_method_22_code 20 = .ok (.iload_n 2, 1) := by decide +kernel
theorem d_Mo_isOpen_21 : decode prog_13_method_22_code 21 = .ok (.aload_n 0, 1) := by decide +kernel
theorem d_Mo_isOpen_22 : decode prog_13_method_22_code 22 = .ok (.getfield 25, 3) := by decide +kernel
theorem d_Mo_isOpen_25 : decode prog_13_method_22_code 25 = .ok (.iload_n 1, 1) := by decide +kernel
theorem d_Mo_isOpen_26 : decode prog_13_method_22_code 26 = .ok (.iaload, 1) := by decide +kernel
theorem d_Mo_isOpen_27 : decode prog_13_method_22_code 27 = .ok (.invokestatic 142, 3) := by decide +kernel
theorem d_Mo_isOpen_30 : decode prog_13_method_22_code 30 = .ok (.ifCond .eq 7, 3) := by decide +kernel
theorem d_Mo_isOpen_33 : decode prog_13_method_22_code 33 = .ok (.iconst 1, 1) := by decide +kernel
theorem d_Mo_isOpen_34 : decode prog_13_method_22_code 34 = .ok (.goto 4, 3) := by decide +kernel
theorem d_Mo_isOpen_37 : decode prog_13_method_22_code 37 = .ok (.iconst 0, 1) := by decide +kernel
theorem d_Mo_isOpen_38 : decode prog_13_method_22_code 38 = .ok (.istore_n 3, 1) := by decide +kernel
theorem d_Mo_isOpen_39 : decode prog_13_method_22_code 39 = .ok (.iload_n 2, 1) := by decide +kernel
theorem d_Mo_isOpen_40 : decode prog_13_method_22_code 40 = .ok (.iload_n 1, 1) := by decide +kernel
theorem d_Mo_isOpen_41 : decode prog_13_method_22_code 41 = .ok (.invokestatic 142, 3) := by decide +kernel
theorem d_Mo_isOpen_44 : decode prog_13_method_22_code 44 = .ok (.ifCond .ne 11, 3) := by decide +kernel
theorem d_Mo_isOpen_47 : decode prog_13_method_22_code 47 = .ok (.iload_n 3, 1) := by decide +kernel
theorem d_Mo_isOpen_48 : decode prog_13_method_22_code 48 = .ok (.ifCond .eq 7, 3) := by decide +kernel
theorem d_Mo_isOpen_51 : decode prog_13_method_22_code 51 = .ok (.iconst 1, 1) := by decide +kernel
theorem d_Mo_isOpen_52 : decode prog_13_method_22_code 52 = .ok (.goto 4, 3) := by decide +kernel
theorem d_Mo_isOpen_55 : decode prog_13_method_22_code 55 = .ok (.iconst 0, 1) := by decide +kernel
theorem d_Mo_isOpen_56 : decode prog_13_method_22_code 56 = .ok (.ireturn, 1) := by decide +kernel
theorem d_Mo_straight_0 : decode prog_13_method_19_code 0 = .ok (.iconst 0, 1) := by decide +kernel
theorem d_Mo_straight_1 : decode prog_13_method_19_code 1 = .ok (.istore_n 2, 1) := by decide +kernel
theorem d_Mo_straight_2 : decode prog_13_method_19_code 2 = .ok (.iconst 0, 1) := by decide +kernel
theorem d_Mo_straight_3 : decode prog_13_method_19_code 3 = .ok (.istore_n 3, 1) := by decide +kernel
theorem d_Mo_straight_4 : decode prog_13_method_19_code 4 = .ok (.iload_n 3, 1) := by decide +kernel
theorem d_Mo_straight_5 : decode prog_13_method_19_code 5 = .ok (.aload_n 0, 1) := by decide +kernel
theorem d_Mo_straight_6 : decode prog_13_method_19_code 6 = .ok (.getfield 124, 3) := by decide +kernel
theorem d_Mo_straight_9 : decode prog_13_method_19_code 9 = .ok (.if_icmp .ge 27, 3) := by decide +kernel
theorem d_Mo_straight_12 : decode prog_13_method_19_code 12 = .ok (.iload_n 2, 1) := by decide +kernel
theorem d_Mo_straight_13 : decode prog_13_method_19_code 13 = .ok (.aload_n 0, 1) := by decide +kernel
theorem d_Mo_straight_14 : decode prog_13_method_19_code 14 = .ok (.getfield 25, 3) := by decide +kernel
theorem d_Mo_straight_17 : decode prog_13_method_19_code 17 = .ok (.iload_n 3, 1) := by decide +kernel
theorem d_Mo_straight_18 : decode prog_13_method_19_code 18 = .ok (.iaload, 1) := by decide +kernel
theorem d_Mo_straight_19 : decode prog_13_method_19_code 19 = .ok (.iload_n 1, 1) := by decide +kernel
theorem d_Mo_straight_20 : decode prog_13_method_19_code 20 = .ok (.if_icmp .ne 7, 3) := by decide +kernel
theorem d_Mo_straight_23 : decode prog_13_method_19_code 23 = .ok (.iconst 1, 1) := by decide +kernel
theorem d_Mo_straight_24 : decode prog_13_method_19_code 24 = .ok (.goto 4, 3) := by decide +kernel
theorem d_Mo_straight_27 : decode prog_13_method_19_code 27 = .ok (.iconst 0, 1) := by decide +kernel
theorem d_Mo_straight_28 : decode prog_13_method_19_code 28 = .ok (.iadd, 1) := by decide +kernel
theorem d_Mo_straight_29 : decode prog_13_method_19_code 29 = .ok (.istore_n 2, 1) := by decide +kernel
theorem d_Mo_straight_30 : decode prog_13_method_19_code 30 = .ok (.iinc 3 1, 3) := by decide +kernel
theorem d_Mo_straight_33 : decode prog_13_method_19_code 33 = .ok (.goto (-29), 3) := by decide +kernel
theorem d_Mo_straight_36 : decode prog_13_method_19_code 36 = .ok (.iload_n 2, 1) := by decide +kernel
theorem d_Mo_straight_37 : decode prog_13_method_19_code 37 = .ok (.ireturn, 1) := by decide +kernel
theorem d_Mo_cost_0 : decode prog_13_method_21_code 0 = .ok (.aload_n 0, 1) := by decide +kernel
theorem d_Mo_cost_1 : decode prog_13_method_21_code 1 = .ok (.getfield 19, 3) := by decide +kernel
theorem d_Mo_cost_4 : decode prog_13_method_21_code 4 = .ok (.iload_n 1, 1) := by decide +kernel
theorem d_Mo_cost_5 : decode prog_13_method_21_code 5 = .ok (.iaload, 1) := by decide +kernel
theorem d_Mo_cost_6 : decode prog_13_method_21_code 6 = .ok (.aload_n 0, 1) := by decide +kernel
theorem d_Mo_cost_7 : decode prog_13_method_21_code 7 = .ok (.iload_n 1, 1) := by decide +kernel
theorem d_Mo_cost_8 : decode prog_13_method_21_code 8 = .ok (.invokevirtual 146, 3) := by decide +kernel
theorem d_Mo_cost_11 : decode prog_13_method_21_code 11 = .ok (.isub, 1) := by decide +kernel
theorem d_Mo_cost_12 : decode prog_13_method_21_code 12 = .ok (.istore_n 2, 1) := by decide +kernel
theorem d_Mo_cost_13 : decode prog_13_method_21_code 13 = .ok (.iload_n 2, 1) := by decide +kernel
theorem d_Mo_cost_14 : decode prog_13_method_21_code 14 = .ok (.iconst 1, 1) := by decide +kernel
theorem d_Mo_cost_15 : decode prog_13_method_21_code 15 = .ok (.if_icmp .ge 7, 3) := by decide +kernel
theorem d_Mo_cost_18 : decode prog_13_method_21_code 18 = .ok (.iconst 1, 1) := by decide +kernel
theorem d_Mo_cost_19 : decode prog_13_method_21_code 19 = .ok (.goto 4, 3) := by decide +kernel
theorem d_Mo_cost_22 : decode prog_13_method_21_code 22 = .ok (.iload_n 2, 1) := by decide +kernel
theorem d_Mo_cost_23 : decode prog_13_method_21_code 23 = .ok (.istore_n 3, 1) := by decide +kernel
theorem d_Mo_cost_24 : decode prog_13_method_21_code 24 = .ok (.aload_n 0, 1) := by decide +kernel
theorem d_Mo_cost_25 : decode prog_13_method_21_code 25 = .ok (.getfield 16, 3) := by decide +kernel
theorem d_Mo_cost_28 : decode prog_13_method_21_code 28 = .ok (.iload_n 1, 1) := by decide +kernel
theorem d_Mo_cost_29 : decode prog_13_method_21_code 29 = .ok (.iaload, 1) := by decide +kernel
theorem d_Mo_cost_30 : decode prog_13_method_21_code 30 = .ok (.tableswitch 47 1 4 #[30, 38, 47, 32], 30) := by decide +kernel
theorem d_Mo_cost_60 : decode prog_13_method_21_code 60 = .ok (.iload_n 3, 1) := by decide +kernel
theorem d_Mo_cost_61 : decode prog_13_method_21_code 61 = .ok (.ireturn, 1) := by decide +kernel
theorem d_Mo_cost_62 : decode prog_13_method_21_code 62 = .ok (.iload_n 3, 1) := by decide +kernel
theorem d_Mo_cost_63 : decode prog_13_method_21_code 63 = .ok (.iconst 1, 1) := by decide +kernel
theorem d_Mo_cost_64 : decode prog_13_method_21_code 64 = .ok (.iadd, 1) := by decide +kernel
theorem d_Mo_cost_65 : decode prog_13_method_21_code 65 = .ok (.iconst 2, 1) := by decide +kernel
theorem d_Mo_cost_66 : decode prog_13_method_21_code 66 = .ok (.idiv, 1) := by decide +kernel
theorem d_Mo_cost_67 : decode prog_13_method_21_code 67 = .ok (.ireturn, 1) := by decide +kernel
theorem d_Mo_cost_68 : decode prog_13_method_21_code 68 = .ok (.iconst 2, 1) := by decide +kernel
theorem d_Mo_cost_69 : decode prog_13_method_21_code 69 = .ok (.aload_n 0, 1) := by decide +kernel
theorem d_Mo_cost_70 : decode prog_13_method_21_code 70 = .ok (.getfield 19, 3) := by decide +kernel
theorem d_Mo_cost_73 : decode prog_13_method_21_code 73 = .ok (.iload_n 1, 1) := by decide +kernel
theorem d_Mo_cost_74 : decode prog_13_method_21_code 74 = .ok (.iaload, 1) := by decide +kernel
theorem d_Mo_cost_75 : decode prog_13_method_21_code 75 = .ok (.imul, 1) := by decide +kernel
theorem d_Mo_cost_76 : decode prog_13_method_21_code 76 = .ok (.ireturn, 1) := by decide +kernel
theorem d_Mo_cost_77 : decode prog_13_method_21_code 77 = .ok (.aload_n 0, 1) := by decide +kernel
theorem d_Mo_cost_78 : decode prog_13_method_21_code 78 = .ok (.getfield 19, 3) := by decide +kernel
theorem d_Mo_cost_81 : decode prog_13_method_21_code 81 = .ok (.iload_n 1, 1) := by decide +kernel
theorem d_Mo_cost_82 : decode prog_13_method_21_code 82 = .ok (.iaload, 1) := by decide +kernel
theorem d_Mo_cost_83 : decode prog_13_method_21_code 83 = .ok (.ireturn, 1) := by decide +kernel
theorem d_Mo_costIn_0 : decode prog_13_method_40_code 0 = .ok (.iconst 0, 1) := by decide +kernel
theorem d_Mo_costIn_1 : decode prog_13_method_40_code 1 = .ok (.istore_n 2, 1) := by decide +kernel
theorem d_Mo_costIn_2 : decode prog_13_method_40_code 2 = .ok (.iconst 0, 1) := by decide +kernel
theorem d_Mo_costIn_3 : decode prog_13_method_40_code 3 = .ok (.istore_n 3, 1) := by decide +kernel
theorem d_Mo_costIn_4 : decode prog_13_method_40_code 4 = .ok (.iload_n 3, 1) := by decide +kernel
theorem d_Mo_costIn_5 : decode prog_13_method_40_code 5 = .ok (.aload_n 0, 1) := by decide +kernel
theorem d_Mo_costIn_6 : decode prog_13_method_40_code 6 = .ok (.getfield 124, 3) := by decide +kernel
theorem d_Mo_costIn_9 : decode prog_13_method_40_code 9 = .ok (.if_icmp .ge 29, 3) := by decide +kernel
theorem d_Mo_costIn_12 : decode prog_13_method_40_code 12 = .ok (.iload_n 2, 1) := by decide +kernel
theorem d_Mo_costIn_13 : decode prog_13_method_40_code 13 = .ok (.iload_n 1, 1) := by decide +kernel
theorem d_Mo_costIn_14 : decode prog_13_method_40_code 14 = .ok (.iload_n 3, 1) := by decide +kernel
theorem d_Mo_costIn_15 : decode prog_13_method_40_code 15 = .ok (.invokestatic 142, 3) := by decide +kernel
theorem d_Mo_costIn_18 : decode prog_13_method_40_code 18 = .ok (.ifCond .eq 11, 3) := by decide +kernel
theorem d_Mo_costIn_21 : decode prog_13_method_40_code 21 = .ok (.aload_n 0, 1) := by decide +kernel
theorem d_Mo_costIn_22 : decode prog_13_method_40_code 22 = .ok (.iload_n 3, 1) := by decide +kernel
theorem d_Mo_costIn_23 : decode prog_13_method_40_code 23 = .ok (.invokevirtual 152, 3) := by decide +kernel
theorem d_Mo_costIn_26 : decode prog_13_method_40_code 26 = .ok (.goto 4, 3) := by decide +kernel
theorem d_Mo_costIn_29 : decode prog_13_method_40_code 29 = .ok (.iconst 0, 1) := by decide +kernel
theorem d_Mo_costIn_30 : decode prog_13_method_40_code 30 = .ok (.iadd, 1) := by decide +kernel
theorem d_Mo_costIn_31 : decode prog_13_method_40_code 31 = .ok (.istore_n 2, 1) := by decide +kernel
theorem d_Mo_costIn_32 : decode prog_13_method_40_code 32 = .ok (.iinc 3 1, 3) := by decide +kernel
theorem d_Mo_costIn_35 : decode prog_13_method_40_code 35 = .ok (.goto (-31), 3) := by decide +kernel
theorem d_Mo_costIn_38 : decode prog_13_method_40_code 38 = .ok (.iload_n 2, 1) := by decide +kernel
theorem d_Mo_costIn_39 : decode prog_13_method_40_code 39 = .ok (.ireturn, 1) := by decide +kernel
theorem d_Mo_mayNext_0 : decode prog_13_method_41_code 0 = .ok (.aload_n 0, 1) := by decide +kernel
theorem d_Mo_mayNext_1 : decode prog_13_method_41_code 1 = .ok (.iload_n 3, 1) := by decide +kernel
theorem d_Mo_mayNext_2 : decode prog_13_method_41_code 2 = .ok (.aload_n 0, 1) := by decide +kernel
theorem d_Mo_mayNext_3 : decode prog_13_method_41_code 3 = .ok (.getfield 127, 3) := by decide +kernel
theorem d_Mo_mayNext_6 : decode prog_13_method_41_code 6 = .ok (.iload_n 2, 1) := by decide +kernel
theorem d_Mo_mayNext_7 : decode prog_13_method_41_code 7 = .ok (.ior, 1) := by decide +kernel
theorem d_Mo_mayNext_8 : decode prog_13_method_41_code 8 = .ok (.invokevirtual 149, 3) := by decide +kernel
theorem d_Mo_mayNext_11 : decode prog_13_method_41_code 11 = .ok (.ifCond .eq 27, 3) := by decide +kernel
theorem d_Mo_mayNext_14 : decode prog_13_method_41_code 14 = .ok (.aload_n 0, 1) := by decide +kernel
theorem d_Mo_mayNext_15 : decode prog_13_method_41_code 15 = .ok (.iload_n 2, 1) := by decide +kernel
theorem d_Mo_mayNext_16 : decode prog_13_method_41_code 16 = .ok (.invokevirtual 210, 3) := by decide +kernel
theorem d_Mo_mayNext_19 : decode prog_13_method_41_code 19 = .ok (.aload_n 0, 1) := by decide +kernel
theorem d_Mo_mayNext_20 : decode prog_13_method_41_code 20 = .ok (.iload_n 3, 1) := by decide +kernel
theorem d_Mo_mayNext_21 : decode prog_13_method_41_code 21 = .ok (.invokevirtual 152, 3) := by decide +kernel
theorem d_Mo_mayNext_24 : decode prog_13_method_41_code 24 = .ok (.iadd, 1) := by decide +kernel
theorem d_Mo_mayNext_25 : decode prog_13_method_41_code 25 = .ok (.aload_n 0, 1) := by decide +kernel
theorem d_Mo_mayNext_26 : decode prog_13_method_41_code 26 = .ok (.getfield 7, 3) := by decide +kernel
theorem d_Mo_mayNext_29 : decode prog_13_method_41_code 29 = .ok (.iload_n 1, 1) := by decide +kernel
theorem d_Mo_mayNext_30 : decode prog_13_method_41_code 30 = .ok (.iaload, 1) := by decide +kernel
theorem d_Mo_mayNext_31 : decode prog_13_method_41_code 31 = .ok (.if_icmp .gt 7, 3) := by decide +kernel
theorem d_Mo_mayNext_34 : decode prog_13_method_41_code 34 = .ok (.iconst 1, 1) := by decide +kernel
theorem d_Mo_mayNext_35 : decode prog_13_method_41_code 35 = .ok (.goto 4, 3) := by decide +kernel
theorem d_Mo_mayNext_38 : decode prog_13_method_41_code 38 = .ok (.iconst 0, 1) := by decide +kernel
theorem d_Mo_mayNext_39 : decode prog_13_method_41_code 39 = .ok (.ireturn, 1) := by decide +kernel
theorem d_Mo_bestNext_0 : decode prog_13_method_42_code 0 = .ok (.iconst (-1), 1) := by decide +kernel
theorem d_Mo_bestNext_1 : decode prog_13_method_42_code 1 = .ok (.istore_n 3, 1) := by decide +kernel
theorem d_Mo_bestNext_2 : decode prog_13_method_42_code 2 = .ok (.iconst 0, 1) := by decide +kernel
theorem d_Mo_bestNext_3 : decode prog_13_method_42_code 3 = .ok (.istore 4, 2) := by decide +kernel
theorem d_Mo_bestNext_5 : decode prog_13_method_42_code 5 = .ok (.iload 4, 2) := by decide +kernel
theorem d_Mo_bestNext_7 : decode prog_13_method_42_code 7 = .ok (.aload_n 0, 1) := by decide +kernel
theorem d_Mo_bestNext_8 : decode prog_13_method_42_code 8 = .ok (.getfield 124, 3) := by decide +kernel
theorem d_Mo_bestNext_11 : decode prog_13_method_42_code 11 = .ok (.if_icmp .ge 100, 3) := by decide +kernel
theorem d_Mo_bestNext_14 : decode prog_13_method_42_code 14 = .ok (.aload_n 0, 1) := by decide +kernel
theorem d_Mo_bestNext_15 : decode prog_13_method_42_code 15 = .ok (.iload_n 1, 1) := by decide +kernel
theorem d_Mo_bestNext_16 : decode prog_13_method_42_code 16 = .ok (.iload_n 2, 1) := by decide +kernel
theorem d_Mo_bestNext_17 : decode prog_13_method_42_code 17 = .ok (.iload 4, 2) := by decide +kernel
theorem d_Mo_bestNext_19 : decode prog_13_method_42_code 19 = .ok (.invokevirtual 213, 3) := by decide +kernel
theorem d_Mo_bestNext_22 : decode prog_13_method_42_code 22 = .ok (.istore 5, 2) := by decide +kernel
theorem d_Mo_bestNext_24 : decode prog_13_method_42_code 24 = .ok (.iload 5, 2) := by decide +kernel
theorem d_Mo_bestNext_26 : decode prog_13_method_42_code 26 = .ok (.ifCond .eq 25, 3) := by decide +kernel
theorem d_Mo_bestNext_29 : decode prog_13_method_42_code 29 = .ok (.aload_n 0, 1) := by decide +kernel
theorem d_Mo_bestNext_30 : decode prog_13_method_42_code 30 = .ok (.getfield 22, 3) := by decide +kernel
theorem d_Mo_bestNext_33 : decode prog_13_method_42_code 33 = .ok (.iload 4, 2) := by decide +kernel
theorem d_Mo_bestNext_35 : decode prog_13_method_42_code 35 = .ok (.iaload, 1) := by decide +kernel
theorem d_Mo_bestNext_36 : decode prog_13_method_42_code 36 = .ok (.aload_n 0, 1) := by decide +kernel
theorem d_Mo_bestNext_37 : decode prog_13_method_42_code 37 = .ok (.getfield 50, 3) := by decide +kernel
theorem d_Mo_bestNext_40 : decode prog_13_method_42_code 40 = .ok (.iload_n 2, 1) := by decide +kernel
theorem d_Mo_bestNext_41 : decode prog_13_method_42_code 41 = .ok (.iconst 1, 1) := by decide +kernel
theorem d_Mo_bestNext_42 : decode prog_13_method_42_code 42 = .ok (.iload 4, 2) := by decide +kernel
theorem d_Mo_bestNext_44 : decode prog_13_method_42_code 44 = .ok (.ishl, 1) := by decide +kernel
theorem d_Mo_bestNext_45 : decode prog_13_method_42_code 45 = .ok (.ior, 1) := by decide +kernel
theorem d_Mo_bestNext_46 : decode prog_13_method_42_code 46 = .ok (.iaload, 1) := by decide +kernel
theorem d_Mo_bestNext_47 : decode prog_13_method_42_code 47 = .ok (.isub, 1) := by decide +kernel
theorem d_Mo_bestNext_48 : decode prog_13_method_42_code 48 = .ok (.goto 4, 3) := by decide +kernel
theorem d_Mo_bestNext_51 : decode prog_13_method_42_code 51 = .ok (.iconst 0, 1) := by decide +kernel
theorem d_Mo_bestNext_52 : decode prog_13_method_42_code 52 = .ok (.istore 6, 2) := by decide +kernel
theorem d_Mo_bestNext_54 : decode prog_13_method_42_code 54 = .ok (.iload 5, 2) := by decide +kernel
theorem d_Mo_bestNext_56 : decode prog_13_method_42_code 56 = .ok (.ifCond .eq 34, 3) := by decide +kernel
theorem d_Mo_bestNext_59 : decode prog_13_method_42_code 59 = .ok (.iload_n 3, 1) := by decide +kernel
theorem d_Mo_bestNext_60 : decode prog_13_method_42_code 60 = .ok (.iconst (-1), 1) := by decide +kernel
theorem d_Mo_bestNext_61 : decode prog_13_method_42_code 61 = .ok (.if_icmp .eq 25, 3) := by decide +kernel
theorem d_Mo_bestNext_64 : decode prog_13_method_42_code 64 = .ok (.iload 6, 2) := by decide +kernel
theorem d_Mo_bestNext_66 : decode prog_13_method_42_code 66 = .ok (.aload_n 0, 1) := by decide +kernel
theorem d_Mo_bestNext_67 : decode prog_13_method_42_code 67 = .ok (.getfield 22, 3) := by decide +kernel
theorem d_Mo_bestNext_70 : decode prog_13_method_42_code 70 = .ok (.iload_n 3, 1) := by decide +kernel
theorem d_Mo_bestNext_71 : decode prog_13_method_42_code 71 = .ok (.iaload, 1) := by decide +kernel
theorem d_Mo_bestNext_72 : decode prog_13_method_42_code 72 = .ok (.aload_n 0, 1) := by decide +kernel
theorem d_Mo_bestNext_73 : decode prog_13_method_42_code 73 = .ok (.getfield 50, 3) := by decide +kernel
theorem d_Mo_bestNext_76 : decode prog_13_method_42_code 76 = .ok (.iload_n 2, 1) := by decide +kernel
theorem d_Mo_bestNext_77 : decode prog_13_method_42_code 77 = .ok (.iconst 1, 1) := by decide +kernel
theorem d_Mo_bestNext_78 : decode prog_13_method_42_code 78 = .ok (.iload_n 3, 1) := by decide +kernel
theorem d_Mo_bestNext_79 : decode prog_13_method_42_code 79 = .ok (.ishl, 1) := by decide +kernel
theorem d_Mo_bestNext_80 : decode prog_13_method_42_code 80 = .ok (.ior, 1) := by decide +kernel
theorem d_Mo_bestNext_81 : decode prog_13_method_42_code 81 = .ok (.iaload, 1) := by decide +kernel
theorem d_Mo_bestNext_82 : decode prog_13_method_42_code 82 = .ok (.isub, 1) := by decide +kernel
theorem d_Mo_bestNext_83 : decode prog_13_method_42_code 83 = .ok (.if_icmp .le 7, 3) := by decide +kernel
theorem d_Mo_bestNext_86 : decode prog_13_method_42_code 86 = .ok (.iconst 1, 1) := by decide +kernel
theorem d_Mo_bestNext_87 : decode prog_13_method_42_code 87 = .ok (.goto 4, 3) := by decide +kernel
theorem d_Mo_bestNext_90 : decode prog_13_method_42_code 90 = .ok (.iconst 0, 1) := by decide +kernel
theorem d_Mo_bestNext_91 : decode prog_13_method_42_code 91 = .ok (.istore 7, 2) := by decide +kernel
theorem d_Mo_bestNext_93 : decode prog_13_method_42_code 93 = .ok (.iload 7, 2) := by decide +kernel
theorem d_Mo_bestNext_95 : decode prog_13_method_42_code 95 = .ok (.ifCond .eq 8, 3) := by decide +kernel
theorem d_Mo_bestNext_98 : decode prog_13_method_42_code 98 = .ok (.iload 4, 2) := by decide +kernel
theorem d_Mo_bestNext_100 : decode prog_13_method_42_code 100 = .ok (.goto 4, 3) := by decide +kernel
theorem d_Mo_bestNext_103 : decode prog_13_method_42_code 103 = .ok (.iload_n 3, 1) := by decide +kernel
theorem d_Mo_bestNext_104 : decode prog_13_method_42_code 104 = .ok (.istore_n 3, 1) := by decide +kernel
theorem d_Mo_bestNext_105 : decode prog_13_method_42_code 105 = .ok (.iinc 4 1, 3) := by decide +kernel
theorem d_Mo_bestNext_108 : decode prog_13_method_42_code 108 = .ok (.goto (-103), 3) := by decide +kernel
theorem d_Mo_bestNext_111 : decode prog_13_method_42_code 111 = .ok (.iload_n 3, 1) := by decide +kernel
theorem d_Mo_bestNext_112 : decode prog_13_method_42_code 112 = .ok (.ireturn, 1) := by decide +kernel
theorem d_Mo_isTree_0 : decode prog_13_method_17_code 0 = .ok (.iload_n 1, 1) := by decide +kernel
theorem d_Mo_isTree_1 : decode prog_13_method_17_code 1 = .ok (.iconst 0, 1) := by decide +kernel
theorem d_Mo_isTree_2 : decode prog_13_method_17_code 2 = .ok (.aload_n 0, 1) := by decide +kernel
theorem d_Mo_isTree_3 : decode prog_13_method_17_code 3 = .ok (.getfield 121, 3) := by decide +kernel
theorem d_Mo_isTree_6 : decode prog_13_method_17_code 6 = .ok (.iconst 1, 1) := by decide +kernel
theorem d_Mo_isTree_7 : decode prog_13_method_17_code 7 = .ok (.isub, 1) := by decide +kernel
theorem d_Mo_isTree_8 : decode prog_13_method_17_code 8 = .ok (.invokestatic 83, 3) := by decide +kernel
theorem d_Mo_isTree_11 : decode prog_13_method_17_code 11 = .ok (.ireturn, 1) := by decide +kernel
theorem d_Mo_birds_0 : decode prog_13_method_33_code 0 = .ok (.aload_n 0, 1) := by decide +kernel
theorem d_Mo_birds_1 : decode prog_13_method_33_code 1 = .ok (.iload_n 1, 1) := by decide +kernel
theorem d_Mo_birds_2 : decode prog_13_method_33_code 2 = .ok (.invokevirtual 158, 3) := by decide +kernel
theorem d_Mo_birds_5 : decode prog_13_method_33_code 5 = .ok (.ifCond .ne 6, 3) := by decide +kernel
theorem d_Mo_birds_8 : decode prog_13_method_33_code 8 = .ok (.bipush (-101), 2) := by decide +kernel
theorem d_Mo_birds_10 : decode prog_13_method_33_code 10 = .ok (.ireturn, 1) := by decide +kernel
theorem d_Mo_birds_11 : decode prog_13_method_33_code 11 = .ok (.iload_n 2, 1) := by decide +kernel
theorem d_Mo_birds_12 : decode prog_13_method_33_code 12 = .ok (.iconst 0, 1) := by decide +kernel
theorem d_Mo_birds_13 : decode prog_13_method_33_code 13 = .ok (.bipush 9, 2) := by decide +kernel
theorem d_Mo_birds_15 : decode prog_13_method_33_code 15 = .ok (.invokestatic 83, 3) := by decide +kernel
theorem d_Mo_birds_18 : decode prog_13_method_33_code 18 = .ok (.ifCond .ne 6, 3) := by decide +kernel
theorem d_Mo_birds_21 : decode prog_13_method_33_code 21 = .ok (.bipush (-102), 2) := by decide +kernel
theorem d_Mo_birds_23 : decode prog_13_method_33_code 23 = .ok (.ireturn, 1) := by decide +kernel
theorem d_Mo_birds_24 : decode prog_13_method_33_code 24 = .ok (.aload_n 0, 1) := by decide +kernel
theorem d_Mo_birds_25 : decode prog_13_method_33_code 25 = .ok (.getfield 13, 3) := by decide +kernel
theorem d_Mo_birds_28 : decode prog_13_method_33_code 28 = .ok (.iload_n 1, 1) := by decide +kernel
theorem d_Mo_birds_29 : decode prog_13_method_33_code 29 = .ok (.iaload, 1) := by decide +kernel
theorem d_Mo_birds_30 : decode prog_13_method_33_code 30 = .ok (.istore_n 3, 1) := by decide +kernel
theorem d_Mo_birds_31 : decode prog_13_method_33_code 31 = .ok (.aload_n 0, 1) := by decide +kernel
theorem d_Mo_birds_32 : decode prog_13_method_33_code 32 = .ok (.getfield 13, 3) := by decide +kernel
theorem d_Mo_birds_35 : decode prog_13_method_33_code 35 = .ok (.iload_n 1, 1) := by decide +kernel
theorem d_Mo_birds_36 : decode prog_13_method_33_code 36 = .ok (.iload_n 2, 1) := by decide +kernel
theorem d_Mo_birds_37 : decode prog_13_method_33_code 37 = .ok (.iastore, 1) := by decide +kernel
theorem d_Mo_birds_38 : decode prog_13_method_33_code 38 = .ok (.iload_n 3, 1) := by decide +kernel
theorem d_Mo_birds_39 : decode prog_13_method_33_code 39 = .ok (.ireturn, 1) := by decide +kernel
theorem d_Mo_blank_0 : decode prog_13_method_8_code 0 = .ok (.aload_n 0, 1) := by decide +kernel
theorem d_Mo_blank_1 : decode prog_13_method_8_code 1 = .ok (.getfield 87, 3) := by decide +kernel
theorem d_Mo_blank_4 : decode prog_13_method_8_code 4 = .ok (.istore_n 1, 1) := by decide +kernel
theorem d_Mo_blank_5 : decode prog_13_method_8_code 5 = .ok (.aload_n 0, 1) := by decide +kernel
theorem d_Mo_blank_6 : decode prog_13_method_8_code 6 = .ok (.iconst 0, 1) := by decide +kernel
theorem d_Mo_blank_7 : decode prog_13_method_8_code 7 = .ok (.putfield 87, 3) := by decide +kernel
theorem d_Mo_blank_10 : decode prog_13_method_8_code 10 = .ok (.iload_n 1, 1) := by decide +kernel
theorem d_Mo_blank_11 : decode prog_13_method_8_code 11 = .ok (.ireturn, 1) := by decide +kernel
theorem d_Mo_canBe_0 : decode prog_13_method_36_code 0 = .ok (.aload_n 0, 1) := by decide +kernel
theorem d_Mo_canBe_1 : decode prog_13_method_36_code 1 = .ok (.aload_n 0, 1) := by decide +kernel
theorem d_Mo_canBe_2 : decode prog_13_method_36_code 2 = .ok (.getfield 127, 3) := by decide +kernel
theorem d_Mo_canBe_5 : decode prog_13_method_36_code 5 = .ok (.putfield 190, 3) := by decide +kernel
theorem d_Mo_canBe_8 : decode prog_13_method_36_code 8 = .ok (.aload_n 0, 1) := by decide +kernel
theorem d_Mo_canBe_9 : decode prog_13_method_36_code 9 = .ok (.iconst 0, 1) := by decide +kernel
theorem d_Mo_canBe_10 : decode prog_13_method_36_code 10 = .ok (.putfield 193, 3) := by decide +kernel
theorem d_Mo_canBe_13 : decode prog_13_method_36_code 13 = .ok (.iconst 0, 1) := by decide +kernel
theorem d_Mo_canBe_14 : decode prog_13_method_36_code 14 = .ok (.istore_n 1, 1) := by decide +kernel
theorem d_Mo_canBe_15 : decode prog_13_method_36_code 15 = .ok (.iload_n 1, 1) := by decide +kernel
theorem d_Mo_canBe_16 : decode prog_13_method_36_code 16 = .ok (.aload_n 0, 1) := by decide +kernel
theorem d_Mo_canBe_17 : decode prog_13_method_36_code 17 = .ok (.getfield 121, 3) := by decide +kernel
theorem d_Mo_canBe_20 : decode prog_13_method_36_code 20 = .ok (.if_icmp .ge 21, 3) := by decide +kernel
theorem d_Mo_canBe_23 : decode prog_13_method_36_code 23 = .ok (.aload_n 0, 1) := by decide +kernel
theorem d_Mo_canBe_24 : decode prog_13_method_36_code 24 = .ok (.getfield 47, 3) := by decide +kernel
theorem d_Mo_canBe_27 : decode prog_13_method_36_code 27 = .ok (.iload_n 1, 1) := by decide +kernel
theorem d_Mo_canBe_28 : decode prog_13_method_36_code 28 = .ok (.aload_n 0, 1) := by decide +kernel
theorem d_Mo_canBe_29 : decode prog_13_method_36_code 29 = .ok (.getfield 7, 3) := by decide +kernel
theorem d_Mo_canBe_32 : decode prog_13_method_36_code 32 = .ok (.iload_n 1, 1) := by decide +kernel
theorem d_Mo_canBe_33 : decode prog_13_method_36_code 33 = .ok (.iaload, 1) := by decide +kernel
theorem d_Mo_canBe_34 : decode prog_13_method_36_code 34 = .ok (.iastore, 1) := by decide +kernel
theorem d_Mo_canBe_35 : decode prog_13_method_36_code 35 = .ok (.iinc 1 1, 3) := by decide +kernel
theorem d_Mo_canBe_38 : decode prog_13_method_36_code 38 = .ok (.goto (-23), 3) := by decide +kernel
theorem d_Mo_canBe_41 : decode prog_13_method_36_code 41 = .ok (.iconst 0, 1) := by decide +kernel
theorem d_Mo_canBe_42 : decode prog_13_method_36_code 42 = .ok (.istore_n 1, 1) := by decide +kernel
theorem d_Mo_canBe_43 : decode prog_13_method_36_code 43 = .ok (.iload_n 1, 1) := by decide +kernel
theorem d_Mo_canBe_44 : decode prog_13_method_36_code 44 = .ok (.aload_n 0, 1) := by decide +kernel
theorem d_Mo_canBe_45 : decode prog_13_method_36_code 45 = .ok (.getfield 124, 3) := by decide +kernel
theorem d_Mo_canBe_48 : decode prog_13_method_36_code 48 = .ok (.if_icmp .ge 98, 3) := by decide +kernel
theorem d_Mo_canBe_51 : decode prog_13_method_36_code 51 = .ok (.aload_n 0, 1) := by decide +kernel
theorem d_Mo_canBe_52 : decode prog_13_method_36_code 52 = .ok (.getfield 41, 3) := by decide +kernel
theorem d_Mo_canBe_55 : decode prog_13_method_36_code 55 = .ok (.iload_n 1, 1) := by decide +kernel
theorem d_Mo_canBe_56 : decode prog_13_method_36_code 56 = .ok (.iaload, 1) := by decide +kernel
theorem d_Mo_canBe_57 : decode prog_13_method_36_code 57 = .ok (.iconst 1, 1) := by decide +kernel
theorem d_Mo_canBe_58 : decode prog_13_method_36_code 58 = .ok (.isub, 1) := by decide +kernel
theorem d_Mo_canBe_59 : decode prog_13_method_36_code 59 = .ok (.istore_n 2, 1) := by decide +kernel
theorem d_Mo_canBe_60 : decode prog_13_method_36_code 60 = .ok (.iload_n 2, 1) := by decide +kernel
theorem d_Mo_canBe_61 : decode prog_13_method_36_code 61 = .ok (.ifCond .lt 79, 3) := by decide +kernel
theorem d_Mo_canBe_64 : decode prog_13_method_36_code 64 = .ok (.aload_n 0, 1) := by decide +kernel
theorem d_Mo_canBe_65 : decode prog_13_method_36_code 65 = .ok (.iload_n 1, 1) := by decide +kernel
theorem d_Mo_canBe_66 : decode prog_13_method_36_code 66 = .ok (.aload_n 0, 1) := by decide +kernel
theorem d_Mo_canBe_67 : decode prog_13_method_36_code 67 = .ok (.getfield 190, 3) := by decide +kernel
theorem d_Mo_canBe_70 : decode prog_13_method_36_code 70 = .ok (.invokevirtual 149, 3) := by decide +kernel
theorem d_Mo_canBe_73 : decode prog_13_method_36_code 73 = .ok (.ifCond .eq 17, 3) := by decide +kernel
theorem d_Mo_canBe_76 : decode prog_13_method_36_code 76 = .ok (.aload_n 0, 1) := by decide +kernel
theorem d_Mo_canBe_77 : decode prog_13_method_36_code 77 = .ok (.getfield 47, 3) := by decide +kernel
theorem d_Mo_canBe_80 : decode prog_13_method_36_code 80 = .ok (.iload_n 2, 1) := by decide +kernel
theorem d_Mo_canBe_81 : decode prog_13_method_36_code 81 = .ok (.iaload, 1) := by decide +kernel
theorem d_Mo_canBe_82 : decode prog_13_method_36_code 82 = .ok (.aload_n 0, 1) := by decide +kernel
theorem d_Mo_canBe_83 : decode prog_13_method_36_code 83 = .ok (.iload_n 1, 1) := by decide +kernel
theorem d_Mo_canBe_84 : decode prog_13_method_36_code 84 = .ok (.invokevirtual 152, 3) := by decide +kernel
theorem d_Mo_canBe_87 : decode prog_13_method_36_code 87 = .ok (.if_icmp .ge 5, 3) := by decide +kernel
theorem d_Mo_canBe_90 : decode prog_13_method_36_code 90 = .ok (.iconst 0, 1) := by decide +kernel
theorem d_Mo_canBe_91 : decode prog_13_method_36_code 91 = .ok (.ireturn, 1) := by decide +kernel
theorem d_Mo_canBe_92 : decode prog_13_method_36_code 92 = .ok (.aload_n 0, 1) := by decide +kernel
theorem d_Mo_canBe_93 : decode prog_13_method_36_code 93 = .ok (.getfield 47, 3) := by decide +kernel
theorem d_Mo_canBe_96 : decode prog_13_method_36_code 96 = .ok (.iload_n 2, 1) := by decide +kernel
theorem d_Mo_canBe_97 : decode prog_13_method_36_code 97 = .ok (.dup2, 1) := by decide +kernel
theorem d_Mo_canBe_98 : decode prog_13_method_36_code 98 = .ok (.iaload, 1) := by decide +kernel
theorem d_Mo_canBe_99 : decode prog_13_method_36_code 99 = .ok (.aload_n 0, 1) := by decide +kernel
theorem d_Mo_canBe_100 : decode prog_13_method_36_code 100 = .ok (.iload_n 1, 1) := by decide +kernel
theorem d_Mo_canBe_101 : decode prog_13_method_36_code 101 = .ok (.invokevirtual 152, 3) := by decide +kernel
theorem d_Mo_canBe_104 : decode prog_13_method_36_code 104 = .ok (.isub, 1) := by decide +kernel
theorem d_Mo_canBe_105 : decode prog_13_method_36_code 105 = .ok (.iastore, 1) := by decide +kernel
theorem d_Mo_canBe_106 : decode prog_13_method_36_code 106 = .ok (.aload_n 0, 1) := by decide +kernel
theorem d_Mo_canBe_107 : decode prog_13_method_36_code 107 = .ok (.dup, 1) := by decide +kernel
theorem d_Mo_canBe_108 : decode prog_13_method_36_code 108 = .ok (.getfield 193, 3) := by decide +kernel
theorem d_Mo_canBe_111 : decode prog_13_method_36_code 111 = .ok (.aload_n 0, 1) := by decide +kernel
theorem d_Mo_canBe_112 : decode prog_13_method_36_code 112 = .ok (.iload_n 1, 1) := by decide +kernel
theorem d_Mo_canBe_113 : decode prog_13_method_36_code 113 = .ok (.invokevirtual 152, 3) := by decide +kernel
theorem d_Mo_canBe_116 : decode prog_13_method_36_code 116 = .ok (.iadd, 1) := by decide +kernel
theorem d_Mo_canBe_117 : decode prog_13_method_36_code 117 = .ok (.putfield 193, 3) := by decide +kernel
theorem d_Mo_canBe_120 : decode prog_13_method_36_code 120 = .ok (.aload_n 0, 1) := by decide +kernel
theorem d_Mo_canBe_121 : decode prog_13_method_36_code 121 = .ok (.aload_n 0, 1) := by decide +kernel
theorem d_Mo_canBe_122 : decode prog_13_method_36_code 122 = .ok (.getfield 190, 3) := by decide +kernel
theorem d_Mo_canBe_125 : decode prog_13_method_36_code 125 = .ok (.aload_n 0, 1) := by decide +kernel
theorem d_Mo_canBe_126 : decode prog_13_method_36_code 126 = .ok (.iload_n 1, 1) := by decide +kernel
theorem d_Mo_canBe_127 : decode prog_13_method_36_code 127 = .ok (.invokevirtual 166, 3) := by decide +kernel
theorem d_Mo_canBe_130 : decode prog_13_method_36_code 130 = .ok (.iconst (-1), 1) := by decide +kernel
theorem d_Mo_canBe_131 : decode prog_13_method_36_code 131 = .ok (.ixor, 1) := by decide +kernel
theorem d_Mo_canBe_132 : decode prog_13_method_36_code 132 = .ok (.iand, 1) := by decide +kernel
theorem d_Mo_canBe_133 : decode prog_13_method_36_code 133 = .ok (.iconst 1, 1) := by decide +kernel
theorem d_Mo_canBe_134 : decode prog_13_method_36_code 134 = .ok (.iload_n 1, 1) := by decide +kernel
theorem d_Mo_canBe_135 : decode prog_13_method_36_code 135 = .ok (.ishl, 1) := by decide +kernel
theorem d_Mo_canBe_136 : decode prog_13_method_36_code 136 = .ok (.ior, 1) := by decide +kernel
theorem d_Mo_canBe_137 : decode prog_13_method_36_code 137 = .ok (.putfield 190, 3) := by decide +kernel
theorem d_Mo_canBe_140 : decode prog_13_method_36_code 140 = .ok (.iinc 1 1, 3) := by decide +kernel
theorem d_Mo_canBe_143 : decode prog_13_method_36_code 143 = .ok (.goto (-100), 3) := by decide +kernel
theorem d_Mo_canBe_146 : decode prog_13_method_36_code 146 = .ok (.iconst 1, 1) := by decide +kernel
theorem d_Mo_canBe_147 : decode prog_13_method_36_code 147 = .ok (.ireturn, 1) := by decide +kernel
theorem d_Mo_draw_0 : decode prog_13_method_52_code 0 = .ok (.aload_n 0, 1) := by decide +kernel
theorem d_Mo_draw_1 : decode prog_13_method_52_code 1 = .ok (.ldc2_w 232, 3) := by decide +kernel
theorem d_Mo_draw_4 : decode prog_13_method_52_code 4 = .ok (.aload_n 0, 1) := by decide +kernel
theorem d_Mo_draw_5 : decode prog_13_method_52_code 5 = .ok (.getfield 234, 3) := by decide +kernel
theorem d_Mo_draw_8 : decode prog_13_method_52_code 8 = .ok (.lmul, 1) := by decide +kernel
theorem d_Mo_draw_9 : decode prog_13_method_52_code 9 = .ok (.ldc2_w 238, 3) := by decide +kernel
theorem d_Mo_draw_12 : decode prog_13_method_52_code 12 = .ok (.ladd, 1) := by decide +kernel
theorem d_Mo_draw_13 : decode prog_13_method_52_code 13 = .ok (.ldc2_w 240, 3) := by decide +kernel
theorem d_Mo_draw_16 : decode prog_13_method_52_code 16 = .ok (.land, 1) := by decide +kernel
theorem d_Mo_draw_17 : decode prog_13_method_52_code 17 = .ok (.putfield 234, 3) := by decide +kernel
theorem d_Mo_draw_20 : decode prog_13_method_52_code 20 = .ok (.aload_n 0, 1) := by decide +kernel
theorem d_Mo_draw_21 : decode prog_13_method_52_code 21 = .ok (.getfield 234, 3) := by decide +kernel
theorem d_Mo_draw_24 : decode prog_13_method_52_code 24 = .ok (.ldc2_w 242, 3) := by decide +kernel
theorem d_Mo_draw_27 : decode prog_13_method_52_code 27 = .ok (.ldiv, 1) := by decide +kernel
theorem d_Mo_draw_28 : decode prog_13_method_52_code 28 = .ok (.iload_n 1, 1) := by decide +kernel
theorem d_Mo_draw_29 : decode prog_13_method_52_code 29 = .ok (.i2l, 1) := by decide +kernel
theorem d_Mo_draw_30 : decode prog_13_method_52_code 30 = .ok (.lrem, 1) := by decide +kernel
theorem d_Mo_draw_31 : decode prog_13_method_52_code 31 = .ok (.l2i, 1) := by decide +kernel
theorem d_Mo_draw_32 : decode prog_13_method_52_code 32 = .ok (.ireturn, 1) := by decide +kernel
theorem d_Mo_mayRight_0 : decode prog_13_method_23_code 0 = .ok (.aload_n 0, 1) := by decide +kernel
theorem d_Mo_mayRight_1 : decode prog_13_method_23_code 1 = .ok (.iload_n 1, 1) := by decide +kernel
theorem d_Mo_mayRight_2 : decode prog_13_method_23_code 2 = .ok (.aload_n 0, 1) := by decide +kernel
theorem d_Mo_mayRight_3 : decode prog_13_method_23_code 3 = .ok (.getfield 127, 3) := by decide +kernel
theorem d_Mo_mayRight_6 : decode prog_13_method_23_code 6 = .ok (.invokevirtual 149, 3) := by decide +kernel
theorem d_Mo_mayRight_9 : decode prog_13_method_23_code 9 = .ok (.ifCond .eq 21, 3) := by decide +kernel
theorem d_Mo_mayRight_12 : decode prog_13_method_23_code 12 = .ok (.aload_n 0, 1) := by decide +kernel
theorem d_Mo_mayRight_13 : decode prog_13_method_23_code 13 = .ok (.getfield 7, 3) := by decide +kernel
theorem d_Mo_mayRight_16 : decode prog_13_method_23_code 16 = .ok (.iload_n 2, 1) := by decide +kernel
theorem d_Mo_mayRight_17 : decode prog_13_method_23_code 17 = .ok (.iaload, 1) := by decide +kernel
theorem d_Mo_mayRight_18 : decode prog_13_method_23_code 18 = .ok (.aload_n 0, 1) := by decide +kernel
theorem d_Mo_mayRight_19 : decode prog_13_method_23_code 19 = .ok (.iload_n 1, 1) := by decide +kernel
theorem d_Mo_mayRight_20 : decode prog_13_method_23_code 20 = .ok (.invokevirtual 152, 3) := by decide +kernel
theorem d_Mo_mayRight_23 : decode prog_13_method_23_code 23 = .ok (.if_icmp .lt 7, 3) := by decide +kernel
theorem d_Mo_mayRight_26 : decode prog_13_method_23_code 26 = .ok (.iconst 1, 1) := by decide +kernel
theorem d_Mo_mayRight_27 : decode prog_13_method_23_code 27 = .ok (.goto 4, 3) := by decide +kernel
theorem d_Mo_mayRight_30 : decode prog_13_method_23_code 30 = .ok (.iconst 0, 1) := by decide +kernel
theorem d_Mo_mayRight_31 : decode prog_13_method_23_code 31 = .ok (.ireturn, 1) := by decide +kernel
theorem d_Mo_goYear_0 : decode prog_13_method_31_code 0 = .ok (.iconst 0, 1) := by decide +kernel
theorem d_Mo_goYear_1 : decode prog_13_method_31_code 1 = .ok (.istore_n 1, 1) := by decide +kernel
theorem d_Mo_goYear_2 : decode prog_13_method_31_code 2 = .ok (.iload_n 1, 1) := by decide +kernel
theorem d_Mo_goYear_3 : decode prog_13_method_31_code 3 = .ok (.aload_n 0, 1) := by decide +kernel
theorem d_Mo_goYear_4 : decode prog_13_method_31_code 4 = .ok (.getfield 121, 3) := by decide +kernel
theorem d_Mo_goYear_7 : decode prog_13_method_31_code 7 = .ok (.if_icmp .ge 41, 3) := by decide +kernel
theorem d_Mo_goYear_10 : decode prog_13_method_31_code 10 = .ok (.aload_n 0, 1) := by decide +kernel
theorem d_Mo_goYear_11 : decode prog_13_method_31_code 11 = .ok (.getfield 7, 3) := by decide +kernel
theorem d_Mo_goYear_14 : decode prog_13_method_31_code 14 = .ok (.iload_n 1, 1) := by decide +kernel
theorem d_Mo_goYear_15 : decode prog_13_method_31_code 15 = .ok (.iaload, 1) := by decide +kernel
theorem d_Mo_goYear_16 : decode prog_13_method_31_code 16 = .ok (.aload_n 0, 1) := by decide +kernel
theorem d_Mo_goYear_17 : decode prog_13_method_31_code 17 = .ok (.getfield 13, 3) := by decide +kernel
theorem d_Mo_goYear_20 : decode prog_13_method_31_code 20 = .ok (.iload_n 1, 1) := by decide +kernel
theorem d_Mo_goYear_21 : decode prog_13_method_31_code 21 = .ok (.iaload, 1) := by decide +kernel
theorem d_Mo_goYear_22 : decode prog_13_method_31_code 22 = .ok (.iadd, 1) := by decide +kernel
theorem d_Mo_goYear_23 : decode prog_13_method_31_code 23 = .ok (.istore_n 2, 1) := by decide +kernel
theorem d_Mo_goYear_24 : decode prog_13_method_31_code 24 = .ok (.aload_n 0, 1) := by decide +kernel
theorem d_Mo_goYear_25 : decode prog_13_method_31_code 25 = .ok (.getfield 7, 3) := by decide +kernel
theorem d_Mo_goYear_28 : decode prog_13_method_31_code 28 = .ok (.iload_n 1, 1) := by decide +kernel
theorem d_Mo_goYear_29 : decode prog_13_method_31_code 29 = .ok (.iload_n 2, 1) := by decide +kernel
theorem d_Mo_goYear_30 : decode prog_13_method_31_code 30 = .ok (.bipush 20, 2) := by decide +kernel
theorem d_Mo_goYear_32 : decode prog_13_method_31_code 32 = .ok (.if_icmp .le 8, 3) := by decide +kernel
theorem d_Mo_goYear_35 : decode prog_13_method_31_code 35 = .ok (.bipush 20, 2) := by decide +kernel
theorem d_Mo_goYear_37 : decode prog_13_method_31_code 37 = .ok (.goto 4, 3) := by decide +kernel
theorem d_Mo_goYear_40 : decode prog_13_method_31_code 40 = .ok (.iload_n 2, 1) := by decide +kernel
theorem d_Mo_goYear_41 : decode prog_13_method_31_code 41 = .ok (.iastore, 1) := by decide +kernel
theorem d_Mo_goYear_42 : decode prog_13_method_31_code 42 = .ok (.iinc 1 1, 3) := by decide +kernel
theorem d_Mo_goYear_45 : decode prog_13_method_31_code 45 = .ok (.goto (-43), 3) := by decide +kernel
theorem d_Mo_goYear_48 : decode prog_13_method_31_code 48 = .ok (.return_, 1) := by decide +kernel
theorem d_Mo_worthIn_0 : decode prog_13_method_24_code 0 = .ok (.iconst 0, 1) := by decide +kernel
theorem d_Mo_worthIn_1 : decode prog_13_method_24_code 1 = .ok (.istore_n 2, 1) := by decide +kernel
theorem d_Mo_worthIn_2 : decode prog_13_method_24_code 2 = .ok (.iconst 0, 1) := by decide +kernel
theorem d_Mo_worthIn_3 : decode prog_13_method_24_code 3 = .ok (.istore_n 3, 1) := by decide +kernel
theorem d_Mo_worthIn_4 : decode prog_13_method_24_code 4 = .ok (.iload_n 3, 1) := by decide +kernel
theorem d_Mo_worthIn_5 : decode prog_13_method_24_code 5 = .ok (.aload_n 0, 1) := by decide +kernel
theorem d_Mo_worthIn_6 : decode prog_13_method_24_code 6 = .ok (.getfield 124, 3) := by decide +kernel
theorem d_Mo_worthIn_9 : decode prog_13_method_24_code 9 = .ok (.if_icmp .ge 30, 3) := by decide +kernel
theorem d_Mo_worthIn_12 : decode prog_13_method_24_code 12 = .ok (.iload_n 2, 1) := by decide +kernel
theorem d_Mo_worthIn_13 : decode prog_13_method_24_code 13 = .ok (.iload_n 1, 1) := by decide +kernel
theorem d_Mo_worthIn_14 : decode prog_13_method_24_code 14 = .ok (.iload_n 3, 1) := by decide +kernel
theorem d_Mo_worthIn_15 : decode prog_13_method_24_code 15 = .ok (.invokestatic 142, 3) := by decide +kernel
theorem d_Mo_worthIn_18 : decode prog_13_method_24_code 18 = .ok (.ifCond .eq 12, 3) := by decide +kernel
theorem d_Mo_worthIn_21 : decode prog_13_method_24_code 21 = .ok (.aload_n 0, 1) := by decide +kernel
theorem d_Mo_worthIn_22 : decode prog_13_method_24_code 22 = .ok (.getfield 22, 3) := by decide +kernel
theorem d_Mo_worthIn_25 : decode prog_13_method_24_code 25 = .ok (.iload_n 3, 1) := by decide +kernel
theorem d_Mo_worthIn_26 : decode prog_13_method_24_code 26 = .ok (.iaload, 1) := by decide +kernel
theorem d_Mo_worthIn_27 : decode prog_13_method_24_code 27 = .ok (.goto 4, 3) := by decide +kernel
theorem d_Mo_worthIn_30 : decode prog_13_method_24_code 30 = .ok (.iconst 0, 1) := by decide +kernel
theorem d_Mo_worthIn_31 : decode prog_13_method_24_code 31 = .ok (.iadd, 1) := by decide +kernel
theorem d_Mo_worthIn_32 : decode prog_13_method_24_code 32 = .ok (.istore_n 2, 1) := by decide +kernel
theorem d_Mo_worthIn_33 : decode prog_13_method_24_code 33 = .ok (.iinc 3 1, 3) := by decide +kernel
theorem d_Mo_worthIn_36 : decode prog_13_method_24_code 36 = .ok (.goto (-32), 3) := by decide +kernel
theorem d_Mo_worthIn_39 : decode prog_13_method_24_code 39 = .ok (.iload_n 2, 1) := by decide +kernel
theorem d_Mo_worthIn_40 : decode prog_13_method_24_code 40 = .ok (.ireturn, 1) := by decide +kernel
theorem d_Mo_centuriesNow_0 : decode prog_13_method_53_code 0 = .ok (.aload_n 0, 1) := by decide +kernel
theorem d_Mo_centuriesNow_1 : decode prog_13_method_53_code 1 = .ok (.getfield 127, 3) := by decide +kernel
theorem d_Mo_centuriesNow_4 : decode prog_13_method_53_code 4 = .ok (.istore 4, 2) := by decide +kernel
theorem d_Mo_centuriesNow_6 : decode prog_13_method_53_code 6 = .ok (.iconst 0, 1) := by decide +kernel
theorem d_Mo_centuriesNow_7 : decode prog_13_method_53_code 7 = .ok (.istore 5, 2) := by decide +kernel
theorem d_Mo_centuriesNow_9 : decode prog_13_method_53_code 9 = .ok (.iload 5, 2) := by decide +kernel
theorem d_Mo_centuriesNow_11 : decode prog_13_method_53_code 11 = .ok (.iconst 3, 1) := by decide +kernel
theorem d_Mo_centuriesNow_12 : decode prog_13_method_53_code 12 = .ok (.if_icmp .ge 23, 3) := by decide +kernel
theorem d_Mo_centuriesNow_15 : decode prog_13_method_53_code 15 = .ok (.aload_n 0, 1) := by decide +kernel
theorem d_Mo_centuriesNow_16 : decode prog_13_method_53_code 16 = .ok (.getfield 59, 3) := by decide +kernel
theorem d_Mo_centuriesNow_19 : decode prog_13_method_53_code 19 = .ok (.iload 5, 2) := by decide +kernel
theorem d_Mo_centuriesNow_21 : decode prog_13_method_53_code 21 = .ok (.aload_n 0, 1) := by decide +kernel
theorem d_Mo_centuriesNow_22 : decode prog_13_method_53_code 22 = .ok (.getfield 7, 3) := by decide +kernel
theorem d_Mo_centuriesNow_25 : decode prog_13_method_53_code 25 = .ok (.iload 5, 2) := by decide +kernel
theorem d_Mo_centuriesNow_27 : decode prog_13_method_53_code 27 = .ok (.iaload, 1) := by decide +kernel
theorem d_Mo_centuriesNow_28 : decode prog_13_method_53_code 28 = .ok (.iastore, 1) := by decide +kernel
theorem d_Mo_centuriesNow_29 : decode prog_13_method_53_code 29 = .ok (.iinc 5 1, 3) := by decide +kernel
theorem d_Mo_centuriesNow_32 : decode prog_13_method_53_code 32 = .ok (.goto (-23), 3) := by decide +kernel
theorem d_Mo_centuriesNow_35 : decode prog_13_method_53_code 35 = .ok (.aload_n 0, 1) := by decide +kernel
theorem d_Mo_centuriesNow_36 : decode prog_13_method_53_code 36 = .ok (.iload_n 2, 1) := by decide +kernel
theorem d_Mo_centuriesNow_37 : decode prog_13_method_53_code 37 = .ok (.i2l, 1) := by decide +kernel
theorem d_Mo_centuriesNow_38 : decode prog_13_method_53_code 38 = .ok (.putfield 234, 3) := by decide +kernel
theorem d_Mo_centuriesNow_41 : decode prog_13_method_53_code 41 = .ok (.iconst 0, 1) := by decide +kernel
theorem d_Mo_centuriesNow_42 : decode prog_13_method_53_code 42 = .ok (.istore 5, 2) := by decide +kernel
theorem d_Mo_centuriesNow_44 : decode prog_13_method_53_code 44 = .ok (.iconst 0, 1) := by decide +kernel
theorem d_Mo_centuriesNow_45 : decode prog_13_method_53_code 45 = .ok (.istore 6, 2) := by decide +kernel
theorem d_Mo_centuriesNow_47 : decode prog_13_method_53_code 47 = .ok (.iload 6, 2) := by decide +kernel
theorem d_Mo_centuriesNow_49 : decode prog_13_method_53_code 49 = .ok (.iload_n 1, 1) := by decide +kernel
theorem d_Mo_centuriesNow_50 : decode prog_13_method_53_code 50 = .ok (.if_icmp .ge 88, 3) := by decide +kernel
theorem d_Mo_centuriesNow_53 : decode prog_13_method_53_code 53 = .ok (.aload_n 0, 1) := by decide +kernel
theorem d_Mo_centuriesNow_54 : decode prog_13_method_53_code 54 = .ok (.aload_n 0, 1) := by decide +kernel
theorem d_Mo_centuriesNow_55 : decode prog_13_method_53_code 55 = .ok (.getfield 124, 3) := by decide +kernel
theorem d_Mo_centuriesNow_58 : decode prog_13_method_53_code 58 = .ok (.invokevirtual 244, 3) := by decide +kernel
theorem d_Mo_centuriesNow_61 : decode prog_13_method_53_code 61 = .ok (.istore 7, 2) := by decide +kernel
theorem d_Mo_centuriesNow_63 : decode prog_13_method_53_code 63 = .ok (.aload_n 0, 1) := by decide +kernel
theorem d_Mo_centuriesNow_64 : decode prog_13_method_53_code 64 = .ok (.aload_n 0, 1) := by decide +kernel
theorem d_Mo_centuriesNow_65 : decode prog_13_method_53_code 65 = .ok (.getfield 121, 3) := by decide +kernel
theorem d_Mo_centuriesNow_68 : decode prog_13_method_53_code 68 = .ok (.invokevirtual 244, 3) := by decide +kernel
theorem d_Mo_centuriesNow_71 : decode prog_13_method_53_code 71 = .ok (.istore 8, 2) := by decide +kernel
theorem d_Mo_centuriesNow_73 : decode prog_13_method_53_code 73 = .ok (.aload_n 0, 1) := by decide +kernel
theorem d_Mo_centuriesNow_74 : decode prog_13_method_53_code 74 = .ok (.iload 7, 2) := by decide +kernel
theorem d_Mo_centuriesNow_76 : decode prog_13_method_53_code 76 = .ok (.iload 8, 2) := by decide +kernel
theorem d_Mo_centuriesNow_78 : decode prog_13_method_53_code 78 = .ok (.invokevirtual 155, 3) := by decide +kernel
theorem d_Mo_centuriesNow_81 : decode prog_13_method_53_code 81 = .ok (.ifCond .eq 47, 3) := by decide +kernel
theorem d_Mo_centuriesNow_84 : decode prog_13_method_53_code 84 = .ok (.aload_n 0, 1) := by decide +kernel
theorem d_Mo_centuriesNow_85 : decode prog_13_method_53_code 85 = .ok (.getfield 7, 3) := by decide +kernel
theorem d_Mo_centuriesNow_88 : decode prog_13_method_53_code 88 = .ok (.iload 8, 2) := by decide +kernel
theorem d_Mo_centuriesNow_90 : decode prog_13_method_53_code 90 = .ok (.dup2, 1) := by decide +kernel
theorem d_Mo_centuriesNow_91 : decode prog_13_method_53_code 91 = .ok (.iaload, 1) := by decide +kernel
theorem d_Mo_centuriesNow_92 : decode prog_13_method_53_code 92 = .ok (.aload_n 0, 1) := by decide +kernel
theorem d_Mo_centuriesNow_93 : decode prog_13_method_53_code 93 = .ok (.iload 7, 2) := by decide +kernel
theorem d_Mo_centuriesNow_95 : decode prog_13_method_53_code 95 = .ok (.invokevirtual 152, 3) := by decide +kernel
theorem d_Mo_centuriesNow_98 : decode prog_13_method_53_code 98 = .ok (.isub, 1) := by decide +kernel
theorem d_Mo_centuriesNow_99 : decode prog_13_method_53_code 99 = .ok (.iastore, 1) := by decide +kernel
theorem d_Mo_centuriesNow_100 : decode prog_13_method_53_code 100 = .ok (.aload_n 0, 1) := by decide +kernel
theorem d_Mo_centuriesNow_101 : decode prog_13_method_53_code 101 = .ok (.aload_n 0, 1) := by decide +kernel
theorem d_Mo_centuriesNow_102 : decode prog_13_method_53_code 102 = .ok (.getfield 127, 3) := by decide +kernel
theorem d_Mo_centuriesNow_105 : decode prog_13_method_53_code 105 = .ok (.aload_n 0, 1) := by decide +kernel
theorem d_Mo_centuriesNow_106 : decode prog_13_method_53_code 106 = .ok (.iload 7, 2) := by decide +kernel
theorem d_Mo_centuriesNow_108 : decode prog_13_method_53_code 108 = .ok (.invokevirtual 166, 3) := by decide +kernel
theorem d_Mo_centuriesNow_111 : decode prog_13_method_53_code 111 = .ok (.iconst (-1), 1) := by decide +kernel
theorem d_Mo_centuriesNow_112 : decode prog_13_method_53_code 112 = .ok (.ixor, 1) := by decide +kernel
theorem d_Mo_centuriesNow_113 : decode prog_13_method_53_code 113 = .ok (.iand, 1) := by decide +kernel
theorem d_Mo_centuriesNow_114 : decode prog_13_method_53_code 114 = .ok (.iconst 1, 1) := by decide +kernel
theorem d_Mo_centuriesNow_115 : decode prog_13_method_53_code 115 = .ok (.iload 7, 2) := by decide +kernel
theorem d_Mo_centuriesNow_117 : decode prog_13_method_53_code 117 = .ok (.ishl, 1) := by decide +kernel
theorem d_Mo_centuriesNow_118 : decode prog_13_method_53_code 118 = .ok (.ior, 1) := by decide +kernel
theorem d_Mo_centuriesNow_119 : decode prog_13_method_53_code 119 = .ok (.putfield 127, 3) := by decide +kernel
theorem d_Mo_centuriesNow_122 : decode prog_13_method_53_code 122 = .ok (.iinc 5 1, 3) := by decide +kernel
theorem d_Mo_centuriesNow_125 : decode prog_13_method_53_code 125 = .ok (.goto 7, 3) := by decide +kernel
theorem d_Mo_centuriesNow_128 : decode prog_13_method_53_code 128 = .ok (.aload_n 0, 1) := by decide +kernel
theorem d_Mo_centuriesNow_129 : decode prog_13_method_53_code 129 = .ok (.invokevirtual 184, 3) := by decide +kernel
theorem d_Mo_centuriesNow_132 : decode prog_13_method_53_code 132 = .ok (.iinc 6 1, 3) := by decide +kernel
theorem d_Mo_centuriesNow_135 : decode prog_13_method_53_code 135 = .ok (.goto (-88), 3) := by decide +kernel
theorem d_Mo_centuriesNow_138 : decode prog_13_method_53_code 138 = .ok (.aload_n 0, 1) := by decide +kernel
theorem d_Mo_centuriesNow_139 : decode prog_13_method_53_code 139 = .ok (.aload_n 0, 1) := by decide +kernel
theorem d_Mo_centuriesNow_140 : decode prog_13_method_53_code 140 = .ok (.getfield 127, 3) := by decide +kernel
theorem d_Mo_centuriesNow_143 : decode prog_13_method_53_code 143 = .ok (.invokevirtual 187, 3) := by decide +kernel
theorem d_Mo_centuriesNow_146 : decode prog_13_method_53_code 146 = .ok (.istore 6, 2) := by decide +kernel
theorem d_Mo_centuriesNow_148 : decode prog_13_method_53_code 148 = .ok (.aload_n 0, 1) := by decide +kernel
theorem d_Mo_centuriesNow_149 : decode prog_13_method_53_code 149 = .ok (.iload 4, 2) := by decide +kernel
theorem d_Mo_centuriesNow_151 : decode prog_13_method_53_code 151 = .ok (.putfield 127, 3) := by decide +kernel
theorem d_Mo_centuriesNow_154 : decode prog_13_method_53_code 154 = .ok (.iconst 0, 1) := by decide +kernel
theorem d_Mo_centuriesNow_155 : decode prog_13_method_53_code 155 = .ok (.istore 7, 2) := by decide +kernel
theorem d_Mo_centuriesNow_157 : decode prog_13_method_53_code 157 = .ok (.iload 7, 2) := by decide +kernel
theorem d_Mo_centuriesNow_159 : decode prog_13_method_53_code 159 = .ok (.iconst 3, 1) := by decide +kernel
theorem d_Mo_centuriesNow_160 : decode prog_13_method_53_code 160 = .ok (.if_icmp .ge 23, 3) := by decide +kernel
theorem d_Mo_centuriesNow_163 : decode prog_13_method_53_code 163 = .ok (.aload_n 0, 1) := by decide +kernel
theorem d_Mo_centuriesNow_164 : decode prog_13_method_53_code 164 = .ok (.getfield 7, 3) := by decide +kernel
theorem d_Mo_centuriesNow_167 : decode prog_13_method_53_code 167 = .ok (.iload 7, 2) := by decide +kernel
theorem d_Mo_centuriesNow_169 : decode prog_13_method_53_code 169 = .ok (.aload_n 0, 1) := by decide +kernel
theorem d_Mo_centuriesNow_170 : decode prog_13_method_53_code 170 = .ok (.getfield 59, 3) := by decide +kernel
theorem d_Mo_centuriesNow_173 : decode prog_13_method_53_code 173 = .ok (.iload 7, 2) := by decide +kernel
theorem d_Mo_centuriesNow_175 : decode prog_13_method_53_code 175 = .ok (.iaload, 1) := by decide +kernel
theorem d_Mo_centuriesNow_176 : decode prog_13_method_53_code 176 = .ok (.iastore, 1) := by decide +kernel
theorem d_Mo_centuriesNow_177 : decode prog_13_method_53_code 177 = .ok (.iinc 7 1, 3) := by decide +kernel
theorem d_Mo_centuriesNow_180 : decode prog_13_method_53_code 180 = .ok (.goto (-23), 3) := by decide +kernel
theorem d_Mo_centuriesNow_183 : decode prog_13_method_53_code 183 = .ok (.iload_n 3, 1) := by decide +kernel
theorem d_Mo_centuriesNow_184 : decode prog_13_method_53_code 184 = .ok (.ifCond .ne 8, 3) := by decide +kernel
theorem d_Mo_centuriesNow_187 : decode prog_13_method_53_code 187 = .ok (.iload 5, 2) := by decide +kernel
theorem d_Mo_centuriesNow_189 : decode prog_13_method_53_code 189 = .ok (.goto 18, 3) := by decide +kernel
theorem d_Mo_centuriesNow_192 : decode prog_13_method_53_code 192 = .ok (.iload_n 3, 1) := by decide +kernel
theorem d_Mo_centuriesNow_193 : decode prog_13_method_53_code 193 = .ok (.iconst 1, 1) := by decide +kernel
theorem d_Mo_centuriesNow_194 : decode prog_13_method_53_code 194 = .ok (.if_icmp .ne 8, 3) := by decide +kernel
theorem d_Mo_centuriesNow_197 : decode prog_13_method_53_code 197 = .ok (.iload 6, 2) := by decide +kernel
theorem d_Mo_centuriesNow_199 : decode prog_13_method_53_code 199 = .ok (.goto 8, 3) := by decide +kernel
theorem d_Mo_centuriesNow_202 : decode prog_13_method_53_code 202 = .ok (.aload_n 0, 1) := by decide +kernel
theorem d_Mo_centuriesNow_203 : decode prog_13_method_53_code 203 = .ok (.getfield 234, 3) := by decide +kernel
theorem d_Mo_centuriesNow_206 : decode prog_13_method_53_code 206 = .ok (.l2i, 1) := by decide +kernel
theorem d_Mo_centuriesNow_207 : decode prog_13_method_53_code 207 = .ok (.ireturn, 1) := by decide +kernel
theorem d_Mo_centuries_0 : decode prog_13_method_54_code 0 = .ok (.iload_n 1, 1) := by decide +kernel
theorem d_Mo_centuries_1 : decode prog_13_method_54_code 1 = .ok (.iconst 1, 1) := by decide +kernel
theorem d_Mo_centuries_2 : decode prog_13_method_54_code 2 = .ok (.bipush 60, 2) := by decide +kernel
theorem d_Mo_centuries_4 : decode prog_13_method_54_code 4 = .ok (.invokestatic 83, 3) := by decide +kernel
theorem d_Mo_centuries_7 : decode prog_13_method_54_code 7 = .ok (.ifCond .eq 16, 3) := by decide +kernel
theorem d_Mo_centuries_10 : decode prog_13_method_54_code 10 = .ok (.iload_n 2, 1) := by decide +kernel
theorem d_Mo_centuries_11 : decode prog_13_method_54_code 11 = .ok (.ifCond .lt 12, 3) := by decide +kernel
theorem d_Mo_centuries_14 : decode prog_13_method_54_code 14 = .ok (.iload_n 3, 1) := by decide +kernel
theorem d_Mo_centuries_15 : decode prog_13_method_54_code 15 = .ok (.iconst 0, 1) := by decide +kernel
theorem d_Mo_centuries_16 : decode prog_13_method_54_code 16 = .ok (.iconst 2, 1) := by decide +kernel
theorem d_Mo_centuries_17 : decode prog_13_method_54_code 17 = .ok (.invokestatic 83, 3) := by decide +kernel
theorem d_Mo_centuries_20 : decode prog_13_method_54_code 20 = .ok (.ifCond .ne 6, 3) := by decide +kernel
theorem d_Mo_centuries_23 : decode prog_13_method_54_code 23 = .ok (.bipush (-102), 2) := by decide +kernel
theorem d_Mo_centuries_25 : decode prog_13_method_54_code 25 = .ok (.ireturn, 1) := by decide +kernel
theorem d_Mo_centuries_26 : decode prog_13_method_54_code 26 = .ok (.aload_n 0, 1) := by decide +kernel
theorem d_Mo_centuries_27 : decode prog_13_method_54_code 27 = .ok (.getfield 124, 3) := by decide +kernel
theorem d_Mo_centuries_30 : decode prog_13_method_54_code 30 = .ok (.ifCond .ne 8, 3) := by decide +kernel
theorem d_Mo_centuries_33 : decode prog_13_method_54_code 33 = .ok (.bipush (-103), 2) := by decide +kernel
theorem d_Mo_centuries_35 : decode prog_13_method_54_code 35 = .ok (.goto 10, 3) := by decide +kernel
theorem d_Mo_centuries_38 : decode prog_13_method_54_code 38 = .ok (.aload_n 0, 1) := by decide +kernel
theorem d_Mo_centuries_39 : decode prog_13_method_54_code 39 = .ok (.iload_n 1, 1) := by decide +kernel
theorem d_Mo_centuries_40 : decode prog_13_method_54_code 40 = .ok (.iload_n 2, 1) := by decide +kernel
theorem d_Mo_centuries_41 : decode prog_13_method_54_code 41 = .ok (.iload_n 3, 1) := by decide +kernel
theorem d_Mo_centuries_42 : decode prog_13_method_54_code 42 = .ok (.invokevirtual 247, 3) := by decide +kernel
theorem d_Mo_centuries_45 : decode prog_13_method_54_code 45 = .ok (.ireturn, 1) := by decide +kernel
theorem d_Mo_costWith_0 : decode prog_13_method_49_code 0 = .ok (.aload_n 0, 1) := by decide +kernel
theorem d_Mo_costWith_1 : decode prog_13_method_49_code 1 = .ok (.getfield 19, 3) := by decide +kernel
theorem d_Mo_costWith_4 : decode prog_13_method_49_code 4 = .ok (.iload_n 1, 1) := by decide +kernel
theorem d_Mo_costWith_5 : decode prog_13_method_49_code 5 = .ok (.iaload, 1) := by decide +kernel
theorem d_Mo_costWith_6 : decode prog_13_method_49_code 6 = .ok (.istore_n 3, 1) := by decide +kernel
theorem d_Mo_costWith_7 : decode prog_13_method_49_code 7 = .ok (.aload_n 0, 1) := by decide +kernel
theorem d_Mo_costWith_8 : decode prog_13_method_49_code 8 = .ok (.getfield 19, 3) := by decide +kernel
theorem d_Mo_costWith_11 : decode prog_13_method_49_code 11 = .ok (.iload_n 1, 1) := by decide +kernel
theorem d_Mo_costWith_12 : decode prog_13_method_49_code 12 = .ok (.iload_n 2, 1) := by decide +kernel
theorem d_Mo_costWith_13 : decode prog_13_method_49_code 13 = .ok (.iastore, 1) := by decide +kernel
theorem d_Mo_costWith_14 : decode prog_13_method_49_code 14 = .ok (.aload_n 0, 1) := by decide +kernel
theorem d_Mo_costWith_15 : decode prog_13_method_49_code 15 = .ok (.iload_n 1, 1) := by decide +kernel
theorem d_Mo_costWith_16 : decode prog_13_method_49_code 16 = .ok (.invokevirtual 152, 3) := by decide +kernel
theorem d_Mo_costWith_19 : decode prog_13_method_49_code 19 = .ok (.istore 4, 2) := by decide +kernel
theorem d_Mo_costWith_21 : decode prog_13_method_49_code 21 = .ok (.aload_n 0, 1) := by decide +kernel
theorem d_Mo_costWith_22 : decode prog_13_method_49_code 22 = .ok (.getfield 19, 3) := by decide +kernel
theorem d_Mo_costWith_25 : decode prog_13_method_49_code 25 = .ok (.iload_n 1, 1) := by decide +kernel
theorem d_Mo_costWith_26 : decode prog_13_method_49_code 26 = .ok (.iload_n 3, 1) := by decide +kernel
theorem d_Mo_costWith_27 : decode prog_13_method_49_code 27 = .ok (.iastore, 1) := by decide +kernel
theorem d_Mo_costWith_28 : decode prog_13_method_49_code 28 = .ok (.iload 4, 2) := by decide +kernel
theorem d_Mo_costWith_30 : decode prog_13_method_49_code 30 = .ok (.ireturn, 1) := by decide +kernel
theorem d_Mo_treeNow_0 : decode prog_13_method_25_code 0 = .ok (.iconst 0, 1) := by decide +kernel
theorem d_Mo_treeNow_1 : decode prog_13_method_25_code 1 = .ok (.istore_n 3, 1) := by decide +kernel
theorem d_Mo_treeNow_2 : decode prog_13_method_25_code 2 = .ok (.iconst 0, 1) := by decide +kernel
theorem d_Mo_treeNow_3 : decode prog_13_method_25_code 3 = .ok (.istore 4, 2) := by decide +kernel
theorem d_Mo_treeNow_5 : decode prog_13_method_25_code 5 = .ok (.iload 4, 2) := by decide +kernel
theorem d_Mo_treeNow_7 : decode prog_13_method_25_code 7 = .ok (.aload_n 0, 1) := by decide +kernel
theorem d_Mo_treeNow_8 : decode prog_13_method_25_code 8 = .ok (.getfield 124, 3) := by decide +kernel
theorem d_Mo_treeNow_11 : decode prog_13_method_25_code 11 = .ok (.if_icmp .ge 30, 3) := by decide +kernel
theorem d_Mo_treeNow_14 : decode prog_13_method_25_code 14 = .ok (.iload_n 3, 1) := by decide +kernel
theorem d_Mo_treeNow_15 : decode prog_13_method_25_code 15 = .ok (.aload_n 0, 1) := by decide +kernel
theorem d_Mo_treeNow_16 : decode prog_13_method_25_code 16 = .ok (.iload 4, 2) := by decide +kernel
theorem d_Mo_treeNow_18 : decode prog_13_method_25_code 18 = .ok (.iload_n 1, 1) := by decide +kernel
theorem d_Mo_treeNow_19 : decode prog_13_method_25_code 19 = .ok (.invokevirtual 155, 3) := by decide +kernel
theorem d_Mo_treeNow_22 : decode prog_13_method_25_code 22 = .ok (.ifCond .eq 10, 3) := by decide +kernel
theorem d_Mo_treeNow_25 : decode prog_13_method_25_code 25 = .ok (.iconst 1, 1) := by decide +kernel
theorem d_Mo_treeNow_26 : decode prog_13_method_25_code 26 = .ok (.iload 4, 2) := by decide +kernel
theorem d_Mo_treeNow_28 : decode prog_13_method_25_code 28 = .ok (.ishl, 1) := by decide +kernel
theorem d_Mo_treeNow_29 : decode prog_13_method_25_code 29 = .ok (.goto 4, 3) := by decide +kernel
theorem d_Mo_treeNow_32 : decode prog_13_method_25_code 32 = .ok (.iconst 0, 1) := by decide +kernel
theorem d_Mo_treeNow_33 : decode prog_13_method_25_code 33 = .ok (.ior, 1) := by decide +kernel
theorem d_Mo_treeNow_34 : decode prog_13_method_25_code 34 = .ok (.istore_n 3, 1) := by decide +kernel
theorem d_Mo_treeNow_35 : decode prog_13_method_25_code 35 = .ok (.iinc 4 1, 3) := by decide +kernel
theorem d_Mo_treeNow_38 : decode prog_13_method_25_code 38 = .ok (.goto (-33), 3) := by decide +kernel
theorem d_Mo_treeNow_41 : decode prog_13_method_25_code 41 = .ok (.iload_n 2, 1) := by decide +kernel
theorem d_Mo_treeNow_42 : decode prog_13_method_25_code 42 = .ok (.ifCond .ne 12, 3) := by decide +kernel
theorem d_Mo_treeNow_45 : decode prog_13_method_25_code 45 = .ok (.aload_n 0, 1) := by decide +kernel
theorem d_Mo_treeNow_46 : decode prog_13_method_25_code 46 = .ok (.getfield 7, 3) := by decide +kernel
theorem d_Mo_treeNow_49 : decode prog_13_method_25_code 49 = .ok (.iload_n 1, 1) := by decide +kernel
theorem d_Mo_treeNow_50 : decode prog_13_method_25_code 50 = .ok (.iaload, 1) := by decide +kernel
theorem d_Mo_treeNow_51 : decode prog_13_method_25_code 51 = .ok (.goto 18, 3) := by decide +kernel
theorem d_Mo_treeNow_54 : decode prog_13_method_25_code 54 = .ok (.iload_n 2, 1) := by decide +kernel
theorem d_Mo_treeNow_55 : decode prog_13_method_25_code 55 = .ok (.iconst 1, 1) := by decide +kernel
theorem d_Mo_treeNow_56 : decode prog_13_method_25_code 56 = .ok (.if_icmp .ne 12, 3) := by decide +kernel
theorem d_Mo_treeNow_59 : decode prog_13_method_25_code 59 = .ok (.aload_n 0, 1) := by decide +kernel
theorem d_Mo_treeNow_60 : decode prog_13_method_25_code 60 = .ok (.getfield 13, 3) := by decide +kernel
theorem d_Mo_treeNow_63 : decode prog_13_method_25_code 63 = .ok (.iload_n 1, 1) := by decide +kernel
theorem d_Mo_treeNow_64 : decode prog_13_method_25_code 64 = .ok (.iaload, 1) := by decide +kernel
theorem d_Mo_treeNow_65 : decode prog_13_method_25_code 65 = .ok (.goto 4, 3) := by decide +kernel
theorem d_Mo_treeNow_68 : decode prog_13_method_25_code 68 = .ok (.iload_n 3, 1) := by decide +kernel
theorem d_Mo_treeNow_69 : decode prog_13_method_25_code 69 = .ok (.ireturn, 1) := by decide +kernel
theorem d_Mo_ofTrees_0 : decode prog_13_method_57_code 0 = .ok (.iconst 0, 1) := by decide +kernel
theorem d_Mo_ofTrees_1 : decode prog_13_method_57_code 1 = .ok (.istore_n 2, 1) := by decide +kernel
theorem d_Mo_ofTrees_2 : decode prog_13_method_57_code 2 = .ok (.iconst 0, 1) := by decide +kernel
theorem d_Mo_ofTrees_3 : decode prog_13_method_57_code 3 = .ok (.istore_n 3, 1) := by decide +kernel
theorem d_Mo_ofTrees_4 : decode prog_13_method_57_code 4 = .ok (.iload_n 3, 1) := by decide +kernel
theorem d_Mo_ofTrees_5 : decode prog_13_method_57_code 5 = .ok (.aload_n 0, 1) := by decide +kernel
theorem d_Mo_ofTrees_6 : decode prog_13_method_57_code 6 = .ok (.getfield 121, 3) := by decide +kernel
theorem d_Mo_ofTrees_9 : decode prog_13_method_57_code 9 = .ok (.if_icmp .ge 18, 3) := by decide +kernel
theorem d_Mo_ofTrees_12 : decode prog_13_method_57_code 12 = .ok (.iload_n 2, 1) := by decide +kernel
theorem d_Mo_ofTrees_13 : decode prog_13_method_57_code 13 = .ok (.aload_n 0, 1) := by decide +kernel
theorem d_Mo_ofTrees_14 : decode prog_13_method_57_code 14 = .ok (.iload_n 3, 1) := by decide +kernel
theorem d_Mo_ofTrees_15 : decode prog_13_method_57_code 15 = .ok (.iload_n 1, 1) := by decide +kernel
theorem d_Mo_ofTrees_16 : decode prog_13_method_57_code 16 = .ok (.invokevirtual 162, 3) := by decide +kernel
theorem d_Mo_ofTrees_19 : decode prog_13_method_57_code 19 = .ok (.iadd, 1) := by decide +kernel
theorem d_Mo_ofTrees_20 : decode prog_13_method_57_code 20 = .ok (.istore_n 2, 1) := by decide +kernel
theorem d_Mo_ofTrees_21 : decode prog_13_method_57_code 21 = .ok (.iinc 3 1, 3) := by decide +kernel
theorem d_Mo_ofTrees_24 : decode prog_13_method_57_code 24 = .ok (.goto (-20), 3) := by decide +kernel
theorem d_Mo_ofTrees_27 : decode prog_13_method_57_code 27 = .ok (.iload_n 2, 1) := by decide +kernel
theorem d_Mo_ofTrees_28 : decode prog_13_method_57_code 28 = .ok (.ireturn, 1) := by decide +kernel
theorem d_Mo_size_0 : decode prog_13_method_5_code 0 = .ok (.iconst 0, 1) := by decide +kernel
theorem d_Mo_size_1 : decode prog_13_method_5_code 1 = .ok (.istore_n 1, 1) := by decide +kernel
theorem d_Mo_size_2 : decode prog_13_method_5_code 2 = .ok (.iconst 0, 1) := by decide +kernel
theorem d_Mo_size_3 : decode prog_13_method_5_code 3 = .ok (.istore_n 2, 1) := by decide +kernel
theorem d_Mo_size_4 : decode prog_13_method_5_code 4 = .ok (.iload_n 2, 1) := by decide +kernel
theorem d_Mo_size_5 : decode prog_13_method_5_code 5 = .ok (.bipush 10, 2) := by decide +kernel
theorem d_Mo_size_7 : decode prog_13_method_5_code 7 = .ok (.if_icmp .ge 17, 3) := by decide +kernel
theorem d_Mo_size_10 : decode prog_13_method_5_code 10 = .ok (.iload_n 1, 1) := by decide +kernel
theorem d_Mo_size_11 : decode prog_13_method_5_code 11 = .ok (.iload_n 0, 1) := by decide +kernel
theorem d_Mo_size_12 : decode prog_13_method_5_code 12 = .ok (.iload_n 2, 1) := by decide +kernel
theorem d_Mo_size_13 : decode prog_13_method_5_code 13 = .ok (.ishr, 1) := by decide +kernel
theorem d_Mo_size_14 : decode prog_13_method_5_code 14 = .ok (.iconst 1, 1) := by decide +kernel
theorem d_Mo_size_15 : decode prog_13_method_5_code 15 = .ok (.iand, 1) := by decide +kernel
theorem d_Mo_size_16 : decode prog_13_method_5_code 16 = .ok (.iadd, 1) := by decide +kernel
theorem d_Mo_size_17 : decode prog_13_method_5_code 17 = .ok (.istore_n 1, 1) := by decide +kernel
theorem d_Mo_size_18 : decode prog_13_method_5_code 18 = .ok (.iinc 2 1, 3) := by decide +kernel
theorem d_Mo_size_21 : decode prog_13_method_5_code 21 = .ok (.goto (-17), 3) := by decide +kernel
theorem d_Mo_size_24 : decode prog_13_method_5_code 24 = .ok (.iload_n 1, 1) := by decide +kernel
theorem d_Mo_size_25 : decode prog_13_method_5_code 25 = .ok (.ireturn, 1) := by decide +kernel
theorem d_Mo_howMany_0 : decode prog_13_method_58_code 0 = .ok (.iload_n 1, 1) := by decide +kernel
theorem d_Mo_howMany_1 : decode prog_13_method_58_code 1 = .ok (.tableswitch 128 0 11 #[63, 68, 73, 73, 81, 89, 98, 103, 108, 113, 118, 123], 63) := by decide +kernel
theorem d_Mo_howMany_64 : decode prog_13_method_58_code 64 = .ok (.aload_n 0, 1) := by decide +kernel
theorem d_Mo_howMany_65 : decode prog_13_method_58_code 65 = .ok (.getfield 121, 3) := by decide +kernel
theorem d_Mo_howMany_68 : decode prog_13_method_58_code 68 = .ok (.ireturn, 1) := by decide +kernel
theorem d_Mo_howMany_69 : decode prog_13_method_58_code 69 = .ok (.aload_n 0, 1) := by decide +kernel
theorem d_Mo_howMany_70 : decode prog_13_method_58_code 70 = .ok (.getfield 124, 3) := by decide +kernel
theorem d_Mo_howMany_73 : decode prog_13_method_58_code 73 = .ok (.ireturn, 1) := by decide +kernel
theorem d_Mo_howMany_74 : decode prog_13_method_58_code 74 = .ok (.aload_n 0, 1) := by decide +kernel
theorem d_Mo_howMany_75 : decode prog_13_method_58_code 75 = .ok (.iload_n 1, 1) := by decide +kernel
theorem d_Mo_howMany_76 : decode prog_13_method_58_code 76 = .ok (.iconst 2, 1) := by decide +kernel
theorem d_Mo_howMany_77 : decode prog_13_method_58_code 77 = .ok (.isub, 1) := by decide +kernel
theorem d_Mo_howMany_78 : decode prog_13_method_58_code 78 = .ok (.invokevirtual 269, 3) := by decide +kernel
theorem d_Mo_howMany_81 : decode prog_13_method_58_code 81 = .ok (.ireturn, 1) := by decide +kernel
theorem d_Mo_howMany_82 : decode prog_13_method_58_code 82 = .ok (.aload_n 0, 1) := by decide +kernel
theorem d_Mo_howMany_83 : decode prog_13_method_58_code 83 = .ok (.getfield 127, 3) := by decide +kernel
theorem d_Mo_howMany_86 : decode prog_13_method_58_code 86 = .ok (.invokestatic 169, 3) := by decide +kernel
theorem d_Mo_howMany_89 : decode prog_13_method_58_code 89 = .ok (.ireturn, 1) := by decide +kernel
theorem d_Mo_howMany_90 : decode prog_13_method_58_code 90 = .ok (.aload_n 0, 1) := by decide +kernel
theorem d_Mo_howMany_91 : decode prog_13_method_58_code 91 = .ok (.aload_n 0, 1) := by decide +kernel
theorem d_Mo_howMany_92 : decode prog_13_method_58_code 92 = .ok (.getfield 127, 3) := by decide +kernel
theorem d_Mo_howMany_95 : decode prog_13_method_58_code 95 = .ok (.invokevirtual 187, 3) := by decide +kernel
theorem d_Mo_howMany_98 : decode prog_13_method_58_code 98 = .ok (.ireturn, 1) := by decide +kernel
theorem d_Mo_howMany_99 : decode prog_13_method_58_code 99 = .ok (.aload_n 0, 1) := by decide +kernel
theorem d_Mo_howMany_100 : decode prog_13_method_58_code 100 = .ok (.getfield 133, 3) := by decide +kernel
theorem d_Mo_howMany_103 : decode prog_13_method_58_code 103 = .ok (.ireturn, 1) := by decide +kernel
theorem d_Mo_howMany_104 : decode prog_13_method_58_code 104 = .ok (.aload_n 0, 1) := by decide +kernel
theorem d_Mo_howMany_105 : decode prog_13_method_58_code 105 = .ok (.getfield 130, 3) := by decide +kernel
theorem d_Mo_howMany_108 : decode prog_13_method_58_code 108 = .ok (.ireturn, 1) := by decide +kernel
theorem d_Mo_howMany_109 : decode prog_13_method_58_code 109 = .ok (.aload_n 0, 1) := by decide +kernel
theorem d_Mo_howMany_110 : decode prog_13_method_58_code 110 = .ok (.getfield 139, 3) := by decide +kernel
theorem d_Mo_howMany_113 : decode prog_13_method_58_code 113 = .ok (.ireturn, 1) := by decide +kernel
theorem d_Mo_howMany_114 : decode prog_13_method_58_code 114 = .ok (.aload_n 0, 1) := by decide +kernel
theorem d_Mo_howMany_115 : decode prog_13_method_58_code 115 = .ok (.getfield 87, 3) := by decide +kernel
theorem d_Mo_howMany_118 : decode prog_13_method_58_code 118 = .ok (.ireturn, 1) := by decide +kernel
theorem d_Mo_howMany_119 : decode prog_13_method_58_code 119 = .ok (.aload_n 0, 1) := by decide +kernel
theorem d_Mo_howMany_120 : decode prog_13_method_58_code 120 = .ok (.getfield 136, 3) := by decide +kernel
theorem d_Mo_howMany_123 : decode prog_13_method_58_code 123 = .ok (.ireturn, 1) := by decide +kernel
theorem d_Mo_howMany_124 : decode prog_13_method_58_code 124 = .ok (.aload_n 0, 1) := by decide +kernel
theorem d_Mo_howMany_125 : decode prog_13_method_58_code 125 = .ok (.getfield 204, 3) := by decide +kernel
theorem d_Mo_howMany_128 : decode prog_13_method_58_code 128 = .ok (.ireturn, 1) := by decide +kernel
theorem d_Mo_howMany_129 : decode prog_13_method_58_code 129 = .ok (.bipush (-102), 2) := by decide +kernel
theorem d_Mo_howMany_131 : decode prog_13_method_58_code 131 = .ok (.ireturn, 1) := by decide +kernel
theorem d_Mo_count_0 : decode prog_13_method_59_code 0 = .ok (.aload_n 0, 1) := by decide +kernel
theorem d_Mo_count_1 : decode prog_13_method_59_code 1 = .ok (.iload_n 1, 1) := by decide +kernel
theorem d_Mo_count_2 : decode prog_13_method_59_code 2 = .ok (.invokevirtual 272, 3) := by decide +kernel
theorem d_Mo_count_5 : decode prog_13_method_59_code 5 = .ok (.ireturn, 1) := by decide +kernel
theorem d_Mo_mix_0 : decode prog_13_method_60_code 0 = .ok (.aload_n 0, 1) := by decide +kernel
theorem d_Mo_mix_1 : decode prog_13_method_60_code 1 = .ok (.ldc2_w 275, 3) := by decide +kernel
theorem d_Mo_mix_4 : decode prog_13_method_60_code 4 = .ok (.aload_n 0, 1) := by decide +kernel
theorem d_Mo_mix_5 : decode prog_13_method_60_code 5 = .ok (.getfield 277, 3) := by decide +kernel
theorem d_Mo_mix_8 : decode prog_13_method_60_code 8 = .ok (.lmul, 1) := by decide +kernel
theorem d_Mo_mix_9 : decode prog_13_method_60_code 9 = .ok (.lload_n 1, 1) := by decide +kernel
theorem d_Mo_mix_10 : decode prog_13_method_60_code 10 = .ok (.ladd, 1) := by decide +kernel
theorem d_Mo_mix_11 : decode prog_13_method_60_code 11 = .ok (.putfield 277, 3) := by decide +kernel
theorem d_Mo_mix_14 : decode prog_13_method_60_code 14 = .ok (.return_, 1) := by decide +kernel
theorem d_Mo_gameNow_0 : decode prog_13_method_43_code 0 = .ok (.iconst 1, 1) := by decide +kernel
theorem d_Mo_gameNow_1 : decode prog_13_method_43_code 1 = .ok (.aload_n 0, 1) := by decide +kernel
theorem d_Mo_gameNow_2 : decode prog_13_method_43_code 2 = .ok (.getfield 124, 3) := by decide +kernel
theorem d_Mo_gameNow_5 : decode prog_13_method_43_code 5 = .ok (.ishl, 1) := by decide +kernel
theorem d_Mo_gameNow_6 : decode prog_13_method_43_code 6 = .ok (.iconst 1, 1) := by decide +kernel
theorem d_Mo_gameNow_7 : decode prog_13_method_43_code 7 = .ok (.isub, 1) := by decide +kernel
theorem d_Mo_gameNow_8 : decode prog_13_method_43_code 8 = .ok (.istore_n 3, 1) := by decide +kernel
theorem d_Mo_gameNow_9 : decode prog_13_method_43_code 9 = .ok (.iload_n 3, 1) := by decide +kernel
theorem d_Mo_gameNow_10 : decode prog_13_method_43_code 10 = .ok (.ifCond .lt 52, 3) := by decide +kernel
theorem d_Mo_gameNow_13 : decode prog_13_method_43_code 13 = .ok (.aload_n 0, 1) := by decide +kernel
theorem d_Mo_gameNow_14 : decode prog_13_method_43_code 14 = .ok (.iload_n 1, 1) := by decide +kernel
theorem d_Mo_gameNow_15 : decode prog_13_method_43_code 15 = .ok (.iload_n 3, 1) := by decide +kernel
theorem d_Mo_gameNow_16 : decode prog_13_method_43_code 16 = .ok (.invokevirtual 216, 3) := by decide +kernel
theorem d_Mo_gameNow_19 : decode prog_13_method_43_code 19 = .ok (.istore 4, 2) := by decide +kernel
theorem d_Mo_gameNow_21 : decode prog_13_method_43_code 21 = .ok (.aload_n 0, 1) := by decide +kernel
theorem d_Mo_gameNow_22 : decode prog_13_method_43_code 22 = .ok (.getfield 50, 3) := by decide +kernel
theorem d_Mo_gameNow_25 : decode prog_13_method_43_code 25 = .ok (.iload_n 3, 1) := by decide +kernel
theorem d_Mo_gameNow_26 : decode prog_13_method_43_code 26 = .ok (.iload 4, 2) := by decide +kernel
theorem d_Mo_gameNow_28 : decode prog_13_method_43_code 28 = .ok (.iconst (-1), 1) := by decide +kernel
theorem d_Mo_gameNow_29 : decode prog_13_method_43_code 29 = .ok (.if_icmp .ne 7, 3) := by decide +kernel
theorem d_Mo_gameNow_32 : decode prog_13_method_43_code 32 = .ok (.iconst 0, 1) := by decide +kernel
theorem d_Mo_gameNow_33 : decode prog_13_method_43_code 33 = .ok (.goto 22, 3) := by decide +kernel
theorem d_Mo_gameNow_36 : decode prog_13_method_43_code 36 = .ok (.aload_n 0, 1) := by decide +kernel
theorem d_Mo_gameNow_37 : decode prog_13_method_43_code 37 = .ok (.getfield 22, 3) := by decide +kernel
theorem d_Mo_gameNow_40 : decode prog_13_method_43_code 40 = .ok (.iload 4, 2) := by decide +kernel
theorem d_Mo_gameNow_42 : decode prog_13_method_43_code 42 = .ok (.iaload, 1) := by decide +kernel
theorem d_Mo_gameNow_43 : decode prog_13_method_43_code 43 = .ok (.aload_n 0, 1) := by decide +kernel
theorem d_Mo_gameNow_44 : decode prog_13_method_43_code 44 = .ok (.getfield 50, 3) := by decide +kernel
theorem d_Mo_gameNow_47 : decode prog_13_method_43_code 47 = .ok (.iload_n 3, 1) := by decide +kernel
theorem d_Mo_gameNow_48 : decode prog_13_method_43_code 48 = .ok (.iconst 1, 1) := by decide +kernel
theorem d_Mo_gameNow_49 : decode prog_13_method_43_code 49 = .ok (.iload 4, 2) := by decide +kernel
theorem d_Mo_gameNow_51 : decode prog_13_method_43_code 51 = .ok (.ishl, 1) := by decide +kernel
theorem d_Mo_gameNow_52 : decode prog_13_method_43_code 52 = .ok (.ior, 1) := by decide +kernel
theorem d_Mo_gameNow_53 : decode prog_13_method_43_code 53 = .ok (.iaload, 1) := by decide +kernel
theorem d_Mo_gameNow_54 : decode prog_13_method_43_code 54 = .ok (.isub, 1) := by decide +kernel
theorem d_Mo_gameNow_55 : decode prog_13_method_43_code 55 = .ok (.iastore, 1) := by decide +kernel
theorem d_Mo_gameNow_56 : decode prog_13_method_43_code 56 = .ok (.iinc 3 (-1), 3) := by decide +kernel
theorem d_Mo_gameNow_59 : decode prog_13_method_43_code 59 = .ok (.goto (-50), 3) := by decide +kernel
theorem d_Mo_gameNow_62 : decode prog_13_method_43_code 62 = .ok (.iload_n 2, 1) := by decide +kernel
theorem d_Mo_gameNow_63 : decode prog_13_method_43_code 63 = .ok (.ifCond .ne 15, 3) := by decide +kernel
theorem d_Mo_gameNow_66 : decode prog_13_method_43_code 66 = .ok (.aload_n 0, 1) := by decide +kernel
theorem d_Mo_gameNow_67 : decode prog_13_method_43_code 67 = .ok (.getfield 50, 3) := by decide +kernel
theorem d_Mo_gameNow_70 : decode prog_13_method_43_code 70 = .ok (.iconst 0, 1) := by decide +kernel
theorem d_Mo_gameNow_71 : decode prog_13_method_43_code 71 = .ok (.iaload, 1) := by decide +kernel
theorem d_Mo_gameNow_72 : decode prog_13_method_43_code 72 = .ok (.bipush 100, 2) := by decide +kernel
theorem d_Mo_gameNow_74 : decode prog_13_method_43_code 74 = .ok (.iadd, 1) := by decide +kernel
theorem d_Mo_gameNow_75 : decode prog_13_method_43_code 75 = .ok (.goto 9, 3) := by decide +kernel
theorem d_Mo_gameNow_78 : decode prog_13_method_43_code 78 = .ok (.aload_n 0, 1) := by decide +kernel
theorem d_Mo_gameNow_79 : decode prog_13_method_43_code 79 = .ok (.iload_n 1, 1) := by decide +kernel
theorem d_Mo_gameNow_80 : decode prog_13_method_43_code 80 = .ok (.iconst 0, 1) := by decide +kernel
theorem d_Mo_gameNow_81 : decode prog_13_method_43_code 81 = .ok (.invokevirtual 216, 3) := by decide +kernel
theorem d_Mo_gameNow_84 : decode prog_13_method_43_code 84 = .ok (.ireturn, 1) := by decide +kernel
theorem d_Mo_needsOf_0 : decode prog_13_method_50_code 0 = .ok (.iconst 0, 1) := by decide +kernel
theorem d_Mo_needsOf_1 : decode prog_13_method_50_code 1 = .ok (.istore_n 2, 1) := by decide +kernel
theorem d_Mo_needsOf_2 : decode prog_13_method_50_code 2 = .ok (.iconst 1, 1) := by decide +kernel
theorem d_Mo_needsOf_3 : decode prog_13_method_50_code 3 = .ok (.istore_n 3, 1) := by decide +kernel
theorem d_Mo_needsOf_4 : decode prog_13_method_50_code 4 = .ok (.iload_n 3, 1) := by decide +kernel
theorem d_Mo_needsOf_5 : decode prog_13_method_50_code 5 = .ok (.bipush 9, 2) := by decide +kernel
theorem d_Mo_needsOf_7 : decode prog_13_method_50_code 7 = .ok (.if_icmp .gt 110, 3) := by decide +kernel
theorem d_Mo_needsOf_10 : decode prog_13_method_50_code 10 = .ok (.iconst 1, 1) := by decide +kernel
theorem d_Mo_needsOf_11 : decode prog_13_method_50_code 11 = .ok (.istore 4, 2) := by decide +kernel
theorem d_Mo_needsOf_13 : decode prog_13_method_50_code 13 = .ok (.iconst 0, 1) := by decide +kernel
theorem d_Mo_needsOf_14 : decode prog_13_method_50_code 14 = .ok (.istore 5, 2) := by decide +kernel
theorem d_Mo_needsOf_16 : decode prog_13_method_50_code 16 = .ok (.iload 5, 2) := by decide +kernel
theorem d_Mo_needsOf_18 : decode prog_13_method_50_code 18 = .ok (.aload_n 0, 1) := by decide +kernel
theorem d_Mo_needsOf_19 : decode prog_13_method_50_code 19 = .ok (.getfield 139, 3) := by decide +kernel
theorem d_Mo_needsOf_22 : decode prog_13_method_50_code 22 = .ok (.if_icmp .ge 72, 3) := by decide +kernel
theorem d_Mo_needsOf_25 : decode prog_13_method_50_code 25 = .ok (.iload 4, 2) := by decide +kernel
theorem d_Mo_needsOf_27 : decode prog_13_method_50_code 27 = .ok (.ifCond .eq 58, 3) := by decide +kernel
theorem d_Mo_needsOf_30 : decode prog_13_method_50_code 30 = .ok (.aload_n 0, 1) := by decide +kernel
theorem d_Mo_needsOf_31 : decode prog_13_method_50_code 31 = .ok (.getfield 28, 3) := by decide +kernel
theorem d_Mo_needsOf_34 : decode prog_13_method_50_code 34 = .ok (.iload 5, 2) := by decide +kernel
theorem d_Mo_needsOf_36 : decode prog_13_method_50_code 36 = .ok (.iaload, 1) := by decide +kernel
theorem d_Mo_needsOf_37 : decode prog_13_method_50_code 37 = .ok (.iload_n 1, 1) := by decide +kernel
theorem d_Mo_needsOf_38 : decode prog_13_method_50_code 38 = .ok (.if_icmp .ne 43, 3) := by decide +kernel
theorem d_Mo_needsOf_41 : decode prog_13_method_50_code 41 = .ok (.aload_n 0, 1) := by decide +kernel
theorem d_Mo_needsOf_42 : decode prog_13_method_50_code 42 = .ok (.iload_n 1, 1) := by decide +kernel
theorem d_Mo_needsOf_43 : decode prog_13_method_50_code 43 = .ok (.iload_n 3, 1) := by decide +kernel
theorem d_Mo_needsOf_44 : decode prog_13_method_50_code 44 = .ok (.invokevirtual 229, 3) := by decide +kernel
theorem d_Mo_needsOf_47 : decode prog_13_method_50_code 47 = .ok (.aload_n 0, 1) := by decide +kernel
theorem d_Mo_needsOf_48 : decode prog_13_method_50_code 48 = .ok (.getfield 31, 3) := by decide +kernel
theorem d_Mo_needsOf_51 : decode prog_13_method_50_code 51 = .ok (.iload 5, 2) := by decide +kernel
theorem d_Mo_needsOf_53 : decode prog_13_method_50_code 53 = .ok (.iaload, 1) := by decide +kernel
theorem d_Mo_needsOf_54 : decode prog_13_method_50_code 54 = .ok (.if_icmp .gt 7, 3) := by decide +kernel
theorem d_Mo_needsOf_57 : decode prog_13_method_50_code 57 = .ok (.iconst 1, 1) := by decide +kernel
theorem d_Mo_needsOf_58 : decode prog_13_method_50_code 58 = .ok (.goto 4, 3) := by decide +kernel
theorem d_Mo_needsOf_61 : decode prog_13_method_50_code 61 = .ok (.iconst 0, 1) := by decide +kernel
theorem d_Mo_needsOf_62 : decode prog_13_method_50_code 62 = .ok (.aload_n 0, 1) := by decide +kernel
theorem d_Mo_needsOf_63 : decode prog_13_method_50_code 63 = .ok (.getfield 34, 3) := by decide +kernel
theorem d_Mo_needsOf_66 : decode prog_13_method_50_code 66 = .ok (.iload 5, 2) := by decide +kernel
theorem d_Mo_needsOf_68 : decode prog_13_method_50_code 68 = .ok (.iaload, 1) := by decide +kernel
theorem d_Mo_needsOf_69 : decode prog_13_method_50_code 69 = .ok (.iconst 1, 1) := by decide +kernel
theorem d_Mo_needsOf_70 : decode prog_13_method_50_code 70 = .ok (.if_icmp .ne 7, 3) := by decide +kernel
theorem d_Mo_needsOf_73 : decode prog_13_method_50_code 73 = .ok (.iconst 1, 1) := by decide +kernel
theorem d_Mo_needsOf_74 : decode prog_13_method_50_code 74 = .ok (.goto 4, 3) := by decide +kernel
theorem d_Mo_needsOf_77 : decode prog_13_method_50_code 77 = .ok (.iconst 0, 1) := by decide +kernel
theorem d_Mo_needsOf_78 : decode prog_13_method_50_code 78 = .ok (.if_icmp .ne 7, 3) := by decide +kernel
theorem d_Mo_needsOf_81 : decode prog_13_method_50_code 81 = .ok (.iconst 1, 1) := by decide +kernel
theorem d_Mo_needsOf_82 : decode prog_13_method_50_code 82 = .ok (.goto 4, 3) := by decide +kernel
theorem d_Mo_needsOf_85 : decode prog_13_method_50_code 85 = .ok (.iconst 0, 1) := by decide +kernel
theorem d_Mo_needsOf_86 : decode prog_13_method_50_code 86 = .ok (.istore 4, 2) := by decide +kernel
theorem d_Mo_needsOf_88 : decode prog_13_method_50_code 88 = .ok (.iinc 5 1, 3) := by decide +kernel
theorem d_Mo_needsOf_91 : decode prog_13_method_50_code 91 = .ok (.goto (-75), 3) := by decide +kernel
theorem d_Mo_needsOf_94 : decode prog_13_method_50_code 94 = .ok (.iload_n 2, 1) := by decide +kernel
theorem d_Mo_needsOf_95 : decode prog_13_method_50_code 95 = .ok (.iload 4, 2) := by decide +kernel
theorem d_Mo_needsOf_97 : decode prog_13_method_50_code 97 = .ok (.ifCond .eq 11, 3) := by decide +kernel
theorem d_Mo_needsOf_100 : decode prog_13_method_50_code 100 = .ok (.iconst 1, 1) := by decide +kernel
theorem d_Mo_needsOf_101 : decode prog_13_method_50_code 101 = .ok (.iload_n 3, 1) := by decide +kernel
theorem d_Mo_needsOf_102 : decode prog_13_method_50_code 102 = .ok (.iconst 1, 1) := by decide +kernel
theorem d_Mo_needsOf_103 : decode prog_13_method_50_code 103 = .ok (.isub, 1) := by decide +kernel
theorem d_Mo_needsOf_104 : decode prog_13_method_50_code 104 = .ok (.ishl, 1) := by decide +kernel
theorem d_Mo_needsOf_105 : decode prog_13_method_50_code 105 = .ok (.goto 4, 3) := by decide +kernel
theorem d_Mo_needsOf_108 : decode prog_13_method_50_code 108 = .ok (.iconst 0, 1) := by decide +kernel
theorem d_Mo_needsOf_109 : decode prog_13_method_50_code 109 = .ok (.ior, 1) := by decide +kernel
theorem d_Mo_needsOf_110 : decode prog_13_method_50_code 110 = .ok (.istore_n 2, 1) := by decide +kernel
theorem d_Mo_needsOf_111 : decode prog_13_method_50_code 111 = .ok (.iinc 3 1, 3) := by decide +kernel
theorem d_Mo_needsOf_114 : decode prog_13_method_50_code 114 = .ok (.goto (-110), 3) := by decide +kernel
theorem d_Mo_needsOf_117 : decode prog_13_method_50_code 117 = .ok (.iload_n 2, 1) := by decide +kernel
theorem d_Mo_needsOf_118 : decode prog_13_method_50_code 118 = .ok (.ireturn, 1) := by decide +kernel
theorem d_Mo_tryFor_0 : decode prog_13_method_51_code 0 = .ok (.aload_n 0, 1) := by decide +kernel
theorem d_Mo_tryFor_1 : decode prog_13_method_51_code 1 = .ok (.iload_n 1, 1) := by decide +kernel
theorem d_Mo_tryFor_2 : decode prog_13_method_51_code 2 = .ok (.invokevirtual 172, 3) := by decide +kernel
theorem d_Mo_tryFor_5 : decode prog_13_method_51_code 5 = .ok (.istore_n 2, 1) := by decide +kernel
theorem d_Mo_tryFor_6 : decode prog_13_method_51_code 6 = .ok (.iconst (-1), 1) := by decide +kernel
theorem d_Mo_tryFor_7 : decode prog_13_method_51_code 7 = .ok (.istore_n 3, 1) := by decide +kernel
theorem d_Mo_tryFor_8 : decode prog_13_method_51_code 8 = .ok (.ldc 196, 2) := by decide +kernel
theorem d_Mo_tryFor_10 : decode prog_13_method_51_code 10 = .ok (.istore 4, 2) := by decide +kernel
theorem d_Mo_tryFor_12 : decode prog_13_method_51_code 12 = .ok (.iconst 1, 1) := by decide +kernel
theorem d_Mo_tryFor_13 : decode prog_13_method_51_code 13 = .ok (.istore 5, 2) := by decide +kernel
theorem d_Mo_tryFor_15 : decode prog_13_method_51_code 15 = .ok (.iload 5, 2) := by decide +kernel
theorem d_Mo_tryFor_17 : decode prog_13_method_51_code 17 = .ok (.bipush 18, 2) := by decide +kernel
theorem d_Mo_tryFor_19 : decode prog_13_method_51_code 19 = .ok (.if_icmp .gt 120, 3) := by decide +kernel
theorem d_Mo_tryFor_22 : decode prog_13_method_51_code 22 = .ok (.iload_n 2, 1) := by decide +kernel
theorem d_Mo_tryFor_23 : decode prog_13_method_51_code 23 = .ok (.ifCond .eq 116, 3) := by decide +kernel
theorem d_Mo_tryFor_26 : decode prog_13_method_51_code 26 = .ok (.iconst 0, 1) := by decide +kernel
theorem d_Mo_tryFor_27 : decode prog_13_method_51_code 27 = .ok (.istore 6, 2) := by decide +kernel
theorem d_Mo_tryFor_29 : decode prog_13_method_51_code 29 = .ok (.iconst 1, 1) := by decide +kernel
theorem d_Mo_tryFor_30 : decode prog_13_method_51_code 30 = .ok (.istore 7, 2) := by decide +kernel
theorem d_Mo_tryFor_32 : decode prog_13_method_51_code 32 = .ok (.iload 7, 2) := by decide +kernel
theorem d_Mo_tryFor_34 : decode prog_13_method_51_code 34 = .ok (.bipush 9, 2) := by decide +kernel
theorem d_Mo_tryFor_36 : decode prog_13_method_51_code 36 = .ok (.if_icmp .gt 42, 3) := by decide +kernel
theorem d_Mo_tryFor_39 : decode prog_13_method_51_code 39 = .ok (.iload 6, 2) := by decide +kernel
theorem d_Mo_tryFor_41 : decode prog_13_method_51_code 41 = .ok (.iload_n 2, 1) := by decide +kernel
theorem d_Mo_tryFor_42 : decode prog_13_method_51_code 42 = .ok (.iload 7, 2) := by decide +kernel
theorem d_Mo_tryFor_44 : decode prog_13_method_51_code 44 = .ok (.iconst 1, 1) := by decide +kernel
theorem d_Mo_tryFor_45 : decode prog_13_method_51_code 45 = .ok (.isub, 1) := by decide +kernel
theorem d_Mo_tryFor_46 : decode prog_13_method_51_code 46 = .ok (.invokestatic 142, 3) := by decide +kernel
theorem d_Mo_tryFor_49 : decode prog_13_method_51_code 49 = .ok (.ifCond .eq 19, 3) := by decide +kernel
theorem d_Mo_tryFor_52 : decode prog_13_method_51_code 52 = .ok (.aload_n 0, 1) := by decide +kernel
theorem d_Mo_tryFor_53 : decode prog_13_method_51_code 53 = .ok (.iload_n 1, 1) := by decide +kernel
theorem d_Mo_tryFor_54 : decode prog_13_method_51_code 54 = .ok (.iload 7, 2) := by decide +kernel
theorem d_Mo_tryFor_56 : decode prog_13_method_51_code 56 = .ok (.invokevirtual 229, 3) := by decide +kernel
theorem d_Mo_tryFor_59 : decode prog_13_method_51_code 59 = .ok (.iload 5, 2) := by decide +kernel
theorem d_Mo_tryFor_61 : decode prog_13_method_51_code 61 = .ok (.if_icmp .gt 7, 3) := by decide +kernel
theorem d_Mo_tryFor_64 : decode prog_13_method_51_code 64 = .ok (.iconst 1, 1) := by decide +kernel
theorem d_Mo_tryFor_65 : decode prog_13_method_51_code 65 = .ok (.goto 4, 3) := by decide +kernel
theorem d_Mo_tryFor_68 : decode prog_13_method_51_code 68 = .ok (.iconst 0, 1) := by decide +kernel
theorem d_Mo_tryFor_69 : decode prog_13_method_51_code 69 = .ok (.iadd, 1) := by decide +kernel
theorem d_Mo_tryFor_70 : decode prog_13_method_51_code 70 = .ok (.istore 6, 2) := by decide +kernel
theorem d_Mo_tryFor_72 : decode prog_13_method_51_code 72 = .ok (.iinc 7 1, 3) := by decide +kernel
theorem d_Mo_tryFor_75 : decode prog_13_method_51_code 75 = .ok (.goto (-43), 3) := by decide +kernel
theorem d_Mo_tryFor_78 : decode prog_13_method_51_code 78 = .ok (.iload_n 2, 1) := by decide +kernel
theorem d_Mo_tryFor_79 : decode prog_13_method_51_code 79 = .ok (.invokestatic 169, 3) := by decide +kernel
theorem d_Mo_tryFor_82 : decode prog_13_method_51_code 82 = .ok (.iload 6, 2) := by decide +kernel
theorem d_Mo_tryFor_84 : decode prog_13_method_51_code 84 = .ok (.isub, 1) := by decide +kernel
theorem d_Mo_tryFor_85 : decode prog_13_method_51_code 85 = .ok (.istore 7, 2) := by decide +kernel
theorem d_Mo_tryFor_87 : decode prog_13_method_51_code 87 = .ok (.iload 6, 2) := by decide +kernel
theorem d_Mo_tryFor_89 : decode prog_13_method_51_code 89 = .ok (.iload 7, 2) := by decide +kernel
theorem d_Mo_tryFor_91 : decode prog_13_method_51_code 91 = .ok (.if_icmp .le 8, 3) := by decide +kernel
theorem d_Mo_tryFor_94 : decode prog_13_method_51_code 94 = .ok (.iload 6, 2) := by decide +kernel
theorem d_Mo_tryFor_96 : decode prog_13_method_51_code 96 = .ok (.goto 5, 3) := by decide +kernel
theorem d_Mo_tryFor_99 : decode prog_13_method_51_code 99 = .ok (.iload 7, 2) := by decide +kernel
theorem d_Mo_tryFor_101 : decode prog_13_method_51_code 101 = .ok (.istore 8, 2) := by decide +kernel
theorem d_Mo_tryFor_103 : decode prog_13_method_51_code 103 = .ok (.iload 8, 2) := by decide +kernel
theorem d_Mo_tryFor_105 : decode prog_13_method_51_code 105 = .ok (.iload 4, 2) := by decide +kernel
theorem d_Mo_tryFor_107 : decode prog_13_method_51_code 107 = .ok (.if_icmp .ge 8, 3) := by decide +kernel
theorem d_Mo_tryFor_110 : decode prog_13_method_51_code 110 = .ok (.iload 5, 2) := by decide +kernel
theorem d_Mo_tryFor_112 : decode prog_13_method_51_code 112 = .ok (.goto 4, 3) := by decide +kernel
theorem d_Mo_tryFor_115 : decode prog_13_method_51_code 115 = .ok (.iload_n 3, 1) := by decide +kernel
theorem d_Mo_tryFor_116 : decode prog_13_method_51_code 116 = .ok (.istore_n 3, 1) := by decide +kernel
theorem d_Mo_tryFor_117 : decode prog_13_method_51_code 117 = .ok (.iload 8, 2) := by decide +kernel
theorem d_Mo_tryFor_119 : decode prog_13_method_51_code 119 = .ok (.iload 4, 2) := by decide +kernel
theorem d_Mo_tryFor_121 : decode prog_13_method_51_code 121 = .ok (.if_icmp .ge 8, 3) := by decide +kernel
theorem d_Mo_tryFor_124 : decode prog_13_method_51_code 124 = .ok (.iload 8, 2) := by decide +kernel
theorem d_Mo_tryFor_126 : decode prog_13_method_51_code 126 = .ok (.goto 5, 3) := by decide +kernel
theorem d_Mo_tryFor_129 : decode prog_13_method_51_code 129 = .ok (.iload 4, 2) := by decide +kernel
theorem d_Mo_tryFor_131 : decode prog_13_method_51_code 131 = .ok (.istore 4, 2) := by decide +kernel
theorem d_Mo_tryFor_133 : decode prog_13_method_51_code 133 = .ok (.iinc 5 1, 3) := by decide +kernel
theorem d_Mo_tryFor_136 : decode prog_13_method_51_code 136 = .ok (.goto (-121), 3) := by decide +kernel
theorem d_Mo_tryFor_139 : decode prog_13_method_51_code 139 = .ok (.iload_n 3, 1) := by decide +kernel
theorem d_Mo_tryFor_140 : decode prog_13_method_51_code 140 = .ok (.ireturn, 1) := by decide +kernel
theorem d_Mo_suitNow_0 : decode prog_13_method_27_code 0 = .ok (.iload_n 2, 1) := by decide +kernel
theorem d_Mo_suitNow_1 : decode prog_13_method_27_code 1 = .ok (.tableswitch 128 0 8 #[51, 58, 65, 72, 79, 85, 102, 108, 122], 51) := by decide +kernel
theorem d_Mo_suitNow_52 : decode prog_13_method_27_code 52 = .ok (.aload_n 0, 1) := by decide +kernel
theorem d_Mo_suitNow_53 : decode prog_13_method_27_code 53 = .ok (.getfield 16, 3) := by decide +kernel
theorem d_Mo_suitNow_56 : decode prog_13_method_27_code 56 = .ok (.iload_n 1, 1) := by decide +kernel
theorem d_Mo_suitNow_57 : decode prog_13_method_27_code 57 = .ok (.iaload, 1) := by decide +kernel
theorem d_Mo_suitNow_58 : decode prog_13_method_27_code 58 = .ok (.ireturn, 1) := by decide +kernel
theorem d_Mo_suitNow_59 : decode prog_13_method_27_code 59 = .ok (.aload_n 0, 1) := by decide +kernel
theorem d_Mo_suitNow_60 : decode prog_13_method_27_code 60 = .ok (.getfield 19, 3) := by decide +kernel
theorem d_Mo_suitNow_63 : decode prog_13_method_27_code 63 = .ok (.iload_n 1, 1) := by decide +kernel
theorem d_Mo_suitNow_64 : decode prog_13_method_27_code 64 = .ok (.iaload, 1) := by decide +kernel
theorem d_Mo_suitNow_65 : decode prog_13_method_27_code 65 = .ok (.ireturn, 1) := by decide +kernel
theorem d_Mo_suitNow_66 : decode prog_13_method_27_code 66 = .ok (.aload_n 0, 1) := by decide +kernel
theorem d_Mo_suitNow_67 : decode prog_13_method_27_code 67 = .ok (.getfield 22, 3) := by decide +kernel
theorem d_Mo_suitNow_70 : decode prog_13_method_27_code 70 = .ok (.iload_n 1, 1) := by decide +kernel
theorem d_Mo_suitNow_71 : decode prog_13_method_27_code 71 = .ok (.iaload, 1) := by decide +kernel
theorem d_Mo_suitNow_72 : decode prog_13_method_27_code 72 = .ok (.ireturn, 1) := by decide +kernel
theorem d_Mo_suitNow_73 : decode prog_13_method_27_code 73 = .ok (.aload_n 0, 1) := by decide +kernel
theorem d_Mo_suitNow_74 : decode prog_13_method_27_code 74 = .ok (.getfield 25, 3) := by decide +kernel
theorem d_Mo_suitNow_77 : decode prog_13_method_27_code 77 = .ok (.iload_n 1, 1) := by decide +kernel
theorem d_Mo_suitNow_78 : decode prog_13_method_27_code 78 = .ok (.iaload, 1) := by decide +kernel
theorem d_Mo_suitNow_79 : decode prog_13_method_27_code 79 = .ok (.ireturn, 1) := by decide +kernel
theorem d_Mo_suitNow_80 : decode prog_13_method_27_code 80 = .ok (.aload_n 0, 1) := by decide +kernel
theorem d_Mo_suitNow_81 : decode prog_13_method_27_code 81 = .ok (.iload_n 1, 1) := by decide +kernel
theorem d_Mo_suitNow_82 : decode prog_13_method_27_code 82 = .ok (.invokevirtual 152, 3) := by decide +kernel
theorem d_Mo_suitNow_85 : decode prog_13_method_27_code 85 = .ok (.ireturn, 1) := by decide +kernel
theorem d_Mo_suitNow_86 : decode prog_13_method_27_code 86 = .ok (.aload_n 0, 1) := by decide +kernel
theorem d_Mo_suitNow_87 : decode prog_13_method_27_code 87 = .ok (.getfield 127, 3) := by decide +kernel
theorem d_Mo_suitNow_90 : decode prog_13_method_27_code 90 = .ok (.iload_n 1, 1) := by decide +kernel
theorem d_Mo_suitNow_91 : decode prog_13_method_27_code 91 = .ok (.invokestatic 142, 3) := by decide +kernel
theorem d_Mo_suitNow_94 : decode prog_13_method_27_code 94 = .ok (.ifCond .eq 7, 3) := by decide +kernel
theorem d_Mo_suitNow_97 : decode prog_13_method_27_code 97 = .ok (.iconst 1, 1) := by decide +kernel
theorem d_Mo_suitNow_98 : decode prog_13_method_27_code 98 = .ok (.goto 4, 3) := by decide +kernel
theorem d_Mo_suitNow_101 : decode prog_13_method_27_code 101 = .ok (.iconst 0, 1) := by decide +kernel
theorem d_Mo_suitNow_102 : decode prog_13_method_27_code 102 = .ok (.ireturn, 1) := by decide +kernel
theorem d_Mo_suitNow_103 : decode prog_13_method_27_code 103 = .ok (.aload_n 0, 1) := by decide +kernel
theorem d_Mo_suitNow_104 : decode prog_13_method_27_code 104 = .ok (.iload_n 1, 1) := by decide +kernel
theorem d_Mo_suitNow_105 : decode prog_13_method_27_code 105 = .ok (.invokevirtual 166, 3) := by decide +kernel
theorem d_Mo_suitNow_108 : decode prog_13_method_27_code 108 = .ok (.ireturn, 1) := by decide +kernel
theorem d_Mo_suitNow_109 : decode prog_13_method_27_code 109 = .ok (.aload_n 0, 1) := by decide +kernel
theorem d_Mo_suitNow_110 : decode prog_13_method_27_code 110 = .ok (.iload_n 1, 1) := by decide +kernel
theorem d_Mo_suitNow_111 : decode prog_13_method_27_code 111 = .ok (.invokevirtual 166, 3) := by decide +kernel
theorem d_Mo_suitNow_114 : decode prog_13_method_27_code 114 = .ok (.aload_n 0, 1) := by decide +kernel
theorem d_Mo_suitNow_115 : decode prog_13_method_27_code 115 = .ok (.getfield 127, 3) := by decide +kernel
theorem d_Mo_suitNow_118 : decode prog_13_method_27_code 118 = .ok (.iand, 1) := by decide +kernel
theorem d_Mo_suitNow_119 : decode prog_13_method_27_code 119 = .ok (.invokestatic 169, 3) := by decide +kernel
theorem d_Mo_suitNow_122 : decode prog_13_method_27_code 122 = .ok (.ireturn, 1) := by decide +kernel
theorem d_Mo_suitNow_123 : decode prog_13_method_27_code 123 = .ok (.aload_n 0, 1) := by decide +kernel
theorem d_Mo_suitNow_124 : decode prog_13_method_27_code 124 = .ok (.iload_n 1, 1) := by decide +kernel
theorem d_Mo_suitNow_125 : decode prog_13_method_27_code 125 = .ok (.invokevirtual 172, 3) := by decide +kernel
theorem d_Mo_suitNow_128 : decode prog_13_method_27_code 128 = .ok (.ireturn, 1) := by decide +kernel
theorem d_Mo_suitNow_129 : decode prog_13_method_27_code 129 = .ok (.aload_n 0, 1) := by decide +kernel
theorem d_Mo_suitNow_130 : decode prog_13_method_27_code 130 = .ok (.iload_n 1, 1) := by decide +kernel
theorem d_Mo_suitNow_131 : decode prog_13_method_27_code 131 = .ok (.invokevirtual 175, 3) := by decide +kernel
theorem d_Mo_suitNow_134 : decode prog_13_method_27_code 134 = .ok (.ireturn, 1) := by decide +kernel
theorem d_Mo_divisor_0 : decode prog_13_method_6_code 0 = .ok (.iload_n 0, 1) := by decide +kernel
theorem d_Mo_divisor_1 : decode prog_13_method_6_code 1 = .ok (.istore_n 2, 1) := by decide +kernel
theorem d_Mo_divisor_2 : decode prog_13_method_6_code 2 = .ok (.iload_n 1, 1) := by decide +kernel
theorem d_Mo_divisor_3 : decode prog_13_method_6_code 3 = .ok (.istore_n 3, 1) := by decide +kernel
theorem d_Mo_divisor_4 : decode prog_13_method_6_code 4 = .ok (.iload_n 3, 1) := by decide +kernel
theorem d_Mo_divisor_5 : decode prog_13_method_6_code 5 = .ok (.ifCond .eq 16, 3) := by decide +kernel
theorem d_Mo_divisor_8 : decode prog_13_method_6_code 8 = .ok (.iload_n 2, 1) := by decide +kernel
theorem d_Mo_divisor_9 : decode prog_13_method_6_code 9 = .ok (.iload_n 3, 1) := by decide +kernel
theorem d_Mo_divisor_10 : decode prog_13_method_6_code 10 = .ok (.irem, 1) := by decide +kernel
theorem d_Mo_divisor_11 : decode prog_13_method_6_code 11 = .ok (.istore 4, 2) := by decide +kernel
theorem d_Mo_divisor_13 : decode prog_13_method_6_code 13 = .ok (.iload_n 3, 1) := by decide +kernel
theorem d_Mo_divisor_14 : decode prog_13_method_6_code 14 = .ok (.istore_n 2, 1) := by decide +kernel
theorem d_Mo_divisor_15 : decode prog_13_method_6_code 15 = .ok (.iload 4, 2) := by decide +kernel
theorem d_Mo_divisor_17 : decode prog_13_method_6_code 17 = .ok (.istore_n 3, 1) := by decide +kernel
theorem d_Mo_divisor_18 : decode prog_13_method_6_code 18 = .ok (.goto (-14), 3) := by decide +kernel
theorem d_Mo_divisor_21 : decode prog_13_method_6_code 21 = .ok (.iload_n 2, 1) := by decide +kernel
theorem d_Mo_divisor_22 : decode prog_13_method_6_code 22 = .ok (.ireturn, 1) := by decide +kernel
theorem d_Mo_oddsNow_0 : decode prog_13_method_45_code 0 = .ok (.iconst 0, 1) := by decide +kernel
theorem d_Mo_oddsNow_1 : decode prog_13_method_45_code 1 = .ok (.istore 5, 2) := by decide +kernel
theorem d_Mo_oddsNow_3 : decode prog_13_method_45_code 3 = .ok (.iload 5, 2) := by decide +kernel
theorem d_Mo_oddsNow_5 : decode prog_13_method_45_code 5 = .ok (.bipush 20, 2) := by decide +kernel
theorem d_Mo_oddsNow_7 : decode prog_13_method_45_code 7 = .ok (.if_icmp .gt 32, 3) := by decide +kernel
theorem d_Mo_oddsNow_10 : decode prog_13_method_45_code 10 = .ok (.aload_n 0, 1) := by decide +kernel
theorem d_Mo_oddsNow_11 : decode prog_13_method_45_code 11 = .ok (.getfield 53, 3) := by decide +kernel
theorem d_Mo_oddsNow_14 : decode prog_13_method_45_code 14 = .ok (.iload 5, 2) := by decide +kernel
theorem d_Mo_oddsNow_16 : decode prog_13_method_45_code 16 = .ok (.iload 5, 2) := by decide +kernel
theorem d_Mo_oddsNow_18 : decode prog_13_method_45_code 18 = .ok (.aload_n 0, 1) := by decide +kernel
theorem d_Mo_oddsNow_19 : decode prog_13_method_45_code 19 = .ok (.getfield 7, 3) := by decide +kernel
theorem d_Mo_oddsNow_22 : decode prog_13_method_45_code 22 = .ok (.iload_n 2, 1) := by decide +kernel
theorem d_Mo_oddsNow_23 : decode prog_13_method_45_code 23 = .ok (.iaload, 1) := by decide +kernel
theorem d_Mo_oddsNow_24 : decode prog_13_method_45_code 24 = .ok (.if_icmp .ne 7, 3) := by decide +kernel
theorem d_Mo_oddsNow_27 : decode prog_13_method_45_code 27 = .ok (.iconst 1, 1) := by decide +kernel
theorem d_Mo_oddsNow_28 : decode prog_13_method_45_code 28 = .ok (.goto 4, 3) := by decide +kernel
theorem d_Mo_oddsNow_31 : decode prog_13_method_45_code 31 = .ok (.iconst 0, 1) := by decide +kernel
theorem d_Mo_oddsNow_32 : decode prog_13_method_45_code 32 = .ok (.iastore, 1) := by decide +kernel
theorem d_Mo_oddsNow_33 : decode prog_13_method_45_code 33 = .ok (.iinc 5 1, 3) := by decide +kernel
theorem d_Mo_oddsNow_36 : decode prog_13_method_45_code 36 = .ok (.goto (-33), 3) := by decide +kernel
theorem d_Mo_oddsNow_39 : decode prog_13_method_45_code 39 = .ok (.iconst 1, 1) := by decide +kernel
theorem d_Mo_oddsNow_40 : decode prog_13_method_45_code 40 = .ok (.istore 5, 2) := by decide +kernel
theorem d_Mo_oddsNow_42 : decode prog_13_method_45_code 42 = .ok (.iconst 0, 1) := by decide +kernel
theorem d_Mo_oddsNow_43 : decode prog_13_method_45_code 43 = .ok (.istore 6, 2) := by decide +kernel
theorem d_Mo_oddsNow_45 : decode prog_13_method_45_code 45 = .ok (.iload 6, 2) := by decide +kernel
theorem d_Mo_oddsNow_47 : decode prog_13_method_45_code 47 = .ok (.iload_n 3, 1) := by decide +kernel
theorem d_Mo_oddsNow_48 : decode prog_13_method_45_code 48 = .ok (.if_icmp .ge 147, 3) := by decide +kernel
theorem d_Mo_oddsNow_51 : decode prog_13_method_45_code 51 = .ok (.iconst 0, 1) := by decide +kernel
theorem d_Mo_oddsNow_52 : decode prog_13_method_45_code 52 = .ok (.istore 7, 2) := by decide +kernel
theorem d_Mo_oddsNow_54 : decode prog_13_method_45_code 54 = .ok (.iload 7, 2) := by decide +kernel
theorem d_Mo_oddsNow_56 : decode prog_13_method_45_code 56 = .ok (.bipush 20, 2) := by decide +kernel
theorem d_Mo_oddsNow_58 : decode prog_13_method_45_code 58 = .ok (.if_icmp .gt 17, 3) := by decide +kernel
theorem d_Mo_oddsNow_61 : decode prog_13_method_45_code 61 = .ok (.aload_n 0, 1) := by decide +kernel
theorem d_Mo_oddsNow_62 : decode prog_13_method_45_code 62 = .ok (.getfield 56, 3) := by decide +kernel
theorem d_Mo_oddsNow_65 : decode prog_13_method_45_code 65 = .ok (.iload 7, 2) := by decide +kernel
theorem d_Mo_oddsNow_67 : decode prog_13_method_45_code 67 = .ok (.iconst 0, 1) := by decide +kernel
theorem d_Mo_oddsNow_68 : decode prog_13_method_45_code 68 = .ok (.iastore, 1) := by decide +kernel
theorem d_Mo_oddsNow_69 : decode prog_13_method_45_code 69 = .ok (.iinc 7 1, 3) := by decide +kernel
theorem d_Mo_oddsNow_72 : decode prog_13_method_45_code 72 = .ok (.goto (-18), 3) := by decide +kernel
theorem d_Mo_oddsNow_75 : decode prog_13_method_45_code 75 = .ok (.iconst 0, 1) := by decide +kernel
theorem d_Mo_oddsNow_76 : decode prog_13_method_45_code 76 = .ok (.istore 7, 2) := by decide +kernel
theorem d_Mo_oddsNow_78 : decode prog_13_method_45_code 78 = .ok (.iload 7, 2) := by decide +kernel
theorem d_Mo_oddsNow_80 : decode prog_13_method_45_code 80 = .ok (.bipush 20, 2) := by decide +kernel
theorem d_Mo_oddsNow_82 : decode prog_13_method_45_code 82 = .ok (.if_icmp .gt 64, 3) := by decide +kernel
theorem d_Mo_oddsNow_85 : decode prog_13_method_45_code 85 = .ok (.iconst 0, 1) := by decide +kernel
theorem d_Mo_oddsNow_86 : decode prog_13_method_45_code 86 = .ok (.istore 8, 2) := by decide +kernel
theorem d_Mo_oddsNow_88 : decode prog_13_method_45_code 88 = .ok (.iload 8, 2) := by decide +kernel
theorem d_Mo_oddsNow_90 : decode prog_13_method_45_code 90 = .ok (.aload_n 0, 1) := by decide +kernel
theorem d_Mo_oddsNow_91 : decode prog_13_method_45_code 91 = .ok (.getfield 13, 3) := by decide +kernel
theorem d_Mo_oddsNow_94 : decode prog_13_method_45_code 94 = .ok (.iload_n 2, 1) := by decide +kernel
theorem d_Mo_oddsNow_95 : decode prog_13_method_45_code 95 = .ok (.iaload, 1) := by decide +kernel
theorem d_Mo_oddsNow_96 : decode prog_13_method_45_code 96 = .ok (.if_icmp .gt 44, 3) := by decide +kernel
theorem d_Mo_oddsNow_99 : decode prog_13_method_45_code 99 = .ok (.aload_n 0, 1) := by decide +kernel
theorem d_Mo_oddsNow_100 : decode prog_13_method_45_code 100 = .ok (.getfield 56, 3) := by decide +kernel
theorem d_Mo_oddsNow_103 : decode prog_13_method_45_code 103 = .ok (.iload 7, 2) := by decide +kernel
theorem d_Mo_oddsNow_105 : decode prog_13_method_45_code 105 = .ok (.iload 8, 2) := by decide +kernel
theorem d_Mo_oddsNow_107 : decode prog_13_method_45_code 107 = .ok (.iadd, 1) := by decide +kernel
theorem d_Mo_oddsNow_108 : decode prog_13_method_45_code 108 = .ok (.bipush 20, 2) := by decide +kernel
theorem d_Mo_oddsNow_110 : decode prog_13_method_45_code 110 = .ok (.if_icmp .le 8, 3) := by decide +kernel
theorem d_Mo_oddsNow_113 : decode prog_13_method_45_code 113 = .ok (.bipush 20, 2) := by decide +kernel
theorem d_Mo_oddsNow_115 : decode prog_13_method_45_code 115 = .ok (.goto 8, 3) := by decide +kernel
theorem d_Mo_oddsNow_118 : decode prog_13_method_45_code 118 = .ok (.iload 7, 2) := by decide +kernel
theorem d_Mo_oddsNow_120 : decode prog_13_method_45_code 120 = .ok (.iload 8, 2) := by decide +kernel
theorem d_Mo_oddsNow_122 : decode prog_13_method_45_code 122 = .ok (.iadd, 1) := by decide +kernel
theorem d_Mo_oddsNow_123 : decode prog_13_method_45_code 123 = .ok (.dup2, 1) := by decide +kernel
theorem d_Mo_oddsNow_124 : decode prog_13_method_45_code 124 = .ok (.iaload, 1) := by decide +kernel
theorem d_Mo_oddsNow_125 : decode prog_13_method_45_code 125 = .ok (.aload_n 0, 1) := by decide +kernel
theorem d_Mo_oddsNow_126 : decode prog_13_method_45_code 126 = .ok (.getfield 53, 3) := by decide +kernel
theorem d_Mo_oddsNow_129 : decode prog_13_method_45_code 129 = .ok (.iload 7, 2) := by decide +kernel
theorem d_Mo_oddsNow_131 : decode prog_13_method_45_code 131 = .ok (.iaload, 1) := by decide +kernel
theorem d_Mo_oddsNow_132 : decode prog_13_method_45_code 132 = .ok (.iadd, 1) := by decide +kernel
theorem d_Mo_oddsNow_133 : decode prog_13_method_45_code 133 = .ok (.iastore, 1) := by decide +kernel
theorem d_Mo_oddsNow_134 : decode prog_13_method_45_code 134 = .ok (.iinc 8 1, 3) := by decide +kernel
theorem d_Mo_oddsNow_137 : decode prog_13_method_45_code 137 = .ok (.goto (-49), 3) := by decide +kernel
theorem d_Mo_oddsNow_140 : decode prog_13_method_45_code 140 = .ok (.iinc 7 1, 3) := by decide +kernel
theorem d_Mo_oddsNow_143 : decode prog_13_method_45_code 143 = .ok (.goto (-65), 3) := by decide +kernel
theorem d_Mo_oddsNow_146 : decode prog_13_method_45_code 146 = .ok (.iconst 0, 1) := by decide +kernel
theorem d_Mo_oddsNow_147 : decode prog_13_method_45_code 147 = .ok (.istore 7, 2) := by decide +kernel
theorem d_Mo_oddsNow_149 : decode prog_13_method_45_code 149 = .ok (.iload 7, 2) := by decide +kernel
theorem d_Mo_oddsNow_151 : decode prog_13_method_45_code 151 = .ok (.bipush 20, 2) := by decide +kernel
theorem d_Mo_oddsNow_153 : decode prog_13_method_45_code 153 = .ok (.if_icmp .gt 23, 3) := by decide +kernel
theorem d_Mo_oddsNow_156 : decode prog_13_method_45_code 156 = .ok (.aload_n 0, 1) := by decide +kernel
theorem d_Mo_oddsNow_157 : decode prog_13_method_45_code 157 = .ok (.getfield 53, 3) := by decide +kernel
theorem d_Mo_oddsNow_160 : decode prog_13_method_45_code 160 = .ok (.iload 7, 2) := by decide +kernel
theorem d_Mo_oddsNow_162 : decode prog_13_method_45_code 162 = .ok (.aload_n 0, 1) := by decide +kernel
theorem d_Mo_oddsNow_163 : decode prog_13_method_45_code 163 = .ok (.getfield 56, 3) := by decide +kernel
theorem d_Mo_oddsNow_166 : decode prog_13_method_45_code 166 = .ok (.iload 7, 2) := by decide +kernel
theorem d_Mo_oddsNow_168 : decode prog_13_method_45_code 168 = .ok (.iaload, 1) := by decide +kernel
theorem d_Mo_oddsNow_169 : decode prog_13_method_45_code 169 = .ok (.iastore, 1) := by decide +kernel
theorem d_Mo_oddsNow_170 : decode prog_13_method_45_code 170 = .ok (.iinc 7 1, 3) := by decide +kernel
theorem d_Mo_oddsNow_173 : decode prog_13_method_45_code 173 = .ok (.goto (-24), 3) := by decide +kernel
theorem d_Mo_oddsNow_176 : decode prog_13_method_45_code 176 = .ok (.iload 5, 2) := by decide +kernel
theorem d_Mo_oddsNow_178 : decode prog_13_method_45_code 178 = .ok (.aload_n 0, 1) := by decide +kernel
theorem d_Mo_oddsNow_179 : decode prog_13_method_45_code 179 = .ok (.getfield 13, 3) := by decide +kernel
theorem d_Mo_oddsNow_182 : decode prog_13_method_45_code 182 = .ok (.iload_n 2, 1) := by decide +kernel
theorem d_Mo_oddsNow_183 : decode prog_13_method_45_code 183 = .ok (.iaload, 1) := by decide +kernel
theorem d_Mo_oddsNow_184 : decode prog_13_method_45_code 184 = .ok (.iconst 1, 1) := by decide +kernel
theorem d_Mo_oddsNow_185 : decode prog_13_method_45_code 185 = .ok (.iadd, 1) := by decide +kernel
theorem d_Mo_oddsNow_186 : decode prog_13_method_45_code 186 = .ok (.imul, 1) := by decide +kernel
theorem d_Mo_oddsNow_187 : decode prog_13_method_45_code 187 = .ok (.istore 5, 2) := by decide +kernel
theorem d_Mo_oddsNow_189 : decode prog_13_method_45_code 189 = .ok (.iinc 6 1, 3) := by decide +kernel
theorem d_Mo_oddsNow_192 : decode prog_13_method_45_code 192 = .ok (.goto (-147), 3) := by decide +kernel
theorem d_Mo_oddsNow_195 : decode prog_13_method_45_code 195 = .ok (.iconst 0, 1) := by decide +kernel
theorem d_Mo_oddsNow_196 : decode prog_13_method_45_code 196 = .ok (.istore 6, 2) := by decide +kernel
theorem d_Mo_oddsNow_198 : decode prog_13_method_45_code 198 = .ok (.aload_n 0, 1) := by decide +kernel
theorem d_Mo_oddsNow_199 : decode prog_13_method_45_code 199 = .ok (.iload_n 1, 1) := by decide +kernel
theorem d_Mo_oddsNow_200 : decode prog_13_method_45_code 200 = .ok (.invokevirtual 152, 3) := by decide +kernel
theorem d_Mo_oddsNow_203 : decode prog_13_method_45_code 203 = .ok (.istore 7, 2) := by decide +kernel
theorem d_Mo_oddsNow_205 : decode prog_13_method_45_code 205 = .ok (.iload 7, 2) := by decide +kernel
theorem d_Mo_oddsNow_207 : decode prog_13_method_45_code 207 = .ok (.bipush 20, 2) := by decide +kernel
theorem d_Mo_oddsNow_209 : decode prog_13_method_45_code 209 = .ok (.if_icmp .gt 21, 3) := by decide +kernel
theorem d_Mo_oddsNow_212 : decode prog_13_method_45_code 212 = .ok (.iload 6, 2) := by decide +kernel
theorem d_Mo_oddsNow_214 : decode prog_13_method_45_code 214 = .ok (.aload_n 0, 1) := by decide +kernel
theorem d_Mo_oddsNow_215 : decode prog_13_method_45_code 215 = .ok (.getfield 53, 3) := by decide +kernel
theorem d_Mo_oddsNow_218 : decode prog_13_method_45_code 218 = .ok (.iload 7, 2) := by decide +kernel
theorem d_Mo_oddsNow_220 : decode prog_13_method_45_code 220 = .ok (.iaload, 1) := by decide +kernel
theorem d_Mo_oddsNow_221 : decode prog_13_method_45_code 221 = .ok (.iadd, 1) := by decide +kernel
theorem d_Mo_oddsNow_222 : decode prog_13_method_45_code 222 = .ok (.istore 6, 2) := by decide +kernel
theorem d_Mo_oddsNow_224 : decode prog_13_method_45_code 224 = .ok (.iinc 7 1, 3) := by decide +kernel
theorem d_Mo_oddsNow_227 : decode prog_13_method_45_code 227 = .ok (.goto (-22), 3) := by decide +kernel
theorem d_Mo_oddsNow_230 : decode prog_13_method_45_code 230 = .ok (.iload 6, 2) := by decide +kernel
theorem d_Mo_oddsNow_232 : decode prog_13_method_45_code 232 = .ok (.iload 5, 2) := by decide +kernel
theorem d_Mo_oddsNow_234 : decode prog_13_method_45_code 234 = .ok (.invokestatic 222, 3) := by decide +kernel
theorem d_Mo_oddsNow_237 : decode prog_13_method_45_code 237 = .ok (.istore 7, 2) := by decide +kernel
theorem d_Mo_oddsNow_239 : decode prog_13_method_45_code 239 = .ok (.iload 4, 2) := by decide +kernel
theorem d_Mo_oddsNow_241 : decode prog_13_method_45_code 241 = .ok (.ifCond .ne 11, 3) := by decide +kernel
theorem d_Mo_oddsNow_244 : decode prog_13_method_45_code 244 = .ok (.iload 6, 2) := by decide +kernel
theorem d_Mo_oddsNow_246 : decode prog_13_method_45_code 246 = .ok (.iload 7, 2) := by decide +kernel
theorem d_Mo_oddsNow_248 : decode prog_13_method_45_code 248 = .ok (.idiv, 1) := by decide +kernel
theorem d_Mo_oddsNow_249 : decode prog_13_method_45_code 249 = .ok (.goto 8, 3) := by decide +kernel
theorem d_Mo_oddsNow_252 : decode prog_13_method_45_code 252 = .ok (.iload 5, 2) := by decide +kernel
theorem d_Mo_oddsNow_254 : decode prog_13_method_45_code 254 = .ok (.iload 7, 2) := by decide +kernel
theorem d_Mo_oddsNow_256 : decode prog_13_method_45_code 256 = .ok (.idiv, 1) := by decide +kernel
theorem d_Mo_oddsNow_257 : decode prog_13_method_45_code 257 = .ok (.ireturn, 1) := by decide +kernel
theorem d_Mo_digest_0 : decode prog_13_method_61_code 0 = .ok (.aload_n 0, 1) := by decide +kernel
theorem d_Mo_digest_1 : decode prog_13_method_61_code 1 = .ok (.ldc2_w 280, 3) := by decide +kernel
theorem d_Mo_digest_4 : decode prog_13_method_61_code 4 = .ok (.putfield 277, 3) := by decide +kernel
theorem d_Mo_digest_7 : decode prog_13_method_61_code 7 = .ok (.iconst 0, 1) := by decide +kernel
theorem d_Mo_digest_8 : decode prog_13_method_61_code 8 = .ok (.istore_n 1, 1) := by decide +kernel
theorem d_Mo_digest_9 : decode prog_13_method_61_code 9 = .ok (.iload_n 1, 1) := by decide +kernel
theorem d_Mo_digest_10 : decode prog_13_method_61_code 10 = .ok (.aload_n 0, 1) := by decide +kernel
theorem d_Mo_digest_11 : decode prog_13_method_61_code 11 = .ok (.getfield 121, 3) := by decide +kernel
theorem d_Mo_digest_14 : decode prog_13_method_61_code 14 = .ok (.if_icmp .ge 55, 3) := by decide +kernel
theorem d_Mo_digest_17 : decode prog_13_method_61_code 17 = .ok (.iconst 0, 1) := by decide +kernel
theorem d_Mo_digest_18 : decode prog_13_method_61_code 18 = .ok (.istore_n 2, 1) := by decide +kernel
theorem d_Mo_digest_19 : decode prog_13_method_61_code 19 = .ok (.iload_n 2, 1) := by decide +kernel
theorem d_Mo_digest_20 : decode prog_13_method_61_code 20 = .ok (.iconst 3, 1) := by decide +kernel
theorem d_Mo_digest_21 : decode prog_13_method_61_code 21 = .ok (.if_icmp .ge 20, 3) := by decide +kernel
theorem d_Mo_digest_24 : decode prog_13_method_61_code 24 = .ok (.aload_n 0, 1) := by decide +kernel
theorem d_Mo_digest_25 : decode prog_13_method_61_code 25 = .ok (.aload_n 0, 1) := by decide +kernel
theorem d_Mo_digest_26 : decode prog_13_method_61_code 26 = .ok (.iload_n 1, 1) := by decide +kernel
theorem d_Mo_digest_27 : decode prog_13_method_61_code 27 = .ok (.iload_n 2, 1) := by decide +kernel
theorem d_Mo_digest_28 : decode prog_13_method_61_code 28 = .ok (.invokevirtual 162, 3) := by decide +kernel
theorem d_Mo_digest_31 : decode prog_13_method_61_code 31 = .ok (.i2l, 1) := by decide +kernel
theorem d_Mo_digest_32 : decode prog_13_method_61_code 32 = .ok (.invokevirtual 282, 3) := by decide +kernel
theorem d_Mo_digest_35 : decode prog_13_method_61_code 35 = .ok (.iinc 2 1, 3) := by decide +kernel
theorem d_Mo_digest_38 : decode prog_13_method_61_code 38 = .ok (.goto (-19), 3) := by decide +kernel
theorem d_Mo_digest_41 : decode prog_13_method_61_code 41 = .ok (.aload_n 0, 1) := by decide +kernel
theorem d_Mo_digest_42 : decode prog_13_method_61_code 42 = .ok (.aload_n 0, 1) := by decide +kernel
theorem d_Mo_digest_43 : decode prog_13_method_61_code 43 = .ok (.iload_n 1, 1) := by decide +kernel
theorem d_Mo_digest_44 : decode prog_13_method_61_code 44 = .ok (.iconst 0, 1) := by decide +kernel
theorem d_Mo_digest_45 : decode prog_13_method_61_code 45 = .ok (.invokevirtual 219, 3) := by decide +kernel
theorem d_Mo_digest_48 : decode prog_13_method_61_code 48 = .ok (.i2l, 1) := by decide +kernel
theorem d_Mo_digest_49 : decode prog_13_method_61_code 49 = .ok (.invokevirtual 282, 3) := by decide +kernel
theorem d_Mo_digest_52 : decode prog_13_method_61_code 52 = .ok (.aload_n 0, 1) := by decide +kernel
theorem d_Mo_digest_53 : decode prog_13_method_61_code 53 = .ok (.aload_n 0, 1) := by decide +kernel
theorem d_Mo_digest_54 : decode prog_13_method_61_code 54 = .ok (.iload_n 1, 1) := by decide +kernel
theorem d_Mo_digest_55 : decode prog_13_method_61_code 55 = .ok (.iconst 1, 1) := by decide +kernel
theorem d_Mo_digest_56 : decode prog_13_method_61_code 56 = .ok (.invokevirtual 219, 3) := by decide +kernel
theorem d_Mo_digest_59 : decode prog_13_method_61_code 59 = .ok (.i2l, 1) := by decide +kernel
theorem d_Mo_digest_60 : decode prog_13_method_61_code 60 = .ok (.invokevirtual 282, 3) := by decide +kernel
theorem d_Mo_digest_63 : decode prog_13_method_61_code 63 = .ok (.iinc 1 1, 3) := by decide +kernel
theorem d_Mo_digest_66 : decode prog_13_method_61_code 66 = .ok (.goto (-57), 3) := by decide +kernel
theorem d_Mo_digest_69 : decode prog_13_method_61_code 69 = .ok (.iconst 0, 1) := by decide +kernel
theorem d_Mo_digest_70 : decode prog_13_method_61_code 70 = .ok (.istore_n 1, 1) := by decide +kernel
theorem d_Mo_digest_71 : decode prog_13_method_61_code 71 = .ok (.iload_n 1, 1) := by decide +kernel
theorem d_Mo_digest_72 : decode prog_13_method_61_code 72 = .ok (.aload_n 0, 1) := by decide +kernel
theorem d_Mo_digest_73 : decode prog_13_method_61_code 73 = .ok (.getfield 124, 3) := by decide +kernel
theorem d_Mo_digest_76 : decode prog_13_method_61_code 76 = .ok (.if_icmp .ge 60, 3) := by decide +kernel
theorem d_Mo_digest_79 : decode prog_13_method_61_code 79 = .ok (.iconst 0, 1) := by decide +kernel
theorem d_Mo_digest_80 : decode prog_13_method_61_code 80 = .ok (.istore_n 2, 1) := by decide +kernel
theorem d_Mo_digest_81 : decode prog_13_method_61_code 81 = .ok (.iload_n 2, 1) := by decide +kernel
theorem d_Mo_digest_82 : decode prog_13_method_61_code 82 = .ok (.bipush 10, 2) := by decide +kernel
theorem d_Mo_digest_84 : decode prog_13_method_61_code 84 = .ok (.if_icmp .ge 20, 3) := by decide +kernel
theorem d_Mo_digest_87 : decode prog_13_method_61_code 87 = .ok (.aload_n 0, 1) := by decide +kernel
theorem d_Mo_digest_88 : decode prog_13_method_61_code 88 = .ok (.aload_n 0, 1) := by decide +kernel
theorem d_Mo_digest_89 : decode prog_13_method_61_code 89 = .ok (.iload_n 1, 1) := by decide +kernel
theorem d_Mo_digest_90 : decode prog_13_method_61_code 90 = .ok (.iload_n 2, 1) := by decide +kernel
theorem d_Mo_digest_91 : decode prog_13_method_61_code 91 = .ok (.invokevirtual 181, 3) := by decide +kernel
theorem d_Mo_digest_94 : decode prog_13_method_61_code 94 = .ok (.i2l, 1) := by decide +kernel
theorem d_Mo_digest_95 : decode prog_13_method_61_code 95 = .ok (.invokevirtual 282, 3) := by decide +kernel
theorem d_Mo_digest_98 : decode prog_13_method_61_code 98 = .ok (.iinc 2 1, 3) := by decide +kernel
theorem d_Mo_digest_101 : decode prog_13_method_61_code 101 = .ok (.goto (-20), 3) := by decide +kernel
theorem d_Mo_digest_104 : decode prog_13_method_61_code 104 = .ok (.aload_n 0, 1) := by decide +kernel
theorem d_Mo_digest_105 : decode prog_13_method_61_code 105 = .ok (.aload_n 0, 1) := by decide +kernel
theorem d_Mo_digest_106 : decode prog_13_method_61_code 106 = .ok (.iload_n 1, 1) := by decide +kernel
theorem d_Mo_digest_107 : decode prog_13_method_61_code 107 = .ok (.iconst 0, 1) := by decide +kernel
theorem d_Mo_digest_108 : decode prog_13_method_61_code 108 = .ok (.iconst 2, 1) := by decide +kernel
theorem d_Mo_digest_109 : decode prog_13_method_61_code 109 = .ok (.iconst 0, 1) := by decide +kernel
theorem d_Mo_digest_110 : decode prog_13_method_61_code 110 = .ok (.invokevirtual 225, 3) := by decide +kernel
theorem d_Mo_digest_113 : decode prog_13_method_61_code 113 = .ok (.i2l, 1) := by decide +kernel
theorem d_Mo_digest_114 : decode prog_13_method_61_code 114 = .ok (.invokevirtual 282, 3) := by decide +kernel
theorem d_Mo_digest_117 : decode prog_13_method_61_code 117 = .ok (.aload_n 0, 1) := by decide +kernel
theorem d_Mo_digest_118 : decode prog_13_method_61_code 118 = .ok (.aload_n 0, 1) := by decide +kernel
theorem d_Mo_digest_119 : decode prog_13_method_61_code 119 = .ok (.iload_n 1, 1) := by decide +kernel
theorem d_Mo_digest_120 : decode prog_13_method_61_code 120 = .ok (.iconst 0, 1) := by decide +kernel
theorem d_Mo_digest_121 : decode prog_13_method_61_code 121 = .ok (.iconst 2, 1) := by decide +kernel
theorem d_Mo_digest_122 : decode prog_13_method_61_code 122 = .ok (.iconst 1, 1) := by decide +kernel
theorem d_Mo_digest_123 : decode prog_13_method_61_code 123 = .ok (.invokevirtual 225, 3) := by decide +kernel
theorem d_Mo_digest_126 : decode prog_13_method_61_code 126 = .ok (.i2l, 1) := by decide +kernel
theorem d_Mo_digest_127 : decode prog_13_method_61_code 127 = .ok (.invokevirtual 282, 3) := by decide +kernel
theorem d_Mo_digest_130 : decode prog_13_method_61_code 130 = .ok (.iinc 1 1, 3) := by decide +kernel
theorem d_Mo_digest_133 : decode prog_13_method_61_code 133 = .ok (.goto (-62), 3) := by decide +kernel
theorem d_Mo_digest_136 : decode prog_13_method_61_code 136 = .ok (.iconst 0, 1) := by decide +kernel
theorem d_Mo_digest_137 : decode prog_13_method_61_code 137 = .ok (.istore_n 1, 1) := by decide +kernel
theorem d_Mo_digest_138 : decode prog_13_method_61_code 138 = .ok (.iload_n 1, 1) := by decide +kernel
theorem d_Mo_digest_139 : decode prog_13_method_61_code 139 = .ok (.aload_n 0, 1) := by decide +kernel
theorem d_Mo_digest_140 : decode prog_13_method_61_code 140 = .ok (.getfield 87, 3) := by decide +kernel
theorem d_Mo_digest_143 : decode prog_13_method_61_code 143 = .ok (.if_icmp .ge 20, 3) := by decide +kernel
theorem d_Mo_digest_146 : decode prog_13_method_61_code 146 = .ok (.aload_n 0, 1) := by decide +kernel
theorem d_Mo_digest_147 : decode prog_13_method_61_code 147 = .ok (.aload_n 0, 1) := by decide +kernel
theorem d_Mo_digest_148 : decode prog_13_method_61_code 148 = .ok (.getfield 37, 3) := by decide +kernel
theorem d_Mo_digest_151 : decode prog_13_method_61_code 151 = .ok (.iload_n 1, 1) := by decide +kernel
theorem d_Mo_digest_152 : decode prog_13_method_61_code 152 = .ok (.baload, 1) := by decide +kernel
theorem d_Mo_digest_153 : decode prog_13_method_61_code 153 = .ok (.i2l, 1) := by decide +kernel
theorem d_Mo_digest_154 : decode prog_13_method_61_code 154 = .ok (.invokevirtual 282, 3) := by decide +kernel
theorem d_Mo_digest_157 : decode prog_13_method_61_code 157 = .ok (.iinc 1 1, 3) := by decide +kernel
theorem d_Mo_digest_160 : decode prog_13_method_61_code 160 = .ok (.goto (-22), 3) := by decide +kernel
theorem d_Mo_digest_163 : decode prog_13_method_61_code 163 = .ok (.iconst 0, 1) := by decide +kernel
theorem d_Mo_digest_164 : decode prog_13_method_61_code 164 = .ok (.istore_n 1, 1) := by decide +kernel
theorem d_Mo_digest_165 : decode prog_13_method_61_code 165 = .ok (.iload_n 1, 1) := by decide +kernel
theorem d_Mo_digest_166 : decode prog_13_method_61_code 166 = .ok (.bipush 12, 2) := by decide +kernel
theorem d_Mo_digest_168 : decode prog_13_method_61_code 168 = .ok (.if_icmp .ge 19, 3) := by decide +kernel
theorem d_Mo_digest_171 : decode prog_13_method_61_code 171 = .ok (.aload_n 0, 1) := by decide +kernel
theorem d_Mo_digest_172 : decode prog_13_method_61_code 172 = .ok (.aload_n 0, 1) := by decide +kernel
theorem d_Mo_digest_173 : decode prog_13_method_61_code 173 = .ok (.iload_n 1, 1) := by decide +kernel
theorem d_Mo_digest_174 : decode prog_13_method_61_code 174 = .ok (.invokevirtual 272, 3) := by decide +kernel
theorem d_Mo_digest_177 : decode prog_13_method_61_code 177 = .ok (.i2l, 1) := by decide +kernel
theorem d_Mo_digest_178 : decode prog_13_method_61_code 178 = .ok (.invokevirtual 282, 3) := by decide +kernel
theorem d_Mo_digest_181 : decode prog_13_method_61_code 181 = .ok (.iinc 1 1, 3) := by decide +kernel
theorem d_Mo_digest_184 : decode prog_13_method_61_code 184 = .ok (.goto (-19), 3) := by decide +kernel
theorem d_Mo_digest_187 : decode prog_13_method_61_code 187 = .ok (.aload_n 0, 1) := by decide +kernel
theorem d_Mo_digest_188 : decode prog_13_method_61_code 188 = .ok (.getfield 277, 3) := by decide +kernel
theorem d_Mo_digest_191 : decode prog_13_method_61_code 191 = .ok (.lreturn, 1) := by decide +kernel
theorem d_Mo_isFigure_0 : decode prog_13_method_11_code 0 = .ok (.aload_n 0, 1) := by decide +kernel
theorem d_Mo_isFigure_1 : decode prog_13_method_11_code 1 = .ok (.iload_n 1, 1) := by decide +kernel
theorem d_Mo_isFigure_2 : decode prog_13_method_11_code 2 = .ok (.invokevirtual 91, 3) := by decide +kernel
theorem d_Mo_isFigure_5 : decode prog_13_method_11_code 5 = .ok (.bipush 48, 2) := by decide +kernel
theorem d_Mo_isFigure_7 : decode prog_13_method_11_code 7 = .ok (.isub, 1) := by decide +kernel
theorem d_Mo_isFigure_8 : decode prog_13_method_11_code 8 = .ok (.iload_n 2, 1) := by decide +kernel
theorem d_Mo_isFigure_9 : decode prog_13_method_11_code 9 = .ok (.iload_n 3, 1) := by decide +kernel
theorem d_Mo_isFigure_10 : decode prog_13_method_11_code 10 = .ok (.invokestatic 83, 3) := by decide +kernel
theorem d_Mo_isFigure_13 : decode prog_13_method_11_code 13 = .ok (.ireturn, 1) := by decide +kernel
theorem d_Mo_kindBy_0 : decode prog_13_method_9_code 0 = .ok (.iload_n 0, 1) := by decide +kernel
theorem d_Mo_kindBy_1 : decode prog_13_method_9_code 1 = .ok (.lookupswitch 61 #[(97, 59), (99, 51), (109, 53), (111, 57), (117, 55)], 51) := by decide +kernel
theorem d_Mo_kindBy_52 : decode prog_13_method_9_code 52 = .ok (.iconst 0, 1) := by decide +kernel
theorem d_Mo_kindBy_53 : decode prog_13_method_9_code 53 = .ok (.ireturn, 1) := by decide +kernel
theorem d_Mo_kindBy_54 : decode prog_13_method_9_code 54 = .ok (.iconst 1, 1) := by decide +kernel
theorem d_Mo_kindBy_55 : decode prog_13_method_9_code 55 = .ok (.ireturn, 1) := by decide +kernel
theorem d_Mo_kindBy_56 : decode prog_13_method_9_code 56 = .ok (.iconst 2, 1) := by decide +kernel
theorem d_Mo_kindBy_57 : decode prog_13_method_9_code 57 = .ok (.ireturn, 1) := by decide +kernel
theorem d_Mo_kindBy_58 : decode prog_13_method_9_code 58 = .ok (.iconst 3, 1) := by decide +kernel
theorem d_Mo_kindBy_59 : decode prog_13_method_9_code 59 = .ok (.ireturn, 1) := by decide +kernel
theorem d_Mo_kindBy_60 : decode prog_13_method_9_code 60 = .ok (.iconst 4, 1) := by decide +kernel
theorem d_Mo_kindBy_61 : decode prog_13_method_9_code 61 = .ok (.ireturn, 1) := by decide +kernel
theorem d_Mo_kindBy_62 : decode prog_13_method_9_code 62 = .ok (.iconst (-1), 1) := by decide +kernel
theorem d_Mo_kindBy_63 : decode prog_13_method_9_code 63 = .ok (.ireturn, 1) := by decide +kernel
theorem d_Mo_readCase_0 : decode prog_13_method_12_code 0 = .ok (.aload_n 0, 1) := by decide +kernel
theorem d_Mo_readCase_1 : decode prog_13_method_12_code 1 = .ok (.iload_n 1, 1) := by decide +kernel
theorem d_Mo_readCase_2 : decode prog_13_method_12_code 2 = .ok (.invokevirtual 91, 3) := by decide +kernel
theorem d_Mo_readCase_5 : decode prog_13_method_12_code 5 = .ok (.invokestatic 95, 3) := by decide +kernel
theorem d_Mo_readCase_8 : decode prog_13_method_12_code 8 = .ok (.iconst (-1), 1) := by decide +kernel
theorem d_Mo_readCase_9 : decode prog_13_method_12_code 9 = .ok (.if_icmp .ne 5, 3) := by decide +kernel
theorem d_Mo_readCase_12 : decode prog_13_method_12_code 12 = .ok (.iload_n 1, 1) := by decide +kernel
theorem d_Mo_readCase_13 : decode prog_13_method_12_code 13 = .ok (.ireturn, 1) := by decide +kernel
theorem d_Mo_readCase_14 : decode prog_13_method_12_code 14 = .ok (.aload_n 0, 1) := by decide +kernel
theorem d_Mo_readCase_15 : decode prog_13_method_12_code 15 = .ok (.iload_n 1, 1) := by decide +kernel
theorem d_Mo_readCase_16 : decode prog_13_method_12_code 16 = .ok (.iconst 1, 1) := by decide +kernel
theorem d_Mo_readCase_17 : decode prog_13_method_12_code 17 = .ok (.iadd, 1) := by decide +kernel
theorem d_Mo_readCase_18 : decode prog_13_method_12_code 18 = .ok (.iconst 1, 1) := by decide +kernel
theorem d_Mo_readCase_19 : decode prog_13_method_12_code 19 = .ok (.bipush 9, 2) := by decide +kernel
theorem d_Mo_readCase_21 : decode prog_13_method_12_code 21 = .ok (.invokevirtual 98, 3) := by decide +kernel
theorem d_Mo_readCase_24 : decode prog_13_method_12_code 24 = .ok (.ifCond .ne 7, 3) := by decide +kernel
theorem d_Mo_readCase_27 : decode prog_13_method_12_code 27 = .ok (.iload_n 1, 1) := by decide +kernel
theorem d_Mo_readCase_28 : decode prog_13_method_12_code 28 = .ok (.iconst 1, 1) := by decide +kernel
theorem d_Mo_readCase_29 : decode prog_13_method_12_code 29 = .ok (.iadd, 1) := by decide +kernel
theorem d_Mo_readCase_30 : decode prog_13_method_12_code 30 = .ok (.ireturn, 1) := by decide +kernel
theorem d_Mo_readCase_31 : decode prog_13_method_12_code 31 = .ok (.aload_n 0, 1) := by decide +kernel
theorem d_Mo_readCase_32 : decode prog_13_method_12_code 32 = .ok (.iload_n 1, 1) := by decide +kernel
theorem d_Mo_readCase_33 : decode prog_13_method_12_code 33 = .ok (.iconst 2, 1) := by decide +kernel
theorem d_Mo_readCase_34 : decode prog_13_method_12_code 34 = .ok (.iadd, 1) := by decide +kernel
theorem d_Mo_readCase_35 : decode prog_13_method_12_code 35 = .ok (.iconst 1, 1) := by decide +kernel
theorem d_Mo_readCase_36 : decode prog_13_method_12_code 36 = .ok (.bipush 9, 2) := by decide +kernel
theorem d_Mo_readCase_38 : decode prog_13_method_12_code 38 = .ok (.invokevirtual 98, 3) := by decide +kernel
theorem d_Mo_readCase_41 : decode prog_13_method_12_code 41 = .ok (.ifCond .ne 7, 3) := by decide +kernel
theorem d_Mo_readCase_44 : decode prog_13_method_12_code 44 = .ok (.iload_n 1, 1) := by decide +kernel
theorem d_Mo_readCase_45 : decode prog_13_method_12_code 45 = .ok (.iconst 2, 1) := by decide +kernel
theorem d_Mo_readCase_46 : decode prog_13_method_12_code 46 = .ok (.iadd, 1) := by decide +kernel
theorem d_Mo_readCase_47 : decode prog_13_method_12_code 47 = .ok (.ireturn, 1) := by decide +kernel
theorem d_Mo_readCase_48 : decode prog_13_method_12_code 48 = .ok (.aload_n 0, 1) := by decide +kernel
theorem d_Mo_readCase_49 : decode prog_13_method_12_code 49 = .ok (.iload_n 1, 1) := by decide +kernel
theorem d_Mo_readCase_50 : decode prog_13_method_12_code 50 = .ok (.iconst 3, 1) := by decide +kernel
theorem d_Mo_readCase_51 : decode prog_13_method_12_code 51 = .ok (.iadd, 1) := by decide +kernel
theorem d_Mo_readCase_52 : decode prog_13_method_12_code 52 = .ok (.invokevirtual 91, 3) := by decide +kernel
theorem d_Mo_readCase_55 : decode prog_13_method_12_code 55 = .ok (.bipush 45, 2) := by decide +kernel
theorem d_Mo_readCase_57 : decode prog_13_method_12_code 57 = .ok (.if_icmp .eq 20, 3) := by decide +kernel
theorem d_Mo_readCase_60 : decode prog_13_method_12_code 60 = .ok (.aload_n 0, 1) := by decide +kernel
theorem d_Mo_readCase_61 : decode prog_13_method_12_code 61 = .ok (.iload_n 1, 1) := by decide +kernel
theorem d_Mo_readCase_62 : decode prog_13_method_12_code 62 = .ok (.iconst 3, 1) := by decide +kernel
theorem d_Mo_readCase_63 : decode prog_13_method_12_code 63 = .ok (.iadd, 1) := by decide +kernel
theorem d_Mo_readCase_64 : decode prog_13_method_12_code 64 = .ok (.iconst 0, 1) := by decide +kernel
theorem d_Mo_readCase_65 : decode prog_13_method_12_code 65 = .ok (.aload_n 0, 1) := by decide +kernel
theorem d_Mo_readCase_66 : decode prog_13_method_12_code 66 = .ok (.getfield 101, 3) := by decide +kernel
theorem d_Mo_readCase_69 : decode prog_13_method_12_code 69 = .ok (.iconst 1, 1) := by decide +kernel
theorem d_Mo_readCase_70 : decode prog_13_method_12_code 70 = .ok (.isub, 1) := by decide +kernel
theorem d_Mo_readCase_71 : decode prog_13_method_12_code 71 = .ok (.invokevirtual 98, 3) := by decide +kernel
theorem d_Mo_readCase_74 : decode prog_13_method_12_code 74 = .ok (.ifCond .eq 9, 3) := by decide +kernel
theorem d_Mo_readCase_77 : decode prog_13_method_12_code 77 = .ok (.iload_n 1, 1) := by decide +kernel
theorem d_Mo_readCase_78 : decode prog_13_method_12_code 78 = .ok (.iconst 4, 1) := by decide +kernel
theorem d_Mo_readCase_79 : decode prog_13_method_12_code 79 = .ok (.iadd, 1) := by decide +kernel
theorem d_Mo_readCase_80 : decode prog_13_method_12_code 80 = .ok (.goto 6, 3) := by decide +kernel
theorem d_Mo_readCase_83 : decode prog_13_method_12_code 83 = .ok (.iload_n 1, 1) := by decide +kernel
theorem d_Mo_readCase_84 : decode prog_13_method_12_code 84 = .ok (.iconst 3, 1) := by decide +kernel
theorem d_Mo_readCase_85 : decode prog_13_method_12_code 85 = .ok (.iadd, 1) := by decide +kernel
theorem d_Mo_readCase_86 : decode prog_13_method_12_code 86 = .ok (.ireturn, 1) := by decide +kernel
theorem d_Mo_readCases_0 : decode prog_13_method_13_code 0 = .ok (.iload_n 1, 1) := by decide +kernel
theorem d_Mo_readCases_1 : decode prog_13_method_13_code 1 = .ok (.istore_n 2, 1) := by decide +kernel
theorem d_Mo_readCases_2 : decode prog_13_method_13_code 2 = .ok (.aload_n 0, 1) := by decide +kernel
theorem d_Mo_readCases_3 : decode prog_13_method_13_code 3 = .ok (.getfield 101, 3) := by decide +kernel
theorem d_Mo_readCases_6 : decode prog_13_method_13_code 6 = .ok (.bipush 7, 2) := by decide +kernel
theorem d_Mo_readCases_8 : decode prog_13_method_13_code 8 = .ok (.if_icmp .ge 82, 3) := by decide +kernel
theorem d_Mo_readCases_11 : decode prog_13_method_13_code 11 = .ok (.aload_n 0, 1) := by decide +kernel
theorem d_Mo_readCases_12 : decode prog_13_method_13_code 12 = .ok (.iload_n 2, 1) := by decide +kernel
theorem d_Mo_readCases_13 : decode prog_13_method_13_code 13 = .ok (.invokevirtual 104, 3) := by decide +kernel
theorem d_Mo_readCases_16 : decode prog_13_method_13_code 16 = .ok (.istore_n 3, 1) := by decide +kernel
theorem d_Mo_readCases_17 : decode prog_13_method_13_code 17 = .ok (.iload_n 3, 1) := by decide +kernel
theorem d_Mo_readCases_18 : decode prog_13_method_13_code 18 = .ok (.iload_n 2, 1) := by decide +kernel
theorem d_Mo_readCases_19 : decode prog_13_method_13_code 19 = .ok (.iconst 4, 1) := by decide +kernel
theorem d_Mo_readCases_20 : decode prog_13_method_13_code 20 = .ok (.iadd, 1) := by decide +kernel
theorem d_Mo_readCases_21 : decode prog_13_method_13_code 21 = .ok (.if_icmp .eq 5, 3) := by decide +kernel
theorem d_Mo_readCases_24 : decode prog_13_method_13_code 24 = .ok (.iload_n 3, 1) := by decide +kernel
theorem d_Mo_readCases_25 : decode prog_13_method_13_code 25 = .ok (.ireturn, 1) := by decide +kernel
theorem d_Mo_readCases_26 : decode prog_13_method_13_code 26 = .ok (.aload_n 0, 1) := by decide +kernel
theorem d_Mo_readCases_27 : decode prog_13_method_13_code 27 = .ok (.dup, 1) := by decide +kernel
theorem d_Mo_readCases_28 : decode prog_13_method_13_code 28 = .ok (.getfield 101, 3) := by decide +kernel
theorem d_Mo_readCases_31 : decode prog_13_method_13_code 31 = .ok (.iconst 1, 1) := by decide +kernel
theorem d_Mo_readCases_32 : decode prog_13_method_13_code 32 = .ok (.iadd, 1) := by decide +kernel
theorem d_Mo_readCases_33 : decode prog_13_method_13_code 33 = .ok (.putfield 101, 3) := by decide +kernel
theorem d_Mo_readCases_36 : decode prog_13_method_13_code 36 = .ok (.iload_n 3, 1) := by decide +kernel
theorem d_Mo_readCases_37 : decode prog_13_method_13_code 37 = .ok (.istore_n 2, 1) := by decide +kernel
theorem d_Mo_readCases_38 : decode prog_13_method_13_code 38 = .ok (.aload_n 0, 1) := by decide +kernel
theorem d_Mo_readCases_39 : decode prog_13_method_13_code 39 = .ok (.iload_n 2, 1) := by decide +kernel
theorem d_Mo_readCases_40 : decode prog_13_method_13_code 40 = .ok (.aload_n 0, 1) := by decide +kernel
theorem d_Mo_readCases_41 : decode prog_13_method_13_code 41 = .ok (.getfield 87, 3) := by decide +kernel
theorem d_Mo_readCases_44 : decode prog_13_method_13_code 44 = .ok (.if_icmp .ne 15, 3) := by decide +kernel
theorem d_Mo_readCases_47 : decode prog_13_method_13_code 47 = .ok (.aload_n 0, 1) := by decide +kernel
theorem d_Mo_readCases_48 : decode prog_13_method_13_code 48 = .ok (.getfield 101, 3) := by decide +kernel
theorem d_Mo_readCases_51 : decode prog_13_method_13_code 51 = .ok (.iconst 1, 1) := by decide +kernel
theorem d_Mo_readCases_52 : decode prog_13_method_13_code 52 = .ok (.if_icmp .le 7, 3) := by decide +kernel
theorem d_Mo_readCases_55 : decode prog_13_method_13_code 55 = .ok (.iconst 1, 1) := by decide +kernel
theorem d_Mo_readCases_56 : decode prog_13_method_13_code 56 = .ok (.goto 4, 3) := by decide +kernel
theorem d_Mo_readCases_59 : decode prog_13_method_13_code 59 = .ok (.iconst 0, 1) := by decide +kernel
theorem d_Mo_readCases_60 : decode prog_13_method_13_code 60 = .ok (.putfield 107, 3) := by decide +kernel
theorem d_Mo_readCases_63 : decode prog_13_method_13_code 63 = .ok (.aload_n 0, 1) := by decide +kernel
theorem d_Mo_readCases_64 : decode prog_13_method_13_code 64 = .ok (.getfield 101, 3) := by decide +kernel
theorem d_Mo_readCases_67 : decode prog_13_method_13_code 67 = .ok (.bipush 7, 2) := by decide +kernel
theorem d_Mo_readCases_69 : decode prog_13_method_13_code 69 = .ok (.if_icmp .eq 13, 3) := by decide +kernel
theorem d_Mo_readCases_72 : decode prog_13_method_13_code 72 = .ok (.aload_n 0, 1) := by decide +kernel
theorem d_Mo_readCases_73 : decode prog_13_method_13_code 73 = .ok (.iload_n 2, 1) := by decide +kernel
theorem d_Mo_readCases_74 : decode prog_13_method_13_code 74 = .ok (.invokevirtual 91, 3) := by decide +kernel
theorem d_Mo_readCases_77 : decode prog_13_method_13_code 77 = .ok (.bipush 44, 2) := by decide +kernel
theorem d_Mo_readCases_79 : decode prog_13_method_13_code 79 = .ok (.if_icmp .eq 5, 3) := by decide +kernel
theorem d_Mo_readCases_82 : decode prog_13_method_13_code 82 = .ok (.iload_n 2, 1) := by decide +kernel
theorem d_Mo_readCases_83 : decode prog_13_method_13_code 83 = .ok (.ireturn, 1) := by decide +kernel
theorem d_Mo_readCases_84 : decode prog_13_method_13_code 84 = .ok (.iinc 2 1, 3) := by decide +kernel
theorem d_Mo_readCases_87 : decode prog_13_method_13_code 87 = .ok (.goto (-85), 3) := by decide +kernel
theorem d_Mo_readCases_90 : decode prog_13_method_13_code 90 = .ok (.iload_n 2, 1) := by decide +kernel
theorem d_Mo_readCases_91 : decode prog_13_method_13_code 91 = .ok (.ireturn, 1) := by decide +kernel
theorem d_Mo_read_0 : decode prog_13_method_14_code 0 = .ok (.aload_n 0, 1) := by decide +kernel
theorem d_Mo_read_1 : decode prog_13_method_14_code 1 = .ok (.iconst 0, 1) := by decide +kernel
theorem d_Mo_read_2 : decode prog_13_method_14_code 2 = .ok (.putfield 107, 3) := by decide +kernel
theorem d_Mo_read_5 : decode prog_13_method_14_code 5 = .ok (.aload_n 0, 1) := by decide +kernel
theorem d_Mo_read_6 : decode prog_13_method_14_code 6 = .ok (.iconst 0, 1) := by decide +kernel
theorem d_Mo_read_7 : decode prog_13_method_14_code 7 = .ok (.putfield 111, 3) := by decide +kernel
theorem d_Mo_read_10 : decode prog_13_method_14_code 10 = .ok (.aload_n 0, 1) := by decide +kernel
theorem d_Mo_read_11 : decode prog_13_method_14_code 11 = .ok (.iconst 0, 1) := by decide +kernel
theorem d_Mo_read_12 : decode prog_13_method_14_code 12 = .ok (.putfield 101, 3) := by decide +kernel
theorem d_Mo_read_15 : decode prog_13_method_14_code 15 = .ok (.iconst 0, 1) := by decide +kernel
theorem d_Mo_read_16 : decode prog_13_method_14_code 16 = .ok (.istore_n 1, 1) := by decide +kernel
theorem d_Mo_read_17 : decode prog_13_method_14_code 17 = .ok (.aload_n 0, 1) := by decide +kernel
theorem d_Mo_read_18 : decode prog_13_method_14_code 18 = .ok (.getfield 111, 3) := by decide +kernel
theorem d_Mo_read_21 : decode prog_13_method_14_code 21 = .ok (.iconst 3, 1) := by decide +kernel
theorem d_Mo_read_22 : decode prog_13_method_14_code 22 = .ok (.if_icmp .ge 90, 3) := by decide +kernel
theorem d_Mo_read_25 : decode prog_13_method_14_code 25 = .ok (.aload_n 0, 1) := by decide +kernel
theorem d_Mo_read_26 : decode prog_13_method_14_code 26 = .ok (.iload_n 1, 1) := by decide +kernel
theorem d_Mo_read_27 : decode prog_13_method_14_code 27 = .ok (.iconst 0, 1) := by decide +kernel
theorem d_Mo_read_28 : decode prog_13_method_14_code 28 = .ok (.bipush 9, 2) := by decide +kernel
theorem d_Mo_read_30 : decode prog_13_method_14_code 30 = .ok (.invokevirtual 98, 3) := by decide +kernel
theorem d_Mo_read_33 : decode prog_13_method_14_code 33 = .ok (.ifCond .ne 5, 3) := by decide +kernel
theorem d_Mo_read_36 : decode prog_13_method_14_code 36 = .ok (.iload_n 1, 1) := by decide +kernel
theorem d_Mo_read_37 : decode prog_13_method_14_code 37 = .ok (.ireturn, 1) := by decide +kernel
theorem d_Mo_read_38 : decode prog_13_method_14_code 38 = .ok (.aload_n 0, 1) := by decide +kernel
theorem d_Mo_read_39 : decode prog_13_method_14_code 39 = .ok (.iload_n 1, 1) := by decide +kernel
theorem d_Mo_read_40 : decode prog_13_method_14_code 40 = .ok (.iconst 1, 1) := by decide +kernel
theorem d_Mo_read_41 : decode prog_13_method_14_code 41 = .ok (.iadd, 1) := by decide +kernel
theorem d_Mo_read_42 : decode prog_13_method_14_code 42 = .ok (.iconst 0, 1) := by decide +kernel
theorem d_Mo_read_43 : decode prog_13_method_14_code 43 = .ok (.bipush 9, 2) := by decide +kernel
theorem d_Mo_read_45 : decode prog_13_method_14_code 45 = .ok (.invokevirtual 98, 3) := by decide +kernel
theorem d_Mo_read_48 : decode prog_13_method_14_code 48 = .ok (.ifCond .ne 7, 3) := by decide +kernel
theorem d_Mo_read_51 : decode prog_13_method_14_code 51 = .ok (.iload_n 1, 1) := by decide +kernel
theorem d_Mo_read_52 : decode prog_13_method_14_code 52 = .ok (.iconst 1, 1) := by decide +kernel
theorem d_Mo_read_53 : decode prog_13_method_14_code 53 = .ok (.iadd, 1) := by decide +kernel
theorem d_Mo_read_54 : decode prog_13_method_14_code 54 = .ok (.ireturn, 1) := by decide +kernel
theorem d_Mo_read_55 : decode prog_13_method_14_code 55 = .ok (.aload_n 0, 1) := by decide +kernel
theorem d_Mo_read_56 : decode prog_13_method_14_code 56 = .ok (.dup, 1) := by decide +kernel
theorem d_Mo_read_57 : decode prog_13_method_14_code 57 = .ok (.getfield 111, 3) := by decide +kernel
theorem d_Mo_read_60 : decode prog_13_method_14_code 60 = .ok (.iconst 1, 1) := by decide +kernel
theorem d_Mo_read_61 : decode prog_13_method_14_code 61 = .ok (.iadd, 1) := by decide +kernel
theorem d_Mo_read_62 : decode prog_13_method_14_code 62 = .ok (.putfield 111, 3) := by decide +kernel
theorem d_Mo_read_65 : decode prog_13_method_14_code 65 = .ok (.iinc 1 2, 3) := by decide +kernel
theorem d_Mo_read_68 : decode prog_13_method_14_code 68 = .ok (.aload_n 0, 1) := by decide +kernel
theorem d_Mo_read_69 : decode prog_13_method_14_code 69 = .ok (.iload_n 1, 1) := by decide +kernel
theorem d_Mo_read_70 : decode prog_13_method_14_code 70 = .ok (.invokevirtual 91, 3) := by decide +kernel
theorem d_Mo_read_73 : decode prog_13_method_14_code 73 = .ok (.bipush 59, 2) := by decide +kernel
theorem d_Mo_read_75 : decode prog_13_method_14_code 75 = .ok (.if_icmp .ne 11, 3) := by decide +kernel
theorem d_Mo_read_78 : decode prog_13_method_14_code 78 = .ok (.aload_n 0, 1) := by decide +kernel
theorem d_Mo_read_79 : decode prog_13_method_14_code 79 = .ok (.iload_n 1, 1) := by decide +kernel
theorem d_Mo_read_80 : decode prog_13_method_14_code 80 = .ok (.iconst 1, 1) := by decide +kernel
theorem d_Mo_read_81 : decode prog_13_method_14_code 81 = .ok (.iadd, 1) := by decide +kernel
theorem d_Mo_read_82 : decode prog_13_method_14_code 82 = .ok (.invokevirtual 114, 3) := by decide +kernel
theorem d_Mo_read_85 : decode prog_13_method_14_code 85 = .ok (.ireturn, 1) := by decide +kernel
theorem d_Mo_read_86 : decode prog_13_method_14_code 86 = .ok (.aload_n 0, 1) := by decide +kernel
theorem d_Mo_read_87 : decode prog_13_method_14_code 87 = .ok (.getfield 111, 3) := by decide +kernel
theorem d_Mo_read_90 : decode prog_13_method_14_code 90 = .ok (.iconst 3, 1) := by decide +kernel
theorem d_Mo_read_91 : decode prog_13_method_14_code 91 = .ok (.if_icmp .eq 13, 3) := by decide +kernel
theorem d_Mo_read_94 : decode prog_13_method_14_code 94 = .ok (.aload_n 0, 1) := by decide +kernel
theorem d_Mo_read_95 : decode prog_13_method_14_code 95 = .ok (.iload_n 1, 1) := by decide +kernel
theorem d_Mo_read_96 : decode prog_13_method_14_code 96 = .ok (.invokevirtual 91, 3) := by decide +kernel
theorem d_Mo_read_99 : decode prog_13_method_14_code 99 = .ok (.bipush 44, 2) := by decide +kernel
theorem d_Mo_read_101 : decode prog_13_method_14_code 101 = .ok (.if_icmp .eq 5, 3) := by decide +kernel
theorem d_Mo_read_104 : decode prog_13_method_14_code 104 = .ok (.iload_n 1, 1) := by decide +kernel
theorem d_Mo_read_105 : decode prog_13_method_14_code 105 = .ok (.ireturn, 1) := by decide +kernel
theorem d_Mo_read_106 : decode prog_13_method_14_code 106 = .ok (.iinc 1 1, 3) := by decide +kernel
theorem d_Mo_read_109 : decode prog_13_method_14_code 109 = .ok (.goto (-92), 3) := by decide +kernel
theorem d_Mo_read_112 : decode prog_13_method_14_code 112 = .ok (.iload_n 1, 1) := by decide +kernel
theorem d_Mo_read_113 : decode prog_13_method_14_code 113 = .ok (.ireturn, 1) := by decide +kernel
theorem d_Mo_fault_0 : decode prog_13_method_15_code 0 = .ok (.aload_n 0, 1) := by decide +kernel
theorem d_Mo_fault_1 : decode prog_13_method_15_code 1 = .ok (.invokevirtual 117, 3) := by decide +kernel
theorem d_Mo_fault_4 : decode prog_13_method_15_code 4 = .ok (.ireturn, 1) := by decide +kernel
theorem d_Mo_forget_0 : decode prog_13_method_48_code 0 = .ok (.aload_n 0, 1) := by decide +kernel
theorem d_Mo_forget_1 : decode prog_13_method_48_code 1 = .ok (.getfield 139, 3) := by decide +kernel
theorem d_Mo_forget_4 : decode prog_13_method_48_code 4 = .ok (.istore_n 1, 1) := by decide +kernel
theorem d_Mo_forget_5 : decode prog_13_method_48_code 5 = .ok (.aload_n 0, 1) := by decide +kernel
theorem d_Mo_forget_6 : decode prog_13_method_48_code 6 = .ok (.iconst 0, 1) := by decide +kernel
theorem d_Mo_forget_7 : decode prog_13_method_48_code 7 = .ok (.putfield 139, 3) := by decide +kernel
theorem d_Mo_forget_10 : decode prog_13_method_48_code 10 = .ok (.iload_n 1, 1) := by decide +kernel
theorem d_Mo_forget_11 : decode prog_13_method_48_code 11 = .ok (.ireturn, 1) := by decide +kernel
theorem d_Mo_game_0 : decode prog_13_method_44_code 0 = .ok (.aload_n 0, 1) := by decide +kernel
theorem d_Mo_game_1 : decode prog_13_method_44_code 1 = .ok (.iload_n 1, 1) := by decide +kernel
theorem d_Mo_game_2 : decode prog_13_method_44_code 2 = .ok (.invokevirtual 158, 3) := by decide +kernel
theorem d_Mo_game_5 : decode prog_13_method_44_code 5 = .ok (.ifCond .ne 6, 3) := by decide +kernel
theorem d_Mo_game_8 : decode prog_13_method_44_code 8 = .ok (.bipush (-101), 2) := by decide +kernel
theorem d_Mo_game_10 : decode prog_13_method_44_code 10 = .ok (.ireturn, 1) := by decide +kernel
theorem d_Mo_game_11 : decode prog_13_method_44_code 11 = .ok (.iload_n 2, 1) := by decide +kernel
theorem d_Mo_game_12 : decode prog_13_method_44_code 12 = .ok (.iconst 0, 1) := by decide +kernel
theorem d_Mo_game_13 : decode prog_13_method_44_code 13 = .ok (.iconst 1, 1) := by decide +kernel
theorem d_Mo_game_14 : decode prog_13_method_44_code 14 = .ok (.invokestatic 83, 3) := by decide +kernel
theorem d_Mo_game_17 : decode prog_13_method_44_code 17 = .ok (.ifCond .eq 12, 3) := by decide +kernel
theorem d_Mo_game_20 : decode prog_13_method_44_code 20 = .ok (.aload_n 0, 1) := by decide +kernel
theorem d_Mo_game_21 : decode prog_13_method_44_code 21 = .ok (.iload_n 1, 1) := by decide +kernel
theorem d_Mo_game_22 : decode prog_13_method_44_code 22 = .ok (.iload_n 2, 1) := by decide +kernel
theorem d_Mo_game_23 : decode prog_13_method_44_code 23 = .ok (.invokevirtual 219, 3) := by decide +kernel
theorem d_Mo_game_26 : decode prog_13_method_44_code 26 = .ok (.goto 5, 3) := by decide +kernel
theorem d_Mo_game_29 : decode prog_13_method_44_code 29 = .ok (.bipush (-102), 2) := by decide +kernel
theorem d_Mo_game_31 : decode prog_13_method_44_code 31 = .ok (.ireturn, 1) := by decide +kernel
theorem d_Mo_image_0 : decode prog_13_method_55_code 0 = .ok (.aload_n 0, 1) := by decide +kernel
theorem d_Mo_image_1 : decode prog_13_method_55_code 1 = .ok (.getfield 124, 3) := by decide +kernel
theorem d_Mo_image_4 : decode prog_13_method_55_code 4 = .ok (.ifCond .ne 6, 3) := by decide +kernel
theorem d_Mo_image_7 : decode prog_13_method_55_code 7 = .ok (.bipush (-103), 2) := by decide +kernel
theorem d_Mo_image_9 : decode prog_13_method_55_code 9 = .ok (.ireturn, 1) := by decide +kernel
theorem d_Mo_image_10 : decode prog_13_method_55_code 10 = .ok (.aload_n 0, 1) := by decide +kernel
theorem d_Mo_image_11 : decode prog_13_method_55_code 11 = .ok (.iconst 1, 1) := by decide +kernel
theorem d_Mo_image_12 : decode prog_13_method_55_code 12 = .ok (.putfield 251, 3) := by decide +kernel
theorem d_Mo_image_15 : decode prog_13_method_55_code 15 = .ok (.aload_n 0, 1) := by decide +kernel
theorem d_Mo_image_16 : decode prog_13_method_55_code 16 = .ok (.aload_n 0, 1) := by decide +kernel
theorem d_Mo_image_17 : decode prog_13_method_55_code 17 = .ok (.getfield 136, 3) := by decide +kernel
theorem d_Mo_image_20 : decode prog_13_method_55_code 20 = .ok (.putfield 254, 3) := by decide +kernel
theorem d_Mo_image_23 : decode prog_13_method_55_code 23 = .ok (.aload_n 0, 1) := by decide +kernel
theorem d_Mo_image_24 : decode prog_13_method_55_code 24 = .ok (.aload_n 0, 1) := by decide +kernel
theorem d_Mo_image_25 : decode prog_13_method_55_code 25 = .ok (.getfield 127, 3) := by decide +kernel
theorem d_Mo_image_28 : decode prog_13_method_55_code 28 = .ok (.putfield 257, 3) := by decide +kernel
theorem d_Mo_image_31 : decode prog_13_method_55_code 31 = .ok (.aload_n 0, 1) := by decide +kernel
theorem d_Mo_image_32 : decode prog_13_method_55_code 32 = .ok (.aload_n 0, 1) := by decide +kernel
theorem d_Mo_image_33 : decode prog_13_method_55_code 33 = .ok (.getfield 130, 3) := by decide +kernel
theorem d_Mo_image_36 : decode prog_13_method_55_code 36 = .ok (.putfield 260, 3) := by decide +kernel
theorem d_Mo_image_39 : decode prog_13_method_55_code 39 = .ok (.aload_n 0, 1) := by decide +kernel
theorem d_Mo_image_40 : decode prog_13_method_55_code 40 = .ok (.aload_n 0, 1) := by decide +kernel
theorem d_Mo_image_41 : decode prog_13_method_55_code 41 = .ok (.getfield 133, 3) := by decide +kernel
theorem d_Mo_image_44 : decode prog_13_method_55_code 44 = .ok (.putfield 263, 3) := by decide +kernel
theorem d_Mo_image_47 : decode prog_13_method_55_code 47 = .ok (.aload_n 0, 1) := by decide +kernel
theorem d_Mo_image_48 : decode prog_13_method_55_code 48 = .ok (.aload_n 0, 1) := by decide +kernel
theorem d_Mo_image_49 : decode prog_13_method_55_code 49 = .ok (.getfield 139, 3) := by decide +kernel
theorem d_Mo_image_52 : decode prog_13_method_55_code 52 = .ok (.putfield 266, 3) := by decide +kernel
theorem d_Mo_image_55 : decode prog_13_method_55_code 55 = .ok (.iconst 0, 1) := by decide +kernel
theorem d_Mo_image_56 : decode prog_13_method_55_code 56 = .ok (.istore_n 1, 1) := by decide +kernel
theorem d_Mo_image_57 : decode prog_13_method_55_code 57 = .ok (.iload_n 1, 1) := by decide +kernel
theorem d_Mo_image_58 : decode prog_13_method_55_code 58 = .ok (.iconst 3, 1) := by decide +kernel
theorem d_Mo_image_59 : decode prog_13_method_55_code 59 = .ok (.if_icmp .ge 33, 3) := by decide +kernel
theorem d_Mo_image_62 : decode prog_13_method_55_code 62 = .ok (.aload_n 0, 1) := by decide +kernel
theorem d_Mo_image_63 : decode prog_13_method_55_code 63 = .ok (.getfield 62, 3) := by decide +kernel
theorem d_Mo_image_66 : decode prog_13_method_55_code 66 = .ok (.iload_n 1, 1) := by decide +kernel
theorem d_Mo_image_67 : decode prog_13_method_55_code 67 = .ok (.aload_n 0, 1) := by decide +kernel
theorem d_Mo_image_68 : decode prog_13_method_55_code 68 = .ok (.getfield 7, 3) := by decide +kernel
theorem d_Mo_image_71 : decode prog_13_method_55_code 71 = .ok (.iload_n 1, 1) := by decide +kernel
theorem d_Mo_image_72 : decode prog_13_method_55_code 72 = .ok (.iaload, 1) := by decide +kernel
theorem d_Mo_image_73 : decode prog_13_method_55_code 73 = .ok (.iastore, 1) := by decide +kernel
theorem d_Mo_image_74 : decode prog_13_method_55_code 74 = .ok (.aload_n 0, 1) := by decide +kernel
theorem d_Mo_image_75 : decode prog_13_method_55_code 75 = .ok (.getfield 65, 3) := by decide +kernel
theorem d_Mo_image_78 : decode prog_13_method_55_code 78 = .ok (.iload_n 1, 1) := by decide +kernel
theorem d_Mo_image_79 : decode prog_13_method_55_code 79 = .ok (.aload_n 0, 1) := by decide +kernel
theorem d_Mo_image_80 : decode prog_13_method_55_code 80 = .ok (.getfield 13, 3) := by decide +kernel
theorem d_Mo_image_83 : decode prog_13_method_55_code 83 = .ok (.iload_n 1, 1) := by decide +kernel
theorem d_Mo_image_84 : decode prog_13_method_55_code 84 = .ok (.iaload, 1) := by decide +kernel
theorem d_Mo_image_85 : decode prog_13_method_55_code 85 = .ok (.iastore, 1) := by decide +kernel
theorem d_Mo_image_86 : decode prog_13_method_55_code 86 = .ok (.iinc 1 1, 3) := by decide +kernel
theorem d_Mo_image_89 : decode prog_13_method_55_code 89 = .ok (.goto (-32), 3) := by decide +kernel
theorem d_Mo_image_92 : decode prog_13_method_55_code 92 = .ok (.iconst 0, 1) := by decide +kernel
theorem d_Mo_image_93 : decode prog_13_method_55_code 93 = .ok (.istore_n 1, 1) := by decide +kernel
theorem d_Mo_image_94 : decode prog_13_method_55_code 94 = .ok (.iload_n 1, 1) := by decide +kernel
theorem d_Mo_image_95 : decode prog_13_method_55_code 95 = .ok (.bipush 7, 2) := by decide +kernel
theorem d_Mo_image_97 : decode prog_13_method_55_code 97 = .ok (.if_icmp .ge 33, 3) := by decide +kernel
theorem d_Mo_image_100 : decode prog_13_method_55_code 100 = .ok (.aload_n 0, 1) := by decide +kernel
theorem d_Mo_image_101 : decode prog_13_method_55_code 101 = .ok (.getfield 68, 3) := by decide +kernel
theorem d_Mo_image_104 : decode prog_13_method_55_code 104 = .ok (.iload_n 1, 1) := by decide +kernel
theorem d_Mo_image_105 : decode prog_13_method_55_code 105 = .ok (.aload_n 0, 1) := by decide +kernel
theorem d_Mo_image_106 : decode prog_13_method_55_code 106 = .ok (.getfield 19, 3) := by decide +kernel
theorem d_Mo_image_109 : decode prog_13_method_55_code 109 = .ok (.iload_n 1, 1) := by decide +kernel
theorem d_Mo_image_110 : decode prog_13_method_55_code 110 = .ok (.iaload, 1) := by decide +kernel
theorem d_Mo_image_111 : decode prog_13_method_55_code 111 = .ok (.iastore, 1) := by decide +kernel
theorem d_Mo_image_112 : decode prog_13_method_55_code 112 = .ok (.aload_n 0, 1) := by decide +kernel
theorem d_Mo_image_113 : decode prog_13_method_55_code 113 = .ok (.getfield 71, 3) := by decide +kernel
theorem d_Mo_image_116 : decode prog_13_method_55_code 116 = .ok (.iload_n 1, 1) := by decide +kernel
theorem d_Mo_image_117 : decode prog_13_method_55_code 117 = .ok (.aload_n 0, 1) := by decide +kernel
theorem d_Mo_image_118 : decode prog_13_method_55_code 118 = .ok (.getfield 22, 3) := by decide +kernel
theorem d_Mo_image_121 : decode prog_13_method_55_code 121 = .ok (.iload_n 1, 1) := by decide +kernel
theorem d_Mo_image_122 : decode prog_13_method_55_code 122 = .ok (.iaload, 1) := by decide +kernel
theorem d_Mo_image_123 : decode prog_13_method_55_code 123 = .ok (.iastore, 1) := by decide +kernel
theorem d_Mo_image_124 : decode prog_13_method_55_code 124 = .ok (.iinc 1 1, 3) := by decide +kernel
theorem d_Mo_image_127 : decode prog_13_method_55_code 127 = .ok (.goto (-33), 3) := by decide +kernel
theorem d_Mo_image_130 : decode prog_13_method_55_code 130 = .ok (.iconst 0, 1) := by decide +kernel
theorem d_Mo_image_131 : decode prog_13_method_55_code 131 = .ok (.istore_n 1, 1) := by decide +kernel
theorem d_Mo_image_132 : decode prog_13_method_55_code 132 = .ok (.iload_n 1, 1) := by decide +kernel
theorem d_Mo_image_133 : decode prog_13_method_55_code 133 = .ok (.bipush 8, 2) := by decide +kernel
theorem d_Mo_image_135 : decode prog_13_method_55_code 135 = .ok (.if_icmp .ge 45, 3) := by decide +kernel
theorem d_Mo_image_138 : decode prog_13_method_55_code 138 = .ok (.aload_n 0, 1) := by decide +kernel
theorem d_Mo_image_139 : decode prog_13_method_55_code 139 = .ok (.getfield 74, 3) := by decide +kernel
theorem d_Mo_image_142 : decode prog_13_method_55_code 142 = .ok (.iload_n 1, 1) := by decide +kernel
theorem d_Mo_image_143 : decode prog_13_method_55_code 143 = .ok (.aload_n 0, 1) := by decide +kernel
theorem d_Mo_image_144 : decode prog_13_method_55_code 144 = .ok (.getfield 28, 3) := by decide +kernel
theorem d_Mo_image_147 : decode prog_13_method_55_code 147 = .ok (.iload_n 1, 1) := by decide +kernel
theorem d_Mo_image_148 : decode prog_13_method_55_code 148 = .ok (.iaload, 1) := by decide +kernel
theorem d_Mo_image_149 : decode prog_13_method_55_code 149 = .ok (.iastore, 1) := by decide +kernel
theorem d_Mo_image_150 : decode prog_13_method_55_code 150 = .ok (.aload_n 0, 1) := by decide +kernel
theorem d_Mo_image_151 : decode prog_13_method_55_code 151 = .ok (.getfield 77, 3) := by decide +kernel
theorem d_Mo_image_154 : decode prog_13_method_55_code 154 = .ok (.iload_n 1, 1) := by decide +kernel
theorem d_Mo_image_155 : decode prog_13_method_55_code 155 = .ok (.aload_n 0, 1) := by decide +kernel
theorem d_Mo_image_156 : decode prog_13_method_55_code 156 = .ok (.getfield 31, 3) := by decide +kernel
theorem d_Mo_image_159 : decode prog_13_method_55_code 159 = .ok (.iload_n 1, 1) := by decide +kernel
theorem d_Mo_image_160 : decode prog_13_method_55_code 160 = .ok (.iaload, 1) := by decide +kernel
theorem d_Mo_image_161 : decode prog_13_method_55_code 161 = .ok (.iastore, 1) := by decide +kernel
theorem d_Mo_image_162 : decode prog_13_method_55_code 162 = .ok (.aload_n 0, 1) := by decide +kernel
theorem d_Mo_image_163 : decode prog_13_method_55_code 163 = .ok (.getfield 80, 3) := by decide +kernel
theorem d_Mo_image_166 : decode prog_13_method_55_code 166 = .ok (.iload_n 1, 1) := by decide +kernel
theorem d_Mo_image_167 : decode prog_13_method_55_code 167 = .ok (.aload_n 0, 1) := by decide +kernel
theorem d_Mo_image_168 : decode prog_13_method_55_code 168 = .ok (.getfield 34, 3) := by decide +kernel
theorem d_Mo_image_171 : decode prog_13_method_55_code 171 = .ok (.iload_n 1, 1) := by decide +kernel
theorem d_Mo_image_172 : decode prog_13_method_55_code 172 = .ok (.iaload, 1) := by decide +kernel
theorem d_Mo_image_173 : decode prog_13_method_55_code 173 = .ok (.iastore, 1) := by decide +kernel
theorem d_Mo_image_174 : decode prog_13_method_55_code 174 = .ok (.iinc 1 1, 3) := by decide +kernel
theorem d_Mo_image_177 : decode prog_13_method_55_code 177 = .ok (.goto (-45), 3) := by decide +kernel
theorem d_Mo_image_180 : decode prog_13_method_55_code 180 = .ok (.aload_n 0, 1) := by decide +kernel
theorem d_Mo_image_181 : decode prog_13_method_55_code 181 = .ok (.getfield 133, 3) := by decide +kernel
theorem d_Mo_image_184 : decode prog_13_method_55_code 184 = .ok (.ireturn, 1) := by decide +kernel
theorem d_Mo_letter_0 : decode prog_13_method_7_code 0 = .ok (.iload_n 1, 1) := by decide +kernel
theorem d_Mo_letter_1 : decode prog_13_method_7_code 1 = .ok (.bipush 32, 2) := by decide +kernel
theorem d_Mo_letter_3 : decode prog_13_method_7_code 3 = .ok (.bipush 126, 2) := by decide +kernel
theorem d_Mo_letter_5 : decode prog_13_method_7_code 5 = .ok (.invokestatic 83, 3) := by decide +kernel
theorem d_Mo_letter_8 : decode prog_13_method_7_code 8 = .ok (.ifCond .ne 6, 3) := by decide +kernel
theorem d_Mo_letter_11 : decode prog_13_method_7_code 11 = .ok (.bipush (-102), 2) := by decide +kernel
theorem d_Mo_letter_13 : decode prog_13_method_7_code 13 = .ok (.ireturn, 1) := by decide +kernel
theorem d_Mo_letter_14 : decode prog_13_method_7_code 14 = .ok (.aload_n 0, 1) := by decide +kernel
theorem d_Mo_letter_15 : decode prog_13_method_7_code 15 = .ok (.getfield 87, 3) := by decide +kernel
theorem d_Mo_letter_18 : decode prog_13_method_7_code 18 = .ok (.bipush 46, 2) := by decide +kernel
theorem d_Mo_letter_20 : decode prog_13_method_7_code 20 = .ok (.if_icmp .ne 6, 3) := by decide +kernel
theorem d_Mo_letter_23 : decode prog_13_method_7_code 23 = .ok (.bipush (-104), 2) := by decide +kernel
theorem d_Mo_letter_25 : decode prog_13_method_7_code 25 = .ok (.ireturn, 1) := by decide +kernel
theorem d_Mo_letter_26 : decode prog_13_method_7_code 26 = .ok (.aload_n 0, 1) := by decide +kernel
theorem d_Mo_letter_27 : decode prog_13_method_7_code 27 = .ok (.getfield 37, 3) := by decide +kernel
theorem d_Mo_letter_30 : decode prog_13_method_7_code 30 = .ok (.aload_n 0, 1) := by decide +kernel
theorem d_Mo_letter_31 : decode prog_13_method_7_code 31 = .ok (.getfield 87, 3) := by decide +kernel
theorem d_Mo_letter_34 : decode prog_13_method_7_code 34 = .ok (.iload_n 1, 1) := by decide +kernel
theorem d_Mo_letter_35 : decode prog_13_method_7_code 35 = .ok (.i2b, 1) := by decide +kernel
theorem d_Mo_letter_36 : decode prog_13_method_7_code 36 = .ok (.bastore, 1) := by decide +kernel
theorem d_Mo_letter_37 : decode prog_13_method_7_code 37 = .ok (.aload_n 0, 1) := by decide +kernel
theorem d_Mo_letter_38 : decode prog_13_method_7_code 38 = .ok (.dup, 1) := by decide +kernel
theorem d_Mo_letter_39 : decode prog_13_method_7_code 39 = .ok (.getfield 87, 3) := by decide +kernel
theorem d_Mo_letter_42 : decode prog_13_method_7_code 42 = .ok (.iconst 1, 1) := by decide +kernel
theorem d_Mo_letter_43 : decode prog_13_method_7_code 43 = .ok (.iadd, 1) := by decide +kernel
theorem d_Mo_letter_44 : decode prog_13_method_7_code 44 = .ok (.putfield 87, 3) := by decide +kernel
theorem d_Mo_letter_47 : decode prog_13_method_7_code 47 = .ok (.aload_n 0, 1) := by decide +kernel
theorem d_Mo_letter_48 : decode prog_13_method_7_code 48 = .ok (.getfield 87, 3) := by decide +kernel
theorem d_Mo_letter_51 : decode prog_13_method_7_code 51 = .ok (.ireturn, 1) := by decide +kernel
theorem d_Mo_nextRow_0 : decode prog_13_method_37_code 0 = .ok (.aload_n 0, 1) := by decide +kernel
theorem d_Mo_nextRow_1 : decode prog_13_method_37_code 1 = .ok (.getfield 124, 3) := by decide +kernel
theorem d_Mo_nextRow_4 : decode prog_13_method_37_code 4 = .ok (.iconst 1, 1) := by decide +kernel
theorem d_Mo_nextRow_5 : decode prog_13_method_37_code 5 = .ok (.isub, 1) := by decide +kernel
theorem d_Mo_nextRow_6 : decode prog_13_method_37_code 6 = .ok (.istore_n 1, 1) := by decide +kernel
theorem d_Mo_nextRow_7 : decode prog_13_method_37_code 7 = .ok (.iload_n 1, 1) := by decide +kernel
theorem d_Mo_nextRow_8 : decode prog_13_method_37_code 8 = .ok (.ifCond .lt 29, 3) := by decide +kernel
theorem d_Mo_nextRow_11 : decode prog_13_method_37_code 11 = .ok (.aload_n 0, 1) := by decide +kernel
theorem d_Mo_nextRow_12 : decode prog_13_method_37_code 12 = .ok (.getfield 41, 3) := by decide +kernel
theorem d_Mo_nextRow_15 : decode prog_13_method_37_code 15 = .ok (.iload_n 1, 1) := by decide +kernel
theorem d_Mo_nextRow_16 : decode prog_13_method_37_code 16 = .ok (.iaload, 1) := by decide +kernel
theorem d_Mo_nextRow_17 : decode prog_13_method_37_code 17 = .ok (.aload_n 0, 1) := by decide +kernel
theorem d_Mo_nextRow_18 : decode prog_13_method_37_code 18 = .ok (.getfield 121, 3) := by decide +kernel
theorem d_Mo_nextRow_21 : decode prog_13_method_37_code 21 = .ok (.if_icmp .ne 16, 3) := by decide +kernel
theorem d_Mo_nextRow_24 : decode prog_13_method_37_code 24 = .ok (.aload_n 0, 1) := by decide +kernel
theorem d_Mo_nextRow_25 : decode prog_13_method_37_code 25 = .ok (.getfield 41, 3) := by decide +kernel
theorem d_Mo_nextRow_28 : decode prog_13_method_37_code 28 = .ok (.iload_n 1, 1) := by decide +kernel
theorem d_Mo_nextRow_29 : decode prog_13_method_37_code 29 = .ok (.iconst 0, 1) := by decide +kernel
theorem d_Mo_nextRow_30 : decode prog_13_method_37_code 30 = .ok (.iastore, 1) := by decide +kernel
theorem d_Mo_nextRow_31 : decode prog_13_method_37_code 31 = .ok (.iinc 1 (-1), 3) := by decide +kernel
theorem d_Mo_nextRow_34 : decode prog_13_method_37_code 34 = .ok (.goto (-27), 3) := by decide +kernel
theorem d_Mo_nextRow_37 : decode prog_13_method_37_code 37 = .ok (.iload_n 1, 1) := by decide +kernel
theorem d_Mo_nextRow_38 : decode prog_13_method_37_code 38 = .ok (.ifCond .ge 5, 3) := by decide +kernel
theorem d_Mo_nextRow_41 : decode prog_13_method_37_code 41 = .ok (.iconst 0, 1) := by decide +kernel
theorem d_Mo_nextRow_42 : decode prog_13_method_37_code 42 = .ok (.ireturn, 1) := by decide +kernel
theorem d_Mo_nextRow_43 : decode prog_13_method_37_code 43 = .ok (.aload_n 0, 1) := by decide +kernel
theorem d_Mo_nextRow_44 : decode prog_13_method_37_code 44 = .ok (.getfield 41, 3) := by decide +kernel
theorem d_Mo_nextRow_47 : decode prog_13_method_37_code 47 = .ok (.iload_n 1, 1) := by decide +kernel
theorem d_Mo_nextRow_48 : decode prog_13_method_37_code 48 = .ok (.dup2, 1) := by decide +kernel
theorem d_Mo_nextRow_49 : decode prog_13_method_37_code 49 = .ok (.iaload, 1) := by decide +kernel
theorem d_Mo_nextRow_50 : decode prog_13_method_37_code 50 = .ok (.iconst 1, 1) := by decide +kernel
theorem d_Mo_nextRow_51 : decode prog_13_method_37_code 51 = .ok (.iadd, 1) := by decide +kernel
theorem d_Mo_nextRow_52 : decode prog_13_method_37_code 52 = .ok (.iastore, 1) := by decide +kernel
theorem d_Mo_nextRow_53 : decode prog_13_method_37_code 53 = .ok (.iconst 1, 1) := by decide +kernel
theorem d_Mo_nextRow_54 : decode prog_13_method_37_code 54 = .ok (.ireturn, 1) := by decide +kernel
theorem d_Mo_odds_0 : decode prog_13_method_46_code 0 = .ok (.aload_n 0, 1) := by decide +kernel
theorem d_Mo_odds_1 : decode prog_13_method_46_code 1 = .ok (.iload_n 1, 1) := by decide +kernel
theorem d_Mo_odds_2 : decode prog_13_method_46_code 2 = .ok (.invokevirtual 178, 3) := by decide +kernel
theorem d_Mo_odds_5 : decode prog_13_method_46_code 5 = .ok (.ifCond .eq 11, 3) := by decide +kernel
theorem d_Mo_odds_8 : decode prog_13_method_46_code 8 = .ok (.aload_n 0, 1) := by decide +kernel
theorem d_Mo_odds_9 : decode prog_13_method_46_code 9 = .ok (.iload_n 2, 1) := by decide +kernel
theorem d_Mo_odds_10 : decode prog_13_method_46_code 10 = .ok (.invokevirtual 158, 3) := by decide +kernel
theorem d_Mo_odds_13 : decode prog_13_method_46_code 13 = .ok (.ifCond .ne 6, 3) := by decide +kernel
theorem d_Mo_odds_16 : decode prog_13_method_46_code 16 = .ok (.bipush (-101), 2) := by decide +kernel
theorem d_Mo_odds_18 : decode prog_13_method_46_code 18 = .ok (.ireturn, 1) := by decide +kernel
theorem d_Mo_odds_19 : decode prog_13_method_46_code 19 = .ok (.iload_n 3, 1) := by decide +kernel
theorem d_Mo_odds_20 : decode prog_13_method_46_code 20 = .ok (.iconst 1, 1) := by decide +kernel
theorem d_Mo_odds_21 : decode prog_13_method_46_code 21 = .ok (.iconst 3, 1) := by decide +kernel
theorem d_Mo_odds_22 : decode prog_13_method_46_code 22 = .ok (.invokestatic 83, 3) := by decide +kernel
theorem d_Mo_odds_25 : decode prog_13_method_46_code 25 = .ok (.ifCond .eq 25, 3) := by decide +kernel
theorem d_Mo_odds_28 : decode prog_13_method_46_code 28 = .ok (.iload 4, 2) := by decide +kernel
theorem d_Mo_odds_30 : decode prog_13_method_46_code 30 = .ok (.iconst 0, 1) := by decide +kernel
theorem d_Mo_odds_31 : decode prog_13_method_46_code 31 = .ok (.iconst 1, 1) := by decide +kernel
theorem d_Mo_odds_32 : decode prog_13_method_46_code 32 = .ok (.invokestatic 83, 3) := by decide +kernel
theorem d_Mo_odds_35 : decode prog_13_method_46_code 35 = .ok (.ifCond .eq 15, 3) := by decide +kernel
theorem d_Mo_odds_38 : decode prog_13_method_46_code 38 = .ok (.aload_n 0, 1) := by decide +kernel
theorem d_Mo_odds_39 : decode prog_13_method_46_code 39 = .ok (.iload_n 1, 1) := by decide +kernel
theorem d_Mo_odds_40 : decode prog_13_method_46_code 40 = .ok (.iload_n 2, 1) := by decide +kernel
theorem d_Mo_odds_41 : decode prog_13_method_46_code 41 = .ok (.iload_n 3, 1) := by decide +kernel
theorem d_Mo_odds_42 : decode prog_13_method_46_code 42 = .ok (.iload 4, 2) := by decide +kernel
theorem d_Mo_odds_44 : decode prog_13_method_46_code 44 = .ok (.invokevirtual 225, 3) := by decide +kernel
theorem d_Mo_odds_47 : decode prog_13_method_46_code 47 = .ok (.goto 5, 3) := by decide +kernel
theorem d_Mo_odds_50 : decode prog_13_method_46_code 50 = .ok (.bipush (-102), 2) := by decide +kernel
theorem d_Mo_odds_52 : decode prog_13_method_46_code 52 = .ok (.ireturn, 1) := by decide +kernel
theorem d_Mo_planNow_0 : decode prog_13_method_38_code 0 = .ok (.iconst 0, 1) := by decide +kernel
theorem d_Mo_planNow_1 : decode prog_13_method_38_code 1 = .ok (.istore_n 2, 1) := by decide +kernel
theorem d_Mo_planNow_2 : decode prog_13_method_38_code 2 = .ok (.iload_n 2, 1) := by decide +kernel
theorem d_Mo_planNow_3 : decode prog_13_method_38_code 3 = .ok (.bipush 7, 2) := by decide +kernel
theorem d_Mo_planNow_5 : decode prog_13_method_38_code 5 = .ok (.if_icmp .ge 23, 3) := by decide +kernel
theorem d_Mo_planNow_8 : decode prog_13_method_38_code 8 = .ok (.aload_n 0, 1) := by decide +kernel
theorem d_Mo_planNow_9 : decode prog_13_method_38_code 9 = .ok (.getfield 41, 3) := by decide +kernel
theorem d_Mo_planNow_12 : decode prog_13_method_38_code 12 = .ok (.iload_n 2, 1) := by decide +kernel
theorem d_Mo_planNow_13 : decode prog_13_method_38_code 13 = .ok (.iconst 0, 1) := by decide +kernel
theorem d_Mo_planNow_14 : decode prog_13_method_38_code 14 = .ok (.iastore, 1) := by decide +kernel
theorem d_Mo_planNow_15 : decode prog_13_method_38_code 15 = .ok (.aload_n 0, 1) := by decide +kernel
theorem d_Mo_planNow_16 : decode prog_13_method_38_code 16 = .ok (.getfield 44, 3) := by decide +kernel
theorem d_Mo_planNow_19 : decode prog_13_method_38_code 19 = .ok (.iload_n 2, 1) := by decide +kernel
theorem d_Mo_planNow_20 : decode prog_13_method_38_code 20 = .ok (.iconst 0, 1) := by decide +kernel
theorem d_Mo_planNow_21 : decode prog_13_method_38_code 21 = .ok (.iastore, 1) := by decide +kernel
theorem d_Mo_planNow_22 : decode prog_13_method_38_code 22 = .ok (.iinc 2 1, 3) := by decide +kernel
theorem d_Mo_planNow_25 : decode prog_13_method_38_code 25 = .ok (.goto (-23), 3) := by decide +kernel
theorem d_Mo_planNow_28 : decode prog_13_method_38_code 28 = .ok (.iconst (-1), 1) := by decide +kernel
theorem d_Mo_planNow_29 : decode prog_13_method_38_code 29 = .ok (.istore_n 2, 1) := by decide +kernel
theorem d_Mo_planNow_30 : decode prog_13_method_38_code 30 = .ok (.ldc 196, 2) := by decide +kernel
theorem d_Mo_planNow_32 : decode prog_13_method_38_code 32 = .ok (.istore_n 3, 1) := by decide +kernel
theorem d_Mo_planNow_33 : decode prog_13_method_38_code 33 = .ok (.iconst 1, 1) := by decide +kernel
theorem d_Mo_planNow_34 : decode prog_13_method_38_code 34 = .ok (.istore 4, 2) := by decide +kernel
theorem d_Mo_planNow_36 : decode prog_13_method_38_code 36 = .ok (.iload 4, 2) := by decide +kernel
theorem d_Mo_planNow_38 : decode prog_13_method_38_code 38 = .ok (.ifCond .eq 89, 3) := by decide +kernel
theorem d_Mo_planNow_41 : decode prog_13_method_38_code 41 = .ok (.aload_n 0, 1) := by decide +kernel
theorem d_Mo_planNow_42 : decode prog_13_method_38_code 42 = .ok (.invokevirtual 197, 3) := by decide +kernel
theorem d_Mo_planNow_45 : decode prog_13_method_38_code 45 = .ok (.ifCond .eq 73, 3) := by decide +kernel
theorem d_Mo_planNow_48 : decode prog_13_method_38_code 48 = .ok (.aload_n 0, 1) := by decide +kernel
theorem d_Mo_planNow_49 : decode prog_13_method_38_code 49 = .ok (.aload_n 0, 1) := by decide +kernel
theorem d_Mo_planNow_50 : decode prog_13_method_38_code 50 = .ok (.getfield 190, 3) := by decide +kernel
theorem d_Mo_planNow_53 : decode prog_13_method_38_code 53 = .ok (.invokevirtual 187, 3) := by decide +kernel
theorem d_Mo_planNow_56 : decode prog_13_method_38_code 56 = .ok (.istore 5, 2) := by decide +kernel
theorem d_Mo_planNow_58 : decode prog_13_method_38_code 58 = .ok (.iload 5, 2) := by decide +kernel
theorem d_Mo_planNow_60 : decode prog_13_method_38_code 60 = .ok (.iload_n 2, 1) := by decide +kernel
theorem d_Mo_planNow_61 : decode prog_13_method_38_code 61 = .ok (.if_icmp .gt 17, 3) := by decide +kernel
theorem d_Mo_planNow_64 : decode prog_13_method_38_code 64 = .ok (.iload 5, 2) := by decide +kernel
theorem d_Mo_planNow_66 : decode prog_13_method_38_code 66 = .ok (.iload_n 2, 1) := by decide +kernel
theorem d_Mo_planNow_67 : decode prog_13_method_38_code 67 = .ok (.if_icmp .ne 51, 3) := by decide +kernel
theorem d_Mo_planNow_70 : decode prog_13_method_38_code 70 = .ok (.aload_n 0, 1) := by decide +kernel
theorem d_Mo_planNow_71 : decode prog_13_method_38_code 71 = .ok (.getfield 193, 3) := by decide +kernel
theorem d_Mo_planNow_74 : decode prog_13_method_38_code 74 = .ok (.iload_n 3, 1) := by decide +kernel
theorem d_Mo_planNow_75 : decode prog_13_method_38_code 75 = .ok (.if_icmp .ge 43, 3) := by decide +kernel
theorem d_Mo_planNow_78 : decode prog_13_method_38_code 78 = .ok (.iload 5, 2) := by decide +kernel
theorem d_Mo_planNow_80 : decode prog_13_method_38_code 80 = .ok (.istore_n 2, 1) := by decide +kernel
theorem d_Mo_planNow_81 : decode prog_13_method_38_code 81 = .ok (.aload_n 0, 1) := by decide +kernel
theorem d_Mo_planNow_82 : decode prog_13_method_38_code 82 = .ok (.getfield 193, 3) := by decide +kernel
theorem d_Mo_planNow_85 : decode prog_13_method_38_code 85 = .ok (.istore_n 3, 1) := by decide +kernel
theorem d_Mo_planNow_86 : decode prog_13_method_38_code 86 = .ok (.iconst 0, 1) := by decide +kernel
theorem d_Mo_planNow_87 : decode prog_13_method_38_code 87 = .ok (.istore 6, 2) := by decide +kernel
theorem d_Mo_planNow_89 : decode prog_13_method_38_code 89 = .ok (.iload 6, 2) := by decide +kernel
theorem d_Mo_planNow_91 : decode prog_13_method_38_code 91 = .ok (.aload_n 0, 1) := by decide +kernel
theorem d_Mo_planNow_92 : decode prog_13_method_38_code 92 = .ok (.getfield 124, 3) := by decide +kernel
theorem d_Mo_planNow_95 : decode prog_13_method_38_code 95 = .ok (.if_icmp .ge 23, 3) := by decide +kernel
theorem d_Mo_planNow_98 : decode prog_13_method_38_code 98 = .ok (.aload_n 0, 1) := by decide +kernel
theorem d_Mo_planNow_99 : decode prog_13_method_38_code 99 = .ok (.getfield 44, 3) := by decide +kernel
theorem d_Mo_planNow_102 : decode prog_13_method_38_code 102 = .ok (.iload 6, 2) := by decide +kernel
theorem d_Mo_planNow_104 : decode prog_13_method_38_code 104 = .ok (.aload_n 0, 1) := by decide +kernel
theorem d_Mo_planNow_105 : decode prog_13_method_38_code 105 = .ok (.getfield 41, 3) := by decide +kernel
theorem d_Mo_planNow_108 : decode prog_13_method_38_code 108 = .ok (.iload 6, 2) := by decide +kernel
theorem d_Mo_planNow_110 : decode prog_13_method_38_code 110 = .ok (.iaload, 1) := by decide +kernel
theorem d_Mo_planNow_111 : decode prog_13_method_38_code 111 = .ok (.iastore, 1) := by decide +kernel
theorem d_Mo_planNow_112 : decode prog_13_method_38_code 112 = .ok (.iinc 6 1, 3) := by decide +kernel
theorem d_Mo_planNow_115 : decode prog_13_method_38_code 115 = .ok (.goto (-26), 3) := by decide +kernel
theorem d_Mo_planNow_118 : decode prog_13_method_38_code 118 = .ok (.aload_n 0, 1) := by decide +kernel
theorem d_Mo_planNow_119 : decode prog_13_method_38_code 119 = .ok (.invokevirtual 201, 3) := by decide +kernel
theorem d_Mo_planNow_122 : decode prog_13_method_38_code 122 = .ok (.istore 4, 2) := by decide +kernel
theorem d_Mo_planNow_124 : decode prog_13_method_38_code 124 = .ok (.goto (-88), 3) := by decide +kernel
theorem d_Mo_planNow_127 : decode prog_13_method_38_code 127 = .ok (.iload_n 1, 1) := by decide +kernel
theorem d_Mo_planNow_128 : decode prog_13_method_38_code 128 = .ok (.ifCond .ne 7, 3) := by decide +kernel
theorem d_Mo_planNow_131 : decode prog_13_method_38_code 131 = .ok (.iload_n 2, 1) := by decide +kernel
theorem d_Mo_planNow_132 : decode prog_13_method_38_code 132 = .ok (.goto 23, 3) := by decide +kernel
theorem d_Mo_planNow_135 : decode prog_13_method_38_code 135 = .ok (.iload_n 1, 1) := by decide +kernel
theorem d_Mo_planNow_136 : decode prog_13_method_38_code 136 = .ok (.iconst 1, 1) := by decide +kernel
theorem d_Mo_planNow_137 : decode prog_13_method_38_code 137 = .ok (.if_icmp .ne 7, 3) := by decide +kernel
theorem d_Mo_planNow_140 : decode prog_13_method_38_code 140 = .ok (.iload_n 3, 1) := by decide +kernel
theorem d_Mo_planNow_141 : decode prog_13_method_38_code 141 = .ok (.goto 14, 3) := by decide +kernel
theorem d_Mo_planNow_144 : decode prog_13_method_38_code 144 = .ok (.aload_n 0, 1) := by decide +kernel
theorem d_Mo_planNow_145 : decode prog_13_method_38_code 145 = .ok (.getfield 44, 3) := by decide +kernel
theorem d_Mo_planNow_148 : decode prog_13_method_38_code 148 = .ok (.iload_n 1, 1) := by decide +kernel
theorem d_Mo_planNow_149 : decode prog_13_method_38_code 149 = .ok (.bipush 10, 2) := by decide +kernel
theorem d_Mo_planNow_151 : decode prog_13_method_38_code 151 = .ok (.isub, 1) := by decide +kernel
theorem d_Mo_planNow_152 : decode prog_13_method_38_code 152 = .ok (.iaload, 1) := by decide +kernel
theorem d_Mo_planNow_153 : decode prog_13_method_38_code 153 = .ok (.iconst 1, 1) := by decide +kernel
theorem d_Mo_planNow_154 : decode prog_13_method_38_code 154 = .ok (.isub, 1) := by decide +kernel
theorem d_Mo_planNow_155 : decode prog_13_method_38_code 155 = .ok (.ireturn, 1) := by decide +kernel
theorem d_Mo_plan_0 : decode prog_13_method_39_code 0 = .ok (.iload_n 1, 1) := by decide +kernel
theorem d_Mo_plan_1 : decode prog_13_method_39_code 1 = .ok (.iconst 0, 1) := by decide +kernel
theorem d_Mo_plan_2 : decode prog_13_method_39_code 2 = .ok (.iconst 1, 1) := by decide +kernel
theorem d_Mo_plan_3 : decode prog_13_method_39_code 3 = .ok (.invokestatic 83, 3) := by decide +kernel
theorem d_Mo_plan_6 : decode prog_13_method_39_code 6 = .ok (.ifCond .ne 17, 3) := by decide +kernel
theorem d_Mo_plan_9 : decode prog_13_method_39_code 9 = .ok (.iload_n 1, 1) := by decide +kernel
theorem d_Mo_plan_10 : decode prog_13_method_39_code 10 = .ok (.bipush 10, 2) := by decide +kernel
theorem d_Mo_plan_12 : decode prog_13_method_39_code 12 = .ok (.bipush 16, 2) := by decide +kernel
theorem d_Mo_plan_14 : decode prog_13_method_39_code 14 = .ok (.invokestatic 83, 3) := by decide +kernel
theorem d_Mo_plan_17 : decode prog_13_method_39_code 17 = .ok (.ifCond .ne 6, 3) := by decide +kernel
theorem d_Mo_plan_20 : decode prog_13_method_39_code 20 = .ok (.bipush (-102), 2) := by decide +kernel
theorem d_Mo_plan_22 : decode prog_13_method_39_code 22 = .ok (.ireturn, 1) := by decide +kernel
theorem d_Mo_plan_23 : decode prog_13_method_39_code 23 = .ok (.aload_n 0, 1) := by decide +kernel
theorem d_Mo_plan_24 : decode prog_13_method_39_code 24 = .ok (.getfield 124, 3) := by decide +kernel
theorem d_Mo_plan_27 : decode prog_13_method_39_code 27 = .ok (.ifCond .eq 12, 3) := by decide +kernel
theorem d_Mo_plan_30 : decode prog_13_method_39_code 30 = .ok (.aload_n 0, 1) := by decide +kernel
theorem d_Mo_plan_31 : decode prog_13_method_39_code 31 = .ok (.getfield 204, 3) := by decide +kernel
theorem d_Mo_plan_34 : decode prog_13_method_39_code 34 = .ok (.bipush 20, 2) := by decide +kernel
theorem d_Mo_plan_36 : decode prog_13_method_39_code 36 = .ok (.if_icmp .ne 6, 3) := by decide +kernel
theorem d_Mo_plan_39 : decode prog_13_method_39_code 39 = .ok (.bipush (-103), 2) := by decide +kernel
theorem d_Mo_plan_41 : decode prog_13_method_39_code 41 = .ok (.ireturn, 1) := by decide +kernel
theorem d_Mo_plan_42 : decode prog_13_method_39_code 42 = .ok (.aload_n 0, 1) := by decide +kernel
theorem d_Mo_plan_43 : decode prog_13_method_39_code 43 = .ok (.dup, 1) := by decide +kernel
theorem d_Mo_plan_44 : decode prog_13_method_39_code 44 = .ok (.getfield 204, 3) := by decide +kernel
theorem d_Mo_plan_47 : decode prog_13_method_39_code 47 = .ok (.iconst 1, 1) := by decide +kernel
theorem d_Mo_plan_48 : decode prog_13_method_39_code 48 = .ok (.iadd, 1) := by decide +kernel
theorem d_Mo_plan_49 : decode prog_13_method_39_code 49 = .ok (.putfield 204, 3) := by decide +kernel
theorem d_Mo_plan_52 : decode prog_13_method_39_code 52 = .ok (.aload_n 0, 1) := by decide +kernel
theorem d_Mo_plan_53 : decode prog_13_method_39_code 53 = .ok (.iload_n 1, 1) := by decide +kernel
theorem d_Mo_plan_54 : decode prog_13_method_39_code 54 = .ok (.invokevirtual 207, 3) := by decide +kernel
theorem d_Mo_plan_57 : decode prog_13_method_39_code 57 = .ok (.ireturn, 1) := by decide +kernel
theorem d_Mo_plead_0 : decode prog_13_method_34_code 0 = .ok (.aload_n 0, 1) := by decide +kernel
theorem d_Mo_plead_1 : decode prog_13_method_34_code 1 = .ok (.iload_n 1, 1) := by decide +kernel
theorem d_Mo_plead_2 : decode prog_13_method_34_code 2 = .ok (.invokevirtual 178, 3) := by decide +kernel
theorem d_Mo_plead_5 : decode prog_13_method_34_code 5 = .ok (.ifCond .ne 6, 3) := by decide +kernel
theorem d_Mo_plead_8 : decode prog_13_method_34_code 8 = .ok (.bipush (-101), 2) := by decide +kernel
theorem d_Mo_plead_10 : decode prog_13_method_34_code 10 = .ok (.ireturn, 1) := by decide +kernel
theorem d_Mo_plead_11 : decode prog_13_method_34_code 11 = .ok (.iload_n 2, 1) := by decide +kernel
theorem d_Mo_plead_12 : decode prog_13_method_34_code 12 = .ok (.iconst 1, 1) := by decide +kernel
theorem d_Mo_plead_13 : decode prog_13_method_34_code 13 = .ok (.bipush 9, 2) := by decide +kernel
theorem d_Mo_plead_15 : decode prog_13_method_34_code 15 = .ok (.invokestatic 83, 3) := by decide +kernel
theorem d_Mo_plead_18 : decode prog_13_method_34_code 18 = .ok (.ifCond .eq 13, 3) := by decide +kernel
theorem d_Mo_plead_21 : decode prog_13_method_34_code 21 = .ok (.iload_n 3, 1) := by decide +kernel
theorem d_Mo_plead_22 : decode prog_13_method_34_code 22 = .ok (.iconst 1, 1) := by decide +kernel
theorem d_Mo_plead_23 : decode prog_13_method_34_code 23 = .ok (.bipush 9, 2) := by decide +kernel
theorem d_Mo_plead_25 : decode prog_13_method_34_code 25 = .ok (.invokestatic 83, 3) := by decide +kernel
theorem d_Mo_plead_28 : decode prog_13_method_34_code 28 = .ok (.ifCond .ne 6, 3) := by decide +kernel
theorem d_Mo_plead_31 : decode prog_13_method_34_code 31 = .ok (.bipush (-102), 2) := by decide +kernel
theorem d_Mo_plead_33 : decode prog_13_method_34_code 33 = .ok (.ireturn, 1) := by decide +kernel
theorem d_Mo_plead_34 : decode prog_13_method_34_code 34 = .ok (.aload_n 0, 1) := by decide +kernel
theorem d_Mo_plead_35 : decode prog_13_method_34_code 35 = .ok (.getfield 22, 3) := by decide +kernel
theorem d_Mo_plead_38 : decode prog_13_method_34_code 38 = .ok (.iload_n 1, 1) := by decide +kernel
theorem d_Mo_plead_39 : decode prog_13_method_34_code 39 = .ok (.iaload, 1) := by decide +kernel
theorem d_Mo_plead_40 : decode prog_13_method_34_code 40 = .ok (.istore 4, 2) := by decide +kernel
theorem d_Mo_plead_42 : decode prog_13_method_34_code 42 = .ok (.aload_n 0, 1) := by decide +kernel
theorem d_Mo_plead_43 : decode prog_13_method_34_code 43 = .ok (.getfield 19, 3) := by decide +kernel
theorem d_Mo_plead_46 : decode prog_13_method_34_code 46 = .ok (.iload_n 1, 1) := by decide +kernel
theorem d_Mo_plead_47 : decode prog_13_method_34_code 47 = .ok (.iload_n 2, 1) := by decide +kernel
theorem d_Mo_plead_48 : decode prog_13_method_34_code 48 = .ok (.iastore, 1) := by decide +kernel
theorem d_Mo_plead_49 : decode prog_13_method_34_code 49 = .ok (.aload_n 0, 1) := by decide +kernel
theorem d_Mo_plead_50 : decode prog_13_method_34_code 50 = .ok (.getfield 22, 3) := by decide +kernel
theorem d_Mo_plead_53 : decode prog_13_method_34_code 53 = .ok (.iload_n 1, 1) := by decide +kernel
theorem d_Mo_plead_54 : decode prog_13_method_34_code 54 = .ok (.iload_n 3, 1) := by decide +kernel
theorem d_Mo_plead_55 : decode prog_13_method_34_code 55 = .ok (.iastore, 1) := by decide +kernel
theorem d_Mo_plead_56 : decode prog_13_method_34_code 56 = .ok (.iload 4, 2) := by decide +kernel
theorem d_Mo_plead_58 : decode prog_13_method_34_code 58 = .ok (.ireturn, 1) := by decide +kernel
theorem d_Mo_restore_0 : decode prog_13_method_56_code 0 = .ok (.aload_n 0, 1) := by decide +kernel
theorem d_Mo_restore_1 : decode prog_13_method_56_code 1 = .ok (.getfield 251, 3) := by decide +kernel
theorem d_Mo_restore_4 : decode prog_13_method_56_code 4 = .ok (.ifCond .eq 14, 3) := by decide +kernel
theorem d_Mo_restore_7 : decode prog_13_method_56_code 7 = .ok (.aload_n 0, 1) := by decide +kernel
theorem d_Mo_restore_8 : decode prog_13_method_56_code 8 = .ok (.getfield 254, 3) := by decide +kernel
theorem d_Mo_restore_11 : decode prog_13_method_56_code 11 = .ok (.aload_n 0, 1) := by decide +kernel
theorem d_Mo_restore_12 : decode prog_13_method_56_code 12 = .ok (.getfield 136, 3) := by decide +kernel
theorem d_Mo_restore_15 : decode prog_13_method_56_code 15 = .ok (.if_icmp .eq 6, 3) := by decide +kernel
theorem d_Mo_restore_18 : decode prog_13_method_56_code 18 = .ok (.bipush (-103), 2) := by decide +kernel
theorem d_Mo_restore_20 : decode prog_13_method_56_code 20 = .ok (.ireturn, 1) := by decide +kernel
theorem d_Mo_restore_21 : decode prog_13_method_56_code 21 = .ok (.aload_n 0, 1) := by decide +kernel
theorem d_Mo_restore_22 : decode prog_13_method_56_code 22 = .ok (.aload_n 0, 1) := by decide +kernel
theorem d_Mo_restore_23 : decode prog_13_method_56_code 23 = .ok (.getfield 257, 3) := by decide +kernel
theorem d_Mo_restore_26 : decode prog_13_method_56_code 26 = .ok (.putfield 127, 3) := by decide +kernel
theorem d_Mo_restore_29 : decode prog_13_method_56_code 29 = .ok (.aload_n 0, 1) := by decide +kernel
theorem d_Mo_restore_30 : decode prog_13_method_56_code 30 = .ok (.aload_n 0, 1) := by decide +kernel
theorem d_Mo_restore_31 : decode prog_13_method_56_code 31 = .ok (.getfield 260, 3) := by decide +kernel
theorem d_Mo_restore_34 : decode prog_13_method_56_code 34 = .ok (.putfield 130, 3) := by decide +kernel
theorem d_Mo_restore_37 : decode prog_13_method_56_code 37 = .ok (.aload_n 0, 1) := by decide +kernel
theorem d_Mo_restore_38 : decode prog_13_method_56_code 38 = .ok (.aload_n 0, 1) := by decide +kernel
theorem d_Mo_restore_39 : decode prog_13_method_56_code 39 = .ok (.getfield 263, 3) := by decide +kernel
theorem d_Mo_restore_42 : decode prog_13_method_56_code 42 = .ok (.putfield 133, 3) := by decide +kernel
theorem d_Mo_restore_45 : decode prog_13_method_56_code 45 = .ok (.aload_n 0, 1) := by decide +kernel
theorem d_Mo_restore_46 : decode prog_13_method_56_code 46 = .ok (.aload_n 0, 1) := by decide +kernel
theorem d_Mo_restore_47 : decode prog_13_method_56_code 47 = .ok (.getfield 266, 3) := by decide +kernel
theorem d_Mo_restore_50 : decode prog_13_method_56_code 50 = .ok (.putfield 139, 3) := by decide +kernel
theorem d_Mo_restore_53 : decode prog_13_method_56_code 53 = .ok (.iconst 0, 1) := by decide +kernel
theorem d_Mo_restore_54 : decode prog_13_method_56_code 54 = .ok (.istore_n 1, 1) := by decide +kernel
theorem d_Mo_restore_55 : decode prog_13_method_56_code 55 = .ok (.iload_n 1, 1) := by decide +kernel
theorem d_Mo_restore_56 : decode prog_13_method_56_code 56 = .ok (.iconst 3, 1) := by decide +kernel
theorem d_Mo_restore_57 : decode prog_13_method_56_code 57 = .ok (.if_icmp .ge 33, 3) := by decide +kernel
theorem d_Mo_restore_60 : decode prog_13_method_56_code 60 = .ok (.aload_n 0, 1) := by decide +kernel
theorem d_Mo_restore_61 : decode prog_13_method_56_code 61 = .ok (.getfield 7, 3) := by decide +kernel
theorem d_Mo_restore_64 : decode prog_13_method_56_code 64 = .ok (.iload_n 1, 1) := by decide +kernel
theorem d_Mo_restore_65 : decode prog_13_method_56_code 65 = .ok (.aload_n 0, 1) := by decide +kernel
theorem d_Mo_restore_66 : decode prog_13_method_56_code 66 = .ok (.getfield 62, 3) := by decide +kernel
theorem d_Mo_restore_69 : decode prog_13_method_56_code 69 = .ok (.iload_n 1, 1) := by decide +kernel
theorem d_Mo_restore_70 : decode prog_13_method_56_code 70 = .ok (.iaload, 1) := by decide +kernel
theorem d_Mo_restore_71 : decode prog_13_method_56_code 71 = .ok (.iastore, 1) := by decide +kernel
theorem d_Mo_restore_72 : decode prog_13_method_56_code 72 = .ok (.aload_n 0, 1) := by decide +kernel
theorem d_Mo_restore_73 : decode prog_13_method_56_code 73 = .ok (.getfield 13, 3) := by decide +kernel
theorem d_Mo_restore_76 : decode prog_13_method_56_code 76 = .ok (.iload_n 1, 1) := by decide +kernel
theorem d_Mo_restore_77 : decode prog_13_method_56_code 77 = .ok (.aload_n 0, 1) := by decide +kernel
theorem d_Mo_restore_78 : decode prog_13_method_56_code 78 = .ok (.getfield 65, 3) := by decide +kernel
theorem d_Mo_restore_81 : decode prog_13_method_56_code 81 = .ok (.iload_n 1, 1) := by decide +kernel
theorem d_Mo_restore_82 : decode prog_13_method_56_code 82 = .ok (.iaload, 1) := by decide +kernel
theorem d_Mo_restore_83 : decode prog_13_method_56_code 83 = .ok (.iastore, 1) := by decide +kernel
theorem d_Mo_restore_84 : decode prog_13_method_56_code 84 = .ok (.iinc 1 1, 3) := by decide +kernel
theorem d_Mo_restore_87 : decode prog_13_method_56_code 87 = .ok (.goto (-32), 3) := by decide +kernel
theorem d_Mo_restore_90 : decode prog_13_method_56_code 90 = .ok (.iconst 0, 1) := by decide +kernel
theorem d_Mo_restore_91 : decode prog_13_method_56_code 91 = .ok (.istore_n 1, 1) := by decide +kernel
theorem d_Mo_restore_92 : decode prog_13_method_56_code 92 = .ok (.iload_n 1, 1) := by decide +kernel
theorem d_Mo_restore_93 : decode prog_13_method_56_code 93 = .ok (.bipush 7, 2) := by decide +kernel
theorem d_Mo_restore_95 : decode prog_13_method_56_code 95 = .ok (.if_icmp .ge 33, 3) := by decide +kernel
theorem d_Mo_restore_98 : decode prog_13_method_56_code 98 = .ok (.aload_n 0, 1) := by decide +kernel
theorem d_Mo_restore_99 : decode prog_13_method_56_code 99 = .ok (.getfield 19, 3) := by decide +kernel
theorem d_Mo_restore_102 : decode prog_13_method_56_code 102 = .ok (.iload_n 1, 1) := by decide +kernel
theorem d_Mo_restore_103 : decode prog_13_method_56_code 103 = .ok (.aload_n 0, 1) := by decide +kernel
theorem d_Mo_restore_104 : decode prog_13_method_56_code 104 = .ok (.getfield 68, 3) := by decide +kernel
theorem d_Mo_restore_107 : decode prog_13_method_56_code 107 = .ok (.iload_n 1, 1) := by decide +kernel
theorem d_Mo_restore_108 : decode prog_13_method_56_code 108 = .ok (.iaload, 1) := by decide +kernel
theorem d_Mo_restore_109 : decode prog_13_method_56_code 109 = .ok (.iastore, 1) := by decide +kernel
theorem d_Mo_restore_110 : decode prog_13_method_56_code 110 = .ok (.aload_n 0, 1) := by decide +kernel
theorem d_Mo_restore_111 : decode prog_13_method_56_code 111 = .ok (.getfield 22, 3) := by decide +kernel
theorem d_Mo_restore_114 : decode prog_13_method_56_code 114 = .ok (.iload_n 1, 1) := by decide +kernel
theorem d_Mo_restore_115 : decode prog_13_method_56_code 115 = .ok (.aload_n 0, 1) := by decide +kernel
theorem d_Mo_restore_116 : decode prog_13_method_56_code 116 = .ok (.getfield 71, 3) := by decide +kernel
theorem d_Mo_restore_119 : decode prog_13_method_56_code 119 = .ok (.iload_n 1, 1) := by decide +kernel
theorem d_Mo_restore_120 : decode prog_13_method_56_code 120 = .ok (.iaload, 1) := by decide +kernel
theorem d_Mo_restore_121 : decode prog_13_method_56_code 121 = .ok (.iastore, 1) := by decide +kernel
theorem d_Mo_restore_122 : decode prog_13_method_56_code 122 = .ok (.iinc 1 1, 3) := by decide +kernel
theorem d_Mo_restore_125 : decode prog_13_method_56_code 125 = .ok (.goto (-33), 3) := by decide +kernel
theorem d_Mo_restore_128 : decode prog_13_method_56_code 128 = .ok (.iconst 0, 1) := by decide +kernel
theorem d_Mo_restore_129 : decode prog_13_method_56_code 129 = .ok (.istore_n 1, 1) := by decide +kernel
theorem d_Mo_restore_130 : decode prog_13_method_56_code 130 = .ok (.iload_n 1, 1) := by decide +kernel
theorem d_Mo_restore_131 : decode prog_13_method_56_code 131 = .ok (.bipush 8, 2) := by decide +kernel
theorem d_Mo_restore_133 : decode prog_13_method_56_code 133 = .ok (.if_icmp .ge 45, 3) := by decide +kernel
theorem d_Mo_restore_136 : decode prog_13_method_56_code 136 = .ok (.aload_n 0, 1) := by decide +kernel
theorem d_Mo_restore_137 : decode prog_13_method_56_code 137 = .ok (.getfield 28, 3) := by decide +kernel
theorem d_Mo_restore_140 : decode prog_13_method_56_code 140 = .ok (.iload_n 1, 1) := by decide +kernel
theorem d_Mo_restore_141 : decode prog_13_method_56_code 141 = .ok (.aload_n 0, 1) := by decide +kernel
theorem d_Mo_restore_142 : decode prog_13_method_56_code 142 = .ok (.getfield 74, 3) := by decide +kernel
theorem d_Mo_restore_145 : decode prog_13_method_56_code 145 = .ok (.iload_n 1, 1) := by decide +kernel
theorem d_Mo_restore_146 : decode prog_13_method_56_code 146 = .ok (.iaload, 1) := by decide +kernel
theorem d_Mo_restore_147 : decode prog_13_method_56_code 147 = .ok (.iastore, 1) := by decide +kernel
theorem d_Mo_restore_148 : decode prog_13_method_56_code 148 = .ok (.aload_n 0, 1) := by decide +kernel
theorem d_Mo_restore_149 : decode prog_13_method_56_code 149 = .ok (.getfield 31, 3) := by decide +kernel
theorem d_Mo_restore_152 : decode prog_13_method_56_code 152 = .ok (.iload_n 1, 1) := by decide +kernel
theorem d_Mo_restore_153 : decode prog_13_method_56_code 153 = .ok (.aload_n 0, 1) := by decide +kernel
theorem d_Mo_restore_154 : decode prog_13_method_56_code 154 = .ok (.getfield 77, 3) := by decide +kernel
theorem d_Mo_restore_157 : decode prog_13_method_56_code 157 = .ok (.iload_n 1, 1) := by decide +kernel
theorem d_Mo_restore_158 : decode prog_13_method_56_code 158 = .ok (.iaload, 1) := by decide +kernel
theorem d_Mo_restore_159 : decode prog_13_method_56_code 159 = .ok (.iastore, 1) := by decide +kernel
theorem d_Mo_restore_160 : decode prog_13_method_56_code 160 = .ok (.aload_n 0, 1) := by decide +kernel
theorem d_Mo_restore_161 : decode prog_13_method_56_code 161 = .ok (.getfield 34, 3) := by decide +kernel
theorem d_Mo_restore_164 : decode prog_13_method_56_code 164 = .ok (.iload_n 1, 1) := by decide +kernel
theorem d_Mo_restore_165 : decode prog_13_method_56_code 165 = .ok (.aload_n 0, 1) := by decide +kernel
theorem d_Mo_restore_166 : decode prog_13_method_56_code 166 = .ok (.getfield 80, 3) := by decide +kernel
theorem d_Mo_restore_169 : decode prog_13_method_56_code 169 = .ok (.iload_n 1, 1) := by decide +kernel
theorem d_Mo_restore_170 : decode prog_13_method_56_code 170 = .ok (.iaload, 1) := by decide +kernel
theorem d_Mo_restore_171 : decode prog_13_method_56_code 171 = .ok (.iastore, 1) := by decide +kernel
theorem d_Mo_restore_172 : decode prog_13_method_56_code 172 = .ok (.iinc 1 1, 3) := by decide +kernel
theorem d_Mo_restore_175 : decode prog_13_method_56_code 175 = .ok (.goto (-45), 3) := by decide +kernel
theorem d_Mo_restore_178 : decode prog_13_method_56_code 178 = .ok (.aload_n 0, 1) := by decide +kernel
theorem d_Mo_restore_179 : decode prog_13_method_56_code 179 = .ok (.getfield 133, 3) := by decide +kernel
theorem d_Mo_restore_182 : decode prog_13_method_56_code 182 = .ok (.ireturn, 1) := by decide +kernel
theorem d_Mo_right_0 : decode prog_13_method_30_code 0 = .ok (.aload_n 0, 1) := by decide +kernel
theorem d_Mo_right_1 : decode prog_13_method_30_code 1 = .ok (.iload_n 1, 1) := by decide +kernel
theorem d_Mo_right_2 : decode prog_13_method_30_code 2 = .ok (.invokevirtual 178, 3) := by decide +kernel
theorem d_Mo_right_5 : decode prog_13_method_30_code 5 = .ok (.ifCond .eq 11, 3) := by decide +kernel
theorem d_Mo_right_8 : decode prog_13_method_30_code 8 = .ok (.aload_n 0, 1) := by decide +kernel
theorem d_Mo_right_9 : decode prog_13_method_30_code 9 = .ok (.iload_n 2, 1) := by decide +kernel
theorem d_Mo_right_10 : decode prog_13_method_30_code 10 = .ok (.invokevirtual 158, 3) := by decide +kernel
theorem d_Mo_right_13 : decode prog_13_method_30_code 13 = .ok (.ifCond .ne 6, 3) := by decide +kernel
theorem d_Mo_right_16 : decode prog_13_method_30_code 16 = .ok (.bipush (-101), 2) := by decide +kernel
theorem d_Mo_right_18 : decode prog_13_method_30_code 18 = .ok (.ireturn, 1) := by decide +kernel
theorem d_Mo_right_19 : decode prog_13_method_30_code 19 = .ok (.aload_n 0, 1) := by decide +kernel
theorem d_Mo_right_20 : decode prog_13_method_30_code 20 = .ok (.iload_n 1, 1) := by decide +kernel
theorem d_Mo_right_21 : decode prog_13_method_30_code 21 = .ok (.iload_n 2, 1) := by decide +kernel
theorem d_Mo_right_22 : decode prog_13_method_30_code 22 = .ok (.invokevirtual 155, 3) := by decide +kernel
theorem d_Mo_right_25 : decode prog_13_method_30_code 25 = .ok (.ifCond .ne 6, 3) := by decide +kernel
theorem d_Mo_right_28 : decode prog_13_method_30_code 28 = .ok (.bipush (-103), 2) := by decide +kernel
theorem d_Mo_right_30 : decode prog_13_method_30_code 30 = .ok (.ireturn, 1) := by decide +kernel
theorem d_Mo_right_31 : decode prog_13_method_30_code 31 = .ok (.aload_n 0, 1) := by decide +kernel
theorem d_Mo_right_32 : decode prog_13_method_30_code 32 = .ok (.getfield 130, 3) := by decide +kernel
theorem d_Mo_right_35 : decode prog_13_method_30_code 35 = .ok (.sipush 999, 3) := by decide +kernel
theorem d_Mo_right_38 : decode prog_13_method_30_code 38 = .ok (.if_icmp .ne 6, 3) := by decide +kernel
theorem d_Mo_right_41 : decode prog_13_method_30_code 41 = .ok (.bipush (-104), 2) := by decide +kernel
theorem d_Mo_right_43 : decode prog_13_method_30_code 43 = .ok (.ireturn, 1) := by decide +kernel
theorem d_Mo_right_44 : decode prog_13_method_30_code 44 = .ok (.aload_n 0, 1) := by decide +kernel
theorem d_Mo_right_45 : decode prog_13_method_30_code 45 = .ok (.iload_n 1, 1) := by decide +kernel
theorem d_Mo_right_46 : decode prog_13_method_30_code 46 = .ok (.invokevirtual 166, 3) := by decide +kernel
theorem d_Mo_right_49 : decode prog_13_method_30_code 49 = .ok (.aload_n 0, 1) := by decide +kernel
theorem d_Mo_right_50 : decode prog_13_method_30_code 50 = .ok (.getfield 127, 3) := by decide +kernel
theorem d_Mo_right_53 : decode prog_13_method_30_code 53 = .ok (.iand, 1) := by decide +kernel
theorem d_Mo_right_54 : decode prog_13_method_30_code 54 = .ok (.istore_n 3, 1) := by decide +kernel
theorem d_Mo_right_55 : decode prog_13_method_30_code 55 = .ok (.aload_n 0, 1) := by decide +kernel
theorem d_Mo_right_56 : decode prog_13_method_30_code 56 = .ok (.getfield 7, 3) := by decide +kernel
theorem d_Mo_right_59 : decode prog_13_method_30_code 59 = .ok (.iload_n 2, 1) := by decide +kernel
theorem d_Mo_right_60 : decode prog_13_method_30_code 60 = .ok (.dup2, 1) := by decide +kernel
theorem d_Mo_right_61 : decode prog_13_method_30_code 61 = .ok (.iaload, 1) := by decide +kernel
theorem d_Mo_right_62 : decode prog_13_method_30_code 62 = .ok (.aload_n 0, 1) := by decide +kernel
theorem d_Mo_right_63 : decode prog_13_method_30_code 63 = .ok (.iload_n 1, 1) := by decide +kernel
theorem d_Mo_right_64 : decode prog_13_method_30_code 64 = .ok (.invokevirtual 152, 3) := by decide +kernel
theorem d_Mo_right_67 : decode prog_13_method_30_code 67 = .ok (.isub, 1) := by decide +kernel
theorem d_Mo_right_68 : decode prog_13_method_30_code 68 = .ok (.iastore, 1) := by decide +kernel
theorem d_Mo_right_69 : decode prog_13_method_30_code 69 = .ok (.aload_n 0, 1) := by decide +kernel
theorem d_Mo_right_70 : decode prog_13_method_30_code 70 = .ok (.aload_n 0, 1) := by decide +kernel
theorem d_Mo_right_71 : decode prog_13_method_30_code 71 = .ok (.getfield 127, 3) := by decide +kernel
theorem d_Mo_right_74 : decode prog_13_method_30_code 74 = .ok (.iload_n 3, 1) := by decide +kernel
theorem d_Mo_right_75 : decode prog_13_method_30_code 75 = .ok (.iconst (-1), 1) := by decide +kernel
theorem d_Mo_right_76 : decode prog_13_method_30_code 76 = .ok (.ixor, 1) := by decide +kernel
theorem d_Mo_right_77 : decode prog_13_method_30_code 77 = .ok (.iand, 1) := by decide +kernel
theorem d_Mo_right_78 : decode prog_13_method_30_code 78 = .ok (.iconst 1, 1) := by decide +kernel
theorem d_Mo_right_79 : decode prog_13_method_30_code 79 = .ok (.iload_n 1, 1) := by decide +kernel
theorem d_Mo_right_80 : decode prog_13_method_30_code 80 = .ok (.ishl, 1) := by decide +kernel
theorem d_Mo_right_81 : decode prog_13_method_30_code 81 = .ok (.ior, 1) := by decide +kernel
theorem d_Mo_right_82 : decode prog_13_method_30_code 82 = .ok (.putfield 127, 3) := by decide +kernel
theorem d_Mo_right_85 : decode prog_13_method_30_code 85 = .ok (.aload_n 0, 1) := by decide +kernel
theorem d_Mo_right_86 : decode prog_13_method_30_code 86 = .ok (.dup, 1) := by decide +kernel
theorem d_Mo_right_87 : decode prog_13_method_30_code 87 = .ok (.getfield 130, 3) := by decide +kernel
theorem d_Mo_right_90 : decode prog_13_method_30_code 90 = .ok (.iconst 1, 1) := by decide +kernel
theorem d_Mo_right_91 : decode prog_13_method_30_code 91 = .ok (.iadd, 1) := by decide +kernel
theorem d_Mo_right_92 : decode prog_13_method_30_code 92 = .ok (.putfield 130, 3) := by decide +kernel
theorem d_Mo_right_95 : decode prog_13_method_30_code 95 = .ok (.iload_n 3, 1) := by decide +kernel
theorem d_Mo_right_96 : decode prog_13_method_30_code 96 = .ok (.invokestatic 169, 3) := by decide +kernel
theorem d_Mo_right_99 : decode prog_13_method_30_code 99 = .ok (.ireturn, 1) := by decide +kernel
theorem d_Mo_see_0 : decode prog_13_method_47_code 0 = .ok (.aload_n 0, 1) := by decide +kernel
theorem d_Mo_see_1 : decode prog_13_method_47_code 1 = .ok (.iload_n 1, 1) := by decide +kernel
theorem d_Mo_see_2 : decode prog_13_method_47_code 2 = .ok (.invokevirtual 178, 3) := by decide +kernel
theorem d_Mo_see_5 : decode prog_13_method_47_code 5 = .ok (.ifCond .ne 6, 3) := by decide +kernel
theorem d_Mo_see_8 : decode prog_13_method_47_code 8 = .ok (.bipush (-101), 2) := by decide +kernel
theorem d_Mo_see_10 : decode prog_13_method_47_code 10 = .ok (.ireturn, 1) := by decide +kernel
theorem d_Mo_see_11 : decode prog_13_method_47_code 11 = .ok (.iload_n 2, 1) := by decide +kernel
theorem d_Mo_see_12 : decode prog_13_method_47_code 12 = .ok (.iconst 1, 1) := by decide +kernel
theorem d_Mo_see_13 : decode prog_13_method_47_code 13 = .ok (.bipush 18, 2) := by decide +kernel
theorem d_Mo_see_15 : decode prog_13_method_47_code 15 = .ok (.invokestatic 83, 3) := by decide +kernel
theorem d_Mo_see_18 : decode prog_13_method_47_code 18 = .ok (.ifCond .ne 6, 3) := by decide +kernel
theorem d_Mo_see_21 : decode prog_13_method_47_code 21 = .ok (.bipush (-102), 2) := by decide +kernel
theorem d_Mo_see_23 : decode prog_13_method_47_code 23 = .ok (.ireturn, 1) := by decide +kernel
theorem d_Mo_see_24 : decode prog_13_method_47_code 24 = .ok (.aload_n 0, 1) := by decide +kernel
theorem d_Mo_see_25 : decode prog_13_method_47_code 25 = .ok (.getfield 139, 3) := by decide +kernel
theorem d_Mo_see_28 : decode prog_13_method_47_code 28 = .ok (.bipush 8, 2) := by decide +kernel
theorem d_Mo_see_30 : decode prog_13_method_47_code 30 = .ok (.if_icmp .ne 6, 3) := by decide +kernel
theorem d_Mo_see_33 : decode prog_13_method_47_code 33 = .ok (.bipush (-104), 2) := by decide +kernel
theorem d_Mo_see_35 : decode prog_13_method_47_code 35 = .ok (.ireturn, 1) := by decide +kernel
theorem d_Mo_see_36 : decode prog_13_method_47_code 36 = .ok (.aload_n 0, 1) := by decide +kernel
theorem d_Mo_see_37 : decode prog_13_method_47_code 37 = .ok (.getfield 28, 3) := by decide +kernel
theorem d_Mo_see_40 : decode prog_13_method_47_code 40 = .ok (.aload_n 0, 1) := by decide +kernel
theorem d_Mo_see_41 : decode prog_13_method_47_code 41 = .ok (.getfield 139, 3) := by decide +kernel
theorem d_Mo_see_44 : decode prog_13_method_47_code 44 = .ok (.iload_n 1, 1) := by decide +kernel
theorem d_Mo_see_45 : decode prog_13_method_47_code 45 = .ok (.iastore, 1) := by decide +kernel
theorem d_Mo_see_46 : decode prog_13_method_47_code 46 = .ok (.aload_n 0, 1) := by decide +kernel
theorem d_Mo_see_47 : decode prog_13_method_47_code 47 = .ok (.getfield 31, 3) := by decide +kernel
theorem d_Mo_see_50 : decode prog_13_method_47_code 50 = .ok (.aload_n 0, 1) := by decide +kernel
theorem d_Mo_see_51 : decode prog_13_method_47_code 51 = .ok (.getfield 139, 3) := by decide +kernel
theorem d_Mo_see_54 : decode prog_13_method_47_code 54 = .ok (.iload_n 2, 1) := by decide +kernel
theorem d_Mo_see_55 : decode prog_13_method_47_code 55 = .ok (.iastore, 1) := by decide +kernel
theorem d_Mo_see_56 : decode prog_13_method_47_code 56 = .ok (.aload_n 0, 1) := by decide +kernel
theorem d_Mo_see_57 : decode prog_13_method_47_code 57 = .ok (.getfield 34, 3) := by decide +kernel
theorem d_Mo_see_60 : decode prog_13_method_47_code 60 = .ok (.aload_n 0, 1) := by decide +kernel
theorem d_Mo_see_61 : decode prog_13_method_47_code 61 = .ok (.getfield 139, 3) := by decide +kernel
theorem d_Mo_see_64 : decode prog_13_method_47_code 64 = .ok (.iload_n 3, 1) := by decide +kernel
theorem d_Mo_see_65 : decode prog_13_method_47_code 65 = .ok (.ifCond .eq 7, 3) := by decide +kernel
theorem d_Mo_see_68 : decode prog_13_method_47_code 68 = .ok (.iconst 1, 1) := by decide +kernel
theorem d_Mo_see_69 : decode prog_13_method_47_code 69 = .ok (.goto 4, 3) := by decide +kernel
theorem d_Mo_see_72 : decode prog_13_method_47_code 72 = .ok (.iconst 0, 1) := by decide +kernel
theorem d_Mo_see_73 : decode prog_13_method_47_code 73 = .ok (.iastore, 1) := by decide +kernel
theorem d_Mo_see_74 : decode prog_13_method_47_code 74 = .ok (.aload_n 0, 1) := by decide +kernel
theorem d_Mo_see_75 : decode prog_13_method_47_code 75 = .ok (.dup, 1) := by decide +kernel
theorem d_Mo_see_76 : decode prog_13_method_47_code 76 = .ok (.getfield 139, 3) := by decide +kernel
theorem d_Mo_see_79 : decode prog_13_method_47_code 79 = .ok (.iconst 1, 1) := by decide +kernel
theorem d_Mo_see_80 : decode prog_13_method_47_code 80 = .ok (.iadd, 1) := by decide +kernel
theorem d_Mo_see_81 : decode prog_13_method_47_code 81 = .ok (.putfield 139, 3) := by decide +kernel
theorem d_Mo_see_84 : decode prog_13_method_47_code 84 = .ok (.aload_n 0, 1) := by decide +kernel
theorem d_Mo_see_85 : decode prog_13_method_47_code 85 = .ok (.getfield 139, 3) := by decide +kernel
theorem d_Mo_see_88 : decode prog_13_method_47_code 88 = .ok (.ireturn, 1) := by decide +kernel
theorem d_Mo_shire_0 : decode prog_13_method_16_code 0 = .ok (.aload_n 0, 1) := by decide +kernel
theorem d_Mo_shire_1 : decode prog_13_method_16_code 1 = .ok (.invokevirtual 117, 3) := by decide +kernel
theorem d_Mo_shire_4 : decode prog_13_method_16_code 4 = .ok (.pop, 1) := by decide +kernel
theorem d_Mo_shire_5 : decode prog_13_method_16_code 5 = .ok (.aload_n 0, 1) := by decide +kernel
theorem d_Mo_shire_6 : decode prog_13_method_16_code 6 = .ok (.getfield 107, 3) := by decide +kernel
theorem d_Mo_shire_9 : decode prog_13_method_16_code 9 = .ok (.ifCond .ne 6, 3) := by decide +kernel
theorem d_Mo_shire_12 : decode prog_13_method_16_code 12 = .ok (.bipush (-103), 2) := by decide +kernel
theorem d_Mo_shire_14 : decode prog_13_method_16_code 14 = .ok (.ireturn, 1) := by decide +kernel
theorem d_Mo_shire_15 : decode prog_13_method_16_code 15 = .ok (.aload_n 0, 1) := by decide +kernel
theorem d_Mo_shire_16 : decode prog_13_method_16_code 16 = .ok (.aload_n 0, 1) := by decide +kernel
theorem d_Mo_shire_17 : decode prog_13_method_16_code 17 = .ok (.getfield 111, 3) := by decide +kernel
theorem d_Mo_shire_20 : decode prog_13_method_16_code 20 = .ok (.putfield 121, 3) := by decide +kernel
theorem d_Mo_shire_23 : decode prog_13_method_16_code 23 = .ok (.aload_n 0, 1) := by decide +kernel
theorem d_Mo_shire_24 : decode prog_13_method_16_code 24 = .ok (.aload_n 0, 1) := by decide +kernel
theorem d_Mo_shire_25 : decode prog_13_method_16_code 25 = .ok (.getfield 101, 3) := by decide +kernel
theorem d_Mo_shire_28 : decode prog_13_method_16_code 28 = .ok (.putfield 124, 3) := by decide +kernel
theorem d_Mo_shire_31 : decode prog_13_method_16_code 31 = .ok (.iconst 0, 1) := by decide +kernel
theorem d_Mo_shire_32 : decode prog_13_method_16_code 32 = .ok (.istore_n 1, 1) := by decide +kernel
theorem d_Mo_shire_33 : decode prog_13_method_16_code 33 = .ok (.iload_n 1, 1) := by decide +kernel
theorem d_Mo_shire_34 : decode prog_13_method_16_code 34 = .ok (.aload_n 0, 1) := by decide +kernel
theorem d_Mo_shire_35 : decode prog_13_method_16_code 35 = .ok (.getfield 121, 3) := by decide +kernel
theorem d_Mo_shire_38 : decode prog_13_method_16_code 38 = .ok (.if_icmp .ge 45, 3) := by decide +kernel
theorem d_Mo_shire_41 : decode prog_13_method_16_code 41 = .ok (.aload_n 0, 1) := by decide +kernel
theorem d_Mo_shire_42 : decode prog_13_method_16_code 42 = .ok (.getfield 7, 3) := by decide +kernel
theorem d_Mo_shire_45 : decode prog_13_method_16_code 45 = .ok (.iload_n 1, 1) := by decide +kernel
theorem d_Mo_shire_46 : decode prog_13_method_16_code 46 = .ok (.aload_n 0, 1) := by decide +kernel
theorem d_Mo_shire_47 : decode prog_13_method_16_code 47 = .ok (.getfield 37, 3) := by decide +kernel
theorem d_Mo_shire_50 : decode prog_13_method_16_code 50 = .ok (.iconst 3, 1) := by decide +kernel
theorem d_Mo_shire_51 : decode prog_13_method_16_code 51 = .ok (.iload_n 1, 1) := by decide +kernel
theorem d_Mo_shire_52 : decode prog_13_method_16_code 52 = .ok (.imul, 1) := by decide +kernel
theorem d_Mo_shire_53 : decode prog_13_method_16_code 53 = .ok (.baload, 1) := by decide +kernel
theorem d_Mo_shire_54 : decode prog_13_method_16_code 54 = .ok (.bipush 48, 2) := by decide +kernel
theorem d_Mo_shire_56 : decode prog_13_method_16_code 56 = .ok (.isub, 1) := by decide +kernel
theorem d_Mo_shire_57 : decode prog_13_method_16_code 57 = .ok (.iastore, 1) := by decide +kernel
theorem d_Mo_shire_58 : decode prog_13_method_16_code 58 = .ok (.aload_n 0, 1) := by decide +kernel
theorem d_Mo_shire_59 : decode prog_13_method_16_code 59 = .ok (.getfield 13, 3) := by decide +kernel
theorem d_Mo_shire_62 : decode prog_13_method_16_code 62 = .ok (.iload_n 1, 1) := by decide +kernel
theorem d_Mo_shire_63 : decode prog_13_method_16_code 63 = .ok (.aload_n 0, 1) := by decide +kernel
theorem d_Mo_shire_64 : decode prog_13_method_16_code 64 = .ok (.getfield 37, 3) := by decide +kernel
theorem d_Mo_shire_67 : decode prog_13_method_16_code 67 = .ok (.iconst 3, 1) := by decide +kernel
theorem d_Mo_shire_68 : decode prog_13_method_16_code 68 = .ok (.iload_n 1, 1) := by decide +kernel
theorem d_Mo_shire_69 : decode prog_13_method_16_code 69 = .ok (.imul, 1) := by decide +kernel
theorem d_Mo_shire_70 : decode prog_13_method_16_code 70 = .ok (.iconst 1, 1) := by decide +kernel
theorem d_Mo_shire_71 : decode prog_13_method_16_code 71 = .ok (.iadd, 1) := by decide +kernel
theorem d_Mo_shire_72 : decode prog_13_method_16_code 72 = .ok (.baload, 1) := by decide +kernel
theorem d_Mo_shire_73 : decode prog_13_method_16_code 73 = .ok (.bipush 48, 2) := by decide +kernel
theorem d_Mo_shire_75 : decode prog_13_method_16_code 75 = .ok (.isub, 1) := by decide +kernel
theorem d_Mo_shire_76 : decode prog_13_method_16_code 76 = .ok (.iastore, 1) := by decide +kernel
theorem d_Mo_shire_77 : decode prog_13_method_16_code 77 = .ok (.iinc 1 1, 3) := by decide +kernel
theorem d_Mo_shire_80 : decode prog_13_method_16_code 80 = .ok (.goto (-47), 3) := by decide +kernel
theorem d_Mo_shire_83 : decode prog_13_method_16_code 83 = .ok (.iconst 0, 1) := by decide +kernel
theorem d_Mo_shire_84 : decode prog_13_method_16_code 84 = .ok (.istore_n 1, 1) := by decide +kernel
theorem d_Mo_shire_85 : decode prog_13_method_16_code 85 = .ok (.iload_n 1, 1) := by decide +kernel
theorem d_Mo_shire_86 : decode prog_13_method_16_code 86 = .ok (.aload_n 0, 1) := by decide +kernel
theorem d_Mo_shire_87 : decode prog_13_method_16_code 87 = .ok (.getfield 124, 3) := by decide +kernel
theorem d_Mo_shire_90 : decode prog_13_method_16_code 90 = .ok (.if_icmp .ge 103, 3) := by decide +kernel
theorem d_Mo_shire_93 : decode prog_13_method_16_code 93 = .ok (.iconst 3, 1) := by decide +kernel
theorem d_Mo_shire_94 : decode prog_13_method_16_code 94 = .ok (.aload_n 0, 1) := by decide +kernel
theorem d_Mo_shire_95 : decode prog_13_method_16_code 95 = .ok (.getfield 121, 3) := by decide +kernel
theorem d_Mo_shire_98 : decode prog_13_method_16_code 98 = .ok (.imul, 1) := by decide +kernel
theorem d_Mo_shire_99 : decode prog_13_method_16_code 99 = .ok (.iconst 5, 1) := by decide +kernel
theorem d_Mo_shire_100 : decode prog_13_method_16_code 100 = .ok (.iload_n 1, 1) := by decide +kernel
theorem d_Mo_shire_101 : decode prog_13_method_16_code 101 = .ok (.imul, 1) := by decide +kernel
theorem d_Mo_shire_102 : decode prog_13_method_16_code 102 = .ok (.iadd, 1) := by decide +kernel
theorem d_Mo_shire_103 : decode prog_13_method_16_code 103 = .ok (.istore_n 2, 1) := by decide +kernel
theorem d_Mo_shire_104 : decode prog_13_method_16_code 104 = .ok (.aload_n 0, 1) := by decide +kernel
theorem d_Mo_shire_105 : decode prog_13_method_16_code 105 = .ok (.getfield 16, 3) := by decide +kernel
theorem d_Mo_shire_108 : decode prog_13_method_16_code 108 = .ok (.iload_n 1, 1) := by decide +kernel
theorem d_Mo_shire_109 : decode prog_13_method_16_code 109 = .ok (.aload_n 0, 1) := by decide +kernel
theorem d_Mo_shire_110 : decode prog_13_method_16_code 110 = .ok (.getfield 37, 3) := by decide +kernel
theorem d_Mo_shire_113 : decode prog_13_method_16_code 113 = .ok (.iload_n 2, 1) := by decide +kernel
theorem d_Mo_shire_114 : decode prog_13_method_16_code 114 = .ok (.baload, 1) := by decide +kernel
theorem d_Mo_shire_115 : decode prog_13_method_16_code 115 = .ok (.invokestatic 95, 3) := by decide +kernel
theorem d_Mo_shire_118 : decode prog_13_method_16_code 118 = .ok (.iastore, 1) := by decide +kernel
theorem d_Mo_shire_119 : decode prog_13_method_16_code 119 = .ok (.aload_n 0, 1) := by decide +kernel
theorem d_Mo_shire_120 : decode prog_13_method_16_code 120 = .ok (.getfield 19, 3) := by decide +kernel
theorem d_Mo_shire_123 : decode prog_13_method_16_code 123 = .ok (.iload_n 1, 1) := by decide +kernel
theorem d_Mo_shire_124 : decode prog_13_method_16_code 124 = .ok (.aload_n 0, 1) := by decide +kernel
theorem d_Mo_shire_125 : decode prog_13_method_16_code 125 = .ok (.getfield 37, 3) := by decide +kernel
theorem d_Mo_shire_128 : decode prog_13_method_16_code 128 = .ok (.iload_n 2, 1) := by decide +kernel
theorem d_Mo_shire_129 : decode prog_13_method_16_code 129 = .ok (.iconst 1, 1) := by decide +kernel
theorem d_Mo_shire_130 : decode prog_13_method_16_code 130 = .ok (.iadd, 1) := by decide +kernel
theorem d_Mo_shire_131 : decode prog_13_method_16_code 131 = .ok (.baload, 1) := by decide +kernel
theorem d_Mo_shire_132 : decode prog_13_method_16_code 132 = .ok (.bipush 48, 2) := by decide +kernel
theorem d_Mo_shire_134 : decode prog_13_method_16_code 134 = .ok (.isub, 1) := by decide +kernel
theorem d_Mo_shire_135 : decode prog_13_method_16_code 135 = .ok (.iastore, 1) := by decide +kernel
theorem d_Mo_shire_136 : decode prog_13_method_16_code 136 = .ok (.aload_n 0, 1) := by decide +kernel
theorem d_Mo_shire_137 : decode prog_13_method_16_code 137 = .ok (.getfield 22, 3) := by decide +kernel
theorem d_Mo_shire_140 : decode prog_13_method_16_code 140 = .ok (.iload_n 1, 1) := by decide +kernel
theorem d_Mo_shire_141 : decode prog_13_method_16_code 141 = .ok (.aload_n 0, 1) := by decide +kernel
theorem d_Mo_shire_142 : decode prog_13_method_16_code 142 = .ok (.getfield 37, 3) := by decide +kernel
theorem d_Mo_shire_145 : decode prog_13_method_16_code 145 = .ok (.iload_n 2, 1) := by decide +kernel
theorem d_Mo_shire_146 : decode prog_13_method_16_code 146 = .ok (.iconst 2, 1) := by decide +kernel
theorem d_Mo_shire_147 : decode prog_13_method_16_code 147 = .ok (.iadd, 1) := by decide +kernel
theorem d_Mo_shire_148 : decode prog_13_method_16_code 148 = .ok (.baload, 1) := by decide +kernel
theorem d_Mo_shire_149 : decode prog_13_method_16_code 149 = .ok (.bipush 48, 2) := by decide +kernel
theorem d_Mo_shire_151 : decode prog_13_method_16_code 151 = .ok (.isub, 1) := by decide +kernel
theorem d_Mo_shire_152 : decode prog_13_method_16_code 152 = .ok (.iastore, 1) := by decide +kernel
theorem d_Mo_shire_153 : decode prog_13_method_16_code 153 = .ok (.aload_n 0, 1) := by decide +kernel
theorem d_Mo_shire_154 : decode prog_13_method_16_code 154 = .ok (.getfield 25, 3) := by decide +kernel
theorem d_Mo_shire_157 : decode prog_13_method_16_code 157 = .ok (.iload_n 1, 1) := by decide +kernel
theorem d_Mo_shire_158 : decode prog_13_method_16_code 158 = .ok (.aload_n 0, 1) := by decide +kernel
theorem d_Mo_shire_159 : decode prog_13_method_16_code 159 = .ok (.getfield 37, 3) := by decide +kernel
theorem d_Mo_shire_162 : decode prog_13_method_16_code 162 = .ok (.iload_n 2, 1) := by decide +kernel
theorem d_Mo_shire_163 : decode prog_13_method_16_code 163 = .ok (.iconst 3, 1) := by decide +kernel
theorem d_Mo_shire_164 : decode prog_13_method_16_code 164 = .ok (.iadd, 1) := by decide +kernel
theorem d_Mo_shire_165 : decode prog_13_method_16_code 165 = .ok (.baload, 1) := by decide +kernel
theorem d_Mo_shire_166 : decode prog_13_method_16_code 166 = .ok (.bipush 45, 2) := by decide +kernel
theorem d_Mo_shire_168 : decode prog_13_method_16_code 168 = .ok (.if_icmp .ne 7, 3) := by decide +kernel
theorem d_Mo_shire_171 : decode prog_13_method_16_code 171 = .ok (.iconst (-1), 1) := by decide +kernel
theorem d_Mo_shire_172 : decode prog_13_method_16_code 172 = .ok (.goto 14, 3) := by decide +kernel
theorem d_Mo_shire_175 : decode prog_13_method_16_code 175 = .ok (.aload_n 0, 1) := by decide +kernel
theorem d_Mo_shire_176 : decode prog_13_method_16_code 176 = .ok (.getfield 37, 3) := by decide +kernel
theorem d_Mo_shire_179 : decode prog_13_method_16_code 179 = .ok (.iload_n 2, 1) := by decide +kernel
theorem d_Mo_shire_180 : decode prog_13_method_16_code 180 = .ok (.iconst 3, 1) := by decide +kernel
theorem d_Mo_shire_181 : decode prog_13_method_16_code 181 = .ok (.iadd, 1) := by decide +kernel
theorem d_Mo_shire_182 : decode prog_13_method_16_code 182 = .ok (.baload, 1) := by decide +kernel
theorem d_Mo_shire_183 : decode prog_13_method_16_code 183 = .ok (.bipush 48, 2) := by decide +kernel
theorem d_Mo_shire_185 : decode prog_13_method_16_code 185 = .ok (.isub, 1) := by decide +kernel
theorem d_Mo_shire_186 : decode prog_13_method_16_code 186 = .ok (.iastore, 1) := by decide +kernel
theorem d_Mo_shire_187 : decode prog_13_method_16_code 187 = .ok (.iinc 1 1, 3) := by decide +kernel
theorem d_Mo_shire_190 : decode prog_13_method_16_code 190 = .ok (.goto (-105), 3) := by decide +kernel
theorem d_Mo_shire_193 : decode prog_13_method_16_code 193 = .ok (.aload_n 0, 1) := by decide +kernel
theorem d_Mo_shire_194 : decode prog_13_method_16_code 194 = .ok (.iconst 0, 1) := by decide +kernel
theorem d_Mo_shire_195 : decode prog_13_method_16_code 195 = .ok (.putfield 127, 3) := by decide +kernel
theorem d_Mo_shire_198 : decode prog_13_method_16_code 198 = .ok (.aload_n 0, 1) := by decide +kernel
theorem d_Mo_shire_199 : decode prog_13_method_16_code 199 = .ok (.iconst 0, 1) := by decide +kernel
theorem d_Mo_shire_200 : decode prog_13_method_16_code 200 = .ok (.putfield 130, 3) := by decide +kernel
theorem d_Mo_shire_203 : decode prog_13_method_16_code 203 = .ok (.aload_n 0, 1) := by decide +kernel
theorem d_Mo_shire_204 : decode prog_13_method_16_code 204 = .ok (.iconst 0, 1) := by decide +kernel
theorem d_Mo_shire_205 : decode prog_13_method_16_code 205 = .ok (.putfield 133, 3) := by decide +kernel
theorem d_Mo_shire_208 : decode prog_13_method_16_code 208 = .ok (.aload_n 0, 1) := by decide +kernel
theorem d_Mo_shire_209 : decode prog_13_method_16_code 209 = .ok (.dup, 1) := by decide +kernel
theorem d_Mo_shire_210 : decode prog_13_method_16_code 210 = .ok (.getfield 136, 3) := by decide +kernel
theorem d_Mo_shire_213 : decode prog_13_method_16_code 213 = .ok (.iconst 1, 1) := by decide +kernel
theorem d_Mo_shire_214 : decode prog_13_method_16_code 214 = .ok (.iadd, 1) := by decide +kernel
theorem d_Mo_shire_215 : decode prog_13_method_16_code 215 = .ok (.putfield 136, 3) := by decide +kernel
theorem d_Mo_shire_218 : decode prog_13_method_16_code 218 = .ok (.aload_n 0, 1) := by decide +kernel
theorem d_Mo_shire_219 : decode prog_13_method_16_code 219 = .ok (.iconst 0, 1) := by decide +kernel
theorem d_Mo_shire_220 : decode prog_13_method_16_code 220 = .ok (.putfield 139, 3) := by decide +kernel
theorem d_Mo_shire_223 : decode prog_13_method_16_code 223 = .ok (.aload_n 0, 1) := by decide +kernel
theorem d_Mo_shire_224 : decode prog_13_method_16_code 224 = .ok (.iconst 0, 1) := by decide +kernel
theorem d_Mo_shire_225 : decode prog_13_method_16_code 225 = .ok (.putfield 87, 3) := by decide +kernel
theorem d_Mo_shire_228 : decode prog_13_method_16_code 228 = .ok (.aload_n 0, 1) := by decide +kernel
theorem d_Mo_shire_229 : decode prog_13_method_16_code 229 = .ok (.getfield 124, 3) := by decide +kernel
theorem d_Mo_shire_232 : decode prog_13_method_16_code 232 = .ok (.ireturn, 1) := by decide +kernel
theorem d_Mo_suit_0 : decode prog_13_method_28_code 0 = .ok (.aload_n 0, 1) := by decide +kernel
theorem d_Mo_suit_1 : decode prog_13_method_28_code 1 = .ok (.iload_n 1, 1) := by decide +kernel
theorem d_Mo_suit_2 : decode prog_13_method_28_code 2 = .ok (.invokevirtual 178, 3) := by decide +kernel
theorem d_Mo_suit_5 : decode prog_13_method_28_code 5 = .ok (.ifCond .ne 8, 3) := by decide +kernel
theorem d_Mo_suit_8 : decode prog_13_method_28_code 8 = .ok (.bipush (-101), 2) := by decide +kernel
theorem d_Mo_suit_10 : decode prog_13_method_28_code 10 = .ok (.goto 24, 3) := by decide +kernel
theorem d_Mo_suit_13 : decode prog_13_method_28_code 13 = .ok (.iload_n 2, 1) := by decide +kernel
theorem d_Mo_suit_14 : decode prog_13_method_28_code 14 = .ok (.iconst 0, 1) := by decide +kernel
theorem d_Mo_suit_15 : decode prog_13_method_28_code 15 = .ok (.bipush 9, 2) := by decide +kernel
theorem d_Mo_suit_17 : decode prog_13_method_28_code 17 = .ok (.invokestatic 83, 3) := by decide +kernel
theorem d_Mo_suit_20 : decode prog_13_method_28_code 20 = .ok (.ifCond .eq 12, 3) := by decide +kernel
theorem d_Mo_suit_23 : decode prog_13_method_28_code 23 = .ok (.aload_n 0, 1) := by decide +kernel
theorem d_Mo_suit_24 : decode prog_13_method_28_code 24 = .ok (.iload_n 1, 1) := by decide +kernel
theorem d_Mo_suit_25 : decode prog_13_method_28_code 25 = .ok (.iload_n 2, 1) := by decide +kernel
theorem d_Mo_suit_26 : decode prog_13_method_28_code 26 = .ok (.invokevirtual 181, 3) := by decide +kernel
theorem d_Mo_suit_29 : decode prog_13_method_28_code 29 = .ok (.goto 5, 3) := by decide +kernel
theorem d_Mo_suit_32 : decode prog_13_method_28_code 32 = .ok (.bipush (-102), 2) := by decide +kernel
theorem d_Mo_suit_34 : decode prog_13_method_28_code 34 = .ok (.ireturn, 1) := by decide +kernel
theorem d_Mo_tree_0 : decode prog_13_method_26_code 0 = .ok (.aload_n 0, 1) := by decide +kernel
theorem d_Mo_tree_1 : decode prog_13_method_26_code 1 = .ok (.iload_n 1, 1) := by decide +kernel
theorem d_Mo_tree_2 : decode prog_13_method_26_code 2 = .ok (.invokevirtual 158, 3) := by decide +kernel
theorem d_Mo_tree_5 : decode prog_13_method_26_code 5 = .ok (.ifCond .ne 8, 3) := by decide +kernel
theorem d_Mo_tree_8 : decode prog_13_method_26_code 8 = .ok (.bipush (-101), 2) := by decide +kernel
theorem d_Mo_tree_10 : decode prog_13_method_26_code 10 = .ok (.goto 23, 3) := by decide +kernel
theorem d_Mo_tree_13 : decode prog_13_method_26_code 13 = .ok (.iload_n 2, 1) := by decide +kernel
theorem d_Mo_tree_14 : decode prog_13_method_26_code 14 = .ok (.iconst 0, 1) := by decide +kernel
theorem d_Mo_tree_15 : decode prog_13_method_26_code 15 = .ok (.iconst 2, 1) := by decide +kernel
theorem d_Mo_tree_16 : decode prog_13_method_26_code 16 = .ok (.invokestatic 83, 3) := by decide +kernel
theorem d_Mo_tree_19 : decode prog_13_method_26_code 19 = .ok (.ifCond .eq 12, 3) := by decide +kernel
theorem d_Mo_tree_22 : decode prog_13_method_26_code 22 = .ok (.aload_n 0, 1) := by decide +kernel
theorem d_Mo_tree_23 : decode prog_13_method_26_code 23 = .ok (.iload_n 1, 1) := by decide +kernel
theorem d_Mo_tree_24 : decode prog_13_method_26_code 24 = .ok (.iload_n 2, 1) := by decide +kernel
theorem d_Mo_tree_25 : decode prog_13_method_26_code 25 = .ok (.invokevirtual 162, 3) := by decide +kernel
theorem d_Mo_tree_28 : decode prog_13_method_26_code 28 = .ok (.goto 5, 3) := by decide +kernel
theorem d_Mo_tree_31 : decode prog_13_method_26_code 31 = .ok (.bipush (-102), 2) := by decide +kernel
theorem d_Mo_tree_33 : decode prog_13_method_26_code 33 = .ok (.ireturn, 1) := by decide +kernel
theorem d_Mo_walk_0 : decode prog_13_method_35_code 0 = .ok (.aload_n 0, 1) := by decide +kernel
theorem d_Mo_walk_1 : decode prog_13_method_35_code 1 = .ok (.iload_n 1, 1) := by decide +kernel
theorem d_Mo_walk_2 : decode prog_13_method_35_code 2 = .ok (.invokevirtual 178, 3) := by decide +kernel
theorem d_Mo_walk_5 : decode prog_13_method_35_code 5 = .ok (.ifCond .ne 6, 3) := by decide +kernel
theorem d_Mo_walk_8 : decode prog_13_method_35_code 8 = .ok (.bipush (-101), 2) := by decide +kernel
theorem d_Mo_walk_10 : decode prog_13_method_35_code 10 = .ok (.ireturn, 1) := by decide +kernel
theorem d_Mo_walk_11 : decode prog_13_method_35_code 11 = .ok (.aload_n 0, 1) := by decide +kernel
theorem d_Mo_walk_12 : decode prog_13_method_35_code 12 = .ok (.getfield 127, 3) := by decide +kernel
theorem d_Mo_walk_15 : decode prog_13_method_35_code 15 = .ok (.iload_n 1, 1) := by decide +kernel
theorem d_Mo_walk_16 : decode prog_13_method_35_code 16 = .ok (.invokestatic 142, 3) := by decide +kernel
theorem d_Mo_walk_19 : decode prog_13_method_35_code 19 = .ok (.ifCond .ne 6, 3) := by decide +kernel
theorem d_Mo_walk_22 : decode prog_13_method_35_code 22 = .ok (.bipush (-103), 2) := by decide +kernel
theorem d_Mo_walk_24 : decode prog_13_method_35_code 24 = .ok (.ireturn, 1) := by decide +kernel
theorem d_Mo_walk_25 : decode prog_13_method_35_code 25 = .ok (.aload_n 0, 1) := by decide +kernel
theorem d_Mo_walk_26 : decode prog_13_method_35_code 26 = .ok (.dup, 1) := by decide +kernel
theorem d_Mo_walk_27 : decode prog_13_method_35_code 27 = .ok (.getfield 127, 3) := by decide +kernel
theorem d_Mo_walk_30 : decode prog_13_method_35_code 30 = .ok (.iconst 1, 1) := by decide +kernel
theorem d_Mo_walk_31 : decode prog_13_method_35_code 31 = .ok (.iload_n 1, 1) := by decide +kernel
theorem d_Mo_walk_32 : decode prog_13_method_35_code 32 = .ok (.ishl, 1) := by decide +kernel
theorem d_Mo_walk_33 : decode prog_13_method_35_code 33 = .ok (.iconst (-1), 1) := by decide +kernel
theorem d_Mo_walk_34 : decode prog_13_method_35_code 34 = .ok (.ixor, 1) := by decide +kernel
theorem d_Mo_walk_35 : decode prog_13_method_35_code 35 = .ok (.iand, 1) := by decide +kernel
theorem d_Mo_walk_36 : decode prog_13_method_35_code 36 = .ok (.putfield 127, 3) := by decide +kernel
theorem d_Mo_walk_39 : decode prog_13_method_35_code 39 = .ok (.aload_n 0, 1) := by decide +kernel
theorem d_Mo_walk_40 : decode prog_13_method_35_code 40 = .ok (.aload_n 0, 1) := by decide +kernel
theorem d_Mo_walk_41 : decode prog_13_method_35_code 41 = .ok (.getfield 127, 3) := by decide +kernel
theorem d_Mo_walk_44 : decode prog_13_method_35_code 44 = .ok (.invokevirtual 187, 3) := by decide +kernel
theorem d_Mo_walk_47 : decode prog_13_method_35_code 47 = .ok (.ireturn, 1) := by decide +kernel
theorem d_Mo_year_0 : decode prog_13_method_32_code 0 = .ok (.aload_n 0, 1) := by decide +kernel
theorem d_Mo_year_1 : decode prog_13_method_32_code 1 = .ok (.getfield 124, 3) := by decide +kernel
theorem d_Mo_year_4 : decode prog_13_method_32_code 4 = .ok (.ifCond .ne 6, 3) := by decide +kernel
theorem d_Mo_year_7 : decode prog_13_method_32_code 7 = .ok (.bipush (-103), 2) := by decide +kernel
theorem d_Mo_year_9 : decode prog_13_method_32_code 9 = .ok (.ireturn, 1) := by decide +kernel
theorem d_Mo_year_10 : decode prog_13_method_32_code 10 = .ok (.aload_n 0, 1) := by decide +kernel
theorem d_Mo_year_11 : decode prog_13_method_32_code 11 = .ok (.getfield 133, 3) := by decide +kernel
theorem d_Mo_year_14 : decode prog_13_method_32_code 14 = .ok (.sipush 999, 3) := by decide +kernel
theorem d_Mo_year_17 : decode prog_13_method_32_code 17 = .ok (.if_icmp .ne 6, 3) := by decide +kernel
theorem d_Mo_year_20 : decode prog_13_method_32_code 20 = .ok (.bipush (-104), 2) := by decide +kernel
theorem d_Mo_year_22 : decode prog_13_method_32_code 22 = .ok (.ireturn, 1) := by decide +kernel
theorem d_Mo_year_23 : decode prog_13_method_32_code 23 = .ok (.aload_n 0, 1) := by decide +kernel
theorem d_Mo_year_24 : decode prog_13_method_32_code 24 = .ok (.invokevirtual 184, 3) := by decide +kernel
theorem d_Mo_year_27 : decode prog_13_method_32_code 27 = .ok (.aload_n 0, 1) := by decide +kernel
theorem d_Mo_year_28 : decode prog_13_method_32_code 28 = .ok (.dup, 1) := by decide +kernel
theorem d_Mo_year_29 : decode prog_13_method_32_code 29 = .ok (.getfield 133, 3) := by decide +kernel
theorem d_Mo_year_32 : decode prog_13_method_32_code 32 = .ok (.iconst 1, 1) := by decide +kernel
theorem d_Mo_year_33 : decode prog_13_method_32_code 33 = .ok (.iadd, 1) := by decide +kernel
theorem d_Mo_year_34 : decode prog_13_method_32_code 34 = .ok (.putfield 133, 3) := by decide +kernel
theorem d_Mo_year_37 : decode prog_13_method_32_code 37 = .ok (.aload_n 0, 1) := by decide +kernel
theorem d_Mo_year_38 : decode prog_13_method_32_code 38 = .ok (.getfield 133, 3) := by decide +kernel
theorem d_Mo_year_41 : decode prog_13_method_32_code 41 = .ok (.ireturn, 1) := by decide +kernel
