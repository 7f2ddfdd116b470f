theorem d_La_costs_0 : decode method_7_code 0 = .ok (.iconst 0, 1) := by decide +kernel
theorem d_La_costs_1 : decode method_7_code 1 = .ok (.istore_n 3, 1) := by decide +kernel
theorem d_La_costs_2 : decode method_7_code 2 = .ok (.iconst 0, 1) := by decide +kernel
theorem d_La_costs_3 : decode method_7_code 3 = .ok (.istore 4, 2) := by decide +kernel
theorem d_La_costs_5 : decode method_7_code 5 = .ok (.iload 4, 2) := by decide +kernel
theorem d_La_costs_7 : decode method_7_code 7 = .ok (.aload_n 0, 1) := by decide +kernel
theorem d_La_costs_8 : decode method_7_code 8 = .ok (.iconst 1, 1) := by decide +kernel
theorem d_La_costs_9 : decode method_7_code 9 = .ok (.iaload, 1) := by decide +kernel
theorem d_La_costs_10 : decode method_7_code 10 = .ok (.if_icmp .ge 30, 3) := by decide +kernel
theorem d_La_costs_13 : decode method_7_code 13 = .ok (.iload_n 3, 1) := by decide +kernel
theorem d_La_costs_14 : decode method_7_code 14 = .ok (.aload_n 0, 1) := by decide +kernel
theorem d_La_costs_15 : decode method_7_code 15 = .ok (.bipush 13, 2) := by decide +kernel
theorem d_La_costs_17 : decode method_7_code 17 = .ok (.iconst 5, 1) := by decide +kernel
theorem d_La_costs_18 : decode method_7_code 18 = .ok (.iload 4, 2) := by decide +kernel
theorem d_La_costs_20 : decode method_7_code 20 = .ok (.imul, 1) := by decide +kernel
theorem d_La_costs_21 : decode method_7_code 21 = .ok (.iadd, 1) := by decide +kernel
theorem d_La_costs_22 : decode method_7_code 22 = .ok (.iaload, 1) := by decide +kernel
theorem d_La_costs_23 : decode method_7_code 23 = .ok (.iload_n 1, 1) := by decide +kernel
theorem d_La_costs_24 : decode method_7_code 24 = .ok (.if_icmp .ne 7, 3) := by decide +kernel
theorem d_La_costs_27 : decode method_7_code 27 = .ok (.iconst 1, 1) := by decide +kernel
theorem d_La_costs_28 : decode method_7_code 28 = .ok (.goto 4, 3) := by decide +kernel
theorem d_La_costs_31 : decode method_7_code 31 = .ok (.iconst 0, 1) := by decide +kernel
theorem d_La_costs_32 : decode method_7_code 32 = .ok (.iadd, 1) := by decide +kernel
theorem d_La_costs_33 : decode method_7_code 33 = .ok (.istore_n 3, 1) := by decide +kernel
theorem d_La_costs_34 : decode method_7_code 34 = .ok (.iinc 4 1, 3) := by decide +kernel
theorem d_La_costs_37 : decode method_7_code 37 = .ok (.goto (-32), 3) := by decide +kernel
theorem d_La_costs_40 : decode method_7_code 40 = .ok (.aload_n 0, 1) := by decide +kernel
theorem d_La_costs_41 : decode method_7_code 41 = .ok (.bipush 10, 2) := by decide +kernel
theorem d_La_costs_43 : decode method_7_code 43 = .ok (.iconst 5, 1) := by decide +kernel
theorem d_La_costs_44 : decode method_7_code 44 = .ok (.iload_n 1, 1) := by decide +kernel
theorem d_La_costs_45 : decode method_7_code 45 = .ok (.imul, 1) := by decide +kernel
theorem d_La_costs_46 : decode method_7_code 46 = .ok (.iadd, 1) := by decide +kernel
theorem d_La_costs_47 : decode method_7_code 47 = .ok (.iaload, 1) := by decide +kernel
theorem d_La_costs_48 : decode method_7_code 48 = .ok (.istore 4, 2) := by decide +kernel
theorem d_La_costs_50 : decode method_7_code 50 = .ok (.iload_n 2, 1) := by decide +kernel
theorem d_La_costs_51 : decode method_7_code 51 = .ok (.iload_n 3, 1) := by decide +kernel
theorem d_La_costs_52 : decode method_7_code 52 = .ok (.isub, 1) := by decide +kernel
theorem d_La_costs_53 : decode method_7_code 53 = .ok (.iconst 1, 1) := by decide +kernel
theorem d_La_costs_54 : decode method_7_code 54 = .ok (.if_icmp .ge 7, 3) := by decide +kernel
theorem d_La_costs_57 : decode method_7_code 57 = .ok (.iconst 1, 1) := by decide +kernel
theorem d_La_costs_58 : decode method_7_code 58 = .ok (.goto 6, 3) := by decide +kernel
theorem d_La_costs_61 : decode method_7_code 61 = .ok (.iload_n 2, 1) := by decide +kernel
theorem d_La_costs_62 : decode method_7_code 62 = .ok (.iload_n 3, 1) := by decide +kernel
theorem d_La_costs_63 : decode method_7_code 63 = .ok (.isub, 1) := by decide +kernel
theorem d_La_costs_64 : decode method_7_code 64 = .ok (.istore 5, 2) := by decide +kernel
theorem d_La_costs_66 : decode method_7_code 66 = .ok (.iload 4, 2) := by decide +kernel
theorem d_La_costs_68 : decode method_7_code 68 = .ok (.iconst 1, 1) := by decide +kernel
theorem d_La_costs_69 : decode method_7_code 69 = .ok (.if_icmp .ne 8, 3) := by decide +kernel
theorem d_La_costs_72 : decode method_7_code 72 = .ok (.iload 5, 2) := by decide +kernel
theorem d_La_costs_74 : decode method_7_code 74 = .ok (.goto 34, 3) := by decide +kernel
theorem d_La_costs_77 : decode method_7_code 77 = .ok (.iload 4, 2) := by decide +kernel
theorem d_La_costs_79 : decode method_7_code 79 = .ok (.iconst 2, 1) := by decide +kernel
theorem d_La_costs_80 : decode method_7_code 80 = .ok (.if_icmp .ne 9, 3) := by decide +kernel
theorem d_La_costs_83 : decode method_7_code 83 = .ok (.iload_n 2, 1) := by decide +kernel
theorem d_La_costs_84 : decode method_7_code 84 = .ok (.iload_n 2, 1) := by decide +kernel
theorem d_La_costs_85 : decode method_7_code 85 = .ok (.iadd, 1) := by decide +kernel
theorem d_La_costs_86 : decode method_7_code 86 = .ok (.goto 22, 3) := by decide +kernel
theorem d_La_costs_89 : decode method_7_code 89 = .ok (.iload 4, 2) := by decide +kernel
theorem d_La_costs_91 : decode method_7_code 91 = .ok (.iconst 4, 1) := by decide +kernel
theorem d_La_costs_92 : decode method_7_code 92 = .ok (.if_icmp .ne 15, 3) := by decide +kernel
theorem d_La_costs_95 : decode method_7_code 95 = .ok (.iload 5, 2) := by decide +kernel
theorem d_La_costs_97 : decode method_7_code 97 = .ok (.iconst 2, 1) := by decide +kernel
theorem d_La_costs_98 : decode method_7_code 98 = .ok (.idiv, 1) := by decide +kernel
theorem d_La_costs_99 : decode method_7_code 99 = .ok (.iload 5, 2) := by decide +kernel
theorem d_La_costs_101 : decode method_7_code 101 = .ok (.iconst 2, 1) := by decide +kernel
theorem d_La_costs_102 : decode method_7_code 102 = .ok (.irem, 1) := by decide +kernel
theorem d_La_costs_103 : decode method_7_code 103 = .ok (.iadd, 1) := by decide +kernel
theorem d_La_costs_104 : decode method_7_code 104 = .ok (.goto 4, 3) := by decide +kernel
theorem d_La_costs_107 : decode method_7_code 107 = .ok (.iload_n 2, 1) := by decide +kernel
theorem d_La_costs_108 : decode method_7_code 108 = .ok (.ireturn, 1) := by decide +kernel
theorem d_La_righted_0 : decode method_8_code 0 = .ok (.iconst 0, 1) := by decide +kernel
theorem d_La_righted_1 : decode method_8_code 1 = .ok (.istore_n 1, 1) := by decide +kernel
theorem d_La_righted_2 : decode method_8_code 2 = .ok (.iconst 0, 1) := by decide +kernel
theorem d_La_righted_3 : decode method_8_code 3 = .ok (.istore_n 2, 1) := by decide +kernel
theorem d_La_righted_4 : decode method_8_code 4 = .ok (.iload_n 2, 1) := by decide +kernel
theorem d_La_righted_5 : decode method_8_code 5 = .ok (.aload_n 0, 1) := by decide +kernel
theorem d_La_righted_6 : decode method_8_code 6 = .ok (.iconst 1, 1) := by decide +kernel
theorem d_La_righted_7 : decode method_8_code 7 = .ok (.iaload, 1) := by decide +kernel
theorem d_La_righted_8 : decode method_8_code 8 = .ok (.if_icmp .ge 22, 3) := by decide +kernel
theorem d_La_righted_11 : decode method_8_code 11 = .ok (.iload_n 1, 1) := by decide +kernel
theorem d_La_righted_12 : decode method_8_code 12 = .ok (.aload_n 0, 1) := by decide +kernel
theorem d_La_righted_13 : decode method_8_code 13 = .ok (.bipush 14, 2) := by decide +kernel
theorem d_La_righted_15 : decode method_8_code 15 = .ok (.iconst 5, 1) := by decide +kernel
theorem d_La_righted_16 : decode method_8_code 16 = .ok (.iload_n 2, 1) := by decide +kernel
theorem d_La_righted_17 : decode method_8_code 17 = .ok (.imul, 1) := by decide +kernel
theorem d_La_righted_18 : decode method_8_code 18 = .ok (.iadd, 1) := by decide +kernel
theorem d_La_righted_19 : decode method_8_code 19 = .ok (.iaload, 1) := by decide +kernel
theorem d_La_righted_20 : decode method_8_code 20 = .ok (.iload_n 2, 1) := by decide +kernel
theorem d_La_righted_21 : decode method_8_code 21 = .ok (.ishl, 1) := by decide +kernel
theorem d_La_righted_22 : decode method_8_code 22 = .ok (.ior, 1) := by decide +kernel
theorem d_La_righted_23 : decode method_8_code 23 = .ok (.istore_n 1, 1) := by decide +kernel
theorem d_La_righted_24 : decode method_8_code 24 = .ok (.iinc 2 1, 3) := by decide +kernel
theorem d_La_righted_27 : decode method_8_code 27 = .ok (.goto (-23), 3) := by decide +kernel
theorem d_La_righted_30 : decode method_8_code 30 = .ok (.iload_n 1, 1) := by decide +kernel
theorem d_La_righted_31 : decode method_8_code 31 = .ok (.ireturn, 1) := by decide +kernel
theorem d_La_stands_0 : decode method_10_code 0 = .ok (.aload_n 0, 1) := by decide +kernel
theorem d_La_stands_1 : decode method_10_code 1 = .ok (.bipush 13, 2) := by decide +kernel
theorem d_La_stands_3 : decode method_10_code 3 = .ok (.iconst 5, 1) := by decide +kernel
theorem d_La_stands_4 : decode method_10_code 4 = .ok (.iload_n 1, 1) := by decide +kernel
theorem d_La_stands_5 : decode method_10_code 5 = .ok (.imul, 1) := by decide +kernel
theorem d_La_stands_6 : decode method_10_code 6 = .ok (.iadd, 1) := by decide +kernel
theorem d_La_stands_7 : decode method_10_code 7 = .ok (.iaload, 1) := by decide +kernel
theorem d_La_stands_8 : decode method_10_code 8 = .ok (.istore_n 3, 1) := by decide +kernel
theorem d_La_stands_9 : decode method_10_code 9 = .ok (.aload_n 0, 1) := by decide +kernel
theorem d_La_stands_10 : decode method_10_code 10 = .ok (.bipush 10, 2) := by decide +kernel
theorem d_La_stands_12 : decode method_10_code 12 = .ok (.iconst 5, 1) := by decide +kernel
theorem d_La_stands_13 : decode method_10_code 13 = .ok (.iload_n 1, 1) := by decide +kernel
theorem d_La_stands_14 : decode method_10_code 14 = .ok (.imul, 1) := by decide +kernel
theorem d_La_stands_15 : decode method_10_code 15 = .ok (.iadd, 1) := by decide +kernel
theorem d_La_stands_16 : decode method_10_code 16 = .ok (.iaload, 1) := by decide +kernel
theorem d_La_stands_17 : decode method_10_code 17 = .ok (.iconst 3, 1) := by decide +kernel
theorem d_La_stands_18 : decode method_10_code 18 = .ok (.if_icmp .ne 16, 3) := by decide +kernel
theorem d_La_stands_21 : decode method_10_code 21 = .ok (.iload_n 3, 1) := by decide +kernel
theorem d_La_stands_22 : decode method_10_code 22 = .ok (.ifCond .lt 12, 3) := by decide +kernel
theorem d_La_stands_25 : decode method_10_code 25 = .ok (.iload_n 2, 1) := by decide +kernel
theorem d_La_stands_26 : decode method_10_code 26 = .ok (.iload_n 3, 1) := by decide +kernel
theorem d_La_stands_27 : decode method_10_code 27 = .ok (.ishr, 1) := by decide +kernel
theorem d_La_stands_28 : decode method_10_code 28 = .ok (.iconst 1, 1) := by decide +kernel
theorem d_La_stands_29 : decode method_10_code 29 = .ok (.iand, 1) := by decide +kernel
theorem d_La_stands_30 : decode method_10_code 30 = .ok (.iconst 1, 1) := by decide +kernel
theorem d_La_stands_31 : decode method_10_code 31 = .ok (.if_icmp .ne 7, 3) := by decide +kernel
theorem d_La_stands_34 : decode method_10_code 34 = .ok (.iconst 1, 1) := by decide +kernel
theorem d_La_stands_35 : decode method_10_code 35 = .ok (.goto 4, 3) := by decide +kernel
theorem d_La_stands_38 : decode method_10_code 38 = .ok (.iconst 0, 1) := by decide +kernel
theorem d_La_stands_39 : decode method_10_code 39 = .ok (.ireturn, 1) := by decide +kernel
theorem d_La_may_0 : decode method_11_code 0 = .ok (.aload_n 0, 1) := by decide +kernel
theorem d_La_may_1 : decode method_11_code 1 = .ok (.bipush 14, 2) := by decide +kernel
theorem d_La_may_3 : decode method_11_code 3 = .ok (.iconst 5, 1) := by decide +kernel
theorem d_La_may_4 : decode method_11_code 4 = .ok (.iload_n 1, 1) := by decide +kernel
theorem d_La_may_5 : decode method_11_code 5 = .ok (.imul, 1) := by decide +kernel
theorem d_La_may_6 : decode method_11_code 6 = .ok (.iadd, 1) := by decide +kernel
theorem d_La_may_7 : decode method_11_code 7 = .ok (.iaload, 1) := by decide +kernel
theorem d_La_may_8 : decode method_11_code 8 = .ok (.ifCond .ne 40, 3) := by decide +kernel
theorem d_La_may_11 : decode method_11_code 11 = .ok (.aload_n 0, 1) := by decide +kernel
theorem d_La_may_12 : decode method_11_code 12 = .ok (.iload_n 1, 1) := by decide +kernel
theorem d_La_may_13 : decode method_11_code 13 = .ok (.aload_n 0, 1) := by decide +kernel
theorem d_La_may_14 : decode method_11_code 14 = .ok (.bipush 11, 2) := by decide +kernel
theorem d_La_may_16 : decode method_11_code 16 = .ok (.iconst 5, 1) := by decide +kernel
theorem d_La_may_17 : decode method_11_code 17 = .ok (.iload_n 1, 1) := by decide +kernel
theorem d_La_may_18 : decode method_11_code 18 = .ok (.imul, 1) := by decide +kernel
theorem d_La_may_19 : decode method_11_code 19 = .ok (.iadd, 1) := by decide +kernel
theorem d_La_may_20 : decode method_11_code 20 = .ok (.iaload, 1) := by decide +kernel
theorem d_La_may_21 : decode method_11_code 21 = .ok (.invokestatic 31, 3) := by decide +kernel
theorem d_La_may_24 : decode method_11_code 24 = .ok (.aload_n 0, 1) := by decide +kernel
theorem d_La_may_25 : decode method_11_code 25 = .ok (.iconst 4, 1) := by decide +kernel
theorem d_La_may_26 : decode method_11_code 26 = .ok (.iload_n 2, 1) := by decide +kernel
theorem d_La_may_27 : decode method_11_code 27 = .ok (.iadd, 1) := by decide +kernel
theorem d_La_may_28 : decode method_11_code 28 = .ok (.iaload, 1) := by decide +kernel
theorem d_La_may_29 : decode method_11_code 29 = .ok (.if_icmp .gt 19, 3) := by decide +kernel
theorem d_La_may_32 : decode method_11_code 32 = .ok (.aload_n 0, 1) := by decide +kernel
theorem d_La_may_33 : decode method_11_code 33 = .ok (.iload_n 1, 1) := by decide +kernel
theorem d_La_may_34 : decode method_11_code 34 = .ok (.aload_n 0, 1) := by decide +kernel
theorem d_La_may_35 : decode method_11_code 35 = .ok (.invokestatic 35, 3) := by decide +kernel
theorem d_La_may_38 : decode method_11_code 38 = .ok (.invokestatic 39, 3) := by decide +kernel
theorem d_La_may_41 : decode method_11_code 41 = .ok (.ifCond .eq 7, 3) := by decide +kernel
theorem d_La_may_44 : decode method_11_code 44 = .ok (.iconst 1, 1) := by decide +kernel
theorem d_La_may_45 : decode method_11_code 45 = .ok (.goto 4, 3) := by decide +kernel
theorem d_La_may_48 : decode method_11_code 48 = .ok (.iconst 0, 1) := by decide +kernel
theorem d_La_may_49 : decode method_11_code 49 = .ok (.ireturn, 1) := by decide +kernel
theorem d_La_hangs_0 : decode method_5_code 0 = .ok (.aload_n 0, 1) := by decide +kernel
theorem d_La_hangs_1 : decode method_5_code 1 = .ok (.bipush 13, 2) := by decide +kernel
theorem d_La_hangs_3 : decode method_5_code 3 = .ok (.iconst 5, 1) := by decide +kernel
theorem d_La_hangs_4 : decode method_5_code 4 = .ok (.iload_n 1, 1) := by decide +kernel
theorem d_La_hangs_5 : decode method_5_code 5 = .ok (.imul, 1) := by decide +kernel
theorem d_La_hangs_6 : decode method_5_code 6 = .ok (.iadd, 1) := by decide +kernel
theorem d_La_hangs_7 : decode method_5_code 7 = .ok (.iaload, 1) := by decide +kernel
theorem d_La_hangs_8 : decode method_5_code 8 = .ok (.istore_n 3, 1) := by decide +kernel
theorem d_La_hangs_9 : decode method_5_code 9 = .ok (.iload_n 3, 1) := by decide +kernel
theorem d_La_hangs_10 : decode method_5_code 10 = .ok (.iload_n 2, 1) := by decide +kernel
theorem d_La_hangs_11 : decode method_5_code 11 = .ok (.if_icmp .le 15, 3) := by decide +kernel
theorem d_La_hangs_14 : decode method_5_code 14 = .ok (.aload_n 0, 1) := by decide +kernel
theorem d_La_hangs_15 : decode method_5_code 15 = .ok (.bipush 13, 2) := by decide +kernel
theorem d_La_hangs_17 : decode method_5_code 17 = .ok (.iconst 5, 1) := by decide +kernel
theorem d_La_hangs_18 : decode method_5_code 18 = .ok (.iload_n 3, 1) := by decide +kernel
theorem d_La_hangs_19 : decode method_5_code 19 = .ok (.imul, 1) := by decide +kernel
theorem d_La_hangs_20 : decode method_5_code 20 = .ok (.iadd, 1) := by decide +kernel
theorem d_La_hangs_21 : decode method_5_code 21 = .ok (.iaload, 1) := by decide +kernel
theorem d_La_hangs_22 : decode method_5_code 22 = .ok (.istore_n 3, 1) := by decide +kernel
theorem d_La_hangs_23 : decode method_5_code 23 = .ok (.goto (-14), 3) := by decide +kernel
theorem d_La_hangs_26 : decode method_5_code 26 = .ok (.iload_n 3, 1) := by decide +kernel
theorem d_La_hangs_27 : decode method_5_code 27 = .ok (.iload_n 2, 1) := by decide +kernel
theorem d_La_hangs_28 : decode method_5_code 28 = .ok (.if_icmp .ne 7, 3) := by decide +kernel
theorem d_La_hangs_31 : decode method_5_code 31 = .ok (.iconst 1, 1) := by decide +kernel
theorem d_La_hangs_32 : decode method_5_code 32 = .ok (.goto 4, 3) := by decide +kernel
theorem d_La_hangs_35 : decode method_5_code 35 = .ok (.iconst 0, 1) := by decide +kernel
theorem d_La_hangs_36 : decode method_5_code 36 = .ok (.ireturn, 1) := by decide +kernel
theorem d_La_under_0 : decode method_6_code 0 = .ok (.iconst 0, 1) := by decide +kernel
theorem d_La_under_1 : decode method_6_code 1 = .ok (.istore_n 2, 1) := by decide +kernel
theorem d_La_under_2 : decode method_6_code 2 = .ok (.iload_n 1, 1) := by decide +kernel
theorem d_La_under_3 : decode method_6_code 3 = .ok (.iconst 1, 1) := by decide +kernel
theorem d_La_under_4 : decode method_6_code 4 = .ok (.iadd, 1) := by decide +kernel
theorem d_La_under_5 : decode method_6_code 5 = .ok (.istore_n 3, 1) := by decide +kernel
theorem d_La_under_6 : decode method_6_code 6 = .ok (.iload_n 3, 1) := by decide +kernel
theorem d_La_under_7 : decode method_6_code 7 = .ok (.aload_n 0, 1) := by decide +kernel
theorem d_La_under_8 : decode method_6_code 8 = .ok (.iconst 1, 1) := by decide +kernel
theorem d_La_under_9 : decode method_6_code 9 = .ok (.iaload, 1) := by decide +kernel
theorem d_La_under_10 : decode method_6_code 10 = .ok (.if_icmp .ge 28, 3) := by decide +kernel
theorem d_La_under_13 : decode method_6_code 13 = .ok (.iload_n 2, 1) := by decide +kernel
theorem d_La_under_14 : decode method_6_code 14 = .ok (.aload_n 0, 1) := by decide +kernel
theorem d_La_under_15 : decode method_6_code 15 = .ok (.iload_n 3, 1) := by decide +kernel
theorem d_La_under_16 : decode method_6_code 16 = .ok (.iload_n 1, 1) := by decide +kernel
theorem d_La_under_17 : decode method_6_code 17 = .ok (.invokestatic 27, 3) := by decide +kernel
theorem d_La_under_20 : decode method_6_code 20 = .ok (.ifCond .eq 9, 3) := by decide +kernel
theorem d_La_under_23 : decode method_6_code 23 = .ok (.iconst 1, 1) := by decide +kernel
theorem d_La_under_24 : decode method_6_code 24 = .ok (.iload_n 3, 1) := by decide +kernel
theorem d_La_under_25 : decode method_6_code 25 = .ok (.ishl, 1) := by decide +kernel
theorem d_La_under_26 : decode method_6_code 26 = .ok (.goto 4, 3) := by decide +kernel
theorem d_La_under_29 : decode method_6_code 29 = .ok (.iconst 0, 1) := by decide +kernel
theorem d_La_under_30 : decode method_6_code 30 = .ok (.ior, 1) := by decide +kernel
theorem d_La_under_31 : decode method_6_code 31 = .ok (.istore_n 2, 1) := by decide +kernel
theorem d_La_under_32 : decode method_6_code 32 = .ok (.iinc 3 1, 3) := by decide +kernel
theorem d_La_under_35 : decode method_6_code 35 = .ok (.goto (-29), 3) := by decide +kernel
theorem d_La_under_38 : decode method_6_code 38 = .ok (.iload_n 2, 1) := by decide +kernel
theorem d_La_under_39 : decode method_6_code 39 = .ok (.ireturn, 1) := by decide +kernel
theorem d_La_ones_0 : decode method_12_code 0 = .ok (.iconst 0, 1) := by decide +kernel
theorem d_La_ones_1 : decode method_12_code 1 = .ok (.istore_n 1, 1) := by decide +kernel
theorem d_La_ones_2 : decode method_12_code 2 = .ok (.iconst 0, 1) := by decide +kernel
theorem d_La_ones_3 : decode method_12_code 3 = .ok (.istore_n 2, 1) := by decide +kernel
theorem d_La_ones_4 : decode method_12_code 4 = .ok (.iload_n 2, 1) := by decide +kernel
theorem d_La_ones_5 : decode method_12_code 5 = .ok (.bipush 10, 2) := by decide +kernel
theorem d_La_ones_7 : decode method_12_code 7 = .ok (.if_icmp .ge 17, 3) := by decide +kernel
theorem d_La_ones_10 : decode method_12_code 10 = .ok (.iload_n 1, 1) := by decide +kernel
theorem d_La_ones_11 : decode method_12_code 11 = .ok (.iload_n 0, 1) := by decide +kernel
theorem d_La_ones_12 : decode method_12_code 12 = .ok (.iload_n 2, 1) := by decide +kernel
theorem d_La_ones_13 : decode method_12_code 13 = .ok (.ishr, 1) := by decide +kernel
theorem d_La_ones_14 : decode method_12_code 14 = .ok (.iconst 1, 1) := by decide +kernel
theorem d_La_ones_15 : decode method_12_code 15 = .ok (.iand, 1) := by decide +kernel
theorem d_La_ones_16 : decode method_12_code 16 = .ok (.iadd, 1) := by decide +kernel
theorem d_La_ones_17 : decode method_12_code 17 = .ok (.istore_n 1, 1) := by decide +kernel
theorem d_La_ones_18 : decode method_12_code 18 = .ok (.iinc 2 1, 3) := by decide +kernel
theorem d_La_ones_21 : decode method_12_code 21 = .ok (.goto (-17), 3) := by decide +kernel
theorem d_La_ones_24 : decode method_12_code 24 = .ok (.iload_n 1, 1) := by decide +kernel
theorem d_La_ones_25 : decode method_12_code 25 = .ok (.ireturn, 1) := by decide +kernel
theorem d_La_right_0 : decode method_13_code 0 = .ok (.aload_n 0, 1) := by decide +kernel
theorem d_La_right_1 : decode method_13_code 1 = .ok (.iload_n 1, 1) := by decide +kernel
theorem d_La_right_2 : decode method_13_code 2 = .ok (.invokestatic 42, 3) := by decide +kernel
theorem d_La_right_5 : decode method_13_code 5 = .ok (.aload_n 0, 1) := by decide +kernel
theorem d_La_right_6 : decode method_13_code 6 = .ok (.invokestatic 35, 3) := by decide +kernel
theorem d_La_right_9 : decode method_13_code 9 = .ok (.iand, 1) := by decide +kernel
theorem d_La_right_10 : decode method_13_code 10 = .ok (.invokestatic 46, 3) := by decide +kernel
theorem d_La_right_13 : decode method_13_code 13 = .ok (.istore_n 3, 1) := by decide +kernel
theorem d_La_right_14 : decode method_13_code 14 = .ok (.aload_n 0, 1) := by decide +kernel
theorem d_La_right_15 : decode method_13_code 15 = .ok (.iconst 4, 1) := by decide +kernel
theorem d_La_right_16 : decode method_13_code 16 = .ok (.iload_n 2, 1) := by decide +kernel
theorem d_La_right_17 : decode method_13_code 17 = .ok (.iadd, 1) := by decide +kernel
theorem d_La_right_18 : decode method_13_code 18 = .ok (.dup2, 1) := by decide +kernel
theorem d_La_right_19 : decode method_13_code 19 = .ok (.iaload, 1) := by decide +kernel
theorem d_La_right_20 : decode method_13_code 20 = .ok (.aload_n 0, 1) := by decide +kernel
theorem d_La_right_21 : decode method_13_code 21 = .ok (.iload_n 1, 1) := by decide +kernel
theorem d_La_right_22 : decode method_13_code 22 = .ok (.aload_n 0, 1) := by decide +kernel
theorem d_La_right_23 : decode method_13_code 23 = .ok (.bipush 11, 2) := by decide +kernel
theorem d_La_right_25 : decode method_13_code 25 = .ok (.iconst 5, 1) := by decide +kernel
theorem d_La_right_26 : decode method_13_code 26 = .ok (.iload_n 1, 1) := by decide +kernel
theorem d_La_right_27 : decode method_13_code 27 = .ok (.imul, 1) := by decide +kernel
theorem d_La_right_28 : decode method_13_code 28 = .ok (.iadd, 1) := by decide +kernel
theorem d_La_right_29 : decode method_13_code 29 = .ok (.iaload, 1) := by decide +kernel
theorem d_La_right_30 : decode method_13_code 30 = .ok (.invokestatic 31, 3) := by decide +kernel
theorem d_La_right_33 : decode method_13_code 33 = .ok (.isub, 1) := by decide +kernel
theorem d_La_right_34 : decode method_13_code 34 = .ok (.iastore, 1) := by decide +kernel
theorem d_La_right_35 : decode method_13_code 35 = .ok (.iload_n 1, 1) := by decide +kernel
theorem d_La_right_36 : decode method_13_code 36 = .ok (.iconst 1, 1) := by decide +kernel
theorem d_La_right_37 : decode method_13_code 37 = .ok (.iadd, 1) := by decide +kernel
theorem d_La_right_38 : decode method_13_code 38 = .ok (.istore 4, 2) := by decide +kernel
theorem d_La_right_40 : decode method_13_code 40 = .ok (.iload 4, 2) := by decide +kernel
theorem d_La_right_42 : decode method_13_code 42 = .ok (.aload_n 0, 1) := by decide +kernel
theorem d_La_right_43 : decode method_13_code 43 = .ok (.iconst 1, 1) := by decide +kernel
theorem d_La_right_44 : decode method_13_code 44 = .ok (.iaload, 1) := by decide +kernel
theorem d_La_right_45 : decode method_13_code 45 = .ok (.if_icmp .ge 41, 3) := by decide +kernel
theorem d_La_right_48 : decode method_13_code 48 = .ok (.aload_n 0, 1) := by decide +kernel
theorem d_La_right_49 : decode method_13_code 49 = .ok (.bipush 14, 2) := by decide +kernel
theorem d_La_right_51 : decode method_13_code 51 = .ok (.iconst 5, 1) := by decide +kernel
theorem d_La_right_52 : decode method_13_code 52 = .ok (.iload 4, 2) := by decide +kernel
theorem d_La_right_54 : decode method_13_code 54 = .ok (.imul, 1) := by decide +kernel
theorem d_La_right_55 : decode method_13_code 55 = .ok (.iadd, 1) := by decide +kernel
theorem d_La_right_56 : decode method_13_code 56 = .ok (.aload_n 0, 1) := by decide +kernel
theorem d_La_right_57 : decode method_13_code 57 = .ok (.iload 4, 2) := by decide +kernel
theorem d_La_right_59 : decode method_13_code 59 = .ok (.iload_n 1, 1) := by decide +kernel
theorem d_La_right_60 : decode method_13_code 60 = .ok (.invokestatic 27, 3) := by decide +kernel
theorem d_La_right_63 : decode method_13_code 63 = .ok (.ifCond .eq 7, 3) := by decide +kernel
theorem d_La_right_66 : decode method_13_code 66 = .ok (.iconst 0, 1) := by decide +kernel
theorem d_La_right_67 : decode method_13_code 67 = .ok (.goto 12, 3) := by decide +kernel
theorem d_La_right_70 : decode method_13_code 70 = .ok (.aload_n 0, 1) := by decide +kernel
theorem d_La_right_71 : decode method_13_code 71 = .ok (.bipush 14, 2) := by decide +kernel
theorem d_La_right_73 : decode method_13_code 73 = .ok (.iconst 5, 1) := by decide +kernel
theorem d_La_right_74 : decode method_13_code 74 = .ok (.iload 4, 2) := by decide +kernel
theorem d_La_right_76 : decode method_13_code 76 = .ok (.imul, 1) := by decide +kernel
theorem d_La_right_77 : decode method_13_code 77 = .ok (.iadd, 1) := by decide +kernel
theorem d_La_right_78 : decode method_13_code 78 = .ok (.iaload, 1) := by decide +kernel
theorem d_La_right_79 : decode method_13_code 79 = .ok (.iastore, 1) := by decide +kernel
theorem d_La_right_80 : decode method_13_code 80 = .ok (.iinc 4 1, 3) := by decide +kernel
theorem d_La_right_83 : decode method_13_code 83 = .ok (.goto (-43), 3) := by decide +kernel
theorem d_La_right_86 : decode method_13_code 86 = .ok (.aload_n 0, 1) := by decide +kernel
theorem d_La_right_87 : decode method_13_code 87 = .ok (.bipush 14, 2) := by decide +kernel
theorem d_La_right_89 : decode method_13_code 89 = .ok (.iconst 5, 1) := by decide +kernel
theorem d_La_right_90 : decode method_13_code 90 = .ok (.iload_n 1, 1) := by decide +kernel
theorem d_La_right_91 : decode method_13_code 91 = .ok (.imul, 1) := by decide +kernel
theorem d_La_right_92 : decode method_13_code 92 = .ok (.iadd, 1) := by decide +kernel
theorem d_La_right_93 : decode method_13_code 93 = .ok (.iconst 1, 1) := by decide +kernel
theorem d_La_right_94 : decode method_13_code 94 = .ok (.iastore, 1) := by decide +kernel
theorem d_La_right_95 : decode method_13_code 95 = .ok (.iload_n 3, 1) := by decide +kernel
theorem d_La_right_96 : decode method_13_code 96 = .ok (.ireturn, 1) := by decide +kernel
theorem d_La_year_0 : decode method_14_code 0 = .ok (.iconst 0, 1) := by decide +kernel
theorem d_La_year_1 : decode method_14_code 1 = .ok (.istore_n 1, 1) := by decide +kernel
theorem d_La_year_2 : decode method_14_code 2 = .ok (.iload_n 1, 1) := by decide +kernel
theorem d_La_year_3 : decode method_14_code 3 = .ok (.aload_n 0, 1) := by decide +kernel
theorem d_La_year_4 : decode method_14_code 4 = .ok (.iconst 0, 1) := by decide +kernel
theorem d_La_year_5 : decode method_14_code 5 = .ok (.iaload, 1) := by decide +kernel
theorem d_La_year_6 : decode method_14_code 6 = .ok (.if_icmp .ge 48, 3) := by decide +kernel
theorem d_La_year_9 : decode method_14_code 9 = .ok (.aload_n 0, 1) := by decide +kernel
theorem d_La_year_10 : decode method_14_code 10 = .ok (.iconst 4, 1) := by decide +kernel
theorem d_La_year_11 : decode method_14_code 11 = .ok (.iload_n 1, 1) := by decide +kernel
theorem d_La_year_12 : decode method_14_code 12 = .ok (.iadd, 1) := by decide +kernel
theorem d_La_year_13 : decode method_14_code 13 = .ok (.aload_n 0, 1) := by decide +kernel
theorem d_La_year_14 : decode method_14_code 14 = .ok (.iconst 4, 1) := by decide +kernel
theorem d_La_year_15 : decode method_14_code 15 = .ok (.iload_n 1, 1) := by decide +kernel
theorem d_La_year_16 : decode method_14_code 16 = .ok (.iadd, 1) := by decide +kernel
theorem d_La_year_17 : decode method_14_code 17 = .ok (.iaload, 1) := by decide +kernel
theorem d_La_year_18 : decode method_14_code 18 = .ok (.aload_n 0, 1) := by decide +kernel
theorem d_La_year_19 : decode method_14_code 19 = .ok (.bipush 7, 2) := by decide +kernel
theorem d_La_year_21 : decode method_14_code 21 = .ok (.iload_n 1, 1) := by decide +kernel
theorem d_La_year_22 : decode method_14_code 22 = .ok (.iadd, 1) := by decide +kernel
theorem d_La_year_23 : decode method_14_code 23 = .ok (.iaload, 1) := by decide +kernel
theorem d_La_year_24 : decode method_14_code 24 = .ok (.iadd, 1) := by decide +kernel
theorem d_La_year_25 : decode method_14_code 25 = .ok (.bipush 20, 2) := by decide +kernel
theorem d_La_year_27 : decode method_14_code 27 = .ok (.if_icmp .le 8, 3) := by decide +kernel
theorem d_La_year_30 : decode method_14_code 30 = .ok (.bipush 20, 2) := by decide +kernel
theorem d_La_year_32 : decode method_14_code 32 = .ok (.goto 15, 3) := by decide +kernel
theorem d_La_year_35 : decode method_14_code 35 = .ok (.aload_n 0, 1) := by decide +kernel
theorem d_La_year_36 : decode method_14_code 36 = .ok (.iconst 4, 1) := by decide +kernel
theorem d_La_year_37 : decode method_14_code 37 = .ok (.iload_n 1, 1) := by decide +kernel
theorem d_La_year_38 : decode method_14_code 38 = .ok (.iadd, 1) := by decide +kernel
theorem d_La_year_39 : decode method_14_code 39 = .ok (.iaload, 1) := by decide +kernel
theorem d_La_year_40 : decode method_14_code 40 = .ok (.aload_n 0, 1) := by decide +kernel
theorem d_La_year_41 : decode method_14_code 41 = .ok (.bipush 7, 2) := by decide +kernel
theorem d_La_year_43 : decode method_14_code 43 = .ok (.iload_n 1, 1) := by decide +kernel
theorem d_La_year_44 : decode method_14_code 44 = .ok (.iadd, 1) := by decide +kernel
theorem d_La_year_45 : decode method_14_code 45 = .ok (.iaload, 1) := by decide +kernel
theorem d_La_year_46 : decode method_14_code 46 = .ok (.iadd, 1) := by decide +kernel
theorem d_La_year_47 : decode method_14_code 47 = .ok (.iastore, 1) := by decide +kernel
theorem d_La_year_48 : decode method_14_code 48 = .ok (.iinc 1 1, 3) := by decide +kernel
theorem d_La_year_51 : decode method_14_code 51 = .ok (.goto (-49), 3) := by decide +kernel
theorem d_La_year_54 : decode method_14_code 54 = .ok (.return_, 1) := by decide +kernel
theorem d_La_worth_0 : decode method_9_code 0 = .ok (.iconst 0, 1) := by decide +kernel
theorem d_La_worth_1 : decode method_9_code 1 = .ok (.istore_n 2, 1) := by decide +kernel
theorem d_La_worth_2 : decode method_9_code 2 = .ok (.iconst 0, 1) := by decide +kernel
theorem d_La_worth_3 : decode method_9_code 3 = .ok (.istore_n 3, 1) := by decide +kernel
theorem d_La_worth_4 : decode method_9_code 4 = .ok (.iload_n 3, 1) := by decide +kernel
theorem d_La_worth_5 : decode method_9_code 5 = .ok (.aload_n 0, 1) := by decide +kernel
theorem d_La_worth_6 : decode method_9_code 6 = .ok (.iconst 1, 1) := by decide +kernel
theorem d_La_worth_7 : decode method_9_code 7 = .ok (.iaload, 1) := by decide +kernel
theorem d_La_worth_8 : decode method_9_code 8 = .ok (.if_icmp .ge 26, 3) := by decide +kernel
theorem d_La_worth_11 : decode method_9_code 11 = .ok (.iload_n 2, 1) := by decide +kernel
theorem d_La_worth_12 : decode method_9_code 12 = .ok (.iload_n 1, 1) := by decide +kernel
theorem d_La_worth_13 : decode method_9_code 13 = .ok (.iload_n 3, 1) := by decide +kernel
theorem d_La_worth_14 : decode method_9_code 14 = .ok (.ishr, 1) := by decide +kernel
theorem d_La_worth_15 : decode method_9_code 15 = .ok (.iconst 1, 1) := by decide +kernel
theorem d_La_worth_16 : decode method_9_code 16 = .ok (.iand, 1) := by decide +kernel
theorem d_La_worth_17 : decode method_9_code 17 = .ok (.aload_n 0, 1) := by decide +kernel
theorem d_La_worth_18 : decode method_9_code 18 = .ok (.bipush 12, 2) := by decide +kernel
theorem d_La_worth_20 : decode method_9_code 20 = .ok (.iconst 5, 1) := by decide +kernel
theorem d_La_worth_21 : decode method_9_code 21 = .ok (.iload_n 3, 1) := by decide +kernel
theorem d_La_worth_22 : decode method_9_code 22 = .ok (.imul, 1) := by decide +kernel
theorem d_La_worth_23 : decode method_9_code 23 = .ok (.iadd, 1) := by decide +kernel
theorem d_La_worth_24 : decode method_9_code 24 = .ok (.iaload, 1) := by decide +kernel
theorem d_La_worth_25 : decode method_9_code 25 = .ok (.imul, 1) := by decide +kernel
theorem d_La_worth_26 : decode method_9_code 26 = .ok (.iadd, 1) := by decide +kernel
theorem d_La_worth_27 : decode method_9_code 27 = .ok (.istore_n 2, 1) := by decide +kernel
theorem d_La_worth_28 : decode method_9_code 28 = .ok (.iinc 3 1, 3) := by decide +kernel
theorem d_La_worth_31 : decode method_9_code 31 = .ok (.goto (-27), 3) := by decide +kernel
theorem d_La_worth_34 : decode method_9_code 34 = .ok (.iload_n 2, 1) := by decide +kernel
theorem d_La_worth_35 : decode method_9_code 35 = .ok (.ireturn, 1) := by decide +kernel
theorem d_La_act_0 : decode method_16_code 0 = .ok (.iload_n 1, 1) := by decide +kernel
theorem d_La_act_1 : decode method_16_code 1 = .ok (.bipush 16, 2) := by decide +kernel
theorem d_La_act_3 : decode method_16_code 3 = .ok (.irem, 1) := by decide +kernel
theorem d_La_act_4 : decode method_16_code 4 = .ok (.istore_n 3, 1) := by decide +kernel
theorem d_La_act_5 : decode method_16_code 5 = .ok (.iload_n 1, 1) := by decide +kernel
theorem d_La_act_6 : decode method_16_code 6 = .ok (.bipush 16, 2) := by decide +kernel
theorem d_La_act_8 : decode method_16_code 8 = .ok (.idiv, 1) := by decide +kernel
theorem d_La_act_9 : decode method_16_code 9 = .ok (.aload_n 2, 1) := by decide +kernel
theorem d_La_act_10 : decode method_16_code 10 = .ok (.iconst 1, 1) := by decide +kernel
theorem d_La_act_11 : decode method_16_code 11 = .ok (.iaload, 1) := by decide +kernel
theorem d_La_act_12 : decode method_16_code 12 = .ok (.irem, 1) := by decide +kernel
theorem d_La_act_13 : decode method_16_code 13 = .ok (.istore 4, 2) := by decide +kernel
theorem d_La_act_15 : decode method_16_code 15 = .ok (.iload_n 1, 1) := by decide +kernel
theorem d_La_act_16 : decode method_16_code 16 = .ok (.sipush 128, 3) := by decide +kernel
theorem d_La_act_19 : decode method_16_code 19 = .ok (.idiv, 1) := by decide +kernel
theorem d_La_act_20 : decode method_16_code 20 = .ok (.aload_n 2, 1) := by decide +kernel
theorem d_La_act_21 : decode method_16_code 21 = .ok (.iconst 0, 1) := by decide +kernel
theorem d_La_act_22 : decode method_16_code 22 = .ok (.iaload, 1) := by decide +kernel
theorem d_La_act_23 : decode method_16_code 23 = .ok (.irem, 1) := by decide +kernel
theorem d_La_act_24 : decode method_16_code 24 = .ok (.istore 5, 2) := by decide +kernel
theorem d_La_act_26 : decode method_16_code 26 = .ok (.iload_n 3, 1) := by decide +kernel
theorem d_La_act_27 : decode method_16_code 27 = .ok (.bipush 7, 2) := by decide +kernel
theorem d_La_act_29 : decode method_16_code 29 = .ok (.if_icmp .ge 113, 3) := by decide +kernel
theorem d_La_act_32 : decode method_16_code 32 = .ok (.iconst 0, 1) := by decide +kernel
theorem d_La_act_33 : decode method_16_code 33 = .ok (.istore 6, 2) := by decide +kernel
theorem d_La_act_35 : decode method_16_code 35 = .ok (.iload 6, 2) := by decide +kernel
theorem d_La_act_37 : decode method_16_code 37 = .ok (.aload_n 2, 1) := by decide +kernel
theorem d_La_act_38 : decode method_16_code 38 = .ok (.iconst 1, 1) := by decide +kernel
theorem d_La_act_39 : decode method_16_code 39 = .ok (.iaload, 1) := by decide +kernel
theorem d_La_act_40 : decode method_16_code 40 = .ok (.if_icmp .ge 40, 3) := by decide +kernel
theorem d_La_act_43 : decode method_16_code 43 = .ok (.iload_n 1, 1) := by decide +kernel
theorem d_La_act_44 : decode method_16_code 44 = .ok (.sipush 512, 3) := by decide +kernel
theorem d_La_act_47 : decode method_16_code 47 = .ok (.idiv, 1) := by decide +kernel
theorem d_La_act_48 : decode method_16_code 48 = .ok (.iconst 5, 1) := by decide +kernel
theorem d_La_act_49 : decode method_16_code 49 = .ok (.irem, 1) := by decide +kernel
theorem d_La_act_50 : decode method_16_code 50 = .ok (.ifCond .le 30, 3) := by decide +kernel
theorem d_La_act_53 : decode method_16_code 53 = .ok (.aload_n 2, 1) := by decide +kernel
theorem d_La_act_54 : decode method_16_code 54 = .ok (.iload 4, 2) := by decide +kernel
theorem d_La_act_56 : decode method_16_code 56 = .ok (.iload 5, 2) := by decide +kernel
theorem d_La_act_58 : decode method_16_code 58 = .ok (.invokestatic 49, 3) := by decide +kernel
theorem d_La_act_61 : decode method_16_code 61 = .ok (.ifCond .ne 19, 3) := by decide +kernel
theorem d_La_act_64 : decode method_16_code 64 = .ok (.iload 4, 2) := by decide +kernel
theorem d_La_act_66 : decode method_16_code 66 = .ok (.iconst 1, 1) := by decide +kernel
theorem d_La_act_67 : decode method_16_code 67 = .ok (.iadd, 1) := by decide +kernel
theorem d_La_act_68 : decode method_16_code 68 = .ok (.aload_n 2, 1) := by decide +kernel
theorem d_La_act_69 : decode method_16_code 69 = .ok (.iconst 1, 1) := by decide +kernel
theorem d_La_act_70 : decode method_16_code 70 = .ok (.iaload, 1) := by decide +kernel
theorem d_La_act_71 : decode method_16_code 71 = .ok (.irem, 1) := by decide +kernel
theorem d_La_act_72 : decode method_16_code 72 = .ok (.istore 4, 2) := by decide +kernel
theorem d_La_act_74 : decode method_16_code 74 = .ok (.iinc 6 1, 3) := by decide +kernel
theorem d_La_act_77 : decode method_16_code 77 = .ok (.goto (-42), 3) := by decide +kernel
theorem d_La_act_80 : decode method_16_code 80 = .ok (.aload_n 2, 1) := by decide +kernel
theorem d_La_act_81 : decode method_16_code 81 = .ok (.iload 4, 2) := by decide +kernel
theorem d_La_act_83 : decode method_16_code 83 = .ok (.iload 5, 2) := by decide +kernel
theorem d_La_act_85 : decode method_16_code 85 = .ok (.invokestatic 49, 3) := by decide +kernel
theorem d_La_act_88 : decode method_16_code 88 = .ok (.ifCond .ne 22, 3) := by decide +kernel
theorem d_La_act_91 : decode method_16_code 91 = .ok (.aload_n 0, 1) := by decide +kernel
theorem d_La_act_92 : decode method_16_code 92 = .ok (.iload 4, 2) := by decide +kernel
theorem d_La_act_94 : decode method_16_code 94 = .ok (.iload 5, 2) := by decide +kernel
theorem d_La_act_96 : decode method_16_code 96 = .ok (.invokevirtual 52, 3) := by decide +kernel
theorem d_La_act_99 : decode method_16_code 99 = .ok (.bipush (-103), 2) := by decide +kernel
theorem d_La_act_101 : decode method_16_code 101 = .ok (.if_icmp .ne 7, 3) := by decide +kernel
theorem d_La_act_104 : decode method_16_code 104 = .ok (.iconst 1, 1) := by decide +kernel
theorem d_La_act_105 : decode method_16_code 105 = .ok (.goto 4, 3) := by decide +kernel
theorem d_La_act_108 : decode method_16_code 108 = .ok (.iconst 0, 1) := by decide +kernel
theorem d_La_act_109 : decode method_16_code 109 = .ok (.ireturn, 1) := by decide +kernel
theorem d_La_act_110 : decode method_16_code 110 = .ok (.aload_n 2, 1) := by decide +kernel
theorem d_La_act_111 : decode method_16_code 111 = .ok (.iconst 3, 1) := by decide +kernel
theorem d_La_act_112 : decode method_16_code 112 = .ok (.dup2, 1) := by decide +kernel
theorem d_La_act_113 : decode method_16_code 113 = .ok (.iaload, 1) := by decide +kernel
theorem d_La_act_114 : decode method_16_code 114 = .ok (.iconst 1, 1) := by decide +kernel
theorem d_La_act_115 : decode method_16_code 115 = .ok (.iadd, 1) := by decide +kernel
theorem d_La_act_116 : decode method_16_code 116 = .ok (.iastore, 1) := by decide +kernel
theorem d_La_act_117 : decode method_16_code 117 = .ok (.aload_n 0, 1) := by decide +kernel
theorem d_La_act_118 : decode method_16_code 118 = .ok (.iload 4, 2) := by decide +kernel
theorem d_La_act_120 : decode method_16_code 120 = .ok (.iload 5, 2) := by decide +kernel
theorem d_La_act_122 : decode method_16_code 122 = .ok (.invokevirtual 52, 3) := by decide +kernel
theorem d_La_act_125 : decode method_16_code 125 = .ok (.aload_n 2, 1) := by decide +kernel
theorem d_La_act_126 : decode method_16_code 126 = .ok (.iload 4, 2) := by decide +kernel
theorem d_La_act_128 : decode method_16_code 128 = .ok (.iload 5, 2) := by decide +kernel
theorem d_La_act_130 : decode method_16_code 130 = .ok (.invokestatic 56, 3) := by decide +kernel
theorem d_La_act_133 : decode method_16_code 133 = .ok (.if_icmp .ne 7, 3) := by decide +kernel
theorem d_La_act_136 : decode method_16_code 136 = .ok (.iconst 1, 1) := by decide +kernel
theorem d_La_act_137 : decode method_16_code 137 = .ok (.goto 4, 3) := by decide +kernel
theorem d_La_act_140 : decode method_16_code 140 = .ok (.iconst 0, 1) := by decide +kernel
theorem d_La_act_141 : decode method_16_code 141 = .ok (.ireturn, 1) := by decide +kernel
theorem d_La_act_142 : decode method_16_code 142 = .ok (.iload_n 3, 1) := by decide +kernel
theorem d_La_act_143 : decode method_16_code 143 = .ok (.bipush 11, 2) := by decide +kernel
theorem d_La_act_145 : decode method_16_code 145 = .ok (.if_icmp .ge 30, 3) := by decide +kernel
theorem d_La_act_148 : decode method_16_code 148 = .ok (.aload_n 2, 1) := by decide +kernel
theorem d_La_act_149 : decode method_16_code 149 = .ok (.invokestatic 58, 3) := by decide +kernel
theorem d_La_act_152 : decode method_16_code 152 = .ok (.aload_n 2, 1) := by decide +kernel
theorem d_La_act_153 : decode method_16_code 153 = .ok (.iconst 2, 1) := by decide +kernel
theorem d_La_act_154 : decode method_16_code 154 = .ok (.dup2, 1) := by decide +kernel
theorem d_La_act_155 : decode method_16_code 155 = .ok (.iaload, 1) := by decide +kernel
theorem d_La_act_156 : decode method_16_code 156 = .ok (.iconst 1, 1) := by decide +kernel
theorem d_La_act_157 : decode method_16_code 157 = .ok (.iadd, 1) := by decide +kernel
theorem d_La_act_158 : decode method_16_code 158 = .ok (.iastore, 1) := by decide +kernel
theorem d_La_act_159 : decode method_16_code 159 = .ok (.aload_n 0, 1) := by decide +kernel
theorem d_La_act_160 : decode method_16_code 160 = .ok (.invokevirtual 62, 3) := by decide +kernel
theorem d_La_act_163 : decode method_16_code 163 = .ok (.aload_n 2, 1) := by decide +kernel
theorem d_La_act_164 : decode method_16_code 164 = .ok (.iconst 2, 1) := by decide +kernel
theorem d_La_act_165 : decode method_16_code 165 = .ok (.iaload, 1) := by decide +kernel
theorem d_La_act_166 : decode method_16_code 166 = .ok (.if_icmp .ne 7, 3) := by decide +kernel
theorem d_La_act_169 : decode method_16_code 169 = .ok (.iconst 1, 1) := by decide +kernel
theorem d_La_act_170 : decode method_16_code 170 = .ok (.goto 4, 3) := by decide +kernel
theorem d_La_act_173 : decode method_16_code 173 = .ok (.iconst 0, 1) := by decide +kernel
theorem d_La_act_174 : decode method_16_code 174 = .ok (.ireturn, 1) := by decide +kernel
theorem d_La_act_175 : decode method_16_code 175 = .ok (.iload_n 3, 1) := by decide +kernel
theorem d_La_act_176 : decode method_16_code 176 = .ok (.bipush 12, 2) := by decide +kernel
theorem d_La_act_178 : decode method_16_code 178 = .ok (.if_icmp .ge 51, 3) := by decide +kernel
theorem d_La_act_181 : decode method_16_code 181 = .ok (.aload_n 2, 1) := by decide +kernel
theorem d_La_act_182 : decode method_16_code 182 = .ok (.bipush 7, 2) := by decide +kernel
theorem d_La_act_184 : decode method_16_code 184 = .ok (.iload 5, 2) := by decide +kernel
theorem d_La_act_186 : decode method_16_code 186 = .ok (.iadd, 1) := by decide +kernel
theorem d_La_act_187 : decode method_16_code 187 = .ok (.iaload, 1) := by decide +kernel
theorem d_La_act_188 : decode method_16_code 188 = .ok (.istore 6, 2) := by decide +kernel
theorem d_La_act_190 : decode method_16_code 190 = .ok (.aload_n 2, 1) := by decide +kernel
theorem d_La_act_191 : decode method_16_code 191 = .ok (.bipush 7, 2) := by decide +kernel
theorem d_La_act_193 : decode method_16_code 193 = .ok (.iload 5, 2) := by decide +kernel
theorem d_La_act_195 : decode method_16_code 195 = .ok (.iadd, 1) := by decide +kernel
theorem d_La_act_196 : decode method_16_code 196 = .ok (.iload_n 1, 1) := by decide +kernel
theorem d_La_act_197 : decode method_16_code 197 = .ok (.sipush 512, 3) := by decide +kernel
theorem d_La_act_200 : decode method_16_code 200 = .ok (.idiv, 1) := by decide +kernel
theorem d_La_act_201 : decode method_16_code 201 = .ok (.bipush 10, 2) := by decide +kernel
theorem d_La_act_203 : decode method_16_code 203 = .ok (.irem, 1) := by decide +kernel
theorem d_La_act_204 : decode method_16_code 204 = .ok (.iastore, 1) := by decide +kernel
theorem d_La_act_205 : decode method_16_code 205 = .ok (.aload_n 0, 1) := by decide +kernel
theorem d_La_act_206 : decode method_16_code 206 = .ok (.iload 5, 2) := by decide +kernel
theorem d_La_act_208 : decode method_16_code 208 = .ok (.aload_n 2, 1) := by decide +kernel
theorem d_La_act_209 : decode method_16_code 209 = .ok (.bipush 7, 2) := by decide +kernel
theorem d_La_act_211 : decode method_16_code 211 = .ok (.iload 5, 2) := by decide +kernel
theorem d_La_act_213 : decode method_16_code 213 = .ok (.iadd, 1) := by decide +kernel
theorem d_La_act_214 : decode method_16_code 214 = .ok (.iaload, 1) := by decide +kernel
theorem d_La_act_215 : decode method_16_code 215 = .ok (.invokevirtual 64, 3) := by decide +kernel
theorem d_La_act_218 : decode method_16_code 218 = .ok (.iload 6, 2) := by decide +kernel
theorem d_La_act_220 : decode method_16_code 220 = .ok (.if_icmp .ne 7, 3) := by decide +kernel
theorem d_La_act_223 : decode method_16_code 223 = .ok (.iconst 1, 1) := by decide +kernel
theorem d_La_act_224 : decode method_16_code 224 = .ok (.goto 4, 3) := by decide +kernel
theorem d_La_act_227 : decode method_16_code 227 = .ok (.iconst 0, 1) := by decide +kernel
theorem d_La_act_228 : decode method_16_code 228 = .ok (.ireturn, 1) := by decide +kernel
theorem d_La_act_229 : decode method_16_code 229 = .ok (.iload_n 3, 1) := by decide +kernel
theorem d_La_act_230 : decode method_16_code 230 = .ok (.bipush 14, 2) := by decide +kernel
theorem d_La_act_232 : decode method_16_code 232 = .ok (.if_icmp .ge 87, 3) := by decide +kernel
theorem d_La_act_235 : decode method_16_code 235 = .ok (.aload_n 2, 1) := by decide +kernel
theorem d_La_act_236 : decode method_16_code 236 = .ok (.bipush 12, 2) := by decide +kernel
theorem d_La_act_238 : decode method_16_code 238 = .ok (.iconst 5, 1) := by decide +kernel
theorem d_La_act_239 : decode method_16_code 239 = .ok (.iload 4, 2) := by decide +kernel
theorem d_La_act_241 : decode method_16_code 241 = .ok (.imul, 1) := by decide +kernel
theorem d_La_act_242 : decode method_16_code 242 = .ok (.iadd, 1) := by decide +kernel
theorem d_La_act_243 : decode method_16_code 243 = .ok (.iaload, 1) := by decide +kernel
theorem d_La_act_244 : decode method_16_code 244 = .ok (.istore 6, 2) := by decide +kernel
theorem d_La_act_246 : decode method_16_code 246 = .ok (.aload_n 2, 1) := by decide +kernel
theorem d_La_act_247 : decode method_16_code 247 = .ok (.bipush 11, 2) := by decide +kernel
theorem d_La_act_249 : decode method_16_code 249 = .ok (.iconst 5, 1) := by decide +kernel
theorem d_La_act_250 : decode method_16_code 250 = .ok (.iload 4, 2) := by decide +kernel
theorem d_La_act_252 : decode method_16_code 252 = .ok (.imul, 1) := by decide +kernel
theorem d_La_act_253 : decode method_16_code 253 = .ok (.iadd, 1) := by decide +kernel
theorem d_La_act_254 : decode method_16_code 254 = .ok (.iconst 1, 1) := by decide +kernel
theorem d_La_act_255 : decode method_16_code 255 = .ok (.iload_n 1, 1) := by decide +kernel
theorem d_La_act_256 : decode method_16_code 256 = .ok (.sipush 512, 3) := by decide +kernel
theorem d_La_act_259 : decode method_16_code 259 = .ok (.idiv, 1) := by decide +kernel
theorem d_La_act_260 : decode method_16_code 260 = .ok (.bipush 9, 2) := by decide +kernel
theorem d_La_act_262 : decode method_16_code 262 = .ok (.irem, 1) := by decide +kernel
theorem d_La_act_263 : decode method_16_code 263 = .ok (.iadd, 1) := by decide +kernel
theorem d_La_act_264 : decode method_16_code 264 = .ok (.iastore, 1) := by decide +kernel
theorem d_La_act_265 : decode method_16_code 265 = .ok (.aload_n 2, 1) := by decide +kernel
theorem d_La_act_266 : decode method_16_code 266 = .ok (.bipush 12, 2) := by decide +kernel
theorem d_La_act_268 : decode method_16_code 268 = .ok (.iconst 5, 1) := by decide +kernel
theorem d_La_act_269 : decode method_16_code 269 = .ok (.iload 4, 2) := by decide +kernel
theorem d_La_act_271 : decode method_16_code 271 = .ok (.imul, 1) := by decide +kernel
theorem d_La_act_272 : decode method_16_code 272 = .ok (.iadd, 1) := by decide +kernel
theorem d_La_act_273 : decode method_16_code 273 = .ok (.iconst 1, 1) := by decide +kernel
theorem d_La_act_274 : decode method_16_code 274 = .ok (.iload_n 1, 1) := by decide +kernel
theorem d_La_act_275 : decode method_16_code 275 = .ok (.sipush 8192, 3) := by decide +kernel
theorem d_La_act_278 : decode method_16_code 278 = .ok (.idiv, 1) := by decide +kernel
theorem d_La_act_279 : decode method_16_code 279 = .ok (.bipush 9, 2) := by decide +kernel
theorem d_La_act_281 : decode method_16_code 281 = .ok (.irem, 1) := by decide +kernel
theorem d_La_act_282 : decode method_16_code 282 = .ok (.iadd, 1) := by decide +kernel
theorem d_La_act_283 : decode method_16_code 283 = .ok (.iastore, 1) := by decide +kernel
theorem d_La_act_284 : decode method_16_code 284 = .ok (.aload_n 0, 1) := by decide +kernel
theorem d_La_act_285 : decode method_16_code 285 = .ok (.iload 4, 2) := by decide +kernel
theorem d_La_act_287 : decode method_16_code 287 = .ok (.aload_n 2, 1) := by decide +kernel
theorem d_La_act_288 : decode method_16_code 288 = .ok (.bipush 11, 2) := by decide +kernel
theorem d_La_act_290 : decode method_16_code 290 = .ok (.iconst 5, 1) := by decide +kernel
theorem d_La_act_291 : decode method_16_code 291 = .ok (.iload 4, 2) := by decide +kernel
theorem d_La_act_293 : decode method_16_code 293 = .ok (.imul, 1) := by decide +kernel
theorem d_La_act_294 : decode method_16_code 294 = .ok (.iadd, 1) := by decide +kernel
theorem d_La_act_295 : decode method_16_code 295 = .ok (.iaload, 1) := by decide +kernel
theorem d_La_act_296 : decode method_16_code 296 = .ok (.aload_n 2, 1) := by decide +kernel
theorem d_La_act_297 : decode method_16_code 297 = .ok (.bipush 12, 2) := by decide +kernel
theorem d_La_act_299 : decode method_16_code 299 = .ok (.iconst 5, 1) := by decide +kernel
theorem d_La_act_300 : decode method_16_code 300 = .ok (.iload 4, 2) := by decide +kernel
theorem d_La_act_302 : decode method_16_code 302 = .ok (.imul, 1) := by decide +kernel
theorem d_La_act_303 : decode method_16_code 303 = .ok (.iadd, 1) := by decide +kernel
theorem d_La_act_304 : decode method_16_code 304 = .ok (.iaload, 1) := by decide +kernel
theorem d_La_act_305 : decode method_16_code 305 = .ok (.invokevirtual 67, 3) := by decide +kernel
theorem d_La_act_308 : decode method_16_code 308 = .ok (.iload 6, 2) := by decide +kernel
theorem d_La_act_310 : decode method_16_code 310 = .ok (.if_icmp .ne 7, 3) := by decide +kernel
theorem d_La_act_313 : decode method_16_code 313 = .ok (.iconst 1, 1) := by decide +kernel
theorem d_La_act_314 : decode method_16_code 314 = .ok (.goto 4, 3) := by decide +kernel
theorem d_La_act_317 : decode method_16_code 317 = .ok (.iconst 0, 1) := by decide +kernel
theorem d_La_act_318 : decode method_16_code 318 = .ok (.ireturn, 1) := by decide +kernel
theorem d_La_act_319 : decode method_16_code 319 = .ok (.aload_n 2, 1) := by decide +kernel
theorem d_La_act_320 : decode method_16_code 320 = .ok (.bipush 14, 2) := by decide +kernel
theorem d_La_act_322 : decode method_16_code 322 = .ok (.iconst 5, 1) := by decide +kernel
theorem d_La_act_323 : decode method_16_code 323 = .ok (.iload 4, 2) := by decide +kernel
theorem d_La_act_325 : decode method_16_code 325 = .ok (.imul, 1) := by decide +kernel
theorem d_La_act_326 : decode method_16_code 326 = .ok (.iadd, 1) := by decide +kernel
theorem d_La_act_327 : decode method_16_code 327 = .ok (.iaload, 1) := by decide +kernel
theorem d_La_act_328 : decode method_16_code 328 = .ok (.ifCond .ne 20, 3) := by decide +kernel
theorem d_La_act_331 : decode method_16_code 331 = .ok (.aload_n 0, 1) := by decide +kernel
theorem d_La_act_332 : decode method_16_code 332 = .ok (.iload 4, 2) := by decide +kernel
theorem d_La_act_334 : decode method_16_code 334 = .ok (.invokevirtual 71, 3) := by decide +kernel
theorem d_La_act_337 : decode method_16_code 337 = .ok (.bipush (-103), 2) := by decide +kernel
theorem d_La_act_339 : decode method_16_code 339 = .ok (.if_icmp .ne 7, 3) := by decide +kernel
theorem d_La_act_342 : decode method_16_code 342 = .ok (.iconst 1, 1) := by decide +kernel
theorem d_La_act_343 : decode method_16_code 343 = .ok (.goto 4, 3) := by decide +kernel
theorem d_La_act_346 : decode method_16_code 346 = .ok (.iconst 0, 1) := by decide +kernel
theorem d_La_act_347 : decode method_16_code 347 = .ok (.ireturn, 1) := by decide +kernel
theorem d_La_act_348 : decode method_16_code 348 = .ok (.aload_n 2, 1) := by decide +kernel
theorem d_La_act_349 : decode method_16_code 349 = .ok (.bipush 14, 2) := by decide +kernel
theorem d_La_act_351 : decode method_16_code 351 = .ok (.iconst 5, 1) := by decide +kernel
theorem d_La_act_352 : decode method_16_code 352 = .ok (.iload 4, 2) := by decide +kernel
theorem d_La_act_354 : decode method_16_code 354 = .ok (.imul, 1) := by decide +kernel
theorem d_La_act_355 : decode method_16_code 355 = .ok (.iadd, 1) := by decide +kernel
theorem d_La_act_356 : decode method_16_code 356 = .ok (.iconst 0, 1) := by decide +kernel
theorem d_La_act_357 : decode method_16_code 357 = .ok (.iastore, 1) := by decide +kernel
theorem d_La_act_358 : decode method_16_code 358 = .ok (.aload_n 0, 1) := by decide +kernel
theorem d_La_act_359 : decode method_16_code 359 = .ok (.iload 4, 2) := by decide +kernel
theorem d_La_act_361 : decode method_16_code 361 = .ok (.invokevirtual 71, 3) := by decide +kernel
theorem d_La_act_364 : decode method_16_code 364 = .ok (.aload_n 2, 1) := by decide +kernel
theorem d_La_act_365 : decode method_16_code 365 = .ok (.aload_n 2, 1) := by decide +kernel
theorem d_La_act_366 : decode method_16_code 366 = .ok (.invokestatic 35, 3) := by decide +kernel
theorem d_La_act_369 : decode method_16_code 369 = .ok (.invokestatic 74, 3) := by decide +kernel
theorem d_La_act_372 : decode method_16_code 372 = .ok (.if_icmp .ne 7, 3) := by decide +kernel
theorem d_La_act_375 : decode method_16_code 375 = .ok (.iconst 1, 1) := by decide +kernel
theorem d_La_act_376 : decode method_16_code 376 = .ok (.goto 4, 3) := by decide +kernel
theorem d_La_act_379 : decode method_16_code 379 = .ok (.iconst 0, 1) := by decide +kernel
theorem d_La_act_380 : decode method_16_code 380 = .ok (.ireturn, 1) := by decide +kernel
theorem d_La_copy_0 : decode method_15_code 0 = .ok (.iconst 0, 1) := by decide +kernel
theorem d_La_copy_1 : decode method_15_code 1 = .ok (.istore_n 2, 1) := by decide +kernel
theorem d_La_copy_2 : decode method_15_code 2 = .ok (.iload_n 2, 1) := by decide +kernel
theorem d_La_copy_3 : decode method_15_code 3 = .ok (.bipush 45, 2) := by decide +kernel
theorem d_La_copy_5 : decode method_15_code 5 = .ok (.if_icmp .ge 15, 3) := by decide +kernel
theorem d_La_copy_8 : decode method_15_code 8 = .ok (.aload_n 1, 1) := by decide +kernel
theorem d_La_copy_9 : decode method_15_code 9 = .ok (.iload_n 2, 1) := by decide +kernel
theorem d_La_copy_10 : decode method_15_code 10 = .ok (.aload_n 0, 1) := by decide +kernel
theorem d_La_copy_11 : decode method_15_code 11 = .ok (.iload_n 2, 1) := by decide +kernel
theorem d_La_copy_12 : decode method_15_code 12 = .ok (.iaload, 1) := by decide +kernel
theorem d_La_copy_13 : decode method_15_code 13 = .ok (.iastore, 1) := by decide +kernel
theorem d_La_copy_14 : decode method_15_code 14 = .ok (.iinc 2 1, 3) := by decide +kernel
theorem d_La_copy_17 : decode method_15_code 17 = .ok (.goto (-15), 3) := by decide +kernel
theorem d_La_copy_20 : decode method_15_code 20 = .ok (.return_, 1) := by decide +kernel
theorem d_La_put_0 : decode method_3_code 0 = .ok (.aload_n 0, 1) := by decide +kernel
theorem d_La_put_1 : decode method_3_code 1 = .ok (.iload_n 1, 1) := by decide +kernel
theorem d_La_put_2 : decode method_3_code 2 = .ok (.invokevirtual 8, 3) := by decide +kernel
theorem d_La_put_5 : decode method_3_code 5 = .ok (.ifCond .le 7, 3) := by decide +kernel
theorem d_La_put_8 : decode method_3_code 8 = .ok (.iconst 1, 1) := by decide +kernel
theorem d_La_put_9 : decode method_3_code 9 = .ok (.goto 4, 3) := by decide +kernel
theorem d_La_put_12 : decode method_3_code 12 = .ok (.iconst 0, 1) := by decide +kernel
theorem d_La_put_13 : decode method_3_code 13 = .ok (.ireturn, 1) := by decide +kernel
theorem d_La_cell_0 : decode method_2_code 0 = .ok (.iload_n 1, 1) := by decide +kernel
theorem d_La_cell_1 : decode method_2_code 1 = .ok (.aload_n 0, 1) := by decide +kernel
theorem d_La_cell_2 : decode method_2_code 2 = .ok (.arraylength, 1) := by decide +kernel
theorem d_La_cell_3 : decode method_2_code 3 = .ok (.if_icmp .ge 9, 3) := by decide +kernel
theorem d_La_cell_6 : decode method_2_code 6 = .ok (.aload_n 0, 1) := by decide +kernel
theorem d_La_cell_7 : decode method_2_code 7 = .ok (.iload_n 1, 1) := by decide +kernel
theorem d_La_cell_8 : decode method_2_code 8 = .ok (.iaload, 1) := by decide +kernel
theorem d_La_cell_9 : decode method_2_code 9 = .ok (.goto 11, 3) := by decide +kernel
theorem d_La_cell_12 : decode method_2_code 12 = .ok (.sipush 7919, 3) := by decide +kernel
theorem d_La_cell_15 : decode method_2_code 15 = .ok (.iload_n 1, 1) := by decide +kernel
theorem d_La_cell_16 : decode method_2_code 16 = .ok (.imul, 1) := by decide +kernel
theorem d_La_cell_17 : decode method_2_code 17 = .ok (.bipush 13, 2) := by decide +kernel
theorem d_La_cell_19 : decode method_2_code 19 = .ok (.iadd, 1) := by decide +kernel
theorem d_La_cell_20 : decode method_2_code 20 = .ok (.ldc 7, 2) := by decide +kernel
theorem d_La_cell_22 : decode method_2_code 22 = .ok (.iand, 1) := by decide +kernel
theorem d_La_cell_23 : decode method_2_code 23 = .ok (.ireturn, 1) := by decide +kernel
