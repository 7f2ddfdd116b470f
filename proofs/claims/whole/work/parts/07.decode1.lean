theorem d_Sh_hasSuit_0 : decode prog_10_method_7_code 0 = .ok (.iload_n 1, 1) := by decide +kernel
theorem d_Sh_hasSuit_1 : decode prog_10_method_7_code 1 = .ok (.ifCond .lt 15, 3) := by decide +kernel
theorem d_Sh_hasSuit_4 : decode prog_10_method_7_code 4 = .ok (.iload_n 1, 1) := by decide +kernel
theorem d_Sh_hasSuit_5 : decode prog_10_method_7_code 5 = .ok (.aload_n 0, 1) := by decide +kernel
theorem d_Sh_hasSuit_6 : decode prog_10_method_7_code 6 = .ok (.getfield 52, 3) := by decide +kernel
theorem d_Sh_hasSuit_9 : decode prog_10_method_7_code 9 = .ok (.if_icmp .ge 7, 3) := by decide +kernel
theorem d_Sh_hasSuit_12 : decode prog_10_method_7_code 12 = .ok (.iconst 1, 1) := by decide +kernel
theorem d_Sh_hasSuit_13 : decode prog_10_method_7_code 13 = .ok (.goto 4, 3) := by decide +kernel
theorem d_Sh_hasSuit_16 : decode prog_10_method_7_code 16 = .ok (.iconst 0, 1) := by decide +kernel
theorem d_Sh_hasSuit_17 : decode prog_10_method_7_code 17 = .ok (.ireturn, 1) := by decide +kernel
theorem d_Rw_at_0 : decode prog_9_method_2_code 0 = .ok (.iload_n 1, 1) := by decide +kernel
theorem d_Rw_at_1 : decode prog_9_method_2_code 1 = .ok (.ifCond .lt 21, 3) := by decide +kernel
theorem d_Rw_at_4 : decode prog_9_method_2_code 4 = .ok (.iload_n 1, 1) := by decide +kernel
theorem d_Rw_at_5 : decode prog_9_method_2_code 5 = .ok (.aload_n 0, 1) := by decide +kernel
theorem d_Rw_at_6 : decode prog_9_method_2_code 6 = .ok (.getfield 7, 3) := by decide +kernel
theorem d_Rw_at_9 : decode prog_9_method_2_code 9 = .ok (.arraylength, 1) := by decide +kernel
theorem d_Rw_at_10 : decode prog_9_method_2_code 10 = .ok (.if_icmp .ge 12, 3) := by decide +kernel
theorem d_Rw_at_13 : decode prog_9_method_2_code 13 = .ok (.aload_n 0, 1) := by decide +kernel
theorem d_Rw_at_14 : decode prog_9_method_2_code 14 = .ok (.getfield 7, 3) := by decide +kernel
theorem d_Rw_at_17 : decode prog_9_method_2_code 17 = .ok (.iload_n 1, 1) := by decide +kernel
theorem d_Rw_at_18 : decode prog_9_method_2_code 18 = .ok (.iaload, 1) := by decide +kernel
theorem d_Rw_at_19 : decode prog_9_method_2_code 19 = .ok (.goto 4, 3) := by decide +kernel
theorem d_Rw_at_22 : decode prog_9_method_2_code 22 = .ok (.iconst 0, 1) := by decide +kernel
theorem d_Rw_at_23 : decode prog_9_method_2_code 23 = .ok (.ireturn, 1) := by decide +kernel
theorem d_Sh_isOfKind_0 : decode prog_10_method_23_code 0 = .ok (.aload_n 0, 1) := by decide +kernel
theorem d_Sh_isOfKind_1 : decode prog_10_method_23_code 1 = .ok (.getfield 23, 3) := by decide +kernel
theorem d_Sh_isOfKind_4 : decode prog_10_method_23_code 4 = .ok (.iload_n 1, 1) := by decide +kernel
theorem d_Sh_isOfKind_5 : decode prog_10_method_23_code 5 = .ok (.invokevirtual 71, 3) := by decide +kernel
theorem d_Sh_isOfKind_8 : decode prog_10_method_23_code 8 = .ok (.istore_n 3, 1) := by decide +kernel
theorem d_Sh_isOfKind_9 : decode prog_10_method_23_code 9 = .ok (.iload_n 2, 1) := by decide +kernel
theorem d_Sh_isOfKind_10 : decode prog_10_method_23_code 10 = .ok (.ifCond .eq 18, 3) := by decide +kernel
theorem d_Sh_isOfKind_13 : decode prog_10_method_23_code 13 = .ok (.iload_n 3, 1) := by decide +kernel
theorem d_Sh_isOfKind_14 : decode prog_10_method_23_code 14 = .ok (.iload_n 2, 1) := by decide +kernel
theorem d_Sh_isOfKind_15 : decode prog_10_method_23_code 15 = .ok (.if_icmp .eq 13, 3) := by decide +kernel
theorem d_Sh_isOfKind_18 : decode prog_10_method_23_code 18 = .ok (.iload_n 2, 1) := by decide +kernel
theorem d_Sh_isOfKind_19 : decode prog_10_method_23_code 19 = .ok (.iconst 1, 1) := by decide +kernel
theorem d_Sh_isOfKind_20 : decode prog_10_method_23_code 20 = .ok (.if_icmp .ne 12, 3) := by decide +kernel
theorem d_Sh_isOfKind_23 : decode prog_10_method_23_code 23 = .ok (.iload_n 3, 1) := by decide +kernel
theorem d_Sh_isOfKind_24 : decode prog_10_method_23_code 24 = .ok (.iconst 4, 1) := by decide +kernel
theorem d_Sh_isOfKind_25 : decode prog_10_method_23_code 25 = .ok (.if_icmp .ne 7, 3) := by decide +kernel
theorem d_Sh_isOfKind_28 : decode prog_10_method_23_code 28 = .ok (.iconst 1, 1) := by decide +kernel
theorem d_Sh_isOfKind_29 : decode prog_10_method_23_code 29 = .ok (.goto 4, 3) := by decide +kernel
theorem d_Sh_isOfKind_32 : decode prog_10_method_23_code 32 = .ok (.iconst 0, 1) := by decide +kernel
theorem d_Sh_isOfKind_33 : decode prog_10_method_23_code 33 = .ok (.ireturn, 1) := by decide +kernel
theorem d_Co_as_0 : decode prog_1_method_8_code 0 = .ok (.aload_n 0, 1) := by decide +kernel
theorem d_Co_as_1 : decode prog_1_method_8_code 1 = .ok (.getfield 28, 3) := by decide +kernel
theorem d_Co_as_4 : decode prog_1_method_8_code 4 = .ok (.iload_n 1, 1) := by decide +kernel
theorem d_Co_as_5 : decode prog_1_method_8_code 5 = .ok (.invokevirtual 111, 3) := by decide +kernel
theorem d_Co_as_8 : decode prog_1_method_8_code 8 = .ok (.ifCond .ne 6, 3) := by decide +kernel
theorem d_Co_as_11 : decode prog_1_method_8_code 11 = .ok (.bipush (-101), 2) := by decide +kernel
theorem d_Co_as_13 : decode prog_1_method_8_code 13 = .ok (.ireturn, 1) := by decide +kernel
theorem d_Co_as_14 : decode prog_1_method_8_code 14 = .ok (.iload_n 2, 1) := by decide +kernel
theorem d_Co_as_15 : decode prog_1_method_8_code 15 = .ok (.ifCond .lt 8, 3) := by decide +kernel
theorem d_Co_as_18 : decode prog_1_method_8_code 18 = .ok (.iload_n 2, 1) := by decide +kernel
theorem d_Co_as_19 : decode prog_1_method_8_code 19 = .ok (.iconst 4, 1) := by decide +kernel
theorem d_Co_as_20 : decode prog_1_method_8_code 20 = .ok (.if_icmp .le 6, 3) := by decide +kernel
theorem d_Co_as_23 : decode prog_1_method_8_code 23 = .ok (.bipush (-102), 2) := by decide +kernel
theorem d_Co_as_25 : decode prog_1_method_8_code 25 = .ok (.ireturn, 1) := by decide +kernel
theorem d_Co_as_26 : decode prog_1_method_8_code 26 = .ok (.aload_n 0, 1) := by decide +kernel
theorem d_Co_as_27 : decode prog_1_method_8_code 27 = .ok (.getfield 28, 3) := by decide +kernel
theorem d_Co_as_30 : decode prog_1_method_8_code 30 = .ok (.iload_n 1, 1) := by decide +kernel
theorem d_Co_as_31 : decode prog_1_method_8_code 31 = .ok (.iload_n 2, 1) := by decide +kernel
theorem d_Co_as_32 : decode prog_1_method_8_code 32 = .ok (.invokevirtual 148, 3) := by decide +kernel
theorem d_Co_as_35 : decode prog_1_method_8_code 35 = .ok (.ifCond .eq 7, 3) := by decide +kernel
theorem d_Co_as_38 : decode prog_1_method_8_code 38 = .ok (.iload_n 1, 1) := by decide +kernel
theorem d_Co_as_39 : decode prog_1_method_8_code 39 = .ok (.goto 4, 3) := by decide +kernel
theorem d_Co_as_42 : decode prog_1_method_8_code 42 = .ok (.iconst (-1), 1) := by decide +kernel
theorem d_Co_as_43 : decode prog_1_method_8_code 43 = .ok (.ireturn, 1) := by decide +kernel
theorem d_Sh_hasTree_0 : decode prog_10_method_6_code 0 = .ok (.iload_n 1, 1) := by decide +kernel
theorem d_Sh_hasTree_1 : decode prog_10_method_6_code 1 = .ok (.ifCond .lt 15, 3) := by decide +kernel
theorem d_Sh_hasTree_4 : decode prog_10_method_6_code 4 = .ok (.iload_n 1, 1) := by decide +kernel
theorem d_Sh_hasTree_5 : decode prog_10_method_6_code 5 = .ok (.aload_n 0, 1) := by decide +kernel
theorem d_Sh_hasTree_6 : decode prog_10_method_6_code 6 = .ok (.getfield 48, 3) := by decide +kernel
theorem d_Sh_hasTree_9 : decode prog_10_method_6_code 9 = .ok (.if_icmp .ge 7, 3) := by decide +kernel
theorem d_Sh_hasTree_12 : decode prog_10_method_6_code 12 = .ok (.iconst 1, 1) := by decide +kernel
theorem d_Sh_hasTree_13 : decode prog_10_method_6_code 13 = .ok (.goto 4, 3) := by decide +kernel
theorem d_Sh_hasTree_16 : decode prog_10_method_6_code 16 = .ok (.iconst 0, 1) := by decide +kernel
theorem d_Sh_hasTree_17 : decode prog_10_method_6_code 17 = .ok (.ireturn, 1) := by decide +kernel
theorem d_Sh_birdsAt_0 : decode prog_10_method_15_code 0 = .ok (.aload_n 0, 1) := by decide +kernel
theorem d_Sh_birdsAt_1 : decode prog_10_method_15_code 1 = .ok (.getfield 20, 3) := by decide +kernel
theorem d_Sh_birdsAt_4 : decode prog_10_method_15_code 4 = .ok (.iload_n 1, 1) := by decide +kernel
theorem d_Sh_birdsAt_5 : decode prog_10_method_15_code 5 = .ok (.invokevirtual 71, 3) := by decide +kernel
theorem d_Sh_birdsAt_8 : decode prog_10_method_15_code 8 = .ok (.ireturn, 1) := by decide +kernel
theorem d_Rw_put_0 : decode prog_9_method_3_code 0 = .ok (.iload_n 1, 1) := by decide +kernel
theorem d_Rw_put_1 : decode prog_9_method_3_code 1 = .ok (.ifCond .lt 19, 3) := by decide +kernel
theorem d_Rw_put_4 : decode prog_9_method_3_code 4 = .ok (.iload_n 1, 1) := by decide +kernel
theorem d_Rw_put_5 : decode prog_9_method_3_code 5 = .ok (.aload_n 0, 1) := by decide +kernel
theorem d_Rw_put_6 : decode prog_9_method_3_code 6 = .ok (.getfield 7, 3) := by decide +kernel
theorem d_Rw_put_9 : decode prog_9_method_3_code 9 = .ok (.arraylength, 1) := by decide +kernel
theorem d_Rw_put_10 : decode prog_9_method_3_code 10 = .ok (.if_icmp .ge 10, 3) := by decide +kernel
theorem d_Rw_put_13 : decode prog_9_method_3_code 13 = .ok (.aload_n 0, 1) := by decide +kernel
theorem d_Rw_put_14 : decode prog_9_method_3_code 14 = .ok (.getfield 7, 3) := by decide +kernel
theorem d_Rw_put_17 : decode prog_9_method_3_code 17 = .ok (.iload_n 1, 1) := by decide +kernel
theorem d_Rw_put_18 : decode prog_9_method_3_code 18 = .ok (.iload_n 2, 1) := by decide +kernel
theorem d_Rw_put_19 : decode prog_9_method_3_code 19 = .ok (.iastore, 1) := by decide +kernel
theorem d_Rw_put_20 : decode prog_9_method_3_code 20 = .ok (.return_, 1) := by decide +kernel
theorem d_Sh_setBirds_0 : decode prog_10_method_36_code 0 = .ok (.aload_n 0, 1) := by decide +kernel
theorem d_Sh_setBirds_1 : decode prog_10_method_36_code 1 = .ok (.getfield 20, 3) := by decide +kernel
theorem d_Sh_setBirds_4 : decode prog_10_method_36_code 4 = .ok (.iload_n 1, 1) := by decide +kernel
theorem d_Sh_setBirds_5 : decode prog_10_method_36_code 5 = .ok (.iload_n 2, 1) := by decide +kernel
theorem d_Sh_setBirds_6 : decode prog_10_method_36_code 6 = .ok (.invokevirtual 67, 3) := by decide +kernel
theorem d_Sh_setBirds_9 : decode prog_10_method_36_code 9 = .ok (.return_, 1) := by decide +kernel
theorem d_Co_birds_0 : decode prog_1_method_11_code 0 = .ok (.aload_n 0, 1) := by decide +kernel
theorem d_Co_birds_1 : decode prog_1_method_11_code 1 = .ok (.getfield 28, 3) := by decide +kernel
theorem d_Co_birds_4 : decode prog_1_method_11_code 4 = .ok (.iload_n 1, 1) := by decide +kernel
theorem d_Co_birds_5 : decode prog_1_method_11_code 5 = .ok (.invokevirtual 97, 3) := by decide +kernel
theorem d_Co_birds_8 : decode prog_1_method_11_code 8 = .ok (.ifCond .ne 6, 3) := by decide +kernel
theorem d_Co_birds_11 : decode prog_1_method_11_code 11 = .ok (.bipush (-101), 2) := by decide +kernel
theorem d_Co_birds_13 : decode prog_1_method_11_code 13 = .ok (.ireturn, 1) := by decide +kernel
theorem d_Co_birds_14 : decode prog_1_method_11_code 14 = .ok (.iload_n 2, 1) := by decide +kernel
theorem d_Co_birds_15 : decode prog_1_method_11_code 15 = .ok (.ifCond .lt 9, 3) := by decide +kernel
theorem d_Co_birds_18 : decode prog_1_method_11_code 18 = .ok (.iload_n 2, 1) := by decide +kernel
theorem d_Co_birds_19 : decode prog_1_method_11_code 19 = .ok (.bipush 9, 2) := by decide +kernel
theorem d_Co_birds_21 : decode prog_1_method_11_code 21 = .ok (.if_icmp .le 6, 3) := by decide +kernel
theorem d_Co_birds_24 : decode prog_1_method_11_code 24 = .ok (.bipush (-102), 2) := by decide +kernel
theorem d_Co_birds_26 : decode prog_1_method_11_code 26 = .ok (.ireturn, 1) := by decide +kernel
theorem d_Co_birds_27 : decode prog_1_method_11_code 27 = .ok (.aload_n 0, 1) := by decide +kernel
theorem d_Co_birds_28 : decode prog_1_method_11_code 28 = .ok (.getfield 28, 3) := by decide +kernel
theorem d_Co_birds_31 : decode prog_1_method_11_code 31 = .ok (.iload_n 1, 1) := by decide +kernel
theorem d_Co_birds_32 : decode prog_1_method_11_code 32 = .ok (.invokevirtual 105, 3) := by decide +kernel
theorem d_Co_birds_35 : decode prog_1_method_11_code 35 = .ok (.istore_n 3, 1) := by decide +kernel
theorem d_Co_birds_36 : decode prog_1_method_11_code 36 = .ok (.aload_n 0, 1) := by decide +kernel
theorem d_Co_birds_37 : decode prog_1_method_11_code 37 = .ok (.getfield 28, 3) := by decide +kernel
theorem d_Co_birds_40 : decode prog_1_method_11_code 40 = .ok (.iload_n 1, 1) := by decide +kernel
theorem d_Co_birds_41 : decode prog_1_method_11_code 41 = .ok (.iload_n 2, 1) := by decide +kernel
theorem d_Co_birds_42 : decode prog_1_method_11_code 42 = .ok (.invokevirtual 170, 3) := by decide +kernel
theorem d_Co_birds_45 : decode prog_1_method_11_code 45 = .ok (.iload_n 3, 1) := by decide +kernel
theorem d_Co_birds_46 : decode prog_1_method_11_code 46 = .ok (.ireturn, 1) := by decide +kernel
theorem d_Co_bit_0 : decode prog_1_method_26_code 0 = .ok (.iconst 1, 1) := by decide +kernel
theorem d_Co_bit_1 : decode prog_1_method_26_code 1 = .ok (.iload_n 0, 1) := by decide +kernel
theorem d_Co_bit_2 : decode prog_1_method_26_code 2 = .ok (.ishl, 1) := by decide +kernel
theorem d_Co_bit_3 : decode prog_1_method_26_code 3 = .ok (.ireturn, 1) := by decide +kernel
theorem d_Pg_size_0 : decode prog_6_method_2_code 0 = .ok (.aload_n 0, 1) := by decide +kernel
theorem d_Pg_size_1 : decode prog_6_method_2_code 1 = .ok (.getfield 20, 3) := by decide +kernel
theorem d_Pg_size_4 : decode prog_6_method_2_code 4 = .ok (.ireturn, 1) := by decide +kernel
theorem d_Pg_clear_0 : decode prog_6_method_6_code 0 = .ok (.aload_n 0, 1) := by decide +kernel
theorem d_Pg_clear_1 : decode prog_6_method_6_code 1 = .ok (.iconst 0, 1) := by decide +kernel
theorem d_Pg_clear_2 : decode prog_6_method_6_code 2 = .ok (.putfield 20, 3) := by decide +kernel
theorem d_Pg_clear_5 : decode prog_6_method_6_code 5 = .ok (.return_, 1) := by decide +kernel
theorem d_Co_blank_0 : decode prog_1_method_3_code 0 = .ok (.aload_n 0, 1) := by decide +kernel
theorem d_Co_blank_1 : decode prog_1_method_3_code 1 = .ok (.getfield 10, 3) := by decide +kernel
theorem d_Co_blank_4 : decode prog_1_method_3_code 4 = .ok (.invokevirtual 65, 3) := by decide +kernel
theorem d_Co_blank_7 : decode prog_1_method_3_code 7 = .ok (.istore_n 1, 1) := by decide +kernel
theorem d_Co_blank_8 : decode prog_1_method_3_code 8 = .ok (.aload_n 0, 1) := by decide +kernel
theorem d_Co_blank_9 : decode prog_1_method_3_code 9 = .ok (.getfield 10, 3) := by decide +kernel
theorem d_Co_blank_12 : decode prog_1_method_3_code 12 = .ok (.invokevirtual 73, 3) := by decide +kernel
theorem d_Co_blank_15 : decode prog_1_method_3_code 15 = .ok (.iload_n 1, 1) := by decide +kernel
theorem d_Co_blank_16 : decode prog_1_method_3_code 16 = .ok (.ireturn, 1) := by decide +kernel
theorem d_Co_isRead_0 : decode prog_1_method_25_code 0 = .ok (.aload_n 0, 1) := by decide +kernel
theorem d_Co_isRead_1 : decode prog_1_method_25_code 1 = .ok (.getfield 90, 3) := by decide +kernel
theorem d_Co_isRead_4 : decode prog_1_method_25_code 4 = .ok (.ifCond .le 7, 3) := by decide +kernel
theorem d_Co_isRead_7 : decode prog_1_method_25_code 7 = .ok (.iconst 1, 1) := by decide +kernel
theorem d_Co_isRead_8 : decode prog_1_method_25_code 8 = .ok (.goto 4, 3) := by decide +kernel
theorem d_Co_isRead_11 : decode prog_1_method_25_code 11 = .ok (.iconst 0, 1) := by decide +kernel
theorem d_Co_isRead_12 : decode prog_1_method_25_code 12 = .ok (.ireturn, 1) := by decide +kernel
theorem d_Rw_copyFrom_0 : decode prog_9_method_4_code 0 = .ok (.aload_n 1, 1) := by decide +kernel
theorem d_Rw_copyFrom_1 : decode prog_9_method_4_code 1 = .ok (.ifnonnull 4, 3) := by decide +kernel
theorem d_Rw_copyFrom_4 : decode prog_9_method_4_code 4 = .ok (.return_, 1) := by decide +kernel
theorem d_Rw_copyFrom_5 : decode prog_9_method_4_code 5 = .ok (.iconst 0, 1) := by decide +kernel
theorem d_Rw_copyFrom_6 : decode prog_9_method_4_code 6 = .ok (.istore_n 2, 1) := by decide +kernel
theorem d_Rw_copyFrom_7 : decode prog_9_method_4_code 7 = .ok (.iload_n 2, 1) := by decide +kernel
theorem d_Rw_copyFrom_8 : decode prog_9_method_4_code 8 = .ok (.aload_n 0, 1) := by decide +kernel
theorem d_Rw_copyFrom_9 : decode prog_9_method_4_code 9 = .ok (.getfield 7, 3) := by decide +kernel
theorem d_Rw_copyFrom_12 : decode prog_9_method_4_code 12 = .ok (.arraylength, 1) := by decide +kernel
theorem d_Rw_copyFrom_13 : decode prog_9_method_4_code 13 = .ok (.if_icmp .ge 20, 3) := by decide +kernel
theorem d_Rw_copyFrom_16 : decode prog_9_method_4_code 16 = .ok (.aload_n 0, 1) := by decide +kernel
theorem d_Rw_copyFrom_17 : decode prog_9_method_4_code 17 = .ok (.getfield 7, 3) := by decide +kernel
theorem d_Rw_copyFrom_20 : decode prog_9_method_4_code 20 = .ok (.iload_n 2, 1) := by decide +kernel
theorem d_Rw_copyFrom_21 : decode prog_9_method_4_code 21 = .ok (.aload_n 1, 1) := by decide +kernel
theorem d_Rw_copyFrom_22 : decode prog_9_method_4_code 22 = .ok (.iload_n 2, 1) := by decide +kernel
theorem d_Rw_copyFrom_23 : decode prog_9_method_4_code 23 = .ok (.invokevirtual 13, 3) := by decide +kernel
theorem d_Rw_copyFrom_26 : decode prog_9_method_4_code 26 = .ok (.iastore, 1) := by decide +kernel
theorem d_Rw_copyFrom_27 : decode prog_9_method_4_code 27 = .ok (.iinc 2 1, 3) := by decide +kernel
theorem d_Rw_copyFrom_30 : decode prog_9_method_4_code 30 = .ok (.goto (-23), 3) := by decide +kernel
theorem d_Rw_copyFrom_33 : decode prog_9_method_4_code 33 = .ok (.return_, 1) := by decide +kernel
theorem d_Si_copyFrom_0 : decode prog_11_method_5_code 0 = .ok (.aload_n 1, 1) := by decide +kernel
theorem d_Si_copyFrom_1 : decode prog_11_method_5_code 1 = .ok (.ifnonnull 4, 3) := by decide +kernel
theorem d_Si_copyFrom_4 : decode prog_11_method_5_code 4 = .ok (.return_, 1) := by decide +kernel
theorem d_Si_copyFrom_5 : decode prog_11_method_5_code 5 = .ok (.aload_n 0, 1) := by decide +kernel
theorem d_Si_copyFrom_6 : decode prog_11_method_5_code 6 = .ok (.getfield 14, 3) := by decide +kernel
theorem d_Si_copyFrom_9 : decode prog_11_method_5_code 9 = .ok (.aload_n 1, 1) := by decide +kernel
theorem d_Si_copyFrom_10 : decode prog_11_method_5_code 10 = .ok (.getfield 14, 3) := by decide +kernel
theorem d_Si_copyFrom_13 : decode prog_11_method_5_code 13 = .ok (.invokevirtual 34, 3) := by decide +kernel
theorem d_Si_copyFrom_16 : decode prog_11_method_5_code 16 = .ok (.aload_n 0, 1) := by decide +kernel
theorem d_Si_copyFrom_17 : decode prog_11_method_5_code 17 = .ok (.getfield 20, 3) := by decide +kernel
theorem d_Si_copyFrom_20 : decode prog_11_method_5_code 20 = .ok (.aload_n 1, 1) := by decide +kernel
theorem d_Si_copyFrom_21 : decode prog_11_method_5_code 21 = .ok (.getfield 20, 3) := by decide +kernel
theorem d_Si_copyFrom_24 : decode prog_11_method_5_code 24 = .ok (.invokevirtual 34, 3) := by decide +kernel
theorem d_Si_copyFrom_27 : decode prog_11_method_5_code 27 = .ok (.aload_n 0, 1) := by decide +kernel
theorem d_Si_copyFrom_28 : decode prog_11_method_5_code 28 = .ok (.getfield 23, 3) := by decide +kernel
theorem d_Si_copyFrom_31 : decode prog_11_method_5_code 31 = .ok (.aload_n 1, 1) := by decide +kernel
theorem d_Si_copyFrom_32 : decode prog_11_method_5_code 32 = .ok (.getfield 23, 3) := by decide +kernel
theorem d_Si_copyFrom_35 : decode prog_11_method_5_code 35 = .ok (.invokevirtual 34, 3) := by decide +kernel
theorem d_Si_copyFrom_38 : decode prog_11_method_5_code 38 = .ok (.aload_n 0, 1) := by decide +kernel
theorem d_Si_copyFrom_39 : decode prog_11_method_5_code 39 = .ok (.aload_n 1, 1) := by decide +kernel
theorem d_Si_copyFrom_40 : decode prog_11_method_5_code 40 = .ok (.getfield 26, 3) := by decide +kernel
theorem d_Si_copyFrom_43 : decode prog_11_method_5_code 43 = .ok (.putfield 26, 3) := by decide +kernel
theorem d_Si_copyFrom_46 : decode prog_11_method_5_code 46 = .ok (.return_, 1) := by decide +kernel
theorem d_Sh_copyFrom_0 : decode prog_10_method_5_code 0 = .ok (.aload_n 1, 1) := by decide +kernel
theorem d_Sh_copyFrom_1 : decode prog_10_method_5_code 1 = .ok (.ifnonnull 4, 3) := by decide +kernel
theorem d_Sh_copyFrom_4 : decode prog_10_method_5_code 4 = .ok (.return_, 1) := by decide +kernel
theorem d_Sh_copyFrom_5 : decode prog_10_method_5_code 5 = .ok (.aload_n 0, 1) := by decide +kernel
theorem d_Sh_copyFrom_6 : decode prog_10_method_5_code 6 = .ok (.aload_n 1, 1) := by decide +kernel
theorem d_Sh_copyFrom_7 : decode prog_10_method_5_code 7 = .ok (.getfield 48, 3) := by decide +kernel
theorem d_Sh_copyFrom_10 : decode prog_10_method_5_code 10 = .ok (.putfield 48, 3) := by decide +kernel
theorem d_Sh_copyFrom_13 : decode prog_10_method_5_code 13 = .ok (.aload_n 0, 1) := by decide +kernel
theorem d_Sh_copyFrom_14 : decode prog_10_method_5_code 14 = .ok (.aload_n 1, 1) := by decide +kernel
theorem d_Sh_copyFrom_15 : decode prog_10_method_5_code 15 = .ok (.getfield 52, 3) := by decide +kernel
theorem d_Sh_copyFrom_18 : decode prog_10_method_5_code 18 = .ok (.putfield 52, 3) := by decide +kernel
theorem d_Sh_copyFrom_21 : decode prog_10_method_5_code 21 = .ok (.aload_n 0, 1) := by decide +kernel
theorem d_Sh_copyFrom_22 : decode prog_10_method_5_code 22 = .ok (.getfield 14, 3) := by decide +kernel
theorem d_Sh_copyFrom_25 : decode prog_10_method_5_code 25 = .ok (.aload_n 1, 1) := by decide +kernel
theorem d_Sh_copyFrom_26 : decode prog_10_method_5_code 26 = .ok (.getfield 14, 3) := by decide +kernel
theorem d_Sh_copyFrom_29 : decode prog_10_method_5_code 29 = .ok (.invokevirtual 78, 3) := by decide +kernel
theorem d_Sh_copyFrom_32 : decode prog_10_method_5_code 32 = .ok (.aload_n 0, 1) := by decide +kernel
theorem d_Sh_copyFrom_33 : decode prog_10_method_5_code 33 = .ok (.getfield 20, 3) := by decide +kernel
theorem d_Sh_copyFrom_36 : decode prog_10_method_5_code 36 = .ok (.aload_n 1, 1) := by decide +kernel
theorem d_Sh_copyFrom_37 : decode prog_10_method_5_code 37 = .ok (.getfield 20, 3) := by decide +kernel
theorem d_Sh_copyFrom_40 : decode prog_10_method_5_code 40 = .ok (.invokevirtual 78, 3) := by decide +kernel
theorem d_Sh_copyFrom_43 : decode prog_10_method_5_code 43 = .ok (.aload_n 0, 1) := by decide +kernel
theorem d_Sh_copyFrom_44 : decode prog_10_method_5_code 44 = .ok (.getfield 23, 3) := by decide +kernel
theorem d_Sh_copyFrom_47 : decode prog_10_method_5_code 47 = .ok (.aload_n 1, 1) := by decide +kernel
theorem d_Sh_copyFrom_48 : decode prog_10_method_5_code 48 = .ok (.getfield 23, 3) := by decide +kernel
theorem d_Sh_copyFrom_51 : decode prog_10_method_5_code 51 = .ok (.invokevirtual 78, 3) := by decide +kernel
theorem d_Sh_copyFrom_54 : decode prog_10_method_5_code 54 = .ok (.aload_n 0, 1) := by decide +kernel
theorem d_Sh_copyFrom_55 : decode prog_10_method_5_code 55 = .ok (.getfield 26, 3) := by decide +kernel
theorem d_Sh_copyFrom_58 : decode prog_10_method_5_code 58 = .ok (.aload_n 1, 1) := by decide +kernel
theorem d_Sh_copyFrom_59 : decode prog_10_method_5_code 59 = .ok (.getfield 26, 3) := by decide +kernel
theorem d_Sh_copyFrom_62 : decode prog_10_method_5_code 62 = .ok (.invokevirtual 78, 3) := by decide +kernel
theorem d_Sh_copyFrom_65 : decode prog_10_method_5_code 65 = .ok (.aload_n 0, 1) := by decide +kernel
theorem d_Sh_copyFrom_66 : decode prog_10_method_5_code 66 = .ok (.getfield 29, 3) := by decide +kernel
theorem d_Sh_copyFrom_69 : decode prog_10_method_5_code 69 = .ok (.aload_n 1, 1) := by decide +kernel
theorem d_Sh_copyFrom_70 : decode prog_10_method_5_code 70 = .ok (.getfield 29, 3) := by decide +kernel
theorem d_Sh_copyFrom_73 : decode prog_10_method_5_code 73 = .ok (.invokevirtual 78, 3) := by decide +kernel
theorem d_Sh_copyFrom_76 : decode prog_10_method_5_code 76 = .ok (.aload_n 0, 1) := by decide +kernel
theorem d_Sh_copyFrom_77 : decode prog_10_method_5_code 77 = .ok (.getfield 32, 3) := by decide +kernel
theorem d_Sh_copyFrom_80 : decode prog_10_method_5_code 80 = .ok (.aload_n 1, 1) := by decide +kernel
theorem d_Sh_copyFrom_81 : decode prog_10_method_5_code 81 = .ok (.getfield 32, 3) := by decide +kernel
theorem d_Sh_copyFrom_84 : decode prog_10_method_5_code 84 = .ok (.invokevirtual 78, 3) := by decide +kernel
theorem d_Sh_copyFrom_87 : decode prog_10_method_5_code 87 = .ok (.aload_n 0, 1) := by decide +kernel
theorem d_Sh_copyFrom_88 : decode prog_10_method_5_code 88 = .ok (.getfield 35, 3) := by decide +kernel
theorem d_Sh_copyFrom_91 : decode prog_10_method_5_code 91 = .ok (.aload_n 1, 1) := by decide +kernel
theorem d_Sh_copyFrom_92 : decode prog_10_method_5_code 92 = .ok (.getfield 35, 3) := by decide +kernel
theorem d_Sh_copyFrom_95 : decode prog_10_method_5_code 95 = .ok (.invokevirtual 78, 3) := by decide +kernel
theorem d_Sh_copyFrom_98 : decode prog_10_method_5_code 98 = .ok (.aload_n 0, 1) := by decide +kernel
theorem d_Sh_copyFrom_99 : decode prog_10_method_5_code 99 = .ok (.getfield 38, 3) := by decide +kernel
theorem d_Sh_copyFrom_102 : decode prog_10_method_5_code 102 = .ok (.aload_n 1, 1) := by decide +kernel
theorem d_Sh_copyFrom_103 : decode prog_10_method_5_code 103 = .ok (.getfield 38, 3) := by decide +kernel
theorem d_Sh_copyFrom_106 : decode prog_10_method_5_code 106 = .ok (.invokevirtual 78, 3) := by decide +kernel
theorem d_Sh_copyFrom_109 : decode prog_10_method_5_code 109 = .ok (.aload_n 0, 1) := by decide +kernel
theorem d_Sh_copyFrom_110 : decode prog_10_method_5_code 110 = .ok (.getfield 44, 3) := by decide +kernel
theorem d_Sh_copyFrom_113 : decode prog_10_method_5_code 113 = .ok (.aload_n 1, 1) := by decide +kernel
theorem d_Sh_copyFrom_114 : decode prog_10_method_5_code 114 = .ok (.getfield 44, 3) := by decide +kernel
theorem d_Sh_copyFrom_117 : decode prog_10_method_5_code 117 = .ok (.invokevirtual 82, 3) := by decide +kernel
theorem d_Sh_copyFrom_120 : decode prog_10_method_5_code 120 = .ok (.aload_n 0, 1) := by decide +kernel
theorem d_Sh_copyFrom_121 : decode prog_10_method_5_code 121 = .ok (.aload_n 1, 1) := by decide +kernel
theorem d_Sh_copyFrom_122 : decode prog_10_method_5_code 122 = .ok (.getfield 55, 3) := by decide +kernel
theorem d_Sh_copyFrom_125 : decode prog_10_method_5_code 125 = .ok (.putfield 55, 3) := by decide +kernel
theorem d_Sh_copyFrom_128 : decode prog_10_method_5_code 128 = .ok (.aload_n 0, 1) := by decide +kernel
theorem d_Sh_copyFrom_129 : decode prog_10_method_5_code 129 = .ok (.aload_n 1, 1) := by decide +kernel
theorem d_Sh_copyFrom_130 : decode prog_10_method_5_code 130 = .ok (.getfield 58, 3) := by decide +kernel
theorem d_Sh_copyFrom_133 : decode prog_10_method_5_code 133 = .ok (.putfield 58, 3) := by decide +kernel
theorem d_Sh_copyFrom_136 : decode prog_10_method_5_code 136 = .ok (.aload_n 0, 1) := by decide +kernel
theorem d_Sh_copyFrom_137 : decode prog_10_method_5_code 137 = .ok (.aload_n 1, 1) := by decide +kernel
theorem d_Sh_copyFrom_138 : decode prog_10_method_5_code 138 = .ok (.getfield 61, 3) := by decide +kernel
theorem d_Sh_copyFrom_141 : decode prog_10_method_5_code 141 = .ok (.putfield 61, 3) := by decide +kernel
theorem d_Sh_copyFrom_144 : decode prog_10_method_5_code 144 = .ok (.return_, 1) := by decide +kernel
theorem d_Sh_suits_0 : decode prog_10_method_9_code 0 = .ok (.aload_n 0, 1) := by decide +kernel
theorem d_Sh_suits_1 : decode prog_10_method_9_code 1 = .ok (.getfield 52, 3) := by decide +kernel
theorem d_Sh_suits_4 : decode prog_10_method_9_code 4 = .ok (.ireturn, 1) := by decide +kernel
theorem d_Fo_draw_0 : decode prog_4_method_6_code 0 = .ok (.aload_n 0, 1) := by decide +kernel
theorem d_Fo_draw_1 : decode prog_4_method_6_code 1 = .ok (.ldc2_w 55, 3) := by decide +kernel
theorem d_Fo_draw_4 : decode prog_4_method_6_code 4 = .ok (.aload_n 0, 1) := by decide +kernel
theorem d_Fo_draw_5 : decode prog_4_method_6_code 5 = .ok (.getfield 26, 3) := by decide +kernel
theorem d_Fo_draw_8 : decode prog_4_method_6_code 8 = .ok (.lmul, 1) := by decide +kernel
theorem d_Fo_draw_9 : decode prog_4_method_6_code 9 = .ok (.ldc2_w 57, 3) := by decide +kernel
theorem d_Fo_draw_12 : decode prog_4_method_6_code 12 = .ok (.ladd, 1) := by decide +kernel
theorem d_Fo_draw_13 : decode prog_4_method_6_code 13 = .ok (.ldc2_w 59, 3) := by decide +kernel
theorem d_Fo_draw_16 : decode prog_4_method_6_code 16 = .ok (.lrem, 1) := by decide +kernel
theorem d_Fo_draw_17 : decode prog_4_method_6_code 17 = .ok (.putfield 26, 3) := by decide +kernel
theorem d_Fo_draw_20 : decode prog_4_method_6_code 20 = .ok (.iload_n 1, 1) := by decide +kernel
theorem d_Fo_draw_21 : decode prog_4_method_6_code 21 = .ok (.ifCond .le 18, 3) := by decide +kernel
theorem d_Fo_draw_24 : decode prog_4_method_6_code 24 = .ok (.aload_n 0, 1) := by decide +kernel
theorem d_Fo_draw_25 : decode prog_4_method_6_code 25 = .ok (.getfield 26, 3) := by decide +kernel
theorem d_Fo_draw_28 : decode prog_4_method_6_code 28 = .ok (.ldc2_w 61, 3) := by decide +kernel
theorem d_Fo_draw_31 : decode prog_4_method_6_code 31 = .ok (.ldiv, 1) := by decide +kernel
theorem d_Fo_draw_32 : decode prog_4_method_6_code 32 = .ok (.iload_n 1, 1) := by decide +kernel
theorem d_Fo_draw_33 : decode prog_4_method_6_code 33 = .ok (.i2l, 1) := by decide +kernel
theorem d_Fo_draw_34 : decode prog_4_method_6_code 34 = .ok (.lrem, 1) := by decide +kernel
theorem d_Fo_draw_35 : decode prog_4_method_6_code 35 = .ok (.l2i, 1) := by decide +kernel
theorem d_Fo_draw_36 : decode prog_4_method_6_code 36 = .ok (.goto 4, 3) := by decide +kernel
theorem d_Fo_draw_39 : decode prog_4_method_6_code 39 = .ok (.iconst 0, 1) := by decide +kernel
theorem d_Fo_draw_40 : decode prog_4_method_6_code 40 = .ok (.ireturn, 1) := by decide +kernel
theorem d_Sh_trees_0 : decode prog_10_method_8_code 0 = .ok (.aload_n 0, 1) := by decide +kernel
theorem d_Sh_trees_1 : decode prog_10_method_8_code 1 = .ok (.getfield 48, 3) := by decide +kernel
theorem d_Sh_trees_4 : decode prog_10_method_8_code 4 = .ok (.ireturn, 1) := by decide +kernel
theorem d_Co_has_0 : decode prog_1_method_27_code 0 = .ok (.iload_n 0, 1) := by decide +kernel
theorem d_Co_has_1 : decode prog_1_method_27_code 1 = .ok (.iload_n 1, 1) := by decide +kernel
theorem d_Co_has_2 : decode prog_1_method_27_code 2 = .ok (.ishr, 1) := by decide +kernel
theorem d_Co_has_3 : decode prog_1_method_27_code 3 = .ok (.iconst 1, 1) := by decide +kernel
theorem d_Co_has_4 : decode prog_1_method_27_code 4 = .ok (.iand, 1) := by decide +kernel
theorem d_Co_has_5 : decode prog_1_method_27_code 5 = .ok (.iconst 1, 1) := by decide +kernel
theorem d_Co_has_6 : decode prog_1_method_27_code 6 = .ok (.if_icmp .ne 7, 3) := by decide +kernel
theorem d_Co_has_9 : decode prog_1_method_27_code 9 = .ok (.iconst 1, 1) := by decide +kernel
theorem d_Co_has_10 : decode prog_1_method_27_code 10 = .ok (.goto 4, 3) := by decide +kernel
theorem d_Co_has_13 : decode prog_1_method_27_code 13 = .ok (.iconst 0, 1) := by decide +kernel
theorem d_Co_has_14 : decode prog_1_method_27_code 14 = .ok (.ireturn, 1) := by decide +kernel
theorem d_Sh_isOpen_0 : decode prog_10_method_29_code 0 = .ok (.iload_n 2, 1) := by decide +kernel
theorem d_Sh_isOpen_1 : decode prog_10_method_29_code 1 = .ok (.iload_n 1, 1) := by decide +kernel
theorem d_Sh_isOpen_2 : decode prog_10_method_29_code 2 = .ok (.invokestatic 105, 3) := by decide +kernel
theorem d_Sh_isOpen_5 : decode prog_10_method_29_code 5 = .ok (.ifCond .eq 5, 3) := by decide +kernel
theorem d_Sh_isOpen_8 : decode prog_10_method_29_code 8 = .ok (.iconst 0, 1) := by decide +kernel
theorem d_Sh_isOpen_9 : decode prog_10_method_29_code 9 = .ok (.ireturn, 1) := by decide +kernel
theorem d_Sh_isOpen_10 : decode prog_10_method_29_code 10 = .ok (.aload_n 0, 1) := by decide +kernel
theorem d_Sh_isOpen_11 : decode prog_10_method_29_code 11 = .ok (.getfield 32, 3) := by decide +kernel
theorem d_Sh_isOpen_14 : decode prog_10_method_29_code 14 = .ok (.iload_n 1, 1) := by decide +kernel
theorem d_Sh_isOpen_15 : decode prog_10_method_29_code 15 = .ok (.invokevirtual 71, 3) := by decide +kernel
theorem d_Sh_isOpen_18 : decode prog_10_method_29_code 18 = .ok (.istore_n 3, 1) := by decide +kernel
theorem d_Sh_isOpen_19 : decode prog_10_method_29_code 19 = .ok (.aload_n 0, 1) := by decide +kernel
theorem d_Sh_isOpen_20 : decode prog_10_method_29_code 20 = .ok (.getfield 23, 3) := by decide +kernel
theorem d_Sh_isOpen_23 : decode prog_10_method_29_code 23 = .ok (.iload_n 1, 1) := by decide +kernel
theorem d_Sh_isOpen_24 : decode prog_10_method_29_code 24 = .ok (.invokevirtual 71, 3) := by decide +kernel
theorem d_Sh_isOpen_27 : decode prog_10_method_29_code 27 = .ok (.iconst 3, 1) := by decide +kernel
theorem d_Sh_isOpen_28 : decode prog_10_method_29_code 28 = .ok (.if_icmp .ne 16, 3) := by decide +kernel
theorem d_Sh_isOpen_31 : decode prog_10_method_29_code 31 = .ok (.iload_n 3, 1) := by decide +kernel
theorem d_Sh_isOpen_32 : decode prog_10_method_29_code 32 = .ok (.iconst (-1), 1) := by decide +kernel
theorem d_Sh_isOpen_33 : decode prog_10_method_29_code 33 = .ok (.if_icmp .eq 11, 3) := by decide +kernel
theorem d_Sh_isOpen_36 : decode prog_10_method_29_code 36 = .ok (.iload_n 2, 1) := by decide +kernel
theorem d_Sh_isOpen_37 : decode prog_10_method_29_code 37 = .ok (.iload_n 3, 1) := by decide +kernel
theorem d_Sh_isOpen_38 : decode prog_10_method_29_code 38 = .ok (.invokestatic 105, 3) := by decide +kernel
theorem d_Sh_isOpen_41 : decode prog_10_method_29_code 41 = .ok (.ifCond .eq 7, 3) := by decide +kernel
theorem d_Sh_isOpen_44 : decode prog_10_method_29_code 44 = .ok (.iconst 1, 1) := by decide +kernel
theorem d_Sh_isOpen_45 : decode prog_10_method_29_code 45 = .ok (.goto 4, 3) := by decide +kernel
theorem d_Sh_isOpen_48 : decode prog_10_method_29_code 48 = .ok (.iconst 0, 1) := by decide +kernel
theorem d_Sh_isOpen_49 : decode prog_10_method_29_code 49 = .ok (.ireturn, 1) := by decide +kernel
theorem d_Sh_costAtNeed_0 : decode prog_10_method_25_code 0 = .ok (.iconst 1, 1) := by decide +kernel
theorem d_Sh_costAtNeed_1 : decode prog_10_method_25_code 1 = .ok (.iload_n 2, 1) := by decide +kernel
theorem d_Sh_costAtNeed_2 : decode prog_10_method_25_code 2 = .ok (.aload_n 0, 1) := by decide +kernel
theorem d_Sh_costAtNeed_3 : decode prog_10_method_25_code 3 = .ok (.getfield 35, 3) := by decide +kernel
theorem d_Sh_costAtNeed_6 : decode prog_10_method_25_code 6 = .ok (.iload_n 1, 1) := by decide +kernel
theorem d_Sh_costAtNeed_7 : decode prog_10_method_25_code 7 = .ok (.invokevirtual 71, 3) := by decide +kernel
theorem d_Sh_costAtNeed_10 : decode prog_10_method_25_code 10 = .ok (.isub, 1) := by decide +kernel
theorem d_Sh_costAtNeed_11 : decode prog_10_method_25_code 11 = .ok (.invokestatic 92, 3) := by decide +kernel
theorem d_Sh_costAtNeed_14 : decode prog_10_method_25_code 14 = .ok (.istore_n 3, 1) := by decide +kernel
theorem d_Sh_costAtNeed_15 : decode prog_10_method_25_code 15 = .ok (.aload_n 0, 1) := by decide +kernel
theorem d_Sh_costAtNeed_16 : decode prog_10_method_25_code 16 = .ok (.getfield 23, 3) := by decide +kernel
theorem d_Sh_costAtNeed_19 : decode prog_10_method_25_code 19 = .ok (.iload_n 1, 1) := by decide +kernel
theorem d_Sh_costAtNeed_20 : decode prog_10_method_25_code 20 = .ok (.invokevirtual 71, 3) := by decide +kernel
theorem d_Sh_costAtNeed_23 : decode prog_10_method_25_code 23 = .ok (.tableswitch 41 1 4 #[29, 37, 41, 31], 29) := by decide +kernel
theorem d_Sh_costAtNeed_52 : decode prog_10_method_25_code 52 = .ok (.iload_n 3, 1) := by decide +kernel
theorem d_Sh_costAtNeed_53 : decode prog_10_method_25_code 53 = .ok (.ireturn, 1) := by decide +kernel
theorem d_Sh_costAtNeed_54 : decode prog_10_method_25_code 54 = .ok (.iload_n 3, 1) := by decide +kernel
theorem d_Sh_costAtNeed_55 : decode prog_10_method_25_code 55 = .ok (.iconst 1, 1) := by decide +kernel
theorem d_Sh_costAtNeed_56 : decode prog_10_method_25_code 56 = .ok (.iadd, 1) := by decide +kernel
theorem d_Sh_costAtNeed_57 : decode prog_10_method_25_code 57 = .ok (.iconst 2, 1) := by decide +kernel
theorem d_Sh_costAtNeed_58 : decode prog_10_method_25_code 58 = .ok (.idiv, 1) := by decide +kernel
theorem d_Sh_costAtNeed_59 : decode prog_10_method_25_code 59 = .ok (.ireturn, 1) := by decide +kernel
theorem d_Sh_costAtNeed_60 : decode prog_10_method_25_code 60 = .ok (.iconst 2, 1) := by decide +kernel
theorem d_Sh_costAtNeed_61 : decode prog_10_method_25_code 61 = .ok (.iload_n 2, 1) := by decide +kernel
theorem d_Sh_costAtNeed_62 : decode prog_10_method_25_code 62 = .ok (.imul, 1) := by decide +kernel
theorem d_Sh_costAtNeed_63 : decode prog_10_method_25_code 63 = .ok (.ireturn, 1) := by decide +kernel
theorem d_Sh_costAtNeed_64 : decode prog_10_method_25_code 64 = .ok (.iload_n 2, 1) := by decide +kernel
theorem d_Sh_costAtNeed_65 : decode prog_10_method_25_code 65 = .ok (.ireturn, 1) := by decide +kernel
theorem d_Sh_cost_0 : decode prog_10_method_24_code 0 = .ok (.aload_n 0, 1) := by decide +kernel
theorem d_Sh_cost_1 : decode prog_10_method_24_code 1 = .ok (.iload_n 1, 1) := by decide +kernel
theorem d_Sh_cost_2 : decode prog_10_method_24_code 2 = .ok (.aload_n 0, 1) := by decide +kernel
theorem d_Sh_cost_3 : decode prog_10_method_24_code 3 = .ok (.getfield 26, 3) := by decide +kernel
theorem d_Sh_cost_6 : decode prog_10_method_24_code 6 = .ok (.iload_n 1, 1) := by decide +kernel
theorem d_Sh_cost_7 : decode prog_10_method_24_code 7 = .ok (.invokevirtual 71, 3) := by decide +kernel
theorem d_Sh_cost_10 : decode prog_10_method_24_code 10 = .ok (.invokevirtual 88, 3) := by decide +kernel
theorem d_Sh_cost_13 : decode prog_10_method_24_code 13 = .ok (.ireturn, 1) := by decide +kernel
theorem d_Sh_isPossible_0 : decode prog_10_method_30_code 0 = .ok (.aload_n 0, 1) := by decide +kernel
theorem d_Sh_isPossible_1 : decode prog_10_method_30_code 1 = .ok (.iload_n 1, 1) := by decide +kernel
theorem d_Sh_isPossible_2 : decode prog_10_method_30_code 2 = .ok (.aload_n 0, 1) := by decide +kernel
theorem d_Sh_isPossible_3 : decode prog_10_method_30_code 3 = .ok (.getfield 55, 3) := by decide +kernel
theorem d_Sh_isPossible_6 : decode prog_10_method_30_code 6 = .ok (.invokevirtual 109, 3) := by decide +kernel
theorem d_Sh_isPossible_9 : decode prog_10_method_30_code 9 = .ok (.ifCond .eq 23, 3) := by decide +kernel
theorem d_Sh_isPossible_12 : decode prog_10_method_30_code 12 = .ok (.aload_n 0, 1) := by decide +kernel
theorem d_Sh_isPossible_13 : decode prog_10_method_30_code 13 = .ok (.getfield 14, 3) := by decide +kernel
theorem d_Sh_isPossible_16 : decode prog_10_method_30_code 16 = .ok (.iload_n 2, 1) := by decide +kernel
theorem d_Sh_isPossible_17 : decode prog_10_method_30_code 17 = .ok (.invokevirtual 71, 3) := by decide +kernel
theorem d_Sh_isPossible_20 : decode prog_10_method_30_code 20 = .ok (.aload_n 0, 1) := by decide +kernel
theorem d_Sh_isPossible_21 : decode prog_10_method_30_code 21 = .ok (.iload_n 1, 1) := by decide +kernel
theorem d_Sh_isPossible_22 : decode prog_10_method_30_code 22 = .ok (.invokevirtual 112, 3) := by decide +kernel
theorem d_Sh_isPossible_25 : decode prog_10_method_30_code 25 = .ok (.if_icmp .lt 7, 3) := by decide +kernel
theorem d_Sh_isPossible_28 : decode prog_10_method_30_code 28 = .ok (.iconst 1, 1) := by decide +kernel
theorem d_Sh_isPossible_29 : decode prog_10_method_30_code 29 = .ok (.goto 4, 3) := by decide +kernel
theorem d_Sh_isPossible_32 : decode prog_10_method_30_code 32 = .ok (.iconst 0, 1) := by decide +kernel
theorem d_Sh_isPossible_33 : decode prog_10_method_30_code 33 = .ok (.ireturn, 1) := by decide +kernel
theorem d_Sh_rightedBehind_0 : decode prog_10_method_32_code 0 = .ok (.iload_n 2, 1) := by decide +kernel
theorem d_Sh_rightedBehind_1 : decode prog_10_method_32_code 1 = .ok (.iload_n 1, 1) := by decide +kernel
theorem d_Sh_rightedBehind_2 : decode prog_10_method_32_code 2 = .ok (.invokestatic 75, 3) := by decide +kernel
theorem d_Sh_rightedBehind_5 : decode prog_10_method_32_code 5 = .ok (.ior, 1) := by decide +kernel
theorem d_Sh_rightedBehind_6 : decode prog_10_method_32_code 6 = .ok (.aload_n 0, 1) := by decide +kernel
theorem d_Sh_rightedBehind_7 : decode prog_10_method_32_code 7 = .ok (.getfield 38, 3) := by decide +kernel
theorem d_Sh_rightedBehind_10 : decode prog_10_method_32_code 10 = .ok (.iload_n 1, 1) := by decide +kernel
theorem d_Sh_rightedBehind_11 : decode prog_10_method_32_code 11 = .ok (.invokevirtual 71, 3) := by decide +kernel
theorem d_Sh_rightedBehind_14 : decode prog_10_method_32_code 14 = .ok (.iconst (-1), 1) := by decide +kernel
theorem d_Sh_rightedBehind_15 : decode prog_10_method_32_code 15 = .ok (.ixor, 1) := by decide +kernel
theorem d_Sh_rightedBehind_16 : decode prog_10_method_32_code 16 = .ok (.iand, 1) := by decide +kernel
theorem d_Sh_rightedBehind_17 : decode prog_10_method_32_code 17 = .ok (.ireturn, 1) := by decide +kernel
theorem d_Sh_pluckAndRight_0 : decode prog_10_method_33_code 0 = .ok (.aload_n 0, 1) := by decide +kernel
theorem d_Sh_pluckAndRight_1 : decode prog_10_method_33_code 1 = .ok (.getfield 14, 3) := by decide +kernel
theorem d_Sh_pluckAndRight_4 : decode prog_10_method_33_code 4 = .ok (.iload_n 2, 1) := by decide +kernel
theorem d_Sh_pluckAndRight_5 : decode prog_10_method_33_code 5 = .ok (.aload_n 0, 1) := by decide +kernel
theorem d_Sh_pluckAndRight_6 : decode prog_10_method_33_code 6 = .ok (.getfield 14, 3) := by decide +kernel
theorem d_Sh_pluckAndRight_9 : decode prog_10_method_33_code 9 = .ok (.iload_n 2, 1) := by decide +kernel
theorem d_Sh_pluckAndRight_10 : decode prog_10_method_33_code 10 = .ok (.invokevirtual 71, 3) := by decide +kernel
theorem d_Sh_pluckAndRight_13 : decode prog_10_method_33_code 13 = .ok (.aload_n 0, 1) := by decide +kernel
theorem d_Sh_pluckAndRight_14 : decode prog_10_method_33_code 14 = .ok (.iload_n 1, 1) := by decide +kernel
theorem d_Sh_pluckAndRight_15 : decode prog_10_method_33_code 15 = .ok (.invokevirtual 112, 3) := by decide +kernel
theorem d_Sh_pluckAndRight_18 : decode prog_10_method_33_code 18 = .ok (.isub, 1) := by decide +kernel
theorem d_Sh_pluckAndRight_19 : decode prog_10_method_33_code 19 = .ok (.invokevirtual 67, 3) := by decide +kernel
theorem d_Sh_pluckAndRight_22 : decode prog_10_method_33_code 22 = .ok (.aload_n 0, 1) := by decide +kernel
theorem d_Sh_pluckAndRight_23 : decode prog_10_method_33_code 23 = .ok (.aload_n 0, 1) := by decide +kernel
theorem d_Sh_pluckAndRight_24 : decode prog_10_method_33_code 24 = .ok (.iload_n 1, 1) := by decide +kernel
theorem d_Sh_pluckAndRight_25 : decode prog_10_method_33_code 25 = .ok (.aload_n 0, 1) := by decide +kernel
theorem d_Sh_pluckAndRight_26 : decode prog_10_method_33_code 26 = .ok (.getfield 55, 3) := by decide +kernel
theorem d_Sh_pluckAndRight_29 : decode prog_10_method_33_code 29 = .ok (.invokevirtual 118, 3) := by decide +kernel
theorem d_Sh_pluckAndRight_32 : decode prog_10_method_33_code 32 = .ok (.putfield 55, 3) := by decide +kernel
theorem d_Sh_pluckAndRight_35 : decode prog_10_method_33_code 35 = .ok (.aload_n 0, 1) := by decide +kernel
theorem d_Sh_pluckAndRight_36 : decode prog_10_method_33_code 36 = .ok (.dup, 1) := by decide +kernel
theorem d_Sh_pluckAndRight_37 : decode prog_10_method_33_code 37 = .ok (.getfield 61, 3) := by decide +kernel
theorem d_Sh_pluckAndRight_40 : decode prog_10_method_33_code 40 = .ok (.iconst 1, 1) := by decide +kernel
theorem d_Sh_pluckAndRight_41 : decode prog_10_method_33_code 41 = .ok (.iadd, 1) := by decide +kernel
theorem d_Sh_pluckAndRight_42 : decode prog_10_method_33_code 42 = .ok (.putfield 61, 3) := by decide +kernel
theorem d_Sh_pluckAndRight_45 : decode prog_10_method_33_code 45 = .ok (.return_, 1) := by decide +kernel
theorem d_Sh_passYear_0 : decode prog_10_method_35_code 0 = .ok (.iconst 0, 1) := by decide +kernel
theorem d_Sh_passYear_1 : decode prog_10_method_35_code 1 = .ok (.istore_n 1, 1) := by decide +kernel
theorem d_Sh_passYear_2 : decode prog_10_method_35_code 2 = .ok (.iload_n 1, 1) := by decide +kernel
theorem d_Sh_passYear_3 : decode prog_10_method_35_code 3 = .ok (.aload_n 0, 1) := by decide +kernel
theorem d_Sh_passYear_4 : decode prog_10_method_35_code 4 = .ok (.getfield 48, 3) := by decide +kernel
theorem d_Sh_passYear_7 : decode prog_10_method_35_code 7 = .ok (.if_icmp .ge 39, 3) := by decide +kernel
theorem d_Sh_passYear_10 : decode prog_10_method_35_code 10 = .ok (.aload_n 0, 1) := by decide +kernel
theorem d_Sh_passYear_11 : decode prog_10_method_35_code 11 = .ok (.getfield 14, 3) := by decide +kernel
theorem d_Sh_passYear_14 : decode prog_10_method_35_code 14 = .ok (.iload_n 1, 1) := by decide +kernel
theorem d_Sh_passYear_15 : decode prog_10_method_35_code 15 = .ok (.bipush 20, 2) := by decide +kernel
theorem d_Sh_passYear_17 : decode prog_10_method_35_code 17 = .ok (.aload_n 0, 1) := by decide +kernel
theorem d_Sh_passYear_18 : decode prog_10_method_35_code 18 = .ok (.getfield 14, 3) := by decide +kernel
theorem d_Sh_passYear_21 : decode prog_10_method_35_code 21 = .ok (.iload_n 1, 1) := by decide +kernel
theorem d_Sh_passYear_22 : decode prog_10_method_35_code 22 = .ok (.invokevirtual 71, 3) := by decide +kernel
theorem d_Sh_passYear_25 : decode prog_10_method_35_code 25 = .ok (.aload_n 0, 1) := by decide +kernel
theorem d_Sh_passYear_26 : decode prog_10_method_35_code 26 = .ok (.getfield 20, 3) := by decide +kernel
theorem d_Sh_passYear_29 : decode prog_10_method_35_code 29 = .ok (.iload_n 1, 1) := by decide +kernel
theorem d_Sh_passYear_30 : decode prog_10_method_35_code 30 = .ok (.invokevirtual 71, 3) := by decide +kernel
theorem d_Sh_passYear_33 : decode prog_10_method_35_code 33 = .ok (.iadd, 1) := by decide +kernel
theorem d_Sh_passYear_34 : decode prog_10_method_35_code 34 = .ok (.invokestatic 121, 3) := by decide +kernel
theorem d_Sh_passYear_37 : decode prog_10_method_35_code 37 = .ok (.invokevirtual 67, 3) := by decide +kernel
theorem d_Sh_passYear_40 : decode prog_10_method_35_code 40 = .ok (.iinc 1 1, 3) := by decide +kernel
theorem d_Sh_passYear_43 : decode prog_10_method_35_code 43 = .ok (.goto (-41), 3) := by decide +kernel
theorem d_Sh_passYear_46 : decode prog_10_method_35_code 46 = .ok (.aload_n 0, 1) := by decide +kernel
theorem d_Sh_passYear_47 : decode prog_10_method_35_code 47 = .ok (.dup, 1) := by decide +kernel
theorem d_Sh_passYear_48 : decode prog_10_method_35_code 48 = .ok (.getfield 58, 3) := by decide +kernel
theorem d_Sh_passYear_51 : decode prog_10_method_35_code 51 = .ok (.iconst 1, 1) := by decide +kernel
theorem d_Sh_passYear_52 : decode prog_10_method_35_code 52 = .ok (.iadd, 1) := by decide +kernel
theorem d_Sh_passYear_53 : decode prog_10_method_35_code 53 = .ok (.putfield 58, 3) := by decide +kernel
theorem d_Sh_passYear_56 : decode prog_10_method_35_code 56 = .ok (.return_, 1) := by decide +kernel
theorem d_Fo_pass_0 : decode prog_4_method_5_code 0 = .ok (.aload_n 0, 1) := by decide +kernel
theorem d_Fo_pass_1 : decode prog_4_method_5_code 1 = .ok (.getfield 10, 3) := by decide +kernel
theorem d_Fo_pass_4 : decode prog_4_method_5_code 4 = .ok (.aload_n 0, 1) := by decide +kernel
theorem d_Fo_pass_5 : decode prog_4_method_5_code 5 = .ok (.getfield 16, 3) := by decide +kernel
theorem d_Fo_pass_8 : decode prog_4_method_5_code 8 = .ok (.invokevirtual 30, 3) := by decide +kernel
theorem d_Fo_pass_11 : decode prog_4_method_5_code 11 = .ok (.aload_n 0, 1) := by decide +kernel
theorem d_Fo_pass_12 : decode prog_4_method_5_code 12 = .ok (.iload_n 2, 1) := by decide +kernel
theorem d_Fo_pass_13 : decode prog_4_method_5_code 13 = .ok (.i2l, 1) := by decide +kernel
theorem d_Fo_pass_14 : decode prog_4_method_5_code 14 = .ok (.putfield 26, 3) := by decide +kernel
theorem d_Fo_pass_17 : decode prog_4_method_5_code 17 = .ok (.iconst 0, 1) := by decide +kernel
theorem d_Fo_pass_18 : decode prog_4_method_5_code 18 = .ok (.istore_n 3, 1) := by decide +kernel
theorem d_Fo_pass_19 : decode prog_4_method_5_code 19 = .ok (.iload_n 3, 1) := by decide +kernel
theorem d_Fo_pass_20 : decode prog_4_method_5_code 20 = .ok (.iload_n 1, 1) := by decide +kernel
theorem d_Fo_pass_21 : decode prog_4_method_5_code 21 = .ok (.if_icmp .ge 70, 3) := by decide +kernel
theorem d_Fo_pass_24 : decode prog_4_method_5_code 24 = .ok (.aload_n 0, 1) := by decide +kernel
theorem d_Fo_pass_25 : decode prog_4_method_5_code 25 = .ok (.aload_n 0, 1) := by decide +kernel
theorem d_Fo_pass_26 : decode prog_4_method_5_code 26 = .ok (.getfield 10, 3) := by decide +kernel
theorem d_Fo_pass_29 : decode prog_4_method_5_code 29 = .ok (.invokevirtual 34, 3) := by decide +kernel
theorem d_Fo_pass_32 : decode prog_4_method_5_code 32 = .ok (.invokevirtual 37, 3) := by decide +kernel
theorem d_Fo_pass_35 : decode prog_4_method_5_code 35 = .ok (.istore 4, 2) := by decide +kernel
theorem d_Fo_pass_37 : decode prog_4_method_5_code 37 = .ok (.aload_n 0, 1) := by decide +kernel
theorem d_Fo_pass_38 : decode prog_4_method_5_code 38 = .ok (.aload_n 0, 1) := by decide +kernel
theorem d_Fo_pass_39 : decode prog_4_method_5_code 39 = .ok (.getfield 10, 3) := by decide +kernel
theorem d_Fo_pass_42 : decode prog_4_method_5_code 42 = .ok (.invokevirtual 41, 3) := by decide +kernel
theorem d_Fo_pass_45 : decode prog_4_method_5_code 45 = .ok (.invokevirtual 37, 3) := by decide +kernel
theorem d_Fo_pass_48 : decode prog_4_method_5_code 48 = .ok (.istore 5, 2) := by decide +kernel
theorem d_Fo_pass_50 : decode prog_4_method_5_code 50 = .ok (.aload_n 0, 1) := by decide +kernel
theorem d_Fo_pass_51 : decode prog_4_method_5_code 51 = .ok (.getfield 10, 3) := by decide +kernel
theorem d_Fo_pass_54 : decode prog_4_method_5_code 54 = .ok (.iload 4, 2) := by decide +kernel
theorem d_Fo_pass_56 : decode prog_4_method_5_code 56 = .ok (.iload 5, 2) := by decide +kernel
theorem d_Fo_pass_58 : decode prog_4_method_5_code 58 = .ok (.invokevirtual 44, 3) := by decide +kernel
theorem d_Fo_pass_61 : decode prog_4_method_5_code 61 = .ok (.ifCond .eq 17, 3) := by decide +kernel
theorem d_Fo_pass_64 : decode prog_4_method_5_code 64 = .ok (.aload_n 0, 1) := by decide +kernel
theorem d_Fo_pass_65 : decode prog_4_method_5_code 65 = .ok (.getfield 10, 3) := by decide +kernel
theorem d_Fo_pass_68 : decode prog_4_method_5_code 68 = .ok (.iload 4, 2) := by decide +kernel
theorem d_Fo_pass_70 : decode prog_4_method_5_code 70 = .ok (.iload 5, 2) := by decide +kernel
theorem d_Fo_pass_72 : decode prog_4_method_5_code 72 = .ok (.invokevirtual 48, 3) := by decide +kernel
theorem d_Fo_pass_75 : decode prog_4_method_5_code 75 = .ok (.goto 10, 3) := by decide +kernel
theorem d_Fo_pass_78 : decode prog_4_method_5_code 78 = .ok (.aload_n 0, 1) := by decide +kernel
theorem d_Fo_pass_79 : decode prog_4_method_5_code 79 = .ok (.getfield 10, 3) := by decide +kernel
theorem d_Fo_pass_82 : decode prog_4_method_5_code 82 = .ok (.invokevirtual 52, 3) := by decide +kernel
theorem d_Fo_pass_85 : decode prog_4_method_5_code 85 = .ok (.iinc 3 1, 3) := by decide +kernel
theorem d_Fo_pass_88 : decode prog_4_method_5_code 88 = .ok (.goto (-69), 3) := by decide +kernel
theorem d_Fo_pass_91 : decode prog_4_method_5_code 91 = .ok (.return_, 1) := by decide +kernel
theorem d_Sh_rightings_0 : decode prog_10_method_12_code 0 = .ok (.aload_n 0, 1) := by decide +kernel
theorem d_Sh_rightings_1 : decode prog_10_method_12_code 1 = .ok (.getfield 61, 3) := by decide +kernel
theorem d_Sh_rightings_4 : decode prog_10_method_12_code 4 = .ok (.ireturn, 1) := by decide +kernel
theorem d_Fo_rightings_0 : decode prog_4_method_2_code 0 = .ok (.aload_n 0, 1) := by decide +kernel
theorem d_Fo_rightings_1 : decode prog_4_method_2_code 1 = .ok (.getfield 10, 3) := by decide +kernel
theorem d_Fo_rightings_4 : decode prog_4_method_2_code 4 = .ok (.invokevirtual 19, 3) := by decide +kernel
theorem d_Fo_rightings_7 : decode prog_4_method_2_code 7 = .ok (.aload_n 0, 1) := by decide +kernel
theorem d_Fo_rightings_8 : decode prog_4_method_2_code 8 = .ok (.getfield 16, 3) := by decide +kernel
theorem d_Fo_rightings_11 : decode prog_4_method_2_code 11 = .ok (.invokevirtual 19, 3) := by decide +kernel
theorem d_Fo_rightings_14 : decode prog_4_method_2_code 14 = .ok (.isub, 1) := by decide +kernel
theorem d_Fo_rightings_15 : decode prog_4_method_2_code 15 = .ok (.ireturn, 1) := by decide +kernel
theorem d_Sh_worthOf_0 : decode prog_10_method_28_code 0 = .ok (.iconst 0, 1) := by decide +kernel
theorem d_Sh_worthOf_1 : decode prog_10_method_28_code 1 = .ok (.istore_n 2, 1) := by decide +kernel
theorem d_Sh_worthOf_2 : decode prog_10_method_28_code 2 = .ok (.iconst 0, 1) := by decide +kernel
theorem d_Sh_worthOf_3 : decode prog_10_method_28_code 3 = .ok (.istore_n 3, 1) := by decide +kernel
theorem d_Sh_worthOf_4 : decode prog_10_method_28_code 4 = .ok (.iload_n 3, 1) := by decide +kernel
theorem d_Sh_worthOf_5 : decode prog_10_method_28_code 5 = .ok (.aload_n 0, 1) := by decide +kernel
theorem d_Sh_worthOf_6 : decode prog_10_method_28_code 6 = .ok (.getfield 52, 3) := by decide +kernel
theorem d_Sh_worthOf_9 : decode prog_10_method_28_code 9 = .ok (.if_icmp .ge 32, 3) := by decide +kernel
theorem d_Sh_worthOf_12 : decode prog_10_method_28_code 12 = .ok (.iload_n 2, 1) := by decide +kernel
theorem d_Sh_worthOf_13 : decode prog_10_method_28_code 13 = .ok (.iload_n 1, 1) := by decide +kernel
theorem d_Sh_worthOf_14 : decode prog_10_method_28_code 14 = .ok (.iload_n 3, 1) := by decide +kernel
theorem d_Sh_worthOf_15 : decode prog_10_method_28_code 15 = .ok (.invokestatic 105, 3) := by decide +kernel
theorem d_Sh_worthOf_18 : decode prog_10_method_28_code 18 = .ok (.ifCond .eq 14, 3) := by decide +kernel
theorem d_Sh_worthOf_21 : decode prog_10_method_28_code 21 = .ok (.aload_n 0, 1) := by decide +kernel
theorem d_Sh_worthOf_22 : decode prog_10_method_28_code 22 = .ok (.getfield 29, 3) := by decide +kernel
theorem d_Sh_worthOf_25 : decode prog_10_method_28_code 25 = .ok (.iload_n 3, 1) := by decide +kernel
theorem d_Sh_worthOf_26 : decode prog_10_method_28_code 26 = .ok (.invokevirtual 71, 3) := by decide +kernel
theorem d_Sh_worthOf_29 : decode prog_10_method_28_code 29 = .ok (.goto 4, 3) := by decide +kernel
theorem d_Sh_worthOf_32 : decode prog_10_method_28_code 32 = .ok (.iconst 0, 1) := by decide +kernel
theorem d_Sh_worthOf_33 : decode prog_10_method_28_code 33 = .ok (.iadd, 1) := by decide +kernel
theorem d_Sh_worthOf_34 : decode prog_10_method_28_code 34 = .ok (.istore_n 2, 1) := by decide +kernel
theorem d_Sh_worthOf_35 : decode prog_10_method_28_code 35 = .ok (.iinc 3 1, 3) := by decide +kernel
theorem d_Sh_worthOf_38 : decode prog_10_method_28_code 38 = .ok (.goto (-34), 3) := by decide +kernel
theorem d_Sh_worthOf_41 : decode prog_10_method_28_code 41 = .ok (.iload_n 2, 1) := by decide +kernel
theorem d_Sh_worthOf_42 : decode prog_10_method_28_code 42 = .ok (.ireturn, 1) := by decide +kernel
theorem d_Sh_holds_0 : decode prog_10_method_27_code 0 = .ok (.aload_n 0, 1) := by decide +kernel
theorem d_Sh_holds_1 : decode prog_10_method_27_code 1 = .ok (.aload_n 0, 1) := by decide +kernel
theorem d_Sh_holds_2 : decode prog_10_method_27_code 2 = .ok (.getfield 55, 3) := by decide +kernel
theorem d_Sh_holds_5 : decode prog_10_method_27_code 5 = .ok (.invokevirtual 102, 3) := by decide +kernel
theorem d_Sh_holds_8 : decode prog_10_method_27_code 8 = .ok (.ireturn, 1) := by decide +kernel
theorem d_Fo_holds_0 : decode prog_4_method_3_code 0 = .ok (.aload_n 0, 1) := by decide +kernel
theorem d_Fo_holds_1 : decode prog_4_method_3_code 1 = .ok (.getfield 10, 3) := by decide +kernel
theorem d_Fo_holds_4 : decode prog_4_method_3_code 4 = .ok (.invokevirtual 23, 3) := by decide +kernel
theorem d_Fo_holds_7 : decode prog_4_method_3_code 7 = .ok (.ireturn, 1) := by decide +kernel
theorem d_Fo_seed_0 : decode prog_4_method_4_code 0 = .ok (.aload_n 0, 1) := by decide +kernel
theorem d_Fo_seed_1 : decode prog_4_method_4_code 1 = .ok (.getfield 26, 3) := by decide +kernel
theorem d_Fo_seed_4 : decode prog_4_method_4_code 4 = .ok (.l2i, 1) := by decide +kernel
theorem d_Fo_seed_5 : decode prog_4_method_4_code 5 = .ok (.ireturn, 1) := by decide +kernel
theorem d_Co_centuries_0 : decode prog_1_method_19_code 0 = .ok (.iload_n 1, 1) := by decide +kernel
theorem d_Co_centuries_1 : decode prog_1_method_19_code 1 = .ok (.iconst 1, 1) := by decide +kernel
theorem d_Co_centuries_2 : decode prog_1_method_19_code 2 = .ok (.if_icmp .lt 22, 3) := by decide +kernel
theorem d_Co_centuries_5 : decode prog_1_method_19_code 5 = .ok (.iload_n 1, 1) := by decide +kernel
theorem d_Co_centuries_6 : decode prog_1_method_19_code 6 = .ok (.bipush 60, 2) := by decide +kernel
theorem d_Co_centuries_8 : decode prog_1_method_19_code 8 = .ok (.if_icmp .gt 16, 3) := by decide +kernel
theorem d_Co_centuries_11 : decode prog_1_method_19_code 11 = .ok (.iload_n 2, 1) := by decide +kernel
theorem d_Co_centuries_12 : decode prog_1_method_19_code 12 = .ok (.ifCond .lt 12, 3) := by decide +kernel
theorem d_Co_centuries_15 : decode prog_1_method_19_code 15 = .ok (.iload_n 3, 1) := by decide +kernel
theorem d_Co_centuries_16 : decode prog_1_method_19_code 16 = .ok (.ifCond .lt 8, 3) := by decide +kernel
theorem d_Co_centuries_19 : decode prog_1_method_19_code 19 = .ok (.iload_n 3, 1) := by decide +kernel
theorem d_Co_centuries_20 : decode prog_1_method_19_code 20 = .ok (.iconst 2, 1) := by decide +kernel
theorem d_Co_centuries_21 : decode prog_1_method_19_code 21 = .ok (.if_icmp .le 6, 3) := by decide +kernel
theorem d_Co_centuries_24 : decode prog_1_method_19_code 24 = .ok (.bipush (-102), 2) := by decide +kernel
theorem d_Co_centuries_26 : decode prog_1_method_19_code 26 = .ok (.ireturn, 1) := by decide +kernel
theorem d_Co_centuries_27 : decode prog_1_method_19_code 27 = .ok (.aload_n 0, 1) := by decide +kernel
theorem d_Co_centuries_28 : decode prog_1_method_19_code 28 = .ok (.invokevirtual 161, 3) := by decide +kernel
theorem d_Co_centuries_31 : decode prog_1_method_19_code 31 = .ok (.ifCond .ne 6, 3) := by decide +kernel
theorem d_Co_centuries_34 : decode prog_1_method_19_code 34 = .ok (.bipush (-103), 2) := by decide +kernel
theorem d_Co_centuries_36 : decode prog_1_method_19_code 36 = .ok (.ireturn, 1) := by decide +kernel
theorem d_Co_centuries_37 : decode prog_1_method_19_code 37 = .ok (.aload_n 0, 1) := by decide +kernel
theorem d_Co_centuries_38 : decode prog_1_method_19_code 38 = .ok (.getfield 61, 3) := by decide +kernel
theorem d_Co_centuries_41 : decode prog_1_method_19_code 41 = .ok (.iload_n 1, 1) := by decide +kernel
theorem d_Co_centuries_42 : decode prog_1_method_19_code 42 = .ok (.iload_n 2, 1) := by decide +kernel
theorem d_Co_centuries_43 : decode prog_1_method_19_code 43 = .ok (.invokevirtual 230, 3) := by decide +kernel
theorem d_Co_centuries_46 : decode prog_1_method_19_code 46 = .ok (.iload_n 3, 1) := by decide +kernel
theorem d_Co_centuries_47 : decode prog_1_method_19_code 47 = .ok (.lookupswitch 41 #[(0, 25), (1, 33)], 25) := by decide +kernel
theorem d_Co_centuries_72 : decode prog_1_method_19_code 72 = .ok (.aload_n 0, 1) := by decide +kernel
theorem d_Co_centuries_73 : decode prog_1_method_19_code 73 = .ok (.getfield 61, 3) := by decide +kernel
theorem d_Co_centuries_76 : decode prog_1_method_19_code 76 = .ok (.invokevirtual 233, 3) := by decide +kernel
theorem d_Co_centuries_79 : decode prog_1_method_19_code 79 = .ok (.ireturn, 1) := by decide +kernel
theorem d_Co_centuries_80 : decode prog_1_method_19_code 80 = .ok (.aload_n 0, 1) := by decide +kernel
theorem d_Co_centuries_81 : decode prog_1_method_19_code 81 = .ok (.getfield 61, 3) := by decide +kernel
theorem d_Co_centuries_84 : decode prog_1_method_19_code 84 = .ok (.invokevirtual 234, 3) := by decide +kernel
theorem d_Co_centuries_87 : decode prog_1_method_19_code 87 = .ok (.ireturn, 1) := by decide +kernel
theorem d_Co_centuries_88 : decode prog_1_method_19_code 88 = .ok (.aload_n 0, 1) := by decide +kernel
theorem d_Co_centuries_89 : decode prog_1_method_19_code 89 = .ok (.getfield 61, 3) := by decide +kernel
theorem d_Co_centuries_92 : decode prog_1_method_19_code 92 = .ok (.invokevirtual 235, 3) := by decide +kernel
theorem d_Co_centuries_95 : decode prog_1_method_19_code 95 = .ok (.ireturn, 1) := by decide +kernel
theorem d_Rw_sum_0 : decode prog_9_method_5_code 0 = .ok (.iconst 0, 1) := by decide +kernel
theorem d_Rw_sum_1 : decode prog_9_method_5_code 1 = .ok (.istore_n 2, 1) := by decide +kernel
theorem d_Rw_sum_2 : decode prog_9_method_5_code 2 = .ok (.iconst 0, 1) := by decide +kernel
theorem d_Rw_sum_3 : decode prog_9_method_5_code 3 = .ok (.istore_n 3, 1) := by decide +kernel
theorem d_Rw_sum_4 : decode prog_9_method_5_code 4 = .ok (.iload_n 3, 1) := by decide +kernel
theorem d_Rw_sum_5 : decode prog_9_method_5_code 5 = .ok (.iload_n 1, 1) := by decide +kernel
theorem d_Rw_sum_6 : decode prog_9_method_5_code 6 = .ok (.if_icmp .ge 17, 3) := by decide +kernel
theorem d_Rw_sum_9 : decode prog_9_method_5_code 9 = .ok (.iload_n 2, 1) := by decide +kernel
theorem d_Rw_sum_10 : decode prog_9_method_5_code 10 = .ok (.aload_n 0, 1) := by decide +kernel
theorem d_Rw_sum_11 : decode prog_9_method_5_code 11 = .ok (.iload_n 3, 1) := by decide +kernel
theorem d_Rw_sum_12 : decode prog_9_method_5_code 12 = .ok (.invokevirtual 13, 3) := by decide +kernel
theorem d_Rw_sum_15 : decode prog_9_method_5_code 15 = .ok (.iadd, 1) := by decide +kernel
theorem d_Rw_sum_16 : decode prog_9_method_5_code 16 = .ok (.istore_n 2, 1) := by decide +kernel
theorem d_Rw_sum_17 : decode prog_9_method_5_code 17 = .ok (.iinc 3 1, 3) := by decide +kernel
theorem d_Rw_sum_20 : decode prog_9_method_5_code 20 = .ok (.goto (-16), 3) := by decide +kernel
theorem d_Rw_sum_23 : decode prog_9_method_5_code 23 = .ok (.iload_n 2, 1) := by decide +kernel
theorem d_Rw_sum_24 : decode prog_9_method_5_code 24 = .ok (.ireturn, 1) := by decide +kernel
theorem d_Sh_allBerries_0 : decode prog_10_method_16_code 0 = .ok (.aload_n 0, 1) := by decide +kernel
theorem d_Sh_allBerries_1 : decode prog_10_method_16_code 1 = .ok (.getfield 14, 3) := by decide +kernel
theorem d_Sh_allBerries_4 : decode prog_10_method_16_code 4 = .ok (.aload_n 0, 1) := by decide +kernel
theorem d_Sh_allBerries_5 : decode prog_10_method_16_code 5 = .ok (.getfield 48, 3) := by decide +kernel
theorem d_Sh_allBerries_8 : decode prog_10_method_16_code 8 = .ok (.invokevirtual 85, 3) := by decide +kernel
theorem d_Sh_allBerries_11 : decode prog_10_method_16_code 11 = .ok (.ireturn, 1) := by decide +kernel
theorem d_Sh_allBirds_0 : decode prog_10_method_17_code 0 = .ok (.aload_n 0, 1) := by decide +kernel
theorem d_Sh_allBirds_1 : decode prog_10_method_17_code 1 = .ok (.getfield 20, 3) := by decide +kernel
theorem d_Sh_allBirds_4 : decode prog_10_method_17_code 4 = .ok (.aload_n 0, 1) := by decide +kernel
theorem d_Sh_allBirds_5 : decode prog_10_method_17_code 5 = .ok (.getfield 48, 3) := by decide +kernel
theorem d_Sh_allBirds_8 : decode prog_10_method_17_code 8 = .ok (.invokevirtual 85, 3) := by decide +kernel
theorem d_Sh_allBirds_11 : decode prog_10_method_17_code 11 = .ok (.ireturn, 1) := by decide +kernel
theorem d_Sh_righted_0 : decode prog_10_method_10_code 0 = .ok (.aload_n 0, 1) := by decide +kernel
theorem d_Sh_righted_1 : decode prog_10_method_10_code 1 = .ok (.getfield 55, 3) := by decide +kernel
theorem d_Sh_righted_4 : decode prog_10_method_10_code 4 = .ok (.ireturn, 1) := by decide +kernel
theorem d_In_bitCount_0 : decode prog_15_method_49_code 0 = .ok (.iload_n 0, 1) := by decide +kernel
theorem d_In_bitCount_1 : decode prog_15_method_49_code 1 = .ok (.iload_n 0, 1) := by decide +kernel
theorem d_In_bitCount_2 : decode prog_15_method_49_code 2 = .ok (.iconst 1, 1) := by decide +kernel
theorem d_In_bitCount_3 : decode prog_15_method_49_code 3 = .ok (.iushr, 1) := by decide +kernel
theorem d_In_bitCount_4 : decode prog_15_method_49_code 4 = .ok (.ldc_w 265, 3) := by decide +kernel
theorem d_In_bitCount_7 : decode prog_15_method_49_code 7 = .ok (.iand, 1) := by decide +kernel
theorem d_In_bitCount_8 : decode prog_15_method_49_code 8 = .ok (.isub, 1) := by decide +kernel
theorem d_In_bitCount_9 : decode prog_15_method_49_code 9 = .ok (.istore_n 0, 1) := by decide +kernel
theorem d_In_bitCount_10 : decode prog_15_method_49_code 10 = .ok (.iload_n 0, 1) := by decide +kernel
theorem d_In_bitCount_11 : decode prog_15_method_49_code 11 = .ok (.ldc_w 266, 3) := by decide +kernel
theorem d_In_bitCount_14 : decode prog_15_method_49_code 14 = .ok (.iand, 1) := by decide +kernel
theorem d_In_bitCount_15 : decode prog_15_method_49_code 15 = .ok (.iload_n 0, 1) := by decide +kernel
theorem d_In_bitCount_16 : decode prog_15_method_49_code 16 = .ok (.iconst 2, 1) := by decide +kernel
theorem d_In_bitCount_17 : decode prog_15_method_49_code 17 = .ok (.iushr, 1) := by decide +kernel
theorem d_In_bitCount_18 : decode prog_15_method_49_code 18 = .ok (.ldc_w 266, 3) := by decide +kernel
theorem d_In_bitCount_21 : decode prog_15_method_49_code 21 = .ok (.iand, 1) := by decide +kernel
theorem d_In_bitCount_22 : decode prog_15_method_49_code 22 = .ok (.iadd, 1) := by decide +kernel
theorem d_In_bitCount_23 : decode prog_15_method_49_code 23 = .ok (.istore_n 0, 1) := by decide +kernel
theorem d_In_bitCount_24 : decode prog_15_method_49_code 24 = .ok (.iload_n 0, 1) := by decide +kernel
theorem d_In_bitCount_25 : decode prog_15_method_49_code 25 = .ok (.iload_n 0, 1) := by decide +kernel
theorem d_In_bitCount_26 : decode prog_15_method_49_code 26 = .ok (.iconst 4, 1) := by decide +kernel
theorem d_In_bitCount_27 : decode prog_15_method_49_code 27 = .ok (.iushr, 1) := by decide +kernel
theorem d_In_bitCount_28 : decode prog_15_method_49_code 28 = .ok (.iadd, 1) := by decide +kernel
theorem d_In_bitCount_29 : decode prog_15_method_49_code 29 = .ok (.ldc_w 267, 3) := by decide +kernel
theorem d_In_bitCount_32 : decode prog_15_method_49_code 32 = .ok (.iand, 1) := by decide +kernel
theorem d_In_bitCount_33 : decode prog_15_method_49_code 33 = .ok (.istore_n 0, 1) := by decide +kernel
theorem d_In_bitCount_34 : decode prog_15_method_49_code 34 = .ok (.iload_n 0, 1) := by decide +kernel
theorem d_In_bitCount_35 : decode prog_15_method_49_code 35 = .ok (.iload_n 0, 1) := by decide +kernel
theorem d_In_bitCount_36 : decode prog_15_method_49_code 36 = .ok (.bipush 8, 2) := by decide +kernel
theorem d_In_bitCount_38 : decode prog_15_method_49_code 38 = .ok (.iushr, 1) := by decide +kernel
theorem d_In_bitCount_39 : decode prog_15_method_49_code 39 = .ok (.iadd, 1) := by decide +kernel
theorem d_In_bitCount_40 : decode prog_15_method_49_code 40 = .ok (.istore_n 0, 1) := by decide +kernel
theorem d_In_bitCount_41 : decode prog_15_method_49_code 41 = .ok (.iload_n 0, 1) := by decide +kernel
theorem d_In_bitCount_42 : decode prog_15_method_49_code 42 = .ok (.iload_n 0, 1) := by decide +kernel
theorem d_In_bitCount_43 : decode prog_15_method_49_code 43 = .ok (.bipush 16, 2) := by decide +kernel
theorem d_In_bitCount_45 : decode prog_15_method_49_code 45 = .ok (.iushr, 1) := by decide +kernel
theorem d_In_bitCount_46 : decode prog_15_method_49_code 46 = .ok (.iadd, 1) := by decide +kernel
theorem d_In_bitCount_47 : decode prog_15_method_49_code 47 = .ok (.istore_n 0, 1) := by decide +kernel
theorem d_In_bitCount_48 : decode prog_15_method_49_code 48 = .ok (.iload_n 0, 1) := by decide +kernel
theorem d_In_bitCount_49 : decode prog_15_method_49_code 49 = .ok (.bipush 63, 2) := by decide +kernel
theorem d_In_bitCount_51 : decode prog_15_method_49_code 51 = .ok (.iand, 1) := by decide +kernel
theorem d_In_bitCount_52 : decode prog_15_method_49_code 52 = .ok (.ireturn, 1) := by decide +kernel
theorem d_Sh_years_0 : decode prog_10_method_11_code 0 = .ok (.aload_n 0, 1) := by decide +kernel
theorem d_Sh_years_1 : decode prog_10_method_11_code 1 = .ok (.getfield 58, 3) := by decide +kernel
theorem d_Sh_years_4 : decode prog_10_method_11_code 4 = .ok (.ireturn, 1) := by decide +kernel
theorem d_Sh_sightings_0 : decode prog_10_method_13_code 0 = .ok (.aload_n 0, 1) := by decide +kernel
theorem d_Sh_sightings_1 : decode prog_10_method_13_code 1 = .ok (.getfield 44, 3) := by decide +kernel
theorem d_Sh_sightings_4 : decode prog_10_method_13_code 4 = .ok (.areturn, 1) := by decide +kernel
theorem d_Si_size_0 : decode prog_11_method_2_code 0 = .ok (.aload_n 0, 1) := by decide +kernel
theorem d_Si_size_1 : decode prog_11_method_2_code 1 = .ok (.getfield 26, 3) := by decide +kernel
theorem d_Si_size_4 : decode prog_11_method_2_code 4 = .ok (.ireturn, 1) := by decide +kernel
theorem d_Co_count_0 : decode prog_1_method_22_code 0 = .ok (.iload_n 1, 1) := by decide +kernel
theorem d_Co_count_1 : decode prog_1_method_22_code 1 = .ok (.tableswitch 159 0 11 #[63, 71, 79, 87, 95, 106, 114, 122, 130, 141, 149, 154], 63) := by decide +kernel
theorem d_Co_count_64 : decode prog_1_method_22_code 64 = .ok (.aload_n 0, 1) := by decide +kernel
theorem d_Co_count_65 : decode prog_1_method_22_code 65 = .ok (.getfield 28, 3) := by decide +kernel
theorem d_Co_count_68 : decode prog_1_method_22_code 68 = .ok (.invokevirtual 241, 3) := by decide +kernel
theorem d_Co_count_71 : decode prog_1_method_22_code 71 = .ok (.ireturn, 1) := by decide +kernel
theorem d_Co_count_72 : decode prog_1_method_22_code 72 = .ok (.aload_n 0, 1) := by decide +kernel
theorem d_Co_count_73 : decode prog_1_method_22_code 73 = .ok (.getfield 28, 3) := by decide +kernel
theorem d_Co_count_76 : decode prog_1_method_22_code 76 = .ok (.invokevirtual 94, 3) := by decide +kernel
theorem d_Co_count_79 : decode prog_1_method_22_code 79 = .ok (.ireturn, 1) := by decide +kernel
theorem d_Co_count_80 : decode prog_1_method_22_code 80 = .ok (.aload_n 0, 1) := by decide +kernel
theorem d_Co_count_81 : decode prog_1_method_22_code 81 = .ok (.getfield 28, 3) := by decide +kernel
theorem d_Co_count_84 : decode prog_1_method_22_code 84 = .ok (.invokevirtual 244, 3) := by decide +kernel
theorem d_Co_count_87 : decode prog_1_method_22_code 87 = .ok (.ireturn, 1) := by decide +kernel
theorem d_Co_count_88 : decode prog_1_method_22_code 88 = .ok (.aload_n 0, 1) := by decide +kernel
theorem d_Co_count_89 : decode prog_1_method_22_code 89 = .ok (.getfield 28, 3) := by decide +kernel
theorem d_Co_count_92 : decode prog_1_method_22_code 92 = .ok (.invokevirtual 247, 3) := by decide +kernel
theorem d_Co_count_95 : decode prog_1_method_22_code 95 = .ok (.ireturn, 1) := by decide +kernel
theorem d_Co_count_96 : decode prog_1_method_22_code 96 = .ok (.aload_n 0, 1) := by decide +kernel
theorem d_Co_count_97 : decode prog_1_method_22_code 97 = .ok (.getfield 28, 3) := by decide +kernel
theorem d_Co_count_100 : decode prog_1_method_22_code 100 = .ok (.invokevirtual 129, 3) := by decide +kernel
theorem d_Co_count_103 : decode prog_1_method_22_code 103 = .ok (.invokestatic 250, 3) := by decide +kernel
theorem d_Co_count_106 : decode prog_1_method_22_code 106 = .ok (.ireturn, 1) := by decide +kernel
theorem d_Co_count_107 : decode prog_1_method_22_code 107 = .ok (.aload_n 0, 1) := by decide +kernel
theorem d_Co_count_108 : decode prog_1_method_22_code 108 = .ok (.getfield 28, 3) := by decide +kernel
theorem d_Co_count_111 : decode prog_1_method_22_code 111 = .ok (.invokevirtual 180, 3) := by decide +kernel
theorem d_Co_count_114 : decode prog_1_method_22_code 114 = .ok (.ireturn, 1) := by decide +kernel
theorem d_Co_count_115 : decode prog_1_method_22_code 115 = .ok (.aload_n 0, 1) := by decide +kernel
theorem d_Co_count_116 : decode prog_1_method_22_code 116 = .ok (.getfield 28, 3) := by decide +kernel
theorem d_Co_count_119 : decode prog_1_method_22_code 119 = .ok (.invokevirtual 164, 3) := by decide +kernel
theorem d_Co_count_122 : decode prog_1_method_22_code 122 = .ok (.ireturn, 1) := by decide +kernel
theorem d_Co_count_123 : decode prog_1_method_22_code 123 = .ok (.aload_n 0, 1) := by decide +kernel
theorem d_Co_count_124 : decode prog_1_method_22_code 124 = .ok (.getfield 28, 3) := by decide +kernel
theorem d_Co_count_127 : decode prog_1_method_22_code 127 = .ok (.invokevirtual 154, 3) := by decide +kernel
theorem d_Co_count_130 : decode prog_1_method_22_code 130 = .ok (.ireturn, 1) := by decide +kernel
theorem d_Co_count_131 : decode prog_1_method_22_code 131 = .ok (.aload_n 0, 1) := by decide +kernel
theorem d_Co_count_132 : decode prog_1_method_22_code 132 = .ok (.getfield 28, 3) := by decide +kernel
theorem d_Co_count_135 : decode prog_1_method_22_code 135 = .ok (.invokevirtual 219, 3) := by decide +kernel
theorem d_Co_count_138 : decode prog_1_method_22_code 138 = .ok (.invokevirtual 223, 3) := by decide +kernel
theorem d_Co_count_141 : decode prog_1_method_22_code 141 = .ok (.ireturn, 1) := by decide +kernel
theorem d_Co_count_142 : decode prog_1_method_22_code 142 = .ok (.aload_n 0, 1) := by decide +kernel
theorem d_Co_count_143 : decode prog_1_method_22_code 143 = .ok (.getfield 10, 3) := by decide +kernel
theorem d_Co_count_146 : decode prog_1_method_22_code 146 = .ok (.invokevirtual 65, 3) := by decide +kernel
theorem d_Co_count_149 : decode prog_1_method_22_code 149 = .ok (.ireturn, 1) := by decide +kernel
theorem d_Co_count_150 : decode prog_1_method_22_code 150 = .ok (.aload_n 0, 1) := by decide +kernel
theorem d_Co_count_151 : decode prog_1_method_22_code 151 = .ok (.getfield 90, 3) := by decide +kernel
theorem d_Co_count_154 : decode prog_1_method_22_code 154 = .ok (.ireturn, 1) := by decide +kernel
theorem d_Co_count_155 : decode prog_1_method_22_code 155 = .ok (.aload_n 0, 1) := by decide +kernel
theorem d_Co_count_156 : decode prog_1_method_22_code 156 = .ok (.getfield 183, 3) := by decide +kernel
theorem d_Co_count_159 : decode prog_1_method_22_code 159 = .ok (.ireturn, 1) := by decide +kernel
theorem d_Co_count_160 : decode prog_1_method_22_code 160 = .ok (.bipush (-102), 2) := by decide +kernel
theorem d_Co_count_162 : decode prog_1_method_22_code 162 = .ok (.ireturn, 1) := by decide +kernel
theorem d_Sh_berries_0 : decode prog_10_method_14_code 0 = .ok (.aload_n 0, 1) := by decide +kernel
theorem d_Sh_berries_1 : decode prog_10_method_14_code 1 = .ok (.getfield 14, 3) := by decide +kernel
theorem d_Sh_berries_4 : decode prog_10_method_14_code 4 = .ok (.iload_n 1, 1) := by decide +kernel
theorem d_Sh_berries_5 : decode prog_10_method_14_code 5 = .ok (.invokevirtual 71, 3) := by decide +kernel
theorem d_Sh_berries_8 : decode prog_10_method_14_code 8 = .ok (.ireturn, 1) := by decide +kernel
theorem d_Sh_possibleAt_0 : decode prog_10_method_31_code 0 = .ok (.iconst 0, 1) := by decide +kernel
theorem d_Sh_possibleAt_1 : decode prog_10_method_31_code 1 = .ok (.istore_n 2, 1) := by decide +kernel
theorem d_Sh_possibleAt_2 : decode prog_10_method_31_code 2 = .ok (.iconst 0, 1) := by decide +kernel
theorem d_Sh_possibleAt_3 : decode prog_10_method_31_code 3 = .ok (.istore_n 3, 1) := by decide +kernel
theorem d_Sh_possibleAt_4 : decode prog_10_method_31_code 4 = .ok (.iload_n 3, 1) := by decide +kernel
theorem d_Sh_possibleAt_5 : decode prog_10_method_31_code 5 = .ok (.aload_n 0, 1) := by decide +kernel
theorem d_Sh_possibleAt_6 : decode prog_10_method_31_code 6 = .ok (.getfield 52, 3) := by decide +kernel
theorem d_Sh_possibleAt_9 : decode prog_10_method_31_code 9 = .ok (.if_icmp .ge 29, 3) := by decide +kernel
theorem d_Sh_possibleAt_12 : decode prog_10_method_31_code 12 = .ok (.iload_n 2, 1) := by decide +kernel
theorem d_Sh_possibleAt_13 : decode prog_10_method_31_code 13 = .ok (.aload_n 0, 1) := by decide +kernel
theorem d_Sh_possibleAt_14 : decode prog_10_method_31_code 14 = .ok (.iload_n 3, 1) := by decide +kernel
theorem d_Sh_possibleAt_15 : decode prog_10_method_31_code 15 = .ok (.iload_n 1, 1) := by decide +kernel
theorem d_Sh_possibleAt_16 : decode prog_10_method_31_code 16 = .ok (.invokevirtual 115, 3) := by decide +kernel
theorem d_Sh_possibleAt_19 : decode prog_10_method_31_code 19 = .ok (.ifCond .eq 10, 3) := by decide +kernel
theorem d_Sh_possibleAt_22 : decode prog_10_method_31_code 22 = .ok (.iload_n 3, 1) := by decide +kernel
theorem d_Sh_possibleAt_23 : decode prog_10_method_31_code 23 = .ok (.invokestatic 75, 3) := by decide +kernel
theorem d_Sh_possibleAt_26 : decode prog_10_method_31_code 26 = .ok (.goto 4, 3) := by decide +kernel
theorem d_Sh_possibleAt_29 : decode prog_10_method_31_code 29 = .ok (.iconst 0, 1) := by decide +kernel
theorem d_Sh_possibleAt_30 : decode prog_10_method_31_code 30 = .ok (.ior, 1) := by decide +kernel
theorem d_Sh_possibleAt_31 : decode prog_10_method_31_code 31 = .ok (.istore_n 2, 1) := by decide +kernel
theorem d_Sh_possibleAt_32 : decode prog_10_method_31_code 32 = .ok (.iinc 3 1, 3) := by decide +kernel
theorem d_Sh_possibleAt_35 : decode prog_10_method_31_code 35 = .ok (.goto (-31), 3) := by decide +kernel
theorem d_Sh_possibleAt_38 : decode prog_10_method_31_code 38 = .ok (.iload_n 2, 1) := by decide +kernel
theorem d_Sh_possibleAt_39 : decode prog_10_method_31_code 39 = .ok (.ireturn, 1) := by decide +kernel
theorem d_Co_tree_0 : decode prog_1_method_6_code 0 = .ok (.aload_n 0, 1) := by decide +kernel
theorem d_Co_tree_1 : decode prog_1_method_6_code 1 = .ok (.getfield 28, 3) := by decide +kernel
theorem d_Co_tree_4 : decode prog_1_method_6_code 4 = .ok (.iload_n 1, 1) := by decide +kernel
theorem d_Co_tree_5 : decode prog_1_method_6_code 5 = .ok (.invokevirtual 97, 3) := by decide +kernel
theorem d_Co_tree_8 : decode prog_1_method_6_code 8 = .ok (.ifCond .ne 6, 3) := by decide +kernel
theorem d_Co_tree_11 : decode prog_1_method_6_code 11 = .ok (.bipush (-101), 2) := by decide +kernel
theorem d_Co_tree_13 : decode prog_1_method_6_code 13 = .ok (.ireturn, 1) := by decide +kernel
theorem d_Co_tree_14 : decode prog_1_method_6_code 14 = .ok (.iload_n 2, 1) := by decide +kernel
theorem d_Co_tree_15 : decode prog_1_method_6_code 15 = .ok (.tableswitch 52 0 2 #[25, 34, 43], 25) := by decide +kernel
theorem d_Co_tree_40 : decode prog_1_method_6_code 40 = .ok (.aload_n 0, 1) := by decide +kernel
theorem d_Co_tree_41 : decode prog_1_method_6_code 41 = .ok (.getfield 28, 3) := by decide +kernel
theorem d_Co_tree_44 : decode prog_1_method_6_code 44 = .ok (.iload_n 1, 1) := by decide +kernel
theorem d_Co_tree_45 : decode prog_1_method_6_code 45 = .ok (.invokevirtual 101, 3) := by decide +kernel
theorem d_Co_tree_48 : decode prog_1_method_6_code 48 = .ok (.ireturn, 1) := by decide +kernel
theorem d_Co_tree_49 : decode prog_1_method_6_code 49 = .ok (.aload_n 0, 1) := by decide +kernel
theorem d_Co_tree_50 : decode prog_1_method_6_code 50 = .ok (.getfield 28, 3) := by decide +kernel
theorem d_Co_tree_53 : decode prog_1_method_6_code 53 = .ok (.iload_n 1, 1) := by decide +kernel
theorem d_Co_tree_54 : decode prog_1_method_6_code 54 = .ok (.invokevirtual 105, 3) := by decide +kernel
theorem d_Co_tree_57 : decode prog_1_method_6_code 57 = .ok (.ireturn, 1) := by decide +kernel
theorem d_Co_tree_58 : decode prog_1_method_6_code 58 = .ok (.aload_n 0, 1) := by decide +kernel
theorem d_Co_tree_59 : decode prog_1_method_6_code 59 = .ok (.getfield 28, 3) := by decide +kernel
theorem d_Co_tree_62 : decode prog_1_method_6_code 62 = .ok (.iload_n 1, 1) := by decide +kernel
theorem d_Co_tree_63 : decode prog_1_method_6_code 63 = .ok (.invokevirtual 108, 3) := by decide +kernel
theorem d_Co_tree_66 : decode prog_1_method_6_code 66 = .ok (.ireturn, 1) := by decide +kernel
theorem d_Co_tree_67 : decode prog_1_method_6_code 67 = .ok (.bipush (-102), 2) := by decide +kernel
theorem d_Co_tree_69 : decode prog_1_method_6_code 69 = .ok (.ireturn, 1) := by decide +kernel
theorem d_Co_mixed_0 : decode prog_1_method_24_code 0 = .ok (.ldc2_w 279, 3) := by decide +kernel
theorem d_Co_mixed_3 : decode prog_1_method_24_code 3 = .ok (.lload_n 0, 1) := by decide +kernel
theorem d_Co_mixed_4 : decode prog_1_method_24_code 4 = .ok (.lmul, 1) := by decide +kernel
theorem d_Co_mixed_5 : decode prog_1_method_24_code 5 = .ok (.lload_n 2, 1) := by decide +kernel
theorem d_Co_mixed_6 : decode prog_1_method_24_code 6 = .ok (.ladd, 1) := by decide +kernel
theorem d_Co_mixed_7 : decode prog_1_method_24_code 7 = .ok (.lreturn, 1) := by decide +kernel
theorem d_Cn_costOf_0 : decode prog_3_method_6_code 0 = .ok (.iconst 0, 1) := by decide +kernel
theorem d_Cn_costOf_1 : decode prog_3_method_6_code 1 = .ok (.istore_n 2, 1) := by decide +kernel
theorem d_Cn_costOf_2 : decode prog_3_method_6_code 2 = .ok (.iconst 0, 1) := by decide +kernel
theorem d_Cn_costOf_3 : decode prog_3_method_6_code 3 = .ok (.istore_n 3, 1) := by decide +kernel
theorem d_Cn_costOf_4 : decode prog_3_method_6_code 4 = .ok (.iload_n 3, 1) := by decide +kernel
theorem d_Cn_costOf_5 : decode prog_3_method_6_code 5 = .ok (.aload_n 0, 1) := by decide +kernel
theorem d_Cn_costOf_6 : decode prog_3_method_6_code 6 = .ok (.getfield 23, 3) := by decide +kernel
theorem d_Cn_costOf_9 : decode prog_3_method_6_code 9 = .ok (.invokevirtual 42, 3) := by decide +kernel
theorem d_Cn_costOf_12 : decode prog_3_method_6_code 12 = .ok (.if_icmp .ge 32, 3) := by decide +kernel
theorem d_Cn_costOf_15 : decode prog_3_method_6_code 15 = .ok (.iload_n 2, 1) := by decide +kernel
theorem d_Cn_costOf_16 : decode prog_3_method_6_code 16 = .ok (.iload_n 1, 1) := by decide +kernel
theorem d_Cn_costOf_17 : decode prog_3_method_6_code 17 = .ok (.iload_n 3, 1) := by decide +kernel
theorem d_Cn_costOf_18 : decode prog_3_method_6_code 18 = .ok (.invokestatic 72, 3) := by decide +kernel
theorem d_Cn_costOf_21 : decode prog_3_method_6_code 21 = .ok (.ifCond .eq 14, 3) := by decide +kernel
theorem d_Cn_costOf_24 : decode prog_3_method_6_code 24 = .ok (.aload_n 0, 1) := by decide +kernel
theorem d_Cn_costOf_25 : decode prog_3_method_6_code 25 = .ok (.getfield 20, 3) := by decide +kernel
theorem d_Cn_costOf_28 : decode prog_3_method_6_code 28 = .ok (.iload_n 3, 1) := by decide +kernel
theorem d_Cn_costOf_29 : decode prog_3_method_6_code 29 = .ok (.invokevirtual 27, 3) := by decide +kernel
theorem d_Cn_costOf_32 : decode prog_3_method_6_code 32 = .ok (.goto 4, 3) := by decide +kernel
theorem d_Cn_costOf_35 : decode prog_3_method_6_code 35 = .ok (.iconst 0, 1) := by decide +kernel
theorem d_Cn_costOf_36 : decode prog_3_method_6_code 36 = .ok (.iadd, 1) := by decide +kernel
theorem d_Cn_costOf_37 : decode prog_3_method_6_code 37 = .ok (.istore_n 2, 1) := by decide +kernel
theorem d_Cn_costOf_38 : decode prog_3_method_6_code 38 = .ok (.iinc 3 1, 3) := by decide +kernel
theorem d_Cn_costOf_41 : decode prog_3_method_6_code 41 = .ok (.goto (-37), 3) := by decide +kernel
theorem d_Cn_costOf_44 : decode prog_3_method_6_code 44 = .ok (.iload_n 2, 1) := by decide +kernel
theorem d_Cn_costOf_45 : decode prog_3_method_6_code 45 = .ok (.ireturn, 1) := by decide +kernel
theorem d_Sh_worth_0 : decode prog_10_method_20_code 0 = .ok (.aload_n 0, 1) := by decide +kernel
theorem d_Sh_worth_1 : decode prog_10_method_20_code 1 = .ok (.getfield 29, 3) := by decide +kernel
theorem d_Sh_worth_4 : decode prog_10_method_20_code 4 = .ok (.iload_n 1, 1) := by decide +kernel
theorem d_Sh_worth_5 : decode prog_10_method_20_code 5 = .ok (.invokevirtual 71, 3) := by decide +kernel
theorem d_Sh_worth_8 : decode prog_10_method_20_code 8 = .ok (.ireturn, 1) := by decide +kernel
theorem d_Cn_bestLead_0 : decode prog_3_method_5_code 0 = .ok (.aload_n 0, 1) := by decide +kernel
theorem d_Cn_bestLead_1 : decode prog_3_method_5_code 1 = .ok (.getfield 40, 3) := by decide +kernel
theorem d_Cn_bestLead_4 : decode prog_3_method_5_code 4 = .ok (.aload_n 0, 1) := by decide +kernel
theorem d_Cn_bestLead_5 : decode prog_3_method_5_code 5 = .ok (.iload_n 1, 1) := by decide +kernel
theorem d_Cn_bestLead_6 : decode prog_3_method_5_code 6 = .ok (.invokevirtual 59, 3) := by decide +kernel
theorem d_Cn_bestLead_9 : decode prog_3_method_5_code 9 = .ok (.isub, 1) := by decide +kernel
theorem d_Cn_bestLead_10 : decode prog_3_method_5_code 10 = .ok (.istore_n 2, 1) := by decide +kernel
theorem d_Cn_bestLead_11 : decode prog_3_method_5_code 11 = .ok (.iconst 0, 1) := by decide +kernel
theorem d_Cn_bestLead_12 : decode prog_3_method_5_code 12 = .ok (.istore_n 3, 1) := by decide +kernel
theorem d_Cn_bestLead_13 : decode prog_3_method_5_code 13 = .ok (.aload_n 0, 1) := by decide +kernel
theorem d_Cn_bestLead_14 : decode prog_3_method_5_code 14 = .ok (.iconst (-1), 1) := by decide +kernel
theorem d_Cn_bestLead_15 : decode prog_3_method_5_code 15 = .ok (.putfield 31, 3) := by decide +kernel
theorem d_Cn_bestLead_18 : decode prog_3_method_5_code 18 = .ok (.iconst 0, 1) := by decide +kernel
theorem d_Cn_bestLead_19 : decode prog_3_method_5_code 19 = .ok (.istore 4, 2) := by decide +kernel
theorem d_Cn_bestLead_21 : decode prog_3_method_5_code 21 = .ok (.iload 4, 2) := by decide +kernel
theorem d_Cn_bestLead_23 : decode prog_3_method_5_code 23 = .ok (.aload_n 0, 1) := by decide +kernel
theorem d_Cn_bestLead_24 : decode prog_3_method_5_code 24 = .ok (.getfield 23, 3) := by decide +kernel
theorem d_Cn_bestLead_27 : decode prog_3_method_5_code 27 = .ok (.invokevirtual 42, 3) := by decide +kernel
theorem d_Cn_bestLead_30 : decode prog_3_method_5_code 30 = .ok (.if_icmp .ge 92, 3) := by decide +kernel
theorem d_Cn_bestLead_33 : decode prog_3_method_5_code 33 = .ok (.aload_n 0, 1) := by decide +kernel
theorem d_Cn_bestLead_34 : decode prog_3_method_5_code 34 = .ok (.getfield 23, 3) := by decide +kernel
theorem d_Cn_bestLead_37 : decode prog_3_method_5_code 37 = .ok (.iload 4, 2) := by decide +kernel
theorem d_Cn_bestLead_39 : decode prog_3_method_5_code 39 = .ok (.aload_n 0, 1) := by decide +kernel
theorem d_Cn_bestLead_40 : decode prog_3_method_5_code 40 = .ok (.getfield 23, 3) := by decide +kernel
theorem d_Cn_bestLead_43 : decode prog_3_method_5_code 43 = .ok (.invokevirtual 62, 3) := by decide +kernel
theorem d_Cn_bestLead_46 : decode prog_3_method_5_code 46 = .ok (.iload_n 1, 1) := by decide +kernel
theorem d_Cn_bestLead_47 : decode prog_3_method_5_code 47 = .ok (.ior, 1) := by decide +kernel
theorem d_Cn_bestLead_48 : decode prog_3_method_5_code 48 = .ok (.invokevirtual 65, 3) := by decide +kernel
theorem d_Cn_bestLead_51 : decode prog_3_method_5_code 51 = .ok (.ifCond .eq 65, 3) := by decide +kernel
theorem d_Cn_bestLead_54 : decode prog_3_method_5_code 54 = .ok (.aload_n 0, 1) := by decide +kernel
theorem d_Cn_bestLead_55 : decode prog_3_method_5_code 55 = .ok (.getfield 20, 3) := by decide +kernel
theorem d_Cn_bestLead_58 : decode prog_3_method_5_code 58 = .ok (.iload 4, 2) := by decide +kernel
theorem d_Cn_bestLead_60 : decode prog_3_method_5_code 60 = .ok (.invokevirtual 27, 3) := by decide +kernel
theorem d_Cn_bestLead_63 : decode prog_3_method_5_code 63 = .ok (.iload_n 2, 1) := by decide +kernel
theorem d_Cn_bestLead_64 : decode prog_3_method_5_code 64 = .ok (.if_icmp .gt 52, 3) := by decide +kernel
theorem d_Cn_bestLead_67 : decode prog_3_method_5_code 67 = .ok (.aload_n 0, 1) := by decide +kernel
theorem d_Cn_bestLead_68 : decode prog_3_method_5_code 68 = .ok (.getfield 23, 3) := by decide +kernel
theorem d_Cn_bestLead_71 : decode prog_3_method_5_code 71 = .ok (.iload 4, 2) := by decide +kernel
theorem d_Cn_bestLead_73 : decode prog_3_method_5_code 73 = .ok (.invokevirtual 69, 3) := by decide +kernel
theorem d_Cn_bestLead_76 : decode prog_3_method_5_code 76 = .ok (.aload_n 0, 1) := by decide +kernel
theorem d_Cn_bestLead_77 : decode prog_3_method_5_code 77 = .ok (.getfield 14, 3) := by decide +kernel
theorem d_Cn_bestLead_80 : decode prog_3_method_5_code 80 = .ok (.iload_n 1, 1) := by decide +kernel
theorem d_Cn_bestLead_81 : decode prog_3_method_5_code 81 = .ok (.iload 4, 2) := by decide +kernel
theorem d_Cn_bestLead_83 : decode prog_3_method_5_code 83 = .ok (.invokestatic 53, 3) := by decide +kernel
theorem d_Cn_bestLead_86 : decode prog_3_method_5_code 86 = .ok (.ior, 1) := by decide +kernel
theorem d_Cn_bestLead_87 : decode prog_3_method_5_code 87 = .ok (.invokevirtual 27, 3) := by decide +kernel
theorem d_Cn_bestLead_90 : decode prog_3_method_5_code 90 = .ok (.isub, 1) := by decide +kernel
theorem d_Cn_bestLead_91 : decode prog_3_method_5_code 91 = .ok (.istore 5, 2) := by decide +kernel
theorem d_Cn_bestLead_93 : decode prog_3_method_5_code 93 = .ok (.aload_n 0, 1) := by decide +kernel
theorem d_Cn_bestLead_94 : decode prog_3_method_5_code 94 = .ok (.getfield 31, 3) := by decide +kernel
theorem d_Cn_bestLead_97 : decode prog_3_method_5_code 97 = .ok (.iconst (-1), 1) := by decide +kernel
theorem d_Cn_bestLead_98 : decode prog_3_method_5_code 98 = .ok (.if_icmp .eq 9, 3) := by decide +kernel
theorem d_Cn_bestLead_101 : decode prog_3_method_5_code 101 = .ok (.iload 5, 2) := by decide +kernel
theorem d_Cn_bestLead_103 : decode prog_3_method_5_code 103 = .ok (.iload_n 3, 1) := by decide +kernel
theorem d_Cn_bestLead_104 : decode prog_3_method_5_code 104 = .ok (.if_icmp .le 12, 3) := by decide +kernel
theorem d_Cn_bestLead_107 : decode prog_3_method_5_code 107 = .ok (.iload 5, 2) := by decide +kernel
theorem d_Cn_bestLead_109 : decode prog_3_method_5_code 109 = .ok (.istore_n 3, 1) := by decide +kernel
theorem d_Cn_bestLead_110 : decode prog_3_method_5_code 110 = .ok (.aload_n 0, 1) := by decide +kernel
theorem d_Cn_bestLead_111 : decode prog_3_method_5_code 111 = .ok (.iload 4, 2) := by decide +kernel
theorem d_Cn_bestLead_113 : decode prog_3_method_5_code 113 = .ok (.putfield 31, 3) := by decide +kernel
theorem d_Cn_bestLead_116 : decode prog_3_method_5_code 116 = .ok (.iinc 4 1, 3) := by decide +kernel
theorem d_Cn_bestLead_119 : decode prog_3_method_5_code 119 = .ok (.goto (-98), 3) := by decide +kernel
theorem d_Cn_bestLead_122 : decode prog_3_method_5_code 122 = .ok (.iload_n 3, 1) := by decide +kernel
theorem d_Cn_bestLead_123 : decode prog_3_method_5_code 123 = .ok (.ireturn, 1) := by decide +kernel
theorem d_Cn_play_0 : decode prog_3_method_4_code 0 = .ok (.aload_n 0, 1) := by decide +kernel
theorem d_Cn_play_1 : decode prog_3_method_4_code 1 = .ok (.aload_n 0, 1) := by decide +kernel
theorem d_Cn_play_2 : decode prog_3_method_4_code 2 = .ok (.getfield 23, 3) := by decide +kernel
theorem d_Cn_play_5 : decode prog_3_method_4_code 5 = .ok (.iload_n 1, 1) := by decide +kernel
theorem d_Cn_play_6 : decode prog_3_method_4_code 6 = .ok (.invokevirtual 35, 3) := by decide +kernel
theorem d_Cn_play_9 : decode prog_3_method_4_code 9 = .ok (.putfield 40, 3) := by decide +kernel
theorem d_Cn_play_12 : decode prog_3_method_4_code 12 = .ok (.iconst 0, 1) := by decide +kernel
theorem d_Cn_play_13 : decode prog_3_method_4_code 13 = .ok (.istore_n 2, 1) := by decide +kernel
theorem d_Cn_play_14 : decode prog_3_method_4_code 14 = .ok (.iload_n 2, 1) := by decide +kernel
theorem d_Cn_play_15 : decode prog_3_method_4_code 15 = .ok (.aload_n 0, 1) := by decide +kernel
theorem d_Cn_play_16 : decode prog_3_method_4_code 16 = .ok (.getfield 23, 3) := by decide +kernel
theorem d_Cn_play_19 : decode prog_3_method_4_code 19 = .ok (.invokevirtual 42, 3) := by decide +kernel
theorem d_Cn_play_22 : decode prog_3_method_4_code 22 = .ok (.if_icmp .ge 25, 3) := by decide +kernel
theorem d_Cn_play_25 : decode prog_3_method_4_code 25 = .ok (.aload_n 0, 1) := by decide +kernel
theorem d_Cn_play_26 : decode prog_3_method_4_code 26 = .ok (.getfield 20, 3) := by decide +kernel
theorem d_Cn_play_29 : decode prog_3_method_4_code 29 = .ok (.iload_n 2, 1) := by decide +kernel
theorem d_Cn_play_30 : decode prog_3_method_4_code 30 = .ok (.aload_n 0, 1) := by decide +kernel
theorem d_Cn_play_31 : decode prog_3_method_4_code 31 = .ok (.getfield 23, 3) := by decide +kernel
theorem d_Cn_play_34 : decode prog_3_method_4_code 34 = .ok (.iload_n 2, 1) := by decide +kernel
theorem d_Cn_play_35 : decode prog_3_method_4_code 35 = .ok (.invokevirtual 46, 3) := by decide +kernel
theorem d_Cn_play_38 : decode prog_3_method_4_code 38 = .ok (.invokevirtual 49, 3) := by decide +kernel
theorem d_Cn_play_41 : decode prog_3_method_4_code 41 = .ok (.iinc 2 1, 3) := by decide +kernel
theorem d_Cn_play_44 : decode prog_3_method_4_code 44 = .ok (.goto (-30), 3) := by decide +kernel
theorem d_Cn_play_47 : decode prog_3_method_4_code 47 = .ok (.aload_n 0, 1) := by decide +kernel
theorem d_Cn_play_48 : decode prog_3_method_4_code 48 = .ok (.getfield 23, 3) := by decide +kernel
theorem d_Cn_play_51 : decode prog_3_method_4_code 51 = .ok (.invokevirtual 42, 3) := by decide +kernel
theorem d_Cn_play_54 : decode prog_3_method_4_code 54 = .ok (.invokestatic 53, 3) := by decide +kernel
theorem d_Cn_play_57 : decode prog_3_method_4_code 57 = .ok (.iconst 1, 1) := by decide +kernel
theorem d_Cn_play_58 : decode prog_3_method_4_code 58 = .ok (.isub, 1) := by decide +kernel
theorem d_Cn_play_59 : decode prog_3_method_4_code 59 = .ok (.istore_n 2, 1) := by decide +kernel
theorem d_Cn_play_60 : decode prog_3_method_4_code 60 = .ok (.iload_n 2, 1) := by decide +kernel
theorem d_Cn_play_61 : decode prog_3_method_4_code 61 = .ok (.ifCond .lt 22, 3) := by decide +kernel
theorem d_Cn_play_64 : decode prog_3_method_4_code 64 = .ok (.aload_n 0, 1) := by decide +kernel
theorem d_Cn_play_65 : decode prog_3_method_4_code 65 = .ok (.getfield 14, 3) := by decide +kernel
theorem d_Cn_play_68 : decode prog_3_method_4_code 68 = .ok (.iload_n 2, 1) := by decide +kernel
theorem d_Cn_play_69 : decode prog_3_method_4_code 69 = .ok (.aload_n 0, 1) := by decide +kernel
theorem d_Cn_play_70 : decode prog_3_method_4_code 70 = .ok (.iload_n 2, 1) := by decide +kernel
theorem d_Cn_play_71 : decode prog_3_method_4_code 71 = .ok (.invokevirtual 56, 3) := by decide +kernel
theorem d_Cn_play_74 : decode prog_3_method_4_code 74 = .ok (.invokevirtual 49, 3) := by decide +kernel
theorem d_Cn_play_77 : decode prog_3_method_4_code 77 = .ok (.iinc 2 (-1), 3) := by decide +kernel
theorem d_Cn_play_80 : decode prog_3_method_4_code 80 = .ok (.goto (-20), 3) := by decide +kernel
theorem d_Cn_play_83 : decode prog_3_method_4_code 83 = .ok (.return_, 1) := by decide +kernel
theorem d_Cn_lead_0 : decode prog_3_method_2_code 0 = .ok (.aload_n 0, 1) := by decide +kernel
theorem d_Cn_lead_1 : decode prog_3_method_2_code 1 = .ok (.getfield 14, 3) := by decide +kernel
theorem d_Cn_lead_4 : decode prog_3_method_2_code 4 = .ok (.iconst 0, 1) := by decide +kernel
theorem d_Cn_lead_5 : decode prog_3_method_2_code 5 = .ok (.invokevirtual 27, 3) := by decide +kernel
theorem d_Cn_lead_8 : decode prog_3_method_2_code 8 = .ok (.ireturn, 1) := by decide +kernel
theorem d_Cn_opening_0 : decode prog_3_method_3_code 0 = .ok (.aload_n 0, 1) := by decide +kernel
theorem d_Cn_opening_1 : decode prog_3_method_3_code 1 = .ok (.getfield 31, 3) := by decide +kernel
theorem d_Cn_opening_4 : decode prog_3_method_3_code 4 = .ok (.ireturn, 1) := by decide +kernel
theorem d_Co_game_0 : decode prog_1_method_15_code 0 = .ok (.aload_n 0, 1) := by decide +kernel
theorem d_Co_game_1 : decode prog_1_method_15_code 1 = .ok (.getfield 28, 3) := by decide +kernel
theorem d_Co_game_4 : decode prog_1_method_15_code 4 = .ok (.iload_n 1, 1) := by decide +kernel
theorem d_Co_game_5 : decode prog_1_method_15_code 5 = .ok (.invokevirtual 97, 3) := by decide +kernel
theorem d_Co_game_8 : decode prog_1_method_15_code 8 = .ok (.ifCond .ne 6, 3) := by decide +kernel
theorem d_Co_game_11 : decode prog_1_method_15_code 11 = .ok (.bipush (-101), 2) := by decide +kernel
theorem d_Co_game_13 : decode prog_1_method_15_code 13 = .ok (.ireturn, 1) := by decide +kernel
theorem d_Co_game_14 : decode prog_1_method_15_code 14 = .ok (.iload_n 2, 1) := by decide +kernel
theorem d_Co_game_15 : decode prog_1_method_15_code 15 = .ok (.ifCond .lt 8, 3) := by decide +kernel
theorem d_Co_game_18 : decode prog_1_method_15_code 18 = .ok (.iload_n 2, 1) := by decide +kernel
theorem d_Co_game_19 : decode prog_1_method_15_code 19 = .ok (.iconst 1, 1) := by decide +kernel
theorem d_Co_game_20 : decode prog_1_method_15_code 20 = .ok (.if_icmp .le 6, 3) := by decide +kernel
theorem d_Co_game_23 : decode prog_1_method_15_code 23 = .ok (.bipush (-102), 2) := by decide +kernel
theorem d_Co_game_25 : decode prog_1_method_15_code 25 = .ok (.ireturn, 1) := by decide +kernel
theorem d_Co_game_26 : decode prog_1_method_15_code 26 = .ok (.aload_n 0, 1) := by decide +kernel
theorem d_Co_game_27 : decode prog_1_method_15_code 27 = .ok (.getfield 54, 3) := by decide +kernel
theorem d_Co_game_30 : decode prog_1_method_15_code 30 = .ok (.iload_n 1, 1) := by decide +kernel
theorem d_Co_game_31 : decode prog_1_method_15_code 31 = .ok (.invokevirtual 196, 3) := by decide +kernel
theorem d_Co_game_34 : decode prog_1_method_15_code 34 = .ok (.iload_n 2, 1) := by decide +kernel
theorem d_Co_game_35 : decode prog_1_method_15_code 35 = .ok (.ifCond .ne 16, 3) := by decide +kernel
theorem d_Co_game_38 : decode prog_1_method_15_code 38 = .ok (.bipush 100, 2) := by decide +kernel
theorem d_Co_game_40 : decode prog_1_method_15_code 40 = .ok (.aload_n 0, 1) := by decide +kernel
theorem d_Co_game_41 : decode prog_1_method_15_code 41 = .ok (.getfield 54, 3) := by decide +kernel
theorem d_Co_game_44 : decode prog_1_method_15_code 44 = .ok (.invokevirtual 199, 3) := by decide +kernel
theorem d_Co_game_47 : decode prog_1_method_15_code 47 = .ok (.iadd, 1) := by decide +kernel
theorem d_Co_game_48 : decode prog_1_method_15_code 48 = .ok (.goto 10, 3) := by decide +kernel
theorem d_Co_game_51 : decode prog_1_method_15_code 51 = .ok (.aload_n 0, 1) := by decide +kernel
theorem d_Co_game_52 : decode prog_1_method_15_code 52 = .ok (.getfield 54, 3) := by decide +kernel
theorem d_Co_game_55 : decode prog_1_method_15_code 55 = .ok (.invokevirtual 202, 3) := by decide +kernel
theorem d_Co_game_58 : decode prog_1_method_15_code 58 = .ok (.ireturn, 1) := by decide +kernel
theorem d_Sh_kind_0 : decode prog_10_method_18_code 0 = .ok (.aload_n 0, 1) := by decide +kernel
theorem d_Sh_kind_1 : decode prog_10_method_18_code 1 = .ok (.getfield 23, 3) := by decide +kernel
theorem d_Sh_kind_4 : decode prog_10_method_18_code 4 = .ok (.iload_n 1, 1) := by decide +kernel
theorem d_Sh_kind_5 : decode prog_10_method_18_code 5 = .ok (.invokevirtual 71, 3) := by decide +kernel
theorem d_Sh_kind_8 : decode prog_10_method_18_code 8 = .ok (.ireturn, 1) := by decide +kernel
theorem d_Sh_need_0 : decode prog_10_method_19_code 0 = .ok (.aload_n 0, 1) := by decide +kernel
theorem d_Sh_need_1 : decode prog_10_method_19_code 1 = .ok (.getfield 26, 3) := by decide +kernel
theorem d_Sh_need_4 : decode prog_10_method_19_code 4 = .ok (.iload_n 1, 1) := by decide +kernel
theorem d_Sh_need_5 : decode prog_10_method_19_code 5 = .ok (.invokevirtual 71, 3) := by decide +kernel
theorem d_Sh_need_8 : decode prog_10_method_19_code 8 = .ok (.ireturn, 1) := by decide +kernel
theorem d_Sh_hangsOn_0 : decode prog_10_method_21_code 0 = .ok (.aload_n 0, 1) := by decide +kernel
theorem d_Sh_hangsOn_1 : decode prog_10_method_21_code 1 = .ok (.getfield 32, 3) := by decide +kernel
theorem d_Sh_hangsOn_4 : decode prog_10_method_21_code 4 = .ok (.iload_n 1, 1) := by decide +kernel
theorem d_Sh_hangsOn_5 : decode prog_10_method_21_code 5 = .ok (.invokevirtual 71, 3) := by decide +kernel
theorem d_Sh_hangsOn_8 : decode prog_10_method_21_code 8 = .ok (.ireturn, 1) := by decide +kernel
theorem d_Sh_below_0 : decode prog_10_method_22_code 0 = .ok (.aload_n 0, 1) := by decide +kernel
theorem d_Sh_below_1 : decode prog_10_method_22_code 1 = .ok (.getfield 38, 3) := by decide +kernel
theorem d_Sh_below_4 : decode prog_10_method_22_code 4 = .ok (.iload_n 1, 1) := by decide +kernel
theorem d_Sh_below_5 : decode prog_10_method_22_code 5 = .ok (.invokevirtual 71, 3) := by decide +kernel
theorem d_Sh_below_8 : decode prog_10_method_22_code 8 = .ok (.ireturn, 1) := by decide +kernel
theorem d_Sh_shakes_0 : decode prog_10_method_26_code 0 = .ok (.aload_n 0, 1) := by decide +kernel
theorem d_Sh_shakes_1 : decode prog_10_method_26_code 1 = .ok (.getfield 55, 3) := by decide +kernel
theorem d_Sh_shakes_4 : decode prog_10_method_26_code 4 = .ok (.aload_n 0, 1) := by decide +kernel
theorem d_Sh_shakes_5 : decode prog_10_method_26_code 5 = .ok (.getfield 38, 3) := by decide +kernel
theorem d_Sh_shakes_8 : decode prog_10_method_26_code 8 = .ok (.iload_n 1, 1) := by decide +kernel
theorem d_Sh_shakes_9 : decode prog_10_method_26_code 9 = .ok (.invokevirtual 71, 3) := by decide +kernel
theorem d_Sh_shakes_12 : decode prog_10_method_26_code 12 = .ok (.iand, 1) := by decide +kernel
theorem d_Sh_shakes_13 : decode prog_10_method_26_code 13 = .ok (.invokestatic 97, 3) := by decide +kernel
theorem d_Sh_shakes_16 : decode prog_10_method_26_code 16 = .ok (.ireturn, 1) := by decide +kernel
theorem d_Si_allow_0 : decode prog_11_method_6_code 0 = .ok (.iconst 0, 1) := by decide +kernel
theorem d_Si_allow_1 : decode prog_11_method_6_code 1 = .ok (.istore_n 3, 1) := by decide +kernel
theorem d_Si_allow_2 : decode prog_11_method_6_code 2 = .ok (.iload_n 3, 1) := by decide +kernel
theorem d_Si_allow_3 : decode prog_11_method_6_code 3 = .ok (.aload_n 0, 1) := by decide +kernel
theorem d_Si_allow_4 : decode prog_11_method_6_code 4 = .ok (.getfield 26, 3) := by decide +kernel
theorem d_Si_allow_7 : decode prog_11_method_6_code 7 = .ok (.if_icmp .ge 64, 3) := by decide +kernel
theorem d_Si_allow_10 : decode prog_11_method_6_code 10 = .ok (.aload_n 0, 1) := by decide +kernel
theorem d_Si_allow_11 : decode prog_11_method_6_code 11 = .ok (.getfield 20, 3) := by decide +kernel
theorem d_Si_allow_14 : decode prog_11_method_6_code 14 = .ok (.iload_n 3, 1) := by decide +kernel
theorem d_Si_allow_15 : decode prog_11_method_6_code 15 = .ok (.invokevirtual 38, 3) := by decide +kernel
theorem d_Si_allow_18 : decode prog_11_method_6_code 18 = .ok (.iload_n 2, 1) := by decide +kernel
theorem d_Si_allow_19 : decode prog_11_method_6_code 19 = .ok (.if_icmp .lt 7, 3) := by decide +kernel
theorem d_Si_allow_22 : decode prog_11_method_6_code 22 = .ok (.iconst 1, 1) := by decide +kernel
theorem d_Si_allow_23 : decode prog_11_method_6_code 23 = .ok (.goto 4, 3) := by decide +kernel
theorem d_Si_allow_26 : decode prog_11_method_6_code 26 = .ok (.iconst 0, 1) := by decide +kernel
theorem d_Si_allow_27 : decode prog_11_method_6_code 27 = .ok (.istore 4, 2) := by decide +kernel
theorem d_Si_allow_29 : decode prog_11_method_6_code 29 = .ok (.aload_n 0, 1) := by decide +kernel
theorem d_Si_allow_30 : decode prog_11_method_6_code 30 = .ok (.getfield 14, 3) := by decide +kernel
theorem d_Si_allow_33 : decode prog_11_method_6_code 33 = .ok (.iload_n 3, 1) := by decide +kernel
theorem d_Si_allow_34 : decode prog_11_method_6_code 34 = .ok (.invokevirtual 38, 3) := by decide +kernel
theorem d_Si_allow_37 : decode prog_11_method_6_code 37 = .ok (.iload_n 1, 1) := by decide +kernel
theorem d_Si_allow_38 : decode prog_11_method_6_code 38 = .ok (.if_icmp .ne 27, 3) := by decide +kernel
theorem d_Si_allow_41 : decode prog_11_method_6_code 41 = .ok (.iload 4, 2) := by decide +kernel
theorem d_Si_allow_43 : decode prog_11_method_6_code 43 = .ok (.aload_n 0, 1) := by decide +kernel
theorem d_Si_allow_44 : decode prog_11_method_6_code 44 = .ok (.getfield 23, 3) := by decide +kernel
theorem d_Si_allow_47 : decode prog_11_method_6_code 47 = .ok (.iload_n 3, 1) := by decide +kernel
theorem d_Si_allow_48 : decode prog_11_method_6_code 48 = .ok (.invokevirtual 38, 3) := by decide +kernel
theorem d_Si_allow_51 : decode prog_11_method_6_code 51 = .ok (.iconst 1, 1) := by decide +kernel
theorem d_Si_allow_52 : decode prog_11_method_6_code 52 = .ok (.if_icmp .ne 7, 3) := by decide +kernel
theorem d_Si_allow_55 : decode prog_11_method_6_code 55 = .ok (.iconst 1, 1) := by decide +kernel
theorem d_Si_allow_56 : decode prog_11_method_6_code 56 = .ok (.goto 4, 3) := by decide +kernel
theorem d_Si_allow_59 : decode prog_11_method_6_code 59 = .ok (.iconst 0, 1) := by decide +kernel
theorem d_Si_allow_60 : decode prog_11_method_6_code 60 = .ok (.if_icmp .eq 5, 3) := by decide +kernel
theorem d_Si_allow_63 : decode prog_11_method_6_code 63 = .ok (.iconst 0, 1) := by decide +kernel
theorem d_Si_allow_64 : decode prog_11_method_6_code 64 = .ok (.ireturn, 1) := by decide +kernel
theorem d_Si_allow_65 : decode prog_11_method_6_code 65 = .ok (.iinc 3 1, 3) := by decide +kernel
theorem d_Si_allow_68 : decode prog_11_method_6_code 68 = .ok (.goto (-66), 3) := by decide +kernel
theorem d_Si_allow_71 : decode prog_11_method_6_code 71 = .ok (.iconst 1, 1) := by decide +kernel
theorem d_Si_allow_72 : decode prog_11_method_6_code 72 = .ok (.ireturn, 1) := by decide +kernel
theorem d_Gu_possibleNeeds_0 : decode prog_5_method_2_code 0 = .ok (.iconst 0, 1) := by decide +kernel
theorem d_Gu_possibleNeeds_1 : decode prog_5_method_2_code 1 = .ok (.istore_n 2, 1) := by decide +kernel
theorem d_Gu_possibleNeeds_2 : decode prog_5_method_2_code 2 = .ok (.iconst 1, 1) := by decide +kernel
theorem d_Gu_possibleNeeds_3 : decode prog_5_method_2_code 3 = .ok (.istore_n 3, 1) := by decide +kernel
theorem d_Gu_possibleNeeds_4 : decode prog_5_method_2_code 4 = .ok (.iload_n 3, 1) := by decide +kernel
theorem d_Gu_possibleNeeds_5 : decode prog_5_method_2_code 5 = .ok (.bipush 9, 2) := by decide +kernel
theorem d_Gu_possibleNeeds_7 : decode prog_5_method_2_code 7 = .ok (.if_icmp .gt 41, 3) := by decide +kernel
theorem d_Gu_possibleNeeds_10 : decode prog_5_method_2_code 10 = .ok (.aload_n 0, 1) := by decide +kernel
theorem d_Gu_possibleNeeds_11 : decode prog_5_method_2_code 11 = .ok (.getfield 9, 3) := by decide +kernel
theorem d_Gu_possibleNeeds_14 : decode prog_5_method_2_code 14 = .ok (.invokevirtual 15, 3) := by decide +kernel
theorem d_Gu_possibleNeeds_17 : decode prog_5_method_2_code 17 = .ok (.iload_n 1, 1) := by decide +kernel
theorem d_Gu_possibleNeeds_18 : decode prog_5_method_2_code 18 = .ok (.aload_n 0, 1) := by decide +kernel
theorem d_Gu_possibleNeeds_19 : decode prog_5_method_2_code 19 = .ok (.getfield 9, 3) := by decide +kernel
theorem d_Gu_possibleNeeds_22 : decode prog_5_method_2_code 22 = .ok (.iload_n 1, 1) := by decide +kernel
theorem d_Gu_possibleNeeds_23 : decode prog_5_method_2_code 23 = .ok (.iload_n 3, 1) := by decide +kernel
theorem d_Gu_possibleNeeds_24 : decode prog_5_method_2_code 24 = .ok (.invokevirtual 21, 3) := by decide +kernel
theorem d_Gu_possibleNeeds_27 : decode prog_5_method_2_code 27 = .ok (.invokevirtual 25, 3) := by decide +kernel
theorem d_Gu_possibleNeeds_30 : decode prog_5_method_2_code 30 = .ok (.ifCond .eq 12, 3) := by decide +kernel
theorem d_Gu_possibleNeeds_33 : decode prog_5_method_2_code 33 = .ok (.iload_n 2, 1) := by decide +kernel
theorem d_Gu_possibleNeeds_34 : decode prog_5_method_2_code 34 = .ok (.iload_n 3, 1) := by decide +kernel
theorem d_Gu_possibleNeeds_35 : decode prog_5_method_2_code 35 = .ok (.iconst 1, 1) := by decide +kernel
theorem d_Gu_possibleNeeds_36 : decode prog_5_method_2_code 36 = .ok (.isub, 1) := by decide +kernel
theorem d_Gu_possibleNeeds_37 : decode prog_5_method_2_code 37 = .ok (.invokestatic 31, 3) := by decide +kernel
theorem d_Gu_possibleNeeds_40 : decode prog_5_method_2_code 40 = .ok (.ior, 1) := by decide +kernel
theorem d_Gu_possibleNeeds_41 : decode prog_5_method_2_code 41 = .ok (.istore_n 2, 1) := by decide +kernel
theorem d_Gu_possibleNeeds_42 : decode prog_5_method_2_code 42 = .ok (.iinc 3 1, 3) := by decide +kernel
theorem d_Gu_possibleNeeds_45 : decode prog_5_method_2_code 45 = .ok (.goto (-41), 3) := by decide +kernel
theorem d_Gu_possibleNeeds_48 : decode prog_5_method_2_code 48 = .ok (.iload_n 2, 1) := by decide +kernel
theorem d_Gu_possibleNeeds_49 : decode prog_5_method_2_code 49 = .ok (.ireturn, 1) := by decide +kernel
theorem d_Gu_leftAtWorst_0 : decode prog_5_method_4_code 0 = .ok (.iconst 0, 1) := by decide +kernel
theorem d_Gu_leftAtWorst_1 : decode prog_5_method_4_code 1 = .ok (.istore 4, 2) := by decide +kernel
theorem d_Gu_leftAtWorst_3 : decode prog_5_method_4_code 3 = .ok (.iconst 1, 1) := by decide +kernel
theorem d_Gu_leftAtWorst_4 : decode prog_5_method_4_code 4 = .ok (.istore 5, 2) := by decide +kernel
theorem d_Gu_leftAtWorst_6 : decode prog_5_method_4_code 6 = .ok (.iload 5, 2) := by decide +kernel
theorem d_Gu_leftAtWorst_8 : decode prog_5_method_4_code 8 = .ok (.bipush 9, 2) := by decide +kernel
theorem d_Gu_leftAtWorst_10 : decode prog_5_method_4_code 10 = .ok (.if_icmp .gt 56, 3) := by decide +kernel
theorem d_Gu_leftAtWorst_13 : decode prog_5_method_4_code 13 = .ok (.aload_n 0, 1) := by decide +kernel
theorem d_Gu_leftAtWorst_14 : decode prog_5_method_4_code 14 = .ok (.getfield 9, 3) := by decide +kernel
theorem d_Gu_leftAtWorst_17 : decode prog_5_method_4_code 17 = .ok (.iload_n 1, 1) := by decide +kernel
theorem d_Gu_leftAtWorst_18 : decode prog_5_method_4_code 18 = .ok (.iload 5, 2) := by decide +kernel
theorem d_Gu_leftAtWorst_20 : decode prog_5_method_4_code 20 = .ok (.invokevirtual 21, 3) := by decide +kernel
theorem d_Gu_leftAtWorst_23 : decode prog_5_method_4_code 23 = .ok (.iload_n 3, 1) := by decide +kernel
theorem d_Gu_leftAtWorst_24 : decode prog_5_method_4_code 24 = .ok (.if_icmp .gt 7, 3) := by decide +kernel
theorem d_Gu_leftAtWorst_27 : decode prog_5_method_4_code 27 = .ok (.iconst 1, 1) := by decide +kernel
theorem d_Gu_leftAtWorst_28 : decode prog_5_method_4_code 28 = .ok (.goto 4, 3) := by decide +kernel
theorem d_Gu_leftAtWorst_31 : decode prog_5_method_4_code 31 = .ok (.iconst 0, 1) := by decide +kernel
theorem d_Gu_leftAtWorst_32 : decode prog_5_method_4_code 32 = .ok (.istore 6, 2) := by decide +kernel
theorem d_Gu_leftAtWorst_34 : decode prog_5_method_4_code 34 = .ok (.iload 4, 2) := by decide +kernel
theorem d_Gu_leftAtWorst_36 : decode prog_5_method_4_code 36 = .ok (.iload 6, 2) := by decide +kernel
theorem d_Gu_leftAtWorst_38 : decode prog_5_method_4_code 38 = .ok (.ifCond .eq 18, 3) := by decide +kernel
theorem d_Gu_leftAtWorst_41 : decode prog_5_method_4_code 41 = .ok (.iload_n 2, 1) := by decide +kernel
theorem d_Gu_leftAtWorst_42 : decode prog_5_method_4_code 42 = .ok (.iload 5, 2) := by decide +kernel
theorem d_Gu_leftAtWorst_44 : decode prog_5_method_4_code 44 = .ok (.iconst 1, 1) := by decide +kernel
theorem d_Gu_leftAtWorst_45 : decode prog_5_method_4_code 45 = .ok (.isub, 1) := by decide +kernel
theorem d_Gu_leftAtWorst_46 : decode prog_5_method_4_code 46 = .ok (.invokestatic 42, 3) := by decide +kernel
theorem d_Gu_leftAtWorst_49 : decode prog_5_method_4_code 49 = .ok (.ifCond .eq 7, 3) := by decide +kernel
theorem d_Gu_leftAtWorst_52 : decode prog_5_method_4_code 52 = .ok (.iconst 1, 1) := by decide +kernel
theorem d_Gu_leftAtWorst_53 : decode prog_5_method_4_code 53 = .ok (.goto 4, 3) := by decide +kernel
theorem d_Gu_leftAtWorst_56 : decode prog_5_method_4_code 56 = .ok (.iconst 0, 1) := by decide +kernel
theorem d_Gu_leftAtWorst_57 : decode prog_5_method_4_code 57 = .ok (.iadd, 1) := by decide +kernel
theorem d_Gu_leftAtWorst_58 : decode prog_5_method_4_code 58 = .ok (.istore 4, 2) := by decide +kernel
theorem d_Gu_leftAtWorst_60 : decode prog_5_method_4_code 60 = .ok (.iinc 5 1, 3) := by decide +kernel
theorem d_Gu_leftAtWorst_63 : decode prog_5_method_4_code 63 = .ok (.goto (-57), 3) := by decide +kernel
theorem d_Gu_leftAtWorst_66 : decode prog_5_method_4_code 66 = .ok (.iload 4, 2) := by decide +kernel
theorem d_Gu_leftAtWorst_68 : decode prog_5_method_4_code 68 = .ok (.iload_n 2, 1) := by decide +kernel
theorem d_Gu_leftAtWorst_69 : decode prog_5_method_4_code 69 = .ok (.invokestatic 45, 3) := by decide +kernel
theorem d_Gu_leftAtWorst_72 : decode prog_5_method_4_code 72 = .ok (.iload 4, 2) := by decide +kernel
theorem d_Gu_leftAtWorst_74 : decode prog_5_method_4_code 74 = .ok (.isub, 1) := by decide +kernel
theorem d_Gu_leftAtWorst_75 : decode prog_5_method_4_code 75 = .ok (.invokestatic 50, 3) := by decide +kernel
theorem d_Gu_leftAtWorst_78 : decode prog_5_method_4_code 78 = .ok (.ireturn, 1) := by decide +kernel
theorem d_Gu_bestTry_0 : decode prog_5_method_3_code 0 = .ok (.aload_n 0, 1) := by decide +kernel
theorem d_Gu_bestTry_1 : decode prog_5_method_3_code 1 = .ok (.iload_n 1, 1) := by decide +kernel
theorem d_Gu_bestTry_2 : decode prog_5_method_3_code 2 = .ok (.invokevirtual 35, 3) := by decide +kernel
theorem d_Gu_bestTry_5 : decode prog_5_method_3_code 5 = .ok (.istore_n 2, 1) := by decide +kernel
theorem d_Gu_bestTry_6 : decode prog_5_method_3_code 6 = .ok (.iload_n 2, 1) := by decide +kernel
theorem d_Gu_bestTry_7 : decode prog_5_method_3_code 7 = .ok (.ifCond .ne 5, 3) := by decide +kernel
theorem d_Gu_bestTry_10 : decode prog_5_method_3_code 10 = .ok (.iconst (-1), 1) := by decide +kernel
theorem d_Gu_bestTry_11 : decode prog_5_method_3_code 11 = .ok (.ireturn, 1) := by decide +kernel
theorem d_Gu_bestTry_12 : decode prog_5_method_3_code 12 = .ok (.iconst (-1), 1) := by decide +kernel
theorem d_Gu_bestTry_13 : decode prog_5_method_3_code 13 = .ok (.istore_n 3, 1) := by decide +kernel
theorem d_Gu_bestTry_14 : decode prog_5_method_3_code 14 = .ok (.bipush 10, 2) := by decide +kernel
theorem d_Gu_bestTry_16 : decode prog_5_method_3_code 16 = .ok (.istore 4, 2) := by decide +kernel
theorem d_Gu_bestTry_18 : decode prog_5_method_3_code 18 = .ok (.iconst 1, 1) := by decide +kernel
theorem d_Gu_bestTry_19 : decode prog_5_method_3_code 19 = .ok (.istore 5, 2) := by decide +kernel
theorem d_Gu_bestTry_21 : decode prog_5_method_3_code 21 = .ok (.iload 5, 2) := by decide +kernel
theorem d_Gu_bestTry_23 : decode prog_5_method_3_code 23 = .ok (.bipush 18, 2) := by decide +kernel
theorem d_Gu_bestTry_25 : decode prog_5_method_3_code 25 = .ok (.if_icmp .gt 33, 3) := by decide +kernel
theorem d_Gu_bestTry_28 : decode prog_5_method_3_code 28 = .ok (.aload_n 0, 1) := by decide +kernel
theorem d_Gu_bestTry_29 : decode prog_5_method_3_code 29 = .ok (.iload_n 1, 1) := by decide +kernel
theorem d_Gu_bestTry_30 : decode prog_5_method_3_code 30 = .ok (.iload_n 2, 1) := by decide +kernel
theorem d_Gu_bestTry_31 : decode prog_5_method_3_code 31 = .ok (.iload 5, 2) := by decide +kernel
theorem d_Gu_bestTry_33 : decode prog_5_method_3_code 33 = .ok (.invokevirtual 38, 3) := by decide +kernel
theorem d_Gu_bestTry_36 : decode prog_5_method_3_code 36 = .ok (.istore 6, 2) := by decide +kernel
theorem d_Gu_bestTry_38 : decode prog_5_method_3_code 38 = .ok (.iload 6, 2) := by decide +kernel
theorem d_Gu_bestTry_40 : decode prog_5_method_3_code 40 = .ok (.iload 4, 2) := by decide +kernel
theorem d_Gu_bestTry_42 : decode prog_5_method_3_code 42 = .ok (.if_icmp .ge 10, 3) := by decide +kernel
theorem d_Gu_bestTry_45 : decode prog_5_method_3_code 45 = .ok (.iload 6, 2) := by decide +kernel
theorem d_Gu_bestTry_47 : decode prog_5_method_3_code 47 = .ok (.istore 4, 2) := by decide +kernel
theorem d_Gu_bestTry_49 : decode prog_5_method_3_code 49 = .ok (.iload 5, 2) := by decide +kernel
theorem d_Gu_bestTry_51 : decode prog_5_method_3_code 51 = .ok (.istore_n 3, 1) := by decide +kernel
theorem d_Gu_bestTry_52 : decode prog_5_method_3_code 52 = .ok (.iinc 5 1, 3) := by decide +kernel
theorem d_Gu_bestTry_55 : decode prog_5_method_3_code 55 = .ok (.goto (-34), 3) := by decide +kernel
theorem d_Gu_bestTry_58 : decode prog_5_method_3_code 58 = .ok (.iload_n 3, 1) := by decide +kernel
theorem d_Gu_bestTry_59 : decode prog_5_method_3_code 59 = .ok (.ireturn, 1) := by decide +kernel
theorem d_Co_suit_0 : decode prog_1_method_7_code 0 = .ok (.aload_n 0, 1) := by decide +kernel
theorem d_Co_suit_1 : decode prog_1_method_7_code 1 = .ok (.getfield 28, 3) := by decide +kernel
theorem d_Co_suit_4 : decode prog_1_method_7_code 4 = .ok (.iload_n 1, 1) := by decide +kernel
theorem d_Co_suit_5 : decode prog_1_method_7_code 5 = .ok (.invokevirtual 111, 3) := by decide +kernel
theorem d_Co_suit_8 : decode prog_1_method_7_code 8 = .ok (.ifCond .ne 6, 3) := by decide +kernel
theorem d_Co_suit_11 : decode prog_1_method_7_code 11 = .ok (.bipush (-101), 2) := by decide +kernel
theorem d_Co_suit_13 : decode prog_1_method_7_code 13 = .ok (.ireturn, 1) := by decide +kernel
theorem d_Co_suit_14 : decode prog_1_method_7_code 14 = .ok (.iload_n 2, 1) := by decide +kernel
theorem d_Co_suit_15 : decode prog_1_method_7_code 15 = .ok (.tableswitch 154 0 9 #[53, 62, 71, 80, 89, 98, 118, 127, 136, 145], 53) := by decide +kernel
theorem d_Co_suit_68 : decode prog_1_method_7_code 68 = .ok (.aload_n 0, 1) := by decide +kernel
theorem d_Co_suit_69 : decode prog_1_method_7_code 69 = .ok (.getfield 28, 3) := by decide +kernel
theorem d_Co_suit_72 : decode prog_1_method_7_code 72 = .ok (.iload_n 1, 1) := by decide +kernel
theorem d_Co_suit_73 : decode prog_1_method_7_code 73 = .ok (.invokevirtual 114, 3) := by decide +kernel
theorem d_Co_suit_76 : decode prog_1_method_7_code 76 = .ok (.ireturn, 1) := by decide +kernel
theorem d_Co_suit_77 : decode prog_1_method_7_code 77 = .ok (.aload_n 0, 1) := by decide +kernel
theorem d_Co_suit_78 : decode prog_1_method_7_code 78 = .ok (.getfield 28, 3) := by decide +kernel
theorem d_Co_suit_81 : decode prog_1_method_7_code 81 = .ok (.iload_n 1, 1) := by decide +kernel
theorem d_Co_suit_82 : decode prog_1_method_7_code 82 = .ok (.invokevirtual 117, 3) := by decide +kernel
theorem d_Co_suit_85 : decode prog_1_method_7_code 85 = .ok (.ireturn, 1) := by decide +kernel
theorem d_Co_suit_86 : decode prog_1_method_7_code 86 = .ok (.aload_n 0, 1) := by decide +kernel
theorem d_Co_suit_87 : decode prog_1_method_7_code 87 = .ok (.getfield 28, 3) := by decide +kernel
theorem d_Co_suit_90 : decode prog_1_method_7_code 90 = .ok (.iload_n 1, 1) := by decide +kernel
theorem d_Co_suit_91 : decode prog_1_method_7_code 91 = .ok (.invokevirtual 120, 3) := by decide +kernel
theorem d_Co_suit_94 : decode prog_1_method_7_code 94 = .ok (.ireturn, 1) := by decide +kernel
theorem d_Co_suit_95 : decode prog_1_method_7_code 95 = .ok (.aload_n 0, 1) := by decide +kernel
theorem d_Co_suit_96 : decode prog_1_method_7_code 96 = .ok (.getfield 28, 3) := by decide +kernel
theorem d_Co_suit_99 : decode prog_1_method_7_code 99 = .ok (.iload_n 1, 1) := by decide +kernel
theorem d_Co_suit_100 : decode prog_1_method_7_code 100 = .ok (.invokevirtual 123, 3) := by decide +kernel
theorem d_Co_suit_103 : decode prog_1_method_7_code 103 = .ok (.ireturn, 1) := by decide +kernel
theorem d_Co_suit_104 : decode prog_1_method_7_code 104 = .ok (.aload_n 0, 1) := by decide +kernel
theorem d_Co_suit_105 : decode prog_1_method_7_code 105 = .ok (.getfield 28, 3) := by decide +kernel
theorem d_Co_suit_108 : decode prog_1_method_7_code 108 = .ok (.iload_n 1, 1) := by decide +kernel
theorem d_Co_suit_109 : decode prog_1_method_7_code 109 = .ok (.invokevirtual 126, 3) := by decide +kernel
theorem d_Co_suit_112 : decode prog_1_method_7_code 112 = .ok (.ireturn, 1) := by decide +kernel
theorem d_Co_suit_113 : decode prog_1_method_7_code 113 = .ok (.aload_n 0, 1) := by decide +kernel
theorem d_Co_suit_114 : decode prog_1_method_7_code 114 = .ok (.getfield 28, 3) := by decide +kernel
theorem d_Co_suit_117 : decode prog_1_method_7_code 117 = .ok (.invokevirtual 129, 3) := by decide +kernel
theorem d_Co_suit_120 : decode prog_1_method_7_code 120 = .ok (.iload_n 1, 1) := by decide +kernel
theorem d_Co_suit_121 : decode prog_1_method_7_code 121 = .ok (.invokestatic 132, 3) := by decide +kernel
theorem d_Co_suit_124 : decode prog_1_method_7_code 124 = .ok (.ifCond .eq 7, 3) := by decide +kernel
theorem d_Co_suit_127 : decode prog_1_method_7_code 127 = .ok (.iconst 1, 1) := by decide +kernel
theorem d_Co_suit_128 : decode prog_1_method_7_code 128 = .ok (.goto 4, 3) := by decide +kernel
theorem d_Co_suit_131 : decode prog_1_method_7_code 131 = .ok (.iconst 0, 1) := by decide +kernel
theorem d_Co_suit_132 : decode prog_1_method_7_code 132 = .ok (.ireturn, 1) := by decide +kernel
theorem d_Co_suit_133 : decode prog_1_method_7_code 133 = .ok (.aload_n 0, 1) := by decide +kernel
theorem d_Co_suit_134 : decode prog_1_method_7_code 134 = .ok (.getfield 28, 3) := by decide +kernel
theorem d_Co_suit_137 : decode prog_1_method_7_code 137 = .ok (.iload_n 1, 1) := by decide +kernel
theorem d_Co_suit_138 : decode prog_1_method_7_code 138 = .ok (.invokevirtual 136, 3) := by decide +kernel
theorem d_Co_suit_141 : decode prog_1_method_7_code 141 = .ok (.ireturn, 1) := by decide +kernel
theorem d_Co_suit_142 : decode prog_1_method_7_code 142 = .ok (.aload_n 0, 1) := by decide +kernel
theorem d_Co_suit_143 : decode prog_1_method_7_code 143 = .ok (.getfield 28, 3) := by decide +kernel
theorem d_Co_suit_146 : decode prog_1_method_7_code 146 = .ok (.iload_n 1, 1) := by decide +kernel
theorem d_Co_suit_147 : decode prog_1_method_7_code 147 = .ok (.invokevirtual 139, 3) := by decide +kernel
theorem d_Co_suit_150 : decode prog_1_method_7_code 150 = .ok (.ireturn, 1) := by decide +kernel
theorem d_Co_suit_151 : decode prog_1_method_7_code 151 = .ok (.aload_n 0, 1) := by decide +kernel
theorem d_Co_suit_152 : decode prog_1_method_7_code 152 = .ok (.getfield 40, 3) := by decide +kernel
theorem d_Co_suit_155 : decode prog_1_method_7_code 155 = .ok (.iload_n 1, 1) := by decide +kernel
theorem d_Co_suit_156 : decode prog_1_method_7_code 156 = .ok (.invokevirtual 142, 3) := by decide +kernel
theorem d_Co_suit_159 : decode prog_1_method_7_code 159 = .ok (.ireturn, 1) := by decide +kernel
theorem d_Co_suit_160 : decode prog_1_method_7_code 160 = .ok (.aload_n 0, 1) := by decide +kernel
theorem d_Co_suit_161 : decode prog_1_method_7_code 161 = .ok (.getfield 40, 3) := by decide +kernel
theorem d_Co_suit_164 : decode prog_1_method_7_code 164 = .ok (.iload_n 1, 1) := by decide +kernel
theorem d_Co_suit_165 : decode prog_1_method_7_code 165 = .ok (.invokevirtual 145, 3) := by decide +kernel
theorem d_Co_suit_168 : decode prog_1_method_7_code 168 = .ok (.ireturn, 1) := by decide +kernel
theorem d_Co_suit_169 : decode prog_1_method_7_code 169 = .ok (.bipush (-102), 2) := by decide +kernel
theorem d_Co_suit_171 : decode prog_1_method_7_code 171 = .ok (.ireturn, 1) := by decide +kernel
theorem d_Ch_goodWays_0 : decode prog_2_method_2_code 0 = .ok (.iload_n 2, 1) := by decide +kernel
theorem d_Ch_goodWays_1 : decode prog_2_method_2_code 1 = .ok (.ifCond .le 8, 3) := by decide +kernel
theorem d_Ch_goodWays_4 : decode prog_2_method_2_code 4 = .ok (.iload_n 2, 1) := by decide +kernel
theorem d_Ch_goodWays_5 : decode prog_2_method_2_code 5 = .ok (.iconst 3, 1) := by decide +kernel
theorem d_Ch_goodWays_6 : decode prog_2_method_2_code 6 = .ok (.if_icmp .le 14, 3) := by decide +kernel
theorem d_Ch_goodWays_9 : decode prog_2_method_2_code 9 = .ok (.iload_n 0, 1) := by decide +kernel
theorem d_Ch_goodWays_10 : decode prog_2_method_2_code 10 = .ok (.iload_n 3, 1) := by decide +kernel
theorem d_Ch_goodWays_11 : decode prog_2_method_2_code 11 = .ok (.if_icmp .lt 7, 3) := by decide +kernel
theorem d_Ch_goodWays_14 : decode prog_2_method_2_code 14 = .ok (.iconst 1, 1) := by decide +kernel
theorem d_Ch_goodWays_15 : decode prog_2_method_2_code 15 = .ok (.goto 4, 3) := by decide +kernel
theorem d_Ch_goodWays_18 : decode prog_2_method_2_code 18 = .ok (.iconst 0, 1) := by decide +kernel
theorem d_Ch_goodWays_19 : decode prog_2_method_2_code 19 = .ok (.ireturn, 1) := by decide +kernel
theorem d_Ch_goodWays_20 : decode prog_2_method_2_code 20 = .ok (.iconst 0, 1) := by decide +kernel
theorem d_Ch_goodWays_21 : decode prog_2_method_2_code 21 = .ok (.istore 4, 2) := by decide +kernel
theorem d_Ch_goodWays_23 : decode prog_2_method_2_code 23 = .ok (.iconst 0, 1) := by decide +kernel
theorem d_Ch_goodWays_24 : decode prog_2_method_2_code 24 = .ok (.istore 5, 2) := by decide +kernel
theorem d_Ch_goodWays_26 : decode prog_2_method_2_code 26 = .ok (.iload 5, 2) := by decide +kernel
theorem d_Ch_goodWays_28 : decode prog_2_method_2_code 28 = .ok (.iload_n 1, 1) := by decide +kernel
theorem d_Ch_goodWays_29 : decode prog_2_method_2_code 29 = .ok (.if_icmp .gt 31, 3) := by decide +kernel
theorem d_Ch_goodWays_32 : decode prog_2_method_2_code 32 = .ok (.iload 4, 2) := by decide +kernel
theorem d_Ch_goodWays_34 : decode prog_2_method_2_code 34 = .ok (.bipush 20, 2) := by decide +kernel
theorem d_Ch_goodWays_36 : decode prog_2_method_2_code 36 = .ok (.iload_n 0, 1) := by decide +kernel
theorem d_Ch_goodWays_37 : decode prog_2_method_2_code 37 = .ok (.iload 5, 2) := by decide +kernel
theorem d_Ch_goodWays_39 : decode prog_2_method_2_code 39 = .ok (.iadd, 1) := by decide +kernel
theorem d_Ch_goodWays_40 : decode prog_2_method_2_code 40 = .ok (.invokestatic 9, 3) := by decide +kernel
theorem d_Ch_goodWays_43 : decode prog_2_method_2_code 43 = .ok (.iload_n 1, 1) := by decide +kernel
theorem d_Ch_goodWays_44 : decode prog_2_method_2_code 44 = .ok (.iload_n 2, 1) := by decide +kernel
theorem d_Ch_goodWays_45 : decode prog_2_method_2_code 45 = .ok (.iconst 1, 1) := by decide +kernel
theorem d_Ch_goodWays_46 : decode prog_2_method_2_code 46 = .ok (.isub, 1) := by decide +kernel
theorem d_Ch_goodWays_47 : decode prog_2_method_2_code 47 = .ok (.iload_n 3, 1) := by decide +kernel
theorem d_Ch_goodWays_48 : decode prog_2_method_2_code 48 = .ok (.invokestatic 15, 3) := by decide +kernel
theorem d_Ch_goodWays_51 : decode prog_2_method_2_code 51 = .ok (.iadd, 1) := by decide +kernel
theorem d_Ch_goodWays_52 : decode prog_2_method_2_code 52 = .ok (.istore 4, 2) := by decide +kernel
theorem d_Ch_goodWays_54 : decode prog_2_method_2_code 54 = .ok (.iinc 5 1, 3) := by decide +kernel
theorem d_Ch_goodWays_57 : decode prog_2_method_2_code 57 = .ok (.goto (-31), 3) := by decide +kernel
theorem d_Ch_goodWays_60 : decode prog_2_method_2_code 60 = .ok (.iload 4, 2) := by decide +kernel
theorem d_Ch_goodWays_62 : decode prog_2_method_2_code 62 = .ok (.ireturn, 1) := by decide +kernel
theorem d_Ch_allWays_0 : decode prog_2_method_3_code 0 = .ok (.iconst 1, 1) := by decide +kernel
theorem d_Ch_allWays_1 : decode prog_2_method_3_code 1 = .ok (.istore_n 2, 1) := by decide +kernel
theorem d_Ch_allWays_2 : decode prog_2_method_3_code 2 = .ok (.iconst 0, 1) := by decide +kernel
theorem d_Ch_allWays_3 : decode prog_2_method_3_code 3 = .ok (.istore_n 3, 1) := by decide +kernel
theorem d_Ch_allWays_4 : decode prog_2_method_3_code 4 = .ok (.iload_n 3, 1) := by decide +kernel
theorem d_Ch_allWays_5 : decode prog_2_method_3_code 5 = .ok (.iload_n 1, 1) := by decide +kernel
theorem d_Ch_allWays_6 : decode prog_2_method_3_code 6 = .ok (.if_icmp .ge 15, 3) := by decide +kernel
theorem d_Ch_allWays_9 : decode prog_2_method_3_code 9 = .ok (.iload_n 2, 1) := by decide +kernel
theorem d_Ch_allWays_10 : decode prog_2_method_3_code 10 = .ok (.iload_n 0, 1) := by decide +kernel
theorem d_Ch_allWays_11 : decode prog_2_method_3_code 11 = .ok (.iconst 1, 1) := by decide +kernel
theorem d_Ch_allWays_12 : decode prog_2_method_3_code 12 = .ok (.iadd, 1) := by decide +kernel
theorem d_Ch_allWays_13 : decode prog_2_method_3_code 13 = .ok (.imul, 1) := by decide +kernel
theorem d_Ch_allWays_14 : decode prog_2_method_3_code 14 = .ok (.istore_n 2, 1) := by decide +kernel
theorem d_Ch_allWays_15 : decode prog_2_method_3_code 15 = .ok (.iinc 3 1, 3) := by decide +kernel
theorem d_Ch_allWays_18 : decode prog_2_method_3_code 18 = .ok (.goto (-14), 3) := by decide +kernel
theorem d_Ch_allWays_21 : decode prog_2_method_3_code 21 = .ok (.iload_n 2, 1) := by decide +kernel
theorem d_Ch_allWays_22 : decode prog_2_method_3_code 22 = .ok (.ireturn, 1) := by decide +kernel
theorem d_Ch_inLowestTerms_0 : decode prog_2_method_4_code 0 = .ok (.iload_n 2, 1) := by decide +kernel
theorem d_Ch_inLowestTerms_1 : decode prog_2_method_4_code 1 = .ok (.istore_n 3, 1) := by decide +kernel
theorem d_Ch_inLowestTerms_2 : decode prog_2_method_4_code 2 = .ok (.iload_n 3, 1) := by decide +kernel
theorem d_Ch_inLowestTerms_3 : decode prog_2_method_4_code 3 = .ok (.iconst 1, 1) := by decide +kernel
theorem d_Ch_inLowestTerms_4 : decode prog_2_method_4_code 4 = .ok (.if_icmp .le 25, 3) := by decide +kernel
theorem d_Ch_inLowestTerms_7 : decode prog_2_method_4_code 7 = .ok (.iload_n 1, 1) := by decide +kernel
theorem d_Ch_inLowestTerms_8 : decode prog_2_method_4_code 8 = .ok (.iload_n 3, 1) := by decide +kernel
theorem d_Ch_inLowestTerms_9 : decode prog_2_method_4_code 9 = .ok (.irem, 1) := by decide +kernel
theorem d_Ch_inLowestTerms_10 : decode prog_2_method_4_code 10 = .ok (.ifCond .ne 13, 3) := by decide +kernel
theorem d_Ch_inLowestTerms_13 : decode prog_2_method_4_code 13 = .ok (.iload_n 2, 1) := by decide +kernel
theorem d_Ch_inLowestTerms_14 : decode prog_2_method_4_code 14 = .ok (.iload_n 3, 1) := by decide +kernel
theorem d_Ch_inLowestTerms_15 : decode prog_2_method_4_code 15 = .ok (.irem, 1) := by decide +kernel
theorem d_Ch_inLowestTerms_16 : decode prog_2_method_4_code 16 = .ok (.ifCond .ne 7, 3) := by decide +kernel
theorem d_Ch_inLowestTerms_19 : decode prog_2_method_4_code 19 = .ok (.iload_n 0, 1) := by decide +kernel
theorem d_Ch_inLowestTerms_20 : decode prog_2_method_4_code 20 = .ok (.iload_n 3, 1) := by decide +kernel
theorem d_Ch_inLowestTerms_21 : decode prog_2_method_4_code 21 = .ok (.idiv, 1) := by decide +kernel
theorem d_Ch_inLowestTerms_22 : decode prog_2_method_4_code 22 = .ok (.ireturn, 1) := by decide +kernel
theorem d_Ch_inLowestTerms_23 : decode prog_2_method_4_code 23 = .ok (.iinc 3 (-1), 3) := by decide +kernel
theorem d_Ch_inLowestTerms_26 : decode prog_2_method_4_code 26 = .ok (.goto (-24), 3) := by decide +kernel
theorem d_Ch_inLowestTerms_29 : decode prog_2_method_4_code 29 = .ok (.iload_n 0, 1) := by decide +kernel
theorem d_Ch_inLowestTerms_30 : decode prog_2_method_4_code 30 = .ok (.ireturn, 1) := by decide +kernel
theorem d_Co_odds_0 : decode prog_1_method_16_code 0 = .ok (.aload_n 0, 1) := by decide +kernel
theorem d_Co_odds_1 : decode prog_1_method_16_code 1 = .ok (.getfield 28, 3) := by decide +kernel
theorem d_Co_odds_4 : decode prog_1_method_16_code 4 = .ok (.iload_n 1, 1) := by decide +kernel
theorem d_Co_odds_5 : decode prog_1_method_16_code 5 = .ok (.invokevirtual 111, 3) := by decide +kernel
theorem d_Co_odds_8 : decode prog_1_method_16_code 8 = .ok (.ifCond .eq 14, 3) := by decide +kernel
theorem d_Co_odds_11 : decode prog_1_method_16_code 11 = .ok (.aload_n 0, 1) := by decide +kernel
theorem d_Co_odds_12 : decode prog_1_method_16_code 12 = .ok (.getfield 28, 3) := by decide +kernel
theorem d_Co_odds_15 : decode prog_1_method_16_code 15 = .ok (.iload_n 2, 1) := by decide +kernel
theorem d_Co_odds_16 : decode prog_1_method_16_code 16 = .ok (.invokevirtual 97, 3) := by decide +kernel
theorem d_Co_odds_19 : decode prog_1_method_16_code 19 = .ok (.ifCond .ne 6, 3) := by decide +kernel
theorem d_Co_odds_22 : decode prog_1_method_16_code 22 = .ok (.bipush (-101), 2) := by decide +kernel
theorem d_Co_odds_24 : decode prog_1_method_16_code 24 = .ok (.ireturn, 1) := by decide +kernel
theorem d_Co_odds_25 : decode prog_1_method_16_code 25 = .ok (.iload_n 3, 1) := by decide +kernel
theorem d_Co_odds_26 : decode prog_1_method_16_code 26 = .ok (.iconst 1, 1) := by decide +kernel
theorem d_Co_odds_27 : decode prog_1_method_16_code 27 = .ok (.if_icmp .lt 19, 3) := by decide +kernel
theorem d_Co_odds_30 : decode prog_1_method_16_code 30 = .ok (.iload_n 3, 1) := by decide +kernel
theorem d_Co_odds_31 : decode prog_1_method_16_code 31 = .ok (.iconst 3, 1) := by decide +kernel
theorem d_Co_odds_32 : decode prog_1_method_16_code 32 = .ok (.if_icmp .gt 14, 3) := by decide +kernel
theorem d_Co_odds_35 : decode prog_1_method_16_code 35 = .ok (.iload 4, 2) := by decide +kernel
theorem d_Co_odds_37 : decode prog_1_method_16_code 37 = .ok (.ifCond .lt 9, 3) := by decide +kernel
theorem d_Co_odds_40 : decode prog_1_method_16_code 40 = .ok (.iload 4, 2) := by decide +kernel
theorem d_Co_odds_42 : decode prog_1_method_16_code 42 = .ok (.iconst 1, 1) := by decide +kernel
theorem d_Co_odds_43 : decode prog_1_method_16_code 43 = .ok (.if_icmp .le 6, 3) := by decide +kernel
theorem d_Co_odds_46 : decode prog_1_method_16_code 46 = .ok (.bipush (-102), 2) := by decide +kernel
theorem d_Co_odds_48 : decode prog_1_method_16_code 48 = .ok (.ireturn, 1) := by decide +kernel
theorem d_Co_odds_49 : decode prog_1_method_16_code 49 = .ok (.aload_n 0, 1) := by decide +kernel
theorem d_Co_odds_50 : decode prog_1_method_16_code 50 = .ok (.getfield 28, 3) := by decide +kernel
theorem d_Co_odds_53 : decode prog_1_method_16_code 53 = .ok (.iload_n 2, 1) := by decide +kernel
theorem d_Co_odds_54 : decode prog_1_method_16_code 54 = .ok (.invokevirtual 105, 3) := by decide +kernel
theorem d_Co_odds_57 : decode prog_1_method_16_code 57 = .ok (.istore 5, 2) := by decide +kernel
theorem d_Co_odds_59 : decode prog_1_method_16_code 59 = .ok (.aload_n 0, 1) := by decide +kernel
theorem d_Co_odds_60 : decode prog_1_method_16_code 60 = .ok (.getfield 28, 3) := by decide +kernel
theorem d_Co_odds_63 : decode prog_1_method_16_code 63 = .ok (.iload_n 2, 1) := by decide +kernel
theorem d_Co_odds_64 : decode prog_1_method_16_code 64 = .ok (.invokevirtual 101, 3) := by decide +kernel
theorem d_Co_odds_67 : decode prog_1_method_16_code 67 = .ok (.iload 5, 2) := by decide +kernel
theorem d_Co_odds_69 : decode prog_1_method_16_code 69 = .ok (.iload_n 3, 1) := by decide +kernel
theorem d_Co_odds_70 : decode prog_1_method_16_code 70 = .ok (.aload_n 0, 1) := by decide +kernel
theorem d_Co_odds_71 : decode prog_1_method_16_code 71 = .ok (.getfield 28, 3) := by decide +kernel
theorem d_Co_odds_74 : decode prog_1_method_16_code 74 = .ok (.iload_n 1, 1) := by decide +kernel
theorem d_Co_odds_75 : decode prog_1_method_16_code 75 = .ok (.invokevirtual 126, 3) := by decide +kernel
theorem d_Co_odds_78 : decode prog_1_method_16_code 78 = .ok (.invokestatic 205, 3) := by decide +kernel
theorem d_Co_odds_81 : decode prog_1_method_16_code 81 = .ok (.istore 6, 2) := by decide +kernel
theorem d_Co_odds_83 : decode prog_1_method_16_code 83 = .ok (.iload 5, 2) := by decide +kernel
theorem d_Co_odds_85 : decode prog_1_method_16_code 85 = .ok (.iload_n 3, 1) := by decide +kernel
theorem d_Co_odds_86 : decode prog_1_method_16_code 86 = .ok (.invokestatic 211, 3) := by decide +kernel
theorem d_Co_odds_89 : decode prog_1_method_16_code 89 = .ok (.istore 7, 2) := by decide +kernel
theorem d_Co_odds_91 : decode prog_1_method_16_code 91 = .ok (.iload 4, 2) := by decide +kernel
theorem d_Co_odds_93 : decode prog_1_method_16_code 93 = .ok (.ifCond .ne 8, 3) := by decide +kernel
theorem d_Co_odds_96 : decode prog_1_method_16_code 96 = .ok (.iload 6, 2) := by decide +kernel
theorem d_Co_odds_98 : decode prog_1_method_16_code 98 = .ok (.goto 5, 3) := by decide +kernel
theorem d_Co_odds_101 : decode prog_1_method_16_code 101 = .ok (.iload 7, 2) := by decide +kernel
theorem d_Co_odds_103 : decode prog_1_method_16_code 103 = .ok (.iload 6, 2) := by decide +kernel
theorem d_Co_odds_105 : decode prog_1_method_16_code 105 = .ok (.iload 7, 2) := by decide +kernel
theorem d_Co_odds_107 : decode prog_1_method_16_code 107 = .ok (.invokestatic 215, 3) := by decide +kernel
theorem d_Co_odds_110 : decode prog_1_method_16_code 110 = .ok (.ireturn, 1) := by decide +kernel
theorem d_Pg_code_0 : decode prog_6_method_3_code 0 = .ok (.aload_n 0, 1) := by decide +kernel
theorem d_Pg_code_1 : decode prog_6_method_3_code 1 = .ok (.getfield 14, 3) := by decide +kernel
theorem d_Pg_code_4 : decode prog_6_method_3_code 4 = .ok (.iload_n 1, 1) := by decide +kernel
theorem d_Pg_code_5 : decode prog_6_method_3_code 5 = .ok (.invokevirtual 24, 3) := by decide +kernel
theorem d_Pg_code_8 : decode prog_6_method_3_code 8 = .ok (.ireturn, 1) := by decide +kernel
theorem d_Co_digest_0 : decode prog_1_method_23_code 0 = .ok (.ldc2_w 255, 3) := by decide +kernel
theorem d_Co_digest_3 : decode prog_1_method_23_code 3 = .ok (.lstore_n 1, 1) := by decide +kernel
theorem d_Co_digest_4 : decode prog_1_method_23_code 4 = .ok (.iconst 0, 1) := by decide +kernel
theorem d_Co_digest_5 : decode prog_1_method_23_code 5 = .ok (.istore_n 3, 1) := by decide +kernel
theorem d_Co_digest_6 : decode prog_1_method_23_code 6 = .ok (.iload_n 3, 1) := by decide +kernel
theorem d_Co_digest_7 : decode prog_1_method_23_code 7 = .ok (.aload_n 0, 1) := by decide +kernel
theorem d_Co_digest_8 : decode prog_1_method_23_code 8 = .ok (.getfield 28, 3) := by decide +kernel
theorem d_Co_digest_11 : decode prog_1_method_23_code 11 = .ok (.invokevirtual 241, 3) := by decide +kernel
theorem d_Co_digest_14 : decode prog_1_method_23_code 14 = .ok (.if_icmp .ge 65, 3) := by decide +kernel
theorem d_Co_digest_17 : decode prog_1_method_23_code 17 = .ok (.iconst 0, 1) := by decide +kernel
theorem d_Co_digest_18 : decode prog_1_method_23_code 18 = .ok (.istore 4, 2) := by decide +kernel
theorem d_Co_digest_20 : decode prog_1_method_23_code 20 = .ok (.iload 4, 2) := by decide +kernel
theorem d_Co_digest_22 : decode prog_1_method_23_code 22 = .ok (.iconst 2, 1) := by decide +kernel
theorem d_Co_digest_23 : decode prog_1_method_23_code 23 = .ok (.if_icmp .gt 22, 3) := by decide +kernel
theorem d_Co_digest_26 : decode prog_1_method_23_code 26 = .ok (.lload_n 1, 1) := by decide +kernel
theorem d_Co_digest_27 : decode prog_1_method_23_code 27 = .ok (.aload_n 0, 1) := by decide +kernel
theorem d_Co_digest_28 : decode prog_1_method_23_code 28 = .ok (.iload_n 3, 1) := by decide +kernel
theorem d_Co_digest_29 : decode prog_1_method_23_code 29 = .ok (.iload 4, 2) := by decide +kernel
theorem d_Co_digest_31 : decode prog_1_method_23_code 31 = .ok (.invokevirtual 257, 3) := by decide +kernel
theorem d_Co_digest_34 : decode prog_1_method_23_code 34 = .ok (.i2l, 1) := by decide +kernel
theorem d_Co_digest_35 : decode prog_1_method_23_code 35 = .ok (.invokestatic 260, 3) := by decide +kernel
theorem d_Co_digest_38 : decode prog_1_method_23_code 38 = .ok (.lstore_n 1, 1) := by decide +kernel
theorem d_Co_digest_39 : decode prog_1_method_23_code 39 = .ok (.iinc 4 1, 3) := by decide +kernel
theorem d_Co_digest_42 : decode prog_1_method_23_code 42 = .ok (.goto (-22), 3) := by decide +kernel
theorem d_Co_digest_45 : decode prog_1_method_23_code 45 = .ok (.iconst 0, 1) := by decide +kernel
theorem d_Co_digest_46 : decode prog_1_method_23_code 46 = .ok (.istore 4, 2) := by decide +kernel
theorem d_Co_digest_48 : decode prog_1_method_23_code 48 = .ok (.iload 4, 2) := by decide +kernel
theorem d_Co_digest_50 : decode prog_1_method_23_code 50 = .ok (.iconst 1, 1) := by decide +kernel
theorem d_Co_digest_51 : decode prog_1_method_23_code 51 = .ok (.if_icmp .gt 22, 3) := by decide +kernel
theorem d_Co_digest_54 : decode prog_1_method_23_code 54 = .ok (.lload_n 1, 1) := by decide +kernel
theorem d_Co_digest_55 : decode prog_1_method_23_code 55 = .ok (.aload_n 0, 1) := by decide +kernel
theorem d_Co_digest_56 : decode prog_1_method_23_code 56 = .ok (.iload_n 3, 1) := by decide +kernel
theorem d_Co_digest_57 : decode prog_1_method_23_code 57 = .ok (.iload 4, 2) := by decide +kernel
theorem d_Co_digest_59 : decode prog_1_method_23_code 59 = .ok (.invokevirtual 264, 3) := by decide +kernel
theorem d_Co_digest_62 : decode prog_1_method_23_code 62 = .ok (.i2l, 1) := by decide +kernel
theorem d_Co_digest_63 : decode prog_1_method_23_code 63 = .ok (.invokestatic 260, 3) := by decide +kernel
theorem d_Co_digest_66 : decode prog_1_method_23_code 66 = .ok (.lstore_n 1, 1) := by decide +kernel
theorem d_Co_digest_67 : decode prog_1_method_23_code 67 = .ok (.iinc 4 1, 3) := by decide +kernel
theorem d_Co_digest_70 : decode prog_1_method_23_code 70 = .ok (.goto (-22), 3) := by decide +kernel
theorem d_Co_digest_73 : decode prog_1_method_23_code 73 = .ok (.iinc 3 1, 3) := by decide +kernel
theorem d_Co_digest_76 : decode prog_1_method_23_code 76 = .ok (.goto (-70), 3) := by decide +kernel
theorem d_Co_digest_79 : decode prog_1_method_23_code 79 = .ok (.iconst 0, 1) := by decide +kernel
theorem d_Co_digest_80 : decode prog_1_method_23_code 80 = .ok (.istore_n 3, 1) := by decide +kernel
theorem d_Co_digest_81 : decode prog_1_method_23_code 81 = .ok (.iload_n 3, 1) := by decide +kernel
theorem d_Co_digest_82 : decode prog_1_method_23_code 82 = .ok (.aload_n 0, 1) := by decide +kernel
theorem d_Co_digest_83 : decode prog_1_method_23_code 83 = .ok (.getfield 28, 3) := by decide +kernel
theorem d_Co_digest_86 : decode prog_1_method_23_code 86 = .ok (.invokevirtual 94, 3) := by decide +kernel
theorem d_Co_digest_89 : decode prog_1_method_23_code 89 = .ok (.if_icmp .ge 68, 3) := by decide +kernel
theorem d_Co_digest_92 : decode prog_1_method_23_code 92 = .ok (.iconst 0, 1) := by decide +kernel
theorem d_Co_digest_93 : decode prog_1_method_23_code 93 = .ok (.istore 4, 2) := by decide +kernel
theorem d_Co_digest_95 : decode prog_1_method_23_code 95 = .ok (.iload 4, 2) := by decide +kernel
theorem d_Co_digest_97 : decode prog_1_method_23_code 97 = .ok (.bipush 9, 2) := by decide +kernel
theorem d_Co_digest_99 : decode prog_1_method_23_code 99 = .ok (.if_icmp .gt 22, 3) := by decide +kernel
theorem d_Co_digest_102 : decode prog_1_method_23_code 102 = .ok (.lload_n 1, 1) := by decide +kernel
theorem d_Co_digest_103 : decode prog_1_method_23_code 103 = .ok (.aload_n 0, 1) := by decide +kernel
theorem d_Co_digest_104 : decode prog_1_method_23_code 104 = .ok (.iload_n 3, 1) := by decide +kernel
theorem d_Co_digest_105 : decode prog_1_method_23_code 105 = .ok (.iload 4, 2) := by decide +kernel
theorem d_Co_digest_107 : decode prog_1_method_23_code 107 = .ok (.invokevirtual 267, 3) := by decide +kernel
theorem d_Co_digest_110 : decode prog_1_method_23_code 110 = .ok (.i2l, 1) := by decide +kernel
theorem d_Co_digest_111 : decode prog_1_method_23_code 111 = .ok (.invokestatic 260, 3) := by decide +kernel
theorem d_Co_digest_114 : decode prog_1_method_23_code 114 = .ok (.lstore_n 1, 1) := by decide +kernel
theorem d_Co_digest_115 : decode prog_1_method_23_code 115 = .ok (.iinc 4 1, 3) := by decide +kernel
theorem d_Co_digest_118 : decode prog_1_method_23_code 118 = .ok (.goto (-23), 3) := by decide +kernel
theorem d_Co_digest_121 : decode prog_1_method_23_code 121 = .ok (.iconst 0, 1) := by decide +kernel
theorem d_Co_digest_122 : decode prog_1_method_23_code 122 = .ok (.istore 4, 2) := by decide +kernel
theorem d_Co_digest_124 : decode prog_1_method_23_code 124 = .ok (.iload 4, 2) := by decide +kernel
theorem d_Co_digest_126 : decode prog_1_method_23_code 126 = .ok (.iconst 1, 1) := by decide +kernel
theorem d_Co_digest_127 : decode prog_1_method_23_code 127 = .ok (.if_icmp .gt 24, 3) := by decide +kernel
theorem d_Co_digest_130 : decode prog_1_method_23_code 130 = .ok (.lload_n 1, 1) := by decide +kernel
theorem d_Co_digest_131 : decode prog_1_method_23_code 131 = .ok (.aload_n 0, 1) := by decide +kernel
theorem d_Co_digest_132 : decode prog_1_method_23_code 132 = .ok (.iload_n 3, 1) := by decide +kernel
theorem d_Co_digest_133 : decode prog_1_method_23_code 133 = .ok (.iconst 0, 1) := by decide +kernel
theorem d_Co_digest_134 : decode prog_1_method_23_code 134 = .ok (.iconst 2, 1) := by decide +kernel
theorem d_Co_digest_135 : decode prog_1_method_23_code 135 = .ok (.iload 4, 2) := by decide +kernel
theorem d_Co_digest_137 : decode prog_1_method_23_code 137 = .ok (.invokevirtual 270, 3) := by decide +kernel
theorem d_Co_digest_140 : decode prog_1_method_23_code 140 = .ok (.i2l, 1) := by decide +kernel
theorem d_Co_digest_141 : decode prog_1_method_23_code 141 = .ok (.invokestatic 260, 3) := by decide +kernel
theorem d_Co_digest_144 : decode prog_1_method_23_code 144 = .ok (.lstore_n 1, 1) := by decide +kernel
theorem d_Co_digest_145 : decode prog_1_method_23_code 145 = .ok (.iinc 4 1, 3) := by decide +kernel
theorem d_Co_digest_148 : decode prog_1_method_23_code 148 = .ok (.goto (-24), 3) := by decide +kernel
theorem d_Co_digest_151 : decode prog_1_method_23_code 151 = .ok (.iinc 3 1, 3) := by decide +kernel
theorem d_Co_digest_154 : decode prog_1_method_23_code 154 = .ok (.goto (-73), 3) := by decide +kernel
theorem d_Co_digest_157 : decode prog_1_method_23_code 157 = .ok (.iconst 0, 1) := by decide +kernel
theorem d_Co_digest_158 : decode prog_1_method_23_code 158 = .ok (.istore_n 3, 1) := by decide +kernel
theorem d_Co_digest_159 : decode prog_1_method_23_code 159 = .ok (.iload_n 3, 1) := by decide +kernel
theorem d_Co_digest_160 : decode prog_1_method_23_code 160 = .ok (.aload_n 0, 1) := by decide +kernel
theorem d_Co_digest_161 : decode prog_1_method_23_code 161 = .ok (.getfield 10, 3) := by decide +kernel
theorem d_Co_digest_164 : decode prog_1_method_23_code 164 = .ok (.invokevirtual 65, 3) := by decide +kernel
theorem d_Co_digest_167 : decode prog_1_method_23_code 167 = .ok (.if_icmp .ge 23, 3) := by decide +kernel
theorem d_Co_digest_170 : decode prog_1_method_23_code 170 = .ok (.lload_n 1, 1) := by decide +kernel
theorem d_Co_digest_171 : decode prog_1_method_23_code 171 = .ok (.aload_n 0, 1) := by decide +kernel
theorem d_Co_digest_172 : decode prog_1_method_23_code 172 = .ok (.getfield 10, 3) := by decide +kernel
theorem d_Co_digest_175 : decode prog_1_method_23_code 175 = .ok (.iload_n 3, 1) := by decide +kernel
theorem d_Co_digest_176 : decode prog_1_method_23_code 176 = .ok (.invokevirtual 273, 3) := by decide +kernel
theorem d_Co_digest_179 : decode prog_1_method_23_code 179 = .ok (.i2l, 1) := by decide +kernel
theorem d_Co_digest_180 : decode prog_1_method_23_code 180 = .ok (.invokestatic 260, 3) := by decide +kernel
theorem d_Co_digest_183 : decode prog_1_method_23_code 183 = .ok (.lstore_n 1, 1) := by decide +kernel
theorem d_Co_digest_184 : decode prog_1_method_23_code 184 = .ok (.iinc 3 1, 3) := by decide +kernel
theorem d_Co_digest_187 : decode prog_1_method_23_code 187 = .ok (.goto (-28), 3) := by decide +kernel
theorem d_Co_digest_190 : decode prog_1_method_23_code 190 = .ok (.iconst 0, 1) := by decide +kernel
theorem d_Co_digest_191 : decode prog_1_method_23_code 191 = .ok (.istore_n 3, 1) := by decide +kernel
theorem d_Co_digest_192 : decode prog_1_method_23_code 192 = .ok (.iload_n 3, 1) := by decide +kernel
theorem d_Co_digest_193 : decode prog_1_method_23_code 193 = .ok (.bipush 11, 2) := by decide +kernel
theorem d_Co_digest_195 : decode prog_1_method_23_code 195 = .ok (.if_icmp .gt 20, 3) := by decide +kernel
theorem d_Co_digest_198 : decode prog_1_method_23_code 198 = .ok (.lload_n 1, 1) := by decide +kernel
theorem d_Co_digest_199 : decode prog_1_method_23_code 199 = .ok (.aload_n 0, 1) := by decide +kernel
theorem d_Co_digest_200 : decode prog_1_method_23_code 200 = .ok (.iload_n 3, 1) := by decide +kernel
theorem d_Co_digest_201 : decode prog_1_method_23_code 201 = .ok (.invokevirtual 276, 3) := by decide +kernel
theorem d_Co_digest_204 : decode prog_1_method_23_code 204 = .ok (.i2l, 1) := by decide +kernel
theorem d_Co_digest_205 : decode prog_1_method_23_code 205 = .ok (.invokestatic 260, 3) := by decide +kernel
theorem d_Co_digest_208 : decode prog_1_method_23_code 208 = .ok (.lstore_n 1, 1) := by decide +kernel
theorem d_Co_digest_209 : decode prog_1_method_23_code 209 = .ok (.iinc 3 1, 3) := by decide +kernel
theorem d_Co_digest_212 : decode prog_1_method_23_code 212 = .ok (.goto (-20), 3) := by decide +kernel
theorem d_Co_digest_215 : decode prog_1_method_23_code 215 = .ok (.lload_n 1, 1) := by decide +kernel
theorem d_Co_digest_216 : decode prog_1_method_23_code 216 = .ok (.lreturn, 1) := by decide +kernel
theorem d_Rd_isDigit_0 : decode prog_8_method_10_code 0 = .ok (.iload_n 0, 1) := by decide +kernel
theorem d_Rd_isDigit_1 : decode prog_8_method_10_code 1 = .ok (.bipush 48, 2) := by decide +kernel
theorem d_Rd_isDigit_3 : decode prog_8_method_10_code 3 = .ok (.iload_n 1, 1) := by decide +kernel
theorem d_Rd_isDigit_4 : decode prog_8_method_10_code 4 = .ok (.iadd, 1) := by decide +kernel
theorem d_Rd_isDigit_5 : decode prog_8_method_10_code 5 = .ok (.if_icmp .lt 15, 3) := by decide +kernel
theorem d_Rd_isDigit_8 : decode prog_8_method_10_code 8 = .ok (.iload_n 0, 1) := by decide +kernel
theorem d_Rd_isDigit_9 : decode prog_8_method_10_code 9 = .ok (.bipush 48, 2) := by decide +kernel
theorem d_Rd_isDigit_11 : decode prog_8_method_10_code 11 = .ok (.iload_n 2, 1) := by decide +kernel
theorem d_Rd_isDigit_12 : decode prog_8_method_10_code 12 = .ok (.iadd, 1) := by decide +kernel
theorem d_Rd_isDigit_13 : decode prog_8_method_10_code 13 = .ok (.if_icmp .gt 7, 3) := by decide +kernel
theorem d_Rd_isDigit_16 : decode prog_8_method_10_code 16 = .ok (.iconst 1, 1) := by decide +kernel
theorem d_Rd_isDigit_17 : decode prog_8_method_10_code 17 = .ok (.goto 4, 3) := by decide +kernel
theorem d_Rd_isDigit_20 : decode prog_8_method_10_code 20 = .ok (.iconst 0, 1) := by decide +kernel
theorem d_Rd_isDigit_21 : decode prog_8_method_10_code 21 = .ok (.ireturn, 1) := by decide +kernel
theorem d_Rd_goesOn_0 : decode prog_8_method_9_code 0 = .ok (.iload_n 1, 1) := by decide +kernel
theorem d_Rd_goesOn_1 : decode prog_8_method_9_code 1 = .ok (.ifCond .eq 8, 3) := by decide +kernel
theorem d_Rd_goesOn_4 : decode prog_8_method_9_code 4 = .ok (.aload_n 0, 1) := by decide +kernel
theorem d_Rd_goesOn_5 : decode prog_8_method_9_code 5 = .ok (.iload_n 2, 1) := by decide +kernel
theorem d_Rd_goesOn_6 : decode prog_8_method_9_code 6 = .ok (.putfield 15, 3) := by decide +kernel
theorem d_Rd_goesOn_9 : decode prog_8_method_9_code 9 = .ok (.iload_n 1, 1) := by decide +kernel
theorem d_Rd_goesOn_10 : decode prog_8_method_9_code 10 = .ok (.ireturn, 1) := by decide +kernel
theorem d_Rd_takesDigitOfTree_0 : decode prog_8_method_6_code 0 = .ok (.iload_n 1, 1) := by decide +kernel
theorem d_Rd_takesDigitOfTree_1 : decode prog_8_method_6_code 1 = .ok (.iconst 0, 1) := by decide +kernel
theorem d_Rd_takesDigitOfTree_2 : decode prog_8_method_6_code 2 = .ok (.bipush 9, 2) := by decide +kernel
theorem d_Rd_takesDigitOfTree_4 : decode prog_8_method_6_code 4 = .ok (.invokestatic 75, 3) := by decide +kernel
theorem d_Rd_takesDigitOfTree_7 : decode prog_8_method_6_code 7 = .ok (.istore_n 2, 1) := by decide +kernel
theorem d_Rd_takesDigitOfTree_8 : decode prog_8_method_6_code 8 = .ok (.aload_n 0, 1) := by decide +kernel
theorem d_Rd_takesDigitOfTree_9 : decode prog_8_method_6_code 9 = .ok (.getfield 15, 3) := by decide +kernel
theorem d_Rd_takesDigitOfTree_12 : decode prog_8_method_6_code 12 = .ok (.ifCond .ne 10, 3) := by decide +kernel
theorem d_Rd_takesDigitOfTree_15 : decode prog_8_method_6_code 15 = .ok (.aload_n 0, 1) := by decide +kernel
theorem d_Rd_takesDigitOfTree_16 : decode prog_8_method_6_code 16 = .ok (.iload_n 2, 1) := by decide +kernel
theorem d_Rd_takesDigitOfTree_17 : decode prog_8_method_6_code 17 = .ok (.iconst 1, 1) := by decide +kernel
theorem d_Rd_takesDigitOfTree_18 : decode prog_8_method_6_code 18 = .ok (.invokevirtual 71, 3) := by decide +kernel
theorem d_Rd_takesDigitOfTree_21 : decode prog_8_method_6_code 21 = .ok (.ireturn, 1) := by decide +kernel
theorem d_Rd_takesDigitOfTree_22 : decode prog_8_method_6_code 22 = .ok (.aload_n 0, 1) := by decide +kernel
theorem d_Rd_takesDigitOfTree_23 : decode prog_8_method_6_code 23 = .ok (.dup, 1) := by decide +kernel
theorem d_Rd_takesDigitOfTree_24 : decode prog_8_method_6_code 24 = .ok (.getfield 19, 3) := by decide +kernel
theorem d_Rd_takesDigitOfTree_27 : decode prog_8_method_6_code 27 = .ok (.iload_n 2, 1) := by decide +kernel
theorem d_Rd_takesDigitOfTree_28 : decode prog_8_method_6_code 28 = .ok (.ifCond .eq 7, 3) := by decide +kernel
theorem d_Rd_takesDigitOfTree_31 : decode prog_8_method_6_code 31 = .ok (.iconst 1, 1) := by decide +kernel
theorem d_Rd_takesDigitOfTree_32 : decode prog_8_method_6_code 32 = .ok (.goto 4, 3) := by decide +kernel
theorem d_Rd_takesDigitOfTree_35 : decode prog_8_method_6_code 35 = .ok (.iconst 0, 1) := by decide +kernel
theorem d_Rd_takesDigitOfTree_36 : decode prog_8_method_6_code 36 = .ok (.iadd, 1) := by decide +kernel
theorem d_Rd_takesDigitOfTree_37 : decode prog_8_method_6_code 37 = .ok (.putfield 19, 3) := by decide +kernel
theorem d_Rd_takesDigitOfTree_40 : decode prog_8_method_6_code 40 = .ok (.aload_n 0, 1) := by decide +kernel
theorem d_Rd_takesDigitOfTree_41 : decode prog_8_method_6_code 41 = .ok (.iload_n 2, 1) := by decide +kernel
theorem d_Rd_takesDigitOfTree_42 : decode prog_8_method_6_code 42 = .ok (.iconst 2, 1) := by decide +kernel
theorem d_Rd_takesDigitOfTree_43 : decode prog_8_method_6_code 43 = .ok (.invokevirtual 71, 3) := by decide +kernel
theorem d_Rd_takesDigitOfTree_46 : decode prog_8_method_6_code 46 = .ok (.ireturn, 1) := by decide +kernel
theorem d_Rd_takesTreeEnd_0 : decode prog_8_method_7_code 0 = .ok (.iload_n 1, 1) := by decide +kernel
theorem d_Rd_takesTreeEnd_1 : decode prog_8_method_7_code 1 = .ok (.bipush 59, 2) := by decide +kernel
theorem d_Rd_takesTreeEnd_3 : decode prog_8_method_7_code 3 = .ok (.if_icmp .ne 10, 3) := by decide +kernel
theorem d_Rd_takesTreeEnd_6 : decode prog_8_method_7_code 6 = .ok (.aload_n 0, 1) := by decide +kernel
theorem d_Rd_takesTreeEnd_7 : decode prog_8_method_7_code 7 = .ok (.iconst 1, 1) := by decide +kernel
theorem d_Rd_takesTreeEnd_8 : decode prog_8_method_7_code 8 = .ok (.iconst 3, 1) := by decide +kernel
theorem d_Rd_takesTreeEnd_9 : decode prog_8_method_7_code 9 = .ok (.invokevirtual 71, 3) := by decide +kernel
theorem d_Rd_takesTreeEnd_12 : decode prog_8_method_7_code 12 = .ok (.ireturn, 1) := by decide +kernel
theorem d_Rd_takesTreeEnd_13 : decode prog_8_method_7_code 13 = .ok (.aload_n 0, 1) := by decide +kernel
theorem d_Rd_takesTreeEnd_14 : decode prog_8_method_7_code 14 = .ok (.iload_n 1, 1) := by decide +kernel
theorem d_Rd_takesTreeEnd_15 : decode prog_8_method_7_code 15 = .ok (.bipush 44, 2) := by decide +kernel
theorem d_Rd_takesTreeEnd_17 : decode prog_8_method_7_code 17 = .ok (.if_icmp .ne 15, 3) := by decide +kernel
theorem d_Rd_takesTreeEnd_20 : decode prog_8_method_7_code 20 = .ok (.aload_n 0, 1) := by decide +kernel
theorem d_Rd_takesTreeEnd_21 : decode prog_8_method_7_code 21 = .ok (.getfield 19, 3) := by decide +kernel
theorem d_Rd_takesTreeEnd_24 : decode prog_8_method_7_code 24 = .ok (.iconst 3, 1) := by decide +kernel
theorem d_Rd_takesTreeEnd_25 : decode prog_8_method_7_code 25 = .ok (.if_icmp .ge 7, 3) := by decide +kernel
theorem d_Rd_takesTreeEnd_28 : decode prog_8_method_7_code 28 = .ok (.iconst 1, 1) := by decide +kernel
theorem d_Rd_takesTreeEnd_29 : decode prog_8_method_7_code 29 = .ok (.goto 4, 3) := by decide +kernel
theorem d_Rd_takesTreeEnd_32 : decode prog_8_method_7_code 32 = .ok (.iconst 0, 1) := by decide +kernel
theorem d_Rd_takesTreeEnd_33 : decode prog_8_method_7_code 33 = .ok (.iconst 0, 1) := by decide +kernel
theorem d_Rd_takesTreeEnd_34 : decode prog_8_method_7_code 34 = .ok (.invokevirtual 71, 3) := by decide +kernel
theorem d_Rd_takesTreeEnd_37 : decode prog_8_method_7_code 37 = .ok (.ireturn, 1) := by decide +kernel
theorem d_Rd_takesHang_0 : decode prog_8_method_8_code 0 = .ok (.iload_n 1, 1) := by decide +kernel
theorem d_Rd_takesHang_1 : decode prog_8_method_8_code 1 = .ok (.bipush 45, 2) := by decide +kernel
theorem d_Rd_takesHang_3 : decode prog_8_method_8_code 3 = .ok (.if_icmp .eq 17, 3) := by decide +kernel
theorem d_Rd_takesHang_6 : decode prog_8_method_8_code 6 = .ok (.iload_n 1, 1) := by decide +kernel
theorem d_Rd_takesHang_7 : decode prog_8_method_8_code 7 = .ok (.iconst 0, 1) := by decide +kernel
theorem d_Rd_takesHang_8 : decode prog_8_method_8_code 8 = .ok (.aload_n 0, 1) := by decide +kernel
theorem d_Rd_takesHang_9 : decode prog_8_method_8_code 9 = .ok (.getfield 22, 3) := by decide +kernel
theorem d_Rd_takesHang_12 : decode prog_8_method_8_code 12 = .ok (.iconst 1, 1) := by decide +kernel
theorem d_Rd_takesHang_13 : decode prog_8_method_8_code 13 = .ok (.isub, 1) := by decide +kernel
theorem d_Rd_takesHang_14 : decode prog_8_method_8_code 14 = .ok (.invokestatic 75, 3) := by decide +kernel
theorem d_Rd_takesHang_17 : decode prog_8_method_8_code 17 = .ok (.ifCond .eq 7, 3) := by decide +kernel
theorem d_Rd_takesHang_20 : decode prog_8_method_8_code 20 = .ok (.iconst 1, 1) := by decide +kernel
theorem d_Rd_takesHang_21 : decode prog_8_method_8_code 21 = .ok (.goto 4, 3) := by decide +kernel
theorem d_Rd_takesHang_24 : decode prog_8_method_8_code 24 = .ok (.iconst 0, 1) := by decide +kernel
theorem d_Rd_takesHang_25 : decode prog_8_method_8_code 25 = .ok (.istore_n 2, 1) := by decide +kernel
theorem d_Rd_takesHang_26 : decode prog_8_method_8_code 26 = .ok (.aload_n 0, 1) := by decide +kernel
theorem d_Rd_takesHang_27 : decode prog_8_method_8_code 27 = .ok (.dup, 1) := by decide +kernel
theorem d_Rd_takesHang_28 : decode prog_8_method_8_code 28 = .ok (.getfield 22, 3) := by decide +kernel
theorem d_Rd_takesHang_31 : decode prog_8_method_8_code 31 = .ok (.iload_n 2, 1) := by decide +kernel
theorem d_Rd_takesHang_32 : decode prog_8_method_8_code 32 = .ok (.ifCond .eq 7, 3) := by decide +kernel
theorem d_Rd_takesHang_35 : decode prog_8_method_8_code 35 = .ok (.iconst 1, 1) := by decide +kernel
theorem d_Rd_takesHang_36 : decode prog_8_method_8_code 36 = .ok (.goto 4, 3) := by decide +kernel
theorem d_Rd_takesHang_39 : decode prog_8_method_8_code 39 = .ok (.iconst 0, 1) := by decide +kernel
theorem d_Rd_takesHang_40 : decode prog_8_method_8_code 40 = .ok (.iadd, 1) := by decide +kernel
theorem d_Rd_takesHang_41 : decode prog_8_method_8_code 41 = .ok (.putfield 22, 3) := by decide +kernel
theorem d_Rd_takesHang_44 : decode prog_8_method_8_code 44 = .ok (.aload_n 0, 1) := by decide +kernel
theorem d_Rd_takesHang_45 : decode prog_8_method_8_code 45 = .ok (.iload_n 2, 1) := by decide +kernel
theorem d_Rd_takesHang_46 : decode prog_8_method_8_code 46 = .ok (.bipush 7, 2) := by decide +kernel
theorem d_Rd_takesHang_48 : decode prog_8_method_8_code 48 = .ok (.invokevirtual 71, 3) := by decide +kernel
theorem d_Rd_takesHang_51 : decode prog_8_method_8_code 51 = .ok (.ireturn, 1) := by decide +kernel
theorem d_Rd_takes_0 : decode prog_8_method_5_code 0 = .ok (.aload_n 0, 1) := by decide +kernel
theorem d_Rd_takes_1 : decode prog_8_method_5_code 1 = .ok (.getfield 15, 3) := by decide +kernel
theorem d_Rd_takes_4 : decode prog_8_method_5_code 4 = .ok (.tableswitch 110 0 6 #[44, 44, 50, 56, 77, 90, 104], 44) := by decide +kernel
theorem d_Rd_takes_48 : decode prog_8_method_5_code 48 = .ok (.aload_n 0, 1) := by decide +kernel
theorem d_Rd_takes_49 : decode prog_8_method_5_code 49 = .ok (.iload_n 1, 1) := by decide +kernel
theorem d_Rd_takes_50 : decode prog_8_method_5_code 50 = .ok (.invokevirtual 65, 3) := by decide +kernel
theorem d_Rd_takes_53 : decode prog_8_method_5_code 53 = .ok (.ireturn, 1) := by decide +kernel
theorem d_Rd_takes_54 : decode prog_8_method_5_code 54 = .ok (.aload_n 0, 1) := by decide +kernel
theorem d_Rd_takes_55 : decode prog_8_method_5_code 55 = .ok (.iload_n 1, 1) := by decide +kernel
theorem d_Rd_takes_56 : decode prog_8_method_5_code 56 = .ok (.invokevirtual 68, 3) := by decide +kernel
theorem d_Rd_takes_59 : decode prog_8_method_5_code 59 = .ok (.ireturn, 1) := by decide +kernel
theorem d_Rd_takes_60 : decode prog_8_method_5_code 60 = .ok (.aload_n 0, 1) := by decide +kernel
theorem d_Rd_takes_61 : decode prog_8_method_5_code 61 = .ok (.ldc 54, 2) := by decide +kernel
theorem d_Rd_takes_63 : decode prog_8_method_5_code 63 = .ok (.iload_n 1, 1) := by decide +kernel
theorem d_Rd_takes_64 : decode prog_8_method_5_code 64 = .ok (.i2c, 1) := by decide +kernel
theorem d_Rd_takes_65 : decode prog_8_method_5_code 65 = .ok (.invokevirtual 56, 3) := by decide +kernel
theorem d_Rd_takes_68 : decode prog_8_method_5_code 68 = .ok (.ifCond .lt 7, 3) := by decide +kernel
theorem d_Rd_takes_71 : decode prog_8_method_5_code 71 = .ok (.iconst 1, 1) := by decide +kernel
theorem d_Rd_takes_72 : decode prog_8_method_5_code 72 = .ok (.goto 4, 3) := by decide +kernel
theorem d_Rd_takes_75 : decode prog_8_method_5_code 75 = .ok (.iconst 0, 1) := by decide +kernel
theorem d_Rd_takes_76 : decode prog_8_method_5_code 76 = .ok (.iconst 4, 1) := by decide +kernel
theorem d_Rd_takes_77 : decode prog_8_method_5_code 77 = .ok (.invokevirtual 71, 3) := by decide +kernel
theorem d_Rd_takes_80 : decode prog_8_method_5_code 80 = .ok (.ireturn, 1) := by decide +kernel
theorem d_Rd_takes_81 : decode prog_8_method_5_code 81 = .ok (.aload_n 0, 1) := by decide +kernel
theorem d_Rd_takes_82 : decode prog_8_method_5_code 82 = .ok (.iload_n 1, 1) := by decide +kernel
theorem d_Rd_takes_83 : decode prog_8_method_5_code 83 = .ok (.iconst 1, 1) := by decide +kernel
theorem d_Rd_takes_84 : decode prog_8_method_5_code 84 = .ok (.bipush 9, 2) := by decide +kernel
theorem d_Rd_takes_86 : decode prog_8_method_5_code 86 = .ok (.invokestatic 75, 3) := by decide +kernel
theorem d_Rd_takes_89 : decode prog_8_method_5_code 89 = .ok (.iconst 5, 1) := by decide +kernel
theorem d_Rd_takes_90 : decode prog_8_method_5_code 90 = .ok (.invokevirtual 71, 3) := by decide +kernel
theorem d_Rd_takes_93 : decode prog_8_method_5_code 93 = .ok (.ireturn, 1) := by decide +kernel
theorem d_Rd_takes_94 : decode prog_8_method_5_code 94 = .ok (.aload_n 0, 1) := by decide +kernel
theorem d_Rd_takes_95 : decode prog_8_method_5_code 95 = .ok (.iload_n 1, 1) := by decide +kernel
theorem d_Rd_takes_96 : decode prog_8_method_5_code 96 = .ok (.iconst 1, 1) := by decide +kernel
theorem d_Rd_takes_97 : decode prog_8_method_5_code 97 = .ok (.bipush 9, 2) := by decide +kernel
theorem d_Rd_takes_99 : decode prog_8_method_5_code 99 = .ok (.invokestatic 75, 3) := by decide +kernel
theorem d_Rd_takes_102 : decode prog_8_method_5_code 102 = .ok (.bipush 6, 2) := by decide +kernel
theorem d_Rd_takes_104 : decode prog_8_method_5_code 104 = .ok (.invokevirtual 71, 3) := by decide +kernel
theorem d_Rd_takes_107 : decode prog_8_method_5_code 107 = .ok (.ireturn, 1) := by decide +kernel
theorem d_Rd_takes_108 : decode prog_8_method_5_code 108 = .ok (.aload_n 0, 1) := by decide +kernel
theorem d_Rd_takes_109 : decode prog_8_method_5_code 109 = .ok (.iload_n 1, 1) := by decide +kernel
theorem d_Rd_takes_110 : decode prog_8_method_5_code 110 = .ok (.invokevirtual 79, 3) := by decide +kernel
theorem d_Rd_takes_113 : decode prog_8_method_5_code 113 = .ok (.ireturn, 1) := by decide +kernel
theorem d_Rd_takes_114 : decode prog_8_method_5_code 114 = .ok (.aload_n 0, 1) := by decide +kernel
theorem d_Rd_takes_115 : decode prog_8_method_5_code 115 = .ok (.iload_n 1, 1) := by decide +kernel
theorem d_Rd_takes_116 : decode prog_8_method_5_code 116 = .ok (.bipush 44, 2) := by decide +kernel
theorem d_Rd_takes_118 : decode prog_8_method_5_code 118 = .ok (.if_icmp .ne 16, 3) := by decide +kernel
theorem d_Rd_takes_121 : decode prog_8_method_5_code 121 = .ok (.aload_n 0, 1) := by decide +kernel
theorem d_Rd_takes_122 : decode prog_8_method_5_code 122 = .ok (.getfield 22, 3) := by decide +kernel
theorem d_Rd_takes_125 : decode prog_8_method_5_code 125 = .ok (.bipush 7, 2) := by decide +kernel
theorem d_Rd_takes_127 : decode prog_8_method_5_code 127 = .ok (.if_icmp .ge 7, 3) := by decide +kernel
theorem d_Rd_takes_130 : decode prog_8_method_5_code 130 = .ok (.iconst 1, 1) := by decide +kernel
theorem d_Rd_takes_131 : decode prog_8_method_5_code 131 = .ok (.goto 4, 3) := by decide +kernel
theorem d_Rd_takes_134 : decode prog_8_method_5_code 134 = .ok (.iconst 0, 1) := by decide +kernel
theorem d_Rd_takes_135 : decode prog_8_method_5_code 135 = .ok (.iconst 3, 1) := by decide +kernel
theorem d_Rd_takes_136 : decode prog_8_method_5_code 136 = .ok (.invokevirtual 71, 3) := by decide +kernel
theorem d_Rd_takes_139 : decode prog_8_method_5_code 139 = .ok (.ireturn, 1) := by decide +kernel
theorem d_Rd_firstFault_0 : decode prog_8_method_2_code 0 = .ok (.aload_n 0, 1) := by decide +kernel
theorem d_Rd_firstFault_1 : decode prog_8_method_2_code 1 = .ok (.iconst 0, 1) := by decide +kernel
theorem d_Rd_firstFault_2 : decode prog_8_method_2_code 2 = .ok (.putfield 15, 3) := by decide +kernel
theorem d_Rd_firstFault_5 : decode prog_8_method_2_code 5 = .ok (.aload_n 0, 1) := by decide +kernel
theorem d_Rd_firstFault_6 : decode prog_8_method_2_code 6 = .ok (.iconst 0, 1) := by decide +kernel
theorem d_Rd_firstFault_7 : decode prog_8_method_2_code 7 = .ok (.putfield 19, 3) := by decide +kernel
theorem d_Rd_firstFault_10 : decode prog_8_method_2_code 10 = .ok (.aload_n 0, 1) := by decide +kernel
theorem d_Rd_firstFault_11 : decode prog_8_method_2_code 11 = .ok (.iconst 0, 1) := by decide +kernel
theorem d_Rd_firstFault_12 : decode prog_8_method_2_code 12 = .ok (.putfield 22, 3) := by decide +kernel
theorem d_Rd_firstFault_15 : decode prog_8_method_2_code 15 = .ok (.iconst 0, 1) := by decide +kernel
theorem d_Rd_firstFault_16 : decode prog_8_method_2_code 16 = .ok (.istore_n 1, 1) := by decide +kernel
theorem d_Rd_firstFault_17 : decode prog_8_method_2_code 17 = .ok (.iload_n 1, 1) := by decide +kernel
theorem d_Rd_firstFault_18 : decode prog_8_method_2_code 18 = .ok (.aload_n 0, 1) := by decide +kernel
theorem d_Rd_firstFault_19 : decode prog_8_method_2_code 19 = .ok (.getfield 9, 3) := by decide +kernel
theorem d_Rd_firstFault_22 : decode prog_8_method_2_code 22 = .ok (.invokevirtual 25, 3) := by decide +kernel
theorem d_Rd_firstFault_25 : decode prog_8_method_2_code 25 = .ok (.if_icmp .ge 26, 3) := by decide +kernel
theorem d_Rd_firstFault_28 : decode prog_8_method_2_code 28 = .ok (.aload_n 0, 1) := by decide +kernel
theorem d_Rd_firstFault_29 : decode prog_8_method_2_code 29 = .ok (.aload_n 0, 1) := by decide +kernel
theorem d_Rd_firstFault_30 : decode prog_8_method_2_code 30 = .ok (.getfield 9, 3) := by decide +kernel
theorem d_Rd_firstFault_33 : decode prog_8_method_2_code 33 = .ok (.iload_n 1, 1) := by decide +kernel
theorem d_Rd_firstFault_34 : decode prog_8_method_2_code 34 = .ok (.invokevirtual 31, 3) := by decide +kernel
theorem d_Rd_firstFault_37 : decode prog_8_method_2_code 37 = .ok (.invokevirtual 35, 3) := by decide +kernel
theorem d_Rd_firstFault_40 : decode prog_8_method_2_code 40 = .ok (.ifCond .ne 5, 3) := by decide +kernel
theorem d_Rd_firstFault_43 : decode prog_8_method_2_code 43 = .ok (.iload_n 1, 1) := by decide +kernel
theorem d_Rd_firstFault_44 : decode prog_8_method_2_code 44 = .ok (.ireturn, 1) := by decide +kernel
theorem d_Rd_firstFault_45 : decode prog_8_method_2_code 45 = .ok (.iinc 1 1, 3) := by decide +kernel
theorem d_Rd_firstFault_48 : decode prog_8_method_2_code 48 = .ok (.goto (-31), 3) := by decide +kernel
theorem d_Rd_firstFault_51 : decode prog_8_method_2_code 51 = .ok (.aload_n 0, 1) := by decide +kernel
theorem d_Rd_firstFault_52 : decode prog_8_method_2_code 52 = .ok (.getfield 9, 3) := by decide +kernel
theorem d_Rd_firstFault_55 : decode prog_8_method_2_code 55 = .ok (.invokevirtual 25, 3) := by decide +kernel
theorem d_Rd_firstFault_58 : decode prog_8_method_2_code 58 = .ok (.ireturn, 1) := by decide +kernel
theorem d_Co_fault_0 : decode prog_1_method_4_code 0 = .ok (.aload_n 0, 1) := by decide +kernel
theorem d_Co_fault_1 : decode prog_1_method_4_code 1 = .ok (.getfield 21, 3) := by decide +kernel
theorem d_Co_fault_4 : decode prog_1_method_4_code 4 = .ok (.invokevirtual 76, 3) := by decide +kernel
theorem d_Co_fault_7 : decode prog_1_method_4_code 7 = .ok (.ireturn, 1) := by decide +kernel
theorem d_Si_clear_0 : decode prog_11_method_4_code 0 = .ok (.aload_n 0, 1) := by decide +kernel
theorem d_Si_clear_1 : decode prog_11_method_4_code 1 = .ok (.iconst 0, 1) := by decide +kernel
theorem d_Si_clear_2 : decode prog_11_method_4_code 2 = .ok (.putfield 26, 3) := by decide +kernel
theorem d_Si_clear_5 : decode prog_11_method_4_code 5 = .ok (.return_, 1) := by decide +kernel
theorem d_Co_forget_0 : decode prog_1_method_18_code 0 = .ok (.aload_n 0, 1) := by decide +kernel
theorem d_Co_forget_1 : decode prog_1_method_18_code 1 = .ok (.getfield 28, 3) := by decide +kernel
theorem d_Co_forget_4 : decode prog_1_method_18_code 4 = .ok (.invokevirtual 219, 3) := by decide +kernel
theorem d_Co_forget_7 : decode prog_1_method_18_code 7 = .ok (.invokevirtual 223, 3) := by decide +kernel
theorem d_Co_forget_10 : decode prog_1_method_18_code 10 = .ok (.istore_n 1, 1) := by decide +kernel
theorem d_Co_forget_11 : decode prog_1_method_18_code 11 = .ok (.aload_n 0, 1) := by decide +kernel
theorem d_Co_forget_12 : decode prog_1_method_18_code 12 = .ok (.getfield 28, 3) := by decide +kernel
theorem d_Co_forget_15 : decode prog_1_method_18_code 15 = .ok (.invokevirtual 219, 3) := by decide +kernel
theorem d_Co_forget_18 : decode prog_1_method_18_code 18 = .ok (.invokevirtual 229, 3) := by decide +kernel
theorem d_Co_forget_21 : decode prog_1_method_18_code 21 = .ok (.iload_n 1, 1) := by decide +kernel
theorem d_Co_forget_22 : decode prog_1_method_18_code 22 = .ok (.ireturn, 1) := by decide +kernel
theorem d_Co_image_0 : decode prog_1_method_20_code 0 = .ok (.aload_n 0, 1) := by decide +kernel
theorem d_Co_image_1 : decode prog_1_method_20_code 1 = .ok (.invokevirtual 161, 3) := by decide +kernel
theorem d_Co_image_4 : decode prog_1_method_20_code 4 = .ok (.ifCond .ne 6, 3) := by decide +kernel
theorem d_Co_image_7 : decode prog_1_method_20_code 7 = .ok (.bipush (-103), 2) := by decide +kernel
theorem d_Co_image_9 : decode prog_1_method_20_code 9 = .ok (.ireturn, 1) := by decide +kernel
theorem d_Co_image_10 : decode prog_1_method_20_code 10 = .ok (.aload_n 0, 1) := by decide +kernel
theorem d_Co_image_11 : decode prog_1_method_20_code 11 = .ok (.getfield 32, 3) := by decide +kernel
theorem d_Co_image_14 : decode prog_1_method_20_code 14 = .ok (.aload_n 0, 1) := by decide +kernel
theorem d_Co_image_15 : decode prog_1_method_20_code 15 = .ok (.getfield 28, 3) := by decide +kernel
theorem d_Co_image_18 : decode prog_1_method_20_code 18 = .ok (.invokevirtual 238, 3) := by decide +kernel
theorem d_Co_image_21 : decode prog_1_method_20_code 21 = .ok (.aload_n 0, 1) := by decide +kernel
theorem d_Co_image_22 : decode prog_1_method_20_code 22 = .ok (.iconst 1, 1) := by decide +kernel
theorem d_Co_image_23 : decode prog_1_method_20_code 23 = .ok (.putfield 86, 3) := by decide +kernel
theorem d_Co_image_26 : decode prog_1_method_20_code 26 = .ok (.aload_n 0, 1) := by decide +kernel
theorem d_Co_image_27 : decode prog_1_method_20_code 27 = .ok (.getfield 32, 3) := by decide +kernel
theorem d_Co_image_30 : decode prog_1_method_20_code 30 = .ok (.invokevirtual 164, 3) := by decide +kernel
theorem d_Co_image_33 : decode prog_1_method_20_code 33 = .ok (.ireturn, 1) := by decide +kernel
theorem d_Pg_add_0 : decode prog_6_method_5_code 0 = .ok (.aload_n 0, 1) := by decide +kernel
theorem d_Pg_add_1 : decode prog_6_method_5_code 1 = .ok (.getfield 14, 3) := by decide +kernel
theorem d_Pg_add_4 : decode prog_6_method_5_code 4 = .ok (.aload_n 0, 1) := by decide +kernel
theorem d_Pg_add_5 : decode prog_6_method_5_code 5 = .ok (.getfield 20, 3) := by decide +kernel
theorem d_Pg_add_8 : decode prog_6_method_5_code 8 = .ok (.iload_n 1, 1) := by decide +kernel
theorem d_Pg_add_9 : decode prog_6_method_5_code 9 = .ok (.invokevirtual 28, 3) := by decide +kernel
theorem d_Pg_add_12 : decode prog_6_method_5_code 12 = .ok (.aload_n 0, 1) := by decide +kernel
theorem d_Pg_add_13 : decode prog_6_method_5_code 13 = .ok (.dup, 1) := by decide +kernel
theorem d_Pg_add_14 : decode prog_6_method_5_code 14 = .ok (.getfield 20, 3) := by decide +kernel
theorem d_Pg_add_17 : decode prog_6_method_5_code 17 = .ok (.iconst 1, 1) := by decide +kernel
theorem d_Pg_add_18 : decode prog_6_method_5_code 18 = .ok (.iadd, 1) := by decide +kernel
theorem d_Pg_add_19 : decode prog_6_method_5_code 19 = .ok (.putfield 20, 3) := by decide +kernel
theorem d_Pg_add_22 : decode prog_6_method_5_code 22 = .ok (.return_, 1) := by decide +kernel
