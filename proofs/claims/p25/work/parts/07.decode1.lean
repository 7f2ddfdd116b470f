theorem d_Sh_hasSuit_0 : decode prog_10_method_7_code 0 = .ok (.iload_n 1, 1) := by decide +kernel
theorem d_Sh_hasSuit_1 : decode prog_10_method_7_code 1 = .ok (.ifCond .lt 15, 3) := by decide +kernel
theorem d_Sh_hasSuit_4 : decode prog_10_method_7_code 4 = .ok (.iload_n 1, 1) := by decide +kernel
theorem d_Sh_hasSuit_5 : decode prog_10_method_7_code 5 = .ok (.aload_n 0, 1) := by decide +kernel
theorem d_Sh_hasSuit_6 : decode prog_10_method_7_code 6 = .ok (.getfield 52, 3) := by decide +kernel
theorem d_Sh_hasSuit_9 : decode prog_10_method_7_code 9 = .ok (.if_icmp .ge 7, 3) := by decide +kernel
theorem d_Sh_hasSuit_12 : decode prog_10_method_7_code 12 = .ok (.iconst 1, 1) := by decide +kernel
theorem d_Sh_hasSuit_13 : decode prog_10_method_7_code 13 = .ok (.goto 4, 3) := by decide +kernel
theorem d_Sh_hasSuit_16 : decode prog_10_method_7_code 16 = .ok (.iconst 0, 1) := by decide +kernel
theorem d_Sh_hasSuit_17 : decode prog_10_method_7_code 17 = .ok (.ireturn, 1) := by decide +kernel
theorem d_Rw_at_0 : decode prog_9_method_2_code 0 = .ok (.iload_n 1, 1) := by decide +kernel
theorem d_Rw_at_1 : decode prog_9_method_2_code 1 = .ok (.ifCond .lt 21, 3) := by decide +kernel
theorem d_Rw_at_4 : decode prog_9_method_2_code 4 = .ok (.iload_n 1, 1) := by decide +kernel
theorem d_Rw_at_5 : decode prog_9_method_2_code 5 = .ok (.aload_n 0, 1) := by decide +kernel
theorem d_Rw_at_6 : decode prog_9_method_2_code 6 = .ok (.getfield 7, 3) := by decide +kernel
theorem d_Rw_at_9 : decode prog_9_method_2_code 9 = .ok (.arraylength, 1) := by decide +kernel
theorem d_Rw_at_10 : decode prog_9_method_2_code 10 = .ok (.if_icmp .ge 12, 3) := by decide +kernel
theorem d_Rw_at_13 : decode prog_9_method_2_code 13 = .ok (.aload_n 0, 1) := by decide +kernel
theorem d_Rw_at_14 : decode prog_9_method_2_code 14 = .ok (.getfield 7, 3) := by decide +kernel
theorem d_Rw_at_17 : decode prog_9_method_2_code 17 = .ok (.iload_n 1, 1) := by decide +kernel
theorem d_Rw_at_18 : decode prog_9_method_2_code 18 = .ok (.iaload, 1) := by decide +kernel
theorem d_Rw_at_19 : decode prog_9_method_2_code 19 = .ok (.goto 4, 3) := by decide +kernel
theorem d_Rw_at_22 : decode prog_9_method_2_code 22 = .ok (.iconst 0, 1) := by decide +kernel
theorem d_Rw_at_23 : decode prog_9_method_2_code 23 = .ok (.ireturn, 1) := by decide +kernel
theorem d_Sh_isOfKind_0 : decode prog_10_method_23_code 0 = .ok (.aload_n 0, 1) := by decide +kernel
theorem d_Sh_isOfKind_1 : decode prog_10_method_23_code 1 = .ok (.getfield 23, 3) := by decide +kernel
theorem d_Sh_isOfKind_4 : decode prog_10_method_23_code 4 = .ok (.iload_n 1, 1) := by decide +kernel
theorem d_Sh_isOfKind_5 : decode prog_10_method_23_code 5 = .ok (.invokevirtual 71, 3) := by decide +kernel
theorem d_Sh_isOfKind_8 : decode prog_10_method_23_code 8 = .ok (.istore_n 3, 1) := by decide +kernel
theorem d_Sh_isOfKind_9 : decode prog_10_method_23_code 9 = .ok (.iload_n 2, 1) := by decide +kernel
theorem d_Sh_isOfKind_10 : decode prog_10_method_23_code 10 = .ok (.ifCond .eq 18, 3) := by decide +kernel
theorem d_Sh_isOfKind_13 : decode prog_10_method_23_code 13 = .ok (.iload_n 3, 1) := by decide +kernel
theorem d_Sh_isOfKind_14 : decode prog_10_method_23_code 14 = .ok (.iload_n 2, 1) := by decide +kernel
theorem d_Sh_isOfKind_15 : decode prog_10_method_23_code 15 = .ok (.if_icmp .eq 13, 3) := by decide +kernel
theorem d_Sh_isOfKind_18 : decode prog_10_method_23_code 18 = .ok (.iload_n 2, 1) := by decide +kernel
theorem d_Sh_isOfKind_19 : decode prog_10_method_23_code 19 = .ok (.iconst 1, 1) := by decide +kernel
theorem d_Sh_isOfKind_20 : decode prog_10_method_23_code 20 = .ok (.if_icmp .ne 12, 3) := by decide +kernel
theorem d_Sh_isOfKind_23 : decode prog_10_method_23_code 23 = .ok (.iload_n 3, 1) := by decide +kernel
theorem d_Sh_isOfKind_24 : decode prog_10_method_23_code 24 = .ok (.iconst 4, 1) := by decide +kernel
theorem d_Sh_isOfKind_25 : decode prog_10_method_23_code 25 = .ok (.if_icmp .ne 7, 3) := by decide +kernel
theorem d_Sh_isOfKind_28 : decode prog_10_method_23_code 28 = .ok (.iconst 1, 1) := by decide +kernel
theorem d_Sh_isOfKind_29 : decode prog_10_method_23_code 29 = .ok (.goto 4, 3) := by decide +kernel
theorem d_Sh_isOfKind_32 : decode prog_10_method_23_code 32 = .ok (.iconst 0, 1) := by decide +kernel
theorem d_Sh_isOfKind_33 : decode prog_10_method_23_code 33 = .ok (.ireturn, 1) := by decide +kernel
theorem d_Co_as_0 : decode prog_1_method_8_code 0 = .ok (.aload_n 0, 1) := by decide +kernel
theorem d_Co_as_1 : decode prog_1_method_8_code 1 = .ok (.getfield 28, 3) := by decide +kernel
theorem d_Co_as_4 : decode prog_1_method_8_code 4 = .ok (.iload_n 1, 1) := by decide +kernel
theorem d_Co_as_5 : decode prog_1_method_8_code 5 = .ok (.invokevirtual 111, 3) := by decide +kernel
theorem d_Co_as_8 : decode prog_1_method_8_code 8 = .ok (.ifCond .ne 6, 3) := by decide +kernel
theorem d_Co_as_11 : decode prog_1_method_8_code 11 = .ok (.bipush (-101), 2) := by decide +kernel
theorem d_Co_as_13 : decode prog_1_method_8_code 13 = .ok (.ireturn, 1) := by decide +kernel
theorem d_Co_as_14 : decode prog_1_method_8_code 14 = .ok (.iload_n 2, 1) := by decide +kernel
theorem d_Co_as_15 : decode prog_1_method_8_code 15 = .ok (.ifCond .lt 8, 3) := by decide +kernel
theorem d_Co_as_18 : decode prog_1_method_8_code 18 = .ok (.iload_n 2, 1) := by decide +kernel
theorem d_Co_as_19 : decode prog_1_method_8_code 19 = .ok (.iconst 4, 1) := by decide +kernel
theorem d_Co_as_20 : decode prog_1_method_8_code 20 = .ok (.if_icmp .le 6, 3) := by decide +kernel
theorem d_Co_as_23 : decode prog_1_method_8_code 23 = .ok (.bipush (-102), 2) := by decide +kernel
theorem d_Co_as_25 : decode prog_1_method_8_code 25 = .ok (.ireturn, 1) := by decide +kernel
theorem d_Co_as_26 : decode prog_1_method_8_code 26 = .ok (.aload_n 0, 1) := by decide +kernel
theorem d_Co_as_27 : decode prog_1_method_8_code 27 = .ok (.getfield 28, 3) := by decide +kernel
theorem d_Co_as_30 : decode prog_1_method_8_code 30 = .ok (.iload_n 1, 1) := by decide +kernel
theorem d_Co_as_31 : decode prog_1_method_8_code 31 = .ok (.iload_n 2, 1) := by decide +kernel
theorem d_Co_as_32 : decode prog_1_method_8_code 32 = .ok (.invokevirtual 148, 3) := by decide +kernel
theorem d_Co_as_35 : decode prog_1_method_8_code 35 = .ok (.ifCond .eq 7, 3) := by decide +kernel
theorem d_Co_as_38 : decode prog_1_method_8_code 38 = .ok (.iload_n 1, 1) := by decide +kernel
theorem d_Co_as_39 : decode prog_1_method_8_code 39 = .ok (.goto 4, 3) := by decide +kernel
theorem d_Co_as_42 : decode prog_1_method_8_code 42 = .ok (.iconst (-1), 1) := by decide +kernel
theorem d_Co_as_43 : decode prog_1_method_8_code 43 = .ok (.ireturn, 1) := by decide +kernel
theorem d_Sh_hasTree_0 : decode prog_10_method_6_code 0 = .ok (.iload_n 1, 1) := by decide +kernel
theorem d_Sh_hasTree_1 : decode prog_10_method_6_code 1 = .ok (.ifCond .lt 15, 3) := by decide +kernel
theorem d_Sh_hasTree_4 : decode prog_10_method_6_code 4 = .ok (.iload_n 1, 1) := by decide +kernel
theorem d_Sh_hasTree_5 : decode prog_10_method_6_code 5 = .ok (.aload_n 0, 1) := by decide +kernel
theorem d_Sh_hasTree_6 : decode prog_10_method_6_code 6 = .ok (.getfield 48, 3) := by decide +kernel
theorem d_Sh_hasTree_9 : decode prog_10_method_6_code 9 = .ok (.if_icmp .ge 7, 3) := by decide +kernel
theorem d_Sh_hasTree_12 : decode prog_10_method_6_code 12 = .ok (.iconst 1, 1) := by decide +kernel
theorem d_Sh_hasTree_13 : decode prog_10_method_6_code 13 = .ok (.goto 4, 3) := by decide +kernel
theorem d_Sh_hasTree_16 : decode prog_10_method_6_code 16 = .ok (.iconst 0, 1) := by decide +kernel
theorem d_Sh_hasTree_17 : decode prog_10_method_6_code 17 = .ok (.ireturn, 1) := by decide +kernel
theorem d_Sh_birdsAt_0 : decode prog_10_method_15_code 0 = .ok (.aload_n 0, 1) := by decide +kernel
theorem d_Sh_birdsAt_1 : decode prog_10_method_15_code 1 = .ok (.getfield 20, 3) := by decide +kernel
theorem d_Sh_birdsAt_4 : decode prog_10_method_15_code 4 = .ok (.iload_n 1, 1) := by decide +kernel
theorem d_Sh_birdsAt_5 : decode prog_10_method_15_code 5 = .ok (.invokevirtual 71, 3) := by decide +kernel
theorem d_Sh_birdsAt_8 : decode prog_10_method_15_code 8 = .ok (.ireturn, 1) := by decide +kernel
theorem d_Rw_put_0 : decode prog_9_method_3_code 0 = .ok (.iload_n 1, 1) := by decide +kernel
theorem d_Rw_put_1 : decode prog_9_method_3_code 1 = .ok (.ifCond .lt 19, 3) := by decide +kernel
theorem d_Rw_put_4 : decode prog_9_method_3_code 4 = .ok (.iload_n 1, 1) := by decide +kernel
theorem d_Rw_put_5 : decode prog_9_method_3_code 5 = .ok (.aload_n 0, 1) := by decide +kernel
theorem d_Rw_put_6 : decode prog_9_method_3_code 6 = .ok (.getfield 7, 3) := by decide +kernel
theorem d_Rw_put_9 : decode prog_9_method_3_code 9 = .ok (.arraylength, 1) := by decide +kernel
theorem d_Rw_put_10 : decode prog_9_method_3_code 10 = .ok (.if_icmp .ge 10, 3) := by decide +kernel
theorem d_Rw_put_13 : decode prog_9_method_3_code 13 = .ok (.aload_n 0, 1) := by decide +kernel
theorem d_Rw_put_14 : decode prog_9_method_3_code 14 = .ok (.getfield 7, 3) := by decide +kernel
theorem d_Rw_put_17 : decode prog_9_method_3_code 17 = .ok (.iload_n 1, 1) := by decide +kernel
theorem d_Rw_put_18 : decode prog_9_method_3_code 18 = .ok (.iload_n 2, 1) := by decide +kernel
theorem d_Rw_put_19 : decode prog_9_method_3_code 19 = .ok (.iastore, 1) := by decide +kernel
theorem d_Rw_put_20 : decode prog_9_method_3_code 20 = .ok (.return_, 1) := by decide +kernel
theorem d_Sh_setBirds_0 : decode prog_10_method_36_code 0 = .ok (.aload_n 0, 1) := by decide +kernel
theorem d_Sh_setBirds_1 : decode prog_10_method_36_code 1 = .ok (.getfield 20, 3) := by decide +kernel
theorem d_Sh_setBirds_4 : decode prog_10_method_36_code 4 = .ok (.iload_n 1, 1) := by decide +kernel
theorem d_Sh_setBirds_5 : decode prog_10_method_36_code 5 = .ok (.iload_n 2, 1) := by decide +kernel
theorem d_Sh_setBirds_6 : decode prog_10_method_36_code 6 = .ok (.invokevirtual 67, 3) := by decide +kernel
theorem d_Sh_setBirds_9 : decode prog_10_method_36_code 9 = .ok (.return_, 1) := by decide +kernel
theorem d_Co_birds_0 : decode prog_1_method_11_code 0 = .ok (.aload_n 0, 1) := by decide +kernel
theorem d_Co_birds_1 : decode prog_1_method_11_code 1 = .ok (.getfield 28, 3) := by decide +kernel
theorem d_Co_birds_4 : decode prog_1_method_11_code 4 = .ok (.iload_n 1, 1) := by decide +kernel
theorem d_Co_birds_5 : decode prog_1_method_11_code 5 = .ok (.invokevirtual 97, 3) := by decide +kernel
theorem d_Co_birds_8 : decode prog_1_method_11_code 8 = .ok (.ifCond .ne 6, 3) := by decide +kernel
theorem d_Co_birds_11 : decode prog_1_method_11_code 11 = .ok (.bipush (-101), 2) := by decide +kernel
theorem d_Co_birds_13 : decode prog_1_method_11_code 13 = .ok (.ireturn, 1) := by decide +kernel
theorem d_Co_birds_14 : decode prog_1_method_11_code 14 = .ok (.iload_n 2, 1) := by decide +kernel
theorem d_Co_birds_15 : decode prog_1_method_11_code 15 = .ok (.ifCond .lt 9, 3) := by decide +kernel
theorem d_Co_birds_18 : decode prog_1_method_11_code 18 = .ok (.iload_n 2, 1) := by decide +kernel
theorem d_Co_birds_19 : decode prog_1_method_11_code 19 = .ok (.bipush 9, 2) := by decide +kernel
theorem d_Co_birds_21 : decode prog_1_method_11_code 21 = .ok (.if_icmp .le 6, 3) := by decide +kernel
theorem d_Co_birds_24 : decode prog_1_method_11_code 24 = .ok (.bipush (-102), 2) := by decide +kernel
theorem d_Co_birds_26 : decode prog_1_method_11_code 26 = .ok (.ireturn, 1) := by decide +kernel
theorem d_Co_birds_27 : decode prog_1_method_11_code 27 = .ok (.aload_n 0, 1) := by decide +kernel
theorem d_Co_birds_28 : decode prog_1_method_11_code 28 = .ok (.getfield 28, 3) := by decide +kernel
theorem d_Co_birds_31 : decode prog_1_method_11_code 31 = .ok (.iload_n 1, 1) := by decide +kernel
theorem d_Co_birds_32 : decode prog_1_method_11_code 32 = .ok (.invokevirtual 105, 3) := by decide +kernel
theorem d_Co_birds_35 : decode prog_1_method_11_code 35 = .ok (.istore_n 3, 1) := by decide +kernel
theorem d_Co_birds_36 : decode prog_1_method_11_code 36 = .ok (.aload_n 0, 1) := by decide +kernel
theorem d_Co_birds_37 : decode prog_1_method_11_code 37 = .ok (.getfield 28, 3) := by decide +kernel
theorem d_Co_birds_40 : decode prog_1_method_11_code 40 = .ok (.iload_n 1, 1) := by decide +kernel
theorem d_Co_birds_41 : decode prog_1_method_11_code 41 = .ok (.iload_n 2, 1) := by decide +kernel
theorem d_Co_birds_42 : decode prog_1_method_11_code 42 = .ok (.invokevirtual 170, 3) := by decide +kernel
theorem d_Co_birds_45 : decode prog_1_method_11_code 45 = .ok (.iload_n 3, 1) := by decide +kernel
theorem d_Co_birds_46 : decode prog_1_method_11_code 46 = .ok (.ireturn, 1) := by decide +kernel
theorem d_Co_bit_0 : decode prog_1_method_26_code 0 = .ok (.iconst 1, 1) := by decide +kernel
theorem d_Co_bit_1 : decode prog_1_method_26_code 1 = .ok (.iload_n 0, 1) := by decide +kernel
theorem d_Co_bit_2 : decode prog_1_method_26_code 2 = .ok (.ishl, 1) := by decide +kernel
theorem d_Co_bit_3 : decode prog_1_method_26_code 3 = .ok (.ireturn, 1) := by decide +kernel
theorem d_Co_isRead_0 : decode prog_1_method_25_code 0 = .ok (.aload_n 0, 1) := by decide +kernel
theorem d_Co_isRead_1 : decode prog_1_method_25_code 1 = .ok (.getfield 90, 3) := by decide +kernel
theorem d_Co_isRead_4 : decode prog_1_method_25_code 4 = .ok (.ifCond .le 7, 3) := by decide +kernel
theorem d_Co_isRead_7 : decode prog_1_method_25_code 7 = .ok (.iconst 1, 1) := by decide +kernel
theorem d_Co_isRead_8 : decode prog_1_method_25_code 8 = .ok (.goto 4, 3) := by decide +kernel
theorem d_Co_isRead_11 : decode prog_1_method_25_code 11 = .ok (.iconst 0, 1) := by decide +kernel
theorem d_Co_isRead_12 : decode prog_1_method_25_code 12 = .ok (.ireturn, 1) := by decide +kernel
theorem d_Rw_copyFrom_0 : decode prog_9_method_4_code 0 = .ok (.aload_n 1, 1) := by decide +kernel
theorem d_Rw_copyFrom_1 : decode prog_9_method_4_code 1 = .ok (.ifnonnull 4, 3) := by decide +kernel
theorem d_Rw_copyFrom_4 : decode prog_9_method_4_code 4 = .ok (.return_, 1) := by decide +kernel
theorem d_Rw_copyFrom_5 : decode prog_9_method_4_code 5 = .ok (.iconst 0, 1) := by decide +kernel
theorem d_Rw_copyFrom_6 : decode prog_9_method_4_code 6 = .ok (.istore_n 2, 1) := by decide +kernel
theorem d_Rw_copyFrom_7 : decode prog_9_method_4_code 7 = .ok (.iload_n 2, 1) := by decide +kernel
theorem d_Rw_copyFrom_8 : decode prog_9_method_4_code 8 = .ok (.aload_n 0, 1) := by decide +kernel
theorem d_Rw_copyFrom_9 : decode prog_9_method_4_code 9 = .ok (.getfield 7, 3) := by decide +kernel
theorem d_Rw_copyFrom_12 : decode prog_9_method_4_code 12 = .ok (.arraylength, 1) := by decide +kernel
theorem d_Rw_copyFrom_13 : decode prog_9_method_4_code 13 = .ok (.if_icmp .ge 20, 3) := by decide +kernel
theorem d_Rw_copyFrom_16 : decode prog_9_method_4_code 16 = .ok (.aload_n 0, 1) := by decide +kernel
theorem d_Rw_copyFrom_17 : decode prog_9_method_4_code 17 = .ok (.getfield 7, 3) := by decide +kernel
theorem d_Rw_copyFrom_20 : decode prog_9_method_4_code 20 = .ok (.iload_n 2, 1) := by decide +kernel
theorem d_Rw_copyFrom_21 : decode prog_9_method_4_code 21 = .ok (.aload_n 1, 1) := by decide +kernel
theorem d_Rw_copyFrom_22 : decode prog_9_method_4_code 22 = .ok (.iload_n 2, 1) := by decide +kernel
theorem d_Rw_copyFrom_23 : decode prog_9_method_4_code 23 = .ok (.invokevirtual 13, 3) := by decide +kernel
theorem d_Rw_copyFrom_26 : decode prog_9_method_4_code 26 = .ok (.iastore, 1) := by decide +kernel
theorem d_Rw_copyFrom_27 : decode prog_9_method_4_code 27 = .ok (.iinc 2 1, 3) := by decide +kernel
theorem d_Rw_copyFrom_30 : decode prog_9_method_4_code 30 = .ok (.goto (-23), 3) := by decide +kernel
theorem d_Rw_copyFrom_33 : decode prog_9_method_4_code 33 = .ok (.return_, 1) := by decide +kernel
theorem d_Si_copyFrom_0 : decode prog_11_method_5_code 0 = .ok (.aload_n 1, 1) := by decide +kernel
theorem d_Si_copyFrom_1 : decode prog_11_method_5_code 1 = .ok (.ifnonnull 4, 3) := by decide +kernel
theorem d_Si_copyFrom_4 : decode prog_11_method_5_code 4 = .ok (.return_, 1) := by decide +kernel
theorem d_Si_copyFrom_5 : decode prog_11_method_5_code 5 = .ok (.aload_n 0, 1) := by decide +kernel
theorem d_Si_copyFrom_6 : decode prog_11_method_5_code 6 = .ok (.getfield 14, 3) := by decide +kernel
theorem d_Si_copyFrom_9 : decode prog_11_method_5_code 9 = .ok (.aload_n 1, 1) := by decide +kernel
theorem d_Si_copyFrom_10 : decode prog_11_method_5_code 10 = .ok (.getfield 14, 3) := by decide +kernel
theorem d_Si_copyFrom_13 : decode prog_11_method_5_code 13 = .ok (.invokevirtual 34, 3) := by decide +kernel
theorem d_Si_copyFrom_16 : decode prog_11_method_5_code 16 = .ok (.aload_n 0, 1) := by decide +kernel
theorem d_Si_copyFrom_17 : decode prog_11_method_5_code 17 = .ok (.getfield 20, 3) := by decide +kernel
theorem d_Si_copyFrom_20 : decode prog_11_method_5_code 20 = .ok (.aload_n 1, 1) := by decide +kernel
theorem d_Si_copyFrom_21 : decode prog_11_method_5_code 21 = .ok (.getfield 20, 3) := by decide +kernel
theorem d_Si_copyFrom_24 : decode prog_11_method_5_code 24 = .ok (.invokevirtual 34, 3) := by decide +kernel
theorem d_Si_copyFrom_27 : decode prog_11_method_5_code 27 = .ok (.aload_n 0, 1) := by decide +kernel
theorem d_Si_copyFrom_28 : decode prog_11_method_5_code 28 = .ok (.getfield 23, 3) := by decide +kernel
theorem d_Si_copyFrom_31 : decode prog_11_method_5_code 31 = .ok (.aload_n 1, 1) := by decide +kernel
theorem d_Si_copyFrom_32 : decode prog_11_method_5_code 32 = .ok (.getfield 23, 3) := by decide +kernel
theorem d_Si_copyFrom_35 : decode prog_11_method_5_code 35 = .ok (.invokevirtual 34, 3) := by decide +kernel
theorem d_Si_copyFrom_38 : decode prog_11_method_5_code 38 = .ok (.aload_n 0, 1) := by decide +kernel
theorem d_Si_copyFrom_39 : decode prog_11_method_5_code 39 = .ok (.aload_n 1, 1) := by decide +kernel
theorem d_Si_copyFrom_40 : decode prog_11_method_5_code 40 = .ok (.getfield 26, 3) := by decide +kernel
theorem d_Si_copyFrom_43 : decode prog_11_method_5_code 43 = .ok (.putfield 26, 3) := by decide +kernel
theorem d_Si_copyFrom_46 : decode prog_11_method_5_code 46 = .ok (.return_, 1) := by decide +kernel
theorem d_Sh_copyFrom_0 : decode prog_10_method_5_code 0 = .ok (.aload_n 1, 1) := by decide +kernel
theorem d_Sh_copyFrom_1 : decode prog_10_method_5_code 1 = .ok (.ifnonnull 4, 3) := by decide +kernel
theorem d_Sh_copyFrom_4 : decode prog_10_method_5_code 4 = .ok (.return_, 1) := by decide +kernel
theorem d_Sh_copyFrom_5 : decode prog_10_method_5_code 5 = .ok (.aload_n 0, 1) := by decide +kernel
theorem d_Sh_copyFrom_6 : decode prog_10_method_5_code 6 = .ok (.aload_n 1, 1) := by decide +kernel
theorem d_Sh_copyFrom_7 : decode prog_10_method_5_code 7 = .ok (.getfield 48, 3) := by decide +kernel
theorem d_Sh_copyFrom_10 : decode prog_10_method_5_code 10 = .ok (.putfield 48, 3) := by decide +kernel
theorem d_Sh_copyFrom_13 : decode prog_10_method_5_code 13 = .ok (.aload_n 0, 1) := by decide +kernel
theorem d_Sh_copyFrom_14 : decode prog_10_method_5_code 14 = .ok (.aload_n 1, 1) := by decide +kernel
theorem d_Sh_copyFrom_15 : decode prog_10_method_5_code 15 = .ok (.getfield 52, 3) := by decide +kernel
theorem d_Sh_copyFrom_18 : decode prog_10_method_5_code 18 = .ok (.putfield 52, 3) := by decide +kernel
theorem d_Sh_copyFrom_21 : decode prog_10_method_5_code 21 = .ok (.aload_n 0, 1) := by decide +kernel
theorem d_Sh_copyFrom_22 : decode prog_10_method_5_code 22 = .ok (.getfield 14, 3) := by decide +kernel
theorem d_Sh_copyFrom_25 : decode prog_10_method_5_code 25 = .ok (.aload_n 1, 1) := by decide +kernel
theorem d_Sh_copyFrom_26 : decode prog_10_method_5_code 26 = .ok (.getfield 14, 3) := by decide +kernel
theorem d_Sh_copyFrom_29 : decode prog_10_method_5_code 29 = .ok (.invokevirtual 78, 3) := by decide +kernel
theorem d_Sh_copyFrom_32 : decode prog_10_method_5_code 32 = .ok (.aload_n 0, 1) := by decide +kernel
theorem d_Sh_copyFrom_33 : decode prog_10_method_5_code 33 = .ok (.getfield 20, 3) := by decide +kernel
theorem d_Sh_copyFrom_36 : decode prog_10_method_5_code 36 = .ok (.aload_n 1, 1) := by decide +kernel
theorem d_Sh_copyFrom_37 : decode prog_10_method_5_code 37 = .ok (.getfield 20, 3) := by decide +kernel
theorem d_Sh_copyFrom_40 : decode prog_10_method_5_code 40 = .ok (.invokevirtual 78, 3) := by decide +kernel
theorem d_Sh_copyFrom_43 : decode prog_10_method_5_code 43 = .ok (.aload_n 0, 1) := by decide +kernel
theorem d_Sh_copyFrom_44 : decode prog_10_method_5_code 44 = .ok (.getfield 23, 3) := by decide +kernel
theorem d_Sh_copyFrom_47 : decode prog_10_method_5_code 47 = .ok (.aload_n 1, 1) := by decide +kernel
theorem d_Sh_copyFrom_48 : decode prog_10_method_5_code 48 = .ok (.getfield 23, 3) := by decide +kernel
theorem d_Sh_copyFrom_51 : decode prog_10_method_5_code 51 = .ok (.invokevirtual 78, 3) := by decide +kernel
theorem d_Sh_copyFrom_54 : decode prog_10_method_5_code 54 = .ok (.aload_n 0, 1) := by decide +kernel
theorem d_Sh_copyFrom_55 : decode prog_10_method_5_code 55 = .ok (.getfield 26, 3) := by decide +kernel
theorem d_Sh_copyFrom_58 : decode prog_10_method_5_code 58 = .ok (.aload_n 1, 1) := by decide +kernel
theorem d_Sh_copyFrom_59 : decode prog_10_method_5_code 59 = .ok (.getfield 26, 3) := by decide +kernel
theorem d_Sh_copyFrom_62 : decode prog_10_method_5_code 62 = .ok (.invokevirtual 78, 3) := by decide +kernel
theorem d_Sh_copyFrom_65 : decode prog_10_method_5_code 65 = .ok (.aload_n 0, 1) := by decide +kernel
theorem d_Sh_copyFrom_66 : decode prog_10_method_5_code 66 = .ok (.getfield 29, 3) := by decide +kernel
theorem d_Sh_copyFrom_69 : decode prog_10_method_5_code 69 = .ok (.aload_n 1, 1) := by decide +kernel
theorem d_Sh_copyFrom_70 : decode prog_10_method_5_code 70 = .ok (.getfield 29, 3) := by decide +kernel
theorem d_Sh_copyFrom_73 : decode prog_10_method_5_code 73 = .ok (.invokevirtual 78, 3) := by decide +kernel
theorem d_Sh_copyFrom_76 : decode prog_10_method_5_code 76 = .ok (.aload_n 0, 1) := by decide +kernel
theorem d_Sh_copyFrom_77 : decode prog_10_method_5_code 77 = .ok (.getfield 32, 3) := by decide +kernel
theorem d_Sh_copyFrom_80 : decode prog_10_method_5_code 80 = .ok (.aload_n 1, 1) := by decide +kernel
theorem d_Sh_copyFrom_81 : decode prog_10_method_5_code 81 = .ok (.getfield 32, 3) := by decide +kernel
theorem d_Sh_copyFrom_84 : decode prog_10_method_5_code 84 = .ok (.invokevirtual 78, 3) := by decide +kernel
theorem d_Sh_copyFrom_87 : decode prog_10_method_5_code 87 = .ok (.aload_n 0, 1) := by decide +kernel
theorem d_Sh_copyFrom_88 : decode prog_10_method_5_code 88 = .ok (.getfield 35, 3) := by decide +kernel
theorem d_Sh_copyFrom_91 : decode prog_10_method_5_code 91 = .ok (.aload_n 1, 1) := by decide +kernel
theorem d_Sh_copyFrom_92 : decode prog_10_method_5_code 92 = .ok (.getfield 35, 3) := by decide +kernel
theorem d_Sh_copyFrom_95 : decode prog_10_method_5_code 95 = .ok (.invokevirtual 78, 3) := by decide +kernel
theorem d_Sh_copyFrom_98 : decode prog_10_method_5_code 98 = .ok (.aload_n 0, 1) := by decide +kernel
theorem d_Sh_copyFrom_99 : decode prog_10_method_5_code 99 = .ok (.getfield 38, 3) := by decide +kernel
theorem d_Sh_copyFrom_102 : decode prog_10_method_5_code 102 = .ok (.aload_n 1, 1) := by decide +kernel
theorem d_Sh_copyFrom_103 : decode prog_10_method_5_code 103 = .ok (.getfield 38, 3) := by decide +kernel
theorem d_Sh_copyFrom_106 : decode prog_10_method_5_code 106 = .ok (.invokevirtual 78, 3) := by decide +kernel
theorem d_Sh_copyFrom_109 : decode prog_10_method_5_code 109 = .ok (.aload_n 0, 1) := by decide +kernel
theorem d_Sh_copyFrom_110 : decode prog_10_method_5_code 110 = .ok (.getfield 44, 3) := by decide +kernel
theorem d_Sh_copyFrom_113 : decode prog_10_method_5_code 113 = .ok (.aload_n 1, 1) := by decide +kernel
theorem d_Sh_copyFrom_114 : decode prog_10_method_5_code 114 = .ok (.getfield 44, 3) := by decide +kernel
theorem d_Sh_copyFrom_117 : decode prog_10_method_5_code 117 = .ok (.invokevirtual 82, 3) := by decide +kernel
theorem d_Sh_copyFrom_120 : decode prog_10_method_5_code 120 = .ok (.aload_n 0, 1) := by decide +kernel
theorem d_Sh_copyFrom_121 : decode prog_10_method_5_code 121 = .ok (.aload_n 1, 1) := by decide +kernel
theorem d_Sh_copyFrom_122 : decode prog_10_method_5_code 122 = .ok (.getfield 55, 3) := by decide +kernel
theorem d_Sh_copyFrom_125 : decode prog_10_method_5_code 125 = .ok (.putfield 55, 3) := by decide +kernel
theorem d_Sh_copyFrom_128 : decode prog_10_method_5_code 128 = .ok (.aload_n 0, 1) := by decide +kernel
theorem d_Sh_copyFrom_129 : decode prog_10_method_5_code 129 = .ok (.aload_n 1, 1) := by decide +kernel
theorem d_Sh_copyFrom_130 : decode prog_10_method_5_code 130 = .ok (.getfield 58, 3) := by decide +kernel
theorem d_Sh_copyFrom_133 : decode prog_10_method_5_code 133 = .ok (.putfield 58, 3) := by decide +kernel
theorem d_Sh_copyFrom_136 : decode prog_10_method_5_code 136 = .ok (.aload_n 0, 1) := by decide +kernel
theorem d_Sh_copyFrom_137 : decode prog_10_method_5_code 137 = .ok (.aload_n 1, 1) := by decide +kernel
theorem d_Sh_copyFrom_138 : decode prog_10_method_5_code 138 = .ok (.getfield 61, 3) := by decide +kernel
theorem d_Sh_copyFrom_141 : decode prog_10_method_5_code 141 = .ok (.putfield 61, 3) := by decide +kernel
theorem d_Sh_copyFrom_144 : decode prog_10_method_5_code 144 = .ok (.return_, 1) := by decide +kernel
theorem d_Sh_suits_0 : decode prog_10_method_9_code 0 = .ok (.aload_n 0, 1) := by decide +kernel
theorem d_Sh_suits_1 : decode prog_10_method_9_code 1 = .ok (.getfield 52, 3) := by decide +kernel
theorem d_Sh_suits_4 : decode prog_10_method_9_code 4 = .ok (.ireturn, 1) := by decide +kernel
theorem d_Fo_draw_0 : decode prog_4_method_6_code 0 = .ok (.aload_n 0, 1) := by decide +kernel
theorem d_Fo_draw_1 : decode prog_4_method_6_code 1 = .ok (.ldc2_w 55, 3) := by decide +kernel
theorem d_Fo_draw_4 : decode prog_4_method_6_code 4 = .ok (.aload_n 0, 1) := by decide +kernel
theorem d_Fo_draw_5 : decode prog_4_method_6_code 5 = .ok (.getfield 26, 3) := by decide +kernel
theorem d_Fo_draw_8 : decode prog_4_method_6_code 8 = .ok (.lmul, 1) := by decide +kernel
theorem d_Fo_draw_9 : decode prog_4_method_6_code 9 = .ok (.ldc2_w 57, 3) := by decide +kernel
theorem d_Fo_draw_12 : decode prog_4_method_6_code 12 = .ok (.ladd, 1) := by decide +kernel
theorem d_Fo_draw_13 : decode prog_4_method_6_code 13 = .ok (.ldc2_w 59, 3) := by decide +kernel
theorem d_Fo_draw_16 : decode prog_4_method_6_code 16 = .ok (.lrem, 1) := by decide +kernel
theorem d_Fo_draw_17 : decode prog_4_method_6_code 17 = .ok (.putfield 26, 3) := by decide +kernel
theorem d_Fo_draw_20 : decode prog_4_method_6_code 20 = .ok (.iload_n 1, 1) := by decide +kernel
theorem d_Fo_draw_21 : decode prog_4_method_6_code 21 = .ok (.ifCond .le 18, 3) := by decide +kernel
theorem d_Fo_draw_24 : decode prog_4_method_6_code 24 = .ok (.aload_n 0, 1) := by decide +kernel
theorem d_Fo_draw_25 : decode prog_4_method_6_code 25 = .ok (.getfield 26, 3) := by decide +kernel
theorem d_Fo_draw_28 : decode prog_4_method_6_code 28 = .ok (.ldc2_w 61, 3) := by decide +kernel
theorem d_Fo_draw_31 : decode prog_4_method_6_code 31 = .ok (.ldiv, 1) := by decide +kernel
theorem d_Fo_draw_32 : decode prog_4_method_6_code 32 = .ok (.iload_n 1, 1) := by decide +kernel
theorem d_Fo_draw_33 : decode prog_4_method_6_code 33 = .ok (.i2l, 1) := by decide +kernel
theorem d_Fo_draw_34 : decode prog_4_method_6_code 34 = .ok (.lrem, 1) := by decide +kernel
theorem d_Fo_draw_35 : decode prog_4_method_6_code 35 = .ok (.l2i, 1) := by decide +kernel
theorem d_Fo_draw_36 : decode prog_4_method_6_code 36 = .ok (.goto 4, 3) := by decide +kernel
theorem d_Fo_draw_39 : decode prog_4_method_6_code 39 = .ok (.iconst 0, 1) := by decide +kernel
theorem d_Fo_draw_40 : decode prog_4_method_6_code 40 = .ok (.ireturn, 1) := by decide +kernel
theorem d_Sh_trees_0 : decode prog_10_method_8_code 0 = .ok (.aload_n 0, 1) := by decide +kernel
theorem d_Sh_trees_1 : decode prog_10_method_8_code 1 = .ok (.getfield 48, 3) := by decide +kernel
theorem d_Sh_trees_4 : decode prog_10_method_8_code 4 = .ok (.ireturn, 1) := by decide +kernel
theorem d_Co_has_0 : decode prog_1_method_27_code 0 = .ok (.iload_n 0, 1) := by decide +kernel
theorem d_Co_has_1 : decode prog_1_method_27_code 1 = .ok (.iload_n 1, 1) := by decide +kernel
theorem d_Co_has_2 : decode prog_1_method_27_code 2 = .ok (.ishr, 1) := by decide +kernel
theorem d_Co_has_3 : decode prog_1_method_27_code 3 = .ok (.iconst 1, 1) := by decide +kernel
theorem d_Co_has_4 : decode prog_1_method_27_code 4 = .ok (.iand, 1) := by decide +kernel
theorem d_Co_has_5 : decode prog_1_method_27_code 5 = .ok (.iconst 1, 1) := by decide +kernel
theorem d_Co_has_6 : decode prog_1_method_27_code 6 = .ok (.if_icmp .ne 7, 3) := by decide +kernel
theorem d_Co_has_9 : decode prog_1_method_27_code 9 = .ok (.iconst 1, 1) := by decide +kernel
theorem d_Co_has_10 : decode prog_1_method_27_code 10 = .ok (.goto 4, 3) := by decide +kernel
theorem d_Co_has_13 : decode prog_1_method_27_code 13 = .ok (.iconst 0, 1) := by decide +kernel
theorem d_Co_has_14 : decode prog_1_method_27_code 14 = .ok (.ireturn, 1) := by decide +kernel
theorem d_Sh_isOpen_0 : decode prog_10_method_29_code 0 = .ok (.iload_n 2, 1) := by decide +kernel
theorem d_Sh_isOpen_1 : decode prog_10_method_29_code 1 = .ok (.iload_n 1, 1) := by decide +kernel
theorem d_Sh_isOpen_2 : decode prog_10_method_29_code 2 = .ok (.invokestatic 105, 3) := by decide +kernel
theorem d_Sh_isOpen_5 : decode prog_10_method_29_code 5 = .ok (.ifCond .eq 5, 3) := by decide +kernel
theorem d_Sh_isOpen_8 : decode prog_10_method_29_code 8 = .ok (.iconst 0, 1) := by decide +kernel
theorem d_Sh_isOpen_9 : decode prog_10_method_29_code 9 = .ok (.ireturn, 1) := by decide +kernel
theorem d_Sh_isOpen_10 : decode prog_10_method_29_code 10 = .ok (.aload_n 0, 1) := by decide +kernel
theorem d_Sh_isOpen_11 : decode prog_10_method_29_code 11 = .ok (.getfield 32, 3) := by decide +kernel
theorem d_Sh_isOpen_14 : decode prog_10_method_29_code 14 = .ok (.iload_n 1, 1) := by decide +kernel
theorem d_Sh_isOpen_15 : decode prog_10_method_29_code 15 = .ok (.invokevirtual 71, 3) := by decide +kernel
theorem d_Sh_isOpen_18 : decode prog_10_method_29_code 18 = .ok (.istore_n 3, 1) := by decide +kernel
theorem d_Sh_isOpen_19 : decode prog_10_method_29_code 19 = .ok (.aload_n 0, 1) := by decide +kernel
theorem d_Sh_isOpen_20 : decode prog_10_method_29_code 20 = .ok (.getfield 23, 3) := by decide +kernel
theorem d_Sh_isOpen_23 : decode prog_10_method_29_code 23 = .ok (.iload_n 1, 1) := by decide +kernel
theorem d_Sh_isOpen_24 : decode prog_10_method_29_code 24 = .ok (.invokevirtual 71, 3) := by decide +kernel
theorem d_Sh_isOpen_27 : decode prog_10_method_29_code 27 = .ok (.iconst 3, 1) := by decide +kernel
theorem d_Sh_isOpen_28 : decode prog_10_method_29_code 28 = .ok (.if_icmp .ne 16, 3) := by decide +kernel
theorem d_Sh_isOpen_31 : decode prog_10_method_29_code 31 = .ok (.iload_n 3, 1) := by decide +kernel
theorem d_Sh_isOpen_32 : decode prog_10_method_29_code 32 = .ok (.iconst (-1), 1) := by decide +kernel
theorem d_Sh_isOpen_33 : decode prog_10_method_29_code 33 = .ok (.if_icmp .eq 11, 3) := by decide +kernel
theorem d_Sh_isOpen_36 : decode prog_10_method_29_code 36 = .ok (.iload_n 2, 1) := by decide +kernel
theorem d_Sh_isOpen_37 : decode prog_10_method_29_code 37 = .ok (.iload_n 3, 1) := by decide +kernel
theorem d_Sh_isOpen_38 : decode prog_10_method_29_code 38 = .ok (.invokestatic 105, 3) := by decide +kernel
theorem d_Sh_isOpen_41 : decode prog_10_method_29_code 41 = .ok (.ifCond .eq 7, 3) := by decide +kernel
theorem d_Sh_isOpen_44 : decode prog_10_method_29_code 44 = .ok (.iconst 1, 1) := by decide +kernel
theorem d_Sh_isOpen_45 : decode prog_10_method_29_code 45 = .ok (.goto 4, 3) := by decide +kernel
theorem d_Sh_isOpen_48 : decode prog_10_method_29_code 48 = .ok (.iconst 0, 1) := by decide +kernel
theorem d_Sh_isOpen_49 : decode prog_10_method_29_code 49 = .ok (.ireturn, 1) := by decide +kernel
theorem d_Sh_costAtNeed_0 : decode prog_10_method_25_code 0 = .ok (.iconst 1, 1) := by decide +kernel
theorem d_Sh_costAtNeed_1 : decode prog_10_method_25_code 1 = .ok (.iload_n 2, 1) := by decide +kernel
theorem d_Sh_costAtNeed_2 : decode prog_10_method_25_code 2 = .ok (.aload_n 0, 1) := by decide +kernel
theorem d_Sh_costAtNeed_3 : decode prog_10_method_25_code 3 = .ok (.getfield 35, 3) := by decide +kernel
theorem d_Sh_costAtNeed_6 : decode prog_10_method_25_code 6 = .ok (.iload_n 1, 1) := by decide +kernel
theorem d_Sh_costAtNeed_7 : decode prog_10_method_25_code 7 = .ok (.invokevirtual 71, 3) := by decide +kernel
theorem d_Sh_costAtNeed_10 : decode prog_10_method_25_code 10 = .ok (.isub, 1) := by decide +kernel
theorem d_Sh_costAtNeed_11 : decode prog_10_method_25_code 11 = .ok (.invokestatic 92, 3) := by decide +kernel
theorem d_Sh_costAtNeed_14 : decode prog_10_method_25_code 14 = .ok (.istore_n 3, 1) := by decide +kernel
theorem d_Sh_costAtNeed_15 : decode prog_10_method_25_code 15 = .ok (.aload_n 0, 1) := by decide +kernel
theorem d_Sh_costAtNeed_16 : decode prog_10_method_25_code 16 = .ok (.getfield 23, 3) := by decide +kernel
theorem d_Sh_costAtNeed_19 : decode prog_10_method_25_code 19 = .ok (.iload_n 1, 1) := by decide +kernel
theorem d_Sh_costAtNeed_20 : decode prog_10_method_25_code 20 = .ok (.invokevirtual 71, 3) := by decide +kernel
theorem d_Sh_costAtNeed_23 : decode prog_10_method_25_code 23 = .ok (.tableswitch 41 1 4 #[29, 37, 41, 31], 29) := by decide +kernel
theorem d_Sh_costAtNeed_52 : decode prog_10_method_25_code 52 = .ok (.iload_n 3, 1) := by decide +kernel
theorem d_Sh_costAtNeed_53 : decode prog_10_method_25_code 53 = .ok (.ireturn, 1) := by decide +kernel
theorem d_Sh_costAtNeed_54 : decode prog_10_method_25_code 54 = .ok (.iload_n 3, 1) := by decide +kernel
theorem d_Sh_costAtNeed_55 : decode prog_10_method_25_code 55 = .ok (.iconst 1, 1) := by decide +kernel
theorem d_Sh_costAtNeed_56 : decode prog_10_method_25_code 56 = .ok (.iadd, 1) := by decide +kernel
theorem d_Sh_costAtNeed_57 : decode prog_10_method_25_code 57 = .ok (.iconst 2, 1) := by decide +kernel
theorem d_Sh_costAtNeed_58 : decode prog_10_method_25_code 58 = .ok (.idiv, 1) := by decide +kernel
theorem d_Sh_costAtNeed_59 : decode prog_10_method_25_code 59 = .ok (.ireturn, 1) := by decide +kernel
theorem d_Sh_costAtNeed_60 : decode prog_10_method_25_code 60 = .ok (.iconst 2, 1) := by decide +kernel
theorem d_Sh_costAtNeed_61 : decode prog_10_method_25_code 61 = .ok (.iload_n 2, 1) := by decide +kernel
theorem d_Sh_costAtNeed_62 : decode prog_10_method_25_code 62 = .ok (.imul, 1) := by decide +kernel
theorem d_Sh_costAtNeed_63 : decode prog_10_method_25_code 63 = .ok (.ireturn, 1) := by decide +kernel
theorem d_Sh_costAtNeed_64 : decode prog_10_method_25_code 64 = .ok (.iload_n 2, 1) := by decide +kernel
theorem d_Sh_costAtNeed_65 : decode prog_10_method_25_code 65 = .ok (.ireturn, 1) := by decide +kernel
theorem d_Sh_cost_0 : decode prog_10_method_24_code 0 = .ok (.aload_n 0, 1) := by decide +kernel
theorem d_Sh_cost_1 : decode prog_10_method_24_code 1 = .ok (.iload_n 1, 1) := by decide +kernel
theorem d_Sh_cost_2 : decode prog_10_method_24_code 2 = .ok (.aload_n 0, 1) := by decide +kernel
theorem d_Sh_cost_3 : decode prog_10_method_24_code 3 = .ok (.getfield 26, 3) := by decide +kernel
theorem d_Sh_cost_6 : decode prog_10_method_24_code 6 = .ok (.iload_n 1, 1) := by decide +kernel
theorem d_Sh_cost_7 : decode prog_10_method_24_code 7 = .ok (.invokevirtual 71, 3) := by decide +kernel
theorem d_Sh_cost_10 : decode prog_10_method_24_code 10 = .ok (.invokevirtual 88, 3) := by decide +kernel
theorem d_Sh_cost_13 : decode prog_10_method_24_code 13 = .ok (.ireturn, 1) := by decide +kernel
theorem d_Sh_isPossible_0 : decode prog_10_method_30_code 0 = .ok (.aload_n 0, 1) := by decide +kernel
theorem d_Sh_isPossible_1 : decode prog_10_method_30_code 1 = .ok (.iload_n 1, 1) := by decide +kernel
theorem d_Sh_isPossible_2 : decode prog_10_method_30_code 2 = .ok (.aload_n 0, 1) := by decide +kernel
theorem d_Sh_isPossible_3 : decode prog_10_method_30_code 3 = .ok (.getfield 55, 3) := by decide +kernel
theorem d_Sh_isPossible_6 : decode prog_10_method_30_code 6 = .ok (.invokevirtual 109, 3) := by decide +kernel
theorem d_Sh_isPossible_9 : decode prog_10_method_30_code 9 = .ok (.ifCond .eq 23, 3) := by decide +kernel
theorem d_Sh_isPossible_12 : decode prog_10_method_30_code 12 = .ok (.aload_n 0, 1) := by decide +kernel
theorem d_Sh_isPossible_13 : decode prog_10_method_30_code 13 = .ok (.getfield 14, 3) := by decide +kernel
theorem d_Sh_isPossible_16 : decode prog_10_method_30_code 16 = .ok (.iload_n 2, 1) := by decide +kernel
theorem d_Sh_isPossible_17 : decode prog_10_method_30_code 17 = .ok (.invokevirtual 71, 3) := by decide +kernel
theorem d_Sh_isPossible_20 : decode prog_10_method_30_code 20 = .ok (.aload_n 0, 1) := by decide +kernel
theorem d_Sh_isPossible_21 : decode prog_10_method_30_code 21 = .ok (.iload_n 1, 1) := by decide +kernel
theorem d_Sh_isPossible_22 : decode prog_10_method_30_code 22 = .ok (.invokevirtual 112, 3) := by decide +kernel
theorem d_Sh_isPossible_25 : decode prog_10_method_30_code 25 = .ok (.if_icmp .lt 7, 3) := by decide +kernel
theorem d_Sh_isPossible_28 : decode prog_10_method_30_code 28 = .ok (.iconst 1, 1) := by decide +kernel
theorem d_Sh_isPossible_29 : decode prog_10_method_30_code 29 = .ok (.goto 4, 3) := by decide +kernel
theorem d_Sh_isPossible_32 : decode prog_10_method_30_code 32 = .ok (.iconst 0, 1) := by decide +kernel
theorem d_Sh_isPossible_33 : decode prog_10_method_30_code 33 = .ok (.ireturn, 1) := by decide +kernel
theorem d_Sh_rightedBehind_0 : decode prog_10_method_32_code 0 = .ok (.iload_n 2, 1) := by decide +kernel
theorem d_Sh_rightedBehind_1 : decode prog_10_method_32_code 1 = .ok (.iload_n 1, 1) := by decide +kernel
theorem d_Sh_rightedBehind_2 : decode prog_10_method_32_code 2 = .ok (.invokestatic 75, 3) := by decide +kernel
theorem d_Sh_rightedBehind_5 : decode prog_10_method_32_code 5 = .ok (.ior, 1) := by decide +kernel
theorem d_Sh_rightedBehind_6 : decode prog_10_method_32_code 6 = .ok (.aload_n 0, 1) := by decide +kernel
theorem d_Sh_rightedBehind_7 : decode prog_10_method_32_code 7 = .ok (.getfield 38, 3) := by decide +kernel
theorem d_Sh_rightedBehind_10 : decode prog_10_method_32_code 10 = .ok (.iload_n 1, 1) := by decide +kernel
theorem d_Sh_rightedBehind_11 : decode prog_10_method_32_code 11 = .ok (.invokevirtual 71, 3) := by decide +kernel
theorem d_Sh_rightedBehind_14 : decode prog_10_method_32_code 14 = .ok (.iconst (-1), 1) := by decide +kernel
theorem d_Sh_rightedBehind_15 : decode prog_10_method_32_code 15 = .ok (.ixor, 1) := by decide +kernel
theorem d_Sh_rightedBehind_16 : decode prog_10_method_32_code 16 = .ok (.iand, 1) := by decide +kernel
theorem d_Sh_rightedBehind_17 : decode prog_10_method_32_code 17 = .ok (.ireturn, 1) := by decide +kernel
theorem d_Sh_pluckAndRight_0 : decode prog_10_method_33_code 0 = .ok (.aload_n 0, 1) := by decide +kernel
theorem d_Sh_pluckAndRight_1 : decode prog_10_method_33_code 1 = .ok (.getfield 14, 3) := by decide +kernel
theorem d_Sh_pluckAndRight_4 : decode prog_10_method_33_code 4 = .ok (.iload_n 2, 1) := by decide +kernel
theorem d_Sh_pluckAndRight_5 : decode prog_10_method_33_code 5 = .ok (.aload_n 0, 1) := by decide +kernel
theorem d_Sh_pluckAndRight_6 : decode prog_10_method_33_code 6 = .ok (.getfield 14, 3) := by decide +kernel
theorem d_Sh_pluckAndRight_9 : decode prog_10_method_33_code 9 = .ok (.iload_n 2, 1) := by decide +kernel
theorem d_Sh_pluckAndRight_10 : decode prog_10_method_33_code 10 = .ok (.invokevirtual 71, 3) := by decide +kernel
theorem d_Sh_pluckAndRight_13 : decode prog_10_method_33_code 13 = .ok (.aload_n 0, 1) := by decide +kernel
theorem d_Sh_pluckAndRight_14 : decode prog_10_method_33_code 14 = .ok (.iload_n 1, 1) := by decide +kernel
theorem d_Sh_pluckAndRight_15 : decode prog_10_method_33_code 15 = .ok (.invokevirtual 112, 3) := by decide +kernel
theorem d_Sh_pluckAndRight_18 : decode prog_10_method_33_code 18 = .ok (.isub, 1) := by decide +kernel
theorem d_Sh_pluckAndRight_19 : decode prog_10_method_33_code 19 = .ok (.invokevirtual 67, 3) := by decide +kernel
theorem d_Sh_pluckAndRight_22 : decode prog_10_method_33_code 22 = .ok (.aload_n 0, 1) := by decide +kernel
theorem d_Sh_pluckAndRight_23 : decode prog_10_method_33_code 23 = .ok (.aload_n 0, 1) := by decide +kernel
theorem d_Sh_pluckAndRight_24 : decode prog_10_method_33_code 24 = .ok (.iload_n 1, 1) := by decide +kernel
theorem d_Sh_pluckAndRight_25 : decode prog_10_method_33_code 25 = .ok (.aload_n 0, 1) := by decide +kernel
theorem d_Sh_pluckAndRight_26 : decode prog_10_method_33_code 26 = .ok (.getfield 55, 3) := by decide +kernel
theorem d_Sh_pluckAndRight_29 : decode prog_10_method_33_code 29 = .ok (.invokevirtual 118, 3) := by decide +kernel
theorem d_Sh_pluckAndRight_32 : decode prog_10_method_33_code 32 = .ok (.putfield 55, 3) := by decide +kernel
theorem d_Sh_pluckAndRight_35 : decode prog_10_method_33_code 35 = .ok (.aload_n 0, 1) := by decide +kernel
theorem d_Sh_pluckAndRight_36 : decode prog_10_method_33_code 36 = .ok (.dup, 1) := by decide +kernel
theorem d_Sh_pluckAndRight_37 : decode prog_10_method_33_code 37 = .ok (.getfield 61, 3) := by decide +kernel
theorem d_Sh_pluckAndRight_40 : decode prog_10_method_33_code 40 = .ok (.iconst 1, 1) := by decide +kernel
theorem d_Sh_pluckAndRight_41 : decode prog_10_method_33_code 41 = .ok (.iadd, 1) := by decide +kernel
theorem d_Sh_pluckAndRight_42 : decode prog_10_method_33_code 42 = .ok (.putfield 61, 3) := by decide +kernel
theorem d_Sh_pluckAndRight_45 : decode prog_10_method_33_code 45 = .ok (.return_, 1) := by decide +kernel
theorem d_Sh_passYear_0 : decode prog_10_method_35_code 0 = .ok (.iconst 0, 1) := by decide +kernel
theorem d_Sh_passYear_1 : decode prog_10_method_35_code 1 = .ok (.istore_n 1, 1) := by decide +kernel
theorem d_Sh_passYear_2 : decode prog_10_method_35_code 2 = .ok (.iload_n 1, 1) := by decide +kernel
theorem d_Sh_passYear_3 : decode prog_10_method_35_code 3 = .ok (.aload_n 0, 1) := by decide +kernel
theorem d_Sh_passYear_4 : decode prog_10_method_35_code 4 = .ok (.getfield 48, 3) := by decide +kernel
theorem d_Sh_passYear_7 : decode prog_10_method_35_code 7 = .ok (.if_icmp .ge 39, 3) := by decide +kernel
theorem d_Sh_passYear_10 : decode prog_10_method_35_code 10 = .ok (.aload_n 0, 1) := by decide +kernel
theorem d_Sh_passYear_11 : decode prog_10_method_35_code 11 = .ok (.getfield 14, 3) := by decide +kernel
theorem d_Sh_passYear_14 : decode prog_10_method_35_code 14 = .ok (.iload_n 1, 1) := by decide +kernel
theorem d_Sh_passYear_15 : decode prog_10_method_35_code 15 = .ok (.bipush 20, 2) := by decide +kernel
theorem d_Sh_passYear_17 : decode prog_10_method_35_code 17 = .ok (.aload_n 0, 1) := by decide +kernel
theorem d_Sh_passYear_18 : decode prog_10_method_35_code 18 = .ok (.getfield 14, 3) := by decide +kernel
theorem d_Sh_passYear_21 : decode prog_10_method_35_code 21 = .ok (.iload_n 1, 1) := by decide +kernel
theorem d_Sh_passYear_22 : decode prog_10_method_35_code 22 = .ok (.invokevirtual 71, 3) := by decide +kernel
theorem d_Sh_passYear_25 : decode prog_10_method_35_code 25 = .ok (.aload_n 0, 1) := by decide +kernel
theorem d_Sh_passYear_26 : decode prog_10_method_35_code 26 = .ok (.getfield 20, 3) := by decide +kernel
theorem d_Sh_passYear_29 : decode prog_10_method_35_code 29 = .ok (.iload_n 1, 1) := by decide +kernel
theorem d_Sh_passYear_30 : decode prog_10_method_35_code 30 = .ok (.invokevirtual 71, 3) := by decide +kernel
theorem d_Sh_passYear_33 : decode prog_10_method_35_code 33 = .ok (.iadd, 1) := by decide +kernel
theorem d_Sh_passYear_34 : decode prog_10_method_35_code 34 = .ok (.invokestatic 121, 3) := by decide +kernel
theorem d_Sh_passYear_37 : decode prog_10_method_35_code 37 = .ok (.invokevirtual 67, 3) := by decide +kernel
theorem d_Sh_passYear_40 : decode prog_10_method_35_code 40 = .ok (.iinc 1 1, 3) := by decide +kernel
theorem d_Sh_passYear_43 : decode prog_10_method_35_code 43 = .ok (.goto (-41), 3) := by decide +kernel
theorem d_Sh_passYear_46 : decode prog_10_method_35_code 46 = .ok (.aload_n 0, 1) := by decide +kernel
theorem d_Sh_passYear_47 : decode prog_10_method_35_code 47 = .ok (.dup, 1) := by decide +kernel
theorem d_Sh_passYear_48 : decode prog_10_method_35_code 48 = .ok (.getfield 58, 3) := by decide +kernel
theorem d_Sh_passYear_51 : decode prog_10_method_35_code 51 = .ok (.iconst 1, 1) := by decide +kernel
theorem d_Sh_passYear_52 : decode prog_10_method_35_code 52 = .ok (.iadd, 1) := by decide +kernel
theorem d_Sh_passYear_53 : decode prog_10_method_35_code 53 = .ok (.putfield 58, 3) := by decide +kernel
theorem d_Sh_passYear_56 : decode prog_10_method_35_code 56 = .ok (.return_, 1) := by decide +kernel
theorem d_Fo_pass_0 : decode prog_4_method_5_code 0 = .ok (.aload_n 0, 1) := by decide +kernel
theorem d_Fo_pass_1 : decode prog_4_method_5_code 1 = .ok (.getfield 10, 3) := by decide +kernel
theorem d_Fo_pass_4 : decode prog_4_method_5_code 4 = .ok (.aload_n 0, 1) := by decide +kernel
theorem d_Fo_pass_5 : decode prog_4_method_5_code 5 = .ok (.getfield 16, 3) := by decide +kernel
theorem d_Fo_pass_8 : decode prog_4_method_5_code 8 = .ok (.invokevirtual 30, 3) := by decide +kernel
theorem d_Fo_pass_11 : decode prog_4_method_5_code 11 = .ok (.aload_n 0, 1) := by decide +kernel
theorem d_Fo_pass_12 : decode prog_4_method_5_code 12 = .ok (.iload_n 2, 1) := by decide +kernel
theorem d_Fo_pass_13 : decode prog_4_method_5_code 13 = .ok (.i2l, 1) := by decide +kernel
theorem d_Fo_pass_14 : decode prog_4_method_5_code 14 = .ok (.putfield 26, 3) := by decide +kernel
theorem d_Fo_pass_17 : decode prog_4_method_5_code 17 = .ok (.iconst 0, 1) := by decide +kernel
theorem d_Fo_pass_18 : decode prog_4_method_5_code 18 = .ok (.istore_n 3, 1) := by decide +kernel
theorem d_Fo_pass_19 : decode prog_4_method_5_code 19 = .ok (.iload_n 3, 1) := by decide +kernel
theorem d_Fo_pass_20 : decode prog_4_method_5_code 20 = .ok (.iload_n 1, 1) := by decide +kernel
theorem d_Fo_pass_21 : decode prog_4_method_5_code 21 = .ok (.if_icmp .ge 70, 3) := by decide +kernel
theorem d_Fo_pass_24 : decode prog_4_method_5_code 24 = .ok (.aload_n 0, 1) := by decide +kernel
theorem d_Fo_pass_25 : decode prog_4_method_5_code 25 = .ok (.aload_n 0, 1) := by decide +kernel
theorem d_Fo_pass_26 : decode prog_4_method_5_code 26 = .ok (.getfield 10, 3) := by decide +kernel
theorem d_Fo_pass_29 : decode prog_4_method_5_code 29 = .ok (.invokevirtual 34, 3) := by decide +kernel
theorem d_Fo_pass_32 : decode prog_4_method_5_code 32 = .ok (.invokevirtual 37, 3) := by decide +kernel
theorem d_Fo_pass_35 : decode prog_4_method_5_code 35 = .ok (.istore 4, 2) := by decide +kernel
theorem d_Fo_pass_37 : decode prog_4_method_5_code 37 = .ok (.aload_n 0, 1) := by decide +kernel
theorem d_Fo_pass_38 : decode prog_4_method_5_code 38 = .ok (.aload_n 0, 1) := by decide +kernel
theorem d_Fo_pass_39 : decode prog_4_method_5_code 39 = .ok (.getfield 10, 3) := by decide +kernel
theorem d_Fo_pass_42 : decode prog_4_method_5_code 42 = .ok (.invokevirtual 41, 3) := by decide +kernel
theorem d_Fo_pass_45 : decode prog_4_method_5_code 45 = .ok (.invokevirtual 37, 3) := by decide +kernel
theorem d_Fo_pass_48 : decode prog_4_method_5_code 48 = .ok (.istore 5, 2) := by decide +kernel
theorem d_Fo_pass_50 : decode prog_4_method_5_code 50 = .ok (.aload_n 0, 1) := by decide +kernel
theorem d_Fo_pass_51 : decode prog_4_method_5_code 51 = .ok (.getfield 10, 3) := by decide +kernel
theorem d_Fo_pass_54 : decode prog_4_method_5_code 54 = .ok (.iload 4, 2) := by decide +kernel
theorem d_Fo_pass_56 : decode prog_4_method_5_code 56 = .ok (.iload 5, 2) := by decide +kernel
theorem d_Fo_pass_58 : decode prog_4_method_5_code 58 = .ok (.invokevirtual 44, 3) := by decide +kernel
theorem d_Fo_pass_61 : decode prog_4_method_5_code 61 = .ok (.ifCond .eq 17, 3) := by decide +kernel
theorem d_Fo_pass_64 : decode prog_4_method_5_code 64 = .ok (.aload_n 0, 1) := by decide +kernel
theorem d_Fo_pass_65 : decode prog_4_method_5_code 65 = .ok (.getfield 10, 3) := by decide +kernel
theorem d_Fo_pass_68 : decode prog_4_method_5_code 68 = .ok (.iload 4, 2) := by decide +kernel
theorem d_Fo_pass_70 : decode prog_4_method_5_code 70 = .ok (.iload 5, 2) := by decide +kernel
theorem d_Fo_pass_72 : decode prog_4_method_5_code 72 = .ok (.invokevirtual 48, 3) := by decide +kernel
theorem d_Fo_pass_75 : decode prog_4_method_5_code 75 = .ok (.goto 10, 3) := by decide +kernel
theorem d_Fo_pass_78 : decode prog_4_method_5_code 78 = .ok (.aload_n 0, 1) := by decide +kernel
theorem d_Fo_pass_79 : decode prog_4_method_5_code 79 = .ok (.getfield 10, 3) := by decide +kernel
theorem d_Fo_pass_82 : decode prog_4_method_5_code 82 = .ok (.invokevirtual 52, 3) := by decide +kernel
theorem d_Fo_pass_85 : decode prog_4_method_5_code 85 = .ok (.iinc 3 1, 3) := by decide +kernel
theorem d_Fo_pass_88 : decode prog_4_method_5_code 88 = .ok (.goto (-69), 3) := by decide +kernel
theorem d_Fo_pass_91 : decode prog_4_method_5_code 91 = .ok (.return_, 1) := by decide +kernel
theorem d_Sh_rightings_0 : decode prog_10_method_12_code 0 = .ok (.aload_n 0, 1) := by decide +kernel
theorem d_Sh_rightings_1 : decode prog_10_method_12_code 1 = .ok (.getfield 61, 3) := by decide +kernel
theorem d_Sh_rightings_4 : decode prog_10_method_12_code 4 = .ok (.ireturn, 1) := by decide +kernel
theorem d_Fo_rightings_0 : decode prog_4_method_2_code 0 = .ok (.aload_n 0, 1) := by decide +kernel
theorem d_Fo_rightings_1 : decode prog_4_method_2_code 1 = .ok (.getfield 10, 3) := by decide +kernel
theorem d_Fo_rightings_4 : decode prog_4_method_2_code 4 = .ok (.invokevirtual 19, 3) := by decide +kernel
theorem d_Fo_rightings_7 : decode prog_4_method_2_code 7 = .ok (.aload_n 0, 1) := by decide +kernel
theorem d_Fo_rightings_8 : decode prog_4_method_2_code 8 = .ok (.getfield 16, 3) := by decide +kernel
theorem d_Fo_rightings_11 : decode prog_4_method_2_code 11 = .ok (.invokevirtual 19, 3) := by decide +kernel
theorem d_Fo_rightings_14 : decode prog_4_method_2_code 14 = .ok (.isub, 1) := by decide +kernel
theorem d_Fo_rightings_15 : decode prog_4_method_2_code 15 = .ok (.ireturn, 1) := by decide +kernel
theorem d_Sh_worthOf_0 : decode prog_10_method_28_code 0 = .ok (.iconst 0, 1) := by decide +kernel
theorem d_Sh_worthOf_1 : decode prog_10_method_28_code 1 = .ok (.istore_n 2, 1) := by decide +kernel
theorem d_Sh_worthOf_2 : decode prog_10_method_28_code 2 = .ok (.iconst 0, 1) := by decide +kernel
theorem d_Sh_worthOf_3 : decode prog_10_method_28_code 3 = .ok (.istore_n 3, 1) := by decide +kernel
theorem d_Sh_worthOf_4 : decode prog_10_method_28_code 4 = .ok (.iload_n 3, 1) := by decide +kernel
theorem d_Sh_worthOf_5 : decode prog_10_method_28_code 5 = .ok (.aload_n 0, 1) := by decide +kernel
theorem d_Sh_worthOf_6 : decode prog_10_method_28_code 6 = .ok (.getfield 52, 3) := by decide +kernel
theorem d_Sh_worthOf_9 : decode prog_10_method_28_code 9 = .ok (.if_icmp .ge 32, 3) := by decide +kernel
theorem d_Sh_worthOf_12 : decode prog_10_method_28_code 12 = .ok (.iload_n 2, 1) := by decide +kernel
theorem d_Sh_worthOf_13 : decode prog_10_method_28_code 13 = .ok (.iload_n 1, 1) := by decide +kernel
theorem d_Sh_worthOf_14 : decode prog_10_method_28_code 14 = .ok (.iload_n 3, 1) := by decide +kernel
theorem d_Sh_worthOf_15 : decode prog_10_method_28_code 15 = .ok (.invokestatic 105, 3) := by decide +kernel
theorem d_Sh_worthOf_18 : decode prog_10_method_28_code 18 = .ok (.ifCond .eq 14, 3) := by decide +kernel
theorem d_Sh_worthOf_21 : decode prog_10_method_28_code 21 = .ok (.aload_n 0, 1) := by decide +kernel
theorem d_Sh_worthOf_22 : decode prog_10_method_28_code 22 = .ok (.getfield 29, 3) := by decide +kernel
theorem d_Sh_worthOf_25 : decode prog_10_method_28_code 25 = .ok (.iload_n 3, 1) := by decide +kernel
theorem d_Sh_worthOf_26 : decode prog_10_method_28_code 26 = .ok (.invokevirtual 71, 3) := by decide +kernel
theorem d_Sh_worthOf_29 : decode prog_10_method_28_code 29 = .ok (.goto 4, 3) := by decide +kernel
theorem d_Sh_worthOf_32 : decode prog_10_method_28_code 32 = .ok (.iconst 0, 1) := by decide +kernel
theorem d_Sh_worthOf_33 : decode prog_10_method_28_code 33 = .ok (.iadd, 1) := by decide +kernel
theorem d_Sh_worthOf_34 : decode prog_10_method_28_code 34 = .ok (.istore_n 2, 1) := by decide +kernel
theorem d_Sh_worthOf_35 : decode prog_10_method_28_code 35 = .ok (.iinc 3 1, 3) := by decide +kernel
theorem d_Sh_worthOf_38 : decode prog_10_method_28_code 38 = .ok (.goto (-34), 3) := by decide +kernel
theorem d_Sh_worthOf_41 : decode prog_10_method_28_code 41 = .ok (.iload_n 2, 1) := by decide +kernel
theorem d_Sh_worthOf_42 : decode prog_10_method_28_code 42 = .ok (.ireturn, 1) := by decide +kernel
theorem d_Sh_holds_0 : decode prog_10_method_27_code 0 = .ok (.aload_n 0, 1) := by decide +kernel
theorem d_Sh_holds_1 : decode prog_10_method_27_code 1 = .ok (.aload_n 0, 1) := by decide +kernel
theorem d_Sh_holds_2 : decode prog_10_method_27_code 2 = .ok (.getfield 55, 3) := by decide +kernel
theorem d_Sh_holds_5 : decode prog_10_method_27_code 5 = .ok (.invokevirtual 102, 3) := by decide +kernel
theorem d_Sh_holds_8 : decode prog_10_method_27_code 8 = .ok (.ireturn, 1) := by decide +kernel
theorem d_Fo_holds_0 : decode prog_4_method_3_code 0 = .ok (.aload_n 0, 1) := by decide +kernel
theorem d_Fo_holds_1 : decode prog_4_method_3_code 1 = .ok (.getfield 10, 3) := by decide +kernel
theorem d_Fo_holds_4 : decode prog_4_method_3_code 4 = .ok (.invokevirtual 23, 3) := by decide +kernel
theorem d_Fo_holds_7 : decode prog_4_method_3_code 7 = .ok (.ireturn, 1) := by decide +kernel
theorem d_Fo_seed_0 : decode prog_4_method_4_code 0 = .ok (.aload_n 0, 1) := by decide +kernel
theorem d_Fo_seed_1 : decode prog_4_method_4_code 1 = .ok (.getfield 26, 3) := by decide +kernel
theorem d_Fo_seed_4 : decode prog_4_method_4_code 4 = .ok (.l2i, 1) := by decide +kernel
theorem d_Fo_seed_5 : decode prog_4_method_4_code 5 = .ok (.ireturn, 1) := by decide +kernel
theorem d_Co_centuries_0 : decode prog_1_method_19_code 0 = .ok (.iload_n 1, 1) := by decide +kernel
theorem d_Co_centuries_1 : decode prog_1_method_19_code 1 = .ok (.iconst 1, 1) := by decide +kernel
theorem d_Co_centuries_2 : decode prog_1_method_19_code 2 = .ok (.if_icmp .lt 22, 3) := by decide +kernel
theorem d_Co_centuries_5 : decode prog_1_method_19_code 5 = .ok (.iload_n 1, 1) := by decide +kernel
theorem d_Co_centuries_6 : decode prog_1_method_19_code 6 = .ok (.bipush 60, 2) := by decide +kernel
theorem d_Co_centuries_8 : decode prog_1_method_19_code 8 = .ok (.if_icmp .gt 16, 3) := by decide +kernel
theorem d_Co_centuries_11 : decode prog_1_method_19_code 11 = .ok (.iload_n 2, 1) := by decide +kernel
theorem d_Co_centuries_12 : decode prog_1_method_19_code 12 = .ok (.ifCond .lt 12, 3) := by decide +kernel
theorem d_Co_centuries_15 : decode prog_1_method_19_code 15 = .ok (.iload_n 3, 1) := by decide +kernel
theorem d_Co_centuries_16 : decode prog_1_method_19_code 16 = .ok (.ifCond .lt 8, 3) := by decide +kernel
theorem d_Co_centuries_19 : decode prog_1_method_19_code 19 = .ok (.iload_n 3, 1) := by decide +kernel
theorem d_Co_centuries_20 : decode prog_1_method_19_code 20 = .ok (.iconst 2, 1) := by decide +kernel
theorem d_Co_centuries_21 : decode prog_1_method_19_code 21 = .ok (.if_icmp .le 6, 3) := by decide +kernel
theorem d_Co_centuries_24 : decode prog_1_method_19_code 24 = .ok (.bipush (-102), 2) := by decide +kernel
theorem d_Co_centuries_26 : decode prog_1_method_19_code 26 = .ok (.ireturn, 1) := by decide +kernel
theorem d_Co_centuries_27 : decode prog_1_method_19_code 27 = .ok (.aload_n 0, 1) := by decide +kernel
theorem d_Co_centuries_28 : decode prog_1_method_19_code 28 = .ok (.invokevirtual 161, 3) := by decide +kernel
theorem d_Co_centuries_31 : decode prog_1_method_19_code 31 = .ok (.ifCond .ne 6, 3) := by decide +kernel
theorem d_Co_centuries_34 : decode prog_1_method_19_code 34 = .ok (.bipush (-103), 2) := by decide +kernel
theorem d_Co_centuries_36 : decode prog_1_method_19_code 36 = .ok (.ireturn, 1) := by decide +kernel
theorem d_Co_centuries_37 : decode prog_1_method_19_code 37 = .ok (.aload_n 0, 1) := by decide +kernel
theorem d_Co_centuries_38 : decode prog_1_method_19_code 38 = .ok (.getfield 61, 3) := by decide +kernel
theorem d_Co_centuries_41 : decode prog_1_method_19_code 41 = .ok (.iload_n 1, 1) := by decide +kernel
theorem d_Co_centuries_42 : decode prog_1_method_19_code 42 = .ok (.iload_n 2, 1) := by decide +kernel
theorem d_Co_centuries_43 : decode prog_1_method_19_code 43 = .ok (.invokevirtual 230, 3) := by decide +kernel
theorem d_Co_centuries_46 : decode prog_1_method_19_code 46 = .ok (.iload_n 3, 1) := by decide +kernel
theorem d_Co_centuries_47 : decode prog_1_method_19_code 47 = .ok (.lookupswitch 41 #[(0, 25), (1, 33)], 25) := by decide +kernel
theorem d_Co_centuries_72 : decode prog_1_method_19_code 72 = .ok (.aload_n 0, 1) := by decide +kernel
theorem d_Co_centuries_73 : decode prog_1_method_19_code 73 = .ok (.getfield 61, 3) := by decide +kernel
theorem d_Co_centuries_76 : decode prog_1_method_19_code 76 = .ok (.invokevirtual 233, 3) := by decide +kernel
theorem d_Co_centuries_79 : decode prog_1_method_19_code 79 = .ok (.ireturn, 1) := by decide +kernel
theorem d_Co_centuries_80 : decode prog_1_method_19_code 80 = .ok (.aload_n 0, 1) := by decide +kernel
theorem d_Co_centuries_81 : decode prog_1_method_19_code 81 = .ok (.getfield 61, 3) := by decide +kernel
theorem d_Co_centuries_84 : decode prog_1_method_19_code 84 = .ok (.invokevirtual 234, 3) := by decide +kernel
theorem d_Co_centuries_87 : decode prog_1_method_19_code 87 = .ok (.ireturn, 1) := by decide +kernel
theorem d_Co_centuries_88 : decode prog_1_method_19_code 88 = .ok (.aload_n 0, 1) := by decide +kernel
theorem d_Co_centuries_89 : decode prog_1_method_19_code 89 = .ok (.getfield 61, 3) := by decide +kernel
theorem d_Co_centuries_92 : decode prog_1_method_19_code 92 = .ok (.invokevirtual 235, 3) := by decide +kernel
theorem d_Co_centuries_95 : decode prog_1_method_19_code 95 = .ok (.ireturn, 1) := by decide +kernel
theorem d_Rw_sum_0 : decode prog_9_method_5_code 0 = .ok (.iconst 0, 1) := by decide +kernel
theorem d_Rw_sum_1 : decode prog_9_method_5_code 1 = .ok (.istore_n 2, 1) := by decide +kernel
theorem d_Rw_sum_2 : decode prog_9_method_5_code 2 = .ok (.iconst 0, 1) := by decide +kernel
theorem d_Rw_sum_3 : decode prog_9_method_5_code 3 = .ok (.istore_n 3, 1) := by decide +kernel
theorem d_Rw_sum_4 : decode prog_9_method_5_code 4 = .ok (.iload_n 3, 1) := by decide +kernel
theorem d_Rw_sum_5 : decode prog_9_method_5_code 5 = .ok (.iload_n 1, 1) := by decide +kernel
theorem d_Rw_sum_6 : decode prog_9_method_5_code 6 = .ok (.if_icmp .ge 17, 3) := by decide +kernel
theorem d_Rw_sum_9 : decode prog_9_method_5_code 9 = .ok (.iload_n 2, 1) := by decide +kernel
theorem d_Rw_sum_10 : decode prog_9_method_5_code 10 = .ok (.aload_n 0, 1) := by decide +kernel
theorem d_Rw_sum_11 : decode prog_9_method_5_code 11 = .ok (.iload_n 3, 1) := by decide +kernel
theorem d_Rw_sum_12 : decode prog_9_method_5_code 12 = .ok (.invokevirtual 13, 3) := by decide +kernel
theorem d_Rw_sum_15 : decode prog_9_method_5_code 15 = .ok (.iadd, 1) := by decide +kernel
theorem d_Rw_sum_16 : decode prog_9_method_5_code 16 = .ok (.istore_n 2, 1) := by decide +kernel
theorem d_Rw_sum_17 : decode prog_9_method_5_code 17 = .ok (.iinc 3 1, 3) := by decide +kernel
theorem d_Rw_sum_20 : decode prog_9_method_5_code 20 = .ok (.goto (-16), 3) := by decide +kernel
theorem d_Rw_sum_23 : decode prog_9_method_5_code 23 = .ok (.iload_n 2, 1) := by decide +kernel
theorem d_Rw_sum_24 : decode prog_9_method_5_code 24 = .ok (.ireturn, 1) := by decide +kernel
theorem d_Sh_allBerries_0 : decode prog_10_method_16_code 0 = .ok (.aload_n 0, 1) := by decide +kernel
theorem d_Sh_allBerries_1 : decode prog_10_method_16_code 1 = .ok (.getfield 14, 3) := by decide +kernel
theorem d_Sh_allBerries_4 : decode prog_10_method_16_code 4 = .ok (.aload_n 0, 1) := by decide +kernel
theorem d_Sh_allBerries_5 : decode prog_10_method_16_code 5 = .ok (.getfield 48, 3) := by decide +kernel
theorem d_Sh_allBerries_8 : decode prog_10_method_16_code 8 = .ok (.invokevirtual 85, 3) := by decide +kernel
theorem d_Sh_allBerries_11 : decode prog_10_method_16_code 11 = .ok (.ireturn, 1) := by decide +kernel
theorem d_Sh_allBirds_0 : decode prog_10_method_17_code 0 = .ok (.aload_n 0, 1) := by decide +kernel
theorem d_Sh_allBirds_1 : decode prog_10_method_17_code 1 = .ok (.getfield 20, 3) := by decide +kernel
theorem d_Sh_allBirds_4 : decode prog_10_method_17_code 4 = .ok (.aload_n 0, 1) := by decide +kernel
theorem d_Sh_allBirds_5 : decode prog_10_method_17_code 5 = .ok (.getfield 48, 3) := by decide +kernel
theorem d_Sh_allBirds_8 : decode prog_10_method_17_code 8 = .ok (.invokevirtual 85, 3) := by decide +kernel
theorem d_Sh_allBirds_11 : decode prog_10_method_17_code 11 = .ok (.ireturn, 1) := by decide +kernel
theorem d_Sh_righted_0 : decode prog_10_method_10_code 0 = .ok (.aload_n 0, 1) := by decide +kernel
theorem d_Sh_righted_1 : decode prog_10_method_10_code 1 = .ok (.getfield 55, 3) := by decide +kernel
theorem d_Sh_righted_4 : decode prog_10_method_10_code 4 = .ok (.ireturn, 1) := by decide +kernel
theorem d_In_bitCount_0 : decode prog_15_method_49_code 0 = .ok (.iload_n 0, 1) := by decide +kernel
theorem d_In_bitCount_1 : decode prog_15_method_49_code 1 = .ok (.iload_n 0, 1) := by decide +kernel
theorem d_In_bitCount_2 : decode prog_15_method_49_code 2 = .ok (.iconst 1, 1) := by decide +kernel
theorem d_In_bitCount_3 : decode prog_15_method_49_code 3 = .ok (.iushr, 1) := by decide +kernel
theorem d_In_bitCount_4 : decode prog_15_method_49_code 4 = .ok (.ldc_w 265, 3) := by decide +kernel
theorem d_In_bitCount_7 : decode prog_15_method_49_code 7 = .ok (.iand, 1) := by decide +kernel
theorem d_In_bitCount_8 : decode prog_15_method_49_code 8 = .ok (.isub, 1) := by decide +kernel
theorem d_In_bitCount_9 : decode prog_15_method_49_code 9 = .ok (.istore_n 0, 1) := by decide +kernel
theorem d_In_bitCount_10 : decode prog_15_method_49_code 10 = .ok (.iload_n 0, 1) := by decide +kernel
theorem d_In_bitCount_11 : decode prog_15_method_49_code 11 = .ok (.ldc_w 266, 3) := by decide +kernel
theorem d_In_bitCount_14 : decode prog_15_method_49_code 14 = .ok (.iand, 1) := by decide +kernel
theorem d_In_bitCount_15 : decode prog_15_method_49_code 15 = .ok (.iload_n 0, 1) := by decide +kernel
theorem d_In_bitCount_16 : decode prog_15_method_49_code 16 = .ok (.iconst 2, 1) := by decide +kernel
theorem d_In_bitCount_17 : decode prog_15_method_49_code 17 = .ok (.iushr, 1) := by decide +kernel
theorem d_In_bitCount_18 : decode prog_15_method_49_code 18 = .ok (.ldc_w 266, 3) := by decide +kernel
theorem d_In_bitCount_21 : decode prog_15_method_49_code 21 = .ok (.iand, 1) := by decide +kernel
theorem d_In_bitCount_22 : decode prog_15_method_49_code 22 = .ok (.iadd, 1) := by decide +kernel
theorem d_In_bitCount_23 : decode prog_15_method_49_code 23 = .ok (.istore_n 0, 1) := by decide +kernel
theorem d_In_bitCount_24 : decode prog_15_method_49_code 24 = .ok (.iload_n 0, 1) := by decide +kernel
theorem d_In_bitCount_25 : decode prog_15_method_49_code 25 = .ok (.iload_n 0, 1) := by decide +kernel
theorem d_In_bitCount_26 : decode prog_15_method_49_code 26 = .ok (.iconst 4, 1) := by decide +kernel
theorem d_In_bitCount_27 : decode prog_15_method_49_code 27 = .ok (.iushr, 1) := by decide +kernel
theorem d_In_bitCount_28 : decode prog_15_method_49_code 28 = .ok (.iadd, 1) := by decide +kernel
theorem d_In_bitCount_29 : decode prog_15_method_49_code 29 = .ok (.ldc_w 267, 3) := by decide +kernel
theorem d_In_bitCount_32 : decode prog_15_method_49_code 32 = .ok (.iand, 1) := by decide +kernel
theorem d_In_bitCount_33 : decode prog_15_method_49_code 33 = .ok (.istore_n 0, 1) := by decide +kernel
theorem d_In_bitCount_34 : decode prog_15_method_49_code 34 = .ok (.iload_n 0, 1) := by decide +kernel
theorem d_In_bitCount_35 : decode prog_15_method_49_code 35 = .ok (.iload_n 0, 1) := by decide +kernel
theorem d_In_bitCount_36 : decode prog_15_method_49_code 36 = .ok (.bipush 8, 2) := by decide +kernel
theorem d_In_bitCount_38 : decode prog_15_method_49_code 38 = .ok (.iushr, 1) := by decide +kernel
theorem d_In_bitCount_39 : decode prog_15_method_49_code 39 = .ok (.iadd, 1) := by decide +kernel
theorem d_In_bitCount_40 : decode prog_15_method_49_code 40 = .ok (.istore_n 0, 1) := by decide +kernel
theorem d_In_bitCount_41 : decode prog_15_method_49_code 41 = .ok (.iload_n 0, 1) := by decide +kernel
theorem d_In_bitCount_42 : decode prog_15_method_49_code 42 = .ok (.iload_n 0, 1) := by decide +kernel
theorem d_In_bitCount_43 : decode prog_15_method_49_code 43 = .ok (.bipush 16, 2) := by decide +kernel
theorem d_In_bitCount_45 : decode prog_15_method_49_code 45 = .ok (.iushr, 1) := by decide +kernel
theorem d_In_bitCount_46 : decode prog_15_method_49_code 46 = .ok (.iadd, 1) := by decide +kernel
theorem d_In_bitCount_47 : decode prog_15_method_49_code 47 = .ok (.istore_n 0, 1) := by decide +kernel
theorem d_In_bitCount_48 : decode prog_15_method_49_code 48 = .ok (.iload_n 0, 1) := by decide +kernel
theorem d_In_bitCount_49 : decode prog_15_method_49_code 49 = .ok (.bipush 63, 2) := by decide +kernel
theorem d_In_bitCount_51 : decode prog_15_method_49_code 51 = .ok (.iand, 1) := by decide +kernel
theorem d_In_bitCount_52 : decode prog_15_method_49_code 52 = .ok (.ireturn, 1) := by decide +kernel
theorem d_Sh_years_0 : decode prog_10_method_11_code 0 = .ok (.aload_n 0, 1) := by decide +kernel
theorem d_Sh_years_1 : decode prog_10_method_11_code 1 = .ok (.getfield 58, 3) := by decide +kernel
theorem d_Sh_years_4 : decode prog_10_method_11_code 4 = .ok (.ireturn, 1) := by decide +kernel
theorem d_Sh_sightings_0 : decode prog_10_method_13_code 0 = .ok (.aload_n 0, 1) := by decide +kernel
theorem d_Sh_sightings_1 : decode prog_10_method_13_code 1 = .ok (.getfield 44, 3) := by decide +kernel
theorem d_Sh_sightings_4 : decode prog_10_method_13_code 4 = .ok (.areturn, 1) := by decide +kernel
theorem d_Si_size_0 : decode prog_11_method_2_code 0 = .ok (.aload_n 0, 1) := by decide +kernel
theorem d_Si_size_1 : decode prog_11_method_2_code 1 = .ok (.getfield 26, 3) := by decide +kernel
theorem d_Si_size_4 : decode prog_11_method_2_code 4 = .ok (.ireturn, 1) := by decide +kernel
