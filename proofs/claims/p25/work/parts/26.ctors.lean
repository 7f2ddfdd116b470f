theorem k_Rw_init (S : Nat → Nat → Bool) (r n : Nat) (x : Int32) (hl : r < 93) (hc : jv_cls r = 9) (hn : jv_ln (r + 1) = n) (hx : 0 ≤ x) (hx2 : x.toNatClampNeg = n) (hb : n * componentBytes .int ≤ 536870912) : EvC y_Rw_init prog_9_method_1_code 2 1 1 n (fun ad => [Value.ref (ad r), Value.int x]) (r + 1) (r + 2) S (setS S r 0) := by
  have hr := jl_row r hl hc
  refine EvC_of (by decide) rfl (fun ad => Nat.le_of_ble_eq_true rfl) (fun p l e R s m args below meth c D ad cI cB z0 Q X hin hQ => ?_)
  have X : CC p R s m args meth c jR9 prog_9_method_1_code 2 1 D ad cI cB z0 1 n := X
  refine VC_sub (lv' := [(0, Value.ref (ad r)), (1, Value.int x)]) [0, 1] rfl ?_
  refine VC_aload_n X 0 d_Rw_init_0 rfl ?_
  refine VC_objInit X ml_Rw_1 d_Rw_init_1 (by decide) oi_i oi_c ?_
  refine VC_aload_n X 0 d_Rw_init_4 rfl ?_
  refine VC_iload_n X 1 d_Rw_init_5 rfl ?_
  refine VC_if_geT X 13 d_Rw_init_6 (by decide) hx ?_
  refine VC_iload_n X 1 d_Rw_init_13 rfl ?_
  refine VC_newa X (t0 := 0) (cA := cI) (ty := .int) (n' := n) ac_i rfl rfl (fun q h => h) rfl (Int32.not_lt.mpr hx) hx2 hb d_Rw_init_14 hr.1 (fun S => by rw [cce, if_pos hr.2.1, hn]) (by omega) (by omega) ?_
  refine VC_putR X 9 0 rfl ji9 jk9 jn9 (by decide) (by decide) (by decide) rfl hin rfl (ty := .array .int) (by decide +kernel) rfl rfl fc_Rw_7 d_Rw_init_16 (Nat.lt_of_lt_of_le (Nat.lt_succ_self r) (by omega)) (by omega) hc (by decide) hr.2.2 ?_
  exact VC_widen (by omega) (by omega) (hQ _ _ d_Rw_init_19)
def S_Pg_init_1 (S : Nat → Nat → Bool) : Nat → Nat → Bool := setS (setS S 2 0) 1 0
theorem f_Pg_init_1 {S : Nat → Nat → Bool} (hf : fresh S 2) : fresh (S_Pg_init_1 S) 4 := (fresh_set (fresh_set (fresh_mono (N' := 4) (fresh_mono (N' := 3) hf (by decide)) (by decide)) (by decide)) (by decide))
set_option maxHeartbeats 4000000 in
set_option maxRecDepth 100000 in
theorem k_Pg_init_1 (S : Nat → Nat → Bool) (hf : fresh S 2) : EvC y_Pg_init prog_6_method_1_code 1 2 2 47 (fun ad => [Value.ref (ad 1)]) 2 4 S (S_Pg_init_1 S) := by
  refine EvC_of (by decide) rfl (fun ad => Nat.le_of_ble_eq_true rfl) (fun p l e R s m args below meth c D ad cI cB z0 Q X hin hQ => ?_)
  have X : CC p R s m args meth c jR1 prog_6_method_1_code 1 2 D ad cI cB z0 2 47 := X
  refine VC_sub (lv' := [(0, Value.ref (ad 1))]) [0] rfl ?_
  refine VC_aload_n X 0 d_Pg_init_0 rfl ?_
  refine VC_objInit X ml_Pg_3 d_Pg_init_1 (by decide) oi_i oi_c ?_
  refine VC_aload_n X 0 d_Pg_init_4 rfl ?_
  refine VC_new X 9 rfl ji9 jk9 rfl df_9 cl_Pg_9 in_9 iz_9 d_Pg_init_5 (by decide) rfl (by decide) hf (by decide) (by decide) ?_
  refine VC_dup X d_Pg_init_8 rfl ?_
  refine VC_bipush (v := 46) X d_Pg_init_9 (by decide) ?_
  refine VC_call X (VC_run X [Value.int 46] mt_Rw_init ms_Rw_init ml_Pg_11 (k_Rw_init S 2 46 46 (by decide) (by decide) (by decide) (by decide) (by decide) (by decide)) rfl rfl rfl (by decide) (by decide) (by decide) (Nat.le_of_ble_eq_true rfl) d_Pg_init_11) ?_
  refine VC_putR X 1 0 rfl ji1 jk1 jn1 (by decide) (by decide) (by decide) rfl hin rfl (ty := .object "MistletoeCourt$Row") (by decide +kernel) rfl rfl fc_Pg_14 d_Pg_init_14 (by decide) (by decide) rfl (by decide) rfl ?_
  exact VC_widen (by decide) (by decide) (hQ _ _ d_Pg_init_17)
def S_Rd_init_4 (S : Nat → Nat → Bool) : Nat → Nat → Bool := setS S 4 0
theorem f_Rd_init_4 {S : Nat → Nat → Bool} (hf : fresh S 5) : fresh (S_Rd_init_4 S) 5 := (fresh_set hf (by decide))
set_option maxHeartbeats 4000000 in
set_option maxRecDepth 100000 in
theorem k_Rd_init_4 (S : Nat → Nat → Bool) (hf : fresh S 5) : EvC y_Rd_init prog_8_method_1_code 2 1 0 0 (fun ad => [Value.ref (ad 4), Value.ref (ad 1)]) 5 5 S (S_Rd_init_4 S) := by
  refine EvC_of (by decide) rfl (fun ad => Nat.le_of_ble_eq_true rfl) (fun p l e R s m args below meth c D ad cI cB z0 Q X hin hQ => ?_)
  have X : CC p R s m args meth c jR2 prog_8_method_1_code 2 1 D ad cI cB z0 0 0 := X
  refine VC_sub (lv' := [(0, Value.ref (ad 4)), (1, Value.ref (ad 1))]) [0, 1] rfl ?_
  refine VC_aload_n X 0 d_Rd_init_0 rfl ?_
  refine VC_objInit X ml_Rd_3 d_Rd_init_1 (by decide) oi_i oi_c ?_
  refine VC_aload_n X 0 d_Rd_init_4 rfl ?_
  refine VC_aload_n X 1 d_Rd_init_5 rfl ?_
  refine VC_putR X 2 0 rfl ji2 jk2 jn2 (by decide) (by decide) (by decide) rfl hin rfl (ty := .object "MistletoeCourt$Page") (by decide +kernel) rfl rfl fc_Rd_9 d_Rd_init_6 (by decide) (by decide) rfl (by decide) rfl ?_
  exact VC_widen (by decide) (by decide) (hQ _ _ d_Rd_init_9)
def S_Si_init_22 (S : Nat → Nat → Bool) : Nat → Nat → Bool := setS (setS (setS (setS (setS (setS S 23 0) 22 0) 25 0) 22 1) 27 0) 22 2
theorem f_Si_init_22 {S : Nat → Nat → Bool} (hf : fresh S 23) : fresh (S_Si_init_22 S) 29 := (fresh_set (fresh_set (fresh_mono (N' := 29) (fresh_mono (N' := 28) (fresh_set (fresh_set (fresh_mono (N' := 27) (fresh_mono (N' := 26) (fresh_set (fresh_set (fresh_mono (N' := 25) (fresh_mono (N' := 24) hf (by decide)) (by decide)) (by decide)) (by decide)) (by decide)) (by decide)) (by decide)) (by decide)) (by decide)) (by decide)) (by decide)) (by decide))
set_option maxHeartbeats 4000000 in
set_option maxRecDepth 100000 in
theorem k_Si_init_22 (S : Nat → Nat → Bool) (hf : fresh S 23) : EvC y_Si_init prog_11_method_1_code 1 2 6 27 (fun ad => [Value.ref (ad 22)]) 23 29 S (S_Si_init_22 S) := by
  refine EvC_of (by decide) rfl (fun ad => Nat.le_of_ble_eq_true rfl) (fun p l e R s m args below meth c D ad cI cB z0 Q X hin hQ => ?_)
  have X : CC p R s m args meth c jR4 prog_11_method_1_code 1 2 D ad cI cB z0 6 27 := X
  refine VC_sub (lv' := [(0, Value.ref (ad 22))]) [0] rfl ?_
  refine VC_aload_n X 0 d_Si_init_0 rfl ?_
  refine VC_objInit X ml_Si_3 d_Si_init_1 (by decide) oi_i oi_c ?_
  refine VC_aload_n X 0 d_Si_init_4 rfl ?_
  refine VC_new X 9 rfl ji9 jk9 rfl df_9 cl_Si_9 in_9 iz_9 d_Si_init_5 (by decide) rfl (by decide) hf (by decide) (by decide) ?_
  refine VC_dup X d_Si_init_8 rfl ?_
  refine VC_bipush (v := 8) X d_Si_init_9 (by decide) ?_
  refine VC_call X (VC_run X [Value.int 8] mt_Rw_init ms_Rw_init ml_Si_11 (k_Rw_init S 23 8 8 (by decide) (by decide) (by decide) (by decide) (by decide) (by decide)) rfl rfl rfl (by decide) (by decide) (by decide) (Nat.le_of_ble_eq_true rfl) d_Si_init_11) ?_
  refine VC_putR X 4 0 rfl ji4 jk4 jn4 (by decide) (by decide) (by decide) rfl hin rfl (ty := .object "MistletoeCourt$Row") (by decide +kernel) rfl rfl fc_Si_14 d_Si_init_14 (by decide) (by decide) rfl (by decide) rfl ?_
  refine VC_aload_n X 0 d_Si_init_17 rfl ?_
  refine VC_new X 9 rfl ji9 jk9 rfl df_9 cl_Si_9 in_9 iz_9 d_Si_init_18 (by decide) rfl (by decide) (fresh_set (fresh_set (fresh_mono (N' := 25) (fresh_mono (N' := 24) hf (by decide)) (by decide)) (by decide)) (by decide)) (by decide) (by decide) ?_
  refine VC_dup X d_Si_init_21 rfl ?_
  refine VC_bipush (v := 8) X d_Si_init_22 (by decide) ?_
  refine VC_call X (VC_run X [Value.int 8] mt_Rw_init ms_Rw_init ml_Si_11 (k_Rw_init (setS (setS S 23 0) 22 0) 25 8 8 (by decide) (by decide) (by decide) (by decide) (by decide) (by decide)) rfl rfl rfl (by decide) (by decide) (by decide) (Nat.le_of_ble_eq_true rfl) d_Si_init_24) ?_
  refine VC_putR X 4 1 rfl ji4 jk4 jn4 (by decide) (by decide) (by decide) rfl hin rfl (ty := .object "MistletoeCourt$Row") (by decide +kernel) rfl rfl fc_Si_20 d_Si_init_27 (by decide) (by decide) rfl (by decide) rfl ?_
  refine VC_aload_n X 0 d_Si_init_30 rfl ?_
  refine VC_new X 9 rfl ji9 jk9 rfl df_9 cl_Si_9 in_9 iz_9 d_Si_init_31 (by decide) rfl (by decide) (fresh_set (fresh_set (fresh_mono (N' := 27) (fresh_mono (N' := 26) (fresh_set (fresh_set (fresh_mono (N' := 25) (fresh_mono (N' := 24) hf (by decide)) (by decide)) (by decide)) (by decide)) (by decide)) (by decide)) (by decide)) (by decide)) (by decide) (by decide) ?_
  refine VC_dup X d_Si_init_34 rfl ?_
  refine VC_bipush (v := 8) X d_Si_init_35 (by decide) ?_
  refine VC_call X (VC_run X [Value.int 8] mt_Rw_init ms_Rw_init ml_Si_11 (k_Rw_init (setS (setS (setS (setS S 23 0) 22 0) 25 0) 22 1) 27 8 8 (by decide) (by decide) (by decide) (by decide) (by decide) (by decide)) rfl rfl rfl (by decide) (by decide) (by decide) (Nat.le_of_ble_eq_true rfl) d_Si_init_37) ?_
  refine VC_putR X 4 2 rfl ji4 jk4 jn4 (by decide) (by decide) (by decide) rfl hin rfl (ty := .object "MistletoeCourt$Row") (by decide +kernel) rfl rfl fc_Si_23 d_Si_init_40 (by decide) (by decide) rfl (by decide) rfl ?_
  exact VC_widen (by decide) (by decide) (hQ _ _ d_Si_init_43)
def S_Sh_init_5 (S : Nat → Nat → Bool) : Nat → Nat → Bool := setS (S_Si_init_22 (setS (setS (setS (setS (setS (setS (setS (setS (setS (setS (setS (setS (setS (setS (setS (setS S 6 0) 5 2) 8 0) 5 3) 10 0) 5 4) 12 0) 5 5) 14 0) 5 6) 16 0) 5 7) 18 0) 5 8) 20 0) 5 9)) 5 10
theorem f_Sh_init_5 {S : Nat → Nat → Bool} (hf : fresh S 6) : fresh (S_Sh_init_5 S) 29 := (fresh_set (f_Si_init_22 (fresh_mono (N' := 23) (fresh_set (fresh_set (fresh_mono (N' := 22) (fresh_mono (N' := 21) (fresh_set (fresh_set (fresh_mono (N' := 20) (fresh_mono (N' := 19) (fresh_set (fresh_set (fresh_mono (N' := 18) (fresh_mono (N' := 17) (fresh_set (fresh_set (fresh_mono (N' := 16) (fresh_mono (N' := 15) (fresh_set (fresh_set (fresh_mono (N' := 14) (fresh_mono (N' := 13) (fresh_set (fresh_set (fresh_mono (N' := 12) (fresh_mono (N' := 11) (fresh_set (fresh_set (fresh_mono (N' := 10) (fresh_mono (N' := 9) (fresh_set (fresh_set (fresh_mono (N' := 8) (fresh_mono (N' := 7) hf (by decide)) (by decide)) (by decide)) (by decide)) (by decide)) (by decide)) (by decide)) (by decide)) (by decide)) (by decide)) (by decide)) (by decide)) (by decide)) (by decide)) (by decide)) (by decide)) (by decide)) (by decide)) (by decide)) (by decide)) (by decide)) (by decide)) (by decide)) (by decide)) (by decide)) (by decide)) (by decide)) (by decide)) (by decide)) (by decide)) (by decide)) (by decide)) (by decide))) (by decide))
set_option maxHeartbeats 4000000 in
set_option maxRecDepth 100000 in
theorem k_Sh_init_5 (S : Nat → Nat → Bool) (hf : fresh S 6) : EvC y_Sh_init prog_10_method_1_code 1 3 23 87 (fun ad => [Value.ref (ad 5)]) 6 29 S (S_Sh_init_5 S) := by
  refine EvC_of (by decide) rfl (fun ad => Nat.le_of_ble_eq_true rfl) (fun p l e R s m args below meth c D ad cI cB z0 Q X hin hQ => ?_)
  have X : CC p R s m args meth c jR3 prog_10_method_1_code 1 3 D ad cI cB z0 23 87 := X
  refine VC_sub (lv' := [(0, Value.ref (ad 5))]) [0] rfl ?_
  refine VC_aload_n X 0 d_Sh_init_0 rfl ?_
  refine VC_objInit X ml_Sh_3 d_Sh_init_1 (by decide) oi_i oi_c ?_
  refine VC_aload_n X 0 d_Sh_init_4 rfl ?_
  refine VC_new X 9 rfl ji9 jk9 rfl df_9 cl_Sh_9 in_9 iz_9 d_Sh_init_5 (by decide) rfl (by decide) hf (by decide) (by decide) ?_
  refine VC_dup X d_Sh_init_8 rfl ?_
  refine VC_iconst (v := 3) X d_Sh_init_9 (by decide) ?_
  refine VC_call X (VC_run X [Value.int 3] mt_Rw_init ms_Rw_init ml_Sh_11 (k_Rw_init S 6 3 3 (by decide) (by decide) (by decide) (by decide) (by decide) (by decide)) rfl rfl rfl (by decide) (by decide) (by decide) (Nat.le_of_ble_eq_true rfl) d_Sh_init_10) ?_
  refine VC_putR X 3 2 rfl ji3 jk3 jn3 (by decide) (by decide) (by decide) rfl hin rfl (ty := .object "MistletoeCourt$Row") (by decide +kernel) rfl rfl fc_Sh_14 d_Sh_init_13 (by decide) (by decide) rfl (by decide) rfl ?_
  refine VC_aload_n X 0 d_Sh_init_16 rfl ?_
  refine VC_new X 9 rfl ji9 jk9 rfl df_9 cl_Sh_9 in_9 iz_9 d_Sh_init_17 (by decide) rfl (by decide) (fresh_set (fresh_set (fresh_mono (N' := 8) (fresh_mono (N' := 7) hf (by decide)) (by decide)) (by decide)) (by decide)) (by decide) (by decide) ?_
  refine VC_dup X d_Sh_init_20 rfl ?_
  refine VC_iconst (v := 3) X d_Sh_init_21 (by decide) ?_
  refine VC_call X (VC_run X [Value.int 3] mt_Rw_init ms_Rw_init ml_Sh_11 (k_Rw_init (setS (setS S 6 0) 5 2) 8 3 3 (by decide) (by decide) (by decide) (by decide) (by decide) (by decide)) rfl rfl rfl (by decide) (by decide) (by decide) (Nat.le_of_ble_eq_true rfl) d_Sh_init_22) ?_
  refine VC_putR X 3 3 rfl ji3 jk3 jn3 (by decide) (by decide) (by decide) rfl hin rfl (ty := .object "MistletoeCourt$Row") (by decide +kernel) rfl rfl fc_Sh_20 d_Sh_init_25 (by decide) (by decide) rfl (by decide) rfl ?_
  refine VC_aload_n X 0 d_Sh_init_28 rfl ?_
  refine VC_new X 9 rfl ji9 jk9 rfl df_9 cl_Sh_9 in_9 iz_9 d_Sh_init_29 (by decide) rfl (by decide) (fresh_set (fresh_set (fresh_mono (N' := 10) (fresh_mono (N' := 9) (fresh_set (fresh_set (fresh_mono (N' := 8) (fresh_mono (N' := 7) hf (by decide)) (by decide)) (by decide)) (by decide)) (by decide)) (by decide)) (by decide)) (by decide)) (by decide) (by decide) ?_
  refine VC_dup X d_Sh_init_32 rfl ?_
  refine VC_bipush (v := 7) X d_Sh_init_33 (by decide) ?_
  refine VC_call X (VC_run X [Value.int 7] mt_Rw_init ms_Rw_init ml_Sh_11 (k_Rw_init (setS (setS (setS (setS S 6 0) 5 2) 8 0) 5 3) 10 7 7 (by decide) (by decide) (by decide) (by decide) (by decide) (by decide)) rfl rfl rfl (by decide) (by decide) (by decide) (Nat.le_of_ble_eq_true rfl) d_Sh_init_35) ?_
  refine VC_putR X 3 4 rfl ji3 jk3 jn3 (by decide) (by decide) (by decide) rfl hin rfl (ty := .object "MistletoeCourt$Row") (by decide +kernel) rfl rfl fc_Sh_23 d_Sh_init_38 (by decide) (by decide) rfl (by decide) rfl ?_
  refine VC_aload_n X 0 d_Sh_init_41 rfl ?_
  refine VC_new X 9 rfl ji9 jk9 rfl df_9 cl_Sh_9 in_9 iz_9 d_Sh_init_42 (by decide) rfl (by decide) (fresh_set (fresh_set (fresh_mono (N' := 12) (fresh_mono (N' := 11) (fresh_set (fresh_set (fresh_mono (N' := 10) (fresh_mono (N' := 9) (fresh_set (fresh_set (fresh_mono (N' := 8) (fresh_mono (N' := 7) hf (by decide)) (by decide)) (by decide)) (by decide)) (by decide)) (by decide)) (by decide)) (by decide)) (by decide)) (by decide)) (by decide)) (by decide)) (by decide) (by decide) ?_
  refine VC_dup X d_Sh_init_45 rfl ?_
  refine VC_bipush (v := 7) X d_Sh_init_46 (by decide) ?_
  refine VC_call X (VC_run X [Value.int 7] mt_Rw_init ms_Rw_init ml_Sh_11 (k_Rw_init (setS (setS (setS (setS (setS (setS S 6 0) 5 2) 8 0) 5 3) 10 0) 5 4) 12 7 7 (by decide) (by decide) (by decide) (by decide) (by decide) (by decide)) rfl rfl rfl (by decide) (by decide) (by decide) (Nat.le_of_ble_eq_true rfl) d_Sh_init_48) ?_
  refine VC_putR X 3 5 rfl ji3 jk3 jn3 (by decide) (by decide) (by decide) rfl hin rfl (ty := .object "MistletoeCourt$Row") (by decide +kernel) rfl rfl fc_Sh_26 d_Sh_init_51 (by decide) (by decide) rfl (by decide) rfl ?_
  refine VC_aload_n X 0 d_Sh_init_54 rfl ?_
  refine VC_new X 9 rfl ji9 jk9 rfl df_9 cl_Sh_9 in_9 iz_9 d_Sh_init_55 (by decide) rfl (by decide) (fresh_set (fresh_set (fresh_mono (N' := 14) (fresh_mono (N' := 13) (fresh_set (fresh_set (fresh_mono (N' := 12) (fresh_mono (N' := 11) (fresh_set (fresh_set (fresh_mono (N' := 10) (fresh_mono (N' := 9) (fresh_set (fresh_set (fresh_mono (N' := 8) (fresh_mono (N' := 7) hf (by decide)) (by decide)) (by decide)) (by decide)) (by decide)) (by decide)) (by decide)) (by decide)) (by decide)) (by decide)) (by decide)) (by decide)) (by decide)) (by decide)) (by decide)) (by decide)) (by decide) (by decide) ?_
  refine VC_dup X d_Sh_init_58 rfl ?_
  refine VC_bipush (v := 7) X d_Sh_init_59 (by decide) ?_
  refine VC_call X (VC_run X [Value.int 7] mt_Rw_init ms_Rw_init ml_Sh_11 (k_Rw_init (setS (setS (setS (setS (setS (setS (setS (setS S 6 0) 5 2) 8 0) 5 3) 10 0) 5 4) 12 0) 5 5) 14 7 7 (by decide) (by decide) (by decide) (by decide) (by decide) (by decide)) rfl rfl rfl (by decide) (by decide) (by decide) (Nat.le_of_ble_eq_true rfl) d_Sh_init_61) ?_
  refine VC_putR X 3 6 rfl ji3 jk3 jn3 (by decide) (by decide) (by decide) rfl hin rfl (ty := .object "MistletoeCourt$Row") (by decide +kernel) rfl rfl fc_Sh_29 d_Sh_init_64 (by decide) (by decide) rfl (by decide) rfl ?_
  refine VC_aload_n X 0 d_Sh_init_67 rfl ?_
  refine VC_new X 9 rfl ji9 jk9 rfl df_9 cl_Sh_9 in_9 iz_9 d_Sh_init_68 (by decide) rfl (by decide) (fresh_set (fresh_set (fresh_mono (N' := 16) (fresh_mono (N' := 15) (fresh_set (fresh_set (fresh_mono (N' := 14) (fresh_mono (N' := 13) (fresh_set (fresh_set (fresh_mono (N' := 12) (fresh_mono (N' := 11) (fresh_set (fresh_set (fresh_mono (N' := 10) (fresh_mono (N' := 9) (fresh_set (fresh_set (fresh_mono (N' := 8) (fresh_mono (N' := 7) hf (by decide)) (by decide)) (by decide)) (by decide)) (by decide)) (by decide)) (by decide)) (by decide)) (by decide)) (by decide)) (by decide)) (by decide)) (by decide)) (by decide)) (by decide)) (by decide)) (by decide)) (by decide)) (by decide)) (by decide)) (by decide) (by decide) ?_
  refine VC_dup X d_Sh_init_71 rfl ?_
  refine VC_bipush (v := 7) X d_Sh_init_72 (by decide) ?_
  refine VC_call X (VC_run X [Value.int 7] mt_Rw_init ms_Rw_init ml_Sh_11 (k_Rw_init (setS (setS (setS (setS (setS (setS (setS (setS (setS (setS S 6 0) 5 2) 8 0) 5 3) 10 0) 5 4) 12 0) 5 5) 14 0) 5 6) 16 7 7 (by decide) (by decide) (by decide) (by decide) (by decide) (by decide)) rfl rfl rfl (by decide) (by decide) (by decide) (Nat.le_of_ble_eq_true rfl) d_Sh_init_74) ?_
  refine VC_putR X 3 7 rfl ji3 jk3 jn3 (by decide) (by decide) (by decide) rfl hin rfl (ty := .object "MistletoeCourt$Row") (by decide +kernel) rfl rfl fc_Sh_32 d_Sh_init_77 (by decide) (by decide) rfl (by decide) rfl ?_
  refine VC_aload_n X 0 d_Sh_init_80 rfl ?_
  refine VC_new X 9 rfl ji9 jk9 rfl df_9 cl_Sh_9 in_9 iz_9 d_Sh_init_81 (by decide) rfl (by decide) (fresh_set (fresh_set (fresh_mono (N' := 18) (fresh_mono (N' := 17) (fresh_set (fresh_set (fresh_mono (N' := 16) (fresh_mono (N' := 15) (fresh_set (fresh_set (fresh_mono (N' := 14) (fresh_mono (N' := 13) (fresh_set (fresh_set (fresh_mono (N' := 12) (fresh_mono (N' := 11) (fresh_set (fresh_set (fresh_mono (N' := 10) (fresh_mono (N' := 9) (fresh_set (fresh_set (fresh_mono (N' := 8) (fresh_mono (N' := 7) hf (by decide)) (by decide)) (by decide)) (by decide)) (by decide)) (by decide)) (by decide)) (by decide)) (by decide)) (by decide)) (by decide)) (by decide)) (by decide)) (by decide)) (by decide)) (by decide)) (by decide)) (by decide)) (by decide)) (by decide)) (by decide)) (by decide)) (by decide)) (by decide)) (by decide) (by decide) ?_
  refine VC_dup X d_Sh_init_84 rfl ?_
  refine VC_bipush (v := 7) X d_Sh_init_85 (by decide) ?_
  refine VC_call X (VC_run X [Value.int 7] mt_Rw_init ms_Rw_init ml_Sh_11 (k_Rw_init (setS (setS (setS (setS (setS (setS (setS (setS (setS (setS (setS (setS S 6 0) 5 2) 8 0) 5 3) 10 0) 5 4) 12 0) 5 5) 14 0) 5 6) 16 0) 5 7) 18 7 7 (by decide) (by decide) (by decide) (by decide) (by decide) (by decide)) rfl rfl rfl (by decide) (by decide) (by decide) (Nat.le_of_ble_eq_true rfl) d_Sh_init_87) ?_
  refine VC_putR X 3 8 rfl ji3 jk3 jn3 (by decide) (by decide) (by decide) rfl hin rfl (ty := .object "MistletoeCourt$Row") (by decide +kernel) rfl rfl fc_Sh_35 d_Sh_init_90 (by decide) (by decide) rfl (by decide) rfl ?_
  refine VC_aload_n X 0 d_Sh_init_93 rfl ?_
  refine VC_new X 9 rfl ji9 jk9 rfl df_9 cl_Sh_9 in_9 iz_9 d_Sh_init_94 (by decide) rfl (by decide) (fresh_set (fresh_set (fresh_mono (N' := 20) (fresh_mono (N' := 19) (fresh_set (fresh_set (fresh_mono (N' := 18) (fresh_mono (N' := 17) (fresh_set (fresh_set (fresh_mono (N' := 16) (fresh_mono (N' := 15) (fresh_set (fresh_set (fresh_mono (N' := 14) (fresh_mono (N' := 13) (fresh_set (fresh_set (fresh_mono (N' := 12) (fresh_mono (N' := 11) (fresh_set (fresh_set (fresh_mono (N' := 10) (fresh_mono (N' := 9) (fresh_set (fresh_set (fresh_mono (N' := 8) (fresh_mono (N' := 7) hf (by decide)) (by decide)) (by decide)) (by decide)) (by decide)) (by decide)) (by decide)) (by decide)) (by decide)) (by decide)) (by decide)) (by decide)) (by decide)) (by decide)) (by decide)) (by decide)) (by decide)) (by decide)) (by decide)) (by decide)) (by decide)) (by decide)) (by decide)) (by decide)) (by decide)) (by decide)) (by decide)) (by decide)) (by decide) (by decide) ?_
  refine VC_dup X d_Sh_init_97 rfl ?_
  refine VC_bipush (v := 7) X d_Sh_init_98 (by decide) ?_
  refine VC_call X (VC_run X [Value.int 7] mt_Rw_init ms_Rw_init ml_Sh_11 (k_Rw_init (setS (setS (setS (setS (setS (setS (setS (setS (setS (setS (setS (setS (setS (setS S 6 0) 5 2) 8 0) 5 3) 10 0) 5 4) 12 0) 5 5) 14 0) 5 6) 16 0) 5 7) 18 0) 5 8) 20 7 7 (by decide) (by decide) (by decide) (by decide) (by decide) (by decide)) rfl rfl rfl (by decide) (by decide) (by decide) (Nat.le_of_ble_eq_true rfl) d_Sh_init_100) ?_
  refine VC_putR X 3 9 rfl ji3 jk3 jn3 (by decide) (by decide) (by decide) rfl hin rfl (ty := .object "MistletoeCourt$Row") (by decide +kernel) rfl rfl fc_Sh_38 d_Sh_init_103 (by decide) (by decide) rfl (by decide) rfl ?_
  refine VC_aload_n X 0 d_Sh_init_106 rfl ?_
  refine VC_new X 4 rfl ji4 jk4 rfl df_4 cl_Sh_41 in_4 iz_4 d_Sh_init_107 (by decide) rfl (by decide) (fresh_set (fresh_set (fresh_mono (N' := 22) (fresh_mono (N' := 21) (fresh_set (fresh_set (fresh_mono (N' := 20) (fresh_mono (N' := 19) (fresh_set (fresh_set (fresh_mono (N' := 18) (fresh_mono (N' := 17) (fresh_set (fresh_set (fresh_mono (N' := 16) (fresh_mono (N' := 15) (fresh_set (fresh_set (fresh_mono (N' := 14) (fresh_mono (N' := 13) (fresh_set (fresh_set (fresh_mono (N' := 12) (fresh_mono (N' := 11) (fresh_set (fresh_set (fresh_mono (N' := 10) (fresh_mono (N' := 9) (fresh_set (fresh_set (fresh_mono (N' := 8) (fresh_mono (N' := 7) hf (by decide)) (by decide)) (by decide)) (by decide)) (by decide)) (by decide)) (by decide)) (by decide)) (by decide)) (by decide)) (by decide)) (by decide)) (by decide)) (by decide)) (by decide)) (by decide)) (by decide)) (by decide)) (by decide)) (by decide)) (by decide)) (by decide)) (by decide)) (by decide)) (by decide)) (by decide)) (by decide)) (by decide)) (by decide)) (by decide)) (by decide)) (by decide)) (by decide) (by decide) ?_
  refine VC_dup X d_Sh_init_110 rfl ?_
  refine VC_call X (VC_runN X [] mt_Si_init ms_Si_init mn_Sh_43 (k_Si_init_22 (setS (setS (setS (setS (setS (setS (setS (setS (setS (setS (setS (setS (setS (setS (setS (setS S 6 0) 5 2) 8 0) 5 3) 10 0) 5 4) 12 0) 5 5) 14 0) 5 6) 16 0) 5 7) 18 0) 5 8) 20 0) 5 9) (fresh_mono (N' := 23) (fresh_set (fresh_set (fresh_mono (N' := 22) (fresh_mono (N' := 21) (fresh_set (fresh_set (fresh_mono (N' := 20) (fresh_mono (N' := 19) (fresh_set (fresh_set (fresh_mono (N' := 18) (fresh_mono (N' := 17) (fresh_set (fresh_set (fresh_mono (N' := 16) (fresh_mono (N' := 15) (fresh_set (fresh_set (fresh_mono (N' := 14) (fresh_mono (N' := 13) (fresh_set (fresh_set (fresh_mono (N' := 12) (fresh_mono (N' := 11) (fresh_set (fresh_set (fresh_mono (N' := 10) (fresh_mono (N' := 9) (fresh_set (fresh_set (fresh_mono (N' := 8) (fresh_mono (N' := 7) hf (by decide)) (by decide)) (by decide)) (by decide)) (by decide)) (by decide)) (by decide)) (by decide)) (by decide)) (by decide)) (by decide)) (by decide)) (by decide)) (by decide)) (by decide)) (by decide)) (by decide)) (by decide)) (by decide)) (by decide)) (by decide)) (by decide)) (by decide)) (by decide)) (by decide)) (by decide)) (by decide)) (by decide)) (by decide)) (by decide)) (by decide)) (by decide)) (by decide))) rfl rfl rfl (by decide) (by decide) (by decide) (Nat.le_of_ble_eq_true rfl) d_Sh_init_111) ?_
  refine VC_putR X 3 10 rfl ji3 jk3 jn3 (by decide) (by decide) (by decide) rfl hin rfl (ty := .object "MistletoeCourt$Sightings") (by decide +kernel) rfl rfl fc_Sh_44 d_Sh_init_114 (by decide) (by decide) rfl (by decide) rfl ?_
  exact VC_widen (by decide) (by decide) (hQ _ _ d_Sh_init_117)
def S_Si_init_46 (S : Nat → Nat → Bool) : Nat → Nat → Bool := setS (setS (setS (setS (setS (setS S 47 0) 46 0) 49 0) 46 1) 51 0) 46 2
theorem f_Si_init_46 {S : Nat → Nat → Bool} (hf : fresh S 47) : fresh (S_Si_init_46 S) 53 := (fresh_set (fresh_set (fresh_mono (N' := 53) (fresh_mono (N' := 52) (fresh_set (fresh_set (fresh_mono (N' := 51) (fresh_mono (N' := 50) (fresh_set (fresh_set (fresh_mono (N' := 49) (fresh_mono (N' := 48) hf (by decide)) (by decide)) (by decide)) (by decide)) (by decide)) (by decide)) (by decide)) (by decide)) (by decide)) (by decide)) (by decide)) (by decide))
set_option maxHeartbeats 4000000 in
set_option maxRecDepth 100000 in
theorem k_Si_init_46 (S : Nat → Nat → Bool) (hf : fresh S 47) : EvC y_Si_init prog_11_method_1_code 1 2 6 27 (fun ad => [Value.ref (ad 46)]) 47 53 S (S_Si_init_46 S) := by
  refine EvC_of (by decide) rfl (fun ad => Nat.le_of_ble_eq_true rfl) (fun p l e R s m args below meth c D ad cI cB z0 Q X hin hQ => ?_)
  have X : CC p R s m args meth c jR4 prog_11_method_1_code 1 2 D ad cI cB z0 6 27 := X
  refine VC_sub (lv' := [(0, Value.ref (ad 46))]) [0] rfl ?_
  refine VC_aload_n X 0 d_Si_init_0 rfl ?_
  refine VC_objInit X ml_Si_3 d_Si_init_1 (by decide) oi_i oi_c ?_
  refine VC_aload_n X 0 d_Si_init_4 rfl ?_
  refine VC_new X 9 rfl ji9 jk9 rfl df_9 cl_Si_9 in_9 iz_9 d_Si_init_5 (by decide) rfl (by decide) hf (by decide) (by decide) ?_
  refine VC_dup X d_Si_init_8 rfl ?_
  refine VC_bipush (v := 8) X d_Si_init_9 (by decide) ?_
  refine VC_call X (VC_run X [Value.int 8] mt_Rw_init ms_Rw_init ml_Si_11 (k_Rw_init S 47 8 8 (by decide) (by decide) (by decide) (by decide) (by decide) (by decide)) rfl rfl rfl (by decide) (by decide) (by decide) (Nat.le_of_ble_eq_true rfl) d_Si_init_11) ?_
  refine VC_putR X 4 0 rfl ji4 jk4 jn4 (by decide) (by decide) (by decide) rfl hin rfl (ty := .object "MistletoeCourt$Row") (by decide +kernel) rfl rfl fc_Si_14 d_Si_init_14 (by decide) (by decide) rfl (by decide) rfl ?_
  refine VC_aload_n X 0 d_Si_init_17 rfl ?_
  refine VC_new X 9 rfl ji9 jk9 rfl df_9 cl_Si_9 in_9 iz_9 d_Si_init_18 (by decide) rfl (by decide) (fresh_set (fresh_set (fresh_mono (N' := 49) (fresh_mono (N' := 48) hf (by decide)) (by decide)) (by decide)) (by decide)) (by decide) (by decide) ?_
  refine VC_dup X d_Si_init_21 rfl ?_
  refine VC_bipush (v := 8) X d_Si_init_22 (by decide) ?_
  refine VC_call X (VC_run X [Value.int 8] mt_Rw_init ms_Rw_init ml_Si_11 (k_Rw_init (setS (setS S 47 0) 46 0) 49 8 8 (by decide) (by decide) (by decide) (by decide) (by decide) (by decide)) rfl rfl rfl (by decide) (by decide) (by decide) (Nat.le_of_ble_eq_true rfl) d_Si_init_24) ?_
  refine VC_putR X 4 1 rfl ji4 jk4 jn4 (by decide) (by decide) (by decide) rfl hin rfl (ty := .object "MistletoeCourt$Row") (by decide +kernel) rfl rfl fc_Si_20 d_Si_init_27 (by decide) (by decide) rfl (by decide) rfl ?_
  refine VC_aload_n X 0 d_Si_init_30 rfl ?_
  refine VC_new X 9 rfl ji9 jk9 rfl df_9 cl_Si_9 in_9 iz_9 d_Si_init_31 (by decide) rfl (by decide) (fresh_set (fresh_set (fresh_mono (N' := 51) (fresh_mono (N' := 50) (fresh_set (fresh_set (fresh_mono (N' := 49) (fresh_mono (N' := 48) hf (by decide)) (by decide)) (by decide)) (by decide)) (by decide)) (by decide)) (by decide)) (by decide)) (by decide) (by decide) ?_
  refine VC_dup X d_Si_init_34 rfl ?_
  refine VC_bipush (v := 8) X d_Si_init_35 (by decide) ?_
  refine VC_call X (VC_run X [Value.int 8] mt_Rw_init ms_Rw_init ml_Si_11 (k_Rw_init (setS (setS (setS (setS S 47 0) 46 0) 49 0) 46 1) 51 8 8 (by decide) (by decide) (by decide) (by decide) (by decide) (by decide)) rfl rfl rfl (by decide) (by decide) (by decide) (Nat.le_of_ble_eq_true rfl) d_Si_init_37) ?_
  refine VC_putR X 4 2 rfl ji4 jk4 jn4 (by decide) (by decide) (by decide) rfl hin rfl (ty := .object "MistletoeCourt$Row") (by decide +kernel) rfl rfl fc_Si_23 d_Si_init_40 (by decide) (by decide) rfl (by decide) rfl ?_
  exact VC_widen (by decide) (by decide) (hQ _ _ d_Si_init_43)
def S_Sh_init_29 (S : Nat → Nat → Bool) : Nat → Nat → Bool := setS (S_Si_init_46 (setS (setS (setS (setS (setS (setS (setS (setS (setS (setS (setS (setS (setS (setS (setS (setS S 30 0) 29 2) 32 0) 29 3) 34 0) 29 4) 36 0) 29 5) 38 0) 29 6) 40 0) 29 7) 42 0) 29 8) 44 0) 29 9)) 29 10
theorem f_Sh_init_29 {S : Nat → Nat → Bool} (hf : fresh S 30) : fresh (S_Sh_init_29 S) 53 := (fresh_set (f_Si_init_46 (fresh_mono (N' := 47) (fresh_set (fresh_set (fresh_mono (N' := 46) (fresh_mono (N' := 45) (fresh_set (fresh_set (fresh_mono (N' := 44) (fresh_mono (N' := 43) (fresh_set (fresh_set (fresh_mono (N' := 42) (fresh_mono (N' := 41) (fresh_set (fresh_set (fresh_mono (N' := 40) (fresh_mono (N' := 39) (fresh_set (fresh_set (fresh_mono (N' := 38) (fresh_mono (N' := 37) (fresh_set (fresh_set (fresh_mono (N' := 36) (fresh_mono (N' := 35) (fresh_set (fresh_set (fresh_mono (N' := 34) (fresh_mono (N' := 33) (fresh_set (fresh_set (fresh_mono (N' := 32) (fresh_mono (N' := 31) hf (by decide)) (by decide)) (by decide)) (by decide)) (by decide)) (by decide)) (by decide)) (by decide)) (by decide)) (by decide)) (by decide)) (by decide)) (by decide)) (by decide)) (by decide)) (by decide)) (by decide)) (by decide)) (by decide)) (by decide)) (by decide)) (by decide)) (by decide)) (by decide)) (by decide)) (by decide)) (by decide)) (by decide)) (by decide)) (by decide)) (by decide)) (by decide)) (by decide))) (by decide))
set_option maxHeartbeats 4000000 in
set_option maxRecDepth 100000 in
theorem k_Sh_init_29 (S : Nat → Nat → Bool) (hf : fresh S 30) : EvC y_Sh_init prog_10_method_1_code 1 3 23 87 (fun ad => [Value.ref (ad 29)]) 30 53 S (S_Sh_init_29 S) := by
  refine EvC_of (by decide) rfl (fun ad => Nat.le_of_ble_eq_true rfl) (fun p l e R s m args below meth c D ad cI cB z0 Q X hin hQ => ?_)
  have X : CC p R s m args meth c jR3 prog_10_method_1_code 1 3 D ad cI cB z0 23 87 := X
  refine VC_sub (lv' := [(0, Value.ref (ad 29))]) [0] rfl ?_
  refine VC_aload_n X 0 d_Sh_init_0 rfl ?_
  refine VC_objInit X ml_Sh_3 d_Sh_init_1 (by decide) oi_i oi_c ?_
  refine VC_aload_n X 0 d_Sh_init_4 rfl ?_
  refine VC_new X 9 rfl ji9 jk9 rfl df_9 cl_Sh_9 in_9 iz_9 d_Sh_init_5 (by decide) rfl (by decide) hf (by decide) (by decide) ?_
  refine VC_dup X d_Sh_init_8 rfl ?_
  refine VC_iconst (v := 3) X d_Sh_init_9 (by decide) ?_
  refine VC_call X (VC_run X [Value.int 3] mt_Rw_init ms_Rw_init ml_Sh_11 (k_Rw_init S 30 3 3 (by decide) (by decide) (by decide) (by decide) (by decide) (by decide)) rfl rfl rfl (by decide) (by decide) (by decide) (Nat.le_of_ble_eq_true rfl) d_Sh_init_10) ?_
  refine VC_putR X 3 2 rfl ji3 jk3 jn3 (by decide) (by decide) (by decide) rfl hin rfl (ty := .object "MistletoeCourt$Row") (by decide +kernel) rfl rfl fc_Sh_14 d_Sh_init_13 (by decide) (by decide) rfl (by decide) rfl ?_
  refine VC_aload_n X 0 d_Sh_init_16 rfl ?_
  refine VC_new X 9 rfl ji9 jk9 rfl df_9 cl_Sh_9 in_9 iz_9 d_Sh_init_17 (by decide) rfl (by decide) (fresh_set (fresh_set (fresh_mono (N' := 32) (fresh_mono (N' := 31) hf (by decide)) (by decide)) (by decide)) (by decide)) (by decide) (by decide) ?_
  refine VC_dup X d_Sh_init_20 rfl ?_
  refine VC_iconst (v := 3) X d_Sh_init_21 (by decide) ?_
  refine VC_call X (VC_run X [Value.int 3] mt_Rw_init ms_Rw_init ml_Sh_11 (k_Rw_init (setS (setS S 30 0) 29 2) 32 3 3 (by decide) (by decide) (by decide) (by decide) (by decide) (by decide)) rfl rfl rfl (by decide) (by decide) (by decide) (Nat.le_of_ble_eq_true rfl) d_Sh_init_22) ?_
  refine VC_putR X 3 3 rfl ji3 jk3 jn3 (by decide) (by decide) (by decide) rfl hin rfl (ty := .object "MistletoeCourt$Row") (by decide +kernel) rfl rfl fc_Sh_20 d_Sh_init_25 (by decide) (by decide) rfl (by decide) rfl ?_
  refine VC_aload_n X 0 d_Sh_init_28 rfl ?_
  refine VC_new X 9 rfl ji9 jk9 rfl df_9 cl_Sh_9 in_9 iz_9 d_Sh_init_29 (by decide) rfl (by decide) (fresh_set (fresh_set (fresh_mono (N' := 34) (fresh_mono (N' := 33) (fresh_set (fresh_set (fresh_mono (N' := 32) (fresh_mono (N' := 31) hf (by decide)) (by decide)) (by decide)) (by decide)) (by decide)) (by decide)) (by decide)) (by decide)) (by decide) (by decide) ?_
  refine VC_dup X d_Sh_init_32 rfl ?_
  refine VC_bipush (v := 7) X d_Sh_init_33 (by decide) ?_
  refine VC_call X (VC_run X [Value.int 7] mt_Rw_init ms_Rw_init ml_Sh_11 (k_Rw_init (setS (setS (setS (setS S 30 0) 29 2) 32 0) 29 3) 34 7 7 (by decide) (by decide) (by decide) (by decide) (by decide) (by decide)) rfl rfl rfl (by decide) (by decide) (by decide) (Nat.le_of_ble_eq_true rfl) d_Sh_init_35) ?_
  refine VC_putR X 3 4 rfl ji3 jk3 jn3 (by decide) (by decide) (by decide) rfl hin rfl (ty := .object "MistletoeCourt$Row") (by decide +kernel) rfl rfl fc_Sh_23 d_Sh_init_38 (by decide) (by decide) rfl (by decide) rfl ?_
  refine VC_aload_n X 0 d_Sh_init_41 rfl ?_
  refine VC_new X 9 rfl ji9 jk9 rfl df_9 cl_Sh_9 in_9 iz_9 d_Sh_init_42 (by decide) rfl (by decide) (fresh_set (fresh_set (fresh_mono (N' := 36) (fresh_mono (N' := 35) (fresh_set (fresh_set (fresh_mono (N' := 34) (fresh_mono (N' := 33) (fresh_set (fresh_set (fresh_mono (N' := 32) (fresh_mono (N' := 31) hf (by decide)) (by decide)) (by decide)) (by decide)) (by decide)) (by decide)) (by decide)) (by decide)) (by decide)) (by decide)) (by decide)) (by decide)) (by decide) (by decide) ?_
  refine VC_dup X d_Sh_init_45 rfl ?_
  refine VC_bipush (v := 7) X d_Sh_init_46 (by decide) ?_
  refine VC_call X (VC_run X [Value.int 7] mt_Rw_init ms_Rw_init ml_Sh_11 (k_Rw_init (setS (setS (setS (setS (setS (setS S 30 0) 29 2) 32 0) 29 3) 34 0) 29 4) 36 7 7 (by decide) (by decide) (by decide) (by decide) (by decide) (by decide)) rfl rfl rfl (by decide) (by decide) (by decide) (Nat.le_of_ble_eq_true rfl) d_Sh_init_48) ?_
  refine VC_putR X 3 5 rfl ji3 jk3 jn3 (by decide) (by decide) (by decide) rfl hin rfl (ty := .object "MistletoeCourt$Row") (by decide +kernel) rfl rfl fc_Sh_26 d_Sh_init_51 (by decide) (by decide) rfl (by decide) rfl ?_
  refine VC_aload_n X 0 d_Sh_init_54 rfl ?_
  refine VC_new X 9 rfl ji9 jk9 rfl df_9 cl_Sh_9 in_9 iz_9 d_Sh_init_55 (by decide) rfl (by decide) (fresh_set (fresh_set (fresh_mono (N' := 38) (fresh_mono (N' := 37) (fresh_set (fresh_set (fresh_mono (N' := 36) (fresh_mono (N' := 35) (fresh_set (fresh_set (fresh_mono (N' := 34) (fresh_mono (N' := 33) (fresh_set (fresh_set (fresh_mono (N' := 32) (fresh_mono (N' := 31) hf (by decide)) (by decide)) (by decide)) (by decide)) (by decide)) (by decide)) (by decide)) (by decide)) (by decide)) (by decide)) (by decide)) (by decide)) (by decide)) (by decide)) (by decide)) (by decide)) (by decide) (by decide) ?_
  refine VC_dup X d_Sh_init_58 rfl ?_
  refine VC_bipush (v := 7) X d_Sh_init_59 (by decide) ?_
  refine VC_call X (VC_run X [Value.int 7] mt_Rw_init ms_Rw_init ml_Sh_11 (k_Rw_init (setS (setS (setS (setS (setS (setS (setS (setS S 30 0) 29 2) 32 0) 29 3) 34 0) 29 4) 36 0) 29 5) 38 7 7 (by decide) (by decide) (by decide) (by decide) (by decide) (by decide)) rfl rfl rfl (by decide) (by decide) (by decide) (Nat.le_of_ble_eq_true rfl) d_Sh_init_61) ?_
  refine VC_putR X 3 6 rfl ji3 jk3 jn3 (by decide) (by decide) (by decide) rfl hin rfl (ty := .object "MistletoeCourt$Row") (by decide +kernel) rfl rfl fc_Sh_29 d_Sh_init_64 (by decide) (by decide) rfl (by decide) rfl ?_
  refine VC_aload_n X 0 d_Sh_init_67 rfl ?_
  refine VC_new X 9 rfl ji9 jk9 rfl df_9 cl_Sh_9 in_9 iz_9 d_Sh_init_68 (by decide) rfl (by decide) (fresh_set (fresh_set (fresh_mono (N' := 40) (fresh_mono (N' := 39) (fresh_set (fresh_set (fresh_mono (N' := 38) (fresh_mono (N' := 37) (fresh_set (fresh_set (fresh_mono (N' := 36) (fresh_mono (N' := 35) (fresh_set (fresh_set (fresh_mono (N' := 34) (fresh_mono (N' := 33) (fresh_set (fresh_set (fresh_mono (N' := 32) (fresh_mono (N' := 31) hf (by decide)) (by decide)) (by decide)) (by decide)) (by decide)) (by decide)) (by decide)) (by decide)) (by decide)) (by decide)) (by decide)) (by decide)) (by decide)) (by decide)) (by decide)) (by decide)) (by decide)) (by decide)) (by decide)) (by decide)) (by decide) (by decide) ?_
  refine VC_dup X d_Sh_init_71 rfl ?_
  refine VC_bipush (v := 7) X d_Sh_init_72 (by decide) ?_
  refine VC_call X (VC_run X [Value.int 7] mt_Rw_init ms_Rw_init ml_Sh_11 (k_Rw_init (setS (setS (setS (setS (setS (setS (setS (setS (setS (setS S 30 0) 29 2) 32 0) 29 3) 34 0) 29 4) 36 0) 29 5) 38 0) 29 6) 40 7 7 (by decide) (by decide) (by decide) (by decide) (by decide) (by decide)) rfl rfl rfl (by decide) (by decide) (by decide) (Nat.le_of_ble_eq_true rfl) d_Sh_init_74) ?_
  refine VC_putR X 3 7 rfl ji3 jk3 jn3 (by decide) (by decide) (by decide) rfl hin rfl (ty := .object "MistletoeCourt$Row") (by decide +kernel) rfl rfl fc_Sh_32 d_Sh_init_77 (by decide) (by decide) rfl (by decide) rfl ?_
  refine VC_aload_n X 0 d_Sh_init_80 rfl ?_
  refine VC_new X 9 rfl ji9 jk9 rfl df_9 cl_Sh_9 in_9 iz_9 d_Sh_init_81 (by decide) rfl (by decide) (fresh_set (fresh_set (fresh_mono (N' := 42) (fresh_mono (N' := 41) (fresh_set (fresh_set (fresh_mono (N' := 40) (fresh_mono (N' := 39) (fresh_set (fresh_set (fresh_mono (N' := 38) (fresh_mono (N' := 37) (fresh_set (fresh_set (fresh_mono (N' := 36) (fresh_mono (N' := 35) (fresh_set (fresh_set (fresh_mono (N' := 34) (fresh_mono (N' := 33) (fresh_set (fresh_set (fresh_mono (N' := 32) (fresh_mono (N' := 31) hf (by decide)) (by decide)) (by decide)) (by decide)) (by decide)) (by decide)) (by decide)) (by decide)) (by decide)) (by decide)) (by decide)) (by decide)) (by decide)) (by decide)) (by decide)) (by decide)) (by decide)) (by decide)) (by decide)) (by decide)) (by decide)) (by decide)) (by decide)) (by decide)) (by decide) (by decide) ?_
  refine VC_dup X d_Sh_init_84 rfl ?_
  refine VC_bipush (v := 7) X d_Sh_init_85 (by decide) ?_
  refine VC_call X (VC_run X [Value.int 7] mt_Rw_init ms_Rw_init ml_Sh_11 (k_Rw_init (setS (setS (setS (setS (setS (setS (setS (setS (setS (setS (setS (setS S 30 0) 29 2) 32 0) 29 3) 34 0) 29 4) 36 0) 29 5) 38 0) 29 6) 40 0) 29 7) 42 7 7 (by decide) (by decide) (by decide) (by decide) (by decide) (by decide)) rfl rfl rfl (by decide) (by decide) (by decide) (Nat.le_of_ble_eq_true rfl) d_Sh_init_87) ?_
  refine VC_putR X 3 8 rfl ji3 jk3 jn3 (by decide) (by decide) (by decide) rfl hin rfl (ty := .object "MistletoeCourt$Row") (by decide +kernel) rfl rfl fc_Sh_35 d_Sh_init_90 (by decide) (by decide) rfl (by decide) rfl ?_
  refine VC_aload_n X 0 d_Sh_init_93 rfl ?_
  refine VC_new X 9 rfl ji9 jk9 rfl df_9 cl_Sh_9 in_9 iz_9 d_Sh_init_94 (by decide) rfl (by decide) (fresh_set (fresh_set (fresh_mono (N' := 44) (fresh_mono (N' := 43) (fresh_set (fresh_set (fresh_mono (N' := 42) (fresh_mono (N' := 41) (fresh_set (fresh_set (fresh_mono (N' := 40) (fresh_mono (N' := 39) (fresh_set (fresh_set (fresh_mono (N' := 38) (fresh_mono (N' := 37) (fresh_set (fresh_set (fresh_mono (N' := 36) (fresh_mono (N' := 35) (fresh_set (fresh_set (fresh_mono (N' := 34) (fresh_mono (N' := 33) (fresh_set (fresh_set (fresh_mono (N' := 32) (fresh_mono (N' := 31) hf (by decide)) (by decide)) (by decide)) (by decide)) (by decide)) (by decide)) (by decide)) (by decide)) (by decide)) (by decide)) (by decide)) (by decide)) (by decide)) (by decide)) (by decide)) (by decide)) (by decide)) (by decide)) (by decide)) (by decide)) (by decide)) (by decide)) (by decide)) (by decide)) (by decide)) (by decide)) (by decide)) (by decide)) (by decide) (by decide) ?_
  refine VC_dup X d_Sh_init_97 rfl ?_
  refine VC_bipush (v := 7) X d_Sh_init_98 (by decide) ?_
  refine VC_call X (VC_run X [Value.int 7] mt_Rw_init ms_Rw_init ml_Sh_11 (k_Rw_init (setS (setS (setS (setS (setS (setS (setS (setS (setS (setS (setS (setS (setS (setS S 30 0) 29 2) 32 0) 29 3) 34 0) 29 4) 36 0) 29 5) 38 0) 29 6) 40 0) 29 7) 42 0) 29 8) 44 7 7 (by decide) (by decide) (by decide) (by decide) (by decide) (by decide)) rfl rfl rfl (by decide) (by decide) (by decide) (Nat.le_of_ble_eq_true rfl) d_Sh_init_100) ?_
  refine VC_putR X 3 9 rfl ji3 jk3 jn3 (by decide) (by decide) (by decide) rfl hin rfl (ty := .object "MistletoeCourt$Row") (by decide +kernel) rfl rfl fc_Sh_38 d_Sh_init_103 (by decide) (by decide) rfl (by decide) rfl ?_
  refine VC_aload_n X 0 d_Sh_init_106 rfl ?_
  refine VC_new X 4 rfl ji4 jk4 rfl df_4 cl_Sh_41 in_4 iz_4 d_Sh_init_107 (by decide) rfl (by decide) (fresh_set (fresh_set (fresh_mono (N' := 46) (fresh_mono (N' := 45) (fresh_set (fresh_set (fresh_mono (N' := 44) (fresh_mono (N' := 43) (fresh_set (fresh_set (fresh_mono (N' := 42) (fresh_mono (N' := 41) (fresh_set (fresh_set (fresh_mono (N' := 40) (fresh_mono (N' := 39) (fresh_set (fresh_set (fresh_mono (N' := 38) (fresh_mono (N' := 37) (fresh_set (fresh_set (fresh_mono (N' := 36) (fresh_mono (N' := 35) (fresh_set (fresh_set (fresh_mono (N' := 34) (fresh_mono (N' := 33) (fresh_set (fresh_set (fresh_mono (N' := 32) (fresh_mono (N' := 31) hf (by decide)) (by decide)) (by decide)) (by decide)) (by decide)) (by decide)) (by decide)) (by decide)) (by decide)) (by decide)) (by decide)) (by decide)) (by decide)) (by decide)) (by decide)) (by decide)) (by decide)) (by decide)) (by decide)) (by decide)) (by decide)) (by decide)) (by decide)) (by decide)) (by decide)) (by decide)) (by decide)) (by decide)) (by decide)) (by decide)) (by decide)) (by decide)) (by decide) (by decide) ?_
  refine VC_dup X d_Sh_init_110 rfl ?_
  refine VC_call X (VC_runN X [] mt_Si_init ms_Si_init mn_Sh_43 (k_Si_init_46 (setS (setS (setS (setS (setS (setS (setS (setS (setS (setS (setS (setS (setS (setS (setS (setS S 30 0) 29 2) 32 0) 29 3) 34 0) 29 4) 36 0) 29 5) 38 0) 29 6) 40 0) 29 7) 42 0) 29 8) 44 0) 29 9) (fresh_mono (N' := 47) (fresh_set (fresh_set (fresh_mono (N' := 46) (fresh_mono (N' := 45) (fresh_set (fresh_set (fresh_mono (N' := 44) (fresh_mono (N' := 43) (fresh_set (fresh_set (fresh_mono (N' := 42) (fresh_mono (N' := 41) (fresh_set (fresh_set (fresh_mono (N' := 40) (fresh_mono (N' := 39) (fresh_set (fresh_set (fresh_mono (N' := 38) (fresh_mono (N' := 37) (fresh_set (fresh_set (fresh_mono (N' := 36) (fresh_mono (N' := 35) (fresh_set (fresh_set (fresh_mono (N' := 34) (fresh_mono (N' := 33) (fresh_set (fresh_set (fresh_mono (N' := 32) (fresh_mono (N' := 31) hf (by decide)) (by decide)) (by decide)) (by decide)) (by decide)) (by decide)) (by decide)) (by decide)) (by decide)) (by decide)) (by decide)) (by decide)) (by decide)) (by decide)) (by decide)) (by decide)) (by decide)) (by decide)) (by decide)) (by decide)) (by decide)) (by decide)) (by decide)) (by decide)) (by decide)) (by decide)) (by decide)) (by decide)) (by decide)) (by decide)) (by decide)) (by decide)) (by decide))) rfl rfl rfl (by decide) (by decide) (by decide) (Nat.le_of_ble_eq_true rfl) d_Sh_init_111) ?_
  refine VC_putR X 3 10 rfl ji3 jk3 jn3 (by decide) (by decide) (by decide) rfl hin rfl (ty := .object "MistletoeCourt$Sightings") (by decide +kernel) rfl rfl fc_Sh_44 d_Sh_init_114 (by decide) (by decide) rfl (by decide) rfl ?_
  exact VC_widen (by decide) (by decide) (hQ _ _ d_Sh_init_117)
def S_Gu_init_53 (S : Nat → Nat → Bool) : Nat → Nat → Bool := setS S 53 0
theorem f_Gu_init_53 {S : Nat → Nat → Bool} (hf : fresh S 54) : fresh (S_Gu_init_53 S) 54 := (fresh_set hf (by decide))
set_option maxHeartbeats 4000000 in
set_option maxRecDepth 100000 in
theorem k_Gu_init_53 (S : Nat → Nat → Bool) (hf : fresh S 54) : EvC y_Gu_init prog_5_method_1_code 2 1 0 0 (fun ad => [Value.ref (ad 53), Value.ref (ad 5)]) 54 54 S (S_Gu_init_53 S) := by
  refine EvC_of (by decide) rfl (fun ad => Nat.le_of_ble_eq_true rfl) (fun p l e R s m args below meth c D ad cI cB z0 Q X hin hQ => ?_)
  have X : CC p R s m args meth c jR5 prog_5_method_1_code 2 1 D ad cI cB z0 0 0 := X
  refine VC_sub (lv' := [(0, Value.ref (ad 53)), (1, Value.ref (ad 5))]) [0, 1] rfl ?_
  refine VC_aload_n X 0 d_Gu_init_0 rfl ?_
  refine VC_objInit X ml_Gu_3 d_Gu_init_1 (by decide) oi_i oi_c ?_
  refine VC_aload_n X 0 d_Gu_init_4 rfl ?_
  refine VC_aload_n X 1 d_Gu_init_5 rfl ?_
  refine VC_putR X 5 0 rfl ji5 jk5 jn5 (by decide) (by decide) (by decide) rfl hin rfl (ty := .object "MistletoeCourt$Shire") (by decide +kernel) rfl rfl fc_Gu_9 d_Gu_init_6 (by decide) (by decide) rfl (by decide) rfl ?_
  exact VC_widen (by decide) (by decide) (hQ _ _ d_Gu_init_9)
def S_Pl_init_54 (S : Nat → Nat → Bool) : Nat → Nat → Bool := setS (setS (setS (setS (setS (setS (setS S 55 0) 54 1) 57 0) 54 2) 59 0) 54 3) 54 0
theorem f_Pl_init_54 {S : Nat → Nat → Bool} (hf : fresh S 55) : fresh (S_Pl_init_54 S) 61 := (fresh_set (fresh_set (fresh_set (fresh_mono (N' := 61) (fresh_mono (N' := 60) (fresh_set (fresh_set (fresh_mono (N' := 59) (fresh_mono (N' := 58) (fresh_set (fresh_set (fresh_mono (N' := 57) (fresh_mono (N' := 56) hf (by decide)) (by decide)) (by decide)) (by decide)) (by decide)) (by decide)) (by decide)) (by decide)) (by decide)) (by decide)) (by decide)) (by decide)) (by decide))
set_option maxHeartbeats 4000000 in
set_option maxRecDepth 100000 in
theorem k_Pl_init_54 (S : Nat → Nat → Bool) (hf : fresh S 55) : EvC y_Pl_init prog_7_method_1_code 2 2 6 20 (fun ad => [Value.ref (ad 54), Value.ref (ad 5)]) 55 61 S (S_Pl_init_54 S) := by
  refine EvC_of (by decide) rfl (fun ad => Nat.le_of_ble_eq_true rfl) (fun p l e R s m args below meth c D ad cI cB z0 Q X hin hQ => ?_)
  have X : CC p R s m args meth c jR6 prog_7_method_1_code 2 2 D ad cI cB z0 6 20 := X
  refine VC_sub (lv' := [(0, Value.ref (ad 54)), (1, Value.ref (ad 5))]) [0, 1] rfl ?_
  refine VC_aload_n X 0 d_Pl_init_0 rfl ?_
  refine VC_objInit X ml_Pl_3 d_Pl_init_1 (by decide) oi_i oi_c ?_
  refine VC_aload_n X 0 d_Pl_init_4 rfl ?_
  refine VC_new X 9 rfl ji9 jk9 rfl df_9 cl_Pl_9 in_9 iz_9 d_Pl_init_5 (by decide) rfl (by decide) hf (by decide) (by decide) ?_
  refine VC_dup X d_Pl_init_8 rfl ?_
  refine VC_iconst (v := 3) X d_Pl_init_9 (by decide) ?_
  refine VC_call X (VC_run X [Value.int 3] mt_Rw_init ms_Rw_init ml_Pl_11 (k_Rw_init S 55 3 3 (by decide) (by decide) (by decide) (by decide) (by decide) (by decide)) rfl rfl rfl (by decide) (by decide) (by decide) (Nat.le_of_ble_eq_true rfl) d_Pl_init_10) ?_
  refine VC_putR X 6 1 rfl ji6 jk6 jn6 (by decide) (by decide) (by decide) rfl hin rfl (ty := .object "MistletoeCourt$Row") (by decide +kernel) rfl rfl fc_Pl_14 d_Pl_init_13 (by decide) (by decide) rfl (by decide) rfl ?_
  refine VC_aload_n X 0 d_Pl_init_16 rfl ?_
  refine VC_new X 9 rfl ji9 jk9 rfl df_9 cl_Pl_9 in_9 iz_9 d_Pl_init_17 (by decide) rfl (by decide) (fresh_set (fresh_set (fresh_mono (N' := 57) (fresh_mono (N' := 56) hf (by decide)) (by decide)) (by decide)) (by decide)) (by decide) (by decide) ?_
  refine VC_dup X d_Pl_init_20 rfl ?_
  refine VC_bipush (v := 7) X d_Pl_init_21 (by decide) ?_
  refine VC_call X (VC_run X [Value.int 7] mt_Rw_init ms_Rw_init ml_Pl_11 (k_Rw_init (setS (setS S 55 0) 54 1) 57 7 7 (by decide) (by decide) (by decide) (by decide) (by decide) (by decide)) rfl rfl rfl (by decide) (by decide) (by decide) (Nat.le_of_ble_eq_true rfl) d_Pl_init_23) ?_
  refine VC_putR X 6 2 rfl ji6 jk6 jn6 (by decide) (by decide) (by decide) rfl hin rfl (ty := .object "MistletoeCourt$Row") (by decide +kernel) rfl rfl fc_Pl_20 d_Pl_init_26 (by decide) (by decide) rfl (by decide) rfl ?_
  refine VC_aload_n X 0 d_Pl_init_29 rfl ?_
  refine VC_new X 9 rfl ji9 jk9 rfl df_9 cl_Pl_9 in_9 iz_9 d_Pl_init_30 (by decide) rfl (by decide) (fresh_set (fresh_set (fresh_mono (N' := 59) (fresh_mono (N' := 58) (fresh_set (fresh_set (fresh_mono (N' := 57) (fresh_mono (N' := 56) hf (by decide)) (by decide)) (by decide)) (by decide)) (by decide)) (by decide)) (by decide)) (by decide)) (by decide) (by decide) ?_
  refine VC_dup X d_Pl_init_33 rfl ?_
  refine VC_bipush (v := 7) X d_Pl_init_34 (by decide) ?_
  refine VC_call X (VC_run X [Value.int 7] mt_Rw_init ms_Rw_init ml_Pl_11 (k_Rw_init (setS (setS (setS (setS S 55 0) 54 1) 57 0) 54 2) 59 7 7 (by decide) (by decide) (by decide) (by decide) (by decide) (by decide)) rfl rfl rfl (by decide) (by decide) (by decide) (Nat.le_of_ble_eq_true rfl) d_Pl_init_36) ?_
  refine VC_putR X 6 3 rfl ji6 jk6 jn6 (by decide) (by decide) (by decide) rfl hin rfl (ty := .object "MistletoeCourt$Row") (by decide +kernel) rfl rfl fc_Pl_23 d_Pl_init_39 (by decide) (by decide) rfl (by decide) rfl ?_
  refine VC_aload_n X 0 d_Pl_init_42 rfl ?_
  refine VC_aload_n X 1 d_Pl_init_43 rfl ?_
  refine VC_putR X 6 0 rfl ji6 jk6 jn6 (by decide) (by decide) (by decide) rfl hin rfl (ty := .object "MistletoeCourt$Shire") (by decide +kernel) rfl rfl fc_Pl_26 d_Pl_init_44 (by decide) (by decide) rfl (by decide) rfl ?_
  exact VC_widen (by decide) (by decide) (hQ _ _ d_Pl_init_47)
def S_Cn_init_61 (S : Nat → Nat → Bool) : Nat → Nat → Bool := setS (setS (setS (setS (setS S 62 0) 61 1) 64 0) 61 2) 61 0
theorem f_Cn_init_61 {S : Nat → Nat → Bool} (hf : fresh S 62) : fresh (S_Cn_init_61 S) 66 := (fresh_set (fresh_set (fresh_set (fresh_mono (N' := 66) (fresh_mono (N' := 65) (fresh_set (fresh_set (fresh_mono (N' := 64) (fresh_mono (N' := 63) hf (by decide)) (by decide)) (by decide)) (by decide)) (by decide)) (by decide)) (by decide)) (by decide)) (by decide))
set_option maxHeartbeats 4000000 in
set_option maxRecDepth 100000 in
theorem k_Cn_init_61 (S : Nat → Nat → Bool) (hf : fresh S 62) : EvC y_Cn_init prog_3_method_1_code 2 2 4 137 (fun ad => [Value.ref (ad 61), Value.ref (ad 5)]) 62 66 S (S_Cn_init_61 S) := by
  refine EvC_of (by decide) rfl (fun ad => Nat.le_of_ble_eq_true rfl) (fun p l e R s m args below meth c D ad cI cB z0 Q X hin hQ => ?_)
  have X : CC p R s m args meth c jR7 prog_3_method_1_code 2 2 D ad cI cB z0 4 137 := X
  refine VC_sub (lv' := [(0, Value.ref (ad 61)), (1, Value.ref (ad 5))]) [0, 1] rfl ?_
  refine VC_aload_n X 0 d_Cn_init_0 rfl ?_
  refine VC_objInit X ml_Cn_3 d_Cn_init_1 (by decide) oi_i oi_c ?_
  refine VC_aload_n X 0 d_Cn_init_4 rfl ?_
  refine VC_new X 9 rfl ji9 jk9 rfl df_9 cl_Cn_9 in_9 iz_9 d_Cn_init_5 (by decide) rfl (by decide) hf (by decide) (by decide) ?_
  refine VC_dup X d_Cn_init_8 rfl ?_
  refine VC_sipush (v := 128) X d_Cn_init_9 (by decide) ?_
  refine VC_call X (VC_run X [Value.int 128] mt_Rw_init ms_Rw_init ml_Cn_11 (k_Rw_init S 62 128 128 (by decide) (by decide) (by decide) (by decide) (by decide) (by decide)) rfl rfl rfl (by decide) (by decide) (by decide) (Nat.le_of_ble_eq_true rfl) d_Cn_init_12) ?_
  refine VC_putR X 7 1 rfl ji7 jk7 jn7 (by decide) (by decide) (by decide) rfl hin rfl (ty := .object "MistletoeCourt$Row") (by decide +kernel) rfl rfl fc_Cn_14 d_Cn_init_15 (by decide) (by decide) rfl (by decide) rfl ?_
  refine VC_aload_n X 0 d_Cn_init_18 rfl ?_
  refine VC_new X 9 rfl ji9 jk9 rfl df_9 cl_Cn_9 in_9 iz_9 d_Cn_init_19 (by decide) rfl (by decide) (fresh_set (fresh_set (fresh_mono (N' := 64) (fresh_mono (N' := 63) hf (by decide)) (by decide)) (by decide)) (by decide)) (by decide) (by decide) ?_
  refine VC_dup X d_Cn_init_22 rfl ?_
  refine VC_bipush (v := 7) X d_Cn_init_23 (by decide) ?_
  refine VC_call X (VC_run X [Value.int 7] mt_Rw_init ms_Rw_init ml_Cn_11 (k_Rw_init (setS (setS S 62 0) 61 1) 64 7 7 (by decide) (by decide) (by decide) (by decide) (by decide) (by decide)) rfl rfl rfl (by decide) (by decide) (by decide) (Nat.le_of_ble_eq_true rfl) d_Cn_init_25) ?_
  refine VC_putR X 7 2 rfl ji7 jk7 jn7 (by decide) (by decide) (by decide) rfl hin rfl (ty := .object "MistletoeCourt$Row") (by decide +kernel) rfl rfl fc_Cn_20 d_Cn_init_28 (by decide) (by decide) rfl (by decide) rfl ?_
  refine VC_aload_n X 0 d_Cn_init_31 rfl ?_
  refine VC_aload_n X 1 d_Cn_init_32 rfl ?_
  refine VC_putR X 7 0 rfl ji7 jk7 jn7 (by decide) (by decide) (by decide) rfl hin rfl (ty := .object "MistletoeCourt$Shire") (by decide +kernel) rfl rfl fc_Cn_23 d_Cn_init_33 (by decide) (by decide) rfl (by decide) rfl ?_
  exact VC_widen (by decide) (by decide) (hQ _ _ d_Cn_init_36)
def S_Si_init_84 (S : Nat → Nat → Bool) : Nat → Nat → Bool := setS (setS (setS (setS (setS (setS S 85 0) 84 0) 87 0) 84 1) 89 0) 84 2
theorem f_Si_init_84 {S : Nat → Nat → Bool} (hf : fresh S 85) : fresh (S_Si_init_84 S) 91 := (fresh_set (fresh_set (fresh_mono (N' := 91) (fresh_mono (N' := 90) (fresh_set (fresh_set (fresh_mono (N' := 89) (fresh_mono (N' := 88) (fresh_set (fresh_set (fresh_mono (N' := 87) (fresh_mono (N' := 86) hf (by decide)) (by decide)) (by decide)) (by decide)) (by decide)) (by decide)) (by decide)) (by decide)) (by decide)) (by decide)) (by decide)) (by decide))
set_option maxHeartbeats 4000000 in
set_option maxRecDepth 100000 in
theorem k_Si_init_84 (S : Nat → Nat → Bool) (hf : fresh S 85) : EvC y_Si_init prog_11_method_1_code 1 2 6 27 (fun ad => [Value.ref (ad 84)]) 85 91 S (S_Si_init_84 S) := by
  refine EvC_of (by decide) rfl (fun ad => Nat.le_of_ble_eq_true rfl) (fun p l e R s m args below meth c D ad cI cB z0 Q X hin hQ => ?_)
  have X : CC p R s m args meth c jR4 prog_11_method_1_code 1 2 D ad cI cB z0 6 27 := X
  refine VC_sub (lv' := [(0, Value.ref (ad 84))]) [0] rfl ?_
  refine VC_aload_n X 0 d_Si_init_0 rfl ?_
  refine VC_objInit X ml_Si_3 d_Si_init_1 (by decide) oi_i oi_c ?_
  refine VC_aload_n X 0 d_Si_init_4 rfl ?_
  refine VC_new X 9 rfl ji9 jk9 rfl df_9 cl_Si_9 in_9 iz_9 d_Si_init_5 (by decide) rfl (by decide) hf (by decide) (by decide) ?_
  refine VC_dup X d_Si_init_8 rfl ?_
  refine VC_bipush (v := 8) X d_Si_init_9 (by decide) ?_
  refine VC_call X (VC_run X [Value.int 8] mt_Rw_init ms_Rw_init ml_Si_11 (k_Rw_init S 85 8 8 (by decide) (by decide) (by decide) (by decide) (by decide) (by decide)) rfl rfl rfl (by decide) (by decide) (by decide) (Nat.le_of_ble_eq_true rfl) d_Si_init_11) ?_
  refine VC_putR X 4 0 rfl ji4 jk4 jn4 (by decide) (by decide) (by decide) rfl hin rfl (ty := .object "MistletoeCourt$Row") (by decide +kernel) rfl rfl fc_Si_14 d_Si_init_14 (by decide) (by decide) rfl (by decide) rfl ?_
  refine VC_aload_n X 0 d_Si_init_17 rfl ?_
  refine VC_new X 9 rfl ji9 jk9 rfl df_9 cl_Si_9 in_9 iz_9 d_Si_init_18 (by decide) rfl (by decide) (fresh_set (fresh_set (fresh_mono (N' := 87) (fresh_mono (N' := 86) hf (by decide)) (by decide)) (by decide)) (by decide)) (by decide) (by decide) ?_
  refine VC_dup X d_Si_init_21 rfl ?_
  refine VC_bipush (v := 8) X d_Si_init_22 (by decide) ?_
  refine VC_call X (VC_run X [Value.int 8] mt_Rw_init ms_Rw_init ml_Si_11 (k_Rw_init (setS (setS S 85 0) 84 0) 87 8 8 (by decide) (by decide) (by decide) (by decide) (by decide) (by decide)) rfl rfl rfl (by decide) (by decide) (by decide) (Nat.le_of_ble_eq_true rfl) d_Si_init_24) ?_
  refine VC_putR X 4 1 rfl ji4 jk4 jn4 (by decide) (by decide) (by decide) rfl hin rfl (ty := .object "MistletoeCourt$Row") (by decide +kernel) rfl rfl fc_Si_20 d_Si_init_27 (by decide) (by decide) rfl (by decide) rfl ?_
  refine VC_aload_n X 0 d_Si_init_30 rfl ?_
  refine VC_new X 9 rfl ji9 jk9 rfl df_9 cl_Si_9 in_9 iz_9 d_Si_init_31 (by decide) rfl (by decide) (fresh_set (fresh_set (fresh_mono (N' := 89) (fresh_mono (N' := 88) (fresh_set (fresh_set (fresh_mono (N' := 87) (fresh_mono (N' := 86) hf (by decide)) (by decide)) (by decide)) (by decide)) (by decide)) (by decide)) (by decide)) (by decide)) (by decide) (by decide) ?_
  refine VC_dup X d_Si_init_34 rfl ?_
  refine VC_bipush (v := 8) X d_Si_init_35 (by decide) ?_
  refine VC_call X (VC_run X [Value.int 8] mt_Rw_init ms_Rw_init ml_Si_11 (k_Rw_init (setS (setS (setS (setS S 85 0) 84 0) 87 0) 84 1) 89 8 8 (by decide) (by decide) (by decide) (by decide) (by decide) (by decide)) rfl rfl rfl (by decide) (by decide) (by decide) (Nat.le_of_ble_eq_true rfl) d_Si_init_37) ?_
  refine VC_putR X 4 2 rfl ji4 jk4 jn4 (by decide) (by decide) (by decide) rfl hin rfl (ty := .object "MistletoeCourt$Row") (by decide +kernel) rfl rfl fc_Si_23 d_Si_init_40 (by decide) (by decide) rfl (by decide) rfl ?_
  exact VC_widen (by decide) (by decide) (hQ _ _ d_Si_init_43)
def S_Sh_init_67 (S : Nat → Nat → Bool) : Nat → Nat → Bool := setS (S_Si_init_84 (setS (setS (setS (setS (setS (setS (setS (setS (setS (setS (setS (setS (setS (setS (setS (setS S 68 0) 67 2) 70 0) 67 3) 72 0) 67 4) 74 0) 67 5) 76 0) 67 6) 78 0) 67 7) 80 0) 67 8) 82 0) 67 9)) 67 10
theorem f_Sh_init_67 {S : Nat → Nat → Bool} (hf : fresh S 68) : fresh (S_Sh_init_67 S) 91 := (fresh_set (f_Si_init_84 (fresh_mono (N' := 85) (fresh_set (fresh_set (fresh_mono (N' := 84) (fresh_mono (N' := 83) (fresh_set (fresh_set (fresh_mono (N' := 82) (fresh_mono (N' := 81) (fresh_set (fresh_set (fresh_mono (N' := 80) (fresh_mono (N' := 79) (fresh_set (fresh_set (fresh_mono (N' := 78) (fresh_mono (N' := 77) (fresh_set (fresh_set (fresh_mono (N' := 76) (fresh_mono (N' := 75) (fresh_set (fresh_set (fresh_mono (N' := 74) (fresh_mono (N' := 73) (fresh_set (fresh_set (fresh_mono (N' := 72) (fresh_mono (N' := 71) (fresh_set (fresh_set (fresh_mono (N' := 70) (fresh_mono (N' := 69) hf (by decide)) (by decide)) (by decide)) (by decide)) (by decide)) (by decide)) (by decide)) (by decide)) (by decide)) (by decide)) (by decide)) (by decide)) (by decide)) (by decide)) (by decide)) (by decide)) (by decide)) (by decide)) (by decide)) (by decide)) (by decide)) (by decide)) (by decide)) (by decide)) (by decide)) (by decide)) (by decide)) (by decide)) (by decide)) (by decide)) (by decide)) (by decide)) (by decide))) (by decide))
set_option maxHeartbeats 4000000 in
set_option maxRecDepth 100000 in
theorem k_Sh_init_67 (S : Nat → Nat → Bool) (hf : fresh S 68) : EvC y_Sh_init prog_10_method_1_code 1 3 23 87 (fun ad => [Value.ref (ad 67)]) 68 91 S (S_Sh_init_67 S) := by
  refine EvC_of (by decide) rfl (fun ad => Nat.le_of_ble_eq_true rfl) (fun p l e R s m args below meth c D ad cI cB z0 Q X hin hQ => ?_)
  have X : CC p R s m args meth c jR3 prog_10_method_1_code 1 3 D ad cI cB z0 23 87 := X
  refine VC_sub (lv' := [(0, Value.ref (ad 67))]) [0] rfl ?_
  refine VC_aload_n X 0 d_Sh_init_0 rfl ?_
  refine VC_objInit X ml_Sh_3 d_Sh_init_1 (by decide) oi_i oi_c ?_
  refine VC_aload_n X 0 d_Sh_init_4 rfl ?_
  refine VC_new X 9 rfl ji9 jk9 rfl df_9 cl_Sh_9 in_9 iz_9 d_Sh_init_5 (by decide) rfl (by decide) hf (by decide) (by decide) ?_
  refine VC_dup X d_Sh_init_8 rfl ?_
  refine VC_iconst (v := 3) X d_Sh_init_9 (by decide) ?_
  refine VC_call X (VC_run X [Value.int 3] mt_Rw_init ms_Rw_init ml_Sh_11 (k_Rw_init S 68 3 3 (by decide) (by decide) (by decide) (by decide) (by decide) (by decide)) rfl rfl rfl (by decide) (by decide) (by decide) (Nat.le_of_ble_eq_true rfl) d_Sh_init_10) ?_
  refine VC_putR X 3 2 rfl ji3 jk3 jn3 (by decide) (by decide) (by decide) rfl hin rfl (ty := .object "MistletoeCourt$Row") (by decide +kernel) rfl rfl fc_Sh_14 d_Sh_init_13 (by decide) (by decide) rfl (by decide) rfl ?_
  refine VC_aload_n X 0 d_Sh_init_16 rfl ?_
  refine VC_new X 9 rfl ji9 jk9 rfl df_9 cl_Sh_9 in_9 iz_9 d_Sh_init_17 (by decide) rfl (by decide) (fresh_set (fresh_set (fresh_mono (N' := 70) (fresh_mono (N' := 69) hf (by decide)) (by decide)) (by decide)) (by decide)) (by decide) (by decide) ?_
  refine VC_dup X d_Sh_init_20 rfl ?_
  refine VC_iconst (v := 3) X d_Sh_init_21 (by decide) ?_
  refine VC_call X (VC_run X [Value.int 3] mt_Rw_init ms_Rw_init ml_Sh_11 (k_Rw_init (setS (setS S 68 0) 67 2) 70 3 3 (by decide) (by decide) (by decide) (by decide) (by decide) (by decide)) rfl rfl rfl (by decide) (by decide) (by decide) (Nat.le_of_ble_eq_true rfl) d_Sh_init_22) ?_
  refine VC_putR X 3 3 rfl ji3 jk3 jn3 (by decide) (by decide) (by decide) rfl hin rfl (ty := .object "MistletoeCourt$Row") (by decide +kernel) rfl rfl fc_Sh_20 d_Sh_init_25 (by decide) (by decide) rfl (by decide) rfl ?_
  refine VC_aload_n X 0 d_Sh_init_28 rfl ?_
  refine VC_new X 9 rfl ji9 jk9 rfl df_9 cl_Sh_9 in_9 iz_9 d_Sh_init_29 (by decide) rfl (by decide) (fresh_set (fresh_set (fresh_mono (N' := 72) (fresh_mono (N' := 71) (fresh_set (fresh_set (fresh_mono (N' := 70) (fresh_mono (N' := 69) hf (by decide)) (by decide)) (by decide)) (by decide)) (by decide)) (by decide)) (by decide)) (by decide)) (by decide) (by decide) ?_
  refine VC_dup X d_Sh_init_32 rfl ?_
  refine VC_bipush (v := 7) X d_Sh_init_33 (by decide) ?_
  refine VC_call X (VC_run X [Value.int 7] mt_Rw_init ms_Rw_init ml_Sh_11 (k_Rw_init (setS (setS (setS (setS S 68 0) 67 2) 70 0) 67 3) 72 7 7 (by decide) (by decide) (by decide) (by decide) (by decide) (by decide)) rfl rfl rfl (by decide) (by decide) (by decide) (Nat.le_of_ble_eq_true rfl) d_Sh_init_35) ?_
  refine VC_putR X 3 4 rfl ji3 jk3 jn3 (by decide) (by decide) (by decide) rfl hin rfl (ty := .object "MistletoeCourt$Row") (by decide +kernel) rfl rfl fc_Sh_23 d_Sh_init_38 (by decide) (by decide) rfl (by decide) rfl ?_
  refine VC_aload_n X 0 d_Sh_init_41 rfl ?_
  refine VC_new X 9 rfl ji9 jk9 rfl df_9 cl_Sh_9 in_9 iz_9 d_Sh_init_42 (by decide) rfl (by decide) (fresh_set (fresh_set (fresh_mono (N' := 74) (fresh_mono (N' := 73) (fresh_set (fresh_set (fresh_mono (N' := 72) (fresh_mono (N' := 71) (fresh_set (fresh_set (fresh_mono (N' := 70) (fresh_mono (N' := 69) hf (by decide)) (by decide)) (by decide)) (by decide)) (by decide)) (by decide)) (by decide)) (by decide)) (by decide)) (by decide)) (by decide)) (by decide)) (by decide) (by decide) ?_
  refine VC_dup X d_Sh_init_45 rfl ?_
  refine VC_bipush (v := 7) X d_Sh_init_46 (by decide) ?_
  refine VC_call X (VC_run X [Value.int 7] mt_Rw_init ms_Rw_init ml_Sh_11 (k_Rw_init (setS (setS (setS (setS (setS (setS S 68 0) 67 2) 70 0) 67 3) 72 0) 67 4) 74 7 7 (by decide) (by decide) (by decide) (by decide) (by decide) (by decide)) rfl rfl rfl (by decide) (by decide) (by decide) (Nat.le_of_ble_eq_true rfl) d_Sh_init_48) ?_
  refine VC_putR X 3 5 rfl ji3 jk3 jn3 (by decide) (by decide) (by decide) rfl hin rfl (ty := .object "MistletoeCourt$Row") (by decide +kernel) rfl rfl fc_Sh_26 d_Sh_init_51 (by decide) (by decide) rfl (by decide) rfl ?_
  refine VC_aload_n X 0 d_Sh_init_54 rfl ?_
  refine VC_new X 9 rfl ji9 jk9 rfl df_9 cl_Sh_9 in_9 iz_9 d_Sh_init_55 (by decide) rfl (by decide) (fresh_set (fresh_set (fresh_mono (N' := 76) (fresh_mono (N' := 75) (fresh_set (fresh_set (fresh_mono (N' := 74) (fresh_mono (N' := 73) (fresh_set (fresh_set (fresh_mono (N' := 72) (fresh_mono (N' := 71) (fresh_set (fresh_set (fresh_mono (N' := 70) (fresh_mono (N' := 69) hf (by decide)) (by decide)) (by decide)) (by decide)) (by decide)) (by decide)) (by decide)) (by decide)) (by decide)) (by decide)) (by decide)) (by decide)) (by decide)) (by decide)) (by decide)) (by decide)) (by decide) (by decide) ?_
  refine VC_dup X d_Sh_init_58 rfl ?_
  refine VC_bipush (v := 7) X d_Sh_init_59 (by decide) ?_
  refine VC_call X (VC_run X [Value.int 7] mt_Rw_init ms_Rw_init ml_Sh_11 (k_Rw_init (setS (setS (setS (setS (setS (setS (setS (setS S 68 0) 67 2) 70 0) 67 3) 72 0) 67 4) 74 0) 67 5) 76 7 7 (by decide) (by decide) (by decide) (by decide) (by decide) (by decide)) rfl rfl rfl (by decide) (by decide) (by decide) (Nat.le_of_ble_eq_true rfl) d_Sh_init_61) ?_
  refine VC_putR X 3 6 rfl ji3 jk3 jn3 (by decide) (by decide) (by decide) rfl hin rfl (ty := .object "MistletoeCourt$Row") (by decide +kernel) rfl rfl fc_Sh_29 d_Sh_init_64 (by decide) (by decide) rfl (by decide) rfl ?_
  refine VC_aload_n X 0 d_Sh_init_67 rfl ?_
  refine VC_new X 9 rfl ji9 jk9 rfl df_9 cl_Sh_9 in_9 iz_9 d_Sh_init_68 (by decide) rfl (by decide) (fresh_set (fresh_set (fresh_mono (N' := 78) (fresh_mono (N' := 77) (fresh_set (fresh_set (fresh_mono (N' := 76) (fresh_mono (N' := 75) (fresh_set (fresh_set (fresh_mono (N' := 74) (fresh_mono (N' := 73) (fresh_set (fresh_set (fresh_mono (N' := 72) (fresh_mono (N' := 71) (fresh_set (fresh_set (fresh_mono (N' := 70) (fresh_mono (N' := 69) hf (by decide)) (by decide)) (by decide)) (by decide)) (by decide)) (by decide)) (by decide)) (by decide)) (by decide)) (by decide)) (by decide)) (by decide)) (by decide)) (by decide)) (by decide)) (by decide)) (by decide)) (by decide)) (by decide)) (by decide)) (by decide) (by decide) ?_
  refine VC_dup X d_Sh_init_71 rfl ?_
  refine VC_bipush (v := 7) X d_Sh_init_72 (by decide) ?_
  refine VC_call X (VC_run X [Value.int 7] mt_Rw_init ms_Rw_init ml_Sh_11 (k_Rw_init (setS (setS (setS (setS (setS (setS (setS (setS (setS (setS S 68 0) 67 2) 70 0) 67 3) 72 0) 67 4) 74 0) 67 5) 76 0) 67 6) 78 7 7 (by decide) (by decide) (by decide) (by decide) (by decide) (by decide)) rfl rfl rfl (by decide) (by decide) (by decide) (Nat.le_of_ble_eq_true rfl) d_Sh_init_74) ?_
  refine VC_putR X 3 7 rfl ji3 jk3 jn3 (by decide) (by decide) (by decide) rfl hin rfl (ty := .object "MistletoeCourt$Row") (by decide +kernel) rfl rfl fc_Sh_32 d_Sh_init_77 (by decide) (by decide) rfl (by decide) rfl ?_
  refine VC_aload_n X 0 d_Sh_init_80 rfl ?_
  refine VC_new X 9 rfl ji9 jk9 rfl df_9 cl_Sh_9 in_9 iz_9 d_Sh_init_81 (by decide) rfl (by decide) (fresh_set (fresh_set (fresh_mono (N' := 80) (fresh_mono (N' := 79) (fresh_set (fresh_set (fresh_mono (N' := 78) (fresh_mono (N' := 77) (fresh_set (fresh_set (fresh_mono (N' := 76) (fresh_mono (N' := 75) (fresh_set (fresh_set (fresh_mono (N' := 74) (fresh_mono (N' := 73) (fresh_set (fresh_set (fresh_mono (N' := 72) (fresh_mono (N' := 71) (fresh_set (fresh_set (fresh_mono (N' := 70) (fresh_mono (N' := 69) hf (by decide)) (by decide)) (by decide)) (by decide)) (by decide)) (by decide)) (by decide)) (by decide)) (by decide)) (by decide)) (by decide)) (by decide)) (by decide)) (by decide)) (by decide)) (by decide)) (by decide)) (by decide)) (by decide)) (by decide)) (by decide)) (by decide)) (by decide)) (by decide)) (by decide) (by decide) ?_
  refine VC_dup X d_Sh_init_84 rfl ?_
  refine VC_bipush (v := 7) X d_Sh_init_85 (by decide) ?_
  refine VC_call X (VC_run X [Value.int 7] mt_Rw_init ms_Rw_init ml_Sh_11 (k_Rw_init (setS (setS (setS (setS (setS (setS (setS (setS (setS (setS (setS (setS S 68 0) 67 2) 70 0) 67 3) 72 0) 67 4) 74 0) 67 5) 76 0) 67 6) 78 0) 67 7) 80 7 7 (by decide) (by decide) (by decide) (by decide) (by decide) (by decide)) rfl rfl rfl (by decide) (by decide) (by decide) (Nat.le_of_ble_eq_true rfl) d_Sh_init_87) ?_
  refine VC_putR X 3 8 rfl ji3 jk3 jn3 (by decide) (by decide) (by decide) rfl hin rfl (ty := .object "MistletoeCourt$Row") (by decide +kernel) rfl rfl fc_Sh_35 d_Sh_init_90 (by decide) (by decide) rfl (by decide) rfl ?_
  refine VC_aload_n X 0 d_Sh_init_93 rfl ?_
  refine VC_new X 9 rfl ji9 jk9 rfl df_9 cl_Sh_9 in_9 iz_9 d_Sh_init_94 (by decide) rfl (by decide) (fresh_set (fresh_set (fresh_mono (N' := 82) (fresh_mono (N' := 81) (fresh_set (fresh_set (fresh_mono (N' := 80) (fresh_mono (N' := 79) (fresh_set (fresh_set (fresh_mono (N' := 78) (fresh_mono (N' := 77) (fresh_set (fresh_set (fresh_mono (N' := 76) (fresh_mono (N' := 75) (fresh_set (fresh_set (fresh_mono (N' := 74) (fresh_mono (N' := 73) (fresh_set (fresh_set (fresh_mono (N' := 72) (fresh_mono (N' := 71) (fresh_set (fresh_set (fresh_mono (N' := 70) (fresh_mono (N' := 69) hf (by decide)) (by decide)) (by decide)) (by decide)) (by decide)) (by decide)) (by decide)) (by decide)) (by decide)) (by decide)) (by decide)) (by decide)) (by decide)) (by decide)) (by decide)) (by decide)) (by decide)) (by decide)) (by decide)) (by decide)) (by decide)) (by decide)) (by decide)) (by decide)) (by decide)) (by decide)) (by decide)) (by decide)) (by decide) (by decide) ?_
  refine VC_dup X d_Sh_init_97 rfl ?_
  refine VC_bipush (v := 7) X d_Sh_init_98 (by decide) ?_
  refine VC_call X (VC_run X [Value.int 7] mt_Rw_init ms_Rw_init ml_Sh_11 (k_Rw_init (setS (setS (setS (setS (setS (setS (setS (setS (setS (setS (setS (setS (setS (setS S 68 0) 67 2) 70 0) 67 3) 72 0) 67 4) 74 0) 67 5) 76 0) 67 6) 78 0) 67 7) 80 0) 67 8) 82 7 7 (by decide) (by decide) (by decide) (by decide) (by decide) (by decide)) rfl rfl rfl (by decide) (by decide) (by decide) (Nat.le_of_ble_eq_true rfl) d_Sh_init_100) ?_
  refine VC_putR X 3 9 rfl ji3 jk3 jn3 (by decide) (by decide) (by decide) rfl hin rfl (ty := .object "MistletoeCourt$Row") (by decide +kernel) rfl rfl fc_Sh_38 d_Sh_init_103 (by decide) (by decide) rfl (by decide) rfl ?_
  refine VC_aload_n X 0 d_Sh_init_106 rfl ?_
  refine VC_new X 4 rfl ji4 jk4 rfl df_4 cl_Sh_41 in_4 iz_4 d_Sh_init_107 (by decide) rfl (by decide) (fresh_set (fresh_set (fresh_mono (N' := 84) (fresh_mono (N' := 83) (fresh_set (fresh_set (fresh_mono (N' := 82) (fresh_mono (N' := 81) (fresh_set (fresh_set (fresh_mono (N' := 80) (fresh_mono (N' := 79) (fresh_set (fresh_set (fresh_mono (N' := 78) (fresh_mono (N' := 77) (fresh_set (fresh_set (fresh_mono (N' := 76) (fresh_mono (N' := 75) (fresh_set (fresh_set (fresh_mono (N' := 74) (fresh_mono (N' := 73) (fresh_set (fresh_set (fresh_mono (N' := 72) (fresh_mono (N' := 71) (fresh_set (fresh_set (fresh_mono (N' := 70) (fresh_mono (N' := 69) hf (by decide)) (by decide)) (by decide)) (by decide)) (by decide)) (by decide)) (by decide)) (by decide)) (by decide)) (by decide)) (by decide)) (by decide)) (by decide)) (by decide)) (by decide)) (by decide)) (by decide)) (by decide)) (by decide)) (by decide)) (by decide)) (by decide)) (by decide)) (by decide)) (by decide)) (by decide)) (by decide)) (by decide)) (by decide)) (by decide)) (by decide)) (by decide)) (by decide) (by decide) ?_
  refine VC_dup X d_Sh_init_110 rfl ?_
  refine VC_call X (VC_runN X [] mt_Si_init ms_Si_init mn_Sh_43 (k_Si_init_84 (setS (setS (setS (setS (setS (setS (setS (setS (setS (setS (setS (setS (setS (setS (setS (setS S 68 0) 67 2) 70 0) 67 3) 72 0) 67 4) 74 0) 67 5) 76 0) 67 6) 78 0) 67 7) 80 0) 67 8) 82 0) 67 9) (fresh_mono (N' := 85) (fresh_set (fresh_set (fresh_mono (N' := 84) (fresh_mono (N' := 83) (fresh_set (fresh_set (fresh_mono (N' := 82) (fresh_mono (N' := 81) (fresh_set (fresh_set (fresh_mono (N' := 80) (fresh_mono (N' := 79) (fresh_set (fresh_set (fresh_mono (N' := 78) (fresh_mono (N' := 77) (fresh_set (fresh_set (fresh_mono (N' := 76) (fresh_mono (N' := 75) (fresh_set (fresh_set (fresh_mono (N' := 74) (fresh_mono (N' := 73) (fresh_set (fresh_set (fresh_mono (N' := 72) (fresh_mono (N' := 71) (fresh_set (fresh_set (fresh_mono (N' := 70) (fresh_mono (N' := 69) hf (by decide)) (by decide)) (by decide)) (by decide)) (by decide)) (by decide)) (by decide)) (by decide)) (by decide)) (by decide)) (by decide)) (by decide)) (by decide)) (by decide)) (by decide)) (by decide)) (by decide)) (by decide)) (by decide)) (by decide)) (by decide)) (by decide)) (by decide)) (by decide)) (by decide)) (by decide)) (by decide)) (by decide)) (by decide)) (by decide)) (by decide)) (by decide)) (by decide))) rfl rfl rfl (by decide) (by decide) (by decide) (Nat.le_of_ble_eq_true rfl) d_Sh_init_111) ?_
  refine VC_putR X 3 10 rfl ji3 jk3 jn3 (by decide) (by decide) (by decide) rfl hin rfl (ty := .object "MistletoeCourt$Sightings") (by decide +kernel) rfl rfl fc_Sh_44 d_Sh_init_114 (by decide) (by decide) rfl (by decide) rfl ?_
  exact VC_widen (by decide) (by decide) (hQ _ _ d_Sh_init_117)
def S_Fo_init_66 (S : Nat → Nat → Bool) : Nat → Nat → Bool := setS (setS (S_Sh_init_67 S) 66 1) 66 0
theorem f_Fo_init_66 {S : Nat → Nat → Bool} (hf : fresh S 67) : fresh (S_Fo_init_66 S) 91 := (fresh_set (fresh_set (f_Sh_init_67 (fresh_mono (N' := 68) hf (by decide))) (by decide)) (by decide))
set_option maxHeartbeats 4000000 in
set_option maxRecDepth 100000 in
theorem k_Fo_init_66 (S : Nat → Nat → Bool) (hf : fresh S 67) : EvC y_Fo_init prog_4_method_1_code 2 4 24 101 (fun ad => [Value.ref (ad 66), Value.ref (ad 5)]) 67 91 S (S_Fo_init_66 S) := by
  refine EvC_of (by decide) rfl (fun ad => Nat.le_of_ble_eq_true rfl) (fun p l e R s m args below meth c D ad cI cB z0 Q X hin hQ => ?_)
  have X : CC p R s m args meth c jR8 prog_4_method_1_code 2 4 D ad cI cB z0 24 101 := X
  refine VC_sub (lv' := [(0, Value.ref (ad 66)), (1, Value.ref (ad 5))]) [0, 1] rfl ?_
  refine VC_aload_n X 0 d_Fo_init_0 rfl ?_
  refine VC_objInit X ml_Fo_1 d_Fo_init_1 (by decide) oi_i oi_c ?_
  refine VC_aload_n X 0 d_Fo_init_4 rfl ?_
  refine VC_new X 3 rfl ji3 jk3 rfl df_3 cl_Fo_7 in_3 iz_3 d_Fo_init_5 (by decide) rfl (by decide) hf (by decide) (by decide) ?_
  refine VC_dup X d_Fo_init_8 rfl ?_
  refine VC_call X (VC_runN X [] mt_Sh_init ms_Sh_init mn_Fo_9 (k_Sh_init_67 S (fresh_mono (N' := 68) hf (by decide))) rfl rfl rfl (by decide) (by decide) (by decide) (Nat.le_of_ble_eq_true rfl) d_Fo_init_9) ?_
  refine VC_putR X 8 1 rfl ji8 jk8 jn8 (by decide) (by decide) (by decide) rfl hin rfl (ty := .object "MistletoeCourt$Shire") (by decide +kernel) rfl rfl fc_Fo_10 d_Fo_init_12 (by decide) (by decide) rfl (by decide) rfl ?_
  refine VC_aload_n X 0 d_Fo_init_15 rfl ?_
  refine VC_aload_n X 1 d_Fo_init_16 rfl ?_
  refine VC_putR X 8 0 rfl ji8 jk8 jn8 (by decide) (by decide) (by decide) rfl hin rfl (ty := .object "MistletoeCourt$Shire") (by decide +kernel) rfl rfl fc_Fo_16 d_Fo_init_17 (by decide) (by decide) rfl (by decide) rfl ?_
  exact VC_widen (by decide) (by decide) (hQ _ _ d_Fo_init_20)
def S_Co_init_0 : Nat → Nat → Bool := (fun S => setS (S_Fo_init_66 (setS (S_Cn_init_61 (setS (S_Pl_init_54 (setS (S_Gu_init_53 (setS (S_Sh_init_29 (setS (S_Sh_init_5 (setS (S_Rd_init_4 (setS (S_Pg_init_1 S) 0 0)) 0 1)) 0 2)) 0 3)) 0 4)) 0 5)) 0 6)) 0 7) (fun _ _ => false)
theorem f_Co_init_0 : fresh S_Co_init_0 91 := (fun (S : Nat → Nat → Bool) (hf : fresh S 1) => ((fresh_set (f_Fo_init_66 (fresh_mono (N' := 67) (fresh_set (f_Cn_init_61 (fresh_mono (N' := 62) (fresh_set (f_Pl_init_54 (fresh_mono (N' := 55) (fresh_set (f_Gu_init_53 (fresh_mono (N' := 54) (fresh_set (f_Sh_init_29 (fresh_mono (N' := 30) (fresh_set (f_Sh_init_5 (fresh_mono (N' := 6) (fresh_set (f_Rd_init_4 (fresh_mono (N' := 5) (fresh_set (f_Pg_init_1 (fresh_mono (N' := 2) hf (by decide))) (by decide)) (by decide))) (by decide)) (by decide))) (by decide)) (by decide))) (by decide)) (by decide))) (by decide)) (by decide))) (by decide)) (by decide))) (by decide)) (by decide))) (by decide)) : fresh (setS (S_Fo_init_66 (setS (S_Cn_init_61 (setS (S_Pl_init_54 (setS (S_Gu_init_53 (setS (S_Sh_init_29 (setS (S_Sh_init_5 (setS (S_Rd_init_4 (setS (S_Pg_init_1 S) 0 0)) 0 1)) 0 2)) 0 3)) 0 4)) 0 5)) 0 6)) 0 7) 91)) (fun _ _ => false) (fun _ _ _ => rfl)
set_option maxHeartbeats 4000000 in
set_option maxRecDepth 100000 in
theorem k_Co_init_0 : EvC y_Co_init prog_1_method_1_code 1 5 90 528 (fun ad => [Value.ref (ad 0)]) 1 91 (fun _ _ => false) S_Co_init_0 := by
  have hf : fresh (fun _ _ => false) 1 := fun _ _ _ => rfl
  refine EvC_of (by decide) rfl (fun ad => Nat.le_of_ble_eq_true rfl) (fun p l e R s m args below meth c D ad cI cB z0 Q X hin hQ => ?_)
  have X : CC p R s m args meth c jR0 prog_1_method_1_code 1 5 D ad cI cB z0 90 528 := X
  refine VC_sub (lv' := [(0, Value.ref (ad 0))]) [0] rfl ?_
  refine VC_aload_n X 0 d_Co_init_0 rfl ?_
  refine VC_objInit X ml_Co_1 d_Co_init_1 (by decide) oi_i oi_c ?_
  refine VC_aload_n X 0 d_Co_init_4 rfl ?_
  refine VC_new X 1 rfl ji1 jk1 rfl df_1 cl_Co_7 in_1 iz_1 d_Co_init_5 (by decide) rfl (by decide) hf (by decide) (by decide) ?_
  refine VC_dup X d_Co_init_8 rfl ?_
  refine VC_call X (VC_runN X [] mt_Pg_init ms_Pg_init mn_Co_9 (k_Pg_init_1 (fun _ _ => false) (fresh_mono (N' := 2) hf (by decide))) rfl rfl rfl (by decide) (by decide) (by decide) (Nat.le_of_ble_eq_true rfl) d_Co_init_9) ?_
  refine VC_putR X 0 0 rfl ji0 jk0 jn0 (by decide) (by decide) (by decide) rfl hin rfl (ty := .object "MistletoeCourt$Page") (by decide +kernel) rfl rfl fc_Co_10 d_Co_init_12 (by decide) (by decide) rfl (by decide) rfl ?_
  refine VC_aload_n X 0 d_Co_init_15 rfl ?_
  refine VC_new X 2 rfl ji2 jk2 rfl df_2 cl_Co_16 in_2 iz_2 d_Co_init_16 (by decide) rfl (by decide) (fresh_set (f_Pg_init_1 (fresh_mono (N' := 2) hf (by decide))) (by decide)) (by decide) (by decide) ?_
  refine VC_dup X d_Co_init_19 rfl ?_
  refine VC_aload_n X 0 d_Co_init_20 rfl ?_
  refine VC_getR X 0 0 1 rfl ji0 (by decide) (by decide) (by decide) fc_Co_10 d_Co_init_21 (by decide) rfl (by decide) rfl (by decide +kernel) ?_
  refine VC_call X (VC_run X [Value.ref (ad 1)] mt_Rd_init ms_Rd_init ml_Co_18 (k_Rd_init_4 (setS (S_Pg_init_1 (fun _ _ => false)) 0 0) (fresh_mono (N' := 5) (fresh_set (f_Pg_init_1 (fresh_mono (N' := 2) hf (by decide))) (by decide)) (by decide))) rfl rfl rfl (by decide) (by decide) (by decide) (Nat.le_of_ble_eq_true rfl) d_Co_init_24) ?_
  refine VC_putR X 0 1 rfl ji0 jk0 jn0 (by decide) (by decide) (by decide) rfl hin rfl (ty := .object "MistletoeCourt$Reader") (by decide +kernel) rfl rfl fc_Co_21 d_Co_init_27 (by decide) (by decide) rfl (by decide) rfl ?_
  refine VC_aload_n X 0 d_Co_init_30 rfl ?_
  refine VC_new X 3 rfl ji3 jk3 rfl df_3 cl_Co_25 in_3 iz_3 d_Co_init_31 (by decide) rfl (by decide) (fresh_set (f_Rd_init_4 (fresh_mono (N' := 5) (fresh_set (f_Pg_init_1 (fresh_mono (N' := 2) hf (by decide))) (by decide)) (by decide))) (by decide)) (by decide) (by decide) ?_
  refine VC_dup X d_Co_init_34 rfl ?_
  refine VC_call X (VC_runN X [] mt_Sh_init ms_Sh_init mn_Co_27 (k_Sh_init_5 (setS (S_Rd_init_4 (setS (S_Pg_init_1 (fun _ _ => false)) 0 0)) 0 1) (fresh_mono (N' := 6) (fresh_set (f_Rd_init_4 (fresh_mono (N' := 5) (fresh_set (f_Pg_init_1 (fresh_mono (N' := 2) hf (by decide))) (by decide)) (by decide))) (by decide)) (by decide))) rfl rfl rfl (by decide) (by decide) (by decide) (Nat.le_of_ble_eq_true rfl) d_Co_init_35) ?_
  refine VC_putR X 0 2 rfl ji0 jk0 jn0 (by decide) (by decide) (by decide) rfl hin rfl (ty := .object "MistletoeCourt$Shire") (by decide +kernel) rfl rfl fc_Co_28 d_Co_init_38 (by decide) (by decide) rfl (by decide) rfl ?_
  refine VC_aload_n X 0 d_Co_init_41 rfl ?_
  refine VC_new X 3 rfl ji3 jk3 rfl df_3 cl_Co_25 in_3 iz_3 d_Co_init_42 (by decide) rfl (by decide) (fresh_set (f_Sh_init_5 (fresh_mono (N' := 6) (fresh_set (f_Rd_init_4 (fresh_mono (N' := 5) (fresh_set (f_Pg_init_1 (fresh_mono (N' := 2) hf (by decide))) (by decide)) (by decide))) (by decide)) (by decide))) (by decide)) (by decide) (by decide) ?_
  refine VC_dup X d_Co_init_45 rfl ?_
  refine VC_call X (VC_runN X [] mt_Sh_init ms_Sh_init mn_Co_27 (k_Sh_init_29 (setS (S_Sh_init_5 (setS (S_Rd_init_4 (setS (S_Pg_init_1 (fun _ _ => false)) 0 0)) 0 1)) 0 2) (fresh_mono (N' := 30) (fresh_set (f_Sh_init_5 (fresh_mono (N' := 6) (fresh_set (f_Rd_init_4 (fresh_mono (N' := 5) (fresh_set (f_Pg_init_1 (fresh_mono (N' := 2) hf (by decide))) (by decide)) (by decide))) (by decide)) (by decide))) (by decide)) (by decide))) rfl rfl rfl (by decide) (by decide) (by decide) (Nat.le_of_ble_eq_true rfl) d_Co_init_46) ?_
  refine VC_putR X 0 3 rfl ji0 jk0 jn0 (by decide) (by decide) (by decide) rfl hin rfl (ty := .object "MistletoeCourt$Shire") (by decide +kernel) rfl rfl fc_Co_32 d_Co_init_49 (by decide) (by decide) rfl (by decide) rfl ?_
  refine VC_aload_n X 0 d_Co_init_52 rfl ?_
  refine VC_new X 5 rfl ji5 jk5 rfl df_5 cl_Co_35 in_5 iz_5 d_Co_init_53 (by decide) rfl (by decide) (fresh_set (f_Sh_init_29 (fresh_mono (N' := 30) (fresh_set (f_Sh_init_5 (fresh_mono (N' := 6) (fresh_set (f_Rd_init_4 (fresh_mono (N' := 5) (fresh_set (f_Pg_init_1 (fresh_mono (N' := 2) hf (by decide))) (by decide)) (by decide))) (by decide)) (by decide))) (by decide)) (by decide))) (by decide)) (by decide) (by decide) ?_
  refine VC_dup X d_Co_init_56 rfl ?_
  refine VC_aload_n X 0 d_Co_init_57 rfl ?_
  refine VC_getR X 0 2 5 rfl ji0 (by decide) (by decide) (by decide) fc_Co_28 d_Co_init_58 (by decide) rfl (by decide) rfl (by decide +kernel) ?_
  refine VC_call X (VC_run X [Value.ref (ad 5)] mt_Gu_init ms_Gu_init ml_Co_37 (k_Gu_init_53 (setS (S_Sh_init_29 (setS (S_Sh_init_5 (setS (S_Rd_init_4 (setS (S_Pg_init_1 (fun _ _ => false)) 0 0)) 0 1)) 0 2)) 0 3) (fresh_mono (N' := 54) (fresh_set (f_Sh_init_29 (fresh_mono (N' := 30) (fresh_set (f_Sh_init_5 (fresh_mono (N' := 6) (fresh_set (f_Rd_init_4 (fresh_mono (N' := 5) (fresh_set (f_Pg_init_1 (fresh_mono (N' := 2) hf (by decide))) (by decide)) (by decide))) (by decide)) (by decide))) (by decide)) (by decide))) (by decide)) (by decide))) rfl rfl rfl (by decide) (by decide) (by decide) (Nat.le_of_ble_eq_true rfl) d_Co_init_61) ?_
  refine VC_putR X 0 4 rfl ji0 jk0 jn0 (by decide) (by decide) (by decide) rfl hin rfl (ty := .object "MistletoeCourt$Guesser") (by decide +kernel) rfl rfl fc_Co_40 d_Co_init_64 (by decide) (by decide) rfl (by decide) rfl ?_
  refine VC_aload_n X 0 d_Co_init_67 rfl ?_
  refine VC_new X 6 rfl ji6 jk6 rfl df_6 cl_Co_44 in_6 iz_6 d_Co_init_68 (by decide) rfl (by decide) (fresh_set (f_Gu_init_53 (fresh_mono (N' := 54) (fresh_set (f_Sh_init_29 (fresh_mono (N' := 30) (fresh_set (f_Sh_init_5 (fresh_mono (N' := 6) (fresh_set (f_Rd_init_4 (fresh_mono (N' := 5) (fresh_set (f_Pg_init_1 (fresh_mono (N' := 2) hf (by decide))) (by decide)) (by decide))) (by decide)) (by decide))) (by decide)) (by decide))) (by decide)) (by decide))) (by decide)) (by decide) (by decide) ?_
  refine VC_dup X d_Co_init_71 rfl ?_
  refine VC_aload_n X 0 d_Co_init_72 rfl ?_
  refine VC_getR X 0 2 5 rfl ji0 (by decide) (by decide) (by decide) fc_Co_28 d_Co_init_73 (by decide) rfl (by decide) rfl (by decide +kernel) ?_
  refine VC_call X (VC_run X [Value.ref (ad 5)] mt_Pl_init ms_Pl_init ml_Co_46 (k_Pl_init_54 (setS (S_Gu_init_53 (setS (S_Sh_init_29 (setS (S_Sh_init_5 (setS (S_Rd_init_4 (setS (S_Pg_init_1 (fun _ _ => false)) 0 0)) 0 1)) 0 2)) 0 3)) 0 4) (fresh_mono (N' := 55) (fresh_set (f_Gu_init_53 (fresh_mono (N' := 54) (fresh_set (f_Sh_init_29 (fresh_mono (N' := 30) (fresh_set (f_Sh_init_5 (fresh_mono (N' := 6) (fresh_set (f_Rd_init_4 (fresh_mono (N' := 5) (fresh_set (f_Pg_init_1 (fresh_mono (N' := 2) hf (by decide))) (by decide)) (by decide))) (by decide)) (by decide))) (by decide)) (by decide))) (by decide)) (by decide))) (by decide)) (by decide))) rfl rfl rfl (by decide) (by decide) (by decide) (Nat.le_of_ble_eq_true rfl) d_Co_init_76) ?_
  refine VC_putR X 0 5 rfl ji0 jk0 jn0 (by decide) (by decide) (by decide) rfl hin rfl (ty := .object "MistletoeCourt$Planner") (by decide +kernel) rfl rfl fc_Co_47 d_Co_init_79 (by decide) (by decide) rfl (by decide) rfl ?_
  refine VC_aload_n X 0 d_Co_init_82 rfl ?_
  refine VC_new X 7 rfl ji7 jk7 rfl df_7 cl_Co_51 in_7 iz_7 d_Co_init_83 (by decide) rfl (by decide) (fresh_set (f_Pl_init_54 (fresh_mono (N' := 55) (fresh_set (f_Gu_init_53 (fresh_mono (N' := 54) (fresh_set (f_Sh_init_29 (fresh_mono (N' := 30) (fresh_set (f_Sh_init_5 (fresh_mono (N' := 6) (fresh_set (f_Rd_init_4 (fresh_mono (N' := 5) (fresh_set (f_Pg_init_1 (fresh_mono (N' := 2) hf (by decide))) (by decide)) (by decide))) (by decide)) (by decide))) (by decide)) (by decide))) (by decide)) (by decide))) (by decide)) (by decide))) (by decide)) (by decide) (by decide) ?_
  refine VC_dup X d_Co_init_86 rfl ?_
  refine VC_aload_n X 0 d_Co_init_87 rfl ?_
  refine VC_getR X 0 2 5 rfl ji0 (by decide) (by decide) (by decide) fc_Co_28 d_Co_init_88 (by decide) rfl (by decide) rfl (by decide +kernel) ?_
  refine VC_call X (VC_run X [Value.ref (ad 5)] mt_Cn_init ms_Cn_init ml_Co_53 (k_Cn_init_61 (setS (S_Pl_init_54 (setS (S_Gu_init_53 (setS (S_Sh_init_29 (setS (S_Sh_init_5 (setS (S_Rd_init_4 (setS (S_Pg_init_1 (fun _ _ => false)) 0 0)) 0 1)) 0 2)) 0 3)) 0 4)) 0 5) (fresh_mono (N' := 62) (fresh_set (f_Pl_init_54 (fresh_mono (N' := 55) (fresh_set (f_Gu_init_53 (fresh_mono (N' := 54) (fresh_set (f_Sh_init_29 (fresh_mono (N' := 30) (fresh_set (f_Sh_init_5 (fresh_mono (N' := 6) (fresh_set (f_Rd_init_4 (fresh_mono (N' := 5) (fresh_set (f_Pg_init_1 (fresh_mono (N' := 2) hf (by decide))) (by decide)) (by decide))) (by decide)) (by decide))) (by decide)) (by decide))) (by decide)) (by decide))) (by decide)) (by decide))) (by decide)) (by decide))) rfl rfl rfl (by decide) (by decide) (by decide) (Nat.le_of_ble_eq_true rfl) d_Co_init_91) ?_
  refine VC_putR X 0 6 rfl ji0 jk0 jn0 (by decide) (by decide) (by decide) rfl hin rfl (ty := .object "MistletoeCourt$Contest") (by decide +kernel) rfl rfl fc_Co_54 d_Co_init_94 (by decide) (by decide) rfl (by decide) rfl ?_
  refine VC_aload_n X 0 d_Co_init_97 rfl ?_
  refine VC_new X 8 rfl ji8 jk8 rfl df_8 cl_Co_58 in_8 iz_8 d_Co_init_98 (by decide) rfl (by decide) (fresh_set (f_Cn_init_61 (fresh_mono (N' := 62) (fresh_set (f_Pl_init_54 (fresh_mono (N' := 55) (fresh_set (f_Gu_init_53 (fresh_mono (N' := 54) (fresh_set (f_Sh_init_29 (fresh_mono (N' := 30) (fresh_set (f_Sh_init_5 (fresh_mono (N' := 6) (fresh_set (f_Rd_init_4 (fresh_mono (N' := 5) (fresh_set (f_Pg_init_1 (fresh_mono (N' := 2) hf (by decide))) (by decide)) (by decide))) (by decide)) (by decide))) (by decide)) (by decide))) (by decide)) (by decide))) (by decide)) (by decide))) (by decide)) (by decide))) (by decide)) (by decide) (by decide) ?_
  refine VC_dup X d_Co_init_101 rfl ?_
  refine VC_aload_n X 0 d_Co_init_102 rfl ?_
  refine VC_getR X 0 2 5 rfl ji0 (by decide) (by decide) (by decide) fc_Co_28 d_Co_init_103 (by decide) rfl (by decide) rfl (by decide +kernel) ?_
  refine VC_call X (VC_run X [Value.ref (ad 5)] mt_Fo_init ms_Fo_init ml_Co_60 (k_Fo_init_66 (setS (S_Cn_init_61 (setS (S_Pl_init_54 (setS (S_Gu_init_53 (setS (S_Sh_init_29 (setS (S_Sh_init_5 (setS (S_Rd_init_4 (setS (S_Pg_init_1 (fun _ _ => false)) 0 0)) 0 1)) 0 2)) 0 3)) 0 4)) 0 5)) 0 6) (fresh_mono (N' := 67) (fresh_set (f_Cn_init_61 (fresh_mono (N' := 62) (fresh_set (f_Pl_init_54 (fresh_mono (N' := 55) (fresh_set (f_Gu_init_53 (fresh_mono (N' := 54) (fresh_set (f_Sh_init_29 (fresh_mono (N' := 30) (fresh_set (f_Sh_init_5 (fresh_mono (N' := 6) (fresh_set (f_Rd_init_4 (fresh_mono (N' := 5) (fresh_set (f_Pg_init_1 (fresh_mono (N' := 2) hf (by decide))) (by decide)) (by decide))) (by decide)) (by decide))) (by decide)) (by decide))) (by decide)) (by decide))) (by decide)) (by decide))) (by decide)) (by decide))) (by decide)) (by decide))) rfl rfl rfl (by decide) (by decide) (by decide) (Nat.le_of_ble_eq_true rfl) d_Co_init_106) ?_
  refine VC_putR X 0 7 rfl ji0 jk0 jn0 (by decide) (by decide) (by decide) rfl hin rfl (ty := .object "MistletoeCourt$Foresight") (by decide +kernel) rfl rfl fc_Co_61 d_Co_init_109 (by decide) (by decide) rfl (by decide) rfl ?_
  exact VC_widen (by decide) (by decide) (hQ _ _ d_Co_init_112)
