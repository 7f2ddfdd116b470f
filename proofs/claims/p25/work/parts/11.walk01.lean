set_option maxHeartbeats 4000000 in
set_option maxRecDepth 100000 in
theorem k_In_bitCount (σ : Sg) (a0 : Int32) (r : Int32) (h : In_bitCount a0 = some r) : Evc y_In_bitCount prog_15_method_49_code 1 (some .int) 1 (fun ad => [Value.int a0]) σ σ (fun _ => some (.int r)) := by
  refine Evc_ofI (by decide) (fun ad => Nat.le_of_ble_eq_true rfl) (fun p l e R s m args below meth c D ad cI cB A Q X hQ => ?_)
  have X : Cx p R s m args meth c "java/lang/Integer" prog_15_method_49_code 1 1 D ad cI cB A 0 0 := X
  have hQ := hQ.pure
  have h : wpO (In_bitCount a0) (fun q => q = r) := ⟨_, h, rfl⟩
  rw [In_bitCount] at h
  refine V_sub (lv' := [(0, Value.int a0)]) [0] rfl ?_
  refine V_iload_n X 0 d_In_bitCount_0 rfl ?_
  refine V_iload_n X 0 d_In_bitCount_1 rfl ?_
  refine V_iconst (v := 1) X d_In_bitCount_2 (by decide) ?_
  refine V_iushr X d_In_bitCount_3 ?_
  refine V_ldcw X d_In_bitCount_4 kc_In_265 ?_
  refine V_iand X d_In_bitCount_7 ?_
  refine V_isub X d_In_bitCount_8 ?_
  refine V_istore_n X [(0, Value.int (a0 - (((a0.toUInt32 >>> ((1 : Int32).toUInt32 &&& Int32.toUInt32 31)).toInt32) &&& (1431655765 : Int32))))] d_In_bitCount_9 (by decide) rfl ?_
  refine V_iload_n X 0 d_In_bitCount_10 rfl ?_
  refine V_ldcw X d_In_bitCount_11 kc_In_266 ?_
  refine V_iand X d_In_bitCount_14 ?_
  refine V_iload_n X 0 d_In_bitCount_15 rfl ?_
  refine V_iconst (v := 2) X d_In_bitCount_16 (by decide) ?_
  refine V_iushr X d_In_bitCount_17 ?_
  refine V_ldcw X d_In_bitCount_18 kc_In_266 ?_
  refine V_iand X d_In_bitCount_21 ?_
  refine V_iadd X d_In_bitCount_22 ?_
  refine V_istore_n X [(0, Value.int (((a0 - (((a0.toUInt32 >>> ((1 : Int32).toUInt32 &&& Int32.toUInt32 31)).toInt32) &&& (1431655765 : Int32))) &&& (858993459 : Int32)) + ((((a0 - (((a0.toUInt32 >>> ((1 : Int32).toUInt32 &&& Int32.toUInt32 31)).toInt32) &&& (1431655765 : Int32))).toUInt32 >>> ((2 : Int32).toUInt32 &&& Int32.toUInt32 31)).toInt32) &&& (858993459 : Int32))))] d_In_bitCount_23 (by decide) rfl ?_
  refine V_iload_n X 0 d_In_bitCount_24 rfl ?_
  refine V_iload_n X 0 d_In_bitCount_25 rfl ?_
  refine V_iconst (v := 4) X d_In_bitCount_26 (by decide) ?_
  refine V_iushr X d_In_bitCount_27 ?_
  refine V_iadd X d_In_bitCount_28 ?_
  refine V_ldcw X d_In_bitCount_29 kc_In_267 ?_
  refine V_iand X d_In_bitCount_32 ?_
  refine V_istore_n X [(0, Value.int (((((a0 - (((a0.toUInt32 >>> ((1 : Int32).toUInt32 &&& Int32.toUInt32 31)).toInt32) &&& (1431655765 : Int32))) &&& (858993459 : Int32)) + ((((a0 - (((a0.toUInt32 >>> ((1 : Int32).toUInt32 &&& Int32.toUInt32 31)).toInt32) &&& (1431655765 : Int32))).toUInt32 >>> ((2 : Int32).toUInt32 &&& Int32.toUInt32 31)).toInt32) &&& (858993459 : Int32))) + (((((a0 - (((a0.toUInt32 >>> ((1 : Int32).toUInt32 &&& Int32.toUInt32 31)).toInt32) &&& (1431655765 : Int32))) &&& (858993459 : Int32)) + ((((a0 - (((a0.toUInt32 >>> ((1 : Int32).toUInt32 &&& Int32.toUInt32 31)).toInt32) &&& (1431655765 : Int32))).toUInt32 >>> ((2 : Int32).toUInt32 &&& Int32.toUInt32 31)).toInt32) &&& (858993459 : Int32))).toUInt32 >>> ((4 : Int32).toUInt32 &&& Int32.toUInt32 31)).toInt32)) &&& (252645135 : Int32)))] d_In_bitCount_33 (by decide) rfl ?_
  refine V_iload_n X 0 d_In_bitCount_34 rfl ?_
  refine V_iload_n X 0 d_In_bitCount_35 rfl ?_
  refine V_bipush (v := 8) X d_In_bitCount_36 (by decide) ?_
  refine V_iushr X d_In_bitCount_38 ?_
  refine V_iadd X d_In_bitCount_39 ?_
  refine V_istore_n X [(0, Value.int ((((((a0 - (((a0.toUInt32 >>> ((1 : Int32).toUInt32 &&& Int32.toUInt32 31)).toInt32) &&& (1431655765 : Int32))) &&& (858993459 : Int32)) + ((((a0 - (((a0.toUInt32 >>> ((1 : Int32).toUInt32 &&& Int32.toUInt32 31)).toInt32) &&& (1431655765 : Int32))).toUInt32 >>> ((2 : Int32).toUInt32 &&& Int32.toUInt32 31)).toInt32) &&& (858993459 : Int32))) + (((((a0 - (((a0.toUInt32 >>> ((1 : Int32).toUInt32 &&& Int32.toUInt32 31)).toInt32) &&& (1431655765 : Int32))) &&& (858993459 : Int32)) + ((((a0 - (((a0.toUInt32 >>> ((1 : Int32).toUInt32 &&& Int32.toUInt32 31)).toInt32) &&& (1431655765 : Int32))).toUInt32 >>> ((2 : Int32).toUInt32 &&& Int32.toUInt32 31)).toInt32) &&& (858993459 : Int32))).toUInt32 >>> ((4 : Int32).toUInt32 &&& Int32.toUInt32 31)).toInt32)) &&& (252645135 : Int32)) + (((((((a0 - (((a0.toUInt32 >>> ((1 : Int32).toUInt32 &&& Int32.toUInt32 31)).toInt32) &&& (1431655765 : Int32))) &&& (858993459 : Int32)) + ((((a0 - (((a0.toUInt32 >>> ((1 : Int32).toUInt32 &&& Int32.toUInt32 31)).toInt32) &&& (1431655765 : Int32))).toUInt32 >>> ((2 : Int32).toUInt32 &&& Int32.toUInt32 31)).toInt32) &&& (858993459 : Int32))) + (((((a0 - (((a0.toUInt32 >>> ((1 : Int32).toUInt32 &&& Int32.toUInt32 31)).toInt32) &&& (1431655765 : Int32))) &&& (858993459 : Int32)) + ((((a0 - (((a0.toUInt32 >>> ((1 : Int32).toUInt32 &&& Int32.toUInt32 31)).toInt32) &&& (1431655765 : Int32))).toUInt32 >>> ((2 : Int32).toUInt32 &&& Int32.toUInt32 31)).toInt32) &&& (858993459 : Int32))).toUInt32 >>> ((4 : Int32).toUInt32 &&& Int32.toUInt32 31)).toInt32)) &&& (252645135 : Int32)).toUInt32 >>> ((8 : Int32).toUInt32 &&& Int32.toUInt32 31)).toInt32)))] d_In_bitCount_40 (by decide) rfl ?_
  refine V_iload_n X 0 d_In_bitCount_41 rfl ?_
  refine V_iload_n X 0 d_In_bitCount_42 rfl ?_
  refine V_bipush (v := 16) X d_In_bitCount_43 (by decide) ?_
  refine V_iushr X d_In_bitCount_45 ?_
  refine V_iadd X d_In_bitCount_46 ?_
  refine V_istore_n X [(0, Value.int (((((((a0 - (((a0.toUInt32 >>> ((1 : Int32).toUInt32 &&& Int32.toUInt32 31)).toInt32) &&& (1431655765 : Int32))) &&& (858993459 : Int32)) + ((((a0 - (((a0.toUInt32 >>> ((1 : Int32).toUInt32 &&& Int32.toUInt32 31)).toInt32) &&& (1431655765 : Int32))).toUInt32 >>> ((2 : Int32).toUInt32 &&& Int32.toUInt32 31)).toInt32) &&& (858993459 : Int32))) + (((((a0 - (((a0.toUInt32 >>> ((1 : Int32).toUInt32 &&& Int32.toUInt32 31)).toInt32) &&& (1431655765 : Int32))) &&& (858993459 : Int32)) + ((((a0 - (((a0.toUInt32 >>> ((1 : Int32).toUInt32 &&& Int32.toUInt32 31)).toInt32) &&& (1431655765 : Int32))).toUInt32 >>> ((2 : Int32).toUInt32 &&& Int32.toUInt32 31)).toInt32) &&& (858993459 : Int32))).toUInt32 >>> ((4 : Int32).toUInt32 &&& Int32.toUInt32 31)).toInt32)) &&& (252645135 : Int32)) + (((((((a0 - (((a0.toUInt32 >>> ((1 : Int32).toUInt32 &&& Int32.toUInt32 31)).toInt32) &&& (1431655765 : Int32))) &&& (858993459 : Int32)) + ((((a0 - (((a0.toUInt32 >>> ((1 : Int32).toUInt32 &&& Int32.toUInt32 31)).toInt32) &&& (1431655765 : Int32))).toUInt32 >>> ((2 : Int32).toUInt32 &&& Int32.toUInt32 31)).toInt32) &&& (858993459 : Int32))) + (((((a0 - (((a0.toUInt32 >>> ((1 : Int32).toUInt32 &&& Int32.toUInt32 31)).toInt32) &&& (1431655765 : Int32))) &&& (858993459 : Int32)) + ((((a0 - (((a0.toUInt32 >>> ((1 : Int32).toUInt32 &&& Int32.toUInt32 31)).toInt32) &&& (1431655765 : Int32))).toUInt32 >>> ((2 : Int32).toUInt32 &&& Int32.toUInt32 31)).toInt32) &&& (858993459 : Int32))).toUInt32 >>> ((4 : Int32).toUInt32 &&& Int32.toUInt32 31)).toInt32)) &&& (252645135 : Int32)).toUInt32 >>> ((8 : Int32).toUInt32 &&& Int32.toUInt32 31)).toInt32)) + ((((((((a0 - (((a0.toUInt32 >>> ((1 : Int32).toUInt32 &&& Int32.toUInt32 31)).toInt32) &&& (1431655765 : Int32))) &&& (858993459 : Int32)) + ((((a0 - (((a0.toUInt32 >>> ((1 : Int32).toUInt32 &&& Int32.toUInt32 31)).toInt32) &&& (1431655765 : Int32))).toUInt32 >>> ((2 : Int32).toUInt32 &&& Int32.toUInt32 31)).toInt32) &&& (858993459 : Int32))) + (((((a0 - (((a0.toUInt32 >>> ((1 : Int32).toUInt32 &&& Int32.toUInt32 31)).toInt32) &&& (1431655765 : Int32))) &&& (858993459 : Int32)) + ((((a0 - (((a0.toUInt32 >>> ((1 : Int32).toUInt32 &&& Int32.toUInt32 31)).toInt32) &&& (1431655765 : Int32))).toUInt32 >>> ((2 : Int32).toUInt32 &&& Int32.toUInt32 31)).toInt32) &&& (858993459 : Int32))).toUInt32 >>> ((4 : Int32).toUInt32 &&& Int32.toUInt32 31)).toInt32)) &&& (252645135 : Int32)) + (((((((a0 - (((a0.toUInt32 >>> ((1 : Int32).toUInt32 &&& Int32.toUInt32 31)).toInt32) &&& (1431655765 : Int32))) &&& (858993459 : Int32)) + ((((a0 - (((a0.toUInt32 >>> ((1 : Int32).toUInt32 &&& Int32.toUInt32 31)).toInt32) &&& (1431655765 : Int32))).toUInt32 >>> ((2 : Int32).toUInt32 &&& Int32.toUInt32 31)).toInt32) &&& (858993459 : Int32))) + (((((a0 - (((a0.toUInt32 >>> ((1 : Int32).toUInt32 &&& Int32.toUInt32 31)).toInt32) &&& (1431655765 : Int32))) &&& (858993459 : Int32)) + ((((a0 - (((a0.toUInt32 >>> ((1 : Int32).toUInt32 &&& Int32.toUInt32 31)).toInt32) &&& (1431655765 : Int32))).toUInt32 >>> ((2 : Int32).toUInt32 &&& Int32.toUInt32 31)).toInt32) &&& (858993459 : Int32))).toUInt32 >>> ((4 : Int32).toUInt32 &&& Int32.toUInt32 31)).toInt32)) &&& (252645135 : Int32)).toUInt32 >>> ((8 : Int32).toUInt32 &&& Int32.toUInt32 31)).toInt32)).toUInt32 >>> ((16 : Int32).toUInt32 &&& Int32.toUInt32 31)).toInt32)))] d_In_bitCount_47 (by decide) rfl ?_
  refine V_iload_n X 0 d_In_bitCount_48 rfl ?_
  refine V_bipush (v := 63) X d_In_bitCount_49 (by decide) ?_
  refine V_iand X d_In_bitCount_51 ?_
  have h9 := wp_some h
  exact hQ _ h9 (fun h9 => absurd h9 (by decide)) _ _ d_In_bitCount_52
set_option maxHeartbeats 4000000 in
set_option maxRecDepth 100000 in
theorem k_Sh_years (σ : Sg) (k : Nat) (hl_k : k < 93) (hc_k : jv_cls k = 3) (r : Int32) (h : Sh_years σ k = some r) : Evc y_Sh_years prog_10_method_11_code 1 (some .int) 1 (fun ad => [Value.ref (ad k)]) σ σ (fun _ => some (.int r)) := by
  refine Evc_ofI (by decide) (fun ad => Nat.le_of_ble_eq_true rfl) (fun p l e R s m args below meth c D ad cI cB A Q X hQ => ?_)
  have X : Cx p R s m args meth c jR3 prog_10_method_11_code 1 1 D ad cI cB A 0 0 := X
  have hQ := hQ.pure
  have h : wpO (Sh_years σ k) (fun q => q = r) := ⟨_, h, rfl⟩
  rw [Sh_years] at h
  refine V_sub (lv' := [(0, Value.ref (ad k))]) [0] rfl ?_
  refine V_aload_n X 0 d_Sh_years_0 rfl ?_
  refine V_getI X 3 12 rfl ji3 (by decide) (by decide) (by decide) fl_Sh_58 d_Sh_years_1 hl_k hc_k (by decide) ?_
  have h9 := wp_some h
  exact hQ _ h9 (fun h9 => absurd h9 (by decide)) _ _ d_Sh_years_4
set_option maxHeartbeats 4000000 in
set_option maxRecDepth 100000 in
theorem k_Sh_sightings (σ : Sg) (k : Nat) (hl_k : k < 93) (hc_k : jv_cls k = 3) : Evc y_Sh_sightings prog_10_method_13_code 1 (some (.object "MistletoeCourt$Sightings")) 1 (fun ad => [Value.ref (ad k)]) σ σ (fun ad => some (.ref (ad (k + 17)))) := by
  refine Evc_ofR (by decide) (fun ad => Nat.le_of_ble_eq_true rfl) (fun p l e R s m args below meth c D ad cI cB A Q X hQ => ?_)
  have X : Cx p R s m args meth c jR3 prog_10_method_13_code 1 1 D ad cI cB A 0 0 := X
  refine V_sub (lv' := [(0, Value.ref (ad k))]) [0] rfl ?_
  refine V_aload_n X 0 d_Sh_sightings_0 rfl ?_
  refine V_getR X 3 10 (k + 17) rfl ji3 (by decide) (by decide) (by decide) fl_Sh_44 d_Sh_sightings_1 hl_k hc_k (by decide) (jl_sh10 k hl_k hc_k).2.2 ?_
  exact hQ _ _ d_Sh_sightings_4
set_option maxHeartbeats 4000000 in
set_option maxRecDepth 100000 in
theorem k_Si_size (σ : Sg) (k : Nat) (hl_k : k < 93) (hc_k : jv_cls k = 4) (r : Int32) (h : Si_size σ k = some r) : Evc y_Si_size prog_11_method_2_code 1 (some .int) 1 (fun ad => [Value.ref (ad k)]) σ σ (fun _ => some (.int r)) := by
  refine Evc_ofI (by decide) (fun ad => Nat.le_of_ble_eq_true rfl) (fun p l e R s m args below meth c D ad cI cB A Q X hQ => ?_)
  have X : Cx p R s m args meth c jR4 prog_11_method_2_code 1 1 D ad cI cB A 0 0 := X
  have hQ := hQ.pure
  have h : wpO (Si_size σ k) (fun q => q = r) := ⟨_, h, rfl⟩
  rw [Si_size] at h
  refine V_sub (lv' := [(0, Value.ref (ad k))]) [0] rfl ?_
  refine V_aload_n X 0 d_Si_size_0 rfl ?_
  refine V_getI X 4 3 rfl ji4 (by decide) (by decide) (by decide) fl_Si_26 d_Si_size_1 hl_k hc_k (by decide) ?_
  have h9 := wp_some h
  exact hQ _ h9 (fun h9 => absurd h9 (by decide)) _ _ d_Si_size_4
set_option maxHeartbeats 4000000 in
set_option maxRecDepth 100000 in
theorem k_Pg_size (σ : Sg) (r : Int32) (h : Pg_size σ = some r) : Evc y_Pg_size prog_6_method_2_code 1 (some .int) 1 (fun ad => [Value.ref (ad 1)]) σ σ (fun _ => some (.int r)) := by
  refine Evc_ofI (by decide) (fun ad => Nat.le_of_ble_eq_true rfl) (fun p l e R s m args below meth c D ad cI cB A Q X hQ => ?_)
  have X : Cx p R s m args meth c jR1 prog_6_method_2_code 1 1 D ad cI cB A 0 0 := X
  have hQ := hQ.pure
  have h : wpO (Pg_size σ) (fun q => q = r) := ⟨_, h, rfl⟩
  rw [Pg_size] at h
  refine V_sub (lv' := [(0, Value.ref (ad 1))]) [0] rfl ?_
  refine V_aload_n X 0 d_Pg_size_0 rfl ?_
  refine V_getI X 1 1 rfl ji1 (by decide) (by decide) (by decide) fl_Pg_20 d_Pg_size_1 (by decide) (by decide) (by decide) ?_
  have h9 := wp_some h
  exact hQ _ h9 (fun h9 => absurd h9 (by decide)) _ _ d_Pg_size_4
set_option maxHeartbeats 4000000 in
set_option maxRecDepth 100000 in
theorem k_Co_count (fu : Nat) (σ : Sg) (a0 : Int32) (r : Int32) (h : Co_count fu σ a0 = some r) : Evc y_Co_count prog_1_method_22_code 2 (some .int) 4 (fun ad => [Value.ref (ad 0), Value.int a0]) σ σ (fun _ => some (.int r)) := by
  refine Evc_ofI (by decide) (fun ad => Nat.le_of_ble_eq_true rfl) (fun p l e R s m args below meth c D ad cI cB A Q X hQ => ?_)
  have X : Cx p R s m args meth c jR0 prog_1_method_22_code 2 4 D ad cI cB A 0 0 := X
  have hQ := hQ.pure
  have h : wpO (Co_count fu σ a0) (fun q => q = r) := ⟨_, h, rfl⟩
  rw [Co_count] at h
  refine V_sub (lv' := [(0, Value.ref (ad 0)), (1, Value.int a0)]) [0, 1] rfl ?_
  refine V_iload_n X 1 d_Co_count_0 rfl ?_
  rcases wp_case h with ⟨c1, h⟩ | ⟨c1, h⟩
  · skip
    refine V_tableIn X 63 64 d_Co_count_1 (0) (by rw [c1]; decide) (by decide) (by decide) rfl (by decide) ?_
    refine V_aload_n X 0 d_Co_count_64 rfl ?_
    refine V_getR X 0 2 5 rfl ji0 (by decide) (by decide) (by decide) fl_Co_28 d_Co_count_65 (by decide) (by decide) (by decide) (by decide) ?_
    refine V_cI X h (fun r2 q => C_V (q := 3) X [] mt_Sh_trees ms_Sh_trees ml_Co_241 (k_Sh_trees σ 5 (by decide) (by decide) r2 q) rfl rfl (by omega) (Nat.le_of_ble_eq_true rfl) rfl (by decide) (by decide) (by decide) d_Co_count_68) (fun r2 h => ?_)
    have h9 := wp_some h
    exact hQ _ h9 (fun h9 => absurd h9 (by decide)) _ _ d_Co_count_71
  · skip
    rcases wp_case h with ⟨c3, h⟩ | ⟨c3, h⟩
    · skip
      refine V_tableIn X 71 72 d_Co_count_1 (1) (by rw [c3]; decide) (by decide) (by decide) rfl (by decide) ?_
      refine V_aload_n X 0 d_Co_count_72 rfl ?_
      refine V_getR X 0 2 5 rfl ji0 (by decide) (by decide) (by decide) fl_Co_28 d_Co_count_73 (by decide) (by decide) (by decide) (by decide) ?_
      refine V_cI X h (fun r4 q => C_V (q := 3) X [] mt_Sh_suits ms_Sh_suits ml_Co_94 (k_Sh_suits σ 5 (by decide) (by decide) r4 q) rfl rfl (by omega) (Nat.le_of_ble_eq_true rfl) rfl (by decide) (by decide) (by decide) d_Co_count_76) (fun r4 h => ?_)
      have h9 := wp_some h
      exact hQ _ h9 (fun h9 => absurd h9 (by decide)) _ _ d_Co_count_79
    · skip
      rcases wp_case h with ⟨c5, h⟩ | ⟨c5, h⟩
      · skip
        refine V_tableIn X 79 80 d_Co_count_1 (2) (by rw [c5]; decide) (by decide) (by decide) rfl (by decide) ?_
        refine V_aload_n X 0 d_Co_count_80 rfl ?_
        refine V_getR X 0 2 5 rfl ji0 (by decide) (by decide) (by decide) fl_Co_28 d_Co_count_81 (by decide) (by decide) (by decide) (by decide) ?_
        refine V_cI X h (fun r6 q => C_V (q := 3) X [] mt_Sh_allBerries ms_Sh_allBerries ml_Co_244 (k_Sh_allBerries fu σ 5 (by decide) (by decide) r6 q) rfl rfl (by omega) (Nat.le_of_ble_eq_true rfl) rfl (by decide) (by decide) (by decide) d_Co_count_84) (fun r6 h => ?_)
        have h9 := wp_some h
        exact hQ _ h9 (fun h9 => absurd h9 (by decide)) _ _ d_Co_count_87
      · skip
        rcases wp_case h with ⟨c7, h⟩ | ⟨c7, h⟩
        · skip
          refine V_tableIn X 87 88 d_Co_count_1 (3) (by rw [c7]; decide) (by decide) (by decide) rfl (by decide) ?_
          refine V_aload_n X 0 d_Co_count_88 rfl ?_
          refine V_getR X 0 2 5 rfl ji0 (by decide) (by decide) (by decide) fl_Co_28 d_Co_count_89 (by decide) (by decide) (by decide) (by decide) ?_
          refine V_cI X h (fun r8 q => C_V (q := 3) X [] mt_Sh_allBirds ms_Sh_allBirds ml_Co_247 (k_Sh_allBirds fu σ 5 (by decide) (by decide) r8 q) rfl rfl (by omega) (Nat.le_of_ble_eq_true rfl) rfl (by decide) (by decide) (by decide) d_Co_count_92) (fun r8 h => ?_)
          have h9 := wp_some h
          exact hQ _ h9 (fun h9 => absurd h9 (by decide)) _ _ d_Co_count_95
        · skip
          rcases wp_case h with ⟨c9, h⟩ | ⟨c9, h⟩
          · skip
            refine V_tableIn X 95 96 d_Co_count_1 (4) (by rw [c9]; decide) (by decide) (by decide) rfl (by decide) ?_
            refine V_aload_n X 0 d_Co_count_96 rfl ?_
            refine V_getR X 0 2 5 rfl ji0 (by decide) (by decide) (by decide) fl_Co_28 d_Co_count_97 (by decide) (by decide) (by decide) (by decide) ?_
            refine V_cI X h (fun r10 q => C_V (q := 3) X [] mt_Sh_righted ms_Sh_righted ml_Co_129 (k_Sh_righted σ 5 (by decide) (by decide) r10 q) rfl rfl (by omega) (Nat.le_of_ble_eq_true rfl) rfl (by decide) (by decide) (by decide) d_Co_count_100) (fun r10 h => ?_)
            refine V_cI X h (fun r11 q => C_S X [Value.int r10] mt_In_bitCount ms_In_bitCount ml_Co_250 (k_In_bitCount σ r10 r11 q) rfl rfl (by omega) (Nat.le_of_ble_eq_true rfl) d_Co_count_103) (fun r11 h => ?_)
            have h9 := wp_some h
            exact hQ _ h9 (fun h9 => absurd h9 (by decide)) _ _ d_Co_count_106
          · skip
            rcases wp_case h with ⟨c12, h⟩ | ⟨c12, h⟩
            · skip
              refine V_tableIn X 106 107 d_Co_count_1 (5) (by rw [c12]; decide) (by decide) (by decide) rfl (by decide) ?_
              refine V_aload_n X 0 d_Co_count_107 rfl ?_
              refine V_getR X 0 2 5 rfl ji0 (by decide) (by decide) (by decide) fl_Co_28 d_Co_count_108 (by decide) (by decide) (by decide) (by decide) ?_
              refine V_cI X h (fun r13 q => C_V (q := 3) X [] mt_Sh_holds ms_Sh_holds ml_Co_180 (k_Sh_holds fu σ 5 (by decide) (by decide) r13 q) rfl rfl (by omega) (Nat.le_of_ble_eq_true rfl) rfl (by decide) (by decide) (by decide) d_Co_count_111) (fun r13 h => ?_)
              have h9 := wp_some h
              exact hQ _ h9 (fun h9 => absurd h9 (by decide)) _ _ d_Co_count_114
            · skip
              rcases wp_case h with ⟨c14, h⟩ | ⟨c14, h⟩
              · skip
                refine V_tableIn X 114 115 d_Co_count_1 (6) (by rw [c14]; decide) (by decide) (by decide) rfl (by decide) ?_
                refine V_aload_n X 0 d_Co_count_115 rfl ?_
                refine V_getR X 0 2 5 rfl ji0 (by decide) (by decide) (by decide) fl_Co_28 d_Co_count_116 (by decide) (by decide) (by decide) (by decide) ?_
                refine V_cI X h (fun r15 q => C_V (q := 3) X [] mt_Sh_years ms_Sh_years ml_Co_164 (k_Sh_years σ 5 (by decide) (by decide) r15 q) rfl rfl (by omega) (Nat.le_of_ble_eq_true rfl) rfl (by decide) (by decide) (by decide) d_Co_count_119) (fun r15 h => ?_)
                have h9 := wp_some h
                exact hQ _ h9 (fun h9 => absurd h9 (by decide)) _ _ d_Co_count_122
              · skip
                rcases wp_case h with ⟨c16, h⟩ | ⟨c16, h⟩
                · skip
                  refine V_tableIn X 122 123 d_Co_count_1 (7) (by rw [c16]; decide) (by decide) (by decide) rfl (by decide) ?_
                  refine V_aload_n X 0 d_Co_count_123 rfl ?_
                  refine V_getR X 0 2 5 rfl ji0 (by decide) (by decide) (by decide) fl_Co_28 d_Co_count_124 (by decide) (by decide) (by decide) (by decide) ?_
                  refine V_cI X h (fun r17 q => C_V (q := 3) X [] mt_Sh_rightings ms_Sh_rightings ml_Co_154 (k_Sh_rightings σ 5 (by decide) (by decide) r17 q) rfl rfl (by omega) (Nat.le_of_ble_eq_true rfl) rfl (by decide) (by decide) (by decide) d_Co_count_127) (fun r17 h => ?_)
                  have h9 := wp_some h
                  exact hQ _ h9 (fun h9 => absurd h9 (by decide)) _ _ d_Co_count_130
                · skip
                  rcases wp_case h with ⟨c18, h⟩ | ⟨c18, h⟩
                  · skip
                    refine V_tableIn X 130 131 d_Co_count_1 (8) (by rw [c18]; decide) (by decide) (by decide) rfl (by decide) ?_
                    refine V_aload_n X 0 d_Co_count_131 rfl ?_
                    refine V_getR X 0 2 5 rfl ji0 (by decide) (by decide) (by decide) fl_Co_28 d_Co_count_132 (by decide) (by decide) (by decide) (by decide) ?_
                    refine V_cR (t := 22) X (C_V (q := 3) X [] mt_Sh_sightings ms_Sh_sightings ml_Co_219 (k_Sh_sightings σ 5 (by decide) (by decide)) rfl rfl (by omega) (Nat.le_of_ble_eq_true rfl) rfl (by decide) (by decide) (by decide) d_Co_count_135) ?_
                    refine V_cI X h (fun r19 q => C_V (q := 4) X [] mt_Si_size ms_Si_size ml_Co_223 (k_Si_size σ 22 (by decide) (by decide) r19 q) rfl rfl (by omega) (Nat.le_of_ble_eq_true rfl) rfl (by decide) (by decide) (by decide) d_Co_count_138) (fun r19 h => ?_)
                    have h9 := wp_some h
                    exact hQ _ h9 (fun h9 => absurd h9 (by decide)) _ _ d_Co_count_141
                  · skip
                    rcases wp_case h with ⟨c20, h⟩ | ⟨c20, h⟩
                    · skip
                      refine V_tableIn X 141 142 d_Co_count_1 (9) (by rw [c20]; decide) (by decide) (by decide) rfl (by decide) ?_
                      refine V_aload_n X 0 d_Co_count_142 rfl ?_
                      refine V_getR X 0 0 1 rfl ji0 (by decide) (by decide) (by decide) fl_Co_10 d_Co_count_143 (by decide) (by decide) (by decide) (by decide) ?_
                      refine V_cI X h (fun r21 q => C_V (q := 1) X [] mt_Pg_size ms_Pg_size ml_Co_65 (k_Pg_size σ r21 q) rfl rfl (by omega) (Nat.le_of_ble_eq_true rfl) rfl (by decide) (by decide) (by decide) d_Co_count_146) (fun r21 h => ?_)
                      have h9 := wp_some h
                      exact hQ _ h9 (fun h9 => absurd h9 (by decide)) _ _ d_Co_count_149
                    · skip
                      rcases wp_case h with ⟨c22, h⟩ | ⟨c22, h⟩
                      · skip
                        refine V_tableIn X 149 150 d_Co_count_1 (10) (by rw [c22]; decide) (by decide) (by decide) rfl (by decide) ?_
                        refine V_aload_n X 0 d_Co_count_150 rfl ?_
                        refine V_getI X 0 9 rfl ji0 (by decide) (by decide) (by decide) fl_Co_90 d_Co_count_151 (by decide) (by decide) (by decide) ?_
                        have h9 := wp_some h
                        exact hQ _ h9 (fun h9 => absurd h9 (by decide)) _ _ d_Co_count_154
                      · skip
                        rcases wp_case h with ⟨c23, h⟩ | ⟨c23, h⟩
                        · skip
                          refine V_tableIn X 154 155 d_Co_count_1 (11) (by rw [c23]; decide) (by decide) (by decide) rfl (by decide) ?_
                          refine V_aload_n X 0 d_Co_count_155 rfl ?_
                          refine V_getI X 0 10 rfl ji0 (by decide) (by decide) (by decide) fl_Co_183 d_Co_count_156 (by decide) (by decide) (by decide) ?_
                          have h9 := wp_some h
                          exact hQ _ h9 (fun h9 => absurd h9 (by decide)) _ _ d_Co_count_159
                        · skip
                          refine V_tableOut X 160 d_Co_count_1 (by have z0 := sw_ne c1 (0) (by decide); have z1 := sw_ne c3 (1) (by decide); have z2 := sw_ne c5 (2) (by decide); have z3 := sw_ne c7 (3) (by decide); have z4 := sw_ne c9 (4) (by decide); have z5 := sw_ne c12 (5) (by decide); have z6 := sw_ne c14 (6) (by decide); have z7 := sw_ne c16 (7) (by decide); have z8 := sw_ne c18 (8) (by decide); have z9 := sw_ne c20 (9) (by decide); have z10 := sw_ne c22 (10) (by decide); have z11 := sw_ne c23 (11) (by decide); omega) (by decide) ?_
                          refine V_bipush (v := -102) X d_Co_count_160 (by decide) ?_
                          have h9 := wp_some h
                          exact hQ _ h9 (fun h9 => absurd h9 (by decide)) _ _ d_Co_count_162
set_option maxHeartbeats 4000000 in
set_option maxRecDepth 100000 in
theorem k_Pg_code (σ : Sg) (a0 : Int32) (r : Int32) (h : Pg_code σ a0 = some r) : Evc y_Pg_code prog_6_method_3_code 2 (some .int) 2 (fun ad => [Value.ref (ad 1), Value.int a0]) σ σ (fun _ => some (.int r)) := by
  refine Evc_ofI (by decide) (fun ad => Nat.le_of_ble_eq_true rfl) (fun p l e R s m args below meth c D ad cI cB A Q X hQ => ?_)
  have X : Cx p R s m args meth c jR1 prog_6_method_3_code 2 2 D ad cI cB A 0 0 := X
  have hQ := hQ.pure
  have h : wpO (Pg_code σ a0) (fun q => q = r) := ⟨_, h, rfl⟩
  rw [Pg_code] at h
  refine V_sub (lv' := [(0, Value.ref (ad 1)), (1, Value.int a0)]) [0, 1] rfl ?_
  refine V_aload_n X 0 d_Pg_code_0 rfl ?_
  refine V_getR X 1 0 2 rfl ji1 (by decide) (by decide) (by decide) fl_Pg_14 d_Pg_code_1 (by decide) (by decide) (by decide) (by decide) ?_
  refine V_iload_n X 1 d_Pg_code_4 rfl ?_
  refine V_cI X h (fun r1 q => C_V (q := 9) X [Value.int a0] mt_Rw_at ms_Rw_at ml_Pg_24 (k_Rw_at σ 2 (by decide) (by decide) a0 r1 q) rfl rfl (by omega) (Nat.le_of_ble_eq_true rfl) rfl (by decide) (by decide) (by decide) d_Pg_code_5) (fun r1 h => ?_)
  have h9 := wp_some h
  exact hQ _ h9 (fun h9 => absurd h9 (by decide)) _ _ d_Pg_code_8
set_option maxHeartbeats 4000000 in
set_option maxRecDepth 100000 in
theorem k_Rd_isDigit (σ : Sg) (a0 : Int32) (a1 : Int32) (a2 : Int32) (r : Int32) (h : Rd_isDigit a0 a1 a2 = some r) : Evc y_Rd_isDigit prog_8_method_10_code 3 (some .boolean) 1 (fun ad => [Value.int a0, Value.int a1, Value.int a2]) σ σ (fun _ => some (.int r)) := by
  refine Evc_ofZ (by decide) (fun ad => Nat.le_of_ble_eq_true rfl) (fun p l e R s m args below meth c D ad cI cB A Q X hQ => ?_)
  have X : Cx p R s m args meth c jR2 prog_8_method_10_code 3 1 D ad cI cB A 0 0 := X
  have hQ := hQ.pure
  have h : wpO (Rd_isDigit a0 a1 a2) (fun q => q = r) := ⟨_, h, rfl⟩
  rw [Rd_isDigit] at h
  refine V_sub (lv' := [(0, Value.int a0), (1, Value.int a1), (2, Value.int a2)]) [0, 1, 2] rfl ?_
  refine V_iload_n X 0 d_Rd_isDigit_0 rfl ?_
  refine V_bipush (v := 48) X d_Rd_isDigit_1 (by decide) ?_
  refine V_iload_n X 1 d_Rd_isDigit_3 rfl ?_
  refine V_iadd X d_Rd_isDigit_4 ?_
  refine V_icmp_lt X 20 d_Rd_isDigit_5 (by decide) h (fun c1 h => ?_) (fun c1 h => ?_)
  · skip
    refine V_iconst (v := 0) X d_Rd_isDigit_20 (by decide) ?_
    have h9 := wp_some h
    exact hQ _ h9 (fun _ => by decide) _ _ d_Rd_isDigit_21
  · skip
    refine V_iload_n X 0 d_Rd_isDigit_8 rfl ?_
    refine V_bipush (v := 48) X d_Rd_isDigit_9 (by decide) ?_
    refine V_iload_n X 2 d_Rd_isDigit_11 rfl ?_
    refine V_iadd X d_Rd_isDigit_12 ?_
    refine V_icmp_gt X 20 d_Rd_isDigit_13 (by decide) h (fun c2 h => ?_) (fun c2 h => ?_)
    · skip
      refine V_iconst (v := 0) X d_Rd_isDigit_20 (by decide) ?_
      have h9 := wp_some h
      exact hQ _ h9 (fun _ => by decide) _ _ d_Rd_isDigit_21
    · skip
      refine V_iconst (v := 1) X d_Rd_isDigit_16 (by decide) ?_
      refine V_goto X 21 d_Rd_isDigit_17 (by decide) ?_
      have h9 := wp_some h
      exact hQ _ h9 (fun _ => by decide) _ _ d_Rd_isDigit_21
set_option maxHeartbeats 4000000 in
set_option maxRecDepth 100000 in
theorem k_Rd_goesOn (σ : Sg) (a0 : Int32) (a1 : Int32) (r : Int32) (σ' : Sg) (h : Rd_goesOn σ a0 a1 = some (r, σ')) : Evc y_Rd_goesOn prog_8_method_9_code 3 (some .boolean) 1 (fun ad => [Value.ref (ad 4), Value.int a0, Value.int a1]) σ σ' (fun _ => some (.int r)) := by
  refine Evc_ofZ (by decide) (fun ad => Nat.le_of_ble_eq_true rfl) (fun p l e R s m args below meth c D ad cI cB A Q X hQ => ?_)
  have X : Cx p R s m args meth c jR2 prog_8_method_9_code 3 1 D ad cI cB A 0 0 := X
  have h : wpO (Rd_goesOn σ a0 a1) (fun q => q = (r, σ')) := ⟨_, h, rfl⟩
  rw [Rd_goesOn] at h
  refine V_sub (lv' := [(0, Value.ref (ad 4)), (1, Value.int a0), (2, Value.int a1)]) [0, 1, 2] rfl ?_
  refine V_iload_n X 1 d_Rd_goesOn_0 rfl ?_
  refine V_if_eq X 9 d_Rd_goesOn_1 (by decide) h (fun c1 h => ?_) (fun c1 h => ?_)
  · skip
    refine V_iload_n X 1 d_Rd_goesOn_9 rfl ?_
    obtain ⟨hz, h⟩ := wp_if h
    have h9 := wp_some h
    exact hQ _ _ h9 (fun _ => hz) _ _ d_Rd_goesOn_10
  · skip
    refine V_aload_n X 0 d_Rd_goesOn_4 rfl ?_
    refine V_iload_n X 2 d_Rd_goesOn_5 rfl ?_
    refine V_putI X 2 1 rfl ji2 jk2 jn2 (by decide) (by decide) (by decide) rfl (by decide +kernel) fl_Rd_15 d_Rd_goesOn_6 (by decide) (by decide) (by decide) ?_
    refine V_iload_n X 1 d_Rd_goesOn_9 rfl ?_
    obtain ⟨hz, h⟩ := wp_if h
    have h9 := wp_some h
    exact hQ _ _ h9 (fun _ => hz) _ _ d_Rd_goesOn_10
set_option maxHeartbeats 4000000 in
set_option maxRecDepth 100000 in
theorem k_Rd_takesDigitOfTree (σ : Sg) (a0 : Int32) (r : Int32) (σ' : Sg) (h : Rd_takesDigitOfTree σ a0 = some (r, σ')) : Evc y_Rd_takesDigitOfTree prog_8_method_6_code 3 (some .boolean) 2 (fun ad => [Value.ref (ad 4), Value.int a0]) σ σ' (fun _ => some (.int r)) := by
  refine Evc_ofZ (by decide) (fun ad => Nat.le_of_ble_eq_true rfl) (fun p l e R s m args below meth c D ad cI cB A Q X hQ => ?_)
  have X : Cx p R s m args meth c jR2 prog_8_method_6_code 3 2 D ad cI cB A 0 0 := X
  have h : wpO (Rd_takesDigitOfTree σ a0) (fun q => q = (r, σ')) := ⟨_, h, rfl⟩
  rw [Rd_takesDigitOfTree] at h
  refine V_sub (lv' := [(0, Value.ref (ad 4)), (1, Value.int a0)]) [0, 1] rfl ?_
  refine V_iload_n X 1 d_Rd_takesDigitOfTree_0 rfl ?_
  refine V_iconst (v := 0) X d_Rd_takesDigitOfTree_1 (by decide) ?_
  refine V_bipush (v := 9) X d_Rd_takesDigitOfTree_2 (by decide) ?_
  refine V_cI X h (fun r1 q => C_S X [Value.int a0, Value.int (0 : Int32), Value.int (9 : Int32)] mt_Rd_isDigit ms_Rd_isDigit ml_Rd_75 (k_Rd_isDigit σ a0 (0 : Int32) (9 : Int32) r1 q) rfl rfl (by omega) (Nat.le_of_ble_eq_true rfl) d_Rd_takesDigitOfTree_4) (fun r1 h => ?_)
  refine V_istore_n X [(2, Value.int r1), (0, Value.ref (ad 4)), (1, Value.int a0)] d_Rd_takesDigitOfTree_7 (by decide) rfl ?_
  refine V_aload_n X 1 d_Rd_takesDigitOfTree_8 rfl ?_
  refine V_getI X 2 1 rfl ji2 (by decide) (by decide) (by decide) fl_Rd_15 d_Rd_takesDigitOfTree_9 (by decide) (by decide) (by decide) ?_
  refine V_if_ne X 22 d_Rd_takesDigitOfTree_12 (by decide) h (fun c2 h => ?_) (fun c2 h => ?_)
  · skip
    refine V_aload_n X 1 d_Rd_takesDigitOfTree_22 rfl ?_
    refine V_dup X d_Rd_takesDigitOfTree_23 rfl ?_
    refine V_getI X 2 2 rfl ji2 (by decide) (by decide) (by decide) fl_Rd_19 d_Rd_takesDigitOfTree_24 (by decide) (by decide) (by decide) ?_
    refine V_iload_n X 0 d_Rd_takesDigitOfTree_27 rfl ?_
    refine V_if_eq X 35 d_Rd_takesDigitOfTree_28 (by decide) h (fun c3 h => ?_) (fun c3 h => ?_)
    · skip
      refine V_iconst (v := 0) X d_Rd_takesDigitOfTree_35 (by decide) ?_
      refine V_iadd X d_Rd_takesDigitOfTree_36 ?_
      refine V_putI X 2 2 rfl ji2 jk2 jn2 (by decide) (by decide) (by decide) rfl (by decide +kernel) fl_Rd_19 d_Rd_takesDigitOfTree_37 (by decide) (by decide) (by decide) ?_
      refine V_aload_n X 1 d_Rd_takesDigitOfTree_40 rfl ?_
      refine V_iload_n X 0 d_Rd_takesDigitOfTree_41 rfl ?_
      refine V_iconst (v := 2) X d_Rd_takesDigitOfTree_42 (by decide) ?_
      refine V_cP X h (fun r4 s5 q => C_V (q := 2) X [Value.int r1, Value.int (2 : Int32)] mt_Rd_goesOn ms_Rd_goesOn ml_Rd_71 (k_Rd_goesOn (sF σ 4 2 ((gF σ 4 2) + (0 : Int32))) r1 (2 : Int32) r4 s5 q) rfl rfl (by omega) (Nat.le_of_ble_eq_true rfl) rfl (by decide) (by decide) (by decide) d_Rd_takesDigitOfTree_43) (fun r4 s5 h => ?_)
      obtain ⟨hz, h⟩ := wp_if h
      have h9 := wp_some h
      exact hQ _ _ h9 (fun _ => hz) _ _ d_Rd_takesDigitOfTree_46
    · skip
      refine V_iconst (v := 1) X d_Rd_takesDigitOfTree_31 (by decide) ?_
      refine V_goto X 36 d_Rd_takesDigitOfTree_32 (by decide) ?_
      refine V_iadd X d_Rd_takesDigitOfTree_36 ?_
      refine V_putI X 2 2 rfl ji2 jk2 jn2 (by decide) (by decide) (by decide) rfl (by decide +kernel) fl_Rd_19 d_Rd_takesDigitOfTree_37 (by decide) (by decide) (by decide) ?_
      refine V_aload_n X 1 d_Rd_takesDigitOfTree_40 rfl ?_
      refine V_iload_n X 0 d_Rd_takesDigitOfTree_41 rfl ?_
      refine V_iconst (v := 2) X d_Rd_takesDigitOfTree_42 (by decide) ?_
      refine V_cP X h (fun r6 s7 q => C_V (q := 2) X [Value.int r1, Value.int (2 : Int32)] mt_Rd_goesOn ms_Rd_goesOn ml_Rd_71 (k_Rd_goesOn (sF σ 4 2 ((gF σ 4 2) + (1 : Int32))) r1 (2 : Int32) r6 s7 q) rfl rfl (by omega) (Nat.le_of_ble_eq_true rfl) rfl (by decide) (by decide) (by decide) d_Rd_takesDigitOfTree_43) (fun r6 s7 h => ?_)
      obtain ⟨hz, h⟩ := wp_if h
      have h9 := wp_some h
      exact hQ _ _ h9 (fun _ => hz) _ _ d_Rd_takesDigitOfTree_46
  · skip
    refine V_aload_n X 1 d_Rd_takesDigitOfTree_15 rfl ?_
    refine V_iload_n X 0 d_Rd_takesDigitOfTree_16 rfl ?_
    refine V_iconst (v := 1) X d_Rd_takesDigitOfTree_17 (by decide) ?_
    refine V_cP X h (fun r8 s9 q => C_V (q := 2) X [Value.int r1, Value.int (1 : Int32)] mt_Rd_goesOn ms_Rd_goesOn ml_Rd_71 (k_Rd_goesOn σ r1 (1 : Int32) r8 s9 q) rfl rfl (by omega) (Nat.le_of_ble_eq_true rfl) rfl (by decide) (by decide) (by decide) d_Rd_takesDigitOfTree_18) (fun r8 s9 h => ?_)
    obtain ⟨hz, h⟩ := wp_if h
    have h9 := wp_some h
    exact hQ _ _ h9 (fun _ => hz) _ _ d_Rd_takesDigitOfTree_21
set_option maxHeartbeats 4000000 in
set_option maxRecDepth 100000 in
theorem k_Rd_takesTreeEnd (σ : Sg) (a0 : Int32) (r : Int32) (σ' : Sg) (h : Rd_takesTreeEnd σ a0 = some (r, σ')) : Evc y_Rd_takesTreeEnd prog_8_method_7_code 2 (some .boolean) 2 (fun ad => [Value.ref (ad 4), Value.int a0]) σ σ' (fun _ => some (.int r)) := by
  refine Evc_ofZ (by decide) (fun ad => Nat.le_of_ble_eq_true rfl) (fun p l e R s m args below meth c D ad cI cB A Q X hQ => ?_)
  have X : Cx p R s m args meth c jR2 prog_8_method_7_code 2 2 D ad cI cB A 0 0 := X
  have h : wpO (Rd_takesTreeEnd σ a0) (fun q => q = (r, σ')) := ⟨_, h, rfl⟩
  rw [Rd_takesTreeEnd] at h
  refine V_sub (lv' := [(0, Value.ref (ad 4)), (1, Value.int a0)]) [0, 1] rfl ?_
  refine V_iload_n X 1 d_Rd_takesTreeEnd_0 rfl ?_
  refine V_bipush (v := 59) X d_Rd_takesTreeEnd_1 (by decide) ?_
  refine V_icmp_ne X 13 d_Rd_takesTreeEnd_3 (by decide) h (fun c1 h => ?_) (fun c1 h => ?_)
  · skip
    refine V_aload_n X 0 d_Rd_takesTreeEnd_13 rfl ?_
    refine V_iload_n X 1 d_Rd_takesTreeEnd_14 rfl ?_
    refine V_bipush (v := 44) X d_Rd_takesTreeEnd_15 (by decide) ?_
    refine V_icmp_ne X 32 d_Rd_takesTreeEnd_17 (by decide) h (fun c2 h => ?_) (fun c2 h => ?_)
    · skip
      refine V_iconst (v := 0) X d_Rd_takesTreeEnd_32 (by decide) ?_
      refine V_iconst (v := 0) X d_Rd_takesTreeEnd_33 (by decide) ?_
      refine V_cP X h (fun r3 s4 q => C_V (q := 2) X [Value.int (0 : Int32), Value.int (0 : Int32)] mt_Rd_goesOn ms_Rd_goesOn ml_Rd_71 (k_Rd_goesOn σ (0 : Int32) (0 : Int32) r3 s4 q) rfl rfl (by omega) (Nat.le_of_ble_eq_true rfl) rfl (by decide) (by decide) (by decide) d_Rd_takesTreeEnd_34) (fun r3 s4 h => ?_)
      obtain ⟨hz, h⟩ := wp_if h
      have h9 := wp_some h
      exact hQ _ _ h9 (fun _ => hz) _ _ d_Rd_takesTreeEnd_37
    · skip
      refine V_aload_n X 0 d_Rd_takesTreeEnd_20 rfl ?_
      refine V_getI X 2 2 rfl ji2 (by decide) (by decide) (by decide) fl_Rd_19 d_Rd_takesTreeEnd_21 (by decide) (by decide) (by decide) ?_
      refine V_iconst (v := 3) X d_Rd_takesTreeEnd_24 (by decide) ?_
      refine V_icmp_ge X 32 d_Rd_takesTreeEnd_25 (by decide) h (fun c5 h => ?_) (fun c5 h => ?_)
      · skip
        refine V_iconst (v := 0) X d_Rd_takesTreeEnd_32 (by decide) ?_
        refine V_iconst (v := 0) X d_Rd_takesTreeEnd_33 (by decide) ?_
        refine V_cP X h (fun r6 s7 q => C_V (q := 2) X [Value.int (0 : Int32), Value.int (0 : Int32)] mt_Rd_goesOn ms_Rd_goesOn ml_Rd_71 (k_Rd_goesOn σ (0 : Int32) (0 : Int32) r6 s7 q) rfl rfl (by omega) (Nat.le_of_ble_eq_true rfl) rfl (by decide) (by decide) (by decide) d_Rd_takesTreeEnd_34) (fun r6 s7 h => ?_)
        obtain ⟨hz, h⟩ := wp_if h
        have h9 := wp_some h
        exact hQ _ _ h9 (fun _ => hz) _ _ d_Rd_takesTreeEnd_37
      · skip
        refine V_iconst (v := 1) X d_Rd_takesTreeEnd_28 (by decide) ?_
        refine V_goto X 33 d_Rd_takesTreeEnd_29 (by decide) ?_
        refine V_iconst (v := 0) X d_Rd_takesTreeEnd_33 (by decide) ?_
        refine V_cP X h (fun r8 s9 q => C_V (q := 2) X [Value.int (1 : Int32), Value.int (0 : Int32)] mt_Rd_goesOn ms_Rd_goesOn ml_Rd_71 (k_Rd_goesOn σ (1 : Int32) (0 : Int32) r8 s9 q) rfl rfl (by omega) (Nat.le_of_ble_eq_true rfl) rfl (by decide) (by decide) (by decide) d_Rd_takesTreeEnd_34) (fun r8 s9 h => ?_)
        obtain ⟨hz, h⟩ := wp_if h
        have h9 := wp_some h
        exact hQ _ _ h9 (fun _ => hz) _ _ d_Rd_takesTreeEnd_37
  · skip
    refine V_aload_n X 0 d_Rd_takesTreeEnd_6 rfl ?_
    refine V_iconst (v := 1) X d_Rd_takesTreeEnd_7 (by decide) ?_
    refine V_iconst (v := 3) X d_Rd_takesTreeEnd_8 (by decide) ?_
    refine V_cP X h (fun r10 s11 q => C_V (q := 2) X [Value.int (1 : Int32), Value.int (3 : Int32)] mt_Rd_goesOn ms_Rd_goesOn ml_Rd_71 (k_Rd_goesOn σ (1 : Int32) (3 : Int32) r10 s11 q) rfl rfl (by omega) (Nat.le_of_ble_eq_true rfl) rfl (by decide) (by decide) (by decide) d_Rd_takesTreeEnd_9) (fun r10 s11 h => ?_)
    obtain ⟨hz, h⟩ := wp_if h
    have h9 := wp_some h
    exact hQ _ _ h9 (fun _ => hz) _ _ d_Rd_takesTreeEnd_12
set_option maxHeartbeats 4000000 in
set_option maxRecDepth 100000 in
theorem k_Rd_takesHang (σ : Sg) (a0 : Int32) (r : Int32) (σ' : Sg) (h : Rd_takesHang σ a0 = some (r, σ')) : Evc y_Rd_takesHang prog_8_method_8_code 3 (some .boolean) 2 (fun ad => [Value.ref (ad 4), Value.int a0]) σ σ' (fun _ => some (.int r)) := by
  refine Evc_ofZ (by decide) (fun ad => Nat.le_of_ble_eq_true rfl) (fun p l e R s m args below meth c D ad cI cB A Q X hQ => ?_)
  have X : Cx p R s m args meth c jR2 prog_8_method_8_code 3 2 D ad cI cB A 0 0 := X
  have h : wpO (Rd_takesHang σ a0) (fun q => q = (r, σ')) := ⟨_, h, rfl⟩
  rw [Rd_takesHang] at h
  refine V_sub (lv' := [(0, Value.ref (ad 4)), (1, Value.int a0)]) [0, 1] rfl ?_
  refine V_iload_n X 1 d_Rd_takesHang_0 rfl ?_
  refine V_bipush (v := 45) X d_Rd_takesHang_1 (by decide) ?_
  refine V_icmp_eq X 20 d_Rd_takesHang_3 (by decide) h (fun c1 h => ?_) (fun c1 h => ?_)
  · skip
    refine V_iconst (v := 1) X d_Rd_takesHang_20 (by decide) ?_
    refine V_goto X 25 d_Rd_takesHang_21 (by decide) ?_
    refine V_istore_n X [(2, Value.int (1 : Int32)), (0, Value.ref (ad 4)), (1, Value.int a0)] d_Rd_takesHang_25 (by decide) rfl ?_
    refine V_aload_n X 1 d_Rd_takesHang_26 rfl ?_
    refine V_dup X d_Rd_takesHang_27 rfl ?_
    refine V_getI X 2 3 rfl ji2 (by decide) (by decide) (by decide) fl_Rd_22 d_Rd_takesHang_28 (by decide) (by decide) (by decide) ?_
    refine V_iload_n X 0 d_Rd_takesHang_31 rfl ?_
    refine V_if_eqF X d_Rd_takesHang_32 39 (by decide) (by decide) ?_
    refine V_iconst (v := 1) X d_Rd_takesHang_35 (by decide) ?_
    refine V_goto X 40 d_Rd_takesHang_36 (by decide) ?_
    refine V_iadd X d_Rd_takesHang_40 ?_
    refine V_putI X 2 3 rfl ji2 jk2 jn2 (by decide) (by decide) (by decide) rfl (by decide +kernel) fl_Rd_22 d_Rd_takesHang_41 (by decide) (by decide) (by decide) ?_
    refine V_aload_n X 1 d_Rd_takesHang_44 rfl ?_
    refine V_iload_n X 0 d_Rd_takesHang_45 rfl ?_
    refine V_bipush (v := 7) X d_Rd_takesHang_46 (by decide) ?_
    refine V_cP X h (fun r2 s3 q => C_V (q := 2) X [Value.int (1 : Int32), Value.int (7 : Int32)] mt_Rd_goesOn ms_Rd_goesOn ml_Rd_71 (k_Rd_goesOn (sF σ 4 3 ((gF σ 4 3) + (1 : Int32))) (1 : Int32) (7 : Int32) r2 s3 q) rfl rfl (by omega) (Nat.le_of_ble_eq_true rfl) rfl (by decide) (by decide) (by decide) d_Rd_takesHang_48) (fun r2 s3 h => ?_)
    obtain ⟨hz, h⟩ := wp_if h
    have h9 := wp_some h
    exact hQ _ _ h9 (fun _ => hz) _ _ d_Rd_takesHang_51
  · skip
    refine V_iload_n X 1 d_Rd_takesHang_6 rfl ?_
    refine V_iconst (v := 0) X d_Rd_takesHang_7 (by decide) ?_
    refine V_aload_n X 0 d_Rd_takesHang_8 rfl ?_
    refine V_getI X 2 3 rfl ji2 (by decide) (by decide) (by decide) fl_Rd_22 d_Rd_takesHang_9 (by decide) (by decide) (by decide) ?_
    refine V_iconst (v := 1) X d_Rd_takesHang_12 (by decide) ?_
    refine V_isub X d_Rd_takesHang_13 ?_
    refine V_cI X h (fun r4 q => C_S X [Value.int a0, Value.int (0 : Int32), Value.int ((gF σ 4 3) - (1 : Int32))] mt_Rd_isDigit ms_Rd_isDigit ml_Rd_75 (k_Rd_isDigit σ a0 (0 : Int32) ((gF σ 4 3) - (1 : Int32)) r4 q) rfl rfl (by omega) (Nat.le_of_ble_eq_true rfl) d_Rd_takesHang_14) (fun r4 h => ?_)
    refine V_if_eq X 24 d_Rd_takesHang_17 (by decide) h (fun c5 h => ?_) (fun c5 h => ?_)
    · skip
      refine V_iconst (v := 0) X d_Rd_takesHang_24 (by decide) ?_
      refine V_istore_n X [(2, Value.int (0 : Int32)), (0, Value.ref (ad 4)), (1, Value.int a0)] d_Rd_takesHang_25 (by decide) rfl ?_
      refine V_aload_n X 1 d_Rd_takesHang_26 rfl ?_
      refine V_dup X d_Rd_takesHang_27 rfl ?_
      refine V_getI X 2 3 rfl ji2 (by decide) (by decide) (by decide) fl_Rd_22 d_Rd_takesHang_28 (by decide) (by decide) (by decide) ?_
      refine V_iload_n X 0 d_Rd_takesHang_31 rfl ?_
      refine V_if_eqT X 39 d_Rd_takesHang_32 (by decide) (by decide) ?_
      refine V_iconst (v := 0) X d_Rd_takesHang_39 (by decide) ?_
      refine V_iadd X d_Rd_takesHang_40 ?_
      refine V_putI X 2 3 rfl ji2 jk2 jn2 (by decide) (by decide) (by decide) rfl (by decide +kernel) fl_Rd_22 d_Rd_takesHang_41 (by decide) (by decide) (by decide) ?_
      refine V_aload_n X 1 d_Rd_takesHang_44 rfl ?_
      refine V_iload_n X 0 d_Rd_takesHang_45 rfl ?_
      refine V_bipush (v := 7) X d_Rd_takesHang_46 (by decide) ?_
      refine V_cP X h (fun r6 s7 q => C_V (q := 2) X [Value.int (0 : Int32), Value.int (7 : Int32)] mt_Rd_goesOn ms_Rd_goesOn ml_Rd_71 (k_Rd_goesOn (sF σ 4 3 ((gF σ 4 3) + (0 : Int32))) (0 : Int32) (7 : Int32) r6 s7 q) rfl rfl (by omega) (Nat.le_of_ble_eq_true rfl) rfl (by decide) (by decide) (by decide) d_Rd_takesHang_48) (fun r6 s7 h => ?_)
      obtain ⟨hz, h⟩ := wp_if h
      have h9 := wp_some h
      exact hQ _ _ h9 (fun _ => hz) _ _ d_Rd_takesHang_51
    · skip
      refine V_iconst (v := 1) X d_Rd_takesHang_20 (by decide) ?_
      refine V_goto X 25 d_Rd_takesHang_21 (by decide) ?_
      refine V_istore_n X [(2, Value.int (1 : Int32)), (0, Value.ref (ad 4)), (1, Value.int a0)] d_Rd_takesHang_25 (by decide) rfl ?_
      refine V_aload_n X 1 d_Rd_takesHang_26 rfl ?_
      refine V_dup X d_Rd_takesHang_27 rfl ?_
      refine V_getI X 2 3 rfl ji2 (by decide) (by decide) (by decide) fl_Rd_22 d_Rd_takesHang_28 (by decide) (by decide) (by decide) ?_
      refine V_iload_n X 0 d_Rd_takesHang_31 rfl ?_
      refine V_if_eqF X d_Rd_takesHang_32 39 (by decide) (by decide) ?_
      refine V_iconst (v := 1) X d_Rd_takesHang_35 (by decide) ?_
      refine V_goto X 40 d_Rd_takesHang_36 (by decide) ?_
      refine V_iadd X d_Rd_takesHang_40 ?_
      refine V_putI X 2 3 rfl ji2 jk2 jn2 (by decide) (by decide) (by decide) rfl (by decide +kernel) fl_Rd_22 d_Rd_takesHang_41 (by decide) (by decide) (by decide) ?_
      refine V_aload_n X 1 d_Rd_takesHang_44 rfl ?_
      refine V_iload_n X 0 d_Rd_takesHang_45 rfl ?_
      refine V_bipush (v := 7) X d_Rd_takesHang_46 (by decide) ?_
      refine V_cP X h (fun r8 s9 q => C_V (q := 2) X [Value.int (1 : Int32), Value.int (7 : Int32)] mt_Rd_goesOn ms_Rd_goesOn ml_Rd_71 (k_Rd_goesOn (sF σ 4 3 ((gF σ 4 3) + (1 : Int32))) (1 : Int32) (7 : Int32) r8 s9 q) rfl rfl (by omega) (Nat.le_of_ble_eq_true rfl) rfl (by decide) (by decide) (by decide) d_Rd_takesHang_48) (fun r8 s9 h => ?_)
      obtain ⟨hz, h⟩ := wp_if h
      have h9 := wp_some h
      exact hQ _ _ h9 (fun _ => hz) _ _ d_Rd_takesHang_51
set_option maxHeartbeats 4000000 in
set_option maxRecDepth 100000 in
theorem k_Rd_takes (σ : Sg) (a0 : Int32) (r : Int32) (σ' : Sg) (h : Rd_takes σ a0 = some (r, σ')) : Evc y_Rd_takes prog_8_method_5_code 2 (some .boolean) 6 (fun ad => [Value.ref (ad 4), Value.int a0]) σ σ' (fun _ => some (.int r)) := by
  refine Evc_ofZ (by decide) (fun ad => Nat.le_of_ble_eq_true rfl) (fun p l e R s m args below meth c D ad cI cB A Q X hQ => ?_)
  have X : Cx p R s m args meth c jR2 prog_8_method_5_code 2 6 D ad cI cB A 0 0 := X
  have h : wpO (Rd_takes σ a0) (fun q => q = (r, σ')) := ⟨_, h, rfl⟩
  rw [Rd_takes] at h
  refine V_sub (lv' := [(0, Value.ref (ad 4)), (1, Value.int a0)]) [0, 1] rfl ?_
  refine V_aload_n X 0 d_Rd_takes_0 rfl ?_
  refine V_getI X 2 1 rfl ji2 (by decide) (by decide) (by decide) fl_Rd_15 d_Rd_takes_1 (by decide) (by decide) (by decide) ?_
  rcases wp_case h with ⟨c1, h⟩ | ⟨c1, h⟩
  · skip
    refine V_tableIn X 44 48 d_Rd_takes_4 (0) (by rw [c1]; decide) (by decide) (by decide) rfl (by decide) ?_
    refine V_aload_n X 0 d_Rd_takes_48 rfl ?_
    refine V_iload_n X 1 d_Rd_takes_49 rfl ?_
    refine V_cP X h (fun r2 s3 q => C_V (q := 2) X [Value.int a0] mt_Rd_takesDigitOfTree ms_Rd_takesDigitOfTree ml_Rd_65 (k_Rd_takesDigitOfTree σ a0 r2 s3 q) rfl rfl (by omega) (Nat.le_of_ble_eq_true rfl) rfl (by decide) (by decide) (by decide) d_Rd_takes_50) (fun r2 s3 h => ?_)
    obtain ⟨hz, h⟩ := wp_if h
    have h9 := wp_some h
    exact hQ _ _ h9 (fun _ => hz) _ _ d_Rd_takes_53
  · skip
    rcases wp_case h with ⟨c4, h⟩ | ⟨c4, h⟩
    · skip
      refine V_tableIn X 44 48 d_Rd_takes_4 (1) (by rw [c4]; decide) (by decide) (by decide) rfl (by decide) ?_
      refine V_aload_n X 0 d_Rd_takes_48 rfl ?_
      refine V_iload_n X 1 d_Rd_takes_49 rfl ?_
      refine V_cP X h (fun r5 s6 q => C_V (q := 2) X [Value.int a0] mt_Rd_takesDigitOfTree ms_Rd_takesDigitOfTree ml_Rd_65 (k_Rd_takesDigitOfTree σ a0 r5 s6 q) rfl rfl (by omega) (Nat.le_of_ble_eq_true rfl) rfl (by decide) (by decide) (by decide) d_Rd_takes_50) (fun r5 s6 h => ?_)
      obtain ⟨hz, h⟩ := wp_if h
      have h9 := wp_some h
      exact hQ _ _ h9 (fun _ => hz) _ _ d_Rd_takes_53
    · skip
      rcases wp_case h with ⟨c7, h⟩ | ⟨c7, h⟩
      · skip
        refine V_tableIn X 50 54 d_Rd_takes_4 (2) (by rw [c7]; decide) (by decide) (by decide) rfl (by decide) ?_
        refine V_aload_n X 0 d_Rd_takes_54 rfl ?_
        refine V_iload_n X 1 d_Rd_takes_55 rfl ?_
        refine V_cP X h (fun r8 s9 q => C_V (q := 2) X [Value.int a0] mt_Rd_takesTreeEnd ms_Rd_takesTreeEnd ml_Rd_68 (k_Rd_takesTreeEnd σ a0 r8 s9 q) rfl rfl (by omega) (Nat.le_of_ble_eq_true rfl) rfl (by decide) (by decide) (by decide) d_Rd_takes_56) (fun r8 s9 h => ?_)
        obtain ⟨hz, h⟩ := wp_if h
        have h9 := wp_some h
        exact hQ _ _ h9 (fun _ => hz) _ _ d_Rd_takes_59
      · skip
        rcases wp_case h with ⟨c10, h⟩ | ⟨c10, h⟩
        · skip
          refine V_tableIn X 56 60 d_Rd_takes_4 (3) (by rw [c10]; decide) (by decide) (by decide) rfl (by decide) ?_
          refine V_aload_n X 0 d_Rd_takes_60 rfl ?_
          refine V_ldcS X d_Rd_takes_61 ?_
          refine V_iload_n X 1 d_Rd_takes_63 rfl ?_
          refine V_i2c X d_Rd_takes_64 ?_
          refine V_kidx X ml_Rd_56 d_Rd_takes_65 (by decide) (Nat.le_of_ble_eq_true rfl) ?_
          refine V_if_lt X 75 d_Rd_takes_68 (by decide) h (fun c11 h => ?_) (fun c11 h => ?_)
          · skip
            refine V_iconst (v := 0) X d_Rd_takes_75 (by decide) ?_
            refine V_iconst (v := 4) X d_Rd_takes_76 (by decide) ?_
            refine V_cP X h (fun r12 s13 q => C_V (q := 2) X [Value.int (0 : Int32), Value.int (4 : Int32)] mt_Rd_goesOn ms_Rd_goesOn ml_Rd_71 (k_Rd_goesOn σ (0 : Int32) (4 : Int32) r12 s13 q) rfl rfl (by omega) (Nat.le_of_ble_eq_true rfl) rfl (by decide) (by decide) (by decide) d_Rd_takes_77) (fun r12 s13 h => ?_)
            obtain ⟨hz, h⟩ := wp_if h
            have h9 := wp_some h
            exact hQ _ _ h9 (fun _ => hz) _ _ d_Rd_takes_80
          · skip
            refine V_iconst (v := 1) X d_Rd_takes_71 (by decide) ?_
            refine V_goto X 76 d_Rd_takes_72 (by decide) ?_
            refine V_iconst (v := 4) X d_Rd_takes_76 (by decide) ?_
            refine V_cP X h (fun r14 s15 q => C_V (q := 2) X [Value.int (1 : Int32), Value.int (4 : Int32)] mt_Rd_goesOn ms_Rd_goesOn ml_Rd_71 (k_Rd_goesOn σ (1 : Int32) (4 : Int32) r14 s15 q) rfl rfl (by omega) (Nat.le_of_ble_eq_true rfl) rfl (by decide) (by decide) (by decide) d_Rd_takes_77) (fun r14 s15 h => ?_)
            obtain ⟨hz, h⟩ := wp_if h
            have h9 := wp_some h
            exact hQ _ _ h9 (fun _ => hz) _ _ d_Rd_takes_80
        · skip
          rcases wp_case h with ⟨c16, h⟩ | ⟨c16, h⟩
          · skip
            refine V_tableIn X 77 81 d_Rd_takes_4 (4) (by rw [c16]; decide) (by decide) (by decide) rfl (by decide) ?_
            refine V_aload_n X 0 d_Rd_takes_81 rfl ?_
            refine V_iload_n X 1 d_Rd_takes_82 rfl ?_
            refine V_iconst (v := 1) X d_Rd_takes_83 (by decide) ?_
            refine V_bipush (v := 9) X d_Rd_takes_84 (by decide) ?_
            refine V_cI X h (fun r17 q => C_S X [Value.int a0, Value.int (1 : Int32), Value.int (9 : Int32)] mt_Rd_isDigit ms_Rd_isDigit ml_Rd_75 (k_Rd_isDigit σ a0 (1 : Int32) (9 : Int32) r17 q) rfl rfl (by omega) (Nat.le_of_ble_eq_true rfl) d_Rd_takes_86) (fun r17 h => ?_)
            refine V_iconst (v := 5) X d_Rd_takes_89 (by decide) ?_
            refine V_cP X h (fun r18 s19 q => C_V (q := 2) X [Value.int r17, Value.int (5 : Int32)] mt_Rd_goesOn ms_Rd_goesOn ml_Rd_71 (k_Rd_goesOn σ r17 (5 : Int32) r18 s19 q) rfl rfl (by omega) (Nat.le_of_ble_eq_true rfl) rfl (by decide) (by decide) (by decide) d_Rd_takes_90) (fun r18 s19 h => ?_)
            obtain ⟨hz, h⟩ := wp_if h
            have h9 := wp_some h
            exact hQ _ _ h9 (fun _ => hz) _ _ d_Rd_takes_93
          · skip
            rcases wp_case h with ⟨c20, h⟩ | ⟨c20, h⟩
            · skip
              refine V_tableIn X 90 94 d_Rd_takes_4 (5) (by rw [c20]; decide) (by decide) (by decide) rfl (by decide) ?_
              refine V_aload_n X 0 d_Rd_takes_94 rfl ?_
              refine V_iload_n X 1 d_Rd_takes_95 rfl ?_
              refine V_iconst (v := 1) X d_Rd_takes_96 (by decide) ?_
              refine V_bipush (v := 9) X d_Rd_takes_97 (by decide) ?_
              refine V_cI X h (fun r21 q => C_S X [Value.int a0, Value.int (1 : Int32), Value.int (9 : Int32)] mt_Rd_isDigit ms_Rd_isDigit ml_Rd_75 (k_Rd_isDigit σ a0 (1 : Int32) (9 : Int32) r21 q) rfl rfl (by omega) (Nat.le_of_ble_eq_true rfl) d_Rd_takes_99) (fun r21 h => ?_)
              refine V_bipush (v := 6) X d_Rd_takes_102 (by decide) ?_
              refine V_cP X h (fun r22 s23 q => C_V (q := 2) X [Value.int r21, Value.int (6 : Int32)] mt_Rd_goesOn ms_Rd_goesOn ml_Rd_71 (k_Rd_goesOn σ r21 (6 : Int32) r22 s23 q) rfl rfl (by omega) (Nat.le_of_ble_eq_true rfl) rfl (by decide) (by decide) (by decide) d_Rd_takes_104) (fun r22 s23 h => ?_)
              obtain ⟨hz, h⟩ := wp_if h
              have h9 := wp_some h
              exact hQ _ _ h9 (fun _ => hz) _ _ d_Rd_takes_107
            · skip
              rcases wp_case h with ⟨c24, h⟩ | ⟨c24, h⟩
              · skip
                refine V_tableIn X 104 108 d_Rd_takes_4 (6) (by rw [c24]; decide) (by decide) (by decide) rfl (by decide) ?_
                refine V_aload_n X 0 d_Rd_takes_108 rfl ?_
                refine V_iload_n X 1 d_Rd_takes_109 rfl ?_
                refine V_cP X h (fun r25 s26 q => C_V (q := 2) X [Value.int a0] mt_Rd_takesHang ms_Rd_takesHang ml_Rd_79 (k_Rd_takesHang σ a0 r25 s26 q) rfl rfl (by omega) (Nat.le_of_ble_eq_true rfl) rfl (by decide) (by decide) (by decide) d_Rd_takes_110) (fun r25 s26 h => ?_)
                obtain ⟨hz, h⟩ := wp_if h
                have h9 := wp_some h
                exact hQ _ _ h9 (fun _ => hz) _ _ d_Rd_takes_113
              · skip
                refine V_tableOut X 114 d_Rd_takes_4 (by have z0 := sw_ne c1 (0) (by decide); have z1 := sw_ne c4 (1) (by decide); have z2 := sw_ne c7 (2) (by decide); have z3 := sw_ne c10 (3) (by decide); have z4 := sw_ne c16 (4) (by decide); have z5 := sw_ne c20 (5) (by decide); have z6 := sw_ne c24 (6) (by decide); omega) (by decide) ?_
                refine V_aload_n X 0 d_Rd_takes_114 rfl ?_
                refine V_iload_n X 1 d_Rd_takes_115 rfl ?_
                refine V_bipush (v := 44) X d_Rd_takes_116 (by decide) ?_
                refine V_icmp_ne X 134 d_Rd_takes_118 (by decide) h (fun c27 h => ?_) (fun c27 h => ?_)
                · skip
                  refine V_iconst (v := 0) X d_Rd_takes_134 (by decide) ?_
                  refine V_iconst (v := 3) X d_Rd_takes_135 (by decide) ?_
                  refine V_cP X h (fun r28 s29 q => C_V (q := 2) X [Value.int (0 : Int32), Value.int (3 : Int32)] mt_Rd_goesOn ms_Rd_goesOn ml_Rd_71 (k_Rd_goesOn σ (0 : Int32) (3 : Int32) r28 s29 q) rfl rfl (by omega) (Nat.le_of_ble_eq_true rfl) rfl (by decide) (by decide) (by decide) d_Rd_takes_136) (fun r28 s29 h => ?_)
                  obtain ⟨hz, h⟩ := wp_if h
                  have h9 := wp_some h
                  exact hQ _ _ h9 (fun _ => hz) _ _ d_Rd_takes_139
                · skip
                  refine V_aload_n X 0 d_Rd_takes_121 rfl ?_
                  refine V_getI X 2 3 rfl ji2 (by decide) (by decide) (by decide) fl_Rd_22 d_Rd_takes_122 (by decide) (by decide) (by decide) ?_
                  refine V_bipush (v := 7) X d_Rd_takes_125 (by decide) ?_
                  refine V_icmp_ge X 134 d_Rd_takes_127 (by decide) h (fun c30 h => ?_) (fun c30 h => ?_)
                  · skip
                    refine V_iconst (v := 0) X d_Rd_takes_134 (by decide) ?_
                    refine V_iconst (v := 3) X d_Rd_takes_135 (by decide) ?_
                    refine V_cP X h (fun r31 s32 q => C_V (q := 2) X [Value.int (0 : Int32), Value.int (3 : Int32)] mt_Rd_goesOn ms_Rd_goesOn ml_Rd_71 (k_Rd_goesOn σ (0 : Int32) (3 : Int32) r31 s32 q) rfl rfl (by omega) (Nat.le_of_ble_eq_true rfl) rfl (by decide) (by decide) (by decide) d_Rd_takes_136) (fun r31 s32 h => ?_)
                    obtain ⟨hz, h⟩ := wp_if h
                    have h9 := wp_some h
                    exact hQ _ _ h9 (fun _ => hz) _ _ d_Rd_takes_139
                  · skip
                    refine V_iconst (v := 1) X d_Rd_takes_130 (by decide) ?_
                    refine V_goto X 135 d_Rd_takes_131 (by decide) ?_
                    refine V_iconst (v := 3) X d_Rd_takes_135 (by decide) ?_
                    refine V_cP X h (fun r33 s34 q => C_V (q := 2) X [Value.int (1 : Int32), Value.int (3 : Int32)] mt_Rd_goesOn ms_Rd_goesOn ml_Rd_71 (k_Rd_goesOn σ (1 : Int32) (3 : Int32) r33 s34 q) rfl rfl (by omega) (Nat.le_of_ble_eq_true rfl) rfl (by decide) (by decide) (by decide) d_Rd_takes_136) (fun r33 s34 h => ?_)
                    obtain ⟨hz, h⟩ := wp_if h
                    have h9 := wp_some h
                    exact hQ _ _ h9 (fun _ => hz) _ _ d_Rd_takes_139
set_option maxHeartbeats 4000000 in
set_option maxRecDepth 100000 in
theorem Rd_firstFault_L17_ok {p : Program} {l : Launch} {e : Env} {R : Room} {s : State} {m : MethodId} {args : Array Value} {below : List Frame} {meth : Method} {c : Code} {D : va_G} {ad : Nat → Nat} {cI cB : ClassId} {A : Nat → Prop} {cells slots : Nat} {Q : State → Prop} (X : Cx p R s m args meth c jR2 prog_8_method_2_code 2 7 D ad cI cB A cells slots) (fu : Nat) (kont : (Int32 → Sg → Option (Int32 × Sg))) {K : (Int32 × Sg) → Prop} (hQ : RI p l e R s m args below meth c 2 D ad cI cB A cells slots Q prog_8_method_2_code false K) (hk : ∀ (l1 : Int32) (σ : Sg), wpO (kont l1 σ) K → V p l e R s m args below meth c 2 D A cells slots Q (wl ad cI cB σ) 51 [(0, Value.ref (ad 4)), (1, Value.int l1)] []) : ∀ (n : Nat) (l1 : Int32) (σ : Sg), wpO (Rd_firstFault_L17 fu kont n l1 σ) K → V p l e R s m args below meth c 2 D A cells slots Q (wl ad cI cB σ) 17 [(0, Value.ref (ad 4)), (1, Value.int l1)] [] := by
  intro n
  induction n with
  | zero =>
    intro l1 σ h
    exact (wp_none h).elim
  | succ n ih =>
    intro l1 σ h
    rw [Rd_firstFault_L17] at h
    refine V_iload_n X 1 d_Rd_firstFault_17 rfl ?_
    refine V_aload_n X 0 d_Rd_firstFault_18 rfl ?_
    refine V_getR X 2 0 1 rfl ji2 (by decide) (by decide) (by decide) fl_Rd_9 d_Rd_firstFault_19 (by decide) (by decide) (by decide) (by decide) ?_
    refine V_cI X h (fun r1 q => C_V (q := 1) X [] mt_Pg_size ms_Pg_size ml_Rd_25 (k_Pg_size σ r1 q) rfl rfl (by omega) (Nat.le_of_ble_eq_true rfl) rfl (by decide) (by decide) (by decide) d_Rd_firstFault_22) (fun r1 h => ?_)
    refine V_icmp_ge X 51 d_Rd_firstFault_25 (by decide) h (fun c2 h => ?_) (fun c2 h => ?_)
    · skip
      exact hk l1 σ h
    · skip
      refine V_aload_n X 0 d_Rd_firstFault_28 rfl ?_
      refine V_aload_n X 0 d_Rd_firstFault_29 rfl ?_
      refine V_getR X 2 0 1 rfl ji2 (by decide) (by decide) (by decide) fl_Rd_9 d_Rd_firstFault_30 (by decide) (by decide) (by decide) (by decide) ?_
      refine V_iload_n X 1 d_Rd_firstFault_33 rfl ?_
      refine V_cI X h (fun r3 q => C_V (q := 1) X [Value.int l1] mt_Pg_code ms_Pg_code ml_Rd_31 (k_Pg_code σ l1 r3 q) rfl rfl (by omega) (Nat.le_of_ble_eq_true rfl) rfl (by decide) (by decide) (by decide) d_Rd_firstFault_34) (fun r3 h => ?_)
      refine V_cP X h (fun r4 s5 q => C_V (q := 2) X [Value.int r3] mt_Rd_takes ms_Rd_takes ml_Rd_35 (k_Rd_takes σ r3 r4 s5 q) rfl rfl (by omega) (Nat.le_of_ble_eq_true rfl) rfl (by decide) (by decide) (by decide) d_Rd_firstFault_37) (fun r4 s5 h => ?_)
      refine V_if_ne X 45 d_Rd_firstFault_40 (by decide) h (fun c6 h => ?_) (fun c6 h => ?_)
      · skip
        refine V_iinc X 1 (l1 + (1 : Int32)) [(1, Value.int (l1 + (1 : Int32))), (0, Value.ref (ad 4))] d_Rd_firstFault_45 rfl (by first | rfl | decide) (by decide) rfl ?_
        refine V_goto X 17 d_Rd_firstFault_48 (by decide) ?_
        refine V_sub (lv' := [(0, Value.ref (ad 4)), (1, Value.int (l1 + (1 : Int32)))]) [1, 0] rfl ?_
        exact ih (l1 + (1 : Int32)) s5 h
      · skip
        refine V_iload_n X 1 d_Rd_firstFault_43 rfl ?_
        have h9 := wp_some h
        exact hQ _ _ h9 (fun h9 => absurd h9 (by decide)) _ _ d_Rd_firstFault_44
set_option maxHeartbeats 4000000 in
set_option maxRecDepth 100000 in
theorem k_Rd_firstFault (fu : Nat) (σ : Sg) (r : Int32) (σ' : Sg) (h : Rd_firstFault fu σ = some (r, σ')) : Evc y_Rd_firstFault prog_8_method_2_code 2 (some .int) 7 (fun ad => [Value.ref (ad 4)]) σ σ' (fun _ => some (.int r)) := by
  refine Evc_ofI (by decide) (fun ad => Nat.le_of_ble_eq_true rfl) (fun p l e R s m args below meth c D ad cI cB A Q X hQ => ?_)
  have X : Cx p R s m args meth c jR2 prog_8_method_2_code 2 7 D ad cI cB A 0 0 := X
  have h : wpO (Rd_firstFault fu σ) (fun q => q = (r, σ')) := ⟨_, h, rfl⟩
  rw [Rd_firstFault] at h
  refine V_sub (lv' := [(0, Value.ref (ad 4))]) [0] rfl ?_
  refine V_aload_n X 0 d_Rd_firstFault_0 rfl ?_
  refine V_iconst (v := 0) X d_Rd_firstFault_1 (by decide) ?_
  refine V_putI X 2 1 rfl ji2 jk2 jn2 (by decide) (by decide) (by decide) rfl (by decide +kernel) fl_Rd_15 d_Rd_firstFault_2 (by decide) (by decide) (by decide) ?_
  refine V_aload_n X 0 d_Rd_firstFault_5 rfl ?_
  refine V_iconst (v := 0) X d_Rd_firstFault_6 (by decide) ?_
  refine V_putI X 2 2 rfl ji2 jk2 jn2 (by decide) (by decide) (by decide) rfl (by decide +kernel) fl_Rd_19 d_Rd_firstFault_7 (by decide) (by decide) (by decide) ?_
  refine V_aload_n X 0 d_Rd_firstFault_10 rfl ?_
  refine V_iconst (v := 0) X d_Rd_firstFault_11 (by decide) ?_
  refine V_putI X 2 3 rfl ji2 jk2 jn2 (by decide) (by decide) (by decide) rfl (by decide +kernel) fl_Rd_22 d_Rd_firstFault_12 (by decide) (by decide) (by decide) ?_
  refine V_iconst (v := 0) X d_Rd_firstFault_15 (by decide) ?_
  refine V_istore_n X [(1, Value.int (0 : Int32)), (0, Value.ref (ad 4))] d_Rd_firstFault_16 (by decide) rfl ?_
  refine V_sub (lv' := [(0, Value.ref (ad 4)), (1, Value.int (0 : Int32))]) [1, 0] rfl ?_
  refine Rd_firstFault_L17_ok X fu _ hQ (fun l1_7 s8 h => ?_) fu (0 : Int32) (sF (sF (sF σ 4 1 (0 : Int32)) 4 2 (0 : Int32)) 4 3 (0 : Int32)) h
  refine V_aload_n X 0 d_Rd_firstFault_51 rfl ?_
  refine V_getR X 2 0 1 rfl ji2 (by decide) (by decide) (by decide) fl_Rd_9 d_Rd_firstFault_52 (by decide) (by decide) (by decide) (by decide) ?_
  refine V_cI X h (fun r9 q => C_V (q := 1) X [] mt_Pg_size ms_Pg_size ml_Rd_25 (k_Pg_size s8 r9 q) rfl rfl (by omega) (Nat.le_of_ble_eq_true rfl) rfl (by decide) (by decide) (by decide) d_Rd_firstFault_55) (fun r9 h => ?_)
  have h9 := wp_some h
  exact hQ _ _ h9 (fun h9 => absurd h9 (by decide)) _ _ d_Rd_firstFault_58
set_option maxHeartbeats 4000000 in
set_option maxRecDepth 100000 in
theorem k_Co_fault (fu : Nat) (σ : Sg) (r : Int32) (σ' : Sg) (h : Co_fault fu σ = some (r, σ')) : Evc y_Co_fault prog_1_method_4_code 1 (some .int) 8 (fun ad => [Value.ref (ad 0)]) σ σ' (fun _ => some (.int r)) := by
  refine Evc_ofI (by decide) (fun ad => Nat.le_of_ble_eq_true rfl) (fun p l e R s m args below meth c D ad cI cB A Q X hQ => ?_)
  have X : Cx p R s m args meth c jR0 prog_1_method_4_code 1 8 D ad cI cB A 0 0 := X
  have h : wpO (Co_fault fu σ) (fun q => q = (r, σ')) := ⟨_, h, rfl⟩
  rw [Co_fault] at h
  refine V_sub (lv' := [(0, Value.ref (ad 0))]) [0] rfl ?_
  refine V_aload_n X 0 d_Co_fault_0 rfl ?_
  refine V_getR X 0 1 4 rfl ji0 (by decide) (by decide) (by decide) fl_Co_21 d_Co_fault_1 (by decide) (by decide) (by decide) (by decide) ?_
  refine V_cP X h (fun r1 s2 q => C_V (q := 2) X [] mt_Rd_firstFault ms_Rd_firstFault ml_Co_76 (k_Rd_firstFault fu σ r1 s2 q) rfl rfl (by omega) (Nat.le_of_ble_eq_true rfl) rfl (by decide) (by decide) (by decide) d_Co_fault_4) (fun r1 s2 h => ?_)
  have h9 := wp_some h
  exact hQ _ _ h9 (fun h9 => absurd h9 (by decide)) _ _ d_Co_fault_7
set_option maxHeartbeats 4000000 in
set_option maxRecDepth 100000 in
theorem k_Pg_add (σ : Sg) (a0 : Int32) (σ' : Sg) (h : Pg_add σ a0 = some σ') : Evc y_Pg_add prog_6_method_5_code 2 (none) 2 (fun ad => [Value.ref (ad 1), Value.int a0]) σ σ' (fun _ => none) := by
  refine Evc_ofV (by decide) (fun ad => Nat.le_of_ble_eq_true rfl) (fun p l e R s m args below meth c D ad cI cB A Q X hQ => ?_)
  have X : Cx p R s m args meth c jR1 prog_6_method_5_code 2 2 D ad cI cB A 0 0 := X
  have h : wpO (Pg_add σ a0) (fun q => q = σ') := ⟨_, h, rfl⟩
  rw [Pg_add] at h
  refine V_sub (lv' := [(0, Value.ref (ad 1)), (1, Value.int a0)]) [0, 1] rfl ?_
  refine V_aload_n X 0 d_Pg_add_0 rfl ?_
  refine V_getR X 1 0 2 rfl ji1 (by decide) (by decide) (by decide) fl_Pg_14 d_Pg_add_1 (by decide) (by decide) (by decide) (by decide) ?_
  refine V_aload_n X 0 d_Pg_add_4 rfl ?_
  refine V_getI X 1 1 rfl ji1 (by decide) (by decide) (by decide) fl_Pg_20 d_Pg_add_5 (by decide) (by decide) (by decide) ?_
  refine V_iload_n X 1 d_Pg_add_8 rfl ?_
  refine V_cV X h (fun s1 q => C_V (q := 9) X [Value.int (gF σ 1 1), Value.int a0] mt_Rw_put ms_Rw_put ml_Pg_28 (k_Rw_put σ 2 (by decide) (by decide) (gF σ 1 1) a0 s1 q) rfl rfl (by omega) (Nat.le_of_ble_eq_true rfl) rfl (by decide) (by decide) (by decide) d_Pg_add_9) (fun s1 h => ?_)
  refine V_aload_n X 0 d_Pg_add_12 rfl ?_
  refine V_dup X d_Pg_add_13 rfl ?_
  refine V_getI X 1 1 rfl ji1 (by decide) (by decide) (by decide) fl_Pg_20 d_Pg_add_14 (by decide) (by decide) (by decide) ?_
  refine V_iconst (v := 1) X d_Pg_add_17 (by decide) ?_
  refine V_iadd X d_Pg_add_18 ?_
  refine V_putI X 1 1 rfl ji1 jk1 jn1 (by decide) (by decide) (by decide) rfl (by decide +kernel) fl_Pg_20 d_Pg_add_19 (by decide) (by decide) (by decide) ?_
  have h9 := wp_some h
  exact hQ _ h9 _ _ d_Pg_add_22
set_option maxHeartbeats 4000000 in
set_option maxRecDepth 100000 in
theorem k_Co_letter (σ : Sg) (a0 : Int32) (r : Int32) (σ' : Sg) (h : Co_letter σ a0 = some (r, σ')) : Evc y_Co_letter prog_1_method_2_code 2 (some .int) 3 (fun ad => [Value.ref (ad 0), Value.int a0]) σ σ' (fun _ => some (.int r)) := by
  refine Evc_ofI (by decide) (fun ad => Nat.le_of_ble_eq_true rfl) (fun p l e R s m args below meth c D ad cI cB A Q X hQ => ?_)
  have X : Cx p R s m args meth c jR0 prog_1_method_2_code 2 3 D ad cI cB A 0 0 := X
  have h : wpO (Co_letter σ a0) (fun q => q = (r, σ')) := ⟨_, h, rfl⟩
  rw [Co_letter] at h
  refine V_sub (lv' := [(0, Value.ref (ad 0)), (1, Value.int a0)]) [0, 1] rfl ?_
  refine V_iload_n X 1 d_Co_letter_0 rfl ?_
  refine V_bipush (v := 32) X d_Co_letter_1 (by decide) ?_
  refine V_icmp_lt X 12 d_Co_letter_3 (by decide) h (fun c1 h => ?_) (fun c1 h => ?_)
  · skip
    refine V_bipush (v := -102) X d_Co_letter_12 (by decide) ?_
    have h9 := wp_some h
    exact hQ _ _ h9 (fun h9 => absurd h9 (by decide)) _ _ d_Co_letter_14
  · skip
    refine V_iload_n X 1 d_Co_letter_6 rfl ?_
    refine V_bipush (v := 126) X d_Co_letter_7 (by decide) ?_
    refine V_icmp_le X 15 d_Co_letter_9 (by decide) h (fun c2 h => ?_) (fun c2 h => ?_)
    · skip
      refine V_aload_n X 0 d_Co_letter_15 rfl ?_
      refine V_getR X 0 0 1 rfl ji0 (by decide) (by decide) (by decide) fl_Co_10 d_Co_letter_16 (by decide) (by decide) (by decide) (by decide) ?_
      refine V_cI X h (fun r3 q => C_V (q := 1) X [] mt_Pg_size ms_Pg_size ml_Co_65 (k_Pg_size σ r3 q) rfl rfl (by omega) (Nat.le_of_ble_eq_true rfl) rfl (by decide) (by decide) (by decide) d_Co_letter_19) (fun r3 h => ?_)
      refine V_bipush (v := 46) X d_Co_letter_22 (by decide) ?_
      refine V_icmp_lt X 30 d_Co_letter_24 (by decide) h (fun c4 h => ?_) (fun c4 h => ?_)
      · skip
        refine V_aload_n X 0 d_Co_letter_30 rfl ?_
        refine V_getR X 0 0 1 rfl ji0 (by decide) (by decide) (by decide) fl_Co_10 d_Co_letter_31 (by decide) (by decide) (by decide) (by decide) ?_
        refine V_iload_n X 1 d_Co_letter_34 rfl ?_
        refine V_cV X h (fun s5 q => C_V (q := 1) X [Value.int a0] mt_Pg_add ms_Pg_add ml_Co_69 (k_Pg_add σ a0 s5 q) rfl rfl (by omega) (Nat.le_of_ble_eq_true rfl) rfl (by decide) (by decide) (by decide) d_Co_letter_35) (fun s5 h => ?_)
        refine V_aload_n X 0 d_Co_letter_38 rfl ?_
        refine V_getR X 0 0 1 rfl ji0 (by decide) (by decide) (by decide) fl_Co_10 d_Co_letter_39 (by decide) (by decide) (by decide) (by decide) ?_
        refine V_cI X h (fun r6 q => C_V (q := 1) X [] mt_Pg_size ms_Pg_size ml_Co_65 (k_Pg_size s5 r6 q) rfl rfl (by omega) (Nat.le_of_ble_eq_true rfl) rfl (by decide) (by decide) (by decide) d_Co_letter_42) (fun r6 h => ?_)
        have h9 := wp_some h
        exact hQ _ _ h9 (fun h9 => absurd h9 (by decide)) _ _ d_Co_letter_45
      · skip
        refine V_bipush (v := -104) X d_Co_letter_27 (by decide) ?_
        have h9 := wp_some h
        exact hQ _ _ h9 (fun h9 => absurd h9 (by decide)) _ _ d_Co_letter_29
    · skip
      refine V_bipush (v := -102) X d_Co_letter_12 (by decide) ?_
      have h9 := wp_some h
      exact hQ _ _ h9 (fun h9 => absurd h9 (by decide)) _ _ d_Co_letter_14
set_option maxHeartbeats 4000000 in
set_option maxRecDepth 100000 in
theorem k_Sh_worth (σ : Sg) (k : Nat) (hl_k : k < 93) (hc_k : jv_cls k = 3) (a0 : Int32) (r : Int32) (h : Sh_worth σ k a0 = some r) : Evc y_Sh_worth prog_10_method_20_code 2 (some .int) 2 (fun ad => [Value.ref (ad k), Value.int a0]) σ σ (fun _ => some (.int r)) := by
  refine Evc_ofI (by decide) (fun ad => Nat.le_of_ble_eq_true rfl) (fun p l e R s m args below meth c D ad cI cB A Q X hQ => ?_)
  have X : Cx p R s m args meth c jR3 prog_10_method_20_code 2 2 D ad cI cB A 0 0 := X
  have hQ := hQ.pure
  have h : wpO (Sh_worth σ k a0) (fun q => q = r) := ⟨_, h, rfl⟩
  rw [Sh_worth] at h
  refine V_sub (lv' := [(0, Value.ref (ad k)), (1, Value.int a0)]) [0, 1] rfl ?_
  refine V_aload_n X 0 d_Sh_worth_0 rfl ?_
  refine V_getR X 3 6 (k + 9) rfl ji3 (by decide) (by decide) (by decide) fl_Sh_29 d_Sh_worth_1 hl_k hc_k (by decide) (jl_sh6 k hl_k hc_k).2.2 ?_
  refine V_iload_n X 1 d_Sh_worth_4 rfl ?_
  refine V_cI X h (fun r1 q => C_V (q := 9) X [Value.int a0] mt_Rw_at ms_Rw_at ml_Sh_71 (k_Rw_at σ (k + 9) (jl_sh6 k hl_k hc_k).1 (jl_sh6 k hl_k hc_k).2.1 a0 r1 q) rfl rfl (by omega) (Nat.le_of_ble_eq_true rfl) rfl (jl_sh6 k hl_k hc_k).1 (jl_sh6 k hl_k hc_k).2.1 (by decide) d_Sh_worth_5) (fun r1 h => ?_)
  have h9 := wp_some h
  exact hQ _ h9 (fun h9 => absurd h9 (by decide)) _ _ d_Sh_worth_8
set_option maxHeartbeats 4000000 in
set_option maxRecDepth 100000 in
theorem k_Sh_setClaim (σ : Sg) (k : Nat) (hl_k : k < 93) (hc_k : jv_cls k = 3) (a0 : Int32) (a1 : Int32) (a2 : Int32) (σ' : Sg) (h : Sh_setClaim σ k a0 a1 a2 = some σ') : Evc y_Sh_setClaim prog_10_method_37_code 4 (none) 2 (fun ad => [Value.ref (ad k), Value.int a0, Value.int a1, Value.int a2]) σ σ' (fun _ => none) := by
  refine Evc_ofV (by decide) (fun ad => Nat.le_of_ble_eq_true rfl) (fun p l e R s m args below meth c D ad cI cB A Q X hQ => ?_)
  have X : Cx p R s m args meth c jR3 prog_10_method_37_code 4 2 D ad cI cB A 0 0 := X
  have h : wpO (Sh_setClaim σ k a0 a1 a2) (fun q => q = σ') := ⟨_, h, rfl⟩
  rw [Sh_setClaim] at h
  refine V_sub (lv' := [(0, Value.ref (ad k)), (1, Value.int a0), (2, Value.int a1), (3, Value.int a2)]) [0, 1, 2, 3] rfl ?_
  refine V_aload_n X 0 d_Sh_setClaim_0 rfl ?_
  refine V_getR X 3 5 (k + 7) rfl ji3 (by decide) (by decide) (by decide) fl_Sh_26 d_Sh_setClaim_1 hl_k hc_k (by decide) (jl_sh5 k hl_k hc_k).2.2 ?_
  refine V_iload_n X 1 d_Sh_setClaim_4 rfl ?_
  refine V_iload_n X 2 d_Sh_setClaim_5 rfl ?_
  refine V_cV X h (fun s1 q => C_V (q := 9) X [Value.int a0, Value.int a1] mt_Rw_put ms_Rw_put ml_Sh_67 (k_Rw_put σ (k + 7) (jl_sh5 k hl_k hc_k).1 (jl_sh5 k hl_k hc_k).2.1 a0 a1 s1 q) rfl rfl (by omega) (Nat.le_of_ble_eq_true rfl) rfl (jl_sh5 k hl_k hc_k).1 (jl_sh5 k hl_k hc_k).2.1 (by decide) d_Sh_setClaim_6) (fun s1 h => ?_)
  refine V_aload_n X 0 d_Sh_setClaim_9 rfl ?_
  refine V_getR X 3 6 (k + 9) rfl ji3 (by decide) (by decide) (by decide) fl_Sh_29 d_Sh_setClaim_10 hl_k hc_k (by decide) (jl_sh6 k hl_k hc_k).2.2 ?_
  refine V_iload_n X 1 d_Sh_setClaim_13 rfl ?_
  refine V_iload_n X 3 d_Sh_setClaim_14 rfl ?_
  refine V_cV X h (fun s2 q => C_V (q := 9) X [Value.int a0, Value.int a2] mt_Rw_put ms_Rw_put ml_Sh_67 (k_Rw_put s1 (k + 9) (jl_sh6 k hl_k hc_k).1 (jl_sh6 k hl_k hc_k).2.1 a0 a2 s2 q) rfl rfl (by omega) (Nat.le_of_ble_eq_true rfl) rfl (jl_sh6 k hl_k hc_k).1 (jl_sh6 k hl_k hc_k).2.1 (by decide) d_Sh_setClaim_15) (fun s2 h => ?_)
  have h9 := wp_some h
  exact hQ _ h9 _ _ d_Sh_setClaim_18
set_option maxHeartbeats 4000000 in
set_option maxRecDepth 100000 in
theorem k_Co_plead (σ : Sg) (a0 : Int32) (a1 : Int32) (a2 : Int32) (r : Int32) (σ' : Sg) (h : Co_plead σ a0 a1 a2 = some (r, σ')) : Evc y_Co_plead prog_1_method_12_code 5 (some .int) 3 (fun ad => [Value.ref (ad 0), Value.int a0, Value.int a1, Value.int a2]) σ σ' (fun _ => some (.int r)) := by
  refine Evc_ofI (by decide) (fun ad => Nat.le_of_ble_eq_true rfl) (fun p l e R s m args below meth c D ad cI cB A Q X hQ => ?_)
  have X : Cx p R s m args meth c jR0 prog_1_method_12_code 5 3 D ad cI cB A 0 0 := X
  have h : wpO (Co_plead σ a0 a1 a2) (fun q => q = (r, σ')) := ⟨_, h, rfl⟩
  rw [Co_plead] at h
  refine V_sub (lv' := [(0, Value.ref (ad 0)), (1, Value.int a0), (2, Value.int a1), (3, Value.int a2)]) [0, 1, 2, 3] rfl ?_
  refine V_aload_n X 0 d_Co_plead_0 rfl ?_
  refine V_getR X 0 2 5 rfl ji0 (by decide) (by decide) (by decide) fl_Co_28 d_Co_plead_1 (by decide) (by decide) (by decide) (by decide) ?_
  refine V_iload_n X 1 d_Co_plead_4 rfl ?_
  refine V_cI X h (fun r1 q => C_V (q := 3) X [Value.int a0] mt_Sh_hasSuit ms_Sh_hasSuit ml_Co_111 (k_Sh_hasSuit σ 5 (by decide) (by decide) a0 r1 q) rfl rfl (by omega) (Nat.le_of_ble_eq_true rfl) rfl (by decide) (by decide) (by decide) d_Co_plead_5) (fun r1 h => ?_)
  refine V_if_ne X 14 d_Co_plead_8 (by decide) h (fun c2 h => ?_) (fun c2 h => ?_)
  · skip
    refine V_iload_n X 2 d_Co_plead_14 rfl ?_
    refine V_iconst (v := 1) X d_Co_plead_15 (by decide) ?_
    refine V_icmp_lt X 36 d_Co_plead_16 (by decide) h (fun c3 h => ?_) (fun c3 h => ?_)
    · skip
      refine V_bipush (v := -102) X d_Co_plead_36 (by decide) ?_
      have h9 := wp_some h
      exact hQ _ _ h9 (fun h9 => absurd h9 (by decide)) _ _ d_Co_plead_38
    · skip
      refine V_iload_n X 2 d_Co_plead_19 rfl ?_
      refine V_bipush (v := 9) X d_Co_plead_20 (by decide) ?_
      refine V_icmp_gt X 36 d_Co_plead_22 (by decide) h (fun c4 h => ?_) (fun c4 h => ?_)
      · skip
        refine V_bipush (v := -102) X d_Co_plead_36 (by decide) ?_
        have h9 := wp_some h
        exact hQ _ _ h9 (fun h9 => absurd h9 (by decide)) _ _ d_Co_plead_38
      · skip
        refine V_iload_n X 3 d_Co_plead_25 rfl ?_
        refine V_iconst (v := 1) X d_Co_plead_26 (by decide) ?_
        refine V_icmp_lt X 36 d_Co_plead_27 (by decide) h (fun c5 h => ?_) (fun c5 h => ?_)
        · skip
          refine V_bipush (v := -102) X d_Co_plead_36 (by decide) ?_
          have h9 := wp_some h
          exact hQ _ _ h9 (fun h9 => absurd h9 (by decide)) _ _ d_Co_plead_38
        · skip
          refine V_iload_n X 3 d_Co_plead_30 rfl ?_
          refine V_bipush (v := 9) X d_Co_plead_31 (by decide) ?_
          refine V_icmp_le X 39 d_Co_plead_33 (by decide) h (fun c6 h => ?_) (fun c6 h => ?_)
          · skip
            refine V_aload_n X 0 d_Co_plead_39 rfl ?_
            refine V_getR X 0 2 5 rfl ji0 (by decide) (by decide) (by decide) fl_Co_28 d_Co_plead_40 (by decide) (by decide) (by decide) (by decide) ?_
            refine V_iload_n X 1 d_Co_plead_43 rfl ?_
            refine V_cI X h (fun r7 q => C_V (q := 3) X [Value.int a0] mt_Sh_worth ms_Sh_worth ml_Co_120 (k_Sh_worth σ 5 (by decide) (by decide) a0 r7 q) rfl rfl (by omega) (Nat.le_of_ble_eq_true rfl) rfl (by decide) (by decide) (by decide) d_Co_plead_44) (fun r7 h => ?_)
            refine V_istore X [(4, Value.int r7), (0, Value.ref (ad 0)), (1, Value.int a0), (2, Value.int a1), (3, Value.int a2)] d_Co_plead_47 (by decide) rfl ?_
            refine V_aload_n X 1 d_Co_plead_49 rfl ?_
            refine V_getR X 0 2 5 rfl ji0 (by decide) (by decide) (by decide) fl_Co_28 d_Co_plead_50 (by decide) (by decide) (by decide) (by decide) ?_
            refine V_iload_n X 2 d_Co_plead_53 rfl ?_
            refine V_iload_n X 3 d_Co_plead_54 rfl ?_
            refine V_iload_n X 4 d_Co_plead_55 rfl ?_
            refine V_cV X h (fun s8 q => C_V (q := 3) X [Value.int a0, Value.int a1, Value.int a2] mt_Sh_setClaim ms_Sh_setClaim ml_Co_173 (k_Sh_setClaim σ 5 (by decide) (by decide) a0 a1 a2 s8 q) rfl rfl (by omega) (Nat.le_of_ble_eq_true rfl) rfl (by decide) (by decide) (by decide) d_Co_plead_56) (fun s8 h => ?_)
            refine V_iload X 0 d_Co_plead_59 rfl ?_
            have h9 := wp_some h
            exact hQ _ _ h9 (fun h9 => absurd h9 (by decide)) _ _ d_Co_plead_61
          · skip
            refine V_bipush (v := -102) X d_Co_plead_36 (by decide) ?_
            have h9 := wp_some h
            exact hQ _ _ h9 (fun h9 => absurd h9 (by decide)) _ _ d_Co_plead_38
  · skip
    refine V_bipush (v := -101) X d_Co_plead_11 (by decide) ?_
    have h9 := wp_some h
    exact hQ _ _ h9 (fun h9 => absurd h9 (by decide)) _ _ d_Co_plead_13
set_option maxHeartbeats 4000000 in
set_option maxRecDepth 100000 in
theorem k_Sh_shakes (σ : Sg) (k : Nat) (hl_k : k < 93) (hc_k : jv_cls k = 3) (a0 : Int32) (r : Int32) (h : Sh_shakes σ k a0 = some r) : Evc y_Sh_shakes prog_10_method_26_code 2 (some .int) 2 (fun ad => [Value.ref (ad k), Value.int a0]) σ σ (fun _ => some (.int r)) := by
  refine Evc_ofI (by decide) (fun ad => Nat.le_of_ble_eq_true rfl) (fun p l e R s m args below meth c D ad cI cB A Q X hQ => ?_)
  have X : Cx p R s m args meth c jR3 prog_10_method_26_code 2 2 D ad cI cB A 0 0 := X
  have hQ := hQ.pure
  have h : wpO (Sh_shakes σ k a0) (fun q => q = r) := ⟨_, h, rfl⟩
  rw [Sh_shakes] at h
  refine V_sub (lv' := [(0, Value.ref (ad k)), (1, Value.int a0)]) [0, 1] rfl ?_
  refine V_aload_n X 0 d_Sh_shakes_0 rfl ?_
  refine V_getI X 3 11 rfl ji3 (by decide) (by decide) (by decide) fl_Sh_55 d_Sh_shakes_1 hl_k hc_k (by decide) ?_
  refine V_aload_n X 0 d_Sh_shakes_4 rfl ?_
  refine V_getR X 3 9 (k + 15) rfl ji3 (by decide) (by decide) (by decide) fl_Sh_38 d_Sh_shakes_5 hl_k hc_k (by decide) (jl_sh9 k hl_k hc_k).2.2 ?_
  refine V_iload_n X 1 d_Sh_shakes_8 rfl ?_
  refine V_cI X h (fun r1 q => C_V (q := 9) X [Value.int a0] mt_Rw_at ms_Rw_at ml_Sh_71 (k_Rw_at σ (k + 15) (jl_sh9 k hl_k hc_k).1 (jl_sh9 k hl_k hc_k).2.1 a0 r1 q) rfl rfl (by omega) (Nat.le_of_ble_eq_true rfl) rfl (jl_sh9 k hl_k hc_k).1 (jl_sh9 k hl_k hc_k).2.1 (by decide) d_Sh_shakes_9) (fun r1 h => ?_)
  refine V_iand X d_Sh_shakes_12 ?_
  refine V_cI X h (fun r2 q => C_S X [Value.int ((gF σ k 11) &&& r1)] mt_In_bitCount ms_In_bitCount ml_Sh_97 (k_In_bitCount σ ((gF σ k 11) &&& r1) r2 q) rfl rfl (by omega) (Nat.le_of_ble_eq_true rfl) d_Sh_shakes_13) (fun r2 h => ?_)
  have h9 := wp_some h
  exact hQ _ h9 (fun h9 => absurd h9 (by decide)) _ _ d_Sh_shakes_16
set_option maxHeartbeats 4000000 in
set_option maxRecDepth 100000 in
theorem k_Co_right (σ : Sg) (a0 : Int32) (a1 : Int32) (r : Int32) (σ' : Sg) (h : Co_right σ a0 a1 = some (r, σ')) : Evc y_Co_right prog_1_method_9_code 4 (some .int) 5 (fun ad => [Value.ref (ad 0), Value.int a0, Value.int a1]) σ σ' (fun _ => some (.int r)) := by
  refine Evc_ofI (by decide) (fun ad => Nat.le_of_ble_eq_true rfl) (fun p l e R s m args below meth c D ad cI cB A Q X hQ => ?_)
  have X : Cx p R s m args meth c jR0 prog_1_method_9_code 4 5 D ad cI cB A 0 0 := X
  have h : wpO (Co_right σ a0 a1) (fun q => q = (r, σ')) := ⟨_, h, rfl⟩
  rw [Co_right] at h
  refine V_sub (lv' := [(0, Value.ref (ad 0)), (1, Value.int a0), (2, Value.int a1)]) [0, 1, 2] rfl ?_
  refine V_aload_n X 0 d_Co_right_0 rfl ?_
  refine V_getR X 0 2 5 rfl ji0 (by decide) (by decide) (by decide) fl_Co_28 d_Co_right_1 (by decide) (by decide) (by decide) (by decide) ?_
  refine V_iload_n X 1 d_Co_right_4 rfl ?_
  refine V_cI X h (fun r1 q => C_V (q := 3) X [Value.int a0] mt_Sh_hasSuit ms_Sh_hasSuit ml_Co_111 (k_Sh_hasSuit σ 5 (by decide) (by decide) a0 r1 q) rfl rfl (by omega) (Nat.le_of_ble_eq_true rfl) rfl (by decide) (by decide) (by decide) d_Co_right_5) (fun r1 h => ?_)
  refine V_if_eq X 22 d_Co_right_8 (by decide) h (fun c2 h => ?_) (fun c2 h => ?_)
  · skip
    refine V_bipush (v := -101) X d_Co_right_22 (by decide) ?_
    have h9 := wp_some h
    exact hQ _ _ h9 (fun h9 => absurd h9 (by decide)) _ _ d_Co_right_24
  · skip
    refine V_aload_n X 0 d_Co_right_11 rfl ?_
    refine V_getR X 0 2 5 rfl ji0 (by decide) (by decide) (by decide) fl_Co_28 d_Co_right_12 (by decide) (by decide) (by decide) (by decide) ?_
    refine V_iload_n X 2 d_Co_right_15 rfl ?_
    refine V_cI X h (fun r3 q => C_V (q := 3) X [Value.int a1] mt_Sh_hasTree ms_Sh_hasTree ml_Co_97 (k_Sh_hasTree σ 5 (by decide) (by decide) a1 r3 q) rfl rfl (by omega) (Nat.le_of_ble_eq_true rfl) rfl (by decide) (by decide) (by decide) d_Co_right_16) (fun r3 h => ?_)
    refine V_if_ne X 25 d_Co_right_19 (by decide) h (fun c4 h => ?_) (fun c4 h => ?_)
    · skip
      refine V_aload_n X 0 d_Co_right_25 rfl ?_
      refine V_getR X 0 2 5 rfl ji0 (by decide) (by decide) (by decide) fl_Co_28 d_Co_right_26 (by decide) (by decide) (by decide) (by decide) ?_
      refine V_iload_n X 1 d_Co_right_29 rfl ?_
      refine V_iload_n X 2 d_Co_right_30 rfl ?_
      refine V_cI X h (fun r5 q => C_V (q := 3) X [Value.int a0, Value.int a1] mt_Sh_isPossible ms_Sh_isPossible ml_Co_151 (k_Sh_isPossible σ 5 (by decide) (by decide) a0 a1 r5 q) rfl rfl (by omega) (Nat.le_of_ble_eq_true rfl) rfl (by decide) (by decide) (by decide) d_Co_right_31) (fun r5 h => ?_)
      refine V_if_ne X 40 d_Co_right_34 (by decide) h (fun c6 h => ?_) (fun c6 h => ?_)
      · skip
        refine V_aload_n X 0 d_Co_right_40 rfl ?_
        refine V_getR X 0 2 5 rfl ji0 (by decide) (by decide) (by decide) fl_Co_28 d_Co_right_41 (by decide) (by decide) (by decide) (by decide) ?_
        refine V_cI X h (fun r7 q => C_V (q := 3) X [] mt_Sh_rightings ms_Sh_rightings ml_Co_154 (k_Sh_rightings σ 5 (by decide) (by decide) r7 q) rfl rfl (by omega) (Nat.le_of_ble_eq_true rfl) rfl (by decide) (by decide) (by decide) d_Co_right_44) (fun r7 h => ?_)
        refine V_sipush (v := 999) X d_Co_right_47 (by decide) ?_
        refine V_icmp_lt X 56 d_Co_right_50 (by decide) h (fun c8 h => ?_) (fun c8 h => ?_)
        · skip
          refine V_aload_n X 0 d_Co_right_56 rfl ?_
          refine V_getR X 0 2 5 rfl ji0 (by decide) (by decide) (by decide) fl_Co_28 d_Co_right_57 (by decide) (by decide) (by decide) (by decide) ?_
          refine V_iload_n X 1 d_Co_right_60 rfl ?_
          refine V_cI X h (fun r9 q => C_V (q := 3) X [Value.int a0] mt_Sh_shakes ms_Sh_shakes ml_Co_139 (k_Sh_shakes σ 5 (by decide) (by decide) a0 r9 q) rfl rfl (by omega) (Nat.le_of_ble_eq_true rfl) rfl (by decide) (by decide) (by decide) d_Co_right_61) (fun r9 h => ?_)
          refine V_istore_n X [(3, Value.int r9), (0, Value.ref (ad 0)), (1, Value.int a0), (2, Value.int a1)] d_Co_right_64 (by decide) rfl ?_
          refine V_aload_n X 1 d_Co_right_65 rfl ?_
          refine V_getR X 0 2 5 rfl ji0 (by decide) (by decide) (by decide) fl_Co_28 d_Co_right_66 (by decide) (by decide) (by decide) (by decide) ?_
          refine V_iload_n X 2 d_Co_right_69 rfl ?_
          refine V_iload_n X 3 d_Co_right_70 rfl ?_
          refine V_cV X h (fun s10 q => C_V (q := 3) X [Value.int a0, Value.int a1] mt_Sh_pluckAndRight ms_Sh_pluckAndRight ml_Co_157 (k_Sh_pluckAndRight σ 5 (by decide) (by decide) a0 a1 s10 q) rfl rfl (by omega) (Nat.le_of_ble_eq_true rfl) rfl (by decide) (by decide) (by decide) d_Co_right_71) (fun s10 h => ?_)
          refine V_iload_n X 0 d_Co_right_74 rfl ?_
          have h9 := wp_some h
          exact hQ _ _ h9 (fun h9 => absurd h9 (by decide)) _ _ d_Co_right_75
        · skip
          refine V_bipush (v := -104) X d_Co_right_53 (by decide) ?_
          have h9 := wp_some h
          exact hQ _ _ h9 (fun h9 => absurd h9 (by decide)) _ _ d_Co_right_55
      · skip
        refine V_bipush (v := -103) X d_Co_right_37 (by decide) ?_
        have h9 := wp_some h
        exact hQ _ _ h9 (fun h9 => absurd h9 (by decide)) _ _ d_Co_right_39
    · skip
      refine V_bipush (v := -101) X d_Co_right_22 (by decide) ?_
      have h9 := wp_some h
      exact hQ _ _ h9 (fun h9 => absurd h9 (by decide)) _ _ d_Co_right_24
set_option maxHeartbeats 4000000 in
set_option maxRecDepth 100000 in
theorem k_Rd_isWholeShire (fu : Nat) (σ : Sg) (r : Int32) (σ' : Sg) (h : Rd_isWholeShire fu σ = some (r, σ')) : Evc y_Rd_isWholeShire prog_8_method_3_code 1 (some .boolean) 8 (fun ad => [Value.ref (ad 4)]) σ σ' (fun _ => some (.int r)) := by
  refine Evc_ofZ (by decide) (fun ad => Nat.le_of_ble_eq_true rfl) (fun p l e R s m args below meth c D ad cI cB A Q X hQ => ?_)
  have X : Cx p R s m args meth c jR2 prog_8_method_3_code 1 8 D ad cI cB A 0 0 := X
  have h : wpO (Rd_isWholeShire fu σ) (fun q => q = (r, σ')) := ⟨_, h, rfl⟩
  rw [Rd_isWholeShire] at h
  refine V_sub (lv' := [(0, Value.ref (ad 4))]) [0] rfl ?_
  refine V_aload_n X 0 d_Rd_isWholeShire_0 rfl ?_
  refine V_cP X h (fun r1 s2 q => C_V (q := 2) X [] mt_Rd_firstFault ms_Rd_firstFault ml_Rd_39 (k_Rd_firstFault fu σ r1 s2 q) rfl rfl (by omega) (Nat.le_of_ble_eq_true rfl) rfl (by decide) (by decide) (by decide) d_Rd_isWholeShire_1) (fun r1 s2 h => ?_)
  refine V_aload_n X 0 d_Rd_isWholeShire_4 rfl ?_
  refine V_getR X 2 0 1 rfl ji2 (by decide) (by decide) (by decide) fl_Rd_9 d_Rd_isWholeShire_5 (by decide) (by decide) (by decide) (by decide) ?_
  refine V_cI X h (fun r3 q => C_V (q := 1) X [] mt_Pg_size ms_Pg_size ml_Rd_25 (k_Pg_size s2 r3 q) rfl rfl (by omega) (Nat.le_of_ble_eq_true rfl) rfl (by decide) (by decide) (by decide) d_Rd_isWholeShire_8) (fun r3 h => ?_)
  refine V_icmp_ne X 35 d_Rd_isWholeShire_11 (by decide) h (fun c4 h => ?_) (fun c4 h => ?_)
  · skip
    refine V_iconst (v := 0) X d_Rd_isWholeShire_35 (by decide) ?_
    have h9 := wp_some h
    exact hQ _ _ h9 (fun _ => by decide) _ _ d_Rd_isWholeShire_36
  · skip
    refine V_aload_n X 0 d_Rd_isWholeShire_14 rfl ?_
    refine V_getI X 2 1 rfl ji2 (by decide) (by decide) (by decide) fl_Rd_15 d_Rd_isWholeShire_15 (by decide) (by decide) (by decide) ?_
    refine V_bipush (v := 7) X d_Rd_isWholeShire_18 (by decide) ?_
    refine V_icmp_ne X 35 d_Rd_isWholeShire_20 (by decide) h (fun c5 h => ?_) (fun c5 h => ?_)
    · skip
      refine V_iconst (v := 0) X d_Rd_isWholeShire_35 (by decide) ?_
      have h9 := wp_some h
      exact hQ _ _ h9 (fun _ => by decide) _ _ d_Rd_isWholeShire_36
    · skip
      refine V_aload_n X 0 d_Rd_isWholeShire_23 rfl ?_
      refine V_getI X 2 3 rfl ji2 (by decide) (by decide) (by decide) fl_Rd_22 d_Rd_isWholeShire_24 (by decide) (by decide) (by decide) ?_
      refine V_iconst (v := 2) X d_Rd_isWholeShire_27 (by decide) ?_
      refine V_icmp_lt X 35 d_Rd_isWholeShire_28 (by decide) h (fun c6 h => ?_) (fun c6 h => ?_)
      · skip
        refine V_iconst (v := 0) X d_Rd_isWholeShire_35 (by decide) ?_
        have h9 := wp_some h
        exact hQ _ _ h9 (fun _ => by decide) _ _ d_Rd_isWholeShire_36
      · skip
        refine V_iconst (v := 1) X d_Rd_isWholeShire_31 (by decide) ?_
        refine V_goto X 36 d_Rd_isWholeShire_32 (by decide) ?_
        have h9 := wp_some h
        exact hQ _ _ h9 (fun _ => by decide) _ _ d_Rd_isWholeShire_36
set_option maxHeartbeats 4000000 in
set_option maxRecDepth 100000 in
theorem k_Si_clear (σ : Sg) (k : Nat) (hl_k : k < 93) (hc_k : jv_cls k = 4) (σ' : Sg) (h : Si_clear σ k = some σ') : Evc y_Si_clear prog_11_method_4_code 1 (none) 1 (fun ad => [Value.ref (ad k)]) σ σ' (fun _ => none) := by
  refine Evc_ofV (by decide) (fun ad => Nat.le_of_ble_eq_true rfl) (fun p l e R s m args below meth c D ad cI cB A Q X hQ => ?_)
  have X : Cx p R s m args meth c jR4 prog_11_method_4_code 1 1 D ad cI cB A 0 0 := X
  have h : wpO (Si_clear σ k) (fun q => q = σ') := ⟨_, h, rfl⟩
  rw [Si_clear] at h
  refine V_sub (lv' := [(0, Value.ref (ad k))]) [0] rfl ?_
  refine V_aload_n X 0 d_Si_clear_0 rfl ?_
  refine V_iconst (v := 0) X d_Si_clear_1 (by decide) ?_
  refine V_putI X 4 3 rfl ji4 jk4 jn4 (by decide) (by decide) (by decide) rfl (by decide +kernel) fl_Si_26 d_Si_clear_2 hl_k hc_k (by decide) ?_
  have h9 := wp_some h
  exact hQ _ h9 _ _ d_Si_clear_5
set_option maxHeartbeats 4000000 in
set_option maxRecDepth 100000 in
theorem k_Sh_begin (σ : Sg) (k : Nat) (hl_k : k < 93) (hc_k : jv_cls k = 3) (σ' : Sg) (h : Sh_begin σ k = some σ') : Evc y_Sh_begin prog_10_method_2_code 1 (none) 2 (fun ad => [Value.ref (ad k)]) σ σ' (fun _ => none) := by
  refine Evc_ofV (by decide) (fun ad => Nat.le_of_ble_eq_true rfl) (fun p l e R s m args below meth c D ad cI cB A Q X hQ => ?_)
  have X : Cx p R s m args meth c jR3 prog_10_method_2_code 1 2 D ad cI cB A 0 0 := X
  have h : wpO (Sh_begin σ k) (fun q => q = σ') := ⟨_, h, rfl⟩
  rw [Sh_begin] at h
  refine V_sub (lv' := [(0, Value.ref (ad k))]) [0] rfl ?_
  refine V_aload_n X 0 d_Sh_begin_0 rfl ?_
  refine V_iconst (v := 0) X d_Sh_begin_1 (by decide) ?_
  refine V_putI X 3 0 rfl ji3 jk3 jn3 (by decide) (by decide) (by decide) rfl (by decide +kernel) fl_Sh_48 d_Sh_begin_2 hl_k hc_k (by decide) ?_
  refine V_aload_n X 0 d_Sh_begin_5 rfl ?_
  refine V_iconst (v := 0) X d_Sh_begin_6 (by decide) ?_
  refine V_putI X 3 1 rfl ji3 jk3 jn3 (by decide) (by decide) (by decide) rfl (by decide +kernel) fl_Sh_52 d_Sh_begin_7 hl_k hc_k (by decide) ?_
  refine V_aload_n X 0 d_Sh_begin_10 rfl ?_
  refine V_iconst (v := 0) X d_Sh_begin_11 (by decide) ?_
  refine V_putI X 3 11 rfl ji3 jk3 jn3 (by decide) (by decide) (by decide) rfl (by decide +kernel) fl_Sh_55 d_Sh_begin_12 hl_k hc_k (by decide) ?_
  refine V_aload_n X 0 d_Sh_begin_15 rfl ?_
  refine V_iconst (v := 0) X d_Sh_begin_16 (by decide) ?_
  refine V_putI X 3 12 rfl ji3 jk3 jn3 (by decide) (by decide) (by decide) rfl (by decide +kernel) fl_Sh_58 d_Sh_begin_17 hl_k hc_k (by decide) ?_
  refine V_aload_n X 0 d_Sh_begin_20 rfl ?_
  refine V_iconst (v := 0) X d_Sh_begin_21 (by decide) ?_
  refine V_putI X 3 13 rfl ji3 jk3 jn3 (by decide) (by decide) (by decide) rfl (by decide +kernel) fl_Sh_61 d_Sh_begin_22 hl_k hc_k (by decide) ?_
  refine V_aload_n X 0 d_Sh_begin_25 rfl ?_
  refine V_getR X 3 10 (k + 17) rfl ji3 (by decide) (by decide) (by decide) fl_Sh_44 d_Sh_begin_26 hl_k hc_k (by decide) (jl_sh10 k hl_k hc_k).2.2 ?_
  refine V_cV X h (fun s1 q => C_V (q := 4) X [] mt_Si_clear ms_Si_clear ml_Sh_64 (k_Si_clear (sF (sF (sF (sF (sF σ k 0 (0 : Int32)) k 1 (0 : Int32)) k 11 (0 : Int32)) k 12 (0 : Int32)) k 13 (0 : Int32)) (k + 17) (jl_sh10 k hl_k hc_k).1 (jl_sh10 k hl_k hc_k).2.1 s1 q) rfl rfl (by omega) (Nat.le_of_ble_eq_true rfl) rfl (jl_sh10 k hl_k hc_k).1 (jl_sh10 k hl_k hc_k).2.1 (by decide) d_Sh_begin_29) (fun s1 h => ?_)
  have h9 := wp_some h
  exact hQ _ h9 _ _ d_Sh_begin_32
set_option maxHeartbeats 4000000 in
set_option maxRecDepth 100000 in
theorem k_Pg_digit (σ : Sg) (a0 : Int32) (r : Int32) (h : Pg_digit σ a0 = some r) : Evc y_Pg_digit prog_6_method_4_code 2 (some .int) 2 (fun ad => [Value.ref (ad 1), Value.int a0]) σ σ (fun _ => some (.int r)) := by
  refine Evc_ofI (by decide) (fun ad => Nat.le_of_ble_eq_true rfl) (fun p l e R s m args below meth c D ad cI cB A Q X hQ => ?_)
  have X : Cx p R s m args meth c jR1 prog_6_method_4_code 2 2 D ad cI cB A 0 0 := X
  have hQ := hQ.pure
  have h : wpO (Pg_digit σ a0) (fun q => q = r) := ⟨_, h, rfl⟩
  rw [Pg_digit] at h
  refine V_sub (lv' := [(0, Value.ref (ad 1)), (1, Value.int a0)]) [0, 1] rfl ?_
  refine V_aload_n X 0 d_Pg_digit_0 rfl ?_
  refine V_getR X 1 0 2 rfl ji1 (by decide) (by decide) (by decide) fl_Pg_14 d_Pg_digit_1 (by decide) (by decide) (by decide) (by decide) ?_
  refine V_iload_n X 1 d_Pg_digit_4 rfl ?_
  refine V_cI X h (fun r1 q => C_V (q := 9) X [Value.int a0] mt_Rw_at ms_Rw_at ml_Pg_24 (k_Rw_at σ 2 (by decide) (by decide) a0 r1 q) rfl rfl (by omega) (Nat.le_of_ble_eq_true rfl) rfl (by decide) (by decide) (by decide) d_Pg_digit_5) (fun r1 h => ?_)
  refine V_bipush (v := 48) X d_Pg_digit_8 (by decide) ?_
  refine V_isub X d_Pg_digit_10 ?_
  have h9 := wp_some h
  exact hQ _ h9 (fun h9 => absurd h9 (by decide)) _ _ d_Pg_digit_11
set_option maxHeartbeats 4000000 in
set_option maxRecDepth 100000 in
theorem k_Sh_addTree (σ : Sg) (k : Nat) (hl_k : k < 93) (hc_k : jv_cls k = 3) (a0 : Int32) (a1 : Int32) (σ' : Sg) (h : Sh_addTree σ k a0 a1 = some σ') : Evc y_Sh_addTree prog_10_method_3_code 3 (none) 2 (fun ad => [Value.ref (ad k), Value.int a0, Value.int a1]) σ σ' (fun _ => none) := by
  refine Evc_ofV (by decide) (fun ad => Nat.le_of_ble_eq_true rfl) (fun p l e R s m args below meth c D ad cI cB A Q X hQ => ?_)
  have X : Cx p R s m args meth c jR3 prog_10_method_3_code 3 2 D ad cI cB A 0 0 := X
  have h : wpO (Sh_addTree σ k a0 a1) (fun q => q = σ') := ⟨_, h, rfl⟩
  rw [Sh_addTree] at h
  refine V_sub (lv' := [(0, Value.ref (ad k)), (1, Value.int a0), (2, Value.int a1)]) [0, 1, 2] rfl ?_
  refine V_aload_n X 0 d_Sh_addTree_0 rfl ?_
  refine V_getR X 3 2 (k + 1) rfl ji3 (by decide) (by decide) (by decide) fl_Sh_14 d_Sh_addTree_1 hl_k hc_k (by decide) (jl_sh2 k hl_k hc_k).2.2 ?_
  refine V_aload_n X 0 d_Sh_addTree_4 rfl ?_
  refine V_getI X 3 0 rfl ji3 (by decide) (by decide) (by decide) fl_Sh_48 d_Sh_addTree_5 hl_k hc_k (by decide) ?_
  refine V_iload_n X 1 d_Sh_addTree_8 rfl ?_
  refine V_cV X h (fun s1 q => C_V (q := 9) X [Value.int (gF σ k 0), Value.int a0] mt_Rw_put ms_Rw_put ml_Sh_67 (k_Rw_put σ (k + 1) (jl_sh2 k hl_k hc_k).1 (jl_sh2 k hl_k hc_k).2.1 (gF σ k 0) a0 s1 q) rfl rfl (by omega) (Nat.le_of_ble_eq_true rfl) rfl (jl_sh2 k hl_k hc_k).1 (jl_sh2 k hl_k hc_k).2.1 (by decide) d_Sh_addTree_9) (fun s1 h => ?_)
  refine V_aload_n X 0 d_Sh_addTree_12 rfl ?_
  refine V_getR X 3 3 (k + 3) rfl ji3 (by decide) (by decide) (by decide) fl_Sh_20 d_Sh_addTree_13 hl_k hc_k (by decide) (jl_sh3 k hl_k hc_k).2.2 ?_
  refine V_aload_n X 0 d_Sh_addTree_16 rfl ?_
  refine V_getI X 3 0 rfl ji3 (by decide) (by decide) (by decide) fl_Sh_48 d_Sh_addTree_17 hl_k hc_k (by decide) ?_
  refine V_iload_n X 2 d_Sh_addTree_20 rfl ?_
  refine V_cV X h (fun s2 q => C_V (q := 9) X [Value.int (gF s1 k 0), Value.int a1] mt_Rw_put ms_Rw_put ml_Sh_67 (k_Rw_put s1 (k + 3) (jl_sh3 k hl_k hc_k).1 (jl_sh3 k hl_k hc_k).2.1 (gF s1 k 0) a1 s2 q) rfl rfl (by omega) (Nat.le_of_ble_eq_true rfl) rfl (jl_sh3 k hl_k hc_k).1 (jl_sh3 k hl_k hc_k).2.1 (by decide) d_Sh_addTree_21) (fun s2 h => ?_)
  refine V_aload_n X 0 d_Sh_addTree_24 rfl ?_
  refine V_dup X d_Sh_addTree_25 rfl ?_
  refine V_getI X 3 0 rfl ji3 (by decide) (by decide) (by decide) fl_Sh_48 d_Sh_addTree_26 hl_k hc_k (by decide) ?_
  refine V_iconst (v := 1) X d_Sh_addTree_29 (by decide) ?_
  refine V_iadd X d_Sh_addTree_30 ?_
  refine V_putI X 3 0 rfl ji3 jk3 jn3 (by decide) (by decide) (by decide) rfl (by decide +kernel) fl_Sh_48 d_Sh_addTree_31 hl_k hc_k (by decide) ?_
  have h9 := wp_some h
  exact hQ _ h9 _ _ d_Sh_addTree_34
set_option maxHeartbeats 4000000 in
set_option maxRecDepth 100000 in
theorem Sh_addSuit_L94_ok {p : Program} {l : Launch} {e : Env} {R : Room} {s : State} {m : MethodId} {args : Array Value} {below : List Frame} {meth : Method} {c : Code} {D : va_G} {ad : Nat → Nat} {cI cB : ClassId} {A : Nat → Prop} {cells slots : Nat} {Q : State → Prop} (X : Cx p R s m args meth c jR3 prog_10_method_4_code 8 2 D ad cI cB A cells slots) (fu : Nat) (k : Nat) (hl_k : k < 93) (hc_k : jv_cls k = 3) (l5 : Int32) (kont : (Int32 → Int32 → Sg → Option Sg)) {K : Sg → Prop} (hQ : RV p l e R s m args below meth c 8 D ad cI cB A cells slots Q prog_10_method_4_code K) (hk : ∀ (l6 : Int32) (l7 : Int32) (σ : Sg), wpO (kont l6 l7 σ) K → V p l e R s m args below meth c 8 D A cells slots Q (wl ad cI cB σ) 148 [(0, Value.ref (ad k)), (5, Value.int l5), (6, Value.int l6), (7, Value.int l7)] []) : ∀ (n : Nat) (l6 : Int32) (l7 : Int32) (σ : Sg), wpO (Sh_addSuit_L94 fu k l5 kont n l6 l7 σ) K → V p l e R s m args below meth c 8 D A cells slots Q (wl ad cI cB σ) 94 [(0, Value.ref (ad k)), (5, Value.int l5), (6, Value.int l6), (7, Value.int l7)] [] := by
  intro n
  induction n with
  | zero =>
    intro l6 l7 σ h
    exact (wp_none h).elim
  | succ n ih =>
    intro l6 l7 σ h
    rw [Sh_addSuit_L94] at h
    refine V_iload X 3 d_Sh_addSuit_94 rfl ?_
    refine V_bipush (v := 7) X d_Sh_addSuit_96 (by decide) ?_
    refine V_icmp_ge X 148 d_Sh_addSuit_98 (by decide) h (fun c9 h => ?_) (fun c9 h => ?_)
    · skip
      exact hk l6 l7 σ h
    · skip
      refine V_iload X 2 d_Sh_addSuit_101 rfl ?_
      refine V_iconst (v := -1) X d_Sh_addSuit_103 (by decide) ?_
      refine V_icmp_eq X 148 d_Sh_addSuit_104 (by decide) h (fun c10 h => ?_) (fun c10 h => ?_)
      · skip
        exact hk l6 l7 σ h
      · skip
        refine V_aload_n X 0 d_Sh_addSuit_107 rfl ?_
        refine V_getR X 3 9 (k + 15) rfl ji3 (by decide) (by decide) (by decide) fl_Sh_38 d_Sh_addSuit_108 hl_k hc_k (by decide) (jl_sh9 k hl_k hc_k).2.2 ?_
        refine V_iload X 2 d_Sh_addSuit_111 rfl ?_
        refine V_aload_n X 0 d_Sh_addSuit_113 rfl ?_
        refine V_getR X 3 9 (k + 15) rfl ji3 (by decide) (by decide) (by decide) fl_Sh_38 d_Sh_addSuit_114 hl_k hc_k (by decide) (jl_sh9 k hl_k hc_k).2.2 ?_
        refine V_iload X 2 d_Sh_addSuit_117 rfl ?_
        refine V_cI X h (fun r11 q => C_V (q := 9) X [Value.int l6] mt_Rw_at ms_Rw_at ml_Sh_71 (k_Rw_at σ (k + 15) (jl_sh9 k hl_k hc_k).1 (jl_sh9 k hl_k hc_k).2.1 l6 r11 q) rfl rfl (by omega) (Nat.le_of_ble_eq_true rfl) rfl (jl_sh9 k hl_k hc_k).1 (jl_sh9 k hl_k hc_k).2.1 (by decide) d_Sh_addSuit_119) (fun r11 h => ?_)
        refine V_iload X 1 d_Sh_addSuit_122 rfl ?_
        refine V_cI X h (fun r12 q => C_SN X [Value.int l5] mt_Co_bit ms_Co_bit mn_Sh_75 (k_Co_bit σ l5 r12 q) rfl rfl (by omega) (Nat.le_of_ble_eq_true rfl) d_Sh_addSuit_124) (fun r12 h => ?_)
        refine V_ior X d_Sh_addSuit_127 ?_
        refine V_cV X h (fun s13 q => C_V (q := 9) X [Value.int l6, Value.int (r11 ||| r12)] mt_Rw_put ms_Rw_put ml_Sh_67 (k_Rw_put σ (k + 15) (jl_sh9 k hl_k hc_k).1 (jl_sh9 k hl_k hc_k).2.1 l6 (r11 ||| r12) s13 q) rfl rfl (by omega) (Nat.le_of_ble_eq_true rfl) rfl (jl_sh9 k hl_k hc_k).1 (jl_sh9 k hl_k hc_k).2.1 (by decide) d_Sh_addSuit_128) (fun s13 h => ?_)
        refine V_aload_n X 0 d_Sh_addSuit_131 rfl ?_
        refine V_getR X 3 7 (k + 11) rfl ji3 (by decide) (by decide) (by decide) fl_Sh_32 d_Sh_addSuit_132 hl_k hc_k (by decide) (jl_sh7 k hl_k hc_k).2.2 ?_
        refine V_iload X 2 d_Sh_addSuit_135 rfl ?_
        refine V_cI X h (fun r14 q => C_V (q := 9) X [Value.int l6] mt_Rw_at ms_Rw_at ml_Sh_71 (k_Rw_at s13 (k + 11) (jl_sh7 k hl_k hc_k).1 (jl_sh7 k hl_k hc_k).2.1 l6 r14 q) rfl rfl (by omega) (Nat.le_of_ble_eq_true rfl) rfl (jl_sh7 k hl_k hc_k).1 (jl_sh7 k hl_k hc_k).2.1 (by decide) d_Sh_addSuit_137) (fun r14 h => ?_)
        refine V_istore X [(6, Value.int r14), (0, Value.ref (ad k)), (5, Value.int l5), (7, Value.int l7)] d_Sh_addSuit_140 (by decide) rfl ?_
        refine V_iinc X 3 (l7 + (1 : Int32)) [(7, Value.int (l7 + (1 : Int32))), (6, Value.int r14), (0, Value.ref (ad k)), (5, Value.int l5)] d_Sh_addSuit_142 rfl (by first | rfl | decide) (by decide) rfl ?_
        refine V_goto X 94 d_Sh_addSuit_145 (by decide) ?_
        refine V_sub (lv' := [(0, Value.ref (ad k)), (5, Value.int l5), (6, Value.int r14), (7, Value.int (l7 + (1 : Int32)))]) [2, 3, 1, 0] rfl ?_
        exact ih r14 (l7 + (1 : Int32)) s13 h
set_option maxHeartbeats 4000000 in
set_option maxRecDepth 100000 in
theorem k_Sh_addSuit (fu : Nat) (σ : Sg) (k : Nat) (hl_k : k < 93) (hc_k : jv_cls k = 3) (a0 : Int32) (a1 : Int32) (a2 : Int32) (a3 : Int32) (σ' : Sg) (h : Sh_addSuit fu σ k a0 a1 a2 a3 = some σ') : Evc y_Sh_addSuit prog_10_method_4_code 8 (none) 2 (fun ad => [Value.ref (ad k), Value.int a0, Value.int a1, Value.int a2, Value.int a3]) σ σ' (fun _ => none) := by
  refine Evc_ofV (by decide) (fun ad => Nat.le_of_ble_eq_true rfl) (fun p l e R s m args below meth c D ad cI cB A Q X hQ => ?_)
  have X : Cx p R s m args meth c jR3 prog_10_method_4_code 8 2 D ad cI cB A 0 0 := X
  have h : wpO (Sh_addSuit fu σ k a0 a1 a2 a3) (fun q => q = σ') := ⟨_, h, rfl⟩
  rw [Sh_addSuit] at h
  refine V_sub (lv' := [(0, Value.ref (ad k)), (1, Value.int a0), (2, Value.int a1), (3, Value.int a2), (4, Value.int a3)]) [0, 1, 2, 3, 4] rfl ?_
  refine V_aload_n X 0 d_Sh_addSuit_0 rfl ?_
  refine V_getI X 3 1 rfl ji3 (by decide) (by decide) (by decide) fl_Sh_52 d_Sh_addSuit_1 hl_k hc_k (by decide) ?_
  refine V_istore X [(5, Value.int (gF σ k 1)), (0, Value.ref (ad k)), (1, Value.int a0), (2, Value.int a1), (3, Value.int a2), (4, Value.int a3)] d_Sh_addSuit_4 (by decide) rfl ?_
  refine V_aload_n X 1 d_Sh_addSuit_6 rfl ?_
  refine V_getR X 3 4 (k + 5) rfl ji3 (by decide) (by decide) (by decide) fl_Sh_23 d_Sh_addSuit_7 hl_k hc_k (by decide) (jl_sh4 k hl_k hc_k).2.2 ?_
  refine V_iload X 0 d_Sh_addSuit_10 rfl ?_
  refine V_iload_n X 2 d_Sh_addSuit_12 rfl ?_
  refine V_cV X h (fun s1 q => C_V (q := 9) X [Value.int (gF σ k 1), Value.int a0] mt_Rw_put ms_Rw_put ml_Sh_67 (k_Rw_put σ (k + 5) (jl_sh4 k hl_k hc_k).1 (jl_sh4 k hl_k hc_k).2.1 (gF σ k 1) a0 s1 q) rfl rfl (by omega) (Nat.le_of_ble_eq_true rfl) rfl (jl_sh4 k hl_k hc_k).1 (jl_sh4 k hl_k hc_k).2.1 (by decide) d_Sh_addSuit_13) (fun s1 h => ?_)
  refine V_aload_n X 1 d_Sh_addSuit_16 rfl ?_
  refine V_getR X 3 5 (k + 7) rfl ji3 (by decide) (by decide) (by decide) fl_Sh_26 d_Sh_addSuit_17 hl_k hc_k (by decide) (jl_sh5 k hl_k hc_k).2.2 ?_
  refine V_iload X 0 d_Sh_addSuit_20 rfl ?_
  refine V_iload_n X 3 d_Sh_addSuit_22 rfl ?_
  refine V_cV X h (fun s2 q => C_V (q := 9) X [Value.int (gF σ k 1), Value.int a1] mt_Rw_put ms_Rw_put ml_Sh_67 (k_Rw_put s1 (k + 7) (jl_sh5 k hl_k hc_k).1 (jl_sh5 k hl_k hc_k).2.1 (gF σ k 1) a1 s2 q) rfl rfl (by omega) (Nat.le_of_ble_eq_true rfl) rfl (jl_sh5 k hl_k hc_k).1 (jl_sh5 k hl_k hc_k).2.1 (by decide) d_Sh_addSuit_23) (fun s2 h => ?_)
  refine V_aload_n X 1 d_Sh_addSuit_26 rfl ?_
  refine V_getR X 3 6 (k + 9) rfl ji3 (by decide) (by decide) (by decide) fl_Sh_29 d_Sh_addSuit_27 hl_k hc_k (by decide) (jl_sh6 k hl_k hc_k).2.2 ?_
  refine V_iload X 0 d_Sh_addSuit_30 rfl ?_
  refine V_iload_n X 4 d_Sh_addSuit_32 rfl ?_
  refine V_cV X h (fun s3 q => C_V (q := 9) X [Value.int (gF σ k 1), Value.int a2] mt_Rw_put ms_Rw_put ml_Sh_67 (k_Rw_put s2 (k + 9) (jl_sh6 k hl_k hc_k).1 (jl_sh6 k hl_k hc_k).2.1 (gF σ k 1) a2 s3 q) rfl rfl (by omega) (Nat.le_of_ble_eq_true rfl) rfl (jl_sh6 k hl_k hc_k).1 (jl_sh6 k hl_k hc_k).2.1 (by decide) d_Sh_addSuit_33) (fun s3 h => ?_)
  refine V_aload_n X 1 d_Sh_addSuit_36 rfl ?_
  refine V_getR X 3 7 (k + 11) rfl ji3 (by decide) (by decide) (by decide) fl_Sh_32 d_Sh_addSuit_37 hl_k hc_k (by decide) (jl_sh7 k hl_k hc_k).2.2 ?_
  refine V_iload X 0 d_Sh_addSuit_40 rfl ?_
  refine V_iload X 5 d_Sh_addSuit_42 rfl ?_
  refine V_cV X h (fun s4 q => C_V (q := 9) X [Value.int (gF σ k 1), Value.int a3] mt_Rw_put ms_Rw_put ml_Sh_67 (k_Rw_put s3 (k + 11) (jl_sh7 k hl_k hc_k).1 (jl_sh7 k hl_k hc_k).2.1 (gF σ k 1) a3 s4 q) rfl rfl (by omega) (Nat.le_of_ble_eq_true rfl) rfl (jl_sh7 k hl_k hc_k).1 (jl_sh7 k hl_k hc_k).2.1 (by decide) d_Sh_addSuit_44) (fun s4 h => ?_)
  refine V_aload_n X 1 d_Sh_addSuit_47 rfl ?_
  refine V_getR X 3 8 (k + 13) rfl ji3 (by decide) (by decide) (by decide) fl_Sh_35 d_Sh_addSuit_48 hl_k hc_k (by decide) (jl_sh8 k hl_k hc_k).2.2 ?_
  refine V_iload X 0 d_Sh_addSuit_51 rfl ?_
  refine V_iconst (v := 0) X d_Sh_addSuit_53 (by decide) ?_
  refine V_cV X h (fun s5 q => C_V (q := 9) X [Value.int (gF σ k 1), Value.int (0 : Int32)] mt_Rw_put ms_Rw_put ml_Sh_67 (k_Rw_put s4 (k + 13) (jl_sh8 k hl_k hc_k).1 (jl_sh8 k hl_k hc_k).2.1 (gF σ k 1) (0 : Int32) s5 q) rfl rfl (by omega) (Nat.le_of_ble_eq_true rfl) rfl (jl_sh8 k hl_k hc_k).1 (jl_sh8 k hl_k hc_k).2.1 (by decide) d_Sh_addSuit_54) (fun s5 h => ?_)
  refine V_aload_n X 1 d_Sh_addSuit_57 rfl ?_
  refine V_getR X 3 9 (k + 15) rfl ji3 (by decide) (by decide) (by decide) fl_Sh_38 d_Sh_addSuit_58 hl_k hc_k (by decide) (jl_sh9 k hl_k hc_k).2.2 ?_
  refine V_iload X 0 d_Sh_addSuit_61 rfl ?_
  refine V_iconst (v := 0) X d_Sh_addSuit_63 (by decide) ?_
  refine V_cV X h (fun s6 q => C_V (q := 9) X [Value.int (gF σ k 1), Value.int (0 : Int32)] mt_Rw_put ms_Rw_put ml_Sh_67 (k_Rw_put s5 (k + 15) (jl_sh9 k hl_k hc_k).1 (jl_sh9 k hl_k hc_k).2.1 (gF σ k 1) (0 : Int32) s6 q) rfl rfl (by omega) (Nat.le_of_ble_eq_true rfl) rfl (jl_sh9 k hl_k hc_k).1 (jl_sh9 k hl_k hc_k).2.1 (by decide) d_Sh_addSuit_64) (fun s6 h => ?_)
  refine V_aload_n X 1 d_Sh_addSuit_67 rfl ?_
  refine V_getR X 3 8 (k + 13) rfl ji3 (by decide) (by decide) (by decide) fl_Sh_35 d_Sh_addSuit_68 hl_k hc_k (by decide) (jl_sh8 k hl_k hc_k).2.2 ?_
  refine V_iload X 5 d_Sh_addSuit_71 rfl ?_
  refine V_aload_n X 1 d_Sh_addSuit_73 rfl ?_
  refine V_getR X 3 8 (k + 13) rfl ji3 (by decide) (by decide) (by decide) fl_Sh_35 d_Sh_addSuit_74 hl_k hc_k (by decide) (jl_sh8 k hl_k hc_k).2.2 ?_
  refine V_iload X 5 d_Sh_addSuit_77 rfl ?_
  refine V_cI X h (fun r7 q => C_V (q := 9) X [Value.int a3] mt_Rw_at ms_Rw_at ml_Sh_71 (k_Rw_at s6 (k + 13) (jl_sh8 k hl_k hc_k).1 (jl_sh8 k hl_k hc_k).2.1 a3 r7 q) rfl rfl (by omega) (Nat.le_of_ble_eq_true rfl) rfl (jl_sh8 k hl_k hc_k).1 (jl_sh8 k hl_k hc_k).2.1 (by decide) d_Sh_addSuit_79) (fun r7 h => ?_)
  refine V_iconst (v := 1) X d_Sh_addSuit_82 (by decide) ?_
  refine V_iadd X d_Sh_addSuit_83 ?_
  refine V_cV X h (fun s8 q => C_V (q := 9) X [Value.int a3, Value.int (r7 + (1 : Int32))] mt_Rw_put ms_Rw_put ml_Sh_67 (k_Rw_put s6 (k + 13) (jl_sh8 k hl_k hc_k).1 (jl_sh8 k hl_k hc_k).2.1 a3 (r7 + (1 : Int32)) s8 q) rfl rfl (by omega) (Nat.le_of_ble_eq_true rfl) rfl (jl_sh8 k hl_k hc_k).1 (jl_sh8 k hl_k hc_k).2.1 (by decide) d_Sh_addSuit_84) (fun s8 h => ?_)
  refine V_iload X 5 d_Sh_addSuit_87 rfl ?_
  refine V_istore X [(6, Value.int a3), (5, Value.int (gF σ k 1)), (0, Value.ref (ad k)), (1, Value.int a0), (2, Value.int a1), (3, Value.int a2), (4, Value.int a3)] d_Sh_addSuit_89 (by decide) rfl ?_
  refine V_iconst (v := 0) X d_Sh_addSuit_91 (by decide) ?_
  refine V_istore X [(7, Value.int (0 : Int32)), (6, Value.int a3), (5, Value.int (gF σ k 1)), (0, Value.ref (ad k)), (1, Value.int a0), (2, Value.int a1), (3, Value.int a2), (4, Value.int a3)] d_Sh_addSuit_92 (by decide) rfl ?_
  refine V_sub (lv' := [(0, Value.ref (ad k)), (5, Value.int (gF σ k 1)), (6, Value.int a3), (7, Value.int (0 : Int32))]) [3, 2, 1, 0] rfl ?_
  refine Sh_addSuit_L94_ok X fu k hl_k hc_k (gF σ k 1) _ hQ (fun l6_15 l7_16 s17 h => ?_) fu a3 (0 : Int32) s8 h
  refine V_aload_n X 0 d_Sh_addSuit_148 rfl ?_
  refine V_dup X d_Sh_addSuit_149 rfl ?_
  refine V_getI X 3 1 rfl ji3 (by decide) (by decide) (by decide) fl_Sh_52 d_Sh_addSuit_150 hl_k hc_k (by decide) ?_
  refine V_iconst (v := 1) X d_Sh_addSuit_153 (by decide) ?_
  refine V_iadd X d_Sh_addSuit_154 ?_
  refine V_putI X 3 1 rfl ji3 jk3 jn3 (by decide) (by decide) (by decide) rfl (by decide +kernel) fl_Sh_52 d_Sh_addSuit_155 hl_k hc_k (by decide) ?_
  have h9 := wp_some h
  exact hQ _ h9 _ _ d_Sh_addSuit_158
