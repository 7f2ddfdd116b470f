set_option maxHeartbeats 4000000 in
set_option maxRecDepth 100000 in
theorem k_In_bitCount (σ : Sg) (a0 : Int32) (r : Int32) (h : In_bitCount a0 = some r) : Evc y_In_bitCount prog_15_method_49_code 1 (some .int) 1 (fun ad => [Value.int a0]) σ σ (fun _ => some (.int r)) := by
  refine Evc_ofI (by decide) (fun ad => Nat.le_of_ble_eq_true rfl) (fun p l e R s m args below meth c D ad cI cB A Q X hQ => ?_)
  have X : Cx p R s m args meth c "java/lang/Integer" prog_15_method_49_code 1 1 D ad cI cB A 0 0 := X
  have hQ := hQ.pure
  have h : wpO (In_bitCount a0) (fun q => q = r) := ⟨_, h, rfl⟩
  rw [In_bitCount] at h
  refine V_sub (lv' := [(0, Value.int a0)]) [0] rfl ?_
  refine V_iload_n X 0 d_In_bitCount_0 rfl ?_
  refine V_iload_n X 0 d_In_bitCount_1 rfl ?_
  refine V_iconst (v := 1) X d_In_bitCount_2 (by decide) ?_
  refine V_iushr X d_In_bitCount_3 ?_
  refine V_ldcw X d_In_bitCount_4 kc_In_265 ?_
  refine V_iand X d_In_bitCount_7 ?_
  refine V_isub X d_In_bitCount_8 ?_
  refine V_istore_n X [(0, Value.int (a0 - (((a0.toUInt32 >>> ((1 : Int32).toUInt32 &&& Int32.toUInt32 31)).toInt32) &&& (1431655765 : Int32))))] d_In_bitCount_9 (by decide) rfl ?_
  refine V_iload_n X 0 d_In_bitCount_10 rfl ?_
  refine V_ldcw X d_In_bitCount_11 kc_In_266 ?_
  refine V_iand X d_In_bitCount_14 ?_
  refine V_iload_n X 0 d_In_bitCount_15 rfl ?_
  refine V_iconst (v := 2) X d_In_bitCount_16 (by decide) ?_
  refine V_iushr X d_In_bitCount_17 ?_
  refine V_ldcw X d_In_bitCount_18 kc_In_266 ?_
  refine V_iand X d_In_bitCount_21 ?_
  refine V_iadd X d_In_bitCount_22 ?_
  refine V_istore_n X [(0, Value.int (((a0 - (((a0.toUInt32 >>> ((1 : Int32).toUInt32 &&& Int32.toUInt32 31)).toInt32) &&& (1431655765 : Int32))) &&& (858993459 : Int32)) + ((((a0 - (((a0.toUInt32 >>> ((1 : Int32).toUInt32 &&& Int32.toUInt32 31)).toInt32) &&& (1431655765 : Int32))).toUInt32 >>> ((2 : Int32).toUInt32 &&& Int32.toUInt32 31)).toInt32) &&& (858993459 : Int32))))] d_In_bitCount_23 (by decide) rfl ?_
  refine V_iload_n X 0 d_In_bitCount_24 rfl ?_
  refine V_iload_n X 0 d_In_bitCount_25 rfl ?_
  refine V_iconst (v := 4) X d_In_bitCount_26 (by decide) ?_
  refine V_iushr X d_In_bitCount_27 ?_
  refine V_iadd X d_In_bitCount_28 ?_
  refine V_ldcw X d_In_bitCount_29 kc_In_267 ?_
  refine V_iand X d_In_bitCount_32 ?_
  refine V_istore_n X [(0, Value.int (((((a0 - (((a0.toUInt32 >>> ((1 : Int32).toUInt32 &&& Int32.toUInt32 31)).toInt32) &&& (1431655765 : Int32))) &&& (858993459 : Int32)) + ((((a0 - (((a0.toUInt32 >>> ((1 : Int32).toUInt32 &&& Int32.toUInt32 31)).toInt32) &&& (1431655765 : Int32))).toUInt32 >>> ((2 : Int32).toUInt32 &&& Int32.toUInt32 31)).toInt32) &&& (858993459 : Int32))) + (((((a0 - (((a0.toUInt32 >>> ((1 : Int32).toUInt32 &&& Int32.toUInt32 31)).toInt32) &&& (1431655765 : Int32))) &&& (858993459 : Int32)) + ((((a0 - (((a0.toUInt32 >>> ((1 : Int32).toUInt32 &&& Int32.toUInt32 31)).toInt32) &&& (1431655765 : Int32))).toUInt32 >>> ((2 : Int32).toUInt32 &&& Int32.toUInt32 31)).toInt32) &&& (858993459 : Int32))).toUInt32 >>> ((4 : Int32).toUInt32 &&& Int32.toUInt32 31)).toInt32)) &&& (252645135 : Int32)))] d_In_bitCount_33 (by decide) rfl ?_
  refine V_iload_n X 0 d_In_bitCount_34 rfl ?_
  refine V_iload_n X 0 d_In_bitCount_35 rfl ?_
  refine V_bipush (v := 8) X d_In_bitCount_36 (by decide) ?_
  refine V_iushr X d_In_bitCount_38 ?_
  refine V_iadd X d_In_bitCount_39 ?_
  refine V_istore_n X [(0, Value.int ((((((a0 - (((a0.toUInt32 >>> ((1 : Int32).toUInt32 &&& Int32.toUInt32 31)).toInt32) &&& (1431655765 : Int32))) &&& (858993459 : Int32)) + ((((a0 - (((a0.toUInt32 >>> ((1 : Int32).toUInt32 &&& Int32.toUInt32 31)).toInt32) &&& (1431655765 : Int32))).toUInt32 >>> ((2 : Int32).toUInt32 &&& Int32.toUInt32 31)).toInt32) &&& (858993459 : Int32))) + (((((a0 - (((a0.toUInt32 >>> ((1 : Int32).toUInt32 &&& Int32.toUInt32 31)).toInt32) &&& (1431655765 : Int32))) &&& (858993459 : Int32)) + ((((a0 - (((a0.toUInt32 >>> ((1 : Int32).toUInt32 &&& Int32.toUInt32 31)).toInt32) &&& (1431655765 : Int32))).toUInt32 >>> ((2 : Int32).toUInt32 &&& Int32.toUInt32 31)).toInt32) &&& (858993459 : Int32))).toUInt32 >>> ((4 : Int32).toUInt32 &&& Int32.toUInt32 31)).toInt32)) &&& (252645135 : Int32)) + (((((((a0 - (((a0.toUInt32 >>> ((1 : Int32).toUInt32 &&& Int32.toUInt32 31)).toInt32) &&& (1431655765 : Int32))) &&& (858993459 : Int32)) + ((((a0 - (((a0.toUInt32 >>> ((1 : Int32).toUInt32 &&& Int32.toUInt32 31)).toInt32) &&& (1431655765 : Int32))).toUInt32 >>> ((2 : Int32).toUInt32 &&& Int32.toUInt32 31)).toInt32) &&& (858993459 : Int32))) + (((((a0 - (((a0.toUInt32 >>> ((1 : Int32).toUInt32 &&& Int32.toUInt32 31)).toInt32) &&& (1431655765 : Int32))) &&& (858993459 : Int32)) + ((((a0 - (((a0.toUInt32 >>> ((1 : Int32).toUInt32 &&& Int32.toUInt32 31)).toInt32) &&& (1431655765 : Int32))).toUInt32 >>> ((2 : Int32).toUInt32 &&& Int32.toUInt32 31)).toInt32) &&& (858993459 : Int32))).toUInt32 >>> ((4 : Int32).toUInt32 &&& Int32.toUInt32 31)).toInt32)) &&& (252645135 : Int32)).toUInt32 >>> ((8 : Int32).toUInt32 &&& Int32.toUInt32 31)).toInt32)))] d_In_bitCount_40 (by decide) rfl ?_
  refine V_iload_n X 0 d_In_bitCount_41 rfl ?_
  refine V_iload_n X 0 d_In_bitCount_42 rfl ?_
  refine V_bipush (v := 16) X d_In_bitCount_43 (by decide) ?_
  refine V_iushr X d_In_bitCount_45 ?_
  refine V_iadd X d_In_bitCount_46 ?_
  refine V_istore_n X [(0, Value.int (((((((a0 - (((a0.toUInt32 >>> ((1 : Int32).toUInt32 &&& Int32.toUInt32 31)).toInt32) &&& (1431655765 : Int32))) &&& (858993459 : Int32)) + ((((a0 - (((a0.toUInt32 >>> ((1 : Int32).toUInt32 &&& Int32.toUInt32 31)).toInt32) &&& (1431655765 : Int32))).toUInt32 >>> ((2 : Int32).toUInt32 &&& Int32.toUInt32 31)).toInt32) &&& (858993459 : Int32))) + (((((a0 - (((a0.toUInt32 >>> ((1 : Int32).toUInt32 &&& Int32.toUInt32 31)).toInt32) &&& (1431655765 : Int32))) &&& (858993459 : Int32)) + ((((a0 - (((a0.toUInt32 >>> ((1 : Int32).toUInt32 &&& Int32.toUInt32 31)).toInt32) &&& (1431655765 : Int32))).toUInt32 >>> ((2 : Int32).toUInt32 &&& Int32.toUInt32 31)).toInt32) &&& (858993459 : Int32))).toUInt32 >>> ((4 : Int32).toUInt32 &&& Int32.toUInt32 31)).toInt32)) &&& (252645135 : Int32)) + (((((((a0 - (((a0.toUInt32 >>> ((1 : Int32).toUInt32 &&& Int32.toUInt32 31)).toInt32) &&& (1431655765 : Int32))) &&& (858993459 : Int32)) + ((((a0 - (((a0.toUInt32 >>> ((1 : Int32).toUInt32 &&& Int32.toUInt32 31)).toInt32) &&& (1431655765 : Int32))).toUInt32 >>> ((2 : Int32).toUInt32 &&& Int32.toUInt32 31)).toInt32) &&& (858993459 : Int32))) + (((((a0 - (((a0.toUInt32 >>> ((1 : Int32).toUInt32 &&& Int32.toUInt32 31)).toInt32) &&& (1431655765 : Int32))) &&& (858993459 : Int32)) + ((((a0 - (((a0.toUInt32 >>> ((1 : Int32).toUInt32 &&& Int32.toUInt32 31)).toInt32) &&& (1431655765 : Int32))).toUInt32 >>> ((2 : Int32).toUInt32 &&& Int32.toUInt32 31)).toInt32) &&& (858993459 : Int32))).toUInt32 >>> ((4 : Int32).toUInt32 &&& Int32.toUInt32 31)).toInt32)) &&& (252645135 : Int32)).toUInt32 >>> ((8 : Int32).toUInt32 &&& Int32.toUInt32 31)).toInt32)) + ((((((((a0 - (((a0.toUInt32 >>> ((1 : Int32).toUInt32 &&& Int32.toUInt32 31)).toInt32) &&& (1431655765 : Int32))) &&& (858993459 : Int32)) + ((((a0 - (((a0.toUInt32 >>> ((1 : Int32).toUInt32 &&& Int32.toUInt32 31)).toInt32) &&& (1431655765 : Int32))).toUInt32 >>> ((2 : Int32).toUInt32 &&& Int32.toUInt32 31)).toInt32) &&& (858993459 : Int32))) + (((((a0 - (((a0.toUInt32 >>> ((1 : Int32).toUInt32 &&& Int32.toUInt32 31)).toInt32) &&& (1431655765 : Int32))) &&& (858993459 : Int32)) + ((((a0 - (((a0.toUInt32 >>> ((1 : Int32).toUInt32 &&& Int32.toUInt32 31)).toInt32) &&& (1431655765 : Int32))).toUInt32 >>> ((2 : Int32).toUInt32 &&& Int32.toUInt32 31)).toInt32) &&& (858993459 : Int32))).toUInt32 >>> ((4 : Int32).toUInt32 &&& Int32.toUInt32 31)).toInt32)) &&& (252645135 : Int32)) + (((((((a0 - (((a0.toUInt32 >>> ((1 : Int32).toUInt32 &&& Int32.toUInt32 31)).toInt32) &&& (1431655765 : Int32))) &&& (858993459 : Int32)) + ((((a0 - (((a0.toUInt32 >>> ((1 : Int32).toUInt32 &&& Int32.toUInt32 31)).toInt32) &&& (1431655765 : Int32))).toUInt32 >>> ((2 : Int32).toUInt32 &&& Int32.toUInt32 31)).toInt32) &&& (858993459 : Int32))) + (((((a0 - (((a0.toUInt32 >>> ((1 : Int32).toUInt32 &&& Int32.toUInt32 31)).toInt32) &&& (1431655765 : Int32))) &&& (858993459 : Int32)) + ((((a0 - (((a0.toUInt32 >>> ((1 : Int32).toUInt32 &&& Int32.toUInt32 31)).toInt32) &&& (1431655765 : Int32))).toUInt32 >>> ((2 : Int32).toUInt32 &&& Int32.toUInt32 31)).toInt32) &&& (858993459 : Int32))).toUInt32 >>> ((4 : Int32).toUInt32 &&& Int32.toUInt32 31)).toInt32)) &&& (252645135 : Int32)).toUInt32 >>> ((8 : Int32).toUInt32 &&& Int32.toUInt32 31)).toInt32)).toUInt32 >>> ((16 : Int32).toUInt32 &&& Int32.toUInt32 31)).toInt32)))] d_In_bitCount_47 (by decide) rfl ?_
  refine V_iload_n X 0 d_In_bitCount_48 rfl ?_
  refine V_bipush (v := 63) X d_In_bitCount_49 (by decide) ?_
  refine V_iand X d_In_bitCount_51 ?_
  have h9 := wp_some h
  exact hQ _ h9 (fun h9 => absurd h9 (by decide)) _ _ d_In_bitCount_52
set_option maxHeartbeats 4000000 in
set_option maxRecDepth 100000 in
theorem k_Sh_years (σ : Sg) (k : Nat) (hl_k : k < 116) (hc_k : jv_cls k = 3) (r : Int32) (h : Sh_years σ k = some r) : Evc y_Sh_years prog_10_method_11_code 1 (some .int) 1 (fun ad => [Value.ref (ad k)]) σ σ (fun _ => some (.int r)) := by
  refine Evc_ofI (by decide) (fun ad => Nat.le_of_ble_eq_true rfl) (fun p l e R s m args below meth c D ad cI cB A Q X hQ => ?_)
  have X : Cx p R s m args meth c jR3 prog_10_method_11_code 1 1 D ad cI cB A 0 0 := X
  have hQ := hQ.pure
  have h : wpO (Sh_years σ k) (fun q => q = r) := ⟨_, h, rfl⟩
  rw [Sh_years] at h
  refine V_sub (lv' := [(0, Value.ref (ad k))]) [0] rfl ?_
  refine V_aload_n X 0 d_Sh_years_0 rfl ?_
  refine V_getI X 3 12 rfl ji3 (by decide) (by decide) (by decide) fl_Sh_58 d_Sh_years_1 hl_k hc_k (by decide) ?_
  have h9 := wp_some h
  exact hQ _ h9 (fun h9 => absurd h9 (by decide)) _ _ d_Sh_years_4
set_option maxHeartbeats 4000000 in
set_option maxRecDepth 100000 in
theorem k_Sh_sightings (σ : Sg) (k : Nat) (hl_k : k < 116) (hc_k : jv_cls k = 3) : Evc y_Sh_sightings prog_10_method_13_code 1 (some (.object "MistletoeCourt$Sightings")) 1 (fun ad => [Value.ref (ad k)]) σ σ (fun ad => some (.ref (ad (k + 17)))) := by
  refine Evc_ofR (by decide) (fun ad => Nat.le_of_ble_eq_true rfl) (fun p l e R s m args below meth c D ad cI cB A Q X hQ => ?_)
  have X : Cx p R s m args meth c jR3 prog_10_method_13_code 1 1 D ad cI cB A 0 0 := X
  refine V_sub (lv' := [(0, Value.ref (ad k))]) [0] rfl ?_
  refine V_aload_n X 0 d_Sh_sightings_0 rfl ?_
  refine V_getR X 3 10 (k + 17) rfl ji3 (by decide) (by decide) (by decide) fl_Sh_44 d_Sh_sightings_1 hl_k hc_k (by decide) (jl_sh10 k hl_k hc_k).2.2 ?_
  exact hQ _ _ d_Sh_sightings_4
set_option maxHeartbeats 4000000 in
set_option maxRecDepth 100000 in
theorem k_Si_size (σ : Sg) (k : Nat) (hl_k : k < 116) (hc_k : jv_cls k = 4) (r : Int32) (h : Si_size σ k = some r) : Evc y_Si_size prog_11_method_2_code 1 (some .int) 1 (fun ad => [Value.ref (ad k)]) σ σ (fun _ => some (.int r)) := by
  refine Evc_ofI (by decide) (fun ad => Nat.le_of_ble_eq_true rfl) (fun p l e R s m args below meth c D ad cI cB A Q X hQ => ?_)
  have X : Cx p R s m args meth c jR4 prog_11_method_2_code 1 1 D ad cI cB A 0 0 := X
  have hQ := hQ.pure
  have h : wpO (Si_size σ k) (fun q => q = r) := ⟨_, h, rfl⟩
  rw [Si_size] at h
  refine V_sub (lv' := [(0, Value.ref (ad k))]) [0] rfl ?_
  refine V_aload_n X 0 d_Si_size_0 rfl ?_
  refine V_getI X 4 3 rfl ji4 (by decide) (by decide) (by decide) fl_Si_26 d_Si_size_1 hl_k hc_k (by decide) ?_
  have h9 := wp_some h
  exact hQ _ h9 (fun h9 => absurd h9 (by decide)) _ _ d_Si_size_4
set_option maxHeartbeats 4000000 in
set_option maxRecDepth 100000 in
theorem k_Co_count (fu : Nat) (σ : Sg) (a0 : Int32) (r : Int32) (h : Co_count fu σ a0 = some r) : Evc y_Co_count prog_1_method_22_code 2 (some .int) 4 (fun ad => [Value.ref (ad 0), Value.int a0]) σ σ (fun _ => some (.int r)) := by
  refine Evc_ofI (by decide) (fun ad => Nat.le_of_ble_eq_true rfl) (fun p l e R s m args below meth c D ad cI cB A Q X hQ => ?_)
  have X : Cx p R s m args meth c jR0 prog_1_method_22_code 2 4 D ad cI cB A 0 0 := X
  have hQ := hQ.pure
  have h : wpO (Co_count fu σ a0) (fun q => q = r) := ⟨_, h, rfl⟩
  rw [Co_count] at h
  refine V_sub (lv' := [(0, Value.ref (ad 0)), (1, Value.int a0)]) [0, 1] rfl ?_
  refine V_iload_n X 1 d_Co_count_0 rfl ?_
  rcases wp_case h with ⟨c1, h⟩ | ⟨c1, h⟩
  · skip
    refine V_tableIn X 63 64 d_Co_count_1 (0) (by rw [c1]; decide) (by decide) (by decide) rfl (by decide) ?_
    refine V_aload_n X 0 d_Co_count_64 rfl ?_
    refine V_getR X 0 2 5 rfl ji0 (by decide) (by decide) (by decide) fl_Co_28 d_Co_count_65 (by decide) (by decide) (by decide) (by decide) ?_
    refine V_cI X h (fun r2 q => C_V (q := 3) X [] mt_Sh_trees ms_Sh_trees ml_Co_241 (k_Sh_trees σ 5 (by decide) (by decide) r2 q) rfl rfl (by omega) (Nat.le_of_ble_eq_true rfl) rfl (by decide) (by decide) (by decide) d_Co_count_68) (fun r2 h => ?_)
    have h9 := wp_some h
    exact hQ _ h9 (fun h9 => absurd h9 (by decide)) _ _ d_Co_count_71
  · skip
    rcases wp_case h with ⟨c3, h⟩ | ⟨c3, h⟩
    · skip
      refine V_tableIn X 71 72 d_Co_count_1 (1) (by rw [c3]; decide) (by decide) (by decide) rfl (by decide) ?_
      refine V_aload_n X 0 d_Co_count_72 rfl ?_
      refine V_getR X 0 2 5 rfl ji0 (by decide) (by decide) (by decide) fl_Co_28 d_Co_count_73 (by decide) (by decide) (by decide) (by decide) ?_
      refine V_cI X h (fun r4 q => C_V (q := 3) X [] mt_Sh_suits ms_Sh_suits ml_Co_94 (k_Sh_suits σ 5 (by decide) (by decide) r4 q) rfl rfl (by omega) (Nat.le_of_ble_eq_true rfl) rfl (by decide) (by decide) (by decide) d_Co_count_76) (fun r4 h => ?_)
      have h9 := wp_some h
      exact hQ _ h9 (fun h9 => absurd h9 (by decide)) _ _ d_Co_count_79
    · skip
      rcases wp_case h with ⟨c5, h⟩ | ⟨c5, h⟩
      · skip
        refine V_tableIn X 79 80 d_Co_count_1 (2) (by rw [c5]; decide) (by decide) (by decide) rfl (by decide) ?_
        refine V_aload_n X 0 d_Co_count_80 rfl ?_
        refine V_getR X 0 2 5 rfl ji0 (by decide) (by decide) (by decide) fl_Co_28 d_Co_count_81 (by decide) (by decide) (by decide) (by decide) ?_
        refine V_cI X h (fun r6 q => C_V (q := 3) X [] mt_Sh_allBerries ms_Sh_allBerries ml_Co_244 (k_Sh_allBerries fu σ 5 (by decide) (by decide) r6 q) rfl rfl (by omega) (Nat.le_of_ble_eq_true rfl) rfl (by decide) (by decide) (by decide) d_Co_count_84) (fun r6 h => ?_)
        have h9 := wp_some h
        exact hQ _ h9 (fun h9 => absurd h9 (by decide)) _ _ d_Co_count_87
      · skip
        rcases wp_case h with ⟨c7, h⟩ | ⟨c7, h⟩
        · skip
          refine V_tableIn X 87 88 d_Co_count_1 (3) (by rw [c7]; decide) (by decide) (by decide) rfl (by decide) ?_
          refine V_aload_n X 0 d_Co_count_88 rfl ?_
          refine V_getR X 0 2 5 rfl ji0 (by decide) (by decide) (by decide) fl_Co_28 d_Co_count_89 (by decide) (by decide) (by decide) (by decide) ?_
          refine V_cI X h (fun r8 q => C_V (q := 3) X [] mt_Sh_allBirds ms_Sh_allBirds ml_Co_247 (k_Sh_allBirds fu σ 5 (by decide) (by decide) r8 q) rfl rfl (by omega) (Nat.le_of_ble_eq_true rfl) rfl (by decide) (by decide) (by decide) d_Co_count_92) (fun r8 h => ?_)
          have h9 := wp_some h
          exact hQ _ h9 (fun h9 => absurd h9 (by decide)) _ _ d_Co_count_95
        · skip
          rcases wp_case h with ⟨c9, h⟩ | ⟨c9, h⟩
          · skip
            refine V_tableIn X 95 96 d_Co_count_1 (4) (by rw [c9]; decide) (by decide) (by decide) rfl (by decide) ?_
            refine V_aload_n X 0 d_Co_count_96 rfl ?_
            refine V_getR X 0 2 5 rfl ji0 (by decide) (by decide) (by decide) fl_Co_28 d_Co_count_97 (by decide) (by decide) (by decide) (by decide) ?_
            refine V_cI X h (fun r10 q => C_V (q := 3) X [] mt_Sh_righted ms_Sh_righted ml_Co_129 (k_Sh_righted σ 5 (by decide) (by decide) r10 q) rfl rfl (by omega) (Nat.le_of_ble_eq_true rfl) rfl (by decide) (by decide) (by decide) d_Co_count_100) (fun r10 h => ?_)
            refine V_cI X h (fun r11 q => C_S X [Value.int r10] mt_In_bitCount ms_In_bitCount ml_Co_250 (k_In_bitCount σ r10 r11 q) rfl rfl (by omega) (Nat.le_of_ble_eq_true rfl) d_Co_count_103) (fun r11 h => ?_)
            have h9 := wp_some h
            exact hQ _ h9 (fun h9 => absurd h9 (by decide)) _ _ d_Co_count_106
          · skip
            rcases wp_case h with ⟨c12, h⟩ | ⟨c12, h⟩
            · skip
              refine V_tableIn X 106 107 d_Co_count_1 (5) (by rw [c12]; decide) (by decide) (by decide) rfl (by decide) ?_
              refine V_aload_n X 0 d_Co_count_107 rfl ?_
              refine V_getR X 0 2 5 rfl ji0 (by decide) (by decide) (by decide) fl_Co_28 d_Co_count_108 (by decide) (by decide) (by decide) (by decide) ?_
              refine V_cI X h (fun r13 q => C_V (q := 3) X [] mt_Sh_holds ms_Sh_holds ml_Co_180 (k_Sh_holds fu σ 5 (by decide) (by decide) r13 q) rfl rfl (by omega) (Nat.le_of_ble_eq_true rfl) rfl (by decide) (by decide) (by decide) d_Co_count_111) (fun r13 h => ?_)
              have h9 := wp_some h
              exact hQ _ h9 (fun h9 => absurd h9 (by decide)) _ _ d_Co_count_114
            · skip
              rcases wp_case h with ⟨c14, h⟩ | ⟨c14, h⟩
              · skip
                refine V_tableIn X 114 115 d_Co_count_1 (6) (by rw [c14]; decide) (by decide) (by decide) rfl (by decide) ?_
                refine V_aload_n X 0 d_Co_count_115 rfl ?_
                refine V_getR X 0 2 5 rfl ji0 (by decide) (by decide) (by decide) fl_Co_28 d_Co_count_116 (by decide) (by decide) (by decide) (by decide) ?_
                refine V_cI X h (fun r15 q => C_V (q := 3) X [] mt_Sh_years ms_Sh_years ml_Co_164 (k_Sh_years σ 5 (by decide) (by decide) r15 q) rfl rfl (by omega) (Nat.le_of_ble_eq_true rfl) rfl (by decide) (by decide) (by decide) d_Co_count_119) (fun r15 h => ?_)
                have h9 := wp_some h
                exact hQ _ h9 (fun h9 => absurd h9 (by decide)) _ _ d_Co_count_122
              · skip
                rcases wp_case h with ⟨c16, h⟩ | ⟨c16, h⟩
                · skip
                  refine V_tableIn X 122 123 d_Co_count_1 (7) (by rw [c16]; decide) (by decide) (by decide) rfl (by decide) ?_
                  refine V_aload_n X 0 d_Co_count_123 rfl ?_
                  refine V_getR X 0 2 5 rfl ji0 (by decide) (by decide) (by decide) fl_Co_28 d_Co_count_124 (by decide) (by decide) (by decide) (by decide) ?_
                  refine V_cI X h (fun r17 q => C_V (q := 3) X [] mt_Sh_rightings ms_Sh_rightings ml_Co_154 (k_Sh_rightings σ 5 (by decide) (by decide) r17 q) rfl rfl (by omega) (Nat.le_of_ble_eq_true rfl) rfl (by decide) (by decide) (by decide) d_Co_count_127) (fun r17 h => ?_)
                  have h9 := wp_some h
                  exact hQ _ h9 (fun h9 => absurd h9 (by decide)) _ _ d_Co_count_130
                · skip
                  rcases wp_case h with ⟨c18, h⟩ | ⟨c18, h⟩
                  · skip
                    refine V_tableIn X 130 131 d_Co_count_1 (8) (by rw [c18]; decide) (by decide) (by decide) rfl (by decide) ?_
                    refine V_aload_n X 0 d_Co_count_131 rfl ?_
                    refine V_getR X 0 2 5 rfl ji0 (by decide) (by decide) (by decide) fl_Co_28 d_Co_count_132 (by decide) (by decide) (by decide) (by decide) ?_
                    refine V_cR (t := 22) X (C_V (q := 3) X [] mt_Sh_sightings ms_Sh_sightings ml_Co_219 (k_Sh_sightings σ 5 (by decide) (by decide)) rfl rfl (by omega) (Nat.le_of_ble_eq_true rfl) rfl (by decide) (by decide) (by decide) d_Co_count_135) ?_
                    refine V_cI X h (fun r19 q => C_V (q := 4) X [] mt_Si_size ms_Si_size ml_Co_223 (k_Si_size σ 22 (by decide) (by decide) r19 q) rfl rfl (by omega) (Nat.le_of_ble_eq_true rfl) rfl (by decide) (by decide) (by decide) d_Co_count_138) (fun r19 h => ?_)
                    have h9 := wp_some h
                    exact hQ _ h9 (fun h9 => absurd h9 (by decide)) _ _ d_Co_count_141
                  · skip
                    rcases wp_case h with ⟨c20, h⟩ | ⟨c20, h⟩
                    · skip
                      refine V_tableIn X 141 142 d_Co_count_1 (9) (by rw [c20]; decide) (by decide) (by decide) rfl (by decide) ?_
                      refine V_aload_n X 0 d_Co_count_142 rfl ?_
                      refine V_getR X 0 0 1 rfl ji0 (by decide) (by decide) (by decide) fl_Co_10 d_Co_count_143 (by decide) (by decide) (by decide) (by decide) ?_
                      refine V_cI X h (fun r21 q => C_V (q := 1) X [] mt_Pg_size ms_Pg_size ml_Co_65 (k_Pg_size σ r21 q) rfl rfl (by omega) (Nat.le_of_ble_eq_true rfl) rfl (by decide) (by decide) (by decide) d_Co_count_146) (fun r21 h => ?_)
                      have h9 := wp_some h
                      exact hQ _ h9 (fun h9 => absurd h9 (by decide)) _ _ d_Co_count_149
                    · skip
                      rcases wp_case h with ⟨c22, h⟩ | ⟨c22, h⟩
                      · skip
                        refine V_tableIn X 149 150 d_Co_count_1 (10) (by rw [c22]; decide) (by decide) (by decide) rfl (by decide) ?_
                        refine V_aload_n X 0 d_Co_count_150 rfl ?_
                        refine V_getI X 0 9 rfl ji0 (by decide) (by decide) (by decide) fl_Co_90 d_Co_count_151 (by decide) (by decide) (by decide) ?_
                        have h9 := wp_some h
                        exact hQ _ h9 (fun h9 => absurd h9 (by decide)) _ _ d_Co_count_154
                      · skip
                        rcases wp_case h with ⟨c23, h⟩ | ⟨c23, h⟩
                        · skip
                          refine V_tableIn X 154 155 d_Co_count_1 (11) (by rw [c23]; decide) (by decide) (by decide) rfl (by decide) ?_
                          refine V_aload_n X 0 d_Co_count_155 rfl ?_
                          refine V_getI X 0 10 rfl ji0 (by decide) (by decide) (by decide) fl_Co_183 d_Co_count_156 (by decide) (by decide) (by decide) ?_
                          have h9 := wp_some h
                          exact hQ _ h9 (fun h9 => absurd h9 (by decide)) _ _ d_Co_count_159
                        · skip
                          refine V_tableOut X 160 d_Co_count_1 (by have z0 := sw_ne c1 (0) (by decide); have z1 := sw_ne c3 (1) (by decide); have z2 := sw_ne c5 (2) (by decide); have z3 := sw_ne c7 (3) (by decide); have z4 := sw_ne c9 (4) (by decide); have z5 := sw_ne c12 (5) (by decide); have z6 := sw_ne c14 (6) (by decide); have z7 := sw_ne c16 (7) (by decide); have z8 := sw_ne c18 (8) (by decide); have z9 := sw_ne c20 (9) (by decide); have z10 := sw_ne c22 (10) (by decide); have z11 := sw_ne c23 (11) (by decide); omega) (by decide) ?_
                          refine V_bipush (v := -102) X d_Co_count_160 (by decide) ?_
                          have h9 := wp_some h
                          exact hQ _ h9 (fun h9 => absurd h9 (by decide)) _ _ d_Co_count_162
set_option maxHeartbeats 4000000 in
set_option maxRecDepth 100000 in
theorem k_Sh_berries (σ : Sg) (k : Nat) (hl_k : k < 116) (hc_k : jv_cls k = 3) (a0 : Int32) (r : Int32) (h : Sh_berries σ k a0 = some r) : Evc y_Sh_berries prog_10_method_14_code 2 (some .int) 2 (fun ad => [Value.ref (ad k), Value.int a0]) σ σ (fun _ => some (.int r)) := by
  refine Evc_ofI (by decide) (fun ad => Nat.le_of_ble_eq_true rfl) (fun p l e R s m args below meth c D ad cI cB A Q X hQ => ?_)
  have X : Cx p R s m args meth c jR3 prog_10_method_14_code 2 2 D ad cI cB A 0 0 := X
  have hQ := hQ.pure
  have h : wpO (Sh_berries σ k a0) (fun q => q = r) := ⟨_, h, rfl⟩
  rw [Sh_berries] at h
  refine V_sub (lv' := [(0, Value.ref (ad k)), (1, Value.int a0)]) [0, 1] rfl ?_
  refine V_aload_n X 0 d_Sh_berries_0 rfl ?_
  refine V_getR X 3 2 (k + 1) rfl ji3 (by decide) (by decide) (by decide) fl_Sh_14 d_Sh_berries_1 hl_k hc_k (by decide) (jl_sh2 k hl_k hc_k).2.2 ?_
  refine V_iload_n X 1 d_Sh_berries_4 rfl ?_
  refine V_cI X h (fun r1 q => C_V (q := 9) X [Value.int a0] mt_Rw_at ms_Rw_at ml_Sh_71 (k_Rw_at σ (k + 1) (jl_sh2 k hl_k hc_k).1 (jl_sh2 k hl_k hc_k).2.1 a0 r1 q) rfl rfl (by omega) (Nat.le_of_ble_eq_true rfl) rfl (jl_sh2 k hl_k hc_k).1 (jl_sh2 k hl_k hc_k).2.1 (by decide) d_Sh_berries_5) (fun r1 h => ?_)
  have h9 := wp_some h
  exact hQ _ h9 (fun h9 => absurd h9 (by decide)) _ _ d_Sh_berries_8
set_option maxHeartbeats 4000000 in
set_option maxRecDepth 100000 in
theorem Sh_possibleAt_L4_ok {p : Program} {l : Launch} {e : Env} {R : Room} {s : State} {m : MethodId} {args : Array Value} {below : List Frame} {meth : Method} {c : Code} {D : va_G} {ad : Nat → Nat} {cI cB : ClassId} {A : Nat → Prop} {cells slots : Nat} {Q : State → Prop} (X : Cx p R s m args meth c jR3 prog_10_method_31_code 4 9 D ad cI cB A cells slots) (fu : Nat) (k : Nat) (hl_k : k < 116) (hc_k : jv_cls k = 3) (l1 : Int32) (σ : Sg) (kont : (Int32 → Int32 → Option Int32)) {K : Int32 → Prop} (hQ : RP p l e R s m args below meth c 4 D ad cI cB A cells slots Q prog_10_method_31_code false σ K) (hk : ∀ (l2 : Int32) (l3 : Int32), wpO (kont l2 l3) K → V p l e R s m args below meth c 4 D A cells slots Q (wl ad cI cB σ) 38 [(0, Value.ref (ad k)), (1, Value.int l1), (2, Value.int l2), (3, Value.int l3)] []) : ∀ (n : Nat) (l2 : Int32) (l3 : Int32), wpO (Sh_possibleAt_L4 fu k l1 σ kont n l2 l3) K → V p l e R s m args below meth c 4 D A cells slots Q (wl ad cI cB σ) 4 [(0, Value.ref (ad k)), (1, Value.int l1), (2, Value.int l2), (3, Value.int l3)] [] := by
  intro n
  induction n with
  | zero =>
    intro l2 l3 h
    exact (wp_none h).elim
  | succ n ih =>
    intro l2 l3 h
    rw [Sh_possibleAt_L4] at h
    refine V_iload_n X 3 d_Sh_possibleAt_4 rfl ?_
    refine V_aload_n X 0 d_Sh_possibleAt_5 rfl ?_
    refine V_getI X 3 1 rfl ji3 (by decide) (by decide) (by decide) fl_Sh_52 d_Sh_possibleAt_6 hl_k hc_k (by decide) ?_
    refine V_icmp_ge X 38 d_Sh_possibleAt_9 (by decide) h (fun c1 h => ?_) (fun c1 h => ?_)
    · skip
      exact hk l2 l3 h
    · skip
      refine V_iload_n X 2 d_Sh_possibleAt_12 rfl ?_
      refine V_aload_n X 0 d_Sh_possibleAt_13 rfl ?_
      refine V_iload_n X 3 d_Sh_possibleAt_14 rfl ?_
      refine V_iload_n X 1 d_Sh_possibleAt_15 rfl ?_
      refine V_cI X h (fun r2 q => C_V (q := 3) X [Value.int l3, Value.int l1] mt_Sh_isPossible ms_Sh_isPossible ml_Sh_115 (k_Sh_isPossible σ k hl_k hc_k l3 l1 r2 q) rfl rfl (by omega) (Nat.le_of_ble_eq_true rfl) rfl hl_k hc_k (by decide) d_Sh_possibleAt_16) (fun r2 h => ?_)
      refine V_if_eq X 29 d_Sh_possibleAt_19 (by decide) h (fun c3 h => ?_) (fun c3 h => ?_)
      · skip
        refine V_iconst (v := 0) X d_Sh_possibleAt_29 (by decide) ?_
        refine V_ior X d_Sh_possibleAt_30 ?_
        refine V_istore_n X [(2, Value.int (l2 ||| (0 : Int32))), (0, Value.ref (ad k)), (1, Value.int l1), (3, Value.int l3)] d_Sh_possibleAt_31 (by decide) rfl ?_
        refine V_iinc X 3 (l3 + (1 : Int32)) [(3, Value.int (l3 + (1 : Int32))), (2, Value.int (l2 ||| (0 : Int32))), (0, Value.ref (ad k)), (1, Value.int l1)] d_Sh_possibleAt_32 rfl (by first | rfl | decide) (by decide) rfl ?_
        refine V_goto X 4 d_Sh_possibleAt_35 (by decide) ?_
        refine V_sub (lv' := [(0, Value.ref (ad k)), (1, Value.int l1), (2, Value.int (l2 ||| (0 : Int32))), (3, Value.int (l3 + (1 : Int32)))]) [2, 3, 1, 0] rfl ?_
        exact ih (l2 ||| (0 : Int32)) (l3 + (1 : Int32)) h
      · skip
        refine V_iload_n X 3 d_Sh_possibleAt_22 rfl ?_
        refine V_cI X h (fun r4 q => C_SN X [Value.int l3] mt_Co_bit ms_Co_bit mn_Sh_75 (k_Co_bit σ l3 r4 q) rfl rfl (by omega) (Nat.le_of_ble_eq_true rfl) d_Sh_possibleAt_23) (fun r4 h => ?_)
        refine V_goto X 30 d_Sh_possibleAt_26 (by decide) ?_
        refine V_ior X d_Sh_possibleAt_30 ?_
        refine V_istore_n X [(2, Value.int (l2 ||| r4)), (0, Value.ref (ad k)), (1, Value.int l1), (3, Value.int l3)] d_Sh_possibleAt_31 (by decide) rfl ?_
        refine V_iinc X 3 (l3 + (1 : Int32)) [(3, Value.int (l3 + (1 : Int32))), (2, Value.int (l2 ||| r4)), (0, Value.ref (ad k)), (1, Value.int l1)] d_Sh_possibleAt_32 rfl (by first | rfl | decide) (by decide) rfl ?_
        refine V_goto X 4 d_Sh_possibleAt_35 (by decide) ?_
        refine V_sub (lv' := [(0, Value.ref (ad k)), (1, Value.int l1), (2, Value.int (l2 ||| r4)), (3, Value.int (l3 + (1 : Int32)))]) [2, 3, 1, 0] rfl ?_
        exact ih (l2 ||| r4) (l3 + (1 : Int32)) h
set_option maxHeartbeats 4000000 in
set_option maxRecDepth 100000 in
theorem k_Sh_possibleAt (fu : Nat) (σ : Sg) (k : Nat) (hl_k : k < 116) (hc_k : jv_cls k = 3) (a0 : Int32) (r : Int32) (h : Sh_possibleAt fu σ k a0 = some r) : Evc y_Sh_possibleAt prog_10_method_31_code 4 (some .int) 9 (fun ad => [Value.ref (ad k), Value.int a0]) σ σ (fun _ => some (.int r)) := by
  refine Evc_ofI (by decide) (fun ad => Nat.le_of_ble_eq_true rfl) (fun p l e R s m args below meth c D ad cI cB A Q X hQ => ?_)
  have X : Cx p R s m args meth c jR3 prog_10_method_31_code 4 9 D ad cI cB A 0 0 := X
  have hQ := hQ.pure
  have h : wpO (Sh_possibleAt fu σ k a0) (fun q => q = r) := ⟨_, h, rfl⟩
  rw [Sh_possibleAt] at h
  refine V_sub (lv' := [(0, Value.ref (ad k)), (1, Value.int a0)]) [0, 1] rfl ?_
  refine V_iconst (v := 0) X d_Sh_possibleAt_0 (by decide) ?_
  refine V_istore_n X [(2, Value.int (0 : Int32)), (0, Value.ref (ad k)), (1, Value.int a0)] d_Sh_possibleAt_1 (by decide) rfl ?_
  refine V_iconst (v := 0) X d_Sh_possibleAt_2 (by decide) ?_
  refine V_istore_n X [(3, Value.int (0 : Int32)), (2, Value.int (0 : Int32)), (0, Value.ref (ad k)), (1, Value.int a0)] d_Sh_possibleAt_3 (by decide) rfl ?_
  refine V_sub (lv' := [(0, Value.ref (ad k)), (1, Value.int a0), (2, Value.int (0 : Int32)), (3, Value.int (0 : Int32))]) [2, 3, 1, 0] rfl ?_
  refine Sh_possibleAt_L4_ok X fu k hl_k hc_k a0 σ _ hQ (fun l2_5 l3_6 h => ?_) fu (0 : Int32) (0 : Int32) h
  refine V_iload_n X 2 d_Sh_possibleAt_38 rfl ?_
  have h9 := wp_some h
  exact hQ _ h9 (fun h9 => absurd h9 (by decide)) _ _ d_Sh_possibleAt_39
set_option maxHeartbeats 4000000 in
set_option maxRecDepth 100000 in
theorem k_Co_tree (fu : Nat) (σ : Sg) (a0 : Int32) (a1 : Int32) (r : Int32) (h : Co_tree fu σ a0 a1 = some r) : Evc y_Co_tree prog_1_method_6_code 3 (some .int) 10 (fun ad => [Value.ref (ad 0), Value.int a0, Value.int a1]) σ σ (fun _ => some (.int r)) := by
  refine Evc_ofI (by decide) (fun ad => Nat.le_of_ble_eq_true rfl) (fun p l e R s m args below meth c D ad cI cB A Q X hQ => ?_)
  have X : Cx p R s m args meth c jR0 prog_1_method_6_code 3 10 D ad cI cB A 0 0 := X
  have hQ := hQ.pure
  have h : wpO (Co_tree fu σ a0 a1) (fun q => q = r) := ⟨_, h, rfl⟩
  rw [Co_tree] at h
  refine V_sub (lv' := [(0, Value.ref (ad 0)), (1, Value.int a0), (2, Value.int a1)]) [0, 1, 2] rfl ?_
  refine V_aload_n X 0 d_Co_tree_0 rfl ?_
  refine V_getR X 0 2 5 rfl ji0 (by decide) (by decide) (by decide) fl_Co_28 d_Co_tree_1 (by decide) (by decide) (by decide) (by decide) ?_
  refine V_iload_n X 1 d_Co_tree_4 rfl ?_
  refine V_cI X h (fun r1 q => C_V (q := 3) X [Value.int a0] mt_Sh_hasTree ms_Sh_hasTree ml_Co_97 (k_Sh_hasTree σ 5 (by decide) (by decide) a0 r1 q) rfl rfl (by omega) (Nat.le_of_ble_eq_true rfl) rfl (by decide) (by decide) (by decide) d_Co_tree_5) (fun r1 h => ?_)
  refine V_if_ne X 14 d_Co_tree_8 (by decide) h (fun c2 h => ?_) (fun c2 h => ?_)
  · skip
    refine V_iload_n X 2 d_Co_tree_14 rfl ?_
    rcases wp_case h with ⟨c3, h⟩ | ⟨c3, h⟩
    · skip
      refine V_tableIn X 25 40 d_Co_tree_15 (0) (by rw [c3]; decide) (by decide) (by decide) rfl (by decide) ?_
      refine V_aload_n X 0 d_Co_tree_40 rfl ?_
      refine V_getR X 0 2 5 rfl ji0 (by decide) (by decide) (by decide) fl_Co_28 d_Co_tree_41 (by decide) (by decide) (by decide) (by decide) ?_
      refine V_iload_n X 1 d_Co_tree_44 rfl ?_
      refine V_cI X h (fun r4 q => C_V (q := 3) X [Value.int a0] mt_Sh_berries ms_Sh_berries ml_Co_101 (k_Sh_berries σ 5 (by decide) (by decide) a0 r4 q) rfl rfl (by omega) (Nat.le_of_ble_eq_true rfl) rfl (by decide) (by decide) (by decide) d_Co_tree_45) (fun r4 h => ?_)
      have h9 := wp_some h
      exact hQ _ h9 (fun h9 => absurd h9 (by decide)) _ _ d_Co_tree_48
    · skip
      rcases wp_case h with ⟨c5, h⟩ | ⟨c5, h⟩
      · skip
        refine V_tableIn X 34 49 d_Co_tree_15 (1) (by rw [c5]; decide) (by decide) (by decide) rfl (by decide) ?_
        refine V_aload_n X 0 d_Co_tree_49 rfl ?_
        refine V_getR X 0 2 5 rfl ji0 (by decide) (by decide) (by decide) fl_Co_28 d_Co_tree_50 (by decide) (by decide) (by decide) (by decide) ?_
        refine V_iload_n X 1 d_Co_tree_53 rfl ?_
        refine V_cI X h (fun r6 q => C_V (q := 3) X [Value.int a0] mt_Sh_birdsAt ms_Sh_birdsAt ml_Co_105 (k_Sh_birdsAt σ 5 (by decide) (by decide) a0 r6 q) rfl rfl (by omega) (Nat.le_of_ble_eq_true rfl) rfl (by decide) (by decide) (by decide) d_Co_tree_54) (fun r6 h => ?_)
        have h9 := wp_some h
        exact hQ _ h9 (fun h9 => absurd h9 (by decide)) _ _ d_Co_tree_57
      · skip
        rcases wp_case h with ⟨c7, h⟩ | ⟨c7, h⟩
        · skip
          refine V_tableIn X 43 58 d_Co_tree_15 (2) (by rw [c7]; decide) (by decide) (by decide) rfl (by decide) ?_
          refine V_aload_n X 0 d_Co_tree_58 rfl ?_
          refine V_getR X 0 2 5 rfl ji0 (by decide) (by decide) (by decide) fl_Co_28 d_Co_tree_59 (by decide) (by decide) (by decide) (by decide) ?_
          refine V_iload_n X 1 d_Co_tree_62 rfl ?_
          refine V_cI X h (fun r8 q => C_V (q := 3) X [Value.int a0] mt_Sh_possibleAt ms_Sh_possibleAt ml_Co_108 (k_Sh_possibleAt fu σ 5 (by decide) (by decide) a0 r8 q) rfl rfl (by omega) (Nat.le_of_ble_eq_true rfl) rfl (by decide) (by decide) (by decide) d_Co_tree_63) (fun r8 h => ?_)
          have h9 := wp_some h
          exact hQ _ h9 (fun h9 => absurd h9 (by decide)) _ _ d_Co_tree_66
        · skip
          refine V_tableOut X 67 d_Co_tree_15 (by have z0 := sw_ne c3 (0) (by decide); have z1 := sw_ne c5 (1) (by decide); have z2 := sw_ne c7 (2) (by decide); omega) (by decide) ?_
          refine V_bipush (v := -102) X d_Co_tree_67 (by decide) ?_
          have h9 := wp_some h
          exact hQ _ h9 (fun h9 => absurd h9 (by decide)) _ _ d_Co_tree_69
  · skip
    refine V_bipush (v := -101) X d_Co_tree_11 (by decide) ?_
    have h9 := wp_some h
    exact hQ _ h9 (fun h9 => absurd h9 (by decide)) _ _ d_Co_tree_13
set_option maxHeartbeats 4000000 in
set_option maxRecDepth 100000 in
theorem k_Co_mixed (σ : Sg) (a0 : Int64) (a1 : Int64) (r : Int64) (h : Co_mixed a0 a1 = some r) : Evc y_Co_mixed prog_1_method_24_code 4 (some .long) 1 (fun ad => [Value.long a0, Value.long a1]) σ σ (fun _ => some (.long r)) := by
  refine Evc_ofL (by decide) (fun ad => Nat.le_of_ble_eq_true rfl) (fun p l e R s m args below meth c D ad cI cB A Q X hQ => ?_)
  have X : Cx p R s m args meth c jR0 prog_1_method_24_code 4 1 D ad cI cB A 0 0 := X
  have hQ := hQ.pure
  have h : wpO (Co_mixed a0 a1) (fun q => q = r) := ⟨_, h, rfl⟩
  rw [Co_mixed] at h
  refine V_sub (lv' := [(0, Value.long a0), (2, Value.long a1)]) [0, 1] rfl ?_
  refine V_ldc2 X d_Co_mixed_0 kl_Co_279 ?_
  refine V_lload_n X 0 d_Co_mixed_3 rfl ?_
  refine V_lmul X d_Co_mixed_4 ?_
  refine V_lload_n X 1 d_Co_mixed_5 rfl ?_
  refine V_ladd X d_Co_mixed_6 ?_
  have h9 := wp_some h
  exact hQ _ h9 _ _ d_Co_mixed_7
set_option maxHeartbeats 4000000 in
set_option maxRecDepth 100000 in
theorem Cn_costOf_L4_ok {p : Program} {l : Launch} {e : Env} {R : Room} {s : State} {m : MethodId} {args : Array Value} {below : List Frame} {meth : Method} {c : Code} {D : va_G} {ad : Nat → Nat} {cI cB : ClassId} {A : Nat → Prop} {cells slots : Nat} {Q : State → Prop} (X : Cx p R s m args meth c jR7 prog_3_method_6_code 4 2 D ad cI cB A cells slots) (fu : Nat) (l1 : Int32) (σ : Sg) (kont : (Int32 → Int32 → Option Int32)) {K : Int32 → Prop} (hQ : RP p l e R s m args below meth c 4 D ad cI cB A cells slots Q prog_3_method_6_code false σ K) (hk : ∀ (l2 : Int32) (l3 : Int32), wpO (kont l2 l3) K → V p l e R s m args below meth c 4 D A cells slots Q (wl ad cI cB σ) 44 [(0, Value.ref (ad 61)), (1, Value.int l1), (2, Value.int l2), (3, Value.int l3)] []) : ∀ (n : Nat) (l2 : Int32) (l3 : Int32), wpO (Cn_costOf_L4 fu l1 σ kont n l2 l3) K → V p l e R s m args below meth c 4 D A cells slots Q (wl ad cI cB σ) 4 [(0, Value.ref (ad 61)), (1, Value.int l1), (2, Value.int l2), (3, Value.int l3)] [] := by
  intro n
  induction n with
  | zero =>
    intro l2 l3 h
    exact (wp_none h).elim
  | succ n ih =>
    intro l2 l3 h
    rw [Cn_costOf_L4] at h
    refine V_iload_n X 3 d_Cn_costOf_4 rfl ?_
    refine V_aload_n X 0 d_Cn_costOf_5 rfl ?_
    refine V_getR X 7 0 5 rfl ji7 (by decide) (by decide) (by decide) fl_Cn_23 d_Cn_costOf_6 (by decide) (by decide) (by decide) (by decide) ?_
    refine V_cI X h (fun r1 q => C_V (q := 3) X [] mt_Sh_suits ms_Sh_suits ml_Cn_42 (k_Sh_suits σ 5 (by decide) (by decide) r1 q) rfl rfl (by omega) (Nat.le_of_ble_eq_true rfl) rfl (by decide) (by decide) (by decide) d_Cn_costOf_9) (fun r1 h => ?_)
    refine V_icmp_ge X 44 d_Cn_costOf_12 (by decide) h (fun c2 h => ?_) (fun c2 h => ?_)
    · skip
      exact hk l2 l3 h
    · skip
      refine V_iload_n X 2 d_Cn_costOf_15 rfl ?_
      refine V_iload_n X 1 d_Cn_costOf_16 rfl ?_
      refine V_iload_n X 3 d_Cn_costOf_17 rfl ?_
      refine V_cI X h (fun r3 q => C_SN X [Value.int l1, Value.int l3] mt_Co_has ms_Co_has mn_Cn_72 (k_Co_has σ l1 l3 r3 q) rfl rfl (by omega) (Nat.le_of_ble_eq_true rfl) d_Cn_costOf_18) (fun r3 h => ?_)
      refine V_if_eq X 35 d_Cn_costOf_21 (by decide) h (fun c4 h => ?_) (fun c4 h => ?_)
      · skip
        refine V_iconst (v := 0) X d_Cn_costOf_35 (by decide) ?_
        refine V_iadd X d_Cn_costOf_36 ?_
        refine V_istore_n X [(2, Value.int (l2 + (0 : Int32))), (0, Value.ref (ad 61)), (1, Value.int l1), (3, Value.int l3)] d_Cn_costOf_37 (by decide) rfl ?_
        refine V_iinc X 3 (l3 + (1 : Int32)) [(3, Value.int (l3 + (1 : Int32))), (2, Value.int (l2 + (0 : Int32))), (0, Value.ref (ad 61)), (1, Value.int l1)] d_Cn_costOf_38 rfl (by first | rfl | decide) (by decide) rfl ?_
        refine V_goto X 4 d_Cn_costOf_41 (by decide) ?_
        refine V_sub (lv' := [(0, Value.ref (ad 61)), (1, Value.int l1), (2, Value.int (l2 + (0 : Int32))), (3, Value.int (l3 + (1 : Int32)))]) [2, 3, 1, 0] rfl ?_
        exact ih (l2 + (0 : Int32)) (l3 + (1 : Int32)) h
      · skip
        refine V_aload_n X 0 d_Cn_costOf_24 rfl ?_
        refine V_getR X 7 2 64 rfl ji7 (by decide) (by decide) (by decide) fl_Cn_20 d_Cn_costOf_25 (by decide) (by decide) (by decide) (by decide) ?_
        refine V_iload_n X 3 d_Cn_costOf_28 rfl ?_
        refine V_cI X h (fun r5 q => C_V (q := 9) X [Value.int l3] mt_Rw_at ms_Rw_at ml_Cn_27 (k_Rw_at σ 64 (by decide) (by decide) l3 r5 q) rfl rfl (by omega) (Nat.le_of_ble_eq_true rfl) rfl (by decide) (by decide) (by decide) d_Cn_costOf_29) (fun r5 h => ?_)
        refine V_goto X 36 d_Cn_costOf_32 (by decide) ?_
        refine V_iadd X d_Cn_costOf_36 ?_
        refine V_istore_n X [(2, Value.int (l2 + r5)), (0, Value.ref (ad 61)), (1, Value.int l1), (3, Value.int l3)] d_Cn_costOf_37 (by decide) rfl ?_
        refine V_iinc X 3 (l3 + (1 : Int32)) [(3, Value.int (l3 + (1 : Int32))), (2, Value.int (l2 + r5)), (0, Value.ref (ad 61)), (1, Value.int l1)] d_Cn_costOf_38 rfl (by first | rfl | decide) (by decide) rfl ?_
        refine V_goto X 4 d_Cn_costOf_41 (by decide) ?_
        refine V_sub (lv' := [(0, Value.ref (ad 61)), (1, Value.int l1), (2, Value.int (l2 + r5)), (3, Value.int (l3 + (1 : Int32)))]) [2, 3, 1, 0] rfl ?_
        exact ih (l2 + r5) (l3 + (1 : Int32)) h
set_option maxHeartbeats 4000000 in
set_option maxRecDepth 100000 in
theorem k_Cn_costOf (fu : Nat) (σ : Sg) (a0 : Int32) (r : Int32) (h : Cn_costOf fu σ a0 = some r) : Evc y_Cn_costOf prog_3_method_6_code 4 (some .int) 2 (fun ad => [Value.ref (ad 61), Value.int a0]) σ σ (fun _ => some (.int r)) := by
  refine Evc_ofI (by decide) (fun ad => Nat.le_of_ble_eq_true rfl) (fun p l e R s m args below meth c D ad cI cB A Q X hQ => ?_)
  have X : Cx p R s m args meth c jR7 prog_3_method_6_code 4 2 D ad cI cB A 0 0 := X
  have hQ := hQ.pure
  have h : wpO (Cn_costOf fu σ a0) (fun q => q = r) := ⟨_, h, rfl⟩
  rw [Cn_costOf] at h
  refine V_sub (lv' := [(0, Value.ref (ad 61)), (1, Value.int a0)]) [0, 1] rfl ?_
  refine V_iconst (v := 0) X d_Cn_costOf_0 (by decide) ?_
  refine V_istore_n X [(2, Value.int (0 : Int32)), (0, Value.ref (ad 61)), (1, Value.int a0)] d_Cn_costOf_1 (by decide) rfl ?_
  refine V_iconst (v := 0) X d_Cn_costOf_2 (by decide) ?_
  refine V_istore_n X [(3, Value.int (0 : Int32)), (2, Value.int (0 : Int32)), (0, Value.ref (ad 61)), (1, Value.int a0)] d_Cn_costOf_3 (by decide) rfl ?_
  refine V_sub (lv' := [(0, Value.ref (ad 61)), (1, Value.int a0), (2, Value.int (0 : Int32)), (3, Value.int (0 : Int32))]) [2, 3, 1, 0] rfl ?_
  refine Cn_costOf_L4_ok X fu a0 σ _ hQ (fun l2_6 l3_7 h => ?_) fu (0 : Int32) (0 : Int32) h
  refine V_iload_n X 2 d_Cn_costOf_44 rfl ?_
  have h9 := wp_some h
  exact hQ _ h9 (fun h9 => absurd h9 (by decide)) _ _ d_Cn_costOf_45
set_option maxHeartbeats 4000000 in
set_option maxRecDepth 100000 in
theorem k_Sh_worth (σ : Sg) (k : Nat) (hl_k : k < 116) (hc_k : jv_cls k = 3) (a0 : Int32) (r : Int32) (h : Sh_worth σ k a0 = some r) : Evc y_Sh_worth prog_10_method_20_code 2 (some .int) 2 (fun ad => [Value.ref (ad k), Value.int a0]) σ σ (fun _ => some (.int r)) := by
  refine Evc_ofI (by decide) (fun ad => Nat.le_of_ble_eq_true rfl) (fun p l e R s m args below meth c D ad cI cB A Q X hQ => ?_)
  have X : Cx p R s m args meth c jR3 prog_10_method_20_code 2 2 D ad cI cB A 0 0 := X
  have hQ := hQ.pure
  have h : wpO (Sh_worth σ k a0) (fun q => q = r) := ⟨_, h, rfl⟩
  rw [Sh_worth] at h
  refine V_sub (lv' := [(0, Value.ref (ad k)), (1, Value.int a0)]) [0, 1] rfl ?_
  refine V_aload_n X 0 d_Sh_worth_0 rfl ?_
  refine V_getR X 3 6 (k + 9) rfl ji3 (by decide) (by decide) (by decide) fl_Sh_29 d_Sh_worth_1 hl_k hc_k (by decide) (jl_sh6 k hl_k hc_k).2.2 ?_
  refine V_iload_n X 1 d_Sh_worth_4 rfl ?_
  refine V_cI X h (fun r1 q => C_V (q := 9) X [Value.int a0] mt_Rw_at ms_Rw_at ml_Sh_71 (k_Rw_at σ (k + 9) (jl_sh6 k hl_k hc_k).1 (jl_sh6 k hl_k hc_k).2.1 a0 r1 q) rfl rfl (by omega) (Nat.le_of_ble_eq_true rfl) rfl (jl_sh6 k hl_k hc_k).1 (jl_sh6 k hl_k hc_k).2.1 (by decide) d_Sh_worth_5) (fun r1 h => ?_)
  have h9 := wp_some h
  exact hQ _ h9 (fun h9 => absurd h9 (by decide)) _ _ d_Sh_worth_8
set_option maxHeartbeats 4000000 in
set_option maxRecDepth 100000 in
theorem Cn_bestLead_L21_ok {p : Program} {l : Launch} {e : Env} {R : Room} {s : State} {m : MethodId} {args : Array Value} {below : List Frame} {meth : Method} {c : Code} {D : va_G} {ad : Nat → Nat} {cI cB : ClassId} {A : Nat → Prop} {cells slots : Nat} {Q : State → Prop} (X : Cx p R s m args meth c jR7 prog_3_method_5_code 6 3 D ad cI cB A cells slots) (fu : Nat) (l1 : Int32) (l2 : Int32) (kont : (Int32 → Int32 → Sg → Option (Int32 × Sg))) {K : (Int32 × Sg) → Prop} (hQ : RI p l e R s m args below meth c 6 D ad cI cB A cells slots Q prog_3_method_5_code false K) (hk : ∀ (l3 : Int32) (l4 : Int32) (σ : Sg), wpO (kont l3 l4 σ) K → V p l e R s m args below meth c 6 D A cells slots Q (wl ad cI cB σ) 122 [(0, Value.ref (ad 61)), (1, Value.int l1), (2, Value.int l2), (3, Value.int l3), (4, Value.int l4)] []) : ∀ (n : Nat) (l3 : Int32) (l4 : Int32) (σ : Sg), wpO (Cn_bestLead_L21 fu l1 l2 kont n l3 l4 σ) K → V p l e R s m args below meth c 6 D A cells slots Q (wl ad cI cB σ) 21 [(0, Value.ref (ad 61)), (1, Value.int l1), (2, Value.int l2), (3, Value.int l3), (4, Value.int l4)] [] := by
  intro n
  induction n with
  | zero =>
    intro l3 l4 σ h
    exact (wp_none h).elim
  | succ n ih =>
    intro l3 l4 σ h
    rw [Cn_bestLead_L21] at h
    refine V_iload X 4 d_Cn_bestLead_21 rfl ?_
    refine V_aload_n X 0 d_Cn_bestLead_23 rfl ?_
    refine V_getR X 7 0 5 rfl ji7 (by decide) (by decide) (by decide) fl_Cn_23 d_Cn_bestLead_24 (by decide) (by decide) (by decide) (by decide) ?_
    refine V_cI X h (fun r2 q => C_V (q := 3) X [] mt_Sh_suits ms_Sh_suits ml_Cn_42 (k_Sh_suits σ 5 (by decide) (by decide) r2 q) rfl rfl (by omega) (Nat.le_of_ble_eq_true rfl) rfl (by decide) (by decide) (by decide) d_Cn_bestLead_27) (fun r2 h => ?_)
    refine V_icmp_ge X 122 d_Cn_bestLead_30 (by decide) h (fun c3 h => ?_) (fun c3 h => ?_)
    · skip
      exact hk l3 l4 σ h
    · skip
      refine V_aload_n X 0 d_Cn_bestLead_33 rfl ?_
      refine V_getR X 7 0 5 rfl ji7 (by decide) (by decide) (by decide) fl_Cn_23 d_Cn_bestLead_34 (by decide) (by decide) (by decide) (by decide) ?_
      refine V_iload X 4 d_Cn_bestLead_37 rfl ?_
      refine V_aload_n X 0 d_Cn_bestLead_39 rfl ?_
      refine V_getR X 7 0 5 rfl ji7 (by decide) (by decide) (by decide) fl_Cn_23 d_Cn_bestLead_40 (by decide) (by decide) (by decide) (by decide) ?_
      refine V_cI X h (fun r4 q => C_V (q := 3) X [] mt_Sh_righted ms_Sh_righted ml_Cn_62 (k_Sh_righted σ 5 (by decide) (by decide) r4 q) rfl rfl (by omega) (Nat.le_of_ble_eq_true rfl) rfl (by decide) (by decide) (by decide) d_Cn_bestLead_43) (fun r4 h => ?_)
      refine V_iload_n X 1 d_Cn_bestLead_46 rfl ?_
      refine V_ior X d_Cn_bestLead_47 ?_
      refine V_cI X h (fun r5 q => C_V (q := 3) X [Value.int l4, Value.int (r4 ||| l1)] mt_Sh_isOpen ms_Sh_isOpen ml_Cn_65 (k_Sh_isOpen σ 5 (by decide) (by decide) l4 (r4 ||| l1) r5 q) rfl rfl (by omega) (Nat.le_of_ble_eq_true rfl) rfl (by decide) (by decide) (by decide) d_Cn_bestLead_48) (fun r5 h => ?_)
      refine V_if_eq X 116 d_Cn_bestLead_51 (by decide) h (fun c6 h => ?_) (fun c6 h => ?_)
      · skip
        refine V_iinc X 4 (l4 + (1 : Int32)) [(4, Value.int (l4 + (1 : Int32))), (0, Value.ref (ad 61)), (1, Value.int l1), (2, Value.int l2), (3, Value.int l3)] d_Cn_bestLead_116 rfl (by first | rfl | decide) (by decide) rfl ?_
        refine V_goto X 21 d_Cn_bestLead_119 (by decide) ?_
        refine V_sub (lv' := [(0, Value.ref (ad 61)), (1, Value.int l1), (2, Value.int l2), (3, Value.int l3), (4, Value.int (l4 + (1 : Int32)))]) [1, 2, 3, 4, 0] rfl ?_
        exact ih l3 (l4 + (1 : Int32)) σ h
      · skip
        refine V_aload_n X 0 d_Cn_bestLead_54 rfl ?_
        refine V_getR X 7 2 64 rfl ji7 (by decide) (by decide) (by decide) fl_Cn_20 d_Cn_bestLead_55 (by decide) (by decide) (by decide) (by decide) ?_
        refine V_iload X 4 d_Cn_bestLead_58 rfl ?_
        refine V_cI X h (fun r7 q => C_V (q := 9) X [Value.int l4] mt_Rw_at ms_Rw_at ml_Cn_27 (k_Rw_at σ 64 (by decide) (by decide) l4 r7 q) rfl rfl (by omega) (Nat.le_of_ble_eq_true rfl) rfl (by decide) (by decide) (by decide) d_Cn_bestLead_60) (fun r7 h => ?_)
        refine V_iload_n X 2 d_Cn_bestLead_63 rfl ?_
        refine V_icmp_gt X 116 d_Cn_bestLead_64 (by decide) h (fun c8 h => ?_) (fun c8 h => ?_)
        · skip
          refine V_iinc X 4 (l4 + (1 : Int32)) [(4, Value.int (l4 + (1 : Int32))), (0, Value.ref (ad 61)), (1, Value.int l1), (2, Value.int l2), (3, Value.int l3)] d_Cn_bestLead_116 rfl (by first | rfl | decide) (by decide) rfl ?_
          refine V_goto X 21 d_Cn_bestLead_119 (by decide) ?_
          refine V_sub (lv' := [(0, Value.ref (ad 61)), (1, Value.int l1), (2, Value.int l2), (3, Value.int l3), (4, Value.int (l4 + (1 : Int32)))]) [1, 2, 3, 4, 0] rfl ?_
          exact ih l3 (l4 + (1 : Int32)) σ h
        · skip
          refine V_aload_n X 0 d_Cn_bestLead_67 rfl ?_
          refine V_getR X 7 0 5 rfl ji7 (by decide) (by decide) (by decide) fl_Cn_23 d_Cn_bestLead_68 (by decide) (by decide) (by decide) (by decide) ?_
          refine V_iload X 4 d_Cn_bestLead_71 rfl ?_
          refine V_cI X h (fun r9 q => C_V (q := 3) X [Value.int l4] mt_Sh_worth ms_Sh_worth ml_Cn_69 (k_Sh_worth σ 5 (by decide) (by decide) l4 r9 q) rfl rfl (by omega) (Nat.le_of_ble_eq_true rfl) rfl (by decide) (by decide) (by decide) d_Cn_bestLead_73) (fun r9 h => ?_)
          refine V_aload_n X 0 d_Cn_bestLead_76 rfl ?_
          refine V_getR X 7 1 62 rfl ji7 (by decide) (by decide) (by decide) fl_Cn_14 d_Cn_bestLead_77 (by decide) (by decide) (by decide) (by decide) ?_
          refine V_iload_n X 1 d_Cn_bestLead_80 rfl ?_
          refine V_iload X 4 d_Cn_bestLead_81 rfl ?_
          refine V_cI X h (fun r10 q => C_SN X [Value.int l4] mt_Co_bit ms_Co_bit mn_Cn_53 (k_Co_bit σ l4 r10 q) rfl rfl (by omega) (Nat.le_of_ble_eq_true rfl) d_Cn_bestLead_83) (fun r10 h => ?_)
          refine V_ior X d_Cn_bestLead_86 ?_
          refine V_cI X h (fun r11 q => C_V (q := 9) X [Value.int (l1 ||| r10)] mt_Rw_at ms_Rw_at ml_Cn_27 (k_Rw_at σ 62 (by decide) (by decide) (l1 ||| r10) r11 q) rfl rfl (by omega) (Nat.le_of_ble_eq_true rfl) rfl (by decide) (by decide) (by decide) d_Cn_bestLead_87) (fun r11 h => ?_)
          refine V_isub X d_Cn_bestLead_90 ?_
          refine V_istore X [(5, Value.int (r9 - r11)), (0, Value.ref (ad 61)), (1, Value.int l1), (2, Value.int l2), (3, Value.int l3), (4, Value.int l4)] d_Cn_bestLead_91 (by decide) rfl ?_
          refine V_aload_n X 1 d_Cn_bestLead_93 rfl ?_
          refine V_getI X 7 4 rfl ji7 (by decide) (by decide) (by decide) fl_Cn_31 d_Cn_bestLead_94 (by decide) (by decide) (by decide) ?_
          refine V_iconst (v := -1) X d_Cn_bestLead_97 (by decide) ?_
          refine V_icmp_eq X 107 d_Cn_bestLead_98 (by decide) h (fun c12 h => ?_) (fun c12 h => ?_)
          · skip
            refine V_iload X 0 d_Cn_bestLead_107 rfl ?_
            refine V_istore_n X [(3, Value.int (r9 - r11)), (5, Value.int (r9 - r11)), (0, Value.ref (ad 61)), (1, Value.int l1), (2, Value.int l2), (4, Value.int l4)] d_Cn_bestLead_109 (by decide) rfl ?_
            refine V_aload_n X 2 d_Cn_bestLead_110 rfl ?_
            refine V_iload X 5 d_Cn_bestLead_111 rfl ?_
            refine V_putI X 7 4 rfl ji7 jk7 jn7 (by decide) (by decide) (by decide) rfl (by decide +kernel) fl_Cn_31 d_Cn_bestLead_113 (by decide) (by decide) (by decide) ?_
            refine V_iinc X 5 (l4 + (1 : Int32)) [(4, Value.int (l4 + (1 : Int32))), (3, Value.int (r9 - r11)), (5, Value.int (r9 - r11)), (0, Value.ref (ad 61)), (1, Value.int l1), (2, Value.int l2)] d_Cn_bestLead_116 rfl (by first | rfl | decide) (by decide) rfl ?_
            refine V_goto X 21 d_Cn_bestLead_119 (by decide) ?_
            refine V_sub (lv' := [(0, Value.ref (ad 61)), (1, Value.int l1), (2, Value.int l2), (3, Value.int (r9 - r11)), (4, Value.int (l4 + (1 : Int32)))]) [3, 4, 5, 1, 0] rfl ?_
            exact ih (r9 - r11) (l4 + (1 : Int32)) (sF σ 61 4 l4) h
          · skip
            refine V_iload X 0 d_Cn_bestLead_101 rfl ?_
            refine V_iload_n X 4 d_Cn_bestLead_103 rfl ?_
            refine V_icmp_le X 116 d_Cn_bestLead_104 (by decide) h (fun c13 h => ?_) (fun c13 h => ?_)
            · skip
              refine V_iinc X 5 (l4 + (1 : Int32)) [(4, Value.int (l4 + (1 : Int32))), (5, Value.int (r9 - r11)), (0, Value.ref (ad 61)), (1, Value.int l1), (2, Value.int l2), (3, Value.int l3)] d_Cn_bestLead_116 rfl (by first | rfl | decide) (by decide) rfl ?_
              refine V_goto X 21 d_Cn_bestLead_119 (by decide) ?_
              refine V_sub (lv' := [(0, Value.ref (ad 61)), (1, Value.int l1), (2, Value.int l2), (3, Value.int l3), (4, Value.int (l4 + (1 : Int32)))]) [2, 3, 4, 5, 0] rfl ?_
              exact ih l3 (l4 + (1 : Int32)) σ h
            · skip
              refine V_iload X 0 d_Cn_bestLead_107 rfl ?_
              refine V_istore_n X [(3, Value.int (r9 - r11)), (5, Value.int (r9 - r11)), (0, Value.ref (ad 61)), (1, Value.int l1), (2, Value.int l2), (4, Value.int l4)] d_Cn_bestLead_109 (by decide) rfl ?_
              refine V_aload_n X 2 d_Cn_bestLead_110 rfl ?_
              refine V_iload X 5 d_Cn_bestLead_111 rfl ?_
              refine V_putI X 7 4 rfl ji7 jk7 jn7 (by decide) (by decide) (by decide) rfl (by decide +kernel) fl_Cn_31 d_Cn_bestLead_113 (by decide) (by decide) (by decide) ?_
              refine V_iinc X 5 (l4 + (1 : Int32)) [(4, Value.int (l4 + (1 : Int32))), (3, Value.int (r9 - r11)), (5, Value.int (r9 - r11)), (0, Value.ref (ad 61)), (1, Value.int l1), (2, Value.int l2)] d_Cn_bestLead_116 rfl (by first | rfl | decide) (by decide) rfl ?_
              refine V_goto X 21 d_Cn_bestLead_119 (by decide) ?_
              refine V_sub (lv' := [(0, Value.ref (ad 61)), (1, Value.int l1), (2, Value.int l2), (3, Value.int (r9 - r11)), (4, Value.int (l4 + (1 : Int32)))]) [3, 4, 5, 1, 0] rfl ?_
              exact ih (r9 - r11) (l4 + (1 : Int32)) (sF σ 61 4 l4) h
set_option maxHeartbeats 4000000 in
set_option maxRecDepth 100000 in
theorem k_Cn_bestLead (fu : Nat) (σ : Sg) (a0 : Int32) (r : Int32) (σ' : Sg) (h : Cn_bestLead fu σ a0 = some (r, σ')) : Evc y_Cn_bestLead prog_3_method_5_code 6 (some .int) 3 (fun ad => [Value.ref (ad 61), Value.int a0]) σ σ' (fun _ => some (.int r)) := by
  refine Evc_ofI (by decide) (fun ad => Nat.le_of_ble_eq_true rfl) (fun p l e R s m args below meth c D ad cI cB A Q X hQ => ?_)
  have X : Cx p R s m args meth c jR7 prog_3_method_5_code 6 3 D ad cI cB A 0 0 := X
  have h : wpO (Cn_bestLead fu σ a0) (fun q => q = (r, σ')) := ⟨_, h, rfl⟩
  rw [Cn_bestLead] at h
  refine V_sub (lv' := [(0, Value.ref (ad 61)), (1, Value.int a0)]) [0, 1] rfl ?_
  refine V_aload_n X 0 d_Cn_bestLead_0 rfl ?_
  refine V_getI X 7 3 rfl ji7 (by decide) (by decide) (by decide) fl_Cn_40 d_Cn_bestLead_1 (by decide) (by decide) (by decide) ?_
  refine V_aload_n X 0 d_Cn_bestLead_4 rfl ?_
  refine V_iload_n X 1 d_Cn_bestLead_5 rfl ?_
  refine V_cI X h (fun r1 q => C_V (q := 7) X [Value.int a0] mt_Cn_costOf ms_Cn_costOf ml_Cn_59 (k_Cn_costOf fu σ a0 r1 q) rfl rfl (by omega) (Nat.le_of_ble_eq_true rfl) rfl (by decide) (by decide) (by decide) d_Cn_bestLead_6) (fun r1 h => ?_)
  refine V_isub X d_Cn_bestLead_9 ?_
  refine V_istore_n X [(2, Value.int ((gF σ 61 3) - r1)), (0, Value.ref (ad 61)), (1, Value.int a0)] d_Cn_bestLead_10 (by decide) rfl ?_
  refine V_iconst (v := 0) X d_Cn_bestLead_11 (by decide) ?_
  refine V_istore_n X [(3, Value.int (0 : Int32)), (2, Value.int ((gF σ 61 3) - r1)), (0, Value.ref (ad 61)), (1, Value.int a0)] d_Cn_bestLead_12 (by decide) rfl ?_
  refine V_aload_n X 2 d_Cn_bestLead_13 rfl ?_
  refine V_iconst (v := -1) X d_Cn_bestLead_14 (by decide) ?_
  refine V_putI X 7 4 rfl ji7 jk7 jn7 (by decide) (by decide) (by decide) rfl (by decide +kernel) fl_Cn_31 d_Cn_bestLead_15 (by decide) (by decide) (by decide) ?_
  refine V_iconst (v := 0) X d_Cn_bestLead_18 (by decide) ?_
  refine V_istore X [(4, Value.int (0 : Int32)), (3, Value.int (0 : Int32)), (2, Value.int ((gF σ 61 3) - r1)), (0, Value.ref (ad 61)), (1, Value.int a0)] d_Cn_bestLead_19 (by decide) rfl ?_
  refine V_sub (lv' := [(0, Value.ref (ad 61)), (1, Value.int a0), (2, Value.int ((gF σ 61 3) - r1)), (3, Value.int (0 : Int32)), (4, Value.int (0 : Int32))]) [3, 4, 2, 1, 0] rfl ?_
  refine Cn_bestLead_L21_ok X fu a0 ((gF σ 61 3) - r1) _ hQ (fun l3_14 l4_15 s16 h => ?_) fu (0 : Int32) (0 : Int32) (sF σ 61 4 (-1 : Int32)) h
  refine V_iload_n X 3 d_Cn_bestLead_122 rfl ?_
  have h9 := wp_some h
  exact hQ _ _ h9 (fun h9 => absurd h9 (by decide)) _ _ d_Cn_bestLead_123
set_option maxHeartbeats 4000000 in
set_option maxRecDepth 100000 in
theorem Cn_play_L14_ok {p : Program} {l : Launch} {e : Env} {R : Room} {s : State} {m : MethodId} {args : Array Value} {below : List Frame} {meth : Method} {c : Code} {D : va_G} {ad : Nat → Nat} {cI cB : ClassId} {A : Nat → Prop} {cells slots : Nat} {Q : State → Prop} (X : Cx p R s m args meth c jR7 prog_3_method_4_code 3 8 D ad cI cB A cells slots) (fu : Nat) (kont : (Int32 → Sg → Option Sg)) {K : Sg → Prop} (hQ : RV p l e R s m args below meth c 3 D ad cI cB A cells slots Q prog_3_method_4_code K) (hk : ∀ (l2 : Int32) (σ : Sg), wpO (kont l2 σ) K → V p l e R s m args below meth c 3 D A cells slots Q (wl ad cI cB σ) 47 [(0, Value.ref (ad 61)), (2, Value.int l2)] []) : ∀ (n : Nat) (l2 : Int32) (σ : Sg), wpO (Cn_play_L14 fu kont n l2 σ) K → V p l e R s m args below meth c 3 D A cells slots Q (wl ad cI cB σ) 14 [(0, Value.ref (ad 61)), (2, Value.int l2)] [] := by
  intro n
  induction n with
  | zero =>
    intro l2 σ h
    exact (wp_none h).elim
  | succ n ih =>
    intro l2 σ h
    rw [Cn_play_L14] at h
    refine V_iload_n X 1 d_Cn_play_14 rfl ?_
    refine V_aload_n X 0 d_Cn_play_15 rfl ?_
    refine V_getR X 7 0 5 rfl ji7 (by decide) (by decide) (by decide) fl_Cn_23 d_Cn_play_16 (by decide) (by decide) (by decide) (by decide) ?_
    refine V_cI X h (fun r2 q => C_V (q := 3) X [] mt_Sh_suits ms_Sh_suits ml_Cn_42 (k_Sh_suits σ 5 (by decide) (by decide) r2 q) rfl rfl (by omega) (Nat.le_of_ble_eq_true rfl) rfl (by decide) (by decide) (by decide) d_Cn_play_19) (fun r2 h => ?_)
    refine V_icmp_ge X 47 d_Cn_play_22 (by decide) h (fun c3 h => ?_) (fun c3 h => ?_)
    · skip
      exact hk l2 σ h
    · skip
      refine V_aload_n X 0 d_Cn_play_25 rfl ?_
      refine V_getR X 7 2 64 rfl ji7 (by decide) (by decide) (by decide) fl_Cn_20 d_Cn_play_26 (by decide) (by decide) (by decide) (by decide) ?_
      refine V_iload_n X 1 d_Cn_play_29 rfl ?_
      refine V_aload_n X 0 d_Cn_play_30 rfl ?_
      refine V_getR X 7 0 5 rfl ji7 (by decide) (by decide) (by decide) fl_Cn_23 d_Cn_play_31 (by decide) (by decide) (by decide) (by decide) ?_
      refine V_iload_n X 1 d_Cn_play_34 rfl ?_
      refine V_cI X h (fun r4 q => C_V (q := 3) X [Value.int l2] mt_Sh_cost ms_Sh_cost ml_Cn_46 (k_Sh_cost σ 5 (by decide) (by decide) l2 r4 q) rfl rfl (by omega) (Nat.le_of_ble_eq_true rfl) rfl (by decide) (by decide) (by decide) d_Cn_play_35) (fun r4 h => ?_)
      refine V_cV X h (fun s5 q => C_V (q := 9) X [Value.int l2, Value.int r4] mt_Rw_put ms_Rw_put ml_Cn_49 (k_Rw_put σ 64 (by decide) (by decide) l2 r4 s5 q) rfl rfl (by omega) (Nat.le_of_ble_eq_true rfl) rfl (by decide) (by decide) (by decide) d_Cn_play_38) (fun s5 h => ?_)
      refine V_iinc X 1 (l2 + (1 : Int32)) [(2, Value.int (l2 + (1 : Int32))), (0, Value.ref (ad 61))] d_Cn_play_41 rfl (by first | rfl | decide) (by decide) rfl ?_
      refine V_goto X 14 d_Cn_play_44 (by decide) ?_
      refine V_sub (lv' := [(0, Value.ref (ad 61)), (2, Value.int (l2 + (1 : Int32)))]) [1, 0] rfl ?_
      exact ih (l2 + (1 : Int32)) s5 h
set_option maxHeartbeats 4000000 in
set_option maxRecDepth 100000 in
theorem Cn_play_L60_ok {p : Program} {l : Launch} {e : Env} {R : Room} {s : State} {m : MethodId} {args : Array Value} {below : List Frame} {meth : Method} {c : Code} {D : va_G} {ad : Nat → Nat} {cI cB : ClassId} {A : Nat → Prop} {cells slots : Nat} {Q : State → Prop} (X : Cx p R s m args meth c jR7 prog_3_method_4_code 3 8 D ad cI cB A cells slots) (fu : Nat) (kont : (Int32 → Sg → Option Sg)) {K : Sg → Prop} (hQ : RV p l e R s m args below meth c 3 D ad cI cB A cells slots Q prog_3_method_4_code K) (hk : ∀ (l2 : Int32) (σ : Sg), wpO (kont l2 σ) K → V p l e R s m args below meth c 3 D A cells slots Q (wl ad cI cB σ) 83 [(0, Value.ref (ad 61)), (2, Value.int l2)] []) : ∀ (n : Nat) (l2 : Int32) (σ : Sg), wpO (Cn_play_L60 fu kont n l2 σ) K → V p l e R s m args below meth c 3 D A cells slots Q (wl ad cI cB σ) 60 [(0, Value.ref (ad 61)), (2, Value.int l2)] [] := by
  intro n
  induction n with
  | zero =>
    intro l2 σ h
    exact (wp_none h).elim
  | succ n ih =>
    intro l2 σ h
    rw [Cn_play_L60] at h
    refine V_iload_n X 1 d_Cn_play_60 rfl ?_
    refine V_if_lt X 83 d_Cn_play_61 (by decide) h (fun c10 h => ?_) (fun c10 h => ?_)
    · skip
      exact hk l2 σ h
    · skip
      refine V_aload_n X 0 d_Cn_play_64 rfl ?_
      refine V_getR X 7 1 62 rfl ji7 (by decide) (by decide) (by decide) fl_Cn_14 d_Cn_play_65 (by decide) (by decide) (by decide) (by decide) ?_
      refine V_iload_n X 1 d_Cn_play_68 rfl ?_
      refine V_aload_n X 0 d_Cn_play_69 rfl ?_
      refine V_iload_n X 1 d_Cn_play_70 rfl ?_
      refine V_cP X h (fun r11 s12 q => C_V (q := 7) X [Value.int l2] mt_Cn_bestLead ms_Cn_bestLead ml_Cn_56 (k_Cn_bestLead fu σ l2 r11 s12 q) rfl rfl (by omega) (Nat.le_of_ble_eq_true rfl) rfl (by decide) (by decide) (by decide) d_Cn_play_71) (fun r11 s12 h => ?_)
      refine V_cV X h (fun s13 q => C_V (q := 9) X [Value.int l2, Value.int r11] mt_Rw_put ms_Rw_put ml_Cn_49 (k_Rw_put s12 62 (by decide) (by decide) l2 r11 s13 q) rfl rfl (by omega) (Nat.le_of_ble_eq_true rfl) rfl (by decide) (by decide) (by decide) d_Cn_play_74) (fun s13 h => ?_)
      refine V_iinc X 1 (l2 + (-1 : Int32)) [(2, Value.int (l2 + (-1 : Int32))), (0, Value.ref (ad 61))] d_Cn_play_77 rfl (by first | rfl | decide) (by decide) rfl ?_
      refine V_goto X 60 d_Cn_play_80 (by decide) ?_
      refine V_sub (lv' := [(0, Value.ref (ad 61)), (2, Value.int (l2 + (-1 : Int32)))]) [1, 0] rfl ?_
      exact ih (l2 + (-1 : Int32)) s13 h
set_option maxHeartbeats 4000000 in
set_option maxRecDepth 100000 in
theorem k_Cn_play (fu : Nat) (σ : Sg) (a0 : Int32) (σ' : Sg) (h : Cn_play fu σ a0 = some σ') : Evc y_Cn_play prog_3_method_4_code 3 (none) 8 (fun ad => [Value.ref (ad 61), Value.int a0]) σ σ' (fun _ => none) := by
  refine Evc_ofV (by decide) (fun ad => Nat.le_of_ble_eq_true rfl) (fun p l e R s m args below meth c D ad cI cB A Q X hQ => ?_)
  have X : Cx p R s m args meth c jR7 prog_3_method_4_code 3 8 D ad cI cB A 0 0 := X
  have h : wpO (Cn_play fu σ a0) (fun q => q = σ') := ⟨_, h, rfl⟩
  rw [Cn_play] at h
  refine V_sub (lv' := [(0, Value.ref (ad 61)), (1, Value.int a0)]) [0, 1] rfl ?_
  refine V_aload_n X 0 d_Cn_play_0 rfl ?_
  refine V_aload_n X 0 d_Cn_play_1 rfl ?_
  refine V_getR X 7 0 5 rfl ji7 (by decide) (by decide) (by decide) fl_Cn_23 d_Cn_play_2 (by decide) (by decide) (by decide) (by decide) ?_
  refine V_iload_n X 1 d_Cn_play_5 rfl ?_
  refine V_cI X h (fun r1 q => C_V (q := 3) X [Value.int a0] mt_Sh_berries ms_Sh_berries ml_Cn_35 (k_Sh_berries σ 5 (by decide) (by decide) a0 r1 q) rfl rfl (by omega) (Nat.le_of_ble_eq_true rfl) rfl (by decide) (by decide) (by decide) d_Cn_play_6) (fun r1 h => ?_)
  refine V_putI X 7 3 rfl ji7 jk7 jn7 (by decide) (by decide) (by decide) rfl (by decide +kernel) fl_Cn_40 d_Cn_play_9 (by decide) (by decide) (by decide) ?_
  refine V_iconst (v := 0) X d_Cn_play_12 (by decide) ?_
  refine V_istore_n X [(2, Value.int (0 : Int32)), (0, Value.ref (ad 61)), (1, Value.int a0)] d_Cn_play_13 (by decide) rfl ?_
  refine V_sub (lv' := [(0, Value.ref (ad 61)), (2, Value.int (0 : Int32))]) [1, 0] rfl ?_
  refine Cn_play_L14_ok X fu _ hQ (fun l2_6 s7 h => ?_) fu (0 : Int32) (sF σ 61 3 r1) h
  refine V_aload_n X 0 d_Cn_play_47 rfl ?_
  refine V_getR X 7 0 5 rfl ji7 (by decide) (by decide) (by decide) fl_Cn_23 d_Cn_play_48 (by decide) (by decide) (by decide) (by decide) ?_
  refine V_cI X h (fun r8 q => C_V (q := 3) X [] mt_Sh_suits ms_Sh_suits ml_Cn_42 (k_Sh_suits s7 5 (by decide) (by decide) r8 q) rfl rfl (by omega) (Nat.le_of_ble_eq_true rfl) rfl (by decide) (by decide) (by decide) d_Cn_play_51) (fun r8 h => ?_)
  refine V_cI X h (fun r9 q => C_SN X [Value.int r8] mt_Co_bit ms_Co_bit mn_Cn_53 (k_Co_bit s7 r8 r9 q) rfl rfl (by omega) (Nat.le_of_ble_eq_true rfl) d_Cn_play_54) (fun r9 h => ?_)
  refine V_iconst (v := 1) X d_Cn_play_57 (by decide) ?_
  refine V_isub X d_Cn_play_58 ?_
  refine V_istore_n X [(2, Value.int (r9 - (1 : Int32))), (0, Value.ref (ad 61))] d_Cn_play_59 (by decide) rfl ?_
  refine V_sub (lv' := [(0, Value.ref (ad 61)), (2, Value.int (r9 - (1 : Int32)))]) [1, 0] rfl ?_
  refine Cn_play_L60_ok X fu _ hQ (fun l2_14 s15 h => ?_) fu (r9 - (1 : Int32)) s7 h
  have h9 := wp_some h
  exact hQ _ h9 _ _ d_Cn_play_83
set_option maxHeartbeats 4000000 in
set_option maxRecDepth 100000 in
theorem k_Cn_lead (σ : Sg) (r : Int32) (h : Cn_lead σ = some r) : Evc y_Cn_lead prog_3_method_2_code 1 (some .int) 2 (fun ad => [Value.ref (ad 61)]) σ σ (fun _ => some (.int r)) := by
  refine Evc_ofI (by decide) (fun ad => Nat.le_of_ble_eq_true rfl) (fun p l e R s m args below meth c D ad cI cB A Q X hQ => ?_)
  have X : Cx p R s m args meth c jR7 prog_3_method_2_code 1 2 D ad cI cB A 0 0 := X
  have hQ := hQ.pure
  have h : wpO (Cn_lead σ) (fun q => q = r) := ⟨_, h, rfl⟩
  rw [Cn_lead] at h
  refine V_sub (lv' := [(0, Value.ref (ad 61))]) [0] rfl ?_
  refine V_aload_n X 0 d_Cn_lead_0 rfl ?_
  refine V_getR X 7 1 62 rfl ji7 (by decide) (by decide) (by decide) fl_Cn_14 d_Cn_lead_1 (by decide) (by decide) (by decide) (by decide) ?_
  refine V_iconst (v := 0) X d_Cn_lead_4 (by decide) ?_
  refine V_cI X h (fun r1 q => C_V (q := 9) X [Value.int (0 : Int32)] mt_Rw_at ms_Rw_at ml_Cn_27 (k_Rw_at σ 62 (by decide) (by decide) (0 : Int32) r1 q) rfl rfl (by omega) (Nat.le_of_ble_eq_true rfl) rfl (by decide) (by decide) (by decide) d_Cn_lead_5) (fun r1 h => ?_)
  have h9 := wp_some h
  exact hQ _ h9 (fun h9 => absurd h9 (by decide)) _ _ d_Cn_lead_8
set_option maxHeartbeats 4000000 in
set_option maxRecDepth 100000 in
theorem k_Cn_opening (σ : Sg) (r : Int32) (h : Cn_opening σ = some r) : Evc y_Cn_opening prog_3_method_3_code 1 (some .int) 1 (fun ad => [Value.ref (ad 61)]) σ σ (fun _ => some (.int r)) := by
  refine Evc_ofI (by decide) (fun ad => Nat.le_of_ble_eq_true rfl) (fun p l e R s m args below meth c D ad cI cB A Q X hQ => ?_)
  have X : Cx p R s m args meth c jR7 prog_3_method_3_code 1 1 D ad cI cB A 0 0 := X
  have hQ := hQ.pure
  have h : wpO (Cn_opening σ) (fun q => q = r) := ⟨_, h, rfl⟩
  rw [Cn_opening] at h
  refine V_sub (lv' := [(0, Value.ref (ad 61))]) [0] rfl ?_
  refine V_aload_n X 0 d_Cn_opening_0 rfl ?_
  refine V_getI X 7 4 rfl ji7 (by decide) (by decide) (by decide) fl_Cn_31 d_Cn_opening_1 (by decide) (by decide) (by decide) ?_
  have h9 := wp_some h
  exact hQ _ h9 (fun h9 => absurd h9 (by decide)) _ _ d_Cn_opening_4
set_option maxHeartbeats 4000000 in
set_option maxRecDepth 100000 in
theorem k_Co_game (fu : Nat) (σ : Sg) (a0 : Int32) (a1 : Int32) (r : Int32) (σ' : Sg) (h : Co_game fu σ a0 a1 = some (r, σ')) : Evc y_Co_game prog_1_method_15_code 3 (some .int) 9 (fun ad => [Value.ref (ad 0), Value.int a0, Value.int a1]) σ σ' (fun _ => some (.int r)) := by
  refine Evc_ofI (by decide) (fun ad => Nat.le_of_ble_eq_true rfl) (fun p l e R s m args below meth c D ad cI cB A Q X hQ => ?_)
  have X : Cx p R s m args meth c jR0 prog_1_method_15_code 3 9 D ad cI cB A 0 0 := X
  have h : wpO (Co_game fu σ a0 a1) (fun q => q = (r, σ')) := ⟨_, h, rfl⟩
  rw [Co_game] at h
  refine V_sub (lv' := [(0, Value.ref (ad 0)), (1, Value.int a0), (2, Value.int a1)]) [0, 1, 2] rfl ?_
  refine V_aload_n X 0 d_Co_game_0 rfl ?_
  refine V_getR X 0 2 5 rfl ji0 (by decide) (by decide) (by decide) fl_Co_28 d_Co_game_1 (by decide) (by decide) (by decide) (by decide) ?_
  refine V_iload_n X 1 d_Co_game_4 rfl ?_
  refine V_cI X h (fun r1 q => C_V (q := 3) X [Value.int a0] mt_Sh_hasTree ms_Sh_hasTree ml_Co_97 (k_Sh_hasTree σ 5 (by decide) (by decide) a0 r1 q) rfl rfl (by omega) (Nat.le_of_ble_eq_true rfl) rfl (by decide) (by decide) (by decide) d_Co_game_5) (fun r1 h => ?_)
  refine V_if_ne X 14 d_Co_game_8 (by decide) h (fun c2 h => ?_) (fun c2 h => ?_)
  · skip
    refine V_iload_n X 2 d_Co_game_14 rfl ?_
    refine V_if_lt X 23 d_Co_game_15 (by decide) h (fun c3 h => ?_) (fun c3 h => ?_)
    · skip
      refine V_bipush (v := -102) X d_Co_game_23 (by decide) ?_
      have h9 := wp_some h
      exact hQ _ _ h9 (fun h9 => absurd h9 (by decide)) _ _ d_Co_game_25
    · skip
      refine V_iload_n X 2 d_Co_game_18 rfl ?_
      refine V_iconst (v := 1) X d_Co_game_19 (by decide) ?_
      refine V_icmp_le X 26 d_Co_game_20 (by decide) h (fun c4 h => ?_) (fun c4 h => ?_)
      · skip
        refine V_aload_n X 0 d_Co_game_26 rfl ?_
        refine V_getR X 0 6 61 rfl ji0 (by decide) (by decide) (by decide) fl_Co_54 d_Co_game_27 (by decide) (by decide) (by decide) (by decide) ?_
        refine V_iload_n X 1 d_Co_game_30 rfl ?_
        refine V_cV X h (fun s5 q => C_V (q := 7) X [Value.int a0] mt_Cn_play ms_Cn_play ml_Co_196 (k_Cn_play fu σ a0 s5 q) rfl rfl (by omega) (Nat.le_of_ble_eq_true rfl) rfl (by decide) (by decide) (by decide) d_Co_game_31) (fun s5 h => ?_)
        refine V_iload_n X 2 d_Co_game_34 rfl ?_
        refine V_if_ne X 51 d_Co_game_35 (by decide) h (fun c6 h => ?_) (fun c6 h => ?_)
        · skip
          refine V_aload_n X 0 d_Co_game_51 rfl ?_
          refine V_getR X 0 6 61 rfl ji0 (by decide) (by decide) (by decide) fl_Co_54 d_Co_game_52 (by decide) (by decide) (by decide) (by decide) ?_
          refine V_cI X h (fun r7 q => C_V (q := 7) X [] mt_Cn_opening ms_Cn_opening ml_Co_202 (k_Cn_opening s5 r7 q) rfl rfl (by omega) (Nat.le_of_ble_eq_true rfl) rfl (by decide) (by decide) (by decide) d_Co_game_55) (fun r7 h => ?_)
          have h9 := wp_some h
          exact hQ _ _ h9 (fun h9 => absurd h9 (by decide)) _ _ d_Co_game_58
        · skip
          refine V_bipush (v := 100) X d_Co_game_38 (by decide) ?_
          refine V_aload_n X 0 d_Co_game_40 rfl ?_
          refine V_getR X 0 6 61 rfl ji0 (by decide) (by decide) (by decide) fl_Co_54 d_Co_game_41 (by decide) (by decide) (by decide) (by decide) ?_
          refine V_cI X h (fun r8 q => C_V (q := 7) X [] mt_Cn_lead ms_Cn_lead ml_Co_199 (k_Cn_lead s5 r8 q) rfl rfl (by omega) (Nat.le_of_ble_eq_true rfl) rfl (by decide) (by decide) (by decide) d_Co_game_44) (fun r8 h => ?_)
          refine V_iadd X d_Co_game_47 ?_
          refine V_goto X 58 d_Co_game_48 (by decide) ?_
          have h9 := wp_some h
          exact hQ _ _ h9 (fun h9 => absurd h9 (by decide)) _ _ d_Co_game_58
      · skip
        refine V_bipush (v := -102) X d_Co_game_23 (by decide) ?_
        have h9 := wp_some h
        exact hQ _ _ h9 (fun h9 => absurd h9 (by decide)) _ _ d_Co_game_25
  · skip
    refine V_bipush (v := -101) X d_Co_game_11 (by decide) ?_
    have h9 := wp_some h
    exact hQ _ _ h9 (fun h9 => absurd h9 (by decide)) _ _ d_Co_game_13
set_option maxHeartbeats 4000000 in
set_option maxRecDepth 100000 in
theorem k_Sh_kind (σ : Sg) (k : Nat) (hl_k : k < 116) (hc_k : jv_cls k = 3) (a0 : Int32) (r : Int32) (h : Sh_kind σ k a0 = some r) : Evc y_Sh_kind prog_10_method_18_code 2 (some .int) 2 (fun ad => [Value.ref (ad k), Value.int a0]) σ σ (fun _ => some (.int r)) := by
  refine Evc_ofI (by decide) (fun ad => Nat.le_of_ble_eq_true rfl) (fun p l e R s m args below meth c D ad cI cB A Q X hQ => ?_)
  have X : Cx p R s m args meth c jR3 prog_10_method_18_code 2 2 D ad cI cB A 0 0 := X
  have hQ := hQ.pure
  have h : wpO (Sh_kind σ k a0) (fun q => q = r) := ⟨_, h, rfl⟩
  rw [Sh_kind] at h
  refine V_sub (lv' := [(0, Value.ref (ad k)), (1, Value.int a0)]) [0, 1] rfl ?_
  refine V_aload_n X 0 d_Sh_kind_0 rfl ?_
  refine V_getR X 3 4 (k + 5) rfl ji3 (by decide) (by decide) (by decide) fl_Sh_23 d_Sh_kind_1 hl_k hc_k (by decide) (jl_sh4 k hl_k hc_k).2.2 ?_
  refine V_iload_n X 1 d_Sh_kind_4 rfl ?_
  refine V_cI X h (fun r1 q => C_V (q := 9) X [Value.int a0] mt_Rw_at ms_Rw_at ml_Sh_71 (k_Rw_at σ (k + 5) (jl_sh4 k hl_k hc_k).1 (jl_sh4 k hl_k hc_k).2.1 a0 r1 q) rfl rfl (by omega) (Nat.le_of_ble_eq_true rfl) rfl (jl_sh4 k hl_k hc_k).1 (jl_sh4 k hl_k hc_k).2.1 (by decide) d_Sh_kind_5) (fun r1 h => ?_)
  have h9 := wp_some h
  exact hQ _ h9 (fun h9 => absurd h9 (by decide)) _ _ d_Sh_kind_8
set_option maxHeartbeats 4000000 in
set_option maxRecDepth 100000 in
theorem k_Sh_need (σ : Sg) (k : Nat) (hl_k : k < 116) (hc_k : jv_cls k = 3) (a0 : Int32) (r : Int32) (h : Sh_need σ k a0 = some r) : Evc y_Sh_need prog_10_method_19_code 2 (some .int) 2 (fun ad => [Value.ref (ad k), Value.int a0]) σ σ (fun _ => some (.int r)) := by
  refine Evc_ofI (by decide) (fun ad => Nat.le_of_ble_eq_true rfl) (fun p l e R s m args below meth c D ad cI cB A Q X hQ => ?_)
  have X : Cx p R s m args meth c jR3 prog_10_method_19_code 2 2 D ad cI cB A 0 0 := X
  have hQ := hQ.pure
  have h : wpO (Sh_need σ k a0) (fun q => q = r) := ⟨_, h, rfl⟩
  rw [Sh_need] at h
  refine V_sub (lv' := [(0, Value.ref (ad k)), (1, Value.int a0)]) [0, 1] rfl ?_
  refine V_aload_n X 0 d_Sh_need_0 rfl ?_
  refine V_getR X 3 5 (k + 7) rfl ji3 (by decide) (by decide) (by decide) fl_Sh_26 d_Sh_need_1 hl_k hc_k (by decide) (jl_sh5 k hl_k hc_k).2.2 ?_
  refine V_iload_n X 1 d_Sh_need_4 rfl ?_
  refine V_cI X h (fun r1 q => C_V (q := 9) X [Value.int a0] mt_Rw_at ms_Rw_at ml_Sh_71 (k_Rw_at σ (k + 7) (jl_sh5 k hl_k hc_k).1 (jl_sh5 k hl_k hc_k).2.1 a0 r1 q) rfl rfl (by omega) (Nat.le_of_ble_eq_true rfl) rfl (jl_sh5 k hl_k hc_k).1 (jl_sh5 k hl_k hc_k).2.1 (by decide) d_Sh_need_5) (fun r1 h => ?_)
  have h9 := wp_some h
  exact hQ _ h9 (fun h9 => absurd h9 (by decide)) _ _ d_Sh_need_8
set_option maxHeartbeats 4000000 in
set_option maxRecDepth 100000 in
theorem k_Sh_hangsOn (σ : Sg) (k : Nat) (hl_k : k < 116) (hc_k : jv_cls k = 3) (a0 : Int32) (r : Int32) (h : Sh_hangsOn σ k a0 = some r) : Evc y_Sh_hangsOn prog_10_method_21_code 2 (some .int) 2 (fun ad => [Value.ref (ad k), Value.int a0]) σ σ (fun _ => some (.int r)) := by
  refine Evc_ofI (by decide) (fun ad => Nat.le_of_ble_eq_true rfl) (fun p l e R s m args below meth c D ad cI cB A Q X hQ => ?_)
  have X : Cx p R s m args meth c jR3 prog_10_method_21_code 2 2 D ad cI cB A 0 0 := X
  have hQ := hQ.pure
  have h : wpO (Sh_hangsOn σ k a0) (fun q => q = r) := ⟨_, h, rfl⟩
  rw [Sh_hangsOn] at h
  refine V_sub (lv' := [(0, Value.ref (ad k)), (1, Value.int a0)]) [0, 1] rfl ?_
  refine V_aload_n X 0 d_Sh_hangsOn_0 rfl ?_
  refine V_getR X 3 7 (k + 11) rfl ji3 (by decide) (by decide) (by decide) fl_Sh_32 d_Sh_hangsOn_1 hl_k hc_k (by decide) (jl_sh7 k hl_k hc_k).2.2 ?_
  refine V_iload_n X 1 d_Sh_hangsOn_4 rfl ?_
  refine V_cI X h (fun r1 q => C_V (q := 9) X [Value.int a0] mt_Rw_at ms_Rw_at ml_Sh_71 (k_Rw_at σ (k + 11) (jl_sh7 k hl_k hc_k).1 (jl_sh7 k hl_k hc_k).2.1 a0 r1 q) rfl rfl (by omega) (Nat.le_of_ble_eq_true rfl) rfl (jl_sh7 k hl_k hc_k).1 (jl_sh7 k hl_k hc_k).2.1 (by decide) d_Sh_hangsOn_5) (fun r1 h => ?_)
  have h9 := wp_some h
  exact hQ _ h9 (fun h9 => absurd h9 (by decide)) _ _ d_Sh_hangsOn_8
set_option maxHeartbeats 4000000 in
set_option maxRecDepth 100000 in
theorem k_Sh_below (σ : Sg) (k : Nat) (hl_k : k < 116) (hc_k : jv_cls k = 3) (a0 : Int32) (r : Int32) (h : Sh_below σ k a0 = some r) : Evc y_Sh_below prog_10_method_22_code 2 (some .int) 2 (fun ad => [Value.ref (ad k), Value.int a0]) σ σ (fun _ => some (.int r)) := by
  refine Evc_ofI (by decide) (fun ad => Nat.le_of_ble_eq_true rfl) (fun p l e R s m args below meth c D ad cI cB A Q X hQ => ?_)
  have X : Cx p R s m args meth c jR3 prog_10_method_22_code 2 2 D ad cI cB A 0 0 := X
  have hQ := hQ.pure
  have h : wpO (Sh_below σ k a0) (fun q => q = r) := ⟨_, h, rfl⟩
  rw [Sh_below] at h
  refine V_sub (lv' := [(0, Value.ref (ad k)), (1, Value.int a0)]) [0, 1] rfl ?_
  refine V_aload_n X 0 d_Sh_below_0 rfl ?_
  refine V_getR X 3 9 (k + 15) rfl ji3 (by decide) (by decide) (by decide) fl_Sh_38 d_Sh_below_1 hl_k hc_k (by decide) (jl_sh9 k hl_k hc_k).2.2 ?_
  refine V_iload_n X 1 d_Sh_below_4 rfl ?_
  refine V_cI X h (fun r1 q => C_V (q := 9) X [Value.int a0] mt_Rw_at ms_Rw_at ml_Sh_71 (k_Rw_at σ (k + 15) (jl_sh9 k hl_k hc_k).1 (jl_sh9 k hl_k hc_k).2.1 a0 r1 q) rfl rfl (by omega) (Nat.le_of_ble_eq_true rfl) rfl (jl_sh9 k hl_k hc_k).1 (jl_sh9 k hl_k hc_k).2.1 (by decide) d_Sh_below_5) (fun r1 h => ?_)
  have h9 := wp_some h
  exact hQ _ h9 (fun h9 => absurd h9 (by decide)) _ _ d_Sh_below_8
set_option maxHeartbeats 4000000 in
set_option maxRecDepth 100000 in
theorem k_Sh_shakes (σ : Sg) (k : Nat) (hl_k : k < 116) (hc_k : jv_cls k = 3) (a0 : Int32) (r : Int32) (h : Sh_shakes σ k a0 = some r) : Evc y_Sh_shakes prog_10_method_26_code 2 (some .int) 2 (fun ad => [Value.ref (ad k), Value.int a0]) σ σ (fun _ => some (.int r)) := by
  refine Evc_ofI (by decide) (fun ad => Nat.le_of_ble_eq_true rfl) (fun p l e R s m args below meth c D ad cI cB A Q X hQ => ?_)
  have X : Cx p R s m args meth c jR3 prog_10_method_26_code 2 2 D ad cI cB A 0 0 := X
  have hQ := hQ.pure
  have h : wpO (Sh_shakes σ k a0) (fun q => q = r) := ⟨_, h, rfl⟩
  rw [Sh_shakes] at h
  refine V_sub (lv' := [(0, Value.ref (ad k)), (1, Value.int a0)]) [0, 1] rfl ?_
  refine V_aload_n X 0 d_Sh_shakes_0 rfl ?_
  refine V_getI X 3 11 rfl ji3 (by decide) (by decide) (by decide) fl_Sh_55 d_Sh_shakes_1 hl_k hc_k (by decide) ?_
  refine V_aload_n X 0 d_Sh_shakes_4 rfl ?_
  refine V_getR X 3 9 (k + 15) rfl ji3 (by decide) (by decide) (by decide) fl_Sh_38 d_Sh_shakes_5 hl_k hc_k (by decide) (jl_sh9 k hl_k hc_k).2.2 ?_
  refine V_iload_n X 1 d_Sh_shakes_8 rfl ?_
  refine V_cI X h (fun r1 q => C_V (q := 9) X [Value.int a0] mt_Rw_at ms_Rw_at ml_Sh_71 (k_Rw_at σ (k + 15) (jl_sh9 k hl_k hc_k).1 (jl_sh9 k hl_k hc_k).2.1 a0 r1 q) rfl rfl (by omega) (Nat.le_of_ble_eq_true rfl) rfl (jl_sh9 k hl_k hc_k).1 (jl_sh9 k hl_k hc_k).2.1 (by decide) d_Sh_shakes_9) (fun r1 h => ?_)
  refine V_iand X d_Sh_shakes_12 ?_
  refine V_cI X h (fun r2 q => C_S X [Value.int ((gF σ k 11) &&& r1)] mt_In_bitCount ms_In_bitCount ml_Sh_97 (k_In_bitCount σ ((gF σ k 11) &&& r1) r2 q) rfl rfl (by omega) (Nat.le_of_ble_eq_true rfl) d_Sh_shakes_13) (fun r2 h => ?_)
  have h9 := wp_some h
  exact hQ _ h9 (fun h9 => absurd h9 (by decide)) _ _ d_Sh_shakes_16
set_option maxHeartbeats 4000000 in
set_option maxRecDepth 100000 in
theorem Si_allow_L2_ok {p : Program} {l : Launch} {e : Env} {R : Room} {s : State} {m : MethodId} {args : Array Value} {below : List Frame} {meth : Method} {c : Code} {D : va_G} {ad : Nat → Nat} {cI cB : ClassId} {A : Nat → Prop} {cells slots : Nat} {Q : State → Prop} (X : Cx p R s m args meth c jR4 prog_11_method_6_code 5 2 D ad cI cB A cells slots) (fu : Nat) (k : Nat) (hl_k : k < 116) (hc_k : jv_cls k = 4) (l1 : Int32) (l2 : Int32) (σ : Sg) (kont : (Int32 → Option Int32)) {K : Int32 → Prop} (hQ : RP p l e R s m args below meth c 5 D ad cI cB A cells slots Q prog_11_method_6_code true σ K) (hk : ∀ (l3 : Int32), wpO (kont l3) K → V p l e R s m args below meth c 5 D A cells slots Q (wl ad cI cB σ) 71 [(0, Value.ref (ad k)), (1, Value.int l1), (2, Value.int l2), (3, Value.int l3)] []) : ∀ (n : Nat) (l3 : Int32), wpO (Si_allow_L2 fu k l1 l2 σ kont n l3) K → V p l e R s m args below meth c 5 D A cells slots Q (wl ad cI cB σ) 2 [(0, Value.ref (ad k)), (1, Value.int l1), (2, Value.int l2), (3, Value.int l3)] [] := by
  intro n
  induction n with
  | zero =>
    intro l3 h
    exact (wp_none h).elim
  | succ n ih =>
    intro l3 h
    rw [Si_allow_L2] at h
    refine V_iload_n X 3 d_Si_allow_2 rfl ?_
    refine V_aload_n X 0 d_Si_allow_3 rfl ?_
    refine V_getI X 4 3 rfl ji4 (by decide) (by decide) (by decide) fl_Si_26 d_Si_allow_4 hl_k hc_k (by decide) ?_
    refine V_icmp_ge X 71 d_Si_allow_7 (by decide) h (fun c1 h => ?_) (fun c1 h => ?_)
    · skip
      exact hk l3 h
    · skip
      refine V_aload_n X 0 d_Si_allow_10 rfl ?_
      refine V_getR X 4 1 (k + 3) rfl ji4 (by decide) (by decide) (by decide) fl_Si_20 d_Si_allow_11 hl_k hc_k (by decide) (jl_si1 k hl_k hc_k).2.2 ?_
      refine V_iload_n X 3 d_Si_allow_14 rfl ?_
      refine V_cI X h (fun r2 q => C_V (q := 9) X [Value.int l3] mt_Rw_at ms_Rw_at ml_Si_38 (k_Rw_at σ (k + 3) (jl_si1 k hl_k hc_k).1 (jl_si1 k hl_k hc_k).2.1 l3 r2 q) rfl rfl (by omega) (Nat.le_of_ble_eq_true rfl) rfl (jl_si1 k hl_k hc_k).1 (jl_si1 k hl_k hc_k).2.1 (by decide) d_Si_allow_15) (fun r2 h => ?_)
      refine V_iload_n X 2 d_Si_allow_18 rfl ?_
      refine V_icmp_lt X 26 d_Si_allow_19 (by decide) h (fun c3 h => ?_) (fun c3 h => ?_)
      · skip
        refine V_iconst (v := 0) X d_Si_allow_26 (by decide) ?_
        refine V_istore X [(4, Value.int (0 : Int32)), (0, Value.ref (ad k)), (1, Value.int l1), (2, Value.int l2), (3, Value.int l3)] d_Si_allow_27 (by decide) rfl ?_
        refine V_aload_n X 1 d_Si_allow_29 rfl ?_
        refine V_getR X 4 0 (k + 1) rfl ji4 (by decide) (by decide) (by decide) fl_Si_14 d_Si_allow_30 hl_k hc_k (by decide) (jl_si0 k hl_k hc_k).2.2 ?_
        refine V_iload_n X 4 d_Si_allow_33 rfl ?_
        refine V_cI X h (fun r4 q => C_V (q := 9) X [Value.int l3] mt_Rw_at ms_Rw_at ml_Si_38 (k_Rw_at σ (k + 1) (jl_si0 k hl_k hc_k).1 (jl_si0 k hl_k hc_k).2.1 l3 r4 q) rfl rfl (by omega) (Nat.le_of_ble_eq_true rfl) rfl (jl_si0 k hl_k hc_k).1 (jl_si0 k hl_k hc_k).2.1 (by decide) d_Si_allow_34) (fun r4 h => ?_)
        refine V_iload_n X 2 d_Si_allow_37 rfl ?_
        refine V_icmp_ne X 65 d_Si_allow_38 (by decide) h (fun c5 h => ?_) (fun c5 h => ?_)
        · skip
          refine V_iinc X 4 (l3 + (1 : Int32)) [(3, Value.int (l3 + (1 : Int32))), (4, Value.int (0 : Int32)), (0, Value.ref (ad k)), (1, Value.int l1), (2, Value.int l2)] d_Si_allow_65 rfl (by first | rfl | decide) (by decide) rfl ?_
          refine V_goto X 2 d_Si_allow_68 (by decide) ?_
          refine V_sub (lv' := [(0, Value.ref (ad k)), (1, Value.int l1), (2, Value.int l2), (3, Value.int (l3 + (1 : Int32)))]) [2, 3, 4, 0] rfl ?_
          exact ih (l3 + (1 : Int32)) h
        · skip
          refine V_iload X 0 d_Si_allow_41 rfl ?_
          refine V_aload_n X 1 d_Si_allow_43 rfl ?_
          refine V_getR X 4 2 (k + 5) rfl ji4 (by decide) (by decide) (by decide) fl_Si_23 d_Si_allow_44 hl_k hc_k (by decide) (jl_si2 k hl_k hc_k).2.2 ?_
          refine V_iload_n X 4 d_Si_allow_47 rfl ?_
          refine V_cI X h (fun r6 q => C_V (q := 9) X [Value.int l3] mt_Rw_at ms_Rw_at ml_Si_38 (k_Rw_at σ (k + 5) (jl_si2 k hl_k hc_k).1 (jl_si2 k hl_k hc_k).2.1 l3 r6 q) rfl rfl (by omega) (Nat.le_of_ble_eq_true rfl) rfl (jl_si2 k hl_k hc_k).1 (jl_si2 k hl_k hc_k).2.1 (by decide) d_Si_allow_48) (fun r6 h => ?_)
          refine V_iconst (v := 1) X d_Si_allow_51 (by decide) ?_
          refine V_icmp_ne X 59 d_Si_allow_52 (by decide) h (fun c7 h => ?_) (fun c7 h => ?_)
          · skip
            refine V_iconst (v := 0) X d_Si_allow_59 (by decide) ?_
            refine V_icmp_eq X 65 d_Si_allow_60 (by decide) h (fun c8 h => ?_) (fun c8 h => ?_)
            · skip
              refine V_iinc X 4 (l3 + (1 : Int32)) [(3, Value.int (l3 + (1 : Int32))), (4, Value.int (0 : Int32)), (0, Value.ref (ad k)), (1, Value.int l1), (2, Value.int l2)] d_Si_allow_65 rfl (by first | rfl | decide) (by decide) rfl ?_
              refine V_goto X 2 d_Si_allow_68 (by decide) ?_
              refine V_sub (lv' := [(0, Value.ref (ad k)), (1, Value.int l1), (2, Value.int l2), (3, Value.int (l3 + (1 : Int32)))]) [2, 3, 4, 0] rfl ?_
              exact ih (l3 + (1 : Int32)) h
            · skip
              refine V_iconst (v := 0) X d_Si_allow_63 (by decide) ?_
              have h9 := wp_some h
              exact hQ _ h9 (fun _ => by decide) _ _ d_Si_allow_64
          · skip
            refine V_iconst (v := 1) X d_Si_allow_55 (by decide) ?_
            refine V_goto X 60 d_Si_allow_56 (by decide) ?_
            refine V_icmp_eq X 65 d_Si_allow_60 (by decide) h (fun c9 h => ?_) (fun c9 h => ?_)
            · skip
              refine V_iinc X 4 (l3 + (1 : Int32)) [(3, Value.int (l3 + (1 : Int32))), (4, Value.int (0 : Int32)), (0, Value.ref (ad k)), (1, Value.int l1), (2, Value.int l2)] d_Si_allow_65 rfl (by first | rfl | decide) (by decide) rfl ?_
              refine V_goto X 2 d_Si_allow_68 (by decide) ?_
              refine V_sub (lv' := [(0, Value.ref (ad k)), (1, Value.int l1), (2, Value.int l2), (3, Value.int (l3 + (1 : Int32)))]) [2, 3, 4, 0] rfl ?_
              exact ih (l3 + (1 : Int32)) h
            · skip
              refine V_iconst (v := 0) X d_Si_allow_63 (by decide) ?_
              have h9 := wp_some h
              exact hQ _ h9 (fun _ => by decide) _ _ d_Si_allow_64
      · skip
        refine V_iconst (v := 1) X d_Si_allow_22 (by decide) ?_
        refine V_goto X 27 d_Si_allow_23 (by decide) ?_
        refine V_istore X [(4, Value.int (1 : Int32)), (0, Value.ref (ad k)), (1, Value.int l1), (2, Value.int l2), (3, Value.int l3)] d_Si_allow_27 (by decide) rfl ?_
        refine V_aload_n X 1 d_Si_allow_29 rfl ?_
        refine V_getR X 4 0 (k + 1) rfl ji4 (by decide) (by decide) (by decide) fl_Si_14 d_Si_allow_30 hl_k hc_k (by decide) (jl_si0 k hl_k hc_k).2.2 ?_
        refine V_iload_n X 4 d_Si_allow_33 rfl ?_
        refine V_cI X h (fun r10 q => C_V (q := 9) X [Value.int l3] mt_Rw_at ms_Rw_at ml_Si_38 (k_Rw_at σ (k + 1) (jl_si0 k hl_k hc_k).1 (jl_si0 k hl_k hc_k).2.1 l3 r10 q) rfl rfl (by omega) (Nat.le_of_ble_eq_true rfl) rfl (jl_si0 k hl_k hc_k).1 (jl_si0 k hl_k hc_k).2.1 (by decide) d_Si_allow_34) (fun r10 h => ?_)
        refine V_iload_n X 2 d_Si_allow_37 rfl ?_
        refine V_icmp_ne X 65 d_Si_allow_38 (by decide) h (fun c11 h => ?_) (fun c11 h => ?_)
        · skip
          refine V_iinc X 4 (l3 + (1 : Int32)) [(3, Value.int (l3 + (1 : Int32))), (4, Value.int (1 : Int32)), (0, Value.ref (ad k)), (1, Value.int l1), (2, Value.int l2)] d_Si_allow_65 rfl (by first | rfl | decide) (by decide) rfl ?_
          refine V_goto X 2 d_Si_allow_68 (by decide) ?_
          refine V_sub (lv' := [(0, Value.ref (ad k)), (1, Value.int l1), (2, Value.int l2), (3, Value.int (l3 + (1 : Int32)))]) [2, 3, 4, 0] rfl ?_
          exact ih (l3 + (1 : Int32)) h
        · skip
          refine V_iload X 0 d_Si_allow_41 rfl ?_
          refine V_aload_n X 1 d_Si_allow_43 rfl ?_
          refine V_getR X 4 2 (k + 5) rfl ji4 (by decide) (by decide) (by decide) fl_Si_23 d_Si_allow_44 hl_k hc_k (by decide) (jl_si2 k hl_k hc_k).2.2 ?_
          refine V_iload_n X 4 d_Si_allow_47 rfl ?_
          refine V_cI X h (fun r12 q => C_V (q := 9) X [Value.int l3] mt_Rw_at ms_Rw_at ml_Si_38 (k_Rw_at σ (k + 5) (jl_si2 k hl_k hc_k).1 (jl_si2 k hl_k hc_k).2.1 l3 r12 q) rfl rfl (by omega) (Nat.le_of_ble_eq_true rfl) rfl (jl_si2 k hl_k hc_k).1 (jl_si2 k hl_k hc_k).2.1 (by decide) d_Si_allow_48) (fun r12 h => ?_)
          refine V_iconst (v := 1) X d_Si_allow_51 (by decide) ?_
          refine V_icmp_ne X 59 d_Si_allow_52 (by decide) h (fun c13 h => ?_) (fun c13 h => ?_)
          · skip
            refine V_iconst (v := 0) X d_Si_allow_59 (by decide) ?_
            refine V_icmp_eq X 65 d_Si_allow_60 (by decide) h (fun c14 h => ?_) (fun c14 h => ?_)
            · skip
              refine V_iinc X 4 (l3 + (1 : Int32)) [(3, Value.int (l3 + (1 : Int32))), (4, Value.int (1 : Int32)), (0, Value.ref (ad k)), (1, Value.int l1), (2, Value.int l2)] d_Si_allow_65 rfl (by first | rfl | decide) (by decide) rfl ?_
              refine V_goto X 2 d_Si_allow_68 (by decide) ?_
              refine V_sub (lv' := [(0, Value.ref (ad k)), (1, Value.int l1), (2, Value.int l2), (3, Value.int (l3 + (1 : Int32)))]) [2, 3, 4, 0] rfl ?_
              exact ih (l3 + (1 : Int32)) h
            · skip
              refine V_iconst (v := 0) X d_Si_allow_63 (by decide) ?_
              have h9 := wp_some h
              exact hQ _ h9 (fun _ => by decide) _ _ d_Si_allow_64
          · skip
            refine V_iconst (v := 1) X d_Si_allow_55 (by decide) ?_
            refine V_goto X 60 d_Si_allow_56 (by decide) ?_
            refine V_icmp_eq X 65 d_Si_allow_60 (by decide) h (fun c15 h => ?_) (fun c15 h => ?_)
            · skip
              refine V_iinc X 4 (l3 + (1 : Int32)) [(3, Value.int (l3 + (1 : Int32))), (4, Value.int (1 : Int32)), (0, Value.ref (ad k)), (1, Value.int l1), (2, Value.int l2)] d_Si_allow_65 rfl (by first | rfl | decide) (by decide) rfl ?_
              refine V_goto X 2 d_Si_allow_68 (by decide) ?_
              refine V_sub (lv' := [(0, Value.ref (ad k)), (1, Value.int l1), (2, Value.int l2), (3, Value.int (l3 + (1 : Int32)))]) [2, 3, 4, 0] rfl ?_
              exact ih (l3 + (1 : Int32)) h
            · skip
              refine V_iconst (v := 0) X d_Si_allow_63 (by decide) ?_
              have h9 := wp_some h
              exact hQ _ h9 (fun _ => by decide) _ _ d_Si_allow_64
set_option maxHeartbeats 4000000 in
set_option maxRecDepth 100000 in
theorem k_Si_allow (fu : Nat) (σ : Sg) (k : Nat) (hl_k : k < 116) (hc_k : jv_cls k = 4) (a0 : Int32) (a1 : Int32) (r : Int32) (h : Si_allow fu σ k a0 a1 = some r) : Evc y_Si_allow prog_11_method_6_code 5 (some .boolean) 2 (fun ad => [Value.ref (ad k), Value.int a0, Value.int a1]) σ σ (fun _ => some (.int r)) := by
  refine Evc_ofZ (by decide) (fun ad => Nat.le_of_ble_eq_true rfl) (fun p l e R s m args below meth c D ad cI cB A Q X hQ => ?_)
  have X : Cx p R s m args meth c jR4 prog_11_method_6_code 5 2 D ad cI cB A 0 0 := X
  have hQ := hQ.pure
  have h : wpO (Si_allow fu σ k a0 a1) (fun q => q = r) := ⟨_, h, rfl⟩
  rw [Si_allow] at h
  refine V_sub (lv' := [(0, Value.ref (ad k)), (1, Value.int a0), (2, Value.int a1)]) [0, 1, 2] rfl ?_
  refine V_iconst (v := 0) X d_Si_allow_0 (by decide) ?_
  refine V_istore_n X [(3, Value.int (0 : Int32)), (0, Value.ref (ad k)), (1, Value.int a0), (2, Value.int a1)] d_Si_allow_1 (by decide) rfl ?_
  refine V_sub (lv' := [(0, Value.ref (ad k)), (1, Value.int a0), (2, Value.int a1), (3, Value.int (0 : Int32))]) [1, 2, 3, 0] rfl ?_
  refine Si_allow_L2_ok X fu k hl_k hc_k a0 a1 σ _ hQ (fun l3_16 h => ?_) fu (0 : Int32) h
  refine V_iconst (v := 1) X d_Si_allow_71 (by decide) ?_
  have h9 := wp_some h
  exact hQ _ h9 (fun _ => by decide) _ _ d_Si_allow_72
set_option maxHeartbeats 4000000 in
set_option maxRecDepth 100000 in
theorem Gu_possibleNeeds_L4_ok {p : Program} {l : Launch} {e : Env} {R : Room} {s : State} {m : MethodId} {args : Array Value} {below : List Frame} {meth : Method} {c : Code} {D : va_G} {ad : Nat → Nat} {cI cB : ClassId} {A : Nat → Prop} {cells slots : Nat} {Q : State → Prop} (X : Cx p R s m args meth c jR5 prog_5_method_2_code 4 7 D ad cI cB A cells slots) (fu : Nat) (l1 : Int32) (σ : Sg) (kont : (Int32 → Int32 → Option Int32)) {K : Int32 → Prop} (hQ : RP p l e R s m args below meth c 4 D ad cI cB A cells slots Q prog_5_method_2_code false σ K) (hk : ∀ (l2 : Int32) (l3 : Int32), wpO (kont l2 l3) K → V p l e R s m args below meth c 4 D A cells slots Q (wl ad cI cB σ) 48 [(0, Value.ref (ad 53)), (1, Value.int l1), (2, Value.int l2), (3, Value.int l3)] []) : ∀ (n : Nat) (l2 : Int32) (l3 : Int32), wpO (Gu_possibleNeeds_L4 fu l1 σ kont n l2 l3) K → V p l e R s m args below meth c 4 D A cells slots Q (wl ad cI cB σ) 4 [(0, Value.ref (ad 53)), (1, Value.int l1), (2, Value.int l2), (3, Value.int l3)] [] := by
  intro n
  induction n with
  | zero =>
    intro l2 l3 h
    exact (wp_none h).elim
  | succ n ih =>
    intro l2 l3 h
    rw [Gu_possibleNeeds_L4] at h
    refine V_iload_n X 3 d_Gu_possibleNeeds_4 rfl ?_
    refine V_bipush (v := 9) X d_Gu_possibleNeeds_5 (by decide) ?_
    refine V_icmp_gt X 48 d_Gu_possibleNeeds_7 (by decide) h (fun c1 h => ?_) (fun c1 h => ?_)
    · skip
      exact hk l2 l3 h
    · skip
      refine V_aload_n X 0 d_Gu_possibleNeeds_10 rfl ?_
      refine V_getR X 5 0 5 rfl ji5 (by decide) (by decide) (by decide) fl_Gu_9 d_Gu_possibleNeeds_11 (by decide) (by decide) (by decide) (by decide) ?_
      refine V_cR (t := 22) X (C_V (q := 3) X [] mt_Sh_sightings ms_Sh_sightings ml_Gu_15 (k_Sh_sightings σ 5 (by decide) (by decide)) rfl rfl (by omega) (Nat.le_of_ble_eq_true rfl) rfl (by decide) (by decide) (by decide) d_Gu_possibleNeeds_14) ?_
      refine V_iload_n X 1 d_Gu_possibleNeeds_17 rfl ?_
      refine V_aload_n X 0 d_Gu_possibleNeeds_18 rfl ?_
      refine V_getR X 5 0 5 rfl ji5 (by decide) (by decide) (by decide) fl_Gu_9 d_Gu_possibleNeeds_19 (by decide) (by decide) (by decide) (by decide) ?_
      refine V_iload_n X 1 d_Gu_possibleNeeds_22 rfl ?_
      refine V_iload_n X 3 d_Gu_possibleNeeds_23 rfl ?_
      refine V_cI X h (fun r2 q => C_V (q := 3) X [Value.int l1, Value.int l3] mt_Sh_costAtNeed ms_Sh_costAtNeed ml_Gu_21 (k_Sh_costAtNeed σ 5 (by decide) (by decide) l1 l3 r2 q) rfl rfl (by omega) (Nat.le_of_ble_eq_true rfl) rfl (by decide) (by decide) (by decide) d_Gu_possibleNeeds_24) (fun r2 h => ?_)
      refine V_cI X h (fun r3 q => C_V (q := 4) X [Value.int l1, Value.int r2] mt_Si_allow ms_Si_allow ml_Gu_25 (k_Si_allow fu σ 22 (by decide) (by decide) l1 r2 r3 q) rfl rfl (by omega) (Nat.le_of_ble_eq_true rfl) rfl (by decide) (by decide) (by decide) d_Gu_possibleNeeds_27) (fun r3 h => ?_)
      refine V_if_eq X 42 d_Gu_possibleNeeds_30 (by decide) h (fun c4 h => ?_) (fun c4 h => ?_)
      · skip
        refine V_iinc X 3 (l3 + (1 : Int32)) [(3, Value.int (l3 + (1 : Int32))), (0, Value.ref (ad 53)), (1, Value.int l1), (2, Value.int l2)] d_Gu_possibleNeeds_42 rfl (by first | rfl | decide) (by decide) rfl ?_
        refine V_goto X 4 d_Gu_possibleNeeds_45 (by decide) ?_
        refine V_sub (lv' := [(0, Value.ref (ad 53)), (1, Value.int l1), (2, Value.int l2), (3, Value.int (l3 + (1 : Int32)))]) [1, 2, 3, 0] rfl ?_
        exact ih l2 (l3 + (1 : Int32)) h
      · skip
        refine V_iload_n X 2 d_Gu_possibleNeeds_33 rfl ?_
        refine V_iload_n X 3 d_Gu_possibleNeeds_34 rfl ?_
        refine V_iconst (v := 1) X d_Gu_possibleNeeds_35 (by decide) ?_
        refine V_isub X d_Gu_possibleNeeds_36 ?_
        refine V_cI X h (fun r5 q => C_SN X [Value.int (l3 - (1 : Int32))] mt_Co_bit ms_Co_bit mn_Gu_31 (k_Co_bit σ (l3 - (1 : Int32)) r5 q) rfl rfl (by omega) (Nat.le_of_ble_eq_true rfl) d_Gu_possibleNeeds_37) (fun r5 h => ?_)
        refine V_ior X d_Gu_possibleNeeds_40 ?_
        refine V_istore_n X [(2, Value.int (l2 ||| r5)), (0, Value.ref (ad 53)), (1, Value.int l1), (3, Value.int l3)] d_Gu_possibleNeeds_41 (by decide) rfl ?_
        refine V_iinc X 3 (l3 + (1 : Int32)) [(3, Value.int (l3 + (1 : Int32))), (2, Value.int (l2 ||| r5)), (0, Value.ref (ad 53)), (1, Value.int l1)] d_Gu_possibleNeeds_42 rfl (by first | rfl | decide) (by decide) rfl ?_
        refine V_goto X 4 d_Gu_possibleNeeds_45 (by decide) ?_
        refine V_sub (lv' := [(0, Value.ref (ad 53)), (1, Value.int l1), (2, Value.int (l2 ||| r5)), (3, Value.int (l3 + (1 : Int32)))]) [2, 3, 1, 0] rfl ?_
        exact ih (l2 ||| r5) (l3 + (1 : Int32)) h
set_option maxHeartbeats 4000000 in
set_option maxRecDepth 100000 in
theorem k_Gu_possibleNeeds (fu : Nat) (σ : Sg) (a0 : Int32) (r : Int32) (h : Gu_possibleNeeds fu σ a0 = some r) : Evc y_Gu_possibleNeeds prog_5_method_2_code 4 (some .int) 7 (fun ad => [Value.ref (ad 53), Value.int a0]) σ σ (fun _ => some (.int r)) := by
  refine Evc_ofI (by decide) (fun ad => Nat.le_of_ble_eq_true rfl) (fun p l e R s m args below meth c D ad cI cB A Q X hQ => ?_)
  have X : Cx p R s m args meth c jR5 prog_5_method_2_code 4 7 D ad cI cB A 0 0 := X
  have hQ := hQ.pure
  have h : wpO (Gu_possibleNeeds fu σ a0) (fun q => q = r) := ⟨_, h, rfl⟩
  rw [Gu_possibleNeeds] at h
  refine V_sub (lv' := [(0, Value.ref (ad 53)), (1, Value.int a0)]) [0, 1] rfl ?_
  refine V_iconst (v := 0) X d_Gu_possibleNeeds_0 (by decide) ?_
  refine V_istore_n X [(2, Value.int (0 : Int32)), (0, Value.ref (ad 53)), (1, Value.int a0)] d_Gu_possibleNeeds_1 (by decide) rfl ?_
  refine V_iconst (v := 1) X d_Gu_possibleNeeds_2 (by decide) ?_
  refine V_istore_n X [(3, Value.int (1 : Int32)), (2, Value.int (0 : Int32)), (0, Value.ref (ad 53)), (1, Value.int a0)] d_Gu_possibleNeeds_3 (by decide) rfl ?_
  refine V_sub (lv' := [(0, Value.ref (ad 53)), (1, Value.int a0), (2, Value.int (0 : Int32)), (3, Value.int (1 : Int32))]) [2, 3, 1, 0] rfl ?_
  refine Gu_possibleNeeds_L4_ok X fu a0 σ _ hQ (fun l2_6 l3_7 h => ?_) fu (0 : Int32) (1 : Int32) h
  refine V_iload_n X 2 d_Gu_possibleNeeds_48 rfl ?_
  have h9 := wp_some h
  exact hQ _ h9 (fun h9 => absurd h9 (by decide)) _ _ d_Gu_possibleNeeds_49
set_option maxHeartbeats 4000000 in
set_option maxRecDepth 100000 in
theorem Gu_leftAtWorst_L6_ok {p : Program} {l : Launch} {e : Env} {R : Room} {s : State} {m : MethodId} {args : Array Value} {below : List Frame} {meth : Method} {c : Code} {D : va_G} {ad : Nat → Nat} {cI cB : ClassId} {A : Nat → Prop} {cells slots : Nat} {Q : State → Prop} (X : Cx p R s m args meth c jR5 prog_5_method_4_code 7 7 D ad cI cB A cells slots) (fu : Nat) (l1 : Int32) (l2 : Int32) (l3 : Int32) (σ : Sg) (kont : (Int32 → Int32 → Option Int32)) {K : Int32 → Prop} (hQ : RP p l e R s m args below meth c 7 D ad cI cB A cells slots Q prog_5_method_4_code false σ K) (hk : ∀ (l4 : Int32) (l5 : Int32), wpO (kont l4 l5) K → V p l e R s m args below meth c 7 D A cells slots Q (wl ad cI cB σ) 66 [(0, Value.ref (ad 53)), (1, Value.int l1), (2, Value.int l2), (3, Value.int l3), (4, Value.int l4), (5, Value.int l5)] []) : ∀ (n : Nat) (l4 : Int32) (l5 : Int32), wpO (Gu_leftAtWorst_L6 fu l1 l2 l3 σ kont n l4 l5) K → V p l e R s m args below meth c 7 D A cells slots Q (wl ad cI cB σ) 6 [(0, Value.ref (ad 53)), (1, Value.int l1), (2, Value.int l2), (3, Value.int l3), (4, Value.int l4), (5, Value.int l5)] [] := by
  intro n
  induction n with
  | zero =>
    intro l4 l5 h
    exact (wp_none h).elim
  | succ n ih =>
    intro l4 l5 h
    rw [Gu_leftAtWorst_L6] at h
    refine V_iload X 5 d_Gu_leftAtWorst_6 rfl ?_
    refine V_bipush (v := 9) X d_Gu_leftAtWorst_8 (by decide) ?_
    refine V_icmp_gt X 66 d_Gu_leftAtWorst_10 (by decide) h (fun c1 h => ?_) (fun c1 h => ?_)
    · skip
      exact hk l4 l5 h
    · skip
      refine V_aload_n X 0 d_Gu_leftAtWorst_13 rfl ?_
      refine V_getR X 5 0 5 rfl ji5 (by decide) (by decide) (by decide) fl_Gu_9 d_Gu_leftAtWorst_14 (by decide) (by decide) (by decide) (by decide) ?_
      refine V_iload_n X 1 d_Gu_leftAtWorst_17 rfl ?_
      refine V_iload X 5 d_Gu_leftAtWorst_18 rfl ?_
      refine V_cI X h (fun r2 q => C_V (q := 3) X [Value.int l1, Value.int l5] mt_Sh_costAtNeed ms_Sh_costAtNeed ml_Gu_21 (k_Sh_costAtNeed σ 5 (by decide) (by decide) l1 l5 r2 q) rfl rfl (by omega) (Nat.le_of_ble_eq_true rfl) rfl (by decide) (by decide) (by decide) d_Gu_leftAtWorst_20) (fun r2 h => ?_)
      refine V_iload_n X 3 d_Gu_leftAtWorst_23 rfl ?_
      refine V_icmp_gt X 31 d_Gu_leftAtWorst_24 (by decide) h (fun c3 h => ?_) (fun c3 h => ?_)
      · skip
        refine V_iconst (v := 0) X d_Gu_leftAtWorst_31 (by decide) ?_
        refine V_istore X [(6, Value.int (0 : Int32)), (0, Value.ref (ad 53)), (1, Value.int l1), (2, Value.int l2), (3, Value.int l3), (4, Value.int l4), (5, Value.int l5)] d_Gu_leftAtWorst_32 (by decide) rfl ?_
        refine V_iload X 5 d_Gu_leftAtWorst_34 rfl ?_
        refine V_iload X 0 d_Gu_leftAtWorst_36 rfl ?_
        refine V_if_eqT X 56 d_Gu_leftAtWorst_38 (by decide) (by decide) ?_
        refine V_iconst (v := 0) X d_Gu_leftAtWorst_56 (by decide) ?_
        refine V_iadd X d_Gu_leftAtWorst_57 ?_
        refine V_istore X [(4, Value.int (l4 + (0 : Int32))), (6, Value.int (0 : Int32)), (0, Value.ref (ad 53)), (1, Value.int l1), (2, Value.int l2), (3, Value.int l3), (5, Value.int l5)] d_Gu_leftAtWorst_58 (by decide) rfl ?_
        refine V_iinc X 6 (l5 + (1 : Int32)) [(5, Value.int (l5 + (1 : Int32))), (4, Value.int (l4 + (0 : Int32))), (6, Value.int (0 : Int32)), (0, Value.ref (ad 53)), (1, Value.int l1), (2, Value.int l2), (3, Value.int l3)] d_Gu_leftAtWorst_60 rfl (by first | rfl | decide) (by decide) rfl ?_
        refine V_goto X 6 d_Gu_leftAtWorst_63 (by decide) ?_
        refine V_sub (lv' := [(0, Value.ref (ad 53)), (1, Value.int l1), (2, Value.int l2), (3, Value.int l3), (4, Value.int (l4 + (0 : Int32))), (5, Value.int (l5 + (1 : Int32)))]) [3, 4, 5, 6, 1, 0] rfl ?_
        exact ih (l4 + (0 : Int32)) (l5 + (1 : Int32)) h
      · skip
        refine V_iconst (v := 1) X d_Gu_leftAtWorst_27 (by decide) ?_
        refine V_goto X 32 d_Gu_leftAtWorst_28 (by decide) ?_
        refine V_istore X [(6, Value.int (1 : Int32)), (0, Value.ref (ad 53)), (1, Value.int l1), (2, Value.int l2), (3, Value.int l3), (4, Value.int l4), (5, Value.int l5)] d_Gu_leftAtWorst_32 (by decide) rfl ?_
        refine V_iload X 5 d_Gu_leftAtWorst_34 rfl ?_
        refine V_iload X 0 d_Gu_leftAtWorst_36 rfl ?_
        refine V_if_eqF X d_Gu_leftAtWorst_38 56 (by decide) (by decide) ?_
        refine V_iload_n X 3 d_Gu_leftAtWorst_41 rfl ?_
        refine V_iload X 6 d_Gu_leftAtWorst_42 rfl ?_
        refine V_iconst (v := 1) X d_Gu_leftAtWorst_44 (by decide) ?_
        refine V_isub X d_Gu_leftAtWorst_45 ?_
        refine V_cI X h (fun r4 q => C_SN X [Value.int l2, Value.int (l5 - (1 : Int32))] mt_Co_has ms_Co_has mn_Gu_42 (k_Co_has σ l2 (l5 - (1 : Int32)) r4 q) rfl rfl (by omega) (Nat.le_of_ble_eq_true rfl) d_Gu_leftAtWorst_46) (fun r4 h => ?_)
        refine V_if_eq X 56 d_Gu_leftAtWorst_49 (by decide) h (fun c5 h => ?_) (fun c5 h => ?_)
        · skip
          refine V_iconst (v := 0) X d_Gu_leftAtWorst_56 (by decide) ?_
          refine V_iadd X d_Gu_leftAtWorst_57 ?_
          refine V_istore X [(4, Value.int (l4 + (0 : Int32))), (6, Value.int (1 : Int32)), (0, Value.ref (ad 53)), (1, Value.int l1), (2, Value.int l2), (3, Value.int l3), (5, Value.int l5)] d_Gu_leftAtWorst_58 (by decide) rfl ?_
          refine V_iinc X 6 (l5 + (1 : Int32)) [(5, Value.int (l5 + (1 : Int32))), (4, Value.int (l4 + (0 : Int32))), (6, Value.int (1 : Int32)), (0, Value.ref (ad 53)), (1, Value.int l1), (2, Value.int l2), (3, Value.int l3)] d_Gu_leftAtWorst_60 rfl (by first | rfl | decide) (by decide) rfl ?_
          refine V_goto X 6 d_Gu_leftAtWorst_63 (by decide) ?_
          refine V_sub (lv' := [(0, Value.ref (ad 53)), (1, Value.int l1), (2, Value.int l2), (3, Value.int l3), (4, Value.int (l4 + (0 : Int32))), (5, Value.int (l5 + (1 : Int32)))]) [3, 4, 5, 6, 1, 0] rfl ?_
          exact ih (l4 + (0 : Int32)) (l5 + (1 : Int32)) h
        · skip
          refine V_iconst (v := 1) X d_Gu_leftAtWorst_52 (by decide) ?_
          refine V_goto X 57 d_Gu_leftAtWorst_53 (by decide) ?_
          refine V_iadd X d_Gu_leftAtWorst_57 ?_
          refine V_istore X [(4, Value.int (l4 + (1 : Int32))), (6, Value.int (1 : Int32)), (0, Value.ref (ad 53)), (1, Value.int l1), (2, Value.int l2), (3, Value.int l3), (5, Value.int l5)] d_Gu_leftAtWorst_58 (by decide) rfl ?_
          refine V_iinc X 6 (l5 + (1 : Int32)) [(5, Value.int (l5 + (1 : Int32))), (4, Value.int (l4 + (1 : Int32))), (6, Value.int (1 : Int32)), (0, Value.ref (ad 53)), (1, Value.int l1), (2, Value.int l2), (3, Value.int l3)] d_Gu_leftAtWorst_60 rfl (by first | rfl | decide) (by decide) rfl ?_
          refine V_goto X 6 d_Gu_leftAtWorst_63 (by decide) ?_
          refine V_sub (lv' := [(0, Value.ref (ad 53)), (1, Value.int l1), (2, Value.int l2), (3, Value.int l3), (4, Value.int (l4 + (1 : Int32))), (5, Value.int (l5 + (1 : Int32)))]) [3, 4, 5, 6, 1, 0] rfl ?_
          exact ih (l4 + (1 : Int32)) (l5 + (1 : Int32)) h
set_option maxHeartbeats 4000000 in
set_option maxRecDepth 100000 in
theorem k_Gu_leftAtWorst (fu : Nat) (σ : Sg) (a0 : Int32) (a1 : Int32) (a2 : Int32) (r : Int32) (h : Gu_leftAtWorst fu σ a0 a1 a2 = some r) : Evc y_Gu_leftAtWorst prog_5_method_4_code 7 (some .int) 7 (fun ad => [Value.ref (ad 53), Value.int a0, Value.int a1, Value.int a2]) σ σ (fun _ => some (.int r)) := by
  refine Evc_ofI (by decide) (fun ad => Nat.le_of_ble_eq_true rfl) (fun p l e R s m args below meth c D ad cI cB A Q X hQ => ?_)
  have X : Cx p R s m args meth c jR5 prog_5_method_4_code 7 7 D ad cI cB A 0 0 := X
  have hQ := hQ.pure
  have h : wpO (Gu_leftAtWorst fu σ a0 a1 a2) (fun q => q = r) := ⟨_, h, rfl⟩
  rw [Gu_leftAtWorst] at h
  refine V_sub (lv' := [(0, Value.ref (ad 53)), (1, Value.int a0), (2, Value.int a1), (3, Value.int a2)]) [0, 1, 2, 3] rfl ?_
  refine V_iconst (v := 0) X d_Gu_leftAtWorst_0 (by decide) ?_
  refine V_istore X [(4, Value.int (0 : Int32)), (0, Value.ref (ad 53)), (1, Value.int a0), (2, Value.int a1), (3, Value.int a2)] d_Gu_leftAtWorst_1 (by decide) rfl ?_
  refine V_iconst (v := 1) X d_Gu_leftAtWorst_3 (by decide) ?_
  refine V_istore X [(5, Value.int (1 : Int32)), (4, Value.int (0 : Int32)), (0, Value.ref (ad 53)), (1, Value.int a0), (2, Value.int a1), (3, Value.int a2)] d_Gu_leftAtWorst_4 (by decide) rfl ?_
  refine V_sub (lv' := [(0, Value.ref (ad 53)), (1, Value.int a0), (2, Value.int a1), (3, Value.int a2), (4, Value.int (0 : Int32)), (5, Value.int (1 : Int32))]) [2, 3, 4, 5, 1, 0] rfl ?_
  refine Gu_leftAtWorst_L6_ok X fu a0 a1 a2 σ _ hQ (fun l4_6 l5_7 h => ?_) fu (0 : Int32) (1 : Int32) h
  refine V_iload X 4 d_Gu_leftAtWorst_66 rfl ?_
  refine V_iload_n X 2 d_Gu_leftAtWorst_68 rfl ?_
  refine V_cI X h (fun r8 q => C_S X [Value.int a1] mt_In_bitCount ms_In_bitCount ml_Gu_45 (k_In_bitCount σ a1 r8 q) rfl rfl (by omega) (Nat.le_of_ble_eq_true rfl) d_Gu_leftAtWorst_69) (fun r8 h => ?_)
  refine V_iload X 4 d_Gu_leftAtWorst_72 rfl ?_
  refine V_isub X d_Gu_leftAtWorst_74 ?_
  refine V_mmax X ml_Gu_50 d_Gu_leftAtWorst_75 (by omega) (Nat.le_of_ble_eq_true rfl) ?_
  have h9 := wp_some h
  exact hQ _ h9 (fun h9 => absurd h9 (by decide)) _ _ d_Gu_leftAtWorst_78
set_option maxHeartbeats 4000000 in
set_option maxRecDepth 100000 in
theorem Gu_bestTry_L21_ok {p : Program} {l : Launch} {e : Env} {R : Room} {s : State} {m : MethodId} {args : Array Value} {below : List Frame} {meth : Method} {c : Code} {D : va_G} {ad : Nat → Nat} {cI cB : ClassId} {A : Nat → Prop} {cells slots : Nat} {Q : State → Prop} (X : Cx p R s m args meth c jR5 prog_5_method_3_code 7 8 D ad cI cB A cells slots) (fu : Nat) (l1 : Int32) (l2 : Int32) (σ : Sg) (kont : (Int32 → Int32 → Int32 → Option Int32)) {K : Int32 → Prop} (hQ : RP p l e R s m args below meth c 7 D ad cI cB A cells slots Q prog_5_method_3_code false σ K) (hk : ∀ (l3 : Int32) (l4 : Int32) (l5 : Int32), wpO (kont l3 l4 l5) K → V p l e R s m args below meth c 7 D A cells slots Q (wl ad cI cB σ) 58 [(0, Value.ref (ad 53)), (1, Value.int l1), (2, Value.int l2), (3, Value.int l3), (4, Value.int l4), (5, Value.int l5)] []) : ∀ (n : Nat) (l3 : Int32) (l4 : Int32) (l5 : Int32), wpO (Gu_bestTry_L21 fu l1 l2 σ kont n l3 l4 l5) K → V p l e R s m args below meth c 7 D A cells slots Q (wl ad cI cB σ) 21 [(0, Value.ref (ad 53)), (1, Value.int l1), (2, Value.int l2), (3, Value.int l3), (4, Value.int l4), (5, Value.int l5)] [] := by
  intro n
  induction n with
  | zero =>
    intro l3 l4 l5 h
    exact (wp_none h).elim
  | succ n ih =>
    intro l3 l4 l5 h
    rw [Gu_bestTry_L21] at h
    refine V_iload X 5 d_Gu_bestTry_21 rfl ?_
    refine V_bipush (v := 18) X d_Gu_bestTry_23 (by decide) ?_
    refine V_icmp_gt X 58 d_Gu_bestTry_25 (by decide) h (fun c3 h => ?_) (fun c3 h => ?_)
    · skip
      exact hk l3 l4 l5 h
    · skip
      refine V_aload_n X 0 d_Gu_bestTry_28 rfl ?_
      refine V_iload_n X 1 d_Gu_bestTry_29 rfl ?_
      refine V_iload_n X 2 d_Gu_bestTry_30 rfl ?_
      refine V_iload X 5 d_Gu_bestTry_31 rfl ?_
      refine V_cI X h (fun r4 q => C_V (q := 5) X [Value.int l1, Value.int l2, Value.int l5] mt_Gu_leftAtWorst ms_Gu_leftAtWorst ml_Gu_38 (k_Gu_leftAtWorst fu σ l1 l2 l5 r4 q) rfl rfl (by omega) (Nat.le_of_ble_eq_true rfl) rfl (by decide) (by decide) (by decide) d_Gu_bestTry_33) (fun r4 h => ?_)
      refine V_istore X [(6, Value.int r4), (0, Value.ref (ad 53)), (1, Value.int l1), (2, Value.int l2), (3, Value.int l3), (4, Value.int l4), (5, Value.int l5)] d_Gu_bestTry_36 (by decide) rfl ?_
      refine V_iload X 0 d_Gu_bestTry_38 rfl ?_
      refine V_iload X 5 d_Gu_bestTry_40 rfl ?_
      refine V_icmp_ge X 52 d_Gu_bestTry_42 (by decide) h (fun c5 h => ?_) (fun c5 h => ?_)
      · skip
        refine V_iinc X 6 (l5 + (1 : Int32)) [(5, Value.int (l5 + (1 : Int32))), (6, Value.int r4), (0, Value.ref (ad 53)), (1, Value.int l1), (2, Value.int l2), (3, Value.int l3), (4, Value.int l4)] d_Gu_bestTry_52 rfl (by first | rfl | decide) (by decide) rfl ?_
        refine V_goto X 21 d_Gu_bestTry_55 (by decide) ?_
        refine V_sub (lv' := [(0, Value.ref (ad 53)), (1, Value.int l1), (2, Value.int l2), (3, Value.int l3), (4, Value.int l4), (5, Value.int (l5 + (1 : Int32)))]) [2, 3, 4, 5, 6, 0] rfl ?_
        exact ih l3 l4 (l5 + (1 : Int32)) h
      · skip
        refine V_iload X 0 d_Gu_bestTry_45 rfl ?_
        refine V_istore X [(4, Value.int r4), (6, Value.int r4), (0, Value.ref (ad 53)), (1, Value.int l1), (2, Value.int l2), (3, Value.int l3), (5, Value.int l5)] d_Gu_bestTry_47 (by decide) rfl ?_
        refine V_iload X 6 d_Gu_bestTry_49 rfl ?_
        refine V_istore_n X [(3, Value.int l5), (4, Value.int r4), (6, Value.int r4), (0, Value.ref (ad 53)), (1, Value.int l1), (2, Value.int l2), (5, Value.int l5)] d_Gu_bestTry_51 (by decide) rfl ?_
        refine V_iinc X 6 (l5 + (1 : Int32)) [(5, Value.int (l5 + (1 : Int32))), (3, Value.int l5), (4, Value.int r4), (6, Value.int r4), (0, Value.ref (ad 53)), (1, Value.int l1), (2, Value.int l2)] d_Gu_bestTry_52 rfl (by first | rfl | decide) (by decide) rfl ?_
        refine V_goto X 21 d_Gu_bestTry_55 (by decide) ?_
        refine V_sub (lv' := [(0, Value.ref (ad 53)), (1, Value.int l1), (2, Value.int l2), (3, Value.int l5), (4, Value.int r4), (5, Value.int (l5 + (1 : Int32)))]) [4, 5, 6, 1, 2, 0] rfl ?_
        exact ih l5 r4 (l5 + (1 : Int32)) h
set_option maxHeartbeats 4000000 in
set_option maxRecDepth 100000 in
theorem k_Gu_bestTry (fu : Nat) (σ : Sg) (a0 : Int32) (r : Int32) (h : Gu_bestTry fu σ a0 = some r) : Evc y_Gu_bestTry prog_5_method_3_code 7 (some .int) 8 (fun ad => [Value.ref (ad 53), Value.int a0]) σ σ (fun _ => some (.int r)) := by
  refine Evc_ofI (by decide) (fun ad => Nat.le_of_ble_eq_true rfl) (fun p l e R s m args below meth c D ad cI cB A Q X hQ => ?_)
  have X : Cx p R s m args meth c jR5 prog_5_method_3_code 7 8 D ad cI cB A 0 0 := X
  have hQ := hQ.pure
  have h : wpO (Gu_bestTry fu σ a0) (fun q => q = r) := ⟨_, h, rfl⟩
  rw [Gu_bestTry] at h
  refine V_sub (lv' := [(0, Value.ref (ad 53)), (1, Value.int a0)]) [0, 1] rfl ?_
  refine V_aload_n X 0 d_Gu_bestTry_0 rfl ?_
  refine V_iload_n X 1 d_Gu_bestTry_1 rfl ?_
  refine V_cI X h (fun r1 q => C_V (q := 5) X [Value.int a0] mt_Gu_possibleNeeds ms_Gu_possibleNeeds ml_Gu_35 (k_Gu_possibleNeeds fu σ a0 r1 q) rfl rfl (by omega) (Nat.le_of_ble_eq_true rfl) rfl (by decide) (by decide) (by decide) d_Gu_bestTry_2) (fun r1 h => ?_)
  refine V_istore_n X [(2, Value.int r1), (0, Value.ref (ad 53)), (1, Value.int a0)] d_Gu_bestTry_5 (by decide) rfl ?_
  refine V_iload_n X 0 d_Gu_bestTry_6 rfl ?_
  refine V_if_ne X 12 d_Gu_bestTry_7 (by decide) h (fun c2 h => ?_) (fun c2 h => ?_)
  · skip
    refine V_iconst (v := -1) X d_Gu_bestTry_12 (by decide) ?_
    refine V_istore_n X [(3, Value.int (-1 : Int32)), (2, Value.int r1), (0, Value.ref (ad 53)), (1, Value.int a0)] d_Gu_bestTry_13 (by decide) rfl ?_
    refine V_bipush (v := 10) X d_Gu_bestTry_14 (by decide) ?_
    refine V_istore X [(4, Value.int (10 : Int32)), (3, Value.int (-1 : Int32)), (2, Value.int r1), (0, Value.ref (ad 53)), (1, Value.int a0)] d_Gu_bestTry_16 (by decide) rfl ?_
    refine V_iconst (v := 1) X d_Gu_bestTry_18 (by decide) ?_
    refine V_istore X [(5, Value.int (1 : Int32)), (4, Value.int (10 : Int32)), (3, Value.int (-1 : Int32)), (2, Value.int r1), (0, Value.ref (ad 53)), (1, Value.int a0)] d_Gu_bestTry_19 (by decide) rfl ?_
    refine V_sub (lv' := [(0, Value.ref (ad 53)), (1, Value.int a0), (2, Value.int r1), (3, Value.int (-1 : Int32)), (4, Value.int (10 : Int32)), (5, Value.int (1 : Int32))]) [4, 5, 3, 2, 1, 0] rfl ?_
    refine Gu_bestTry_L21_ok X fu a0 r1 σ _ hQ (fun l3_6 l4_7 l5_8 h => ?_) fu (-1 : Int32) (10 : Int32) (1 : Int32) h
    refine V_iload_n X 3 d_Gu_bestTry_58 rfl ?_
    have h9 := wp_some h
    exact hQ _ h9 (fun h9 => absurd h9 (by decide)) _ _ d_Gu_bestTry_59
  · skip
    refine V_iconst (v := -1) X d_Gu_bestTry_10 (by decide) ?_
    have h9 := wp_some h
    exact hQ _ h9 (fun h9 => absurd h9 (by decide)) _ _ d_Gu_bestTry_11
