set_option maxHeartbeats 4000000 in
set_option maxRecDepth 100000 in
theorem k_Sh_hasSuit (σ : Sg) (k : Nat) (hl_k : k < 93) (hc_k : jv_cls k = 3) (a0 : Int32) (r : Int32) (h : Sh_hasSuit σ k a0 = some r) : Evc y_Sh_hasSuit prog_10_method_7_code 2 (some .boolean) 1 (fun ad => [Value.ref (ad k), Value.int a0]) σ σ (fun _ => some (.int r)) := by
  refine Evc_ofZ (by decide) (fun ad => Nat.le_of_ble_eq_true rfl) (fun p l e R s m args below meth c D ad cI cB A Q X hQ => ?_)
  have X : Cx p R s m args meth c jR3 prog_10_method_7_code 2 1 D ad cI cB A 0 0 := X
  have hQ := hQ.pure
  have h : wpO (Sh_hasSuit σ k a0) (fun q => q = r) := ⟨_, h, rfl⟩
  rw [Sh_hasSuit] at h
  refine V_sub (lv' := [(0, Value.ref (ad k)), (1, Value.int a0)]) [0, 1] rfl ?_
  refine V_iload_n X 1 d_Sh_hasSuit_0 rfl ?_
  refine V_if_lt X 16 d_Sh_hasSuit_1 (by decide) h (fun c1 h => ?_) (fun c1 h => ?_)
  · skip
    refine V_iconst (v := 0) X d_Sh_hasSuit_16 (by decide) ?_
    have h9 := wp_some h
    exact hQ _ h9 (fun _ => by decide) _ _ d_Sh_hasSuit_17
  · skip
    refine V_iload_n X 1 d_Sh_hasSuit_4 rfl ?_
    refine V_aload_n X 0 d_Sh_hasSuit_5 rfl ?_
    refine V_getI X 3 1 rfl ji3 (by decide) (by decide) (by decide) fl_Sh_52 d_Sh_hasSuit_6 hl_k hc_k (by decide) ?_
    refine V_icmp_ge X 16 d_Sh_hasSuit_9 (by decide) h (fun c2 h => ?_) (fun c2 h => ?_)
    · skip
      refine V_iconst (v := 0) X d_Sh_hasSuit_16 (by decide) ?_
      have h9 := wp_some h
      exact hQ _ h9 (fun _ => by decide) _ _ d_Sh_hasSuit_17
    · skip
      refine V_iconst (v := 1) X d_Sh_hasSuit_12 (by decide) ?_
      refine V_goto X 17 d_Sh_hasSuit_13 (by decide) ?_
      have h9 := wp_some h
      exact hQ _ h9 (fun _ => by decide) _ _ d_Sh_hasSuit_17
set_option maxHeartbeats 4000000 in
set_option maxRecDepth 100000 in
theorem k_Rw_at (σ : Sg) (k : Nat) (hl_k : k < 93) (hc_k : jv_cls k = 9) (a0 : Int32) (r : Int32) (h : Rw_at σ k a0 = some r) : Evc y_Rw_at prog_9_method_2_code 2 (some .int) 1 (fun ad => [Value.ref (ad k), Value.int a0]) σ σ (fun _ => some (.int r)) := by
  refine Evc_ofI (by decide) (fun ad => Nat.le_of_ble_eq_true rfl) (fun p l e R s m args below meth c D ad cI cB A Q X hQ => ?_)
  have X : Cx p R s m args meth c jR9 prog_9_method_2_code 2 1 D ad cI cB A 0 0 := X
  have hQ := hQ.pure
  have h : wpO (Rw_at σ k a0) (fun q => q = r) := ⟨_, h, rfl⟩
  rw [Rw_at] at h
  refine V_sub (lv' := [(0, Value.ref (ad k)), (1, Value.int a0)]) [0, 1] rfl ?_
  refine V_iload_n X 1 d_Rw_at_0 rfl ?_
  refine V_if_lt X 22 d_Rw_at_1 (by decide) h (fun c1 h => ?_) (fun c1 h => ?_)
  · skip
    refine V_iconst (v := 0) X d_Rw_at_22 (by decide) ?_
    have h9 := wp_some h
    exact hQ _ h9 (fun h9 => absurd h9 (by decide)) _ _ d_Rw_at_23
  · skip
    refine V_iload_n X 1 d_Rw_at_4 rfl ?_
    refine V_aload_n X 0 d_Rw_at_5 rfl ?_
    refine V_getR X 9 0 (k + 1) rfl ji9 (by decide) (by decide) (by decide) fl_Rw_7 d_Rw_at_6 hl_k hc_k (by decide) (jl_row k hl_k hc_k).2.2 ?_
    refine V_alen X d_Rw_at_9 (jl_row k hl_k hc_k).1 (jl_row k hl_k hc_k).2.1 rfl ?_
    refine V_icmp_ge X 22 d_Rw_at_10 (by decide) h (fun c2 h => ?_) (fun c2 h => ?_)
    · skip
      refine V_iconst (v := 0) X d_Rw_at_22 (by decide) ?_
      have h9 := wp_some h
      exact hQ _ h9 (fun h9 => absurd h9 (by decide)) _ _ d_Rw_at_23
    · skip
      refine V_aload_n X 0 d_Rw_at_13 rfl ?_
      refine V_getR X 9 0 (k + 1) rfl ji9 (by decide) (by decide) (by decide) fl_Rw_7 d_Rw_at_14 hl_k hc_k (by decide) (jl_row k hl_k hc_k).2.2 ?_
      refine V_iload_n X 1 d_Rw_at_17 rfl ?_
      refine V_iald X d_Rw_at_18 (jl_row k hl_k hc_k).1 (jl_row k hl_k hc_k).2.1 rfl h (fun h => ?_)
      refine V_goto X 23 d_Rw_at_19 (by decide) ?_
      have h9 := wp_some h
      exact hQ _ h9 (fun h9 => absurd h9 (by decide)) _ _ d_Rw_at_23
set_option maxHeartbeats 4000000 in
set_option maxRecDepth 100000 in
theorem k_Sh_isOfKind (σ : Sg) (k : Nat) (hl_k : k < 93) (hc_k : jv_cls k = 3) (a0 : Int32) (a1 : Int32) (r : Int32) (h : Sh_isOfKind σ k a0 a1 = some r) : Evc y_Sh_isOfKind prog_10_method_23_code 4 (some .boolean) 2 (fun ad => [Value.ref (ad k), Value.int a0, Value.int a1]) σ σ (fun _ => some (.int r)) := by
  refine Evc_ofZ (by decide) (fun ad => Nat.le_of_ble_eq_true rfl) (fun p l e R s m args below meth c D ad cI cB A Q X hQ => ?_)
  have X : Cx p R s m args meth c jR3 prog_10_method_23_code 4 2 D ad cI cB A 0 0 := X
  have hQ := hQ.pure
  have h : wpO (Sh_isOfKind σ k a0 a1) (fun q => q = r) := ⟨_, h, rfl⟩
  rw [Sh_isOfKind] at h
  refine V_sub (lv' := [(0, Value.ref (ad k)), (1, Value.int a0), (2, Value.int a1)]) [0, 1, 2] rfl ?_
  refine V_aload_n X 0 d_Sh_isOfKind_0 rfl ?_
  refine V_getR X 3 4 (k + 5) rfl ji3 (by decide) (by decide) (by decide) fl_Sh_23 d_Sh_isOfKind_1 hl_k hc_k (by decide) (jl_sh4 k hl_k hc_k).2.2 ?_
  refine V_iload_n X 1 d_Sh_isOfKind_4 rfl ?_
  refine V_cI X h (fun r1 q => C_V (q := 9) X [Value.int a0] mt_Rw_at ms_Rw_at ml_Sh_71 (k_Rw_at σ (k + 5) (jl_sh4 k hl_k hc_k).1 (jl_sh4 k hl_k hc_k).2.1 a0 r1 q) rfl rfl (by omega) (Nat.le_of_ble_eq_true rfl) rfl (jl_sh4 k hl_k hc_k).1 (jl_sh4 k hl_k hc_k).2.1 (by decide) d_Sh_isOfKind_5) (fun r1 h => ?_)
  refine V_istore_n X [(3, Value.int r1), (0, Value.ref (ad k)), (1, Value.int a0), (2, Value.int a1)] d_Sh_isOfKind_8 (by decide) rfl ?_
  refine V_iload_n X 3 d_Sh_isOfKind_9 rfl ?_
  refine V_if_eq X 28 d_Sh_isOfKind_10 (by decide) h (fun c2 h => ?_) (fun c2 h => ?_)
  · skip
    refine V_iconst (v := 1) X d_Sh_isOfKind_28 (by decide) ?_
    refine V_goto X 33 d_Sh_isOfKind_29 (by decide) ?_
    have h9 := wp_some h
    exact hQ _ h9 (fun _ => by decide) _ _ d_Sh_isOfKind_33
  · skip
    refine V_iload_n X 0 d_Sh_isOfKind_13 rfl ?_
    refine V_iload_n X 3 d_Sh_isOfKind_14 rfl ?_
    refine V_icmp_eq X 28 d_Sh_isOfKind_15 (by decide) h (fun c3 h => ?_) (fun c3 h => ?_)
    · skip
      refine V_iconst (v := 1) X d_Sh_isOfKind_28 (by decide) ?_
      refine V_goto X 33 d_Sh_isOfKind_29 (by decide) ?_
      have h9 := wp_some h
      exact hQ _ h9 (fun _ => by decide) _ _ d_Sh_isOfKind_33
    · skip
      refine V_iload_n X 3 d_Sh_isOfKind_18 rfl ?_
      refine V_iconst (v := 1) X d_Sh_isOfKind_19 (by decide) ?_
      refine V_icmp_ne X 32 d_Sh_isOfKind_20 (by decide) h (fun c4 h => ?_) (fun c4 h => ?_)
      · skip
        refine V_iconst (v := 0) X d_Sh_isOfKind_32 (by decide) ?_
        have h9 := wp_some h
        exact hQ _ h9 (fun _ => by decide) _ _ d_Sh_isOfKind_33
      · skip
        refine V_iload_n X 0 d_Sh_isOfKind_23 rfl ?_
        refine V_iconst (v := 4) X d_Sh_isOfKind_24 (by decide) ?_
        refine V_icmp_ne X 32 d_Sh_isOfKind_25 (by decide) h (fun c5 h => ?_) (fun c5 h => ?_)
        · skip
          refine V_iconst (v := 0) X d_Sh_isOfKind_32 (by decide) ?_
          have h9 := wp_some h
          exact hQ _ h9 (fun _ => by decide) _ _ d_Sh_isOfKind_33
        · skip
          refine V_iconst (v := 1) X d_Sh_isOfKind_28 (by decide) ?_
          refine V_goto X 33 d_Sh_isOfKind_29 (by decide) ?_
          have h9 := wp_some h
          exact hQ _ h9 (fun _ => by decide) _ _ d_Sh_isOfKind_33
set_option maxHeartbeats 4000000 in
set_option maxRecDepth 100000 in
theorem k_Co_as (σ : Sg) (a0 : Int32) (a1 : Int32) (r : Int32) (h : Co_as σ a0 a1 = some r) : Evc y_Co_as prog_1_method_8_code 3 (some .int) 3 (fun ad => [Value.ref (ad 0), Value.int a0, Value.int a1]) σ σ (fun _ => some (.int r)) := by
  refine Evc_ofI (by decide) (fun ad => Nat.le_of_ble_eq_true rfl) (fun p l e R s m args below meth c D ad cI cB A Q X hQ => ?_)
  have X : Cx p R s m args meth c jR0 prog_1_method_8_code 3 3 D ad cI cB A 0 0 := X
  have hQ := hQ.pure
  have h : wpO (Co_as σ a0 a1) (fun q => q = r) := ⟨_, h, rfl⟩
  rw [Co_as] at h
  refine V_sub (lv' := [(0, Value.ref (ad 0)), (1, Value.int a0), (2, Value.int a1)]) [0, 1, 2] rfl ?_
  refine V_aload_n X 0 d_Co_as_0 rfl ?_
  refine V_getR X 0 2 5 rfl ji0 (by decide) (by decide) (by decide) fl_Co_28 d_Co_as_1 (by decide) (by decide) (by decide) (by decide) ?_
  refine V_iload_n X 1 d_Co_as_4 rfl ?_
  refine V_cI X h (fun r1 q => C_V (q := 3) X [Value.int a0] mt_Sh_hasSuit ms_Sh_hasSuit ml_Co_111 (k_Sh_hasSuit σ 5 (by decide) (by decide) a0 r1 q) rfl rfl (by omega) (Nat.le_of_ble_eq_true rfl) rfl (by decide) (by decide) (by decide) d_Co_as_5) (fun r1 h => ?_)
  refine V_if_ne X 14 d_Co_as_8 (by decide) h (fun c2 h => ?_) (fun c2 h => ?_)
  · skip
    refine V_iload_n X 2 d_Co_as_14 rfl ?_
    refine V_if_lt X 23 d_Co_as_15 (by decide) h (fun c3 h => ?_) (fun c3 h => ?_)
    · skip
      refine V_bipush (v := -102) X d_Co_as_23 (by decide) ?_
      have h9 := wp_some h
      exact hQ _ h9 (fun h9 => absurd h9 (by decide)) _ _ d_Co_as_25
    · skip
      refine V_iload_n X 2 d_Co_as_18 rfl ?_
      refine V_iconst (v := 4) X d_Co_as_19 (by decide) ?_
      refine V_icmp_le X 26 d_Co_as_20 (by decide) h (fun c4 h => ?_) (fun c4 h => ?_)
      · skip
        refine V_aload_n X 0 d_Co_as_26 rfl ?_
        refine V_getR X 0 2 5 rfl ji0 (by decide) (by decide) (by decide) fl_Co_28 d_Co_as_27 (by decide) (by decide) (by decide) (by decide) ?_
        refine V_iload_n X 1 d_Co_as_30 rfl ?_
        refine V_iload_n X 2 d_Co_as_31 rfl ?_
        refine V_cI X h (fun r5 q => C_V (q := 3) X [Value.int a0, Value.int a1] mt_Sh_isOfKind ms_Sh_isOfKind ml_Co_148 (k_Sh_isOfKind σ 5 (by decide) (by decide) a0 a1 r5 q) rfl rfl (by omega) (Nat.le_of_ble_eq_true rfl) rfl (by decide) (by decide) (by decide) d_Co_as_32) (fun r5 h => ?_)
        refine V_if_eq X 42 d_Co_as_35 (by decide) h (fun c6 h => ?_) (fun c6 h => ?_)
        · skip
          refine V_iconst (v := -1) X d_Co_as_42 (by decide) ?_
          have h9 := wp_some h
          exact hQ _ h9 (fun h9 => absurd h9 (by decide)) _ _ d_Co_as_43
        · skip
          refine V_iload_n X 1 d_Co_as_38 rfl ?_
          refine V_goto X 43 d_Co_as_39 (by decide) ?_
          have h9 := wp_some h
          exact hQ _ h9 (fun h9 => absurd h9 (by decide)) _ _ d_Co_as_43
      · skip
        refine V_bipush (v := -102) X d_Co_as_23 (by decide) ?_
        have h9 := wp_some h
        exact hQ _ h9 (fun h9 => absurd h9 (by decide)) _ _ d_Co_as_25
  · skip
    refine V_bipush (v := -101) X d_Co_as_11 (by decide) ?_
    have h9 := wp_some h
    exact hQ _ h9 (fun h9 => absurd h9 (by decide)) _ _ d_Co_as_13
set_option maxHeartbeats 4000000 in
set_option maxRecDepth 100000 in
theorem k_Sh_hasTree (σ : Sg) (k : Nat) (hl_k : k < 93) (hc_k : jv_cls k = 3) (a0 : Int32) (r : Int32) (h : Sh_hasTree σ k a0 = some r) : Evc y_Sh_hasTree prog_10_method_6_code 2 (some .boolean) 1 (fun ad => [Value.ref (ad k), Value.int a0]) σ σ (fun _ => some (.int r)) := by
  refine Evc_ofZ (by decide) (fun ad => Nat.le_of_ble_eq_true rfl) (fun p l e R s m args below meth c D ad cI cB A Q X hQ => ?_)
  have X : Cx p R s m args meth c jR3 prog_10_method_6_code 2 1 D ad cI cB A 0 0 := X
  have hQ := hQ.pure
  have h : wpO (Sh_hasTree σ k a0) (fun q => q = r) := ⟨_, h, rfl⟩
  rw [Sh_hasTree] at h
  refine V_sub (lv' := [(0, Value.ref (ad k)), (1, Value.int a0)]) [0, 1] rfl ?_
  refine V_iload_n X 1 d_Sh_hasTree_0 rfl ?_
  refine V_if_lt X 16 d_Sh_hasTree_1 (by decide) h (fun c1 h => ?_) (fun c1 h => ?_)
  · skip
    refine V_iconst (v := 0) X d_Sh_hasTree_16 (by decide) ?_
    have h9 := wp_some h
    exact hQ _ h9 (fun _ => by decide) _ _ d_Sh_hasTree_17
  · skip
    refine V_iload_n X 1 d_Sh_hasTree_4 rfl ?_
    refine V_aload_n X 0 d_Sh_hasTree_5 rfl ?_
    refine V_getI X 3 0 rfl ji3 (by decide) (by decide) (by decide) fl_Sh_48 d_Sh_hasTree_6 hl_k hc_k (by decide) ?_
    refine V_icmp_ge X 16 d_Sh_hasTree_9 (by decide) h (fun c2 h => ?_) (fun c2 h => ?_)
    · skip
      refine V_iconst (v := 0) X d_Sh_hasTree_16 (by decide) ?_
      have h9 := wp_some h
      exact hQ _ h9 (fun _ => by decide) _ _ d_Sh_hasTree_17
    · skip
      refine V_iconst (v := 1) X d_Sh_hasTree_12 (by decide) ?_
      refine V_goto X 17 d_Sh_hasTree_13 (by decide) ?_
      have h9 := wp_some h
      exact hQ _ h9 (fun _ => by decide) _ _ d_Sh_hasTree_17
set_option maxHeartbeats 4000000 in
set_option maxRecDepth 100000 in
theorem k_Sh_birdsAt (σ : Sg) (k : Nat) (hl_k : k < 93) (hc_k : jv_cls k = 3) (a0 : Int32) (r : Int32) (h : Sh_birdsAt σ k a0 = some r) : Evc y_Sh_birdsAt prog_10_method_15_code 2 (some .int) 2 (fun ad => [Value.ref (ad k), Value.int a0]) σ σ (fun _ => some (.int r)) := by
  refine Evc_ofI (by decide) (fun ad => Nat.le_of_ble_eq_true rfl) (fun p l e R s m args below meth c D ad cI cB A Q X hQ => ?_)
  have X : Cx p R s m args meth c jR3 prog_10_method_15_code 2 2 D ad cI cB A 0 0 := X
  have hQ := hQ.pure
  have h : wpO (Sh_birdsAt σ k a0) (fun q => q = r) := ⟨_, h, rfl⟩
  rw [Sh_birdsAt] at h
  refine V_sub (lv' := [(0, Value.ref (ad k)), (1, Value.int a0)]) [0, 1] rfl ?_
  refine V_aload_n X 0 d_Sh_birdsAt_0 rfl ?_
  refine V_getR X 3 3 (k + 3) rfl ji3 (by decide) (by decide) (by decide) fl_Sh_20 d_Sh_birdsAt_1 hl_k hc_k (by decide) (jl_sh3 k hl_k hc_k).2.2 ?_
  refine V_iload_n X 1 d_Sh_birdsAt_4 rfl ?_
  refine V_cI X h (fun r1 q => C_V (q := 9) X [Value.int a0] mt_Rw_at ms_Rw_at ml_Sh_71 (k_Rw_at σ (k + 3) (jl_sh3 k hl_k hc_k).1 (jl_sh3 k hl_k hc_k).2.1 a0 r1 q) rfl rfl (by omega) (Nat.le_of_ble_eq_true rfl) rfl (jl_sh3 k hl_k hc_k).1 (jl_sh3 k hl_k hc_k).2.1 (by decide) d_Sh_birdsAt_5) (fun r1 h => ?_)
  have h9 := wp_some h
  exact hQ _ h9 (fun h9 => absurd h9 (by decide)) _ _ d_Sh_birdsAt_8
set_option maxHeartbeats 4000000 in
set_option maxRecDepth 100000 in
theorem k_Rw_put (σ : Sg) (k : Nat) (hl_k : k < 93) (hc_k : jv_cls k = 9) (a0 : Int32) (a1 : Int32) (σ' : Sg) (h : Rw_put σ k a0 a1 = some σ') : Evc y_Rw_put prog_9_method_3_code 3 (none) 1 (fun ad => [Value.ref (ad k), Value.int a0, Value.int a1]) σ σ' (fun _ => none) := by
  refine Evc_ofV (by decide) (fun ad => Nat.le_of_ble_eq_true rfl) (fun p l e R s m args below meth c D ad cI cB A Q X hQ => ?_)
  have X : Cx p R s m args meth c jR9 prog_9_method_3_code 3 1 D ad cI cB A 0 0 := X
  have h : wpO (Rw_put σ k a0 a1) (fun q => q = σ') := ⟨_, h, rfl⟩
  rw [Rw_put] at h
  refine V_sub (lv' := [(0, Value.ref (ad k)), (1, Value.int a0), (2, Value.int a1)]) [0, 1, 2] rfl ?_
  refine V_iload_n X 1 d_Rw_put_0 rfl ?_
  refine V_if_lt X 20 d_Rw_put_1 (by decide) h (fun c1 h => ?_) (fun c1 h => ?_)
  · skip
    have h9 := wp_some h
    exact hQ _ h9 _ _ d_Rw_put_20
  · skip
    refine V_iload_n X 1 d_Rw_put_4 rfl ?_
    refine V_aload_n X 0 d_Rw_put_5 rfl ?_
    refine V_getR X 9 0 (k + 1) rfl ji9 (by decide) (by decide) (by decide) fl_Rw_7 d_Rw_put_6 hl_k hc_k (by decide) (jl_row k hl_k hc_k).2.2 ?_
    refine V_alen X d_Rw_put_9 (jl_row k hl_k hc_k).1 (jl_row k hl_k hc_k).2.1 rfl ?_
    refine V_icmp_ge X 20 d_Rw_put_10 (by decide) h (fun c2 h => ?_) (fun c2 h => ?_)
    · skip
      have h9 := wp_some h
      exact hQ _ h9 _ _ d_Rw_put_20
    · skip
      refine V_aload_n X 0 d_Rw_put_13 rfl ?_
      refine V_getR X 9 0 (k + 1) rfl ji9 (by decide) (by decide) (by decide) fl_Rw_7 d_Rw_put_14 hl_k hc_k (by decide) (jl_row k hl_k hc_k).2.2 ?_
      refine V_iload_n X 1 d_Rw_put_17 rfl ?_
      refine V_iload_n X 2 d_Rw_put_18 rfl ?_
      refine V_iast X d_Rw_put_19 (jl_row k hl_k hc_k).1 (jl_row k hl_k hc_k).2.1 rfl h (fun h => ?_)
      have h9 := wp_some h
      exact hQ _ h9 _ _ d_Rw_put_20
set_option maxHeartbeats 4000000 in
set_option maxRecDepth 100000 in
theorem k_Sh_setBirds (σ : Sg) (k : Nat) (hl_k : k < 93) (hc_k : jv_cls k = 3) (a0 : Int32) (a1 : Int32) (σ' : Sg) (h : Sh_setBirds σ k a0 a1 = some σ') : Evc y_Sh_setBirds prog_10_method_36_code 3 (none) 2 (fun ad => [Value.ref (ad k), Value.int a0, Value.int a1]) σ σ' (fun _ => none) := by
  refine Evc_ofV (by decide) (fun ad => Nat.le_of_ble_eq_true rfl) (fun p l e R s m args below meth c D ad cI cB A Q X hQ => ?_)
  have X : Cx p R s m args meth c jR3 prog_10_method_36_code 3 2 D ad cI cB A 0 0 := X
  have h : wpO (Sh_setBirds σ k a0 a1) (fun q => q = σ') := ⟨_, h, rfl⟩
  rw [Sh_setBirds] at h
  refine V_sub (lv' := [(0, Value.ref (ad k)), (1, Value.int a0), (2, Value.int a1)]) [0, 1, 2] rfl ?_
  refine V_aload_n X 0 d_Sh_setBirds_0 rfl ?_
  refine V_getR X 3 3 (k + 3) rfl ji3 (by decide) (by decide) (by decide) fl_Sh_20 d_Sh_setBirds_1 hl_k hc_k (by decide) (jl_sh3 k hl_k hc_k).2.2 ?_
  refine V_iload_n X 1 d_Sh_setBirds_4 rfl ?_
  refine V_iload_n X 2 d_Sh_setBirds_5 rfl ?_
  refine V_cV X h (fun s1 q => C_V (q := 9) X [Value.int a0, Value.int a1] mt_Rw_put ms_Rw_put ml_Sh_67 (k_Rw_put σ (k + 3) (jl_sh3 k hl_k hc_k).1 (jl_sh3 k hl_k hc_k).2.1 a0 a1 s1 q) rfl rfl (by omega) (Nat.le_of_ble_eq_true rfl) rfl (jl_sh3 k hl_k hc_k).1 (jl_sh3 k hl_k hc_k).2.1 (by decide) d_Sh_setBirds_6) (fun s1 h => ?_)
  have h9 := wp_some h
  exact hQ _ h9 _ _ d_Sh_setBirds_9
set_option maxHeartbeats 4000000 in
set_option maxRecDepth 100000 in
theorem k_Co_birds (σ : Sg) (a0 : Int32) (a1 : Int32) (r : Int32) (σ' : Sg) (h : Co_birds σ a0 a1 = some (r, σ')) : Evc y_Co_birds prog_1_method_11_code 4 (some .int) 3 (fun ad => [Value.ref (ad 0), Value.int a0, Value.int a1]) σ σ' (fun _ => some (.int r)) := by
  refine Evc_ofI (by decide) (fun ad => Nat.le_of_ble_eq_true rfl) (fun p l e R s m args below meth c D ad cI cB A Q X hQ => ?_)
  have X : Cx p R s m args meth c jR0 prog_1_method_11_code 4 3 D ad cI cB A 0 0 := X
  have h : wpO (Co_birds σ a0 a1) (fun q => q = (r, σ')) := ⟨_, h, rfl⟩
  rw [Co_birds] at h
  refine V_sub (lv' := [(0, Value.ref (ad 0)), (1, Value.int a0), (2, Value.int a1)]) [0, 1, 2] rfl ?_
  refine V_aload_n X 0 d_Co_birds_0 rfl ?_
  refine V_getR X 0 2 5 rfl ji0 (by decide) (by decide) (by decide) fl_Co_28 d_Co_birds_1 (by decide) (by decide) (by decide) (by decide) ?_
  refine V_iload_n X 1 d_Co_birds_4 rfl ?_
  refine V_cI X h (fun r1 q => C_V (q := 3) X [Value.int a0] mt_Sh_hasTree ms_Sh_hasTree ml_Co_97 (k_Sh_hasTree σ 5 (by decide) (by decide) a0 r1 q) rfl rfl (by omega) (Nat.le_of_ble_eq_true rfl) rfl (by decide) (by decide) (by decide) d_Co_birds_5) (fun r1 h => ?_)
  refine V_if_ne X 14 d_Co_birds_8 (by decide) h (fun c2 h => ?_) (fun c2 h => ?_)
  · skip
    refine V_iload_n X 2 d_Co_birds_14 rfl ?_
    refine V_if_lt X 24 d_Co_birds_15 (by decide) h (fun c3 h => ?_) (fun c3 h => ?_)
    · skip
      refine V_bipush (v := -102) X d_Co_birds_24 (by decide) ?_
      have h9 := wp_some h
      exact hQ _ _ h9 (fun h9 => absurd h9 (by decide)) _ _ d_Co_birds_26
    · skip
      refine V_iload_n X 2 d_Co_birds_18 rfl ?_
      refine V_bipush (v := 9) X d_Co_birds_19 (by decide) ?_
      refine V_icmp_le X 27 d_Co_birds_21 (by decide) h (fun c4 h => ?_) (fun c4 h => ?_)
      · skip
        refine V_aload_n X 0 d_Co_birds_27 rfl ?_
        refine V_getR X 0 2 5 rfl ji0 (by decide) (by decide) (by decide) fl_Co_28 d_Co_birds_28 (by decide) (by decide) (by decide) (by decide) ?_
        refine V_iload_n X 1 d_Co_birds_31 rfl ?_
        refine V_cI X h (fun r5 q => C_V (q := 3) X [Value.int a0] mt_Sh_birdsAt ms_Sh_birdsAt ml_Co_105 (k_Sh_birdsAt σ 5 (by decide) (by decide) a0 r5 q) rfl rfl (by omega) (Nat.le_of_ble_eq_true rfl) rfl (by decide) (by decide) (by decide) d_Co_birds_32) (fun r5 h => ?_)
        refine V_istore_n X [(3, Value.int r5), (0, Value.ref (ad 0)), (1, Value.int a0), (2, Value.int a1)] d_Co_birds_35 (by decide) rfl ?_
        refine V_aload_n X 1 d_Co_birds_36 rfl ?_
        refine V_getR X 0 2 5 rfl ji0 (by decide) (by decide) (by decide) fl_Co_28 d_Co_birds_37 (by decide) (by decide) (by decide) (by decide) ?_
        refine V_iload_n X 2 d_Co_birds_40 rfl ?_
        refine V_iload_n X 3 d_Co_birds_41 rfl ?_
        refine V_cV X h (fun s6 q => C_V (q := 3) X [Value.int a0, Value.int a1] mt_Sh_setBirds ms_Sh_setBirds ml_Co_170 (k_Sh_setBirds σ 5 (by decide) (by decide) a0 a1 s6 q) rfl rfl (by omega) (Nat.le_of_ble_eq_true rfl) rfl (by decide) (by decide) (by decide) d_Co_birds_42) (fun s6 h => ?_)
        refine V_iload_n X 0 d_Co_birds_45 rfl ?_
        have h9 := wp_some h
        exact hQ _ _ h9 (fun h9 => absurd h9 (by decide)) _ _ d_Co_birds_46
      · skip
        refine V_bipush (v := -102) X d_Co_birds_24 (by decide) ?_
        have h9 := wp_some h
        exact hQ _ _ h9 (fun h9 => absurd h9 (by decide)) _ _ d_Co_birds_26
  · skip
    refine V_bipush (v := -101) X d_Co_birds_11 (by decide) ?_
    have h9 := wp_some h
    exact hQ _ _ h9 (fun h9 => absurd h9 (by decide)) _ _ d_Co_birds_13
set_option maxHeartbeats 4000000 in
set_option maxRecDepth 100000 in
theorem k_Co_bit (σ : Sg) (a0 : Int32) (r : Int32) (h : Co_bit a0 = some r) : Evc y_Co_bit prog_1_method_26_code 1 (some .int) 1 (fun ad => [Value.int a0]) σ σ (fun _ => some (.int r)) := by
  refine Evc_ofI (by decide) (fun ad => Nat.le_of_ble_eq_true rfl) (fun p l e R s m args below meth c D ad cI cB A Q X hQ => ?_)
  have X : Cx p R s m args meth c jR0 prog_1_method_26_code 1 1 D ad cI cB A 0 0 := X
  have hQ := hQ.pure
  have h : wpO (Co_bit a0) (fun q => q = r) := ⟨_, h, rfl⟩
  rw [Co_bit] at h
  refine V_sub (lv' := [(0, Value.int a0)]) [0] rfl ?_
  refine V_iconst (v := 1) X d_Co_bit_0 (by decide) ?_
  refine V_iload_n X 0 d_Co_bit_1 rfl ?_
  refine V_ishl X d_Co_bit_2 ?_
  have h9 := wp_some h
  exact hQ _ h9 (fun h9 => absurd h9 (by decide)) _ _ d_Co_bit_3
set_option maxHeartbeats 4000000 in
set_option maxRecDepth 100000 in
theorem k_Co_isRead (σ : Sg) (r : Int32) (h : Co_isRead σ = some r) : Evc y_Co_isRead prog_1_method_25_code 1 (some .boolean) 1 (fun ad => [Value.ref (ad 0)]) σ σ (fun _ => some (.int r)) := by
  refine Evc_ofZ (by decide) (fun ad => Nat.le_of_ble_eq_true rfl) (fun p l e R s m args below meth c D ad cI cB A Q X hQ => ?_)
  have X : Cx p R s m args meth c jR0 prog_1_method_25_code 1 1 D ad cI cB A 0 0 := X
  have hQ := hQ.pure
  have h : wpO (Co_isRead σ) (fun q => q = r) := ⟨_, h, rfl⟩
  rw [Co_isRead] at h
  refine V_sub (lv' := [(0, Value.ref (ad 0))]) [0] rfl ?_
  refine V_aload_n X 0 d_Co_isRead_0 rfl ?_
  refine V_getI X 0 9 rfl ji0 (by decide) (by decide) (by decide) fl_Co_90 d_Co_isRead_1 (by decide) (by decide) (by decide) ?_
  refine V_if_le X 11 d_Co_isRead_4 (by decide) h (fun c1 h => ?_) (fun c1 h => ?_)
  · skip
    refine V_iconst (v := 0) X d_Co_isRead_11 (by decide) ?_
    have h9 := wp_some h
    exact hQ _ h9 (fun _ => by decide) _ _ d_Co_isRead_12
  · skip
    refine V_iconst (v := 1) X d_Co_isRead_7 (by decide) ?_
    refine V_goto X 12 d_Co_isRead_8 (by decide) ?_
    have h9 := wp_some h
    exact hQ _ h9 (fun _ => by decide) _ _ d_Co_isRead_12
set_option maxHeartbeats 4000000 in
set_option maxRecDepth 100000 in
theorem Rw_copyFrom_L7_ok {p : Program} {l : Launch} {e : Env} {R : Room} {s : State} {m : MethodId} {args : Array Value} {below : List Frame} {meth : Method} {c : Code} {D : va_G} {ad : Nat → Nat} {cI cB : ClassId} {A : Nat → Prop} {cells slots : Nat} {Q : State → Prop} (X : Cx p R s m args meth c jR9 prog_9_method_4_code 3 2 D ad cI cB A cells slots) (fu : Nat) (k : Nat) (hl_k : k < 93) (hc_k : jv_cls k = 9) (q0 : Nat) (hl_q0 : q0 < 93) (hc_q0 : jv_cls q0 = 9) (kont : (Int32 → Sg → Option Sg)) {K : Sg → Prop} (hQ : RV p l e R s m args below meth c 3 D ad cI cB A cells slots Q prog_9_method_4_code K) (hk : ∀ (l2 : Int32) (σ : Sg), wpO (kont l2 σ) K → V p l e R s m args below meth c 3 D A cells slots Q (wl ad cI cB σ) 33 [(0, Value.ref (ad k)), (1, Value.ref (ad q0)), (2, Value.int l2)] []) : ∀ (n : Nat) (l2 : Int32) (σ : Sg), wpO (Rw_copyFrom_L7 fu k q0 kont n l2 σ) K → V p l e R s m args below meth c 3 D A cells slots Q (wl ad cI cB σ) 7 [(0, Value.ref (ad k)), (1, Value.ref (ad q0)), (2, Value.int l2)] [] := by
  intro n
  induction n with
  | zero =>
    intro l2 σ h
    exact (wp_none h).elim
  | succ n ih =>
    intro l2 σ h
    rw [Rw_copyFrom_L7] at h
    refine V_iload_n X 2 d_Rw_copyFrom_7 rfl ?_
    refine V_aload_n X 0 d_Rw_copyFrom_8 rfl ?_
    refine V_getR X 9 0 (k + 1) rfl ji9 (by decide) (by decide) (by decide) fl_Rw_7 d_Rw_copyFrom_9 hl_k hc_k (by decide) (jl_row k hl_k hc_k).2.2 ?_
    refine V_alen X d_Rw_copyFrom_12 (jl_row k hl_k hc_k).1 (jl_row k hl_k hc_k).2.1 rfl ?_
    refine V_icmp_ge X 33 d_Rw_copyFrom_13 (by decide) h (fun c1 h => ?_) (fun c1 h => ?_)
    · skip
      exact hk l2 σ h
    · skip
      refine V_aload_n X 0 d_Rw_copyFrom_16 rfl ?_
      refine V_getR X 9 0 (k + 1) rfl ji9 (by decide) (by decide) (by decide) fl_Rw_7 d_Rw_copyFrom_17 hl_k hc_k (by decide) (jl_row k hl_k hc_k).2.2 ?_
      refine V_iload_n X 2 d_Rw_copyFrom_20 rfl ?_
      refine V_aload_n X 1 d_Rw_copyFrom_21 rfl ?_
      refine V_iload_n X 2 d_Rw_copyFrom_22 rfl ?_
      refine V_cI X h (fun r2 q => C_V (q := 9) X [Value.int l2] mt_Rw_at ms_Rw_at ml_Rw_13 (k_Rw_at σ q0 hl_q0 hc_q0 l2 r2 q) rfl rfl (by omega) (Nat.le_of_ble_eq_true rfl) rfl hl_q0 hc_q0 (by decide) d_Rw_copyFrom_23) (fun r2 h => ?_)
      refine V_iast X d_Rw_copyFrom_26 (jl_row k hl_k hc_k).1 (jl_row k hl_k hc_k).2.1 rfl h (fun h => ?_)
      refine V_iinc X 2 (l2 + (1 : Int32)) [(2, Value.int (l2 + (1 : Int32))), (0, Value.ref (ad k)), (1, Value.ref (ad q0))] d_Rw_copyFrom_27 rfl (by first | rfl | decide) (by decide) rfl ?_
      refine V_goto X 7 d_Rw_copyFrom_30 (by decide) ?_
      refine V_sub (lv' := [(0, Value.ref (ad k)), (1, Value.ref (ad q0)), (2, Value.int (l2 + (1 : Int32)))]) [1, 2, 0] rfl ?_
      exact ih (l2 + (1 : Int32)) (sA σ (k + 1) (ix l2) r2) h
set_option maxHeartbeats 4000000 in
set_option maxRecDepth 100000 in
theorem k_Rw_copyFrom (fu : Nat) (σ : Sg) (k : Nat) (hl_k : k < 93) (hc_k : jv_cls k = 9) (q0 : Nat) (hl_q0 : q0 < 93) (hc_q0 : jv_cls q0 = 9) (σ' : Sg) (h : Rw_copyFrom fu σ k q0 = some σ') : Evc y_Rw_copyFrom prog_9_method_4_code 3 (none) 2 (fun ad => [Value.ref (ad k), Value.ref (ad q0)]) σ σ' (fun _ => none) := by
  refine Evc_ofV (by decide) (fun ad => Nat.le_of_ble_eq_true rfl) (fun p l e R s m args below meth c D ad cI cB A Q X hQ => ?_)
  have X : Cx p R s m args meth c jR9 prog_9_method_4_code 3 2 D ad cI cB A 0 0 := X
  have h : wpO (Rw_copyFrom fu σ k q0) (fun q => q = σ') := ⟨_, h, rfl⟩
  rw [Rw_copyFrom] at h
  refine V_sub (lv' := [(0, Value.ref (ad k)), (1, Value.ref (ad q0))]) [0, 1] rfl ?_
  refine V_aload_n X 1 d_Rw_copyFrom_0 rfl ?_
  refine V_ifnonnull X 5 d_Rw_copyFrom_1 (by decide) ?_
  refine V_iconst (v := 0) X d_Rw_copyFrom_5 (by decide) ?_
  refine V_istore_n X [(2, Value.int (0 : Int32)), (0, Value.ref (ad k)), (1, Value.ref (ad q0))] d_Rw_copyFrom_6 (by decide) rfl ?_
  refine V_sub (lv' := [(0, Value.ref (ad k)), (1, Value.ref (ad q0)), (2, Value.int (0 : Int32))]) [1, 2, 0] rfl ?_
  refine Rw_copyFrom_L7_ok X fu k hl_k hc_k q0 hl_q0 hc_q0 _ hQ (fun l2_3 s4 h => ?_) fu (0 : Int32) σ h
  have h9 := wp_some h
  exact hQ _ h9 _ _ d_Rw_copyFrom_33
set_option maxHeartbeats 4000000 in
set_option maxRecDepth 100000 in
theorem k_Si_copyFrom (fu : Nat) (σ : Sg) (k : Nat) (hl_k : k < 93) (hc_k : jv_cls k = 4) (q0 : Nat) (hl_q0 : q0 < 93) (hc_q0 : jv_cls q0 = 4) (σ' : Sg) (h : Si_copyFrom fu σ k q0 = some σ') : Evc y_Si_copyFrom prog_11_method_5_code 2 (none) 3 (fun ad => [Value.ref (ad k), Value.ref (ad q0)]) σ σ' (fun _ => none) := by
  refine Evc_ofV (by decide) (fun ad => Nat.le_of_ble_eq_true rfl) (fun p l e R s m args below meth c D ad cI cB A Q X hQ => ?_)
  have X : Cx p R s m args meth c jR4 prog_11_method_5_code 2 3 D ad cI cB A 0 0 := X
  have h : wpO (Si_copyFrom fu σ k q0) (fun q => q = σ') := ⟨_, h, rfl⟩
  rw [Si_copyFrom] at h
  refine V_sub (lv' := [(0, Value.ref (ad k)), (1, Value.ref (ad q0))]) [0, 1] rfl ?_
  refine V_aload_n X 1 d_Si_copyFrom_0 rfl ?_
  refine V_ifnonnull X 5 d_Si_copyFrom_1 (by decide) ?_
  refine V_aload_n X 0 d_Si_copyFrom_5 rfl ?_
  refine V_getR X 4 0 (k + 1) rfl ji4 (by decide) (by decide) (by decide) fl_Si_14 d_Si_copyFrom_6 hl_k hc_k (by decide) (jl_si0 k hl_k hc_k).2.2 ?_
  refine V_aload_n X 1 d_Si_copyFrom_9 rfl ?_
  refine V_getR X 4 0 (q0 + 1) rfl ji4 (by decide) (by decide) (by decide) fl_Si_14 d_Si_copyFrom_10 hl_q0 hc_q0 (by decide) (jl_si0 q0 hl_q0 hc_q0).2.2 ?_
  refine V_cV X h (fun s1 q => C_V (q := 9) X [Value.ref (ad (q0 + 1))] mt_Rw_copyFrom ms_Rw_copyFrom ml_Si_34 (k_Rw_copyFrom fu σ (k + 1) (jl_si0 k hl_k hc_k).1 (jl_si0 k hl_k hc_k).2.1 (q0 + 1) (jl_si0 q0 hl_q0 hc_q0).1 (jl_si0 q0 hl_q0 hc_q0).2.1 s1 q) rfl rfl (by omega) (Nat.le_of_ble_eq_true rfl) rfl (jl_si0 k hl_k hc_k).1 (jl_si0 k hl_k hc_k).2.1 (by decide) d_Si_copyFrom_13) (fun s1 h => ?_)
  refine V_aload_n X 0 d_Si_copyFrom_16 rfl ?_
  refine V_getR X 4 1 (k + 3) rfl ji4 (by decide) (by decide) (by decide) fl_Si_20 d_Si_copyFrom_17 hl_k hc_k (by decide) (jl_si1 k hl_k hc_k).2.2 ?_
  refine V_aload_n X 1 d_Si_copyFrom_20 rfl ?_
  refine V_getR X 4 1 (q0 + 3) rfl ji4 (by decide) (by decide) (by decide) fl_Si_20 d_Si_copyFrom_21 hl_q0 hc_q0 (by decide) (jl_si1 q0 hl_q0 hc_q0).2.2 ?_
  refine V_cV X h (fun s2 q => C_V (q := 9) X [Value.ref (ad (q0 + 3))] mt_Rw_copyFrom ms_Rw_copyFrom ml_Si_34 (k_Rw_copyFrom fu s1 (k + 3) (jl_si1 k hl_k hc_k).1 (jl_si1 k hl_k hc_k).2.1 (q0 + 3) (jl_si1 q0 hl_q0 hc_q0).1 (jl_si1 q0 hl_q0 hc_q0).2.1 s2 q) rfl rfl (by omega) (Nat.le_of_ble_eq_true rfl) rfl (jl_si1 k hl_k hc_k).1 (jl_si1 k hl_k hc_k).2.1 (by decide) d_Si_copyFrom_24) (fun s2 h => ?_)
  refine V_aload_n X 0 d_Si_copyFrom_27 rfl ?_
  refine V_getR X 4 2 (k + 5) rfl ji4 (by decide) (by decide) (by decide) fl_Si_23 d_Si_copyFrom_28 hl_k hc_k (by decide) (jl_si2 k hl_k hc_k).2.2 ?_
  refine V_aload_n X 1 d_Si_copyFrom_31 rfl ?_
  refine V_getR X 4 2 (q0 + 5) rfl ji4 (by decide) (by decide) (by decide) fl_Si_23 d_Si_copyFrom_32 hl_q0 hc_q0 (by decide) (jl_si2 q0 hl_q0 hc_q0).2.2 ?_
  refine V_cV X h (fun s3 q => C_V (q := 9) X [Value.ref (ad (q0 + 5))] mt_Rw_copyFrom ms_Rw_copyFrom ml_Si_34 (k_Rw_copyFrom fu s2 (k + 5) (jl_si2 k hl_k hc_k).1 (jl_si2 k hl_k hc_k).2.1 (q0 + 5) (jl_si2 q0 hl_q0 hc_q0).1 (jl_si2 q0 hl_q0 hc_q0).2.1 s3 q) rfl rfl (by omega) (Nat.le_of_ble_eq_true rfl) rfl (jl_si2 k hl_k hc_k).1 (jl_si2 k hl_k hc_k).2.1 (by decide) d_Si_copyFrom_35) (fun s3 h => ?_)
  refine V_aload_n X 0 d_Si_copyFrom_38 rfl ?_
  refine V_aload_n X 1 d_Si_copyFrom_39 rfl ?_
  refine V_getI X 4 3 rfl ji4 (by decide) (by decide) (by decide) fl_Si_26 d_Si_copyFrom_40 hl_q0 hc_q0 (by decide) ?_
  refine V_putI X 4 3 rfl ji4 jk4 jn4 (by decide) (by decide) (by decide) rfl (by decide +kernel) fl_Si_26 d_Si_copyFrom_43 hl_k hc_k (by decide) ?_
  have h9 := wp_some h
  exact hQ _ h9 _ _ d_Si_copyFrom_46
set_option maxHeartbeats 4000000 in
set_option maxRecDepth 100000 in
theorem k_Sh_copyFrom (fu : Nat) (σ : Sg) (k : Nat) (hl_k : k < 93) (hc_k : jv_cls k = 3) (q0 : Nat) (hl_q0 : q0 < 93) (hc_q0 : jv_cls q0 = 3) (σ' : Sg) (h : Sh_copyFrom fu σ k q0 = some σ') : Evc y_Sh_copyFrom prog_10_method_5_code 2 (none) 4 (fun ad => [Value.ref (ad k), Value.ref (ad q0)]) σ σ' (fun _ => none) := by
  refine Evc_ofV (by decide) (fun ad => Nat.le_of_ble_eq_true rfl) (fun p l e R s m args below meth c D ad cI cB A Q X hQ => ?_)
  have X : Cx p R s m args meth c jR3 prog_10_method_5_code 2 4 D ad cI cB A 0 0 := X
  have h : wpO (Sh_copyFrom fu σ k q0) (fun q => q = σ') := ⟨_, h, rfl⟩
  rw [Sh_copyFrom] at h
  refine V_sub (lv' := [(0, Value.ref (ad k)), (1, Value.ref (ad q0))]) [0, 1] rfl ?_
  refine V_aload_n X 1 d_Sh_copyFrom_0 rfl ?_
  refine V_ifnonnull X 5 d_Sh_copyFrom_1 (by decide) ?_
  refine V_aload_n X 0 d_Sh_copyFrom_5 rfl ?_
  refine V_aload_n X 1 d_Sh_copyFrom_6 rfl ?_
  refine V_getI X 3 0 rfl ji3 (by decide) (by decide) (by decide) fl_Sh_48 d_Sh_copyFrom_7 hl_q0 hc_q0 (by decide) ?_
  refine V_putI X 3 0 rfl ji3 jk3 jn3 (by decide) (by decide) (by decide) rfl (by decide +kernel) fl_Sh_48 d_Sh_copyFrom_10 hl_k hc_k (by decide) ?_
  refine V_aload_n X 0 d_Sh_copyFrom_13 rfl ?_
  refine V_aload_n X 1 d_Sh_copyFrom_14 rfl ?_
  refine V_getI X 3 1 rfl ji3 (by decide) (by decide) (by decide) fl_Sh_52 d_Sh_copyFrom_15 hl_q0 hc_q0 (by decide) ?_
  refine V_putI X 3 1 rfl ji3 jk3 jn3 (by decide) (by decide) (by decide) rfl (by decide +kernel) fl_Sh_52 d_Sh_copyFrom_18 hl_k hc_k (by decide) ?_
  refine V_aload_n X 0 d_Sh_copyFrom_21 rfl ?_
  refine V_getR X 3 2 (k + 1) rfl ji3 (by decide) (by decide) (by decide) fl_Sh_14 d_Sh_copyFrom_22 hl_k hc_k (by decide) (jl_sh2 k hl_k hc_k).2.2 ?_
  refine V_aload_n X 1 d_Sh_copyFrom_25 rfl ?_
  refine V_getR X 3 2 (q0 + 1) rfl ji3 (by decide) (by decide) (by decide) fl_Sh_14 d_Sh_copyFrom_26 hl_q0 hc_q0 (by decide) (jl_sh2 q0 hl_q0 hc_q0).2.2 ?_
  refine V_cV X h (fun s1 q => C_V (q := 9) X [Value.ref (ad (q0 + 1))] mt_Rw_copyFrom ms_Rw_copyFrom ml_Sh_78 (k_Rw_copyFrom fu (sF (sF σ k 0 (gF σ q0 0)) k 1 (gF (sF σ k 0 (gF σ q0 0)) q0 1)) (k + 1) (jl_sh2 k hl_k hc_k).1 (jl_sh2 k hl_k hc_k).2.1 (q0 + 1) (jl_sh2 q0 hl_q0 hc_q0).1 (jl_sh2 q0 hl_q0 hc_q0).2.1 s1 q) rfl rfl (by omega) (Nat.le_of_ble_eq_true rfl) rfl (jl_sh2 k hl_k hc_k).1 (jl_sh2 k hl_k hc_k).2.1 (by decide) d_Sh_copyFrom_29) (fun s1 h => ?_)
  refine V_aload_n X 0 d_Sh_copyFrom_32 rfl ?_
  refine V_getR X 3 3 (k + 3) rfl ji3 (by decide) (by decide) (by decide) fl_Sh_20 d_Sh_copyFrom_33 hl_k hc_k (by decide) (jl_sh3 k hl_k hc_k).2.2 ?_
  refine V_aload_n X 1 d_Sh_copyFrom_36 rfl ?_
  refine V_getR X 3 3 (q0 + 3) rfl ji3 (by decide) (by decide) (by decide) fl_Sh_20 d_Sh_copyFrom_37 hl_q0 hc_q0 (by decide) (jl_sh3 q0 hl_q0 hc_q0).2.2 ?_
  refine V_cV X h (fun s2 q => C_V (q := 9) X [Value.ref (ad (q0 + 3))] mt_Rw_copyFrom ms_Rw_copyFrom ml_Sh_78 (k_Rw_copyFrom fu s1 (k + 3) (jl_sh3 k hl_k hc_k).1 (jl_sh3 k hl_k hc_k).2.1 (q0 + 3) (jl_sh3 q0 hl_q0 hc_q0).1 (jl_sh3 q0 hl_q0 hc_q0).2.1 s2 q) rfl rfl (by omega) (Nat.le_of_ble_eq_true rfl) rfl (jl_sh3 k hl_k hc_k).1 (jl_sh3 k hl_k hc_k).2.1 (by decide) d_Sh_copyFrom_40) (fun s2 h => ?_)
  refine V_aload_n X 0 d_Sh_copyFrom_43 rfl ?_
  refine V_getR X 3 4 (k + 5) rfl ji3 (by decide) (by decide) (by decide) fl_Sh_23 d_Sh_copyFrom_44 hl_k hc_k (by decide) (jl_sh4 k hl_k hc_k).2.2 ?_
  refine V_aload_n X 1 d_Sh_copyFrom_47 rfl ?_
  refine V_getR X 3 4 (q0 + 5) rfl ji3 (by decide) (by decide) (by decide) fl_Sh_23 d_Sh_copyFrom_48 hl_q0 hc_q0 (by decide) (jl_sh4 q0 hl_q0 hc_q0).2.2 ?_
  refine V_cV X h (fun s3 q => C_V (q := 9) X [Value.ref (ad (q0 + 5))] mt_Rw_copyFrom ms_Rw_copyFrom ml_Sh_78 (k_Rw_copyFrom fu s2 (k + 5) (jl_sh4 k hl_k hc_k).1 (jl_sh4 k hl_k hc_k).2.1 (q0 + 5) (jl_sh4 q0 hl_q0 hc_q0).1 (jl_sh4 q0 hl_q0 hc_q0).2.1 s3 q) rfl rfl (by omega) (Nat.le_of_ble_eq_true rfl) rfl (jl_sh4 k hl_k hc_k).1 (jl_sh4 k hl_k hc_k).2.1 (by decide) d_Sh_copyFrom_51) (fun s3 h => ?_)
  refine V_aload_n X 0 d_Sh_copyFrom_54 rfl ?_
  refine V_getR X 3 5 (k + 7) rfl ji3 (by decide) (by decide) (by decide) fl_Sh_26 d_Sh_copyFrom_55 hl_k hc_k (by decide) (jl_sh5 k hl_k hc_k).2.2 ?_
  refine V_aload_n X 1 d_Sh_copyFrom_58 rfl ?_
  refine V_getR X 3 5 (q0 + 7) rfl ji3 (by decide) (by decide) (by decide) fl_Sh_26 d_Sh_copyFrom_59 hl_q0 hc_q0 (by decide) (jl_sh5 q0 hl_q0 hc_q0).2.2 ?_
  refine V_cV X h (fun s4 q => C_V (q := 9) X [Value.ref (ad (q0 + 7))] mt_Rw_copyFrom ms_Rw_copyFrom ml_Sh_78 (k_Rw_copyFrom fu s3 (k + 7) (jl_sh5 k hl_k hc_k).1 (jl_sh5 k hl_k hc_k).2.1 (q0 + 7) (jl_sh5 q0 hl_q0 hc_q0).1 (jl_sh5 q0 hl_q0 hc_q0).2.1 s4 q) rfl rfl (by omega) (Nat.le_of_ble_eq_true rfl) rfl (jl_sh5 k hl_k hc_k).1 (jl_sh5 k hl_k hc_k).2.1 (by decide) d_Sh_copyFrom_62) (fun s4 h => ?_)
  refine V_aload_n X 0 d_Sh_copyFrom_65 rfl ?_
  refine V_getR X 3 6 (k + 9) rfl ji3 (by decide) (by decide) (by decide) fl_Sh_29 d_Sh_copyFrom_66 hl_k hc_k (by decide) (jl_sh6 k hl_k hc_k).2.2 ?_
  refine V_aload_n X 1 d_Sh_copyFrom_69 rfl ?_
  refine V_getR X 3 6 (q0 + 9) rfl ji3 (by decide) (by decide) (by decide) fl_Sh_29 d_Sh_copyFrom_70 hl_q0 hc_q0 (by decide) (jl_sh6 q0 hl_q0 hc_q0).2.2 ?_
  refine V_cV X h (fun s5 q => C_V (q := 9) X [Value.ref (ad (q0 + 9))] mt_Rw_copyFrom ms_Rw_copyFrom ml_Sh_78 (k_Rw_copyFrom fu s4 (k + 9) (jl_sh6 k hl_k hc_k).1 (jl_sh6 k hl_k hc_k).2.1 (q0 + 9) (jl_sh6 q0 hl_q0 hc_q0).1 (jl_sh6 q0 hl_q0 hc_q0).2.1 s5 q) rfl rfl (by omega) (Nat.le_of_ble_eq_true rfl) rfl (jl_sh6 k hl_k hc_k).1 (jl_sh6 k hl_k hc_k).2.1 (by decide) d_Sh_copyFrom_73) (fun s5 h => ?_)
  refine V_aload_n X 0 d_Sh_copyFrom_76 rfl ?_
  refine V_getR X 3 7 (k + 11) rfl ji3 (by decide) (by decide) (by decide) fl_Sh_32 d_Sh_copyFrom_77 hl_k hc_k (by decide) (jl_sh7 k hl_k hc_k).2.2 ?_
  refine V_aload_n X 1 d_Sh_copyFrom_80 rfl ?_
  refine V_getR X 3 7 (q0 + 11) rfl ji3 (by decide) (by decide) (by decide) fl_Sh_32 d_Sh_copyFrom_81 hl_q0 hc_q0 (by decide) (jl_sh7 q0 hl_q0 hc_q0).2.2 ?_
  refine V_cV X h (fun s6 q => C_V (q := 9) X [Value.ref (ad (q0 + 11))] mt_Rw_copyFrom ms_Rw_copyFrom ml_Sh_78 (k_Rw_copyFrom fu s5 (k + 11) (jl_sh7 k hl_k hc_k).1 (jl_sh7 k hl_k hc_k).2.1 (q0 + 11) (jl_sh7 q0 hl_q0 hc_q0).1 (jl_sh7 q0 hl_q0 hc_q0).2.1 s6 q) rfl rfl (by omega) (Nat.le_of_ble_eq_true rfl) rfl (jl_sh7 k hl_k hc_k).1 (jl_sh7 k hl_k hc_k).2.1 (by decide) d_Sh_copyFrom_84) (fun s6 h => ?_)
  refine V_aload_n X 0 d_Sh_copyFrom_87 rfl ?_
  refine V_getR X 3 8 (k + 13) rfl ji3 (by decide) (by decide) (by decide) fl_Sh_35 d_Sh_copyFrom_88 hl_k hc_k (by decide) (jl_sh8 k hl_k hc_k).2.2 ?_
  refine V_aload_n X 1 d_Sh_copyFrom_91 rfl ?_
  refine V_getR X 3 8 (q0 + 13) rfl ji3 (by decide) (by decide) (by decide) fl_Sh_35 d_Sh_copyFrom_92 hl_q0 hc_q0 (by decide) (jl_sh8 q0 hl_q0 hc_q0).2.2 ?_
  refine V_cV X h (fun s7 q => C_V (q := 9) X [Value.ref (ad (q0 + 13))] mt_Rw_copyFrom ms_Rw_copyFrom ml_Sh_78 (k_Rw_copyFrom fu s6 (k + 13) (jl_sh8 k hl_k hc_k).1 (jl_sh8 k hl_k hc_k).2.1 (q0 + 13) (jl_sh8 q0 hl_q0 hc_q0).1 (jl_sh8 q0 hl_q0 hc_q0).2.1 s7 q) rfl rfl (by omega) (Nat.le_of_ble_eq_true rfl) rfl (jl_sh8 k hl_k hc_k).1 (jl_sh8 k hl_k hc_k).2.1 (by decide) d_Sh_copyFrom_95) (fun s7 h => ?_)
  refine V_aload_n X 0 d_Sh_copyFrom_98 rfl ?_
  refine V_getR X 3 9 (k + 15) rfl ji3 (by decide) (by decide) (by decide) fl_Sh_38 d_Sh_copyFrom_99 hl_k hc_k (by decide) (jl_sh9 k hl_k hc_k).2.2 ?_
  refine V_aload_n X 1 d_Sh_copyFrom_102 rfl ?_
  refine V_getR X 3 9 (q0 + 15) rfl ji3 (by decide) (by decide) (by decide) fl_Sh_38 d_Sh_copyFrom_103 hl_q0 hc_q0 (by decide) (jl_sh9 q0 hl_q0 hc_q0).2.2 ?_
  refine V_cV X h (fun s8 q => C_V (q := 9) X [Value.ref (ad (q0 + 15))] mt_Rw_copyFrom ms_Rw_copyFrom ml_Sh_78 (k_Rw_copyFrom fu s7 (k + 15) (jl_sh9 k hl_k hc_k).1 (jl_sh9 k hl_k hc_k).2.1 (q0 + 15) (jl_sh9 q0 hl_q0 hc_q0).1 (jl_sh9 q0 hl_q0 hc_q0).2.1 s8 q) rfl rfl (by omega) (Nat.le_of_ble_eq_true rfl) rfl (jl_sh9 k hl_k hc_k).1 (jl_sh9 k hl_k hc_k).2.1 (by decide) d_Sh_copyFrom_106) (fun s8 h => ?_)
  refine V_aload_n X 0 d_Sh_copyFrom_109 rfl ?_
  refine V_getR X 3 10 (k + 17) rfl ji3 (by decide) (by decide) (by decide) fl_Sh_44 d_Sh_copyFrom_110 hl_k hc_k (by decide) (jl_sh10 k hl_k hc_k).2.2 ?_
  refine V_aload_n X 1 d_Sh_copyFrom_113 rfl ?_
  refine V_getR X 3 10 (q0 + 17) rfl ji3 (by decide) (by decide) (by decide) fl_Sh_44 d_Sh_copyFrom_114 hl_q0 hc_q0 (by decide) (jl_sh10 q0 hl_q0 hc_q0).2.2 ?_
  refine V_cV X h (fun s9 q => C_V (q := 4) X [Value.ref (ad (q0 + 17))] mt_Si_copyFrom ms_Si_copyFrom ml_Sh_82 (k_Si_copyFrom fu s8 (k + 17) (jl_sh10 k hl_k hc_k).1 (jl_sh10 k hl_k hc_k).2.1 (q0 + 17) (jl_sh10 q0 hl_q0 hc_q0).1 (jl_sh10 q0 hl_q0 hc_q0).2.1 s9 q) rfl rfl (by omega) (Nat.le_of_ble_eq_true rfl) rfl (jl_sh10 k hl_k hc_k).1 (jl_sh10 k hl_k hc_k).2.1 (by decide) d_Sh_copyFrom_117) (fun s9 h => ?_)
  refine V_aload_n X 0 d_Sh_copyFrom_120 rfl ?_
  refine V_aload_n X 1 d_Sh_copyFrom_121 rfl ?_
  refine V_getI X 3 11 rfl ji3 (by decide) (by decide) (by decide) fl_Sh_55 d_Sh_copyFrom_122 hl_q0 hc_q0 (by decide) ?_
  refine V_putI X 3 11 rfl ji3 jk3 jn3 (by decide) (by decide) (by decide) rfl (by decide +kernel) fl_Sh_55 d_Sh_copyFrom_125 hl_k hc_k (by decide) ?_
  refine V_aload_n X 0 d_Sh_copyFrom_128 rfl ?_
  refine V_aload_n X 1 d_Sh_copyFrom_129 rfl ?_
  refine V_getI X 3 12 rfl ji3 (by decide) (by decide) (by decide) fl_Sh_58 d_Sh_copyFrom_130 hl_q0 hc_q0 (by decide) ?_
  refine V_putI X 3 12 rfl ji3 jk3 jn3 (by decide) (by decide) (by decide) rfl (by decide +kernel) fl_Sh_58 d_Sh_copyFrom_133 hl_k hc_k (by decide) ?_
  refine V_aload_n X 0 d_Sh_copyFrom_136 rfl ?_
  refine V_aload_n X 1 d_Sh_copyFrom_137 rfl ?_
  refine V_getI X 3 13 rfl ji3 (by decide) (by decide) (by decide) fl_Sh_61 d_Sh_copyFrom_138 hl_q0 hc_q0 (by decide) ?_
  refine V_putI X 3 13 rfl ji3 jk3 jn3 (by decide) (by decide) (by decide) rfl (by decide +kernel) fl_Sh_61 d_Sh_copyFrom_141 hl_k hc_k (by decide) ?_
  have h9 := wp_some h
  exact hQ _ h9 _ _ d_Sh_copyFrom_144
set_option maxHeartbeats 4000000 in
set_option maxRecDepth 100000 in
theorem k_Sh_suits (σ : Sg) (k : Nat) (hl_k : k < 93) (hc_k : jv_cls k = 3) (r : Int32) (h : Sh_suits σ k = some r) : Evc y_Sh_suits prog_10_method_9_code 1 (some .int) 1 (fun ad => [Value.ref (ad k)]) σ σ (fun _ => some (.int r)) := by
  refine Evc_ofI (by decide) (fun ad => Nat.le_of_ble_eq_true rfl) (fun p l e R s m args below meth c D ad cI cB A Q X hQ => ?_)
  have X : Cx p R s m args meth c jR3 prog_10_method_9_code 1 1 D ad cI cB A 0 0 := X
  have hQ := hQ.pure
  have h : wpO (Sh_suits σ k) (fun q => q = r) := ⟨_, h, rfl⟩
  rw [Sh_suits] at h
  refine V_sub (lv' := [(0, Value.ref (ad k))]) [0] rfl ?_
  refine V_aload_n X 0 d_Sh_suits_0 rfl ?_
  refine V_getI X 3 1 rfl ji3 (by decide) (by decide) (by decide) fl_Sh_52 d_Sh_suits_1 hl_k hc_k (by decide) ?_
  have h9 := wp_some h
  exact hQ _ h9 (fun h9 => absurd h9 (by decide)) _ _ d_Sh_suits_4
set_option maxHeartbeats 4000000 in
set_option maxRecDepth 100000 in
theorem k_Fo_draw (σ : Sg) (a0 : Int32) (r : Int32) (σ' : Sg) (h : Fo_draw σ a0 = some (r, σ')) : Evc y_Fo_draw prog_4_method_6_code 2 (some .int) 1 (fun ad => [Value.ref (ad 66), Value.int a0]) σ σ' (fun _ => some (.int r)) := by
  refine Evc_ofI (by decide) (fun ad => Nat.le_of_ble_eq_true rfl) (fun p l e R s m args below meth c D ad cI cB A Q X hQ => ?_)
  have X : Cx p R s m args meth c jR8 prog_4_method_6_code 2 1 D ad cI cB A 0 0 := X
  have h : wpO (Fo_draw σ a0) (fun q => q = (r, σ')) := ⟨_, h, rfl⟩
  rw [Fo_draw] at h
  refine V_sub (lv' := [(0, Value.ref (ad 66)), (1, Value.int a0)]) [0, 1] rfl ?_
  refine V_aload_n X 0 d_Fo_draw_0 rfl ?_
  refine V_ldc2 X d_Fo_draw_1 kl_Fo_55 ?_
  refine V_aload_n X 0 d_Fo_draw_4 rfl ?_
  refine V_getL X 8 2 rfl ji8 (by decide) (by decide) (by decide) fl_Fo_26 d_Fo_draw_5 (by decide) (by decide) (by decide) ?_
  refine V_lmul X d_Fo_draw_8 ?_
  refine V_ldc2 X d_Fo_draw_9 kl_Fo_57 ?_
  refine V_ladd X d_Fo_draw_12 ?_
  refine V_ldc2 X d_Fo_draw_13 kl_Fo_59 ?_
  refine V_lrem X d_Fo_draw_16 (by decide) ?_
  refine V_putL X 8 2 rfl ji8 jk8 jn8 (by decide) (by decide) (by decide) rfl (by decide +kernel) fl_Fo_26 d_Fo_draw_17 (by decide) (by decide) (by decide) ?_
  refine V_iload_n X 1 d_Fo_draw_20 rfl ?_
  refine V_if_le X 39 d_Fo_draw_21 (by decide) h (fun c1 h => ?_) (fun c1 h => ?_)
  · skip
    refine V_iconst (v := 0) X d_Fo_draw_39 (by decide) ?_
    have h9 := wp_some h
    exact hQ _ _ h9 (fun h9 => absurd h9 (by decide)) _ _ d_Fo_draw_40
  · skip
    refine V_aload_n X 0 d_Fo_draw_24 rfl ?_
    refine V_getL X 8 2 rfl ji8 (by decide) (by decide) (by decide) fl_Fo_26 d_Fo_draw_25 (by decide) (by decide) (by decide) ?_
    refine V_ldc2 X d_Fo_draw_28 kl_Fo_61 ?_
    refine V_ldiv X d_Fo_draw_31 (by decide) ?_
    refine V_iload_n X 1 d_Fo_draw_32 rfl ?_
    refine V_i2l X d_Fo_draw_33 ?_
    obtain ⟨hz, h⟩ := wp_nz h
    refine V_lrem X d_Fo_draw_34 hz ?_
    refine V_l2i X d_Fo_draw_35 ?_
    refine V_goto X 40 d_Fo_draw_36 (by decide) ?_
    have h9 := wp_some h
    exact hQ _ _ h9 (fun h9 => absurd h9 (by decide)) _ _ d_Fo_draw_40
set_option maxHeartbeats 4000000 in
set_option maxRecDepth 100000 in
theorem k_Sh_trees (σ : Sg) (k : Nat) (hl_k : k < 93) (hc_k : jv_cls k = 3) (r : Int32) (h : Sh_trees σ k = some r) : Evc y_Sh_trees prog_10_method_8_code 1 (some .int) 1 (fun ad => [Value.ref (ad k)]) σ σ (fun _ => some (.int r)) := by
  refine Evc_ofI (by decide) (fun ad => Nat.le_of_ble_eq_true rfl) (fun p l e R s m args below meth c D ad cI cB A Q X hQ => ?_)
  have X : Cx p R s m args meth c jR3 prog_10_method_8_code 1 1 D ad cI cB A 0 0 := X
  have hQ := hQ.pure
  have h : wpO (Sh_trees σ k) (fun q => q = r) := ⟨_, h, rfl⟩
  rw [Sh_trees] at h
  refine V_sub (lv' := [(0, Value.ref (ad k))]) [0] rfl ?_
  refine V_aload_n X 0 d_Sh_trees_0 rfl ?_
  refine V_getI X 3 0 rfl ji3 (by decide) (by decide) (by decide) fl_Sh_48 d_Sh_trees_1 hl_k hc_k (by decide) ?_
  have h9 := wp_some h
  exact hQ _ h9 (fun h9 => absurd h9 (by decide)) _ _ d_Sh_trees_4
set_option maxHeartbeats 4000000 in
set_option maxRecDepth 100000 in
theorem k_Co_has (σ : Sg) (a0 : Int32) (a1 : Int32) (r : Int32) (h : Co_has a0 a1 = some r) : Evc y_Co_has prog_1_method_27_code 2 (some .boolean) 1 (fun ad => [Value.int a0, Value.int a1]) σ σ (fun _ => some (.int r)) := by
  refine Evc_ofZ (by decide) (fun ad => Nat.le_of_ble_eq_true rfl) (fun p l e R s m args below meth c D ad cI cB A Q X hQ => ?_)
  have X : Cx p R s m args meth c jR0 prog_1_method_27_code 2 1 D ad cI cB A 0 0 := X
  have hQ := hQ.pure
  have h : wpO (Co_has a0 a1) (fun q => q = r) := ⟨_, h, rfl⟩
  rw [Co_has] at h
  refine V_sub (lv' := [(0, Value.int a0), (1, Value.int a1)]) [0, 1] rfl ?_
  refine V_iload_n X 0 d_Co_has_0 rfl ?_
  refine V_iload_n X 1 d_Co_has_1 rfl ?_
  refine V_ishr X d_Co_has_2 ?_
  refine V_iconst (v := 1) X d_Co_has_3 (by decide) ?_
  refine V_iand X d_Co_has_4 ?_
  refine V_iconst (v := 1) X d_Co_has_5 (by decide) ?_
  refine V_icmp_ne X 13 d_Co_has_6 (by decide) h (fun c1 h => ?_) (fun c1 h => ?_)
  · skip
    refine V_iconst (v := 0) X d_Co_has_13 (by decide) ?_
    have h9 := wp_some h
    exact hQ _ h9 (fun _ => by decide) _ _ d_Co_has_14
  · skip
    refine V_iconst (v := 1) X d_Co_has_9 (by decide) ?_
    refine V_goto X 14 d_Co_has_10 (by decide) ?_
    have h9 := wp_some h
    exact hQ _ h9 (fun _ => by decide) _ _ d_Co_has_14
set_option maxHeartbeats 4000000 in
set_option maxRecDepth 100000 in
theorem k_Sh_isOpen (σ : Sg) (k : Nat) (hl_k : k < 93) (hc_k : jv_cls k = 3) (a0 : Int32) (a1 : Int32) (r : Int32) (h : Sh_isOpen σ k a0 a1 = some r) : Evc y_Sh_isOpen prog_10_method_29_code 4 (some .boolean) 2 (fun ad => [Value.ref (ad k), Value.int a0, Value.int a1]) σ σ (fun _ => some (.int r)) := by
  refine Evc_ofZ (by decide) (fun ad => Nat.le_of_ble_eq_true rfl) (fun p l e R s m args below meth c D ad cI cB A Q X hQ => ?_)
  have X : Cx p R s m args meth c jR3 prog_10_method_29_code 4 2 D ad cI cB A 0 0 := X
  have hQ := hQ.pure
  have h : wpO (Sh_isOpen σ k a0 a1) (fun q => q = r) := ⟨_, h, rfl⟩
  rw [Sh_isOpen] at h
  refine V_sub (lv' := [(0, Value.ref (ad k)), (1, Value.int a0), (2, Value.int a1)]) [0, 1, 2] rfl ?_
  refine V_iload_n X 2 d_Sh_isOpen_0 rfl ?_
  refine V_iload_n X 1 d_Sh_isOpen_1 rfl ?_
  refine V_cI X h (fun r1 q => C_SN X [Value.int a1, Value.int a0] mt_Co_has ms_Co_has mn_Sh_105 (k_Co_has σ a1 a0 r1 q) rfl rfl (by omega) (Nat.le_of_ble_eq_true rfl) d_Sh_isOpen_2) (fun r1 h => ?_)
  refine V_if_eq X 10 d_Sh_isOpen_5 (by decide) h (fun c2 h => ?_) (fun c2 h => ?_)
  · skip
    refine V_aload_n X 0 d_Sh_isOpen_10 rfl ?_
    refine V_getR X 3 7 (k + 11) rfl ji3 (by decide) (by decide) (by decide) fl_Sh_32 d_Sh_isOpen_11 hl_k hc_k (by decide) (jl_sh7 k hl_k hc_k).2.2 ?_
    refine V_iload_n X 1 d_Sh_isOpen_14 rfl ?_
    refine V_cI X h (fun r3 q => C_V (q := 9) X [Value.int a0] mt_Rw_at ms_Rw_at ml_Sh_71 (k_Rw_at σ (k + 11) (jl_sh7 k hl_k hc_k).1 (jl_sh7 k hl_k hc_k).2.1 a0 r3 q) rfl rfl (by omega) (Nat.le_of_ble_eq_true rfl) rfl (jl_sh7 k hl_k hc_k).1 (jl_sh7 k hl_k hc_k).2.1 (by decide) d_Sh_isOpen_15) (fun r3 h => ?_)
    refine V_istore_n X [(3, Value.int r3), (0, Value.ref (ad k)), (1, Value.int a0), (2, Value.int a1)] d_Sh_isOpen_18 (by decide) rfl ?_
    refine V_aload_n X 1 d_Sh_isOpen_19 rfl ?_
    refine V_getR X 3 4 (k + 5) rfl ji3 (by decide) (by decide) (by decide) fl_Sh_23 d_Sh_isOpen_20 hl_k hc_k (by decide) (jl_sh4 k hl_k hc_k).2.2 ?_
    refine V_iload_n X 2 d_Sh_isOpen_23 rfl ?_
    refine V_cI X h (fun r4 q => C_V (q := 9) X [Value.int a0] mt_Rw_at ms_Rw_at ml_Sh_71 (k_Rw_at σ (k + 5) (jl_sh4 k hl_k hc_k).1 (jl_sh4 k hl_k hc_k).2.1 a0 r4 q) rfl rfl (by omega) (Nat.le_of_ble_eq_true rfl) rfl (jl_sh4 k hl_k hc_k).1 (jl_sh4 k hl_k hc_k).2.1 (by decide) d_Sh_isOpen_24) (fun r4 h => ?_)
    refine V_iconst (v := 3) X d_Sh_isOpen_27 (by decide) ?_
    refine V_icmp_ne X 44 d_Sh_isOpen_28 (by decide) h (fun c5 h => ?_) (fun c5 h => ?_)
    · skip
      refine V_iconst (v := 1) X d_Sh_isOpen_44 (by decide) ?_
      refine V_goto X 49 d_Sh_isOpen_45 (by decide) ?_
      have h9 := wp_some h
      exact hQ _ h9 (fun _ => by decide) _ _ d_Sh_isOpen_49
    · skip
      refine V_iload_n X 0 d_Sh_isOpen_31 rfl ?_
      refine V_iconst (v := -1) X d_Sh_isOpen_32 (by decide) ?_
      refine V_icmp_eq X 44 d_Sh_isOpen_33 (by decide) h (fun c6 h => ?_) (fun c6 h => ?_)
      · skip
        refine V_iconst (v := 1) X d_Sh_isOpen_44 (by decide) ?_
        refine V_goto X 49 d_Sh_isOpen_45 (by decide) ?_
        have h9 := wp_some h
        exact hQ _ h9 (fun _ => by decide) _ _ d_Sh_isOpen_49
      · skip
        refine V_iload_n X 3 d_Sh_isOpen_36 rfl ?_
        refine V_iload_n X 0 d_Sh_isOpen_37 rfl ?_
        refine V_cI X h (fun r7 q => C_SN X [Value.int a1, Value.int r3] mt_Co_has ms_Co_has mn_Sh_105 (k_Co_has σ a1 r3 r7 q) rfl rfl (by omega) (Nat.le_of_ble_eq_true rfl) d_Sh_isOpen_38) (fun r7 h => ?_)
        refine V_if_eq X 48 d_Sh_isOpen_41 (by decide) h (fun c8 h => ?_) (fun c8 h => ?_)
        · skip
          refine V_iconst (v := 0) X d_Sh_isOpen_48 (by decide) ?_
          have h9 := wp_some h
          exact hQ _ h9 (fun _ => by decide) _ _ d_Sh_isOpen_49
        · skip
          refine V_iconst (v := 1) X d_Sh_isOpen_44 (by decide) ?_
          refine V_goto X 49 d_Sh_isOpen_45 (by decide) ?_
          have h9 := wp_some h
          exact hQ _ h9 (fun _ => by decide) _ _ d_Sh_isOpen_49
  · skip
    refine V_iconst (v := 0) X d_Sh_isOpen_8 (by decide) ?_
    have h9 := wp_some h
    exact hQ _ h9 (fun _ => by decide) _ _ d_Sh_isOpen_9
set_option maxHeartbeats 4000000 in
set_option maxRecDepth 100000 in
theorem k_Sh_costAtNeed (σ : Sg) (k : Nat) (hl_k : k < 93) (hc_k : jv_cls k = 3) (a0 : Int32) (a1 : Int32) (r : Int32) (h : Sh_costAtNeed σ k a0 a1 = some r) : Evc y_Sh_costAtNeed prog_10_method_25_code 4 (some .int) 2 (fun ad => [Value.ref (ad k), Value.int a0, Value.int a1]) σ σ (fun _ => some (.int r)) := by
  refine Evc_ofI (by decide) (fun ad => Nat.le_of_ble_eq_true rfl) (fun p l e R s m args below meth c D ad cI cB A Q X hQ => ?_)
  have X : Cx p R s m args meth c jR3 prog_10_method_25_code 4 2 D ad cI cB A 0 0 := X
  have hQ := hQ.pure
  have h : wpO (Sh_costAtNeed σ k a0 a1) (fun q => q = r) := ⟨_, h, rfl⟩
  rw [Sh_costAtNeed] at h
  refine V_sub (lv' := [(0, Value.ref (ad k)), (1, Value.int a0), (2, Value.int a1)]) [0, 1, 2] rfl ?_
  refine V_iconst (v := 1) X d_Sh_costAtNeed_0 (by decide) ?_
  refine V_iload_n X 2 d_Sh_costAtNeed_1 rfl ?_
  refine V_aload_n X 0 d_Sh_costAtNeed_2 rfl ?_
  refine V_getR X 3 8 (k + 13) rfl ji3 (by decide) (by decide) (by decide) fl_Sh_35 d_Sh_costAtNeed_3 hl_k hc_k (by decide) (jl_sh8 k hl_k hc_k).2.2 ?_
  refine V_iload_n X 1 d_Sh_costAtNeed_6 rfl ?_
  refine V_cI X h (fun r1 q => C_V (q := 9) X [Value.int a0] mt_Rw_at ms_Rw_at ml_Sh_71 (k_Rw_at σ (k + 13) (jl_sh8 k hl_k hc_k).1 (jl_sh8 k hl_k hc_k).2.1 a0 r1 q) rfl rfl (by omega) (Nat.le_of_ble_eq_true rfl) rfl (jl_sh8 k hl_k hc_k).1 (jl_sh8 k hl_k hc_k).2.1 (by decide) d_Sh_costAtNeed_7) (fun r1 h => ?_)
  refine V_isub X d_Sh_costAtNeed_10 ?_
  refine V_mmax X ml_Sh_92 d_Sh_costAtNeed_11 (by omega) (Nat.le_of_ble_eq_true rfl) ?_
  refine V_istore_n X [(3, Value.int (if (1 : Int32) < (a1 - r1) then a1 - r1 else (1 : Int32))), (0, Value.ref (ad k)), (1, Value.int a0), (2, Value.int a1)] d_Sh_costAtNeed_14 (by decide) rfl ?_
  refine V_aload_n X 1 d_Sh_costAtNeed_15 rfl ?_
  refine V_getR X 3 4 (k + 5) rfl ji3 (by decide) (by decide) (by decide) fl_Sh_23 d_Sh_costAtNeed_16 hl_k hc_k (by decide) (jl_sh4 k hl_k hc_k).2.2 ?_
  refine V_iload_n X 2 d_Sh_costAtNeed_19 rfl ?_
  refine V_cI X h (fun r2 q => C_V (q := 9) X [Value.int a0] mt_Rw_at ms_Rw_at ml_Sh_71 (k_Rw_at σ (k + 5) (jl_sh4 k hl_k hc_k).1 (jl_sh4 k hl_k hc_k).2.1 a0 r2 q) rfl rfl (by omega) (Nat.le_of_ble_eq_true rfl) rfl (jl_sh4 k hl_k hc_k).1 (jl_sh4 k hl_k hc_k).2.1 (by decide) d_Sh_costAtNeed_20) (fun r2 h => ?_)
  rcases wp_case h with ⟨c3, h⟩ | ⟨c3, h⟩
  · skip
    refine V_tableIn X 29 52 d_Sh_costAtNeed_23 (1) (by rw [c3]; decide) (by decide) (by decide) rfl (by decide) ?_
    refine V_iload_n X 0 d_Sh_costAtNeed_52 rfl ?_
    have h9 := wp_some h
    exact hQ _ h9 (fun h9 => absurd h9 (by decide)) _ _ d_Sh_costAtNeed_53
  · skip
    rcases wp_case h with ⟨c4, h⟩ | ⟨c4, h⟩
    · skip
      refine V_tableIn X 37 60 d_Sh_costAtNeed_23 (2) (by rw [c4]; decide) (by decide) (by decide) rfl (by decide) ?_
      refine V_iconst (v := 2) X d_Sh_costAtNeed_60 (by decide) ?_
      refine V_iload_n X 3 d_Sh_costAtNeed_61 rfl ?_
      refine V_imul X d_Sh_costAtNeed_62 ?_
      have h9 := wp_some h
      exact hQ _ h9 (fun h9 => absurd h9 (by decide)) _ _ d_Sh_costAtNeed_63
    · skip
      rcases wp_case h with ⟨c5, h⟩ | ⟨c5, h⟩
      · skip
        refine V_tableIn X 41 64 d_Sh_costAtNeed_23 (3) (by rw [c5]; decide) (by decide) (by decide) rfl (by decide) ?_
        refine V_iload_n X 3 d_Sh_costAtNeed_64 rfl ?_
        have h9 := wp_some h
        exact hQ _ h9 (fun h9 => absurd h9 (by decide)) _ _ d_Sh_costAtNeed_65
      · skip
        rcases wp_case h with ⟨c6, h⟩ | ⟨c6, h⟩
        · skip
          refine V_tableIn X 31 54 d_Sh_costAtNeed_23 (4) (by rw [c6]; decide) (by decide) (by decide) rfl (by decide) ?_
          refine V_iload_n X 0 d_Sh_costAtNeed_54 rfl ?_
          refine V_iconst (v := 1) X d_Sh_costAtNeed_55 (by decide) ?_
          refine V_iadd X d_Sh_costAtNeed_56 ?_
          refine V_iconst (v := 2) X d_Sh_costAtNeed_57 (by decide) ?_
          refine V_idiv X d_Sh_costAtNeed_58 (by decide) ?_
          have h9 := wp_some h
          exact hQ _ h9 (fun h9 => absurd h9 (by decide)) _ _ d_Sh_costAtNeed_59
        · skip
          refine V_tableOut X 64 d_Sh_costAtNeed_23 (by have z0 := sw_ne c3 (1) (by decide); have z1 := sw_ne c4 (2) (by decide); have z2 := sw_ne c5 (3) (by decide); have z3 := sw_ne c6 (4) (by decide); omega) (by decide) ?_
          refine V_iload_n X 3 d_Sh_costAtNeed_64 rfl ?_
          have h9 := wp_some h
          exact hQ _ h9 (fun h9 => absurd h9 (by decide)) _ _ d_Sh_costAtNeed_65
set_option maxHeartbeats 4000000 in
set_option maxRecDepth 100000 in
theorem k_Sh_cost (σ : Sg) (k : Nat) (hl_k : k < 93) (hc_k : jv_cls k = 3) (a0 : Int32) (r : Int32) (h : Sh_cost σ k a0 = some r) : Evc y_Sh_cost prog_10_method_24_code 2 (some .int) 3 (fun ad => [Value.ref (ad k), Value.int a0]) σ σ (fun _ => some (.int r)) := by
  refine Evc_ofI (by decide) (fun ad => Nat.le_of_ble_eq_true rfl) (fun p l e R s m args below meth c D ad cI cB A Q X hQ => ?_)
  have X : Cx p R s m args meth c jR3 prog_10_method_24_code 2 3 D ad cI cB A 0 0 := X
  have hQ := hQ.pure
  have h : wpO (Sh_cost σ k a0) (fun q => q = r) := ⟨_, h, rfl⟩
  rw [Sh_cost] at h
  refine V_sub (lv' := [(0, Value.ref (ad k)), (1, Value.int a0)]) [0, 1] rfl ?_
  refine V_aload_n X 0 d_Sh_cost_0 rfl ?_
  refine V_iload_n X 1 d_Sh_cost_1 rfl ?_
  refine V_aload_n X 0 d_Sh_cost_2 rfl ?_
  refine V_getR X 3 5 (k + 7) rfl ji3 (by decide) (by decide) (by decide) fl_Sh_26 d_Sh_cost_3 hl_k hc_k (by decide) (jl_sh5 k hl_k hc_k).2.2 ?_
  refine V_iload_n X 1 d_Sh_cost_6 rfl ?_
  refine V_cI X h (fun r1 q => C_V (q := 9) X [Value.int a0] mt_Rw_at ms_Rw_at ml_Sh_71 (k_Rw_at σ (k + 7) (jl_sh5 k hl_k hc_k).1 (jl_sh5 k hl_k hc_k).2.1 a0 r1 q) rfl rfl (by omega) (Nat.le_of_ble_eq_true rfl) rfl (jl_sh5 k hl_k hc_k).1 (jl_sh5 k hl_k hc_k).2.1 (by decide) d_Sh_cost_7) (fun r1 h => ?_)
  refine V_cI X h (fun r2 q => C_V (q := 3) X [Value.int a0, Value.int r1] mt_Sh_costAtNeed ms_Sh_costAtNeed ml_Sh_88 (k_Sh_costAtNeed σ k hl_k hc_k a0 r1 r2 q) rfl rfl (by omega) (Nat.le_of_ble_eq_true rfl) rfl hl_k hc_k (by decide) d_Sh_cost_10) (fun r2 h => ?_)
  have h9 := wp_some h
  exact hQ _ h9 (fun h9 => absurd h9 (by decide)) _ _ d_Sh_cost_13
set_option maxHeartbeats 4000000 in
set_option maxRecDepth 100000 in
theorem k_Sh_isPossible (σ : Sg) (k : Nat) (hl_k : k < 93) (hc_k : jv_cls k = 3) (a0 : Int32) (a1 : Int32) (r : Int32) (h : Sh_isPossible σ k a0 a1 = some r) : Evc y_Sh_isPossible prog_10_method_30_code 3 (some .boolean) 4 (fun ad => [Value.ref (ad k), Value.int a0, Value.int a1]) σ σ (fun _ => some (.int r)) := by
  refine Evc_ofZ (by decide) (fun ad => Nat.le_of_ble_eq_true rfl) (fun p l e R s m args below meth c D ad cI cB A Q X hQ => ?_)
  have X : Cx p R s m args meth c jR3 prog_10_method_30_code 3 4 D ad cI cB A 0 0 := X
  have hQ := hQ.pure
  have h : wpO (Sh_isPossible σ k a0 a1) (fun q => q = r) := ⟨_, h, rfl⟩
  rw [Sh_isPossible] at h
  refine V_sub (lv' := [(0, Value.ref (ad k)), (1, Value.int a0), (2, Value.int a1)]) [0, 1, 2] rfl ?_
  refine V_aload_n X 0 d_Sh_isPossible_0 rfl ?_
  refine V_iload_n X 1 d_Sh_isPossible_1 rfl ?_
  refine V_aload_n X 0 d_Sh_isPossible_2 rfl ?_
  refine V_getI X 3 11 rfl ji3 (by decide) (by decide) (by decide) fl_Sh_55 d_Sh_isPossible_3 hl_k hc_k (by decide) ?_
  refine V_cI X h (fun r1 q => C_V (q := 3) X [Value.int a0, Value.int (gF σ k 11)] mt_Sh_isOpen ms_Sh_isOpen ml_Sh_109 (k_Sh_isOpen σ k hl_k hc_k a0 (gF σ k 11) r1 q) rfl rfl (by omega) (Nat.le_of_ble_eq_true rfl) rfl hl_k hc_k (by decide) d_Sh_isPossible_6) (fun r1 h => ?_)
  refine V_if_eq X 32 d_Sh_isPossible_9 (by decide) h (fun c2 h => ?_) (fun c2 h => ?_)
  · skip
    refine V_iconst (v := 0) X d_Sh_isPossible_32 (by decide) ?_
    have h9 := wp_some h
    exact hQ _ h9 (fun _ => by decide) _ _ d_Sh_isPossible_33
  · skip
    refine V_aload_n X 0 d_Sh_isPossible_12 rfl ?_
    refine V_getR X 3 2 (k + 1) rfl ji3 (by decide) (by decide) (by decide) fl_Sh_14 d_Sh_isPossible_13 hl_k hc_k (by decide) (jl_sh2 k hl_k hc_k).2.2 ?_
    refine V_iload_n X 2 d_Sh_isPossible_16 rfl ?_
    refine V_cI X h (fun r3 q => C_V (q := 9) X [Value.int a1] mt_Rw_at ms_Rw_at ml_Sh_71 (k_Rw_at σ (k + 1) (jl_sh2 k hl_k hc_k).1 (jl_sh2 k hl_k hc_k).2.1 a1 r3 q) rfl rfl (by omega) (Nat.le_of_ble_eq_true rfl) rfl (jl_sh2 k hl_k hc_k).1 (jl_sh2 k hl_k hc_k).2.1 (by decide) d_Sh_isPossible_17) (fun r3 h => ?_)
    refine V_aload_n X 0 d_Sh_isPossible_20 rfl ?_
    refine V_iload_n X 1 d_Sh_isPossible_21 rfl ?_
    refine V_cI X h (fun r4 q => C_V (q := 3) X [Value.int a0] mt_Sh_cost ms_Sh_cost ml_Sh_112 (k_Sh_cost σ k hl_k hc_k a0 r4 q) rfl rfl (by omega) (Nat.le_of_ble_eq_true rfl) rfl hl_k hc_k (by decide) d_Sh_isPossible_22) (fun r4 h => ?_)
    refine V_icmp_lt X 32 d_Sh_isPossible_25 (by decide) h (fun c5 h => ?_) (fun c5 h => ?_)
    · skip
      refine V_iconst (v := 0) X d_Sh_isPossible_32 (by decide) ?_
      have h9 := wp_some h
      exact hQ _ h9 (fun _ => by decide) _ _ d_Sh_isPossible_33
    · skip
      refine V_iconst (v := 1) X d_Sh_isPossible_28 (by decide) ?_
      refine V_goto X 33 d_Sh_isPossible_29 (by decide) ?_
      have h9 := wp_some h
      exact hQ _ h9 (fun _ => by decide) _ _ d_Sh_isPossible_33
set_option maxHeartbeats 4000000 in
set_option maxRecDepth 100000 in
theorem k_Sh_rightedBehind (σ : Sg) (k : Nat) (hl_k : k < 93) (hc_k : jv_cls k = 3) (a0 : Int32) (a1 : Int32) (r : Int32) (h : Sh_rightedBehind σ k a0 a1 = some r) : Evc y_Sh_rightedBehind prog_10_method_32_code 3 (some .int) 2 (fun ad => [Value.ref (ad k), Value.int a0, Value.int a1]) σ σ (fun _ => some (.int r)) := by
  refine Evc_ofI (by decide) (fun ad => Nat.le_of_ble_eq_true rfl) (fun p l e R s m args below meth c D ad cI cB A Q X hQ => ?_)
  have X : Cx p R s m args meth c jR3 prog_10_method_32_code 3 2 D ad cI cB A 0 0 := X
  have hQ := hQ.pure
  have h : wpO (Sh_rightedBehind σ k a0 a1) (fun q => q = r) := ⟨_, h, rfl⟩
  rw [Sh_rightedBehind] at h
  refine V_sub (lv' := [(0, Value.ref (ad k)), (1, Value.int a0), (2, Value.int a1)]) [0, 1, 2] rfl ?_
  refine V_iload_n X 2 d_Sh_rightedBehind_0 rfl ?_
  refine V_iload_n X 1 d_Sh_rightedBehind_1 rfl ?_
  refine V_cI X h (fun r1 q => C_SN X [Value.int a0] mt_Co_bit ms_Co_bit mn_Sh_75 (k_Co_bit σ a0 r1 q) rfl rfl (by omega) (Nat.le_of_ble_eq_true rfl) d_Sh_rightedBehind_2) (fun r1 h => ?_)
  refine V_ior X d_Sh_rightedBehind_5 ?_
  refine V_aload_n X 0 d_Sh_rightedBehind_6 rfl ?_
  refine V_getR X 3 9 (k + 15) rfl ji3 (by decide) (by decide) (by decide) fl_Sh_38 d_Sh_rightedBehind_7 hl_k hc_k (by decide) (jl_sh9 k hl_k hc_k).2.2 ?_
  refine V_iload_n X 1 d_Sh_rightedBehind_10 rfl ?_
  refine V_cI X h (fun r2 q => C_V (q := 9) X [Value.int a0] mt_Rw_at ms_Rw_at ml_Sh_71 (k_Rw_at σ (k + 15) (jl_sh9 k hl_k hc_k).1 (jl_sh9 k hl_k hc_k).2.1 a0 r2 q) rfl rfl (by omega) (Nat.le_of_ble_eq_true rfl) rfl (jl_sh9 k hl_k hc_k).1 (jl_sh9 k hl_k hc_k).2.1 (by decide) d_Sh_rightedBehind_11) (fun r2 h => ?_)
  refine V_iconst (v := -1) X d_Sh_rightedBehind_14 (by decide) ?_
  refine V_ixor X d_Sh_rightedBehind_15 ?_
  refine V_iand X d_Sh_rightedBehind_16 ?_
  have h9 := wp_some h
  exact hQ _ h9 (fun h9 => absurd h9 (by decide)) _ _ d_Sh_rightedBehind_17
set_option maxHeartbeats 4000000 in
set_option maxRecDepth 100000 in
theorem k_Sh_pluckAndRight (σ : Sg) (k : Nat) (hl_k : k < 93) (hc_k : jv_cls k = 3) (a0 : Int32) (a1 : Int32) (σ' : Sg) (h : Sh_pluckAndRight σ k a0 a1 = some σ') : Evc y_Sh_pluckAndRight prog_10_method_33_code 3 (none) 4 (fun ad => [Value.ref (ad k), Value.int a0, Value.int a1]) σ σ' (fun _ => none) := by
  refine Evc_ofV (by decide) (fun ad => Nat.le_of_ble_eq_true rfl) (fun p l e R s m args below meth c D ad cI cB A Q X hQ => ?_)
  have X : Cx p R s m args meth c jR3 prog_10_method_33_code 3 4 D ad cI cB A 0 0 := X
  have h : wpO (Sh_pluckAndRight σ k a0 a1) (fun q => q = σ') := ⟨_, h, rfl⟩
  rw [Sh_pluckAndRight] at h
  refine V_sub (lv' := [(0, Value.ref (ad k)), (1, Value.int a0), (2, Value.int a1)]) [0, 1, 2] rfl ?_
  refine V_aload_n X 0 d_Sh_pluckAndRight_0 rfl ?_
  refine V_getR X 3 2 (k + 1) rfl ji3 (by decide) (by decide) (by decide) fl_Sh_14 d_Sh_pluckAndRight_1 hl_k hc_k (by decide) (jl_sh2 k hl_k hc_k).2.2 ?_
  refine V_iload_n X 2 d_Sh_pluckAndRight_4 rfl ?_
  refine V_aload_n X 0 d_Sh_pluckAndRight_5 rfl ?_
  refine V_getR X 3 2 (k + 1) rfl ji3 (by decide) (by decide) (by decide) fl_Sh_14 d_Sh_pluckAndRight_6 hl_k hc_k (by decide) (jl_sh2 k hl_k hc_k).2.2 ?_
  refine V_iload_n X 2 d_Sh_pluckAndRight_9 rfl ?_
  refine V_cI X h (fun r1 q => C_V (q := 9) X [Value.int a1] mt_Rw_at ms_Rw_at ml_Sh_71 (k_Rw_at σ (k + 1) (jl_sh2 k hl_k hc_k).1 (jl_sh2 k hl_k hc_k).2.1 a1 r1 q) rfl rfl (by omega) (Nat.le_of_ble_eq_true rfl) rfl (jl_sh2 k hl_k hc_k).1 (jl_sh2 k hl_k hc_k).2.1 (by decide) d_Sh_pluckAndRight_10) (fun r1 h => ?_)
  refine V_aload_n X 0 d_Sh_pluckAndRight_13 rfl ?_
  refine V_iload_n X 1 d_Sh_pluckAndRight_14 rfl ?_
  refine V_cI X h (fun r2 q => C_V (q := 3) X [Value.int a0] mt_Sh_cost ms_Sh_cost ml_Sh_112 (k_Sh_cost σ k hl_k hc_k a0 r2 q) rfl rfl (by omega) (Nat.le_of_ble_eq_true rfl) rfl hl_k hc_k (by decide) d_Sh_pluckAndRight_15) (fun r2 h => ?_)
  refine V_isub X d_Sh_pluckAndRight_18 ?_
  refine V_cV X h (fun s3 q => C_V (q := 9) X [Value.int a1, Value.int (r1 - r2)] mt_Rw_put ms_Rw_put ml_Sh_67 (k_Rw_put σ (k + 1) (jl_sh2 k hl_k hc_k).1 (jl_sh2 k hl_k hc_k).2.1 a1 (r1 - r2) s3 q) rfl rfl (by omega) (Nat.le_of_ble_eq_true rfl) rfl (jl_sh2 k hl_k hc_k).1 (jl_sh2 k hl_k hc_k).2.1 (by decide) d_Sh_pluckAndRight_19) (fun s3 h => ?_)
  refine V_aload_n X 0 d_Sh_pluckAndRight_22 rfl ?_
  refine V_aload_n X 0 d_Sh_pluckAndRight_23 rfl ?_
  refine V_iload_n X 1 d_Sh_pluckAndRight_24 rfl ?_
  refine V_aload_n X 0 d_Sh_pluckAndRight_25 rfl ?_
  refine V_getI X 3 11 rfl ji3 (by decide) (by decide) (by decide) fl_Sh_55 d_Sh_pluckAndRight_26 hl_k hc_k (by decide) ?_
  refine V_cI X h (fun r4 q => C_V (q := 3) X [Value.int a0, Value.int (gF s3 k 11)] mt_Sh_rightedBehind ms_Sh_rightedBehind ml_Sh_118 (k_Sh_rightedBehind s3 k hl_k hc_k a0 (gF s3 k 11) r4 q) rfl rfl (by omega) (Nat.le_of_ble_eq_true rfl) rfl hl_k hc_k (by decide) d_Sh_pluckAndRight_29) (fun r4 h => ?_)
  refine V_putI X 3 11 rfl ji3 jk3 jn3 (by decide) (by decide) (by decide) rfl (by decide +kernel) fl_Sh_55 d_Sh_pluckAndRight_32 hl_k hc_k (by decide) ?_
  refine V_aload_n X 0 d_Sh_pluckAndRight_35 rfl ?_
  refine V_dup X d_Sh_pluckAndRight_36 rfl ?_
  refine V_getI X 3 13 rfl ji3 (by decide) (by decide) (by decide) fl_Sh_61 d_Sh_pluckAndRight_37 hl_k hc_k (by decide) ?_
  refine V_iconst (v := 1) X d_Sh_pluckAndRight_40 (by decide) ?_
  refine V_iadd X d_Sh_pluckAndRight_41 ?_
  refine V_putI X 3 13 rfl ji3 jk3 jn3 (by decide) (by decide) (by decide) rfl (by decide +kernel) fl_Sh_61 d_Sh_pluckAndRight_42 hl_k hc_k (by decide) ?_
  have h9 := wp_some h
  exact hQ _ h9 _ _ d_Sh_pluckAndRight_45
set_option maxHeartbeats 4000000 in
set_option maxRecDepth 100000 in
theorem Sh_passYear_L2_ok {p : Program} {l : Launch} {e : Env} {R : Room} {s : State} {m : MethodId} {args : Array Value} {below : List Frame} {meth : Method} {c : Code} {D : va_G} {ad : Nat → Nat} {cI cB : ClassId} {A : Nat → Prop} {cells slots : Nat} {Q : State → Prop} (X : Cx p R s m args meth c jR3 prog_10_method_35_code 2 2 D ad cI cB A cells slots) (fu : Nat) (k : Nat) (hl_k : k < 93) (hc_k : jv_cls k = 3) (kont : (Int32 → Sg → Option Sg)) {K : Sg → Prop} (hQ : RV p l e R s m args below meth c 2 D ad cI cB A cells slots Q prog_10_method_35_code K) (hk : ∀ (l1 : Int32) (σ : Sg), wpO (kont l1 σ) K → V p l e R s m args below meth c 2 D A cells slots Q (wl ad cI cB σ) 46 [(0, Value.ref (ad k)), (1, Value.int l1)] []) : ∀ (n : Nat) (l1 : Int32) (σ : Sg), wpO (Sh_passYear_L2 fu k kont n l1 σ) K → V p l e R s m args below meth c 2 D A cells slots Q (wl ad cI cB σ) 2 [(0, Value.ref (ad k)), (1, Value.int l1)] [] := by
  intro n
  induction n with
  | zero =>
    intro l1 σ h
    exact (wp_none h).elim
  | succ n ih =>
    intro l1 σ h
    rw [Sh_passYear_L2] at h
    refine V_iload_n X 1 d_Sh_passYear_2 rfl ?_
    refine V_aload_n X 0 d_Sh_passYear_3 rfl ?_
    refine V_getI X 3 0 rfl ji3 (by decide) (by decide) (by decide) fl_Sh_48 d_Sh_passYear_4 hl_k hc_k (by decide) ?_
    refine V_icmp_ge X 46 d_Sh_passYear_7 (by decide) h (fun c1 h => ?_) (fun c1 h => ?_)
    · skip
      exact hk l1 σ h
    · skip
      refine V_aload_n X 0 d_Sh_passYear_10 rfl ?_
      refine V_getR X 3 2 (k + 1) rfl ji3 (by decide) (by decide) (by decide) fl_Sh_14 d_Sh_passYear_11 hl_k hc_k (by decide) (jl_sh2 k hl_k hc_k).2.2 ?_
      refine V_iload_n X 1 d_Sh_passYear_14 rfl ?_
      refine V_bipush (v := 20) X d_Sh_passYear_15 (by decide) ?_
      refine V_aload_n X 0 d_Sh_passYear_17 rfl ?_
      refine V_getR X 3 2 (k + 1) rfl ji3 (by decide) (by decide) (by decide) fl_Sh_14 d_Sh_passYear_18 hl_k hc_k (by decide) (jl_sh2 k hl_k hc_k).2.2 ?_
      refine V_iload_n X 1 d_Sh_passYear_21 rfl ?_
      refine V_cI X h (fun r2 q => C_V (q := 9) X [Value.int l1] mt_Rw_at ms_Rw_at ml_Sh_71 (k_Rw_at σ (k + 1) (jl_sh2 k hl_k hc_k).1 (jl_sh2 k hl_k hc_k).2.1 l1 r2 q) rfl rfl (by omega) (Nat.le_of_ble_eq_true rfl) rfl (jl_sh2 k hl_k hc_k).1 (jl_sh2 k hl_k hc_k).2.1 (by decide) d_Sh_passYear_22) (fun r2 h => ?_)
      refine V_aload_n X 0 d_Sh_passYear_25 rfl ?_
      refine V_getR X 3 3 (k + 3) rfl ji3 (by decide) (by decide) (by decide) fl_Sh_20 d_Sh_passYear_26 hl_k hc_k (by decide) (jl_sh3 k hl_k hc_k).2.2 ?_
      refine V_iload_n X 1 d_Sh_passYear_29 rfl ?_
      refine V_cI X h (fun r3 q => C_V (q := 9) X [Value.int l1] mt_Rw_at ms_Rw_at ml_Sh_71 (k_Rw_at σ (k + 3) (jl_sh3 k hl_k hc_k).1 (jl_sh3 k hl_k hc_k).2.1 l1 r3 q) rfl rfl (by omega) (Nat.le_of_ble_eq_true rfl) rfl (jl_sh3 k hl_k hc_k).1 (jl_sh3 k hl_k hc_k).2.1 (by decide) d_Sh_passYear_30) (fun r3 h => ?_)
      refine V_iadd X d_Sh_passYear_33 ?_
      refine V_mmin X ml_Sh_121 d_Sh_passYear_34 (by omega) (Nat.le_of_ble_eq_true rfl) ?_
      refine V_cV X h (fun s4 q => C_V (q := 9) X [Value.int l1, Value.int (if (r2 + r3) < (20 : Int32) then r2 + r3 else (20 : Int32))] mt_Rw_put ms_Rw_put ml_Sh_67 (k_Rw_put σ (k + 1) (jl_sh2 k hl_k hc_k).1 (jl_sh2 k hl_k hc_k).2.1 l1 (if (r2 + r3) < (20 : Int32) then r2 + r3 else (20 : Int32)) s4 q) rfl rfl (by omega) (Nat.le_of_ble_eq_true rfl) rfl (jl_sh2 k hl_k hc_k).1 (jl_sh2 k hl_k hc_k).2.1 (by decide) d_Sh_passYear_37) (fun s4 h => ?_)
      refine V_iinc X 1 (l1 + (1 : Int32)) [(1, Value.int (l1 + (1 : Int32))), (0, Value.ref (ad k))] d_Sh_passYear_40 rfl (by first | rfl | decide) (by decide) rfl ?_
      refine V_goto X 2 d_Sh_passYear_43 (by decide) ?_
      refine V_sub (lv' := [(0, Value.ref (ad k)), (1, Value.int (l1 + (1 : Int32)))]) [1, 0] rfl ?_
      exact ih (l1 + (1 : Int32)) s4 h
set_option maxHeartbeats 4000000 in
set_option maxRecDepth 100000 in
theorem k_Sh_passYear (fu : Nat) (σ : Sg) (k : Nat) (hl_k : k < 93) (hc_k : jv_cls k = 3) (σ' : Sg) (h : Sh_passYear fu σ k = some σ') : Evc y_Sh_passYear prog_10_method_35_code 2 (none) 2 (fun ad => [Value.ref (ad k)]) σ σ' (fun _ => none) := by
  refine Evc_ofV (by decide) (fun ad => Nat.le_of_ble_eq_true rfl) (fun p l e R s m args below meth c D ad cI cB A Q X hQ => ?_)
  have X : Cx p R s m args meth c jR3 prog_10_method_35_code 2 2 D ad cI cB A 0 0 := X
  have h : wpO (Sh_passYear fu σ k) (fun q => q = σ') := ⟨_, h, rfl⟩
  rw [Sh_passYear] at h
  refine V_sub (lv' := [(0, Value.ref (ad k))]) [0] rfl ?_
  refine V_iconst (v := 0) X d_Sh_passYear_0 (by decide) ?_
  refine V_istore_n X [(1, Value.int (0 : Int32)), (0, Value.ref (ad k))] d_Sh_passYear_1 (by decide) rfl ?_
  refine V_sub (lv' := [(0, Value.ref (ad k)), (1, Value.int (0 : Int32))]) [1, 0] rfl ?_
  refine Sh_passYear_L2_ok X fu k hl_k hc_k _ hQ (fun l1_5 s6 h => ?_) fu (0 : Int32) σ h
  refine V_aload_n X 0 d_Sh_passYear_46 rfl ?_
  refine V_dup X d_Sh_passYear_47 rfl ?_
  refine V_getI X 3 12 rfl ji3 (by decide) (by decide) (by decide) fl_Sh_58 d_Sh_passYear_48 hl_k hc_k (by decide) ?_
  refine V_iconst (v := 1) X d_Sh_passYear_51 (by decide) ?_
  refine V_iadd X d_Sh_passYear_52 ?_
  refine V_putI X 3 12 rfl ji3 jk3 jn3 (by decide) (by decide) (by decide) rfl (by decide +kernel) fl_Sh_58 d_Sh_passYear_53 hl_k hc_k (by decide) ?_
  have h9 := wp_some h
  exact hQ _ h9 _ _ d_Sh_passYear_56
set_option maxHeartbeats 4000000 in
set_option maxRecDepth 100000 in
theorem Fo_pass_L19_ok {p : Program} {l : Launch} {e : Env} {R : Room} {s : State} {m : MethodId} {args : Array Value} {below : List Frame} {meth : Method} {c : Code} {D : va_G} {ad : Nat → Nat} {cI cB : ClassId} {A : Nat → Prop} {cells slots : Nat} {Q : State → Prop} (X : Cx p R s m args meth c jR8 prog_4_method_5_code 6 5 D ad cI cB A cells slots) (fu : Nat) (l1 : Int32) (kont : (Int32 → Sg → Option Sg)) {K : Sg → Prop} (hQ : RV p l e R s m args below meth c 6 D ad cI cB A cells slots Q prog_4_method_5_code K) (hk : ∀ (l3 : Int32) (σ : Sg), wpO (kont l3 σ) K → V p l e R s m args below meth c 6 D A cells slots Q (wl ad cI cB σ) 91 [(0, Value.ref (ad 66)), (1, Value.int l1), (3, Value.int l3)] []) : ∀ (n : Nat) (l3 : Int32) (σ : Sg), wpO (Fo_pass_L19 fu l1 kont n l3 σ) K → V p l e R s m args below meth c 6 D A cells slots Q (wl ad cI cB σ) 19 [(0, Value.ref (ad 66)), (1, Value.int l1), (3, Value.int l3)] [] := by
  intro n
  induction n with
  | zero =>
    intro l3 σ h
    exact (wp_none h).elim
  | succ n ih =>
    intro l3 σ h
    rw [Fo_pass_L19] at h
    refine V_iload_n X 2 d_Fo_pass_19 rfl ?_
    refine V_iload_n X 1 d_Fo_pass_20 rfl ?_
    refine V_icmp_ge X 91 d_Fo_pass_21 (by decide) h (fun c2 h => ?_) (fun c2 h => ?_)
    · skip
      exact hk l3 σ h
    · skip
      refine V_aload_n X 0 d_Fo_pass_24 rfl ?_
      refine V_aload_n X 0 d_Fo_pass_25 rfl ?_
      refine V_getR X 8 1 67 rfl ji8 (by decide) (by decide) (by decide) fl_Fo_10 d_Fo_pass_26 (by decide) (by decide) (by decide) (by decide) ?_
      refine V_cI X h (fun r3 q => C_V (q := 3) X [] mt_Sh_suits ms_Sh_suits ml_Fo_34 (k_Sh_suits σ 67 (by decide) (by decide) r3 q) rfl rfl (by omega) (Nat.le_of_ble_eq_true rfl) rfl (by decide) (by decide) (by decide) d_Fo_pass_29) (fun r3 h => ?_)
      refine V_cP X h (fun r4 s5 q => C_V (q := 8) X [Value.int r3] mt_Fo_draw ms_Fo_draw ml_Fo_37 (k_Fo_draw σ r3 r4 s5 q) rfl rfl (by omega) (Nat.le_of_ble_eq_true rfl) rfl (by decide) (by decide) (by decide) d_Fo_pass_32) (fun r4 s5 h => ?_)
      refine V_istore X [(4, Value.int r4), (0, Value.ref (ad 66)), (1, Value.int l1), (3, Value.int l3)] d_Fo_pass_35 (by decide) rfl ?_
      refine V_aload_n X 1 d_Fo_pass_37 rfl ?_
      refine V_aload_n X 1 d_Fo_pass_38 rfl ?_
      refine V_getR X 8 1 67 rfl ji8 (by decide) (by decide) (by decide) fl_Fo_10 d_Fo_pass_39 (by decide) (by decide) (by decide) (by decide) ?_
      refine V_cI X h (fun r6 q => C_V (q := 3) X [] mt_Sh_trees ms_Sh_trees ml_Fo_41 (k_Sh_trees s5 67 (by decide) (by decide) r6 q) rfl rfl (by omega) (Nat.le_of_ble_eq_true rfl) rfl (by decide) (by decide) (by decide) d_Fo_pass_42) (fun r6 h => ?_)
      refine V_cP X h (fun r7 s8 q => C_V (q := 8) X [Value.int r6] mt_Fo_draw ms_Fo_draw ml_Fo_37 (k_Fo_draw s5 r6 r7 s8 q) rfl rfl (by omega) (Nat.le_of_ble_eq_true rfl) rfl (by decide) (by decide) (by decide) d_Fo_pass_45) (fun r7 s8 h => ?_)
      refine V_istore X [(5, Value.int r7), (4, Value.int r4), (0, Value.ref (ad 66)), (1, Value.int l1), (3, Value.int l3)] d_Fo_pass_48 (by decide) rfl ?_
      refine V_aload_n X 2 d_Fo_pass_50 rfl ?_
      refine V_getR X 8 1 67 rfl ji8 (by decide) (by decide) (by decide) fl_Fo_10 d_Fo_pass_51 (by decide) (by decide) (by decide) (by decide) ?_
      refine V_iload X 1 d_Fo_pass_54 rfl ?_
      refine V_iload X 0 d_Fo_pass_56 rfl ?_
      refine V_cI X h (fun r9 q => C_V (q := 3) X [Value.int r4, Value.int r7] mt_Sh_isPossible ms_Sh_isPossible ml_Fo_44 (k_Sh_isPossible s8 67 (by decide) (by decide) r4 r7 r9 q) rfl rfl (by omega) (Nat.le_of_ble_eq_true rfl) rfl (by decide) (by decide) (by decide) d_Fo_pass_58) (fun r9 h => ?_)
      refine V_if_eq X 78 d_Fo_pass_61 (by decide) h (fun c10 h => ?_) (fun c10 h => ?_)
      · skip
        refine V_aload_n X 2 d_Fo_pass_78 rfl ?_
        refine V_getR X 8 1 67 rfl ji8 (by decide) (by decide) (by decide) fl_Fo_10 d_Fo_pass_79 (by decide) (by decide) (by decide) (by decide) ?_
        refine V_cV X h (fun s11 q => C_V (q := 3) X [] mt_Sh_passYear ms_Sh_passYear ml_Fo_52 (k_Sh_passYear fu s8 67 (by decide) (by decide) s11 q) rfl rfl (by omega) (Nat.le_of_ble_eq_true rfl) rfl (by decide) (by decide) (by decide) d_Fo_pass_82) (fun s11 h => ?_)
        refine V_iinc X 4 (l3 + (1 : Int32)) [(3, Value.int (l3 + (1 : Int32))), (5, Value.int r7), (4, Value.int r4), (0, Value.ref (ad 66)), (1, Value.int l1)] d_Fo_pass_85 rfl (by first | rfl | decide) (by decide) rfl ?_
        refine V_goto X 19 d_Fo_pass_88 (by decide) ?_
        refine V_sub (lv' := [(0, Value.ref (ad 66)), (1, Value.int l1), (3, Value.int (l3 + (1 : Int32)))]) [3, 4, 0] rfl ?_
        exact ih (l3 + (1 : Int32)) s11 h
      · skip
        refine V_aload_n X 2 d_Fo_pass_64 rfl ?_
        refine V_getR X 8 1 67 rfl ji8 (by decide) (by decide) (by decide) fl_Fo_10 d_Fo_pass_65 (by decide) (by decide) (by decide) (by decide) ?_
        refine V_iload X 1 d_Fo_pass_68 rfl ?_
        refine V_iload X 0 d_Fo_pass_70 rfl ?_
        refine V_cV X h (fun s12 q => C_V (q := 3) X [Value.int r4, Value.int r7] mt_Sh_pluckAndRight ms_Sh_pluckAndRight ml_Fo_48 (k_Sh_pluckAndRight s8 67 (by decide) (by decide) r4 r7 s12 q) rfl rfl (by omega) (Nat.le_of_ble_eq_true rfl) rfl (by decide) (by decide) (by decide) d_Fo_pass_72) (fun s12 h => ?_)
        refine V_goto X 85 d_Fo_pass_75 (by decide) ?_
        refine V_iinc X 4 (l3 + (1 : Int32)) [(3, Value.int (l3 + (1 : Int32))), (5, Value.int r7), (4, Value.int r4), (0, Value.ref (ad 66)), (1, Value.int l1)] d_Fo_pass_85 rfl (by first | rfl | decide) (by decide) rfl ?_
        refine V_goto X 19 d_Fo_pass_88 (by decide) ?_
        refine V_sub (lv' := [(0, Value.ref (ad 66)), (1, Value.int l1), (3, Value.int (l3 + (1 : Int32)))]) [3, 4, 0] rfl ?_
        exact ih (l3 + (1 : Int32)) s12 h
set_option maxHeartbeats 4000000 in
set_option maxRecDepth 100000 in
theorem k_Fo_pass (fu : Nat) (σ : Sg) (a0 : Int32) (a1 : Int32) (σ' : Sg) (h : Fo_pass fu σ a0 a1 = some σ') : Evc y_Fo_pass prog_4_method_5_code 6 (none) 5 (fun ad => [Value.ref (ad 66), Value.int a0, Value.int a1]) σ σ' (fun _ => none) := by
  refine Evc_ofV (by decide) (fun ad => Nat.le_of_ble_eq_true rfl) (fun p l e R s m args below meth c D ad cI cB A Q X hQ => ?_)
  have X : Cx p R s m args meth c jR8 prog_4_method_5_code 6 5 D ad cI cB A 0 0 := X
  have h : wpO (Fo_pass fu σ a0 a1) (fun q => q = σ') := ⟨_, h, rfl⟩
  rw [Fo_pass] at h
  refine V_sub (lv' := [(0, Value.ref (ad 66)), (1, Value.int a0), (2, Value.int a1)]) [0, 1, 2] rfl ?_
  refine V_aload_n X 0 d_Fo_pass_0 rfl ?_
  refine V_getR X 8 1 67 rfl ji8 (by decide) (by decide) (by decide) fl_Fo_10 d_Fo_pass_1 (by decide) (by decide) (by decide) (by decide) ?_
  refine V_aload_n X 0 d_Fo_pass_4 rfl ?_
  refine V_getR X 8 0 5 rfl ji8 (by decide) (by decide) (by decide) fl_Fo_16 d_Fo_pass_5 (by decide) (by decide) (by decide) (by decide) ?_
  refine V_cV X h (fun s1 q => C_V (q := 3) X [Value.ref (ad 5)] mt_Sh_copyFrom ms_Sh_copyFrom ml_Fo_30 (k_Sh_copyFrom fu σ 67 (by decide) (by decide) 5 (by decide) (by decide) s1 q) rfl rfl (by omega) (Nat.le_of_ble_eq_true rfl) rfl (by decide) (by decide) (by decide) d_Fo_pass_8) (fun s1 h => ?_)
  refine V_aload_n X 0 d_Fo_pass_11 rfl ?_
  refine V_iload_n X 2 d_Fo_pass_12 rfl ?_
  refine V_i2l X d_Fo_pass_13 ?_
  refine V_putL X 8 2 rfl ji8 jk8 jn8 (by decide) (by decide) (by decide) rfl (by decide +kernel) fl_Fo_26 d_Fo_pass_14 (by decide) (by decide) (by decide) ?_
  refine V_iconst (v := 0) X d_Fo_pass_17 (by decide) ?_
  refine V_istore_n X [(3, Value.int (0 : Int32)), (0, Value.ref (ad 66)), (1, Value.int a0), (2, Value.int a1)] d_Fo_pass_18 (by decide) rfl ?_
  refine V_sub (lv' := [(0, Value.ref (ad 66)), (1, Value.int a0), (3, Value.int (0 : Int32))]) [1, 2, 0] rfl ?_
  refine Fo_pass_L19_ok X fu a0 _ hQ (fun l3_13 s14 h => ?_) fu (0 : Int32) (sL s1 66 2 a1.toInt64) h
  have h9 := wp_some h
  exact hQ _ h9 _ _ d_Fo_pass_91
set_option maxHeartbeats 4000000 in
set_option maxRecDepth 100000 in
theorem k_Sh_rightings (σ : Sg) (k : Nat) (hl_k : k < 93) (hc_k : jv_cls k = 3) (r : Int32) (h : Sh_rightings σ k = some r) : Evc y_Sh_rightings prog_10_method_12_code 1 (some .int) 1 (fun ad => [Value.ref (ad k)]) σ σ (fun _ => some (.int r)) := by
  refine Evc_ofI (by decide) (fun ad => Nat.le_of_ble_eq_true rfl) (fun p l e R s m args below meth c D ad cI cB A Q X hQ => ?_)
  have X : Cx p R s m args meth c jR3 prog_10_method_12_code 1 1 D ad cI cB A 0 0 := X
  have hQ := hQ.pure
  have h : wpO (Sh_rightings σ k) (fun q => q = r) := ⟨_, h, rfl⟩
  rw [Sh_rightings] at h
  refine V_sub (lv' := [(0, Value.ref (ad k))]) [0] rfl ?_
  refine V_aload_n X 0 d_Sh_rightings_0 rfl ?_
  refine V_getI X 3 13 rfl ji3 (by decide) (by decide) (by decide) fl_Sh_61 d_Sh_rightings_1 hl_k hc_k (by decide) ?_
  have h9 := wp_some h
  exact hQ _ h9 (fun h9 => absurd h9 (by decide)) _ _ d_Sh_rightings_4
set_option maxHeartbeats 4000000 in
set_option maxRecDepth 100000 in
theorem k_Fo_rightings (σ : Sg) (r : Int32) (h : Fo_rightings σ = some r) : Evc y_Fo_rightings prog_4_method_2_code 1 (some .int) 2 (fun ad => [Value.ref (ad 66)]) σ σ (fun _ => some (.int r)) := by
  refine Evc_ofI (by decide) (fun ad => Nat.le_of_ble_eq_true rfl) (fun p l e R s m args below meth c D ad cI cB A Q X hQ => ?_)
  have X : Cx p R s m args meth c jR8 prog_4_method_2_code 1 2 D ad cI cB A 0 0 := X
  have hQ := hQ.pure
  have h : wpO (Fo_rightings σ) (fun q => q = r) := ⟨_, h, rfl⟩
  rw [Fo_rightings] at h
  refine V_sub (lv' := [(0, Value.ref (ad 66))]) [0] rfl ?_
  refine V_aload_n X 0 d_Fo_rightings_0 rfl ?_
  refine V_getR X 8 1 67 rfl ji8 (by decide) (by decide) (by decide) fl_Fo_10 d_Fo_rightings_1 (by decide) (by decide) (by decide) (by decide) ?_
  refine V_cI X h (fun r1 q => C_V (q := 3) X [] mt_Sh_rightings ms_Sh_rightings ml_Fo_19 (k_Sh_rightings σ 67 (by decide) (by decide) r1 q) rfl rfl (by omega) (Nat.le_of_ble_eq_true rfl) rfl (by decide) (by decide) (by decide) d_Fo_rightings_4) (fun r1 h => ?_)
  refine V_aload_n X 0 d_Fo_rightings_7 rfl ?_
  refine V_getR X 8 0 5 rfl ji8 (by decide) (by decide) (by decide) fl_Fo_16 d_Fo_rightings_8 (by decide) (by decide) (by decide) (by decide) ?_
  refine V_cI X h (fun r2 q => C_V (q := 3) X [] mt_Sh_rightings ms_Sh_rightings ml_Fo_19 (k_Sh_rightings σ 5 (by decide) (by decide) r2 q) rfl rfl (by omega) (Nat.le_of_ble_eq_true rfl) rfl (by decide) (by decide) (by decide) d_Fo_rightings_11) (fun r2 h => ?_)
  refine V_isub X d_Fo_rightings_14 ?_
  have h9 := wp_some h
  exact hQ _ h9 (fun h9 => absurd h9 (by decide)) _ _ d_Fo_rightings_15
set_option maxHeartbeats 4000000 in
set_option maxRecDepth 100000 in
theorem Sh_worthOf_L4_ok {p : Program} {l : Launch} {e : Env} {R : Room} {s : State} {m : MethodId} {args : Array Value} {below : List Frame} {meth : Method} {c : Code} {D : va_G} {ad : Nat → Nat} {cI cB : ClassId} {A : Nat → Prop} {cells slots : Nat} {Q : State → Prop} (X : Cx p R s m args meth c jR3 prog_10_method_28_code 4 2 D ad cI cB A cells slots) (fu : Nat) (k : Nat) (hl_k : k < 93) (hc_k : jv_cls k = 3) (l1 : Int32) (σ : Sg) (kont : (Int32 → Int32 → Option Int32)) {K : Int32 → Prop} (hQ : RP p l e R s m args below meth c 4 D ad cI cB A cells slots Q prog_10_method_28_code false σ K) (hk : ∀ (l2 : Int32) (l3 : Int32), wpO (kont l2 l3) K → V p l e R s m args below meth c 4 D A cells slots Q (wl ad cI cB σ) 41 [(0, Value.ref (ad k)), (1, Value.int l1), (2, Value.int l2), (3, Value.int l3)] []) : ∀ (n : Nat) (l2 : Int32) (l3 : Int32), wpO (Sh_worthOf_L4 fu k l1 σ kont n l2 l3) K → V p l e R s m args below meth c 4 D A cells slots Q (wl ad cI cB σ) 4 [(0, Value.ref (ad k)), (1, Value.int l1), (2, Value.int l2), (3, Value.int l3)] [] := by
  intro n
  induction n with
  | zero =>
    intro l2 l3 h
    exact (wp_none h).elim
  | succ n ih =>
    intro l2 l3 h
    rw [Sh_worthOf_L4] at h
    refine V_iload_n X 3 d_Sh_worthOf_4 rfl ?_
    refine V_aload_n X 0 d_Sh_worthOf_5 rfl ?_
    refine V_getI X 3 1 rfl ji3 (by decide) (by decide) (by decide) fl_Sh_52 d_Sh_worthOf_6 hl_k hc_k (by decide) ?_
    refine V_icmp_ge X 41 d_Sh_worthOf_9 (by decide) h (fun c1 h => ?_) (fun c1 h => ?_)
    · skip
      exact hk l2 l3 h
    · skip
      refine V_iload_n X 2 d_Sh_worthOf_12 rfl ?_
      refine V_iload_n X 1 d_Sh_worthOf_13 rfl ?_
      refine V_iload_n X 3 d_Sh_worthOf_14 rfl ?_
      refine V_cI X h (fun r2 q => C_SN X [Value.int l1, Value.int l3] mt_Co_has ms_Co_has mn_Sh_105 (k_Co_has σ l1 l3 r2 q) rfl rfl (by omega) (Nat.le_of_ble_eq_true rfl) d_Sh_worthOf_15) (fun r2 h => ?_)
      refine V_if_eq X 32 d_Sh_worthOf_18 (by decide) h (fun c3 h => ?_) (fun c3 h => ?_)
      · skip
        refine V_iconst (v := 0) X d_Sh_worthOf_32 (by decide) ?_
        refine V_iadd X d_Sh_worthOf_33 ?_
        refine V_istore_n X [(2, Value.int (l2 + (0 : Int32))), (0, Value.ref (ad k)), (1, Value.int l1), (3, Value.int l3)] d_Sh_worthOf_34 (by decide) rfl ?_
        refine V_iinc X 3 (l3 + (1 : Int32)) [(3, Value.int (l3 + (1 : Int32))), (2, Value.int (l2 + (0 : Int32))), (0, Value.ref (ad k)), (1, Value.int l1)] d_Sh_worthOf_35 rfl (by first | rfl | decide) (by decide) rfl ?_
        refine V_goto X 4 d_Sh_worthOf_38 (by decide) ?_
        refine V_sub (lv' := [(0, Value.ref (ad k)), (1, Value.int l1), (2, Value.int (l2 + (0 : Int32))), (3, Value.int (l3 + (1 : Int32)))]) [2, 3, 1, 0] rfl ?_
        exact ih (l2 + (0 : Int32)) (l3 + (1 : Int32)) h
      · skip
        refine V_aload_n X 0 d_Sh_worthOf_21 rfl ?_
        refine V_getR X 3 6 (k + 9) rfl ji3 (by decide) (by decide) (by decide) fl_Sh_29 d_Sh_worthOf_22 hl_k hc_k (by decide) (jl_sh6 k hl_k hc_k).2.2 ?_
        refine V_iload_n X 3 d_Sh_worthOf_25 rfl ?_
        refine V_cI X h (fun r4 q => C_V (q := 9) X [Value.int l3] mt_Rw_at ms_Rw_at ml_Sh_71 (k_Rw_at σ (k + 9) (jl_sh6 k hl_k hc_k).1 (jl_sh6 k hl_k hc_k).2.1 l3 r4 q) rfl rfl (by omega) (Nat.le_of_ble_eq_true rfl) rfl (jl_sh6 k hl_k hc_k).1 (jl_sh6 k hl_k hc_k).2.1 (by decide) d_Sh_worthOf_26) (fun r4 h => ?_)
        refine V_goto X 33 d_Sh_worthOf_29 (by decide) ?_
        refine V_iadd X d_Sh_worthOf_33 ?_
        refine V_istore_n X [(2, Value.int (l2 + r4)), (0, Value.ref (ad k)), (1, Value.int l1), (3, Value.int l3)] d_Sh_worthOf_34 (by decide) rfl ?_
        refine V_iinc X 3 (l3 + (1 : Int32)) [(3, Value.int (l3 + (1 : Int32))), (2, Value.int (l2 + r4)), (0, Value.ref (ad k)), (1, Value.int l1)] d_Sh_worthOf_35 rfl (by first | rfl | decide) (by decide) rfl ?_
        refine V_goto X 4 d_Sh_worthOf_38 (by decide) ?_
        refine V_sub (lv' := [(0, Value.ref (ad k)), (1, Value.int l1), (2, Value.int (l2 + r4)), (3, Value.int (l3 + (1 : Int32)))]) [2, 3, 1, 0] rfl ?_
        exact ih (l2 + r4) (l3 + (1 : Int32)) h
set_option maxHeartbeats 4000000 in
set_option maxRecDepth 100000 in
theorem k_Sh_worthOf (fu : Nat) (σ : Sg) (k : Nat) (hl_k : k < 93) (hc_k : jv_cls k = 3) (a0 : Int32) (r : Int32) (h : Sh_worthOf fu σ k a0 = some r) : Evc y_Sh_worthOf prog_10_method_28_code 4 (some .int) 2 (fun ad => [Value.ref (ad k), Value.int a0]) σ σ (fun _ => some (.int r)) := by
  refine Evc_ofI (by decide) (fun ad => Nat.le_of_ble_eq_true rfl) (fun p l e R s m args below meth c D ad cI cB A Q X hQ => ?_)
  have X : Cx p R s m args meth c jR3 prog_10_method_28_code 4 2 D ad cI cB A 0 0 := X
  have hQ := hQ.pure
  have h : wpO (Sh_worthOf fu σ k a0) (fun q => q = r) := ⟨_, h, rfl⟩
  rw [Sh_worthOf] at h
  refine V_sub (lv' := [(0, Value.ref (ad k)), (1, Value.int a0)]) [0, 1] rfl ?_
  refine V_iconst (v := 0) X d_Sh_worthOf_0 (by decide) ?_
  refine V_istore_n X [(2, Value.int (0 : Int32)), (0, Value.ref (ad k)), (1, Value.int a0)] d_Sh_worthOf_1 (by decide) rfl ?_
  refine V_iconst (v := 0) X d_Sh_worthOf_2 (by decide) ?_
  refine V_istore_n X [(3, Value.int (0 : Int32)), (2, Value.int (0 : Int32)), (0, Value.ref (ad k)), (1, Value.int a0)] d_Sh_worthOf_3 (by decide) rfl ?_
  refine V_sub (lv' := [(0, Value.ref (ad k)), (1, Value.int a0), (2, Value.int (0 : Int32)), (3, Value.int (0 : Int32))]) [2, 3, 1, 0] rfl ?_
  refine Sh_worthOf_L4_ok X fu k hl_k hc_k a0 σ _ hQ (fun l2_5 l3_6 h => ?_) fu (0 : Int32) (0 : Int32) h
  refine V_iload_n X 2 d_Sh_worthOf_41 rfl ?_
  have h9 := wp_some h
  exact hQ _ h9 (fun h9 => absurd h9 (by decide)) _ _ d_Sh_worthOf_42
set_option maxHeartbeats 4000000 in
set_option maxRecDepth 100000 in
theorem k_Sh_holds (fu : Nat) (σ : Sg) (k : Nat) (hl_k : k < 93) (hc_k : jv_cls k = 3) (r : Int32) (h : Sh_holds fu σ k = some r) : Evc y_Sh_holds prog_10_method_27_code 1 (some .int) 3 (fun ad => [Value.ref (ad k)]) σ σ (fun _ => some (.int r)) := by
  refine Evc_ofI (by decide) (fun ad => Nat.le_of_ble_eq_true rfl) (fun p l e R s m args below meth c D ad cI cB A Q X hQ => ?_)
  have X : Cx p R s m args meth c jR3 prog_10_method_27_code 1 3 D ad cI cB A 0 0 := X
  have hQ := hQ.pure
  have h : wpO (Sh_holds fu σ k) (fun q => q = r) := ⟨_, h, rfl⟩
  rw [Sh_holds] at h
  refine V_sub (lv' := [(0, Value.ref (ad k))]) [0] rfl ?_
  refine V_aload_n X 0 d_Sh_holds_0 rfl ?_
  refine V_aload_n X 0 d_Sh_holds_1 rfl ?_
  refine V_getI X 3 11 rfl ji3 (by decide) (by decide) (by decide) fl_Sh_55 d_Sh_holds_2 hl_k hc_k (by decide) ?_
  refine V_cI X h (fun r1 q => C_V (q := 3) X [Value.int (gF σ k 11)] mt_Sh_worthOf ms_Sh_worthOf ml_Sh_102 (k_Sh_worthOf fu σ k hl_k hc_k (gF σ k 11) r1 q) rfl rfl (by omega) (Nat.le_of_ble_eq_true rfl) rfl hl_k hc_k (by decide) d_Sh_holds_5) (fun r1 h => ?_)
  have h9 := wp_some h
  exact hQ _ h9 (fun h9 => absurd h9 (by decide)) _ _ d_Sh_holds_8
set_option maxHeartbeats 4000000 in
set_option maxRecDepth 100000 in
theorem k_Fo_holds (fu : Nat) (σ : Sg) (r : Int32) (h : Fo_holds fu σ = some r) : Evc y_Fo_holds prog_4_method_3_code 1 (some .int) 4 (fun ad => [Value.ref (ad 66)]) σ σ (fun _ => some (.int r)) := by
  refine Evc_ofI (by decide) (fun ad => Nat.le_of_ble_eq_true rfl) (fun p l e R s m args below meth c D ad cI cB A Q X hQ => ?_)
  have X : Cx p R s m args meth c jR8 prog_4_method_3_code 1 4 D ad cI cB A 0 0 := X
  have hQ := hQ.pure
  have h : wpO (Fo_holds fu σ) (fun q => q = r) := ⟨_, h, rfl⟩
  rw [Fo_holds] at h
  refine V_sub (lv' := [(0, Value.ref (ad 66))]) [0] rfl ?_
  refine V_aload_n X 0 d_Fo_holds_0 rfl ?_
  refine V_getR X 8 1 67 rfl ji8 (by decide) (by decide) (by decide) fl_Fo_10 d_Fo_holds_1 (by decide) (by decide) (by decide) (by decide) ?_
  refine V_cI X h (fun r1 q => C_V (q := 3) X [] mt_Sh_holds ms_Sh_holds ml_Fo_23 (k_Sh_holds fu σ 67 (by decide) (by decide) r1 q) rfl rfl (by omega) (Nat.le_of_ble_eq_true rfl) rfl (by decide) (by decide) (by decide) d_Fo_holds_4) (fun r1 h => ?_)
  have h9 := wp_some h
  exact hQ _ h9 (fun h9 => absurd h9 (by decide)) _ _ d_Fo_holds_7
set_option maxHeartbeats 4000000 in
set_option maxRecDepth 100000 in
theorem k_Fo_seed (σ : Sg) (r : Int32) (h : Fo_seed σ = some r) : Evc y_Fo_seed prog_4_method_4_code 1 (some .int) 1 (fun ad => [Value.ref (ad 66)]) σ σ (fun _ => some (.int r)) := by
  refine Evc_ofI (by decide) (fun ad => Nat.le_of_ble_eq_true rfl) (fun p l e R s m args below meth c D ad cI cB A Q X hQ => ?_)
  have X : Cx p R s m args meth c jR8 prog_4_method_4_code 1 1 D ad cI cB A 0 0 := X
  have hQ := hQ.pure
  have h : wpO (Fo_seed σ) (fun q => q = r) := ⟨_, h, rfl⟩
  rw [Fo_seed] at h
  refine V_sub (lv' := [(0, Value.ref (ad 66))]) [0] rfl ?_
  refine V_aload_n X 0 d_Fo_seed_0 rfl ?_
  refine V_getL X 8 2 rfl ji8 (by decide) (by decide) (by decide) fl_Fo_26 d_Fo_seed_1 (by decide) (by decide) (by decide) ?_
  refine V_l2i X d_Fo_seed_4 ?_
  have h9 := wp_some h
  exact hQ _ h9 (fun h9 => absurd h9 (by decide)) _ _ d_Fo_seed_5
set_option maxHeartbeats 4000000 in
set_option maxRecDepth 100000 in
theorem k_Co_centuries (fu : Nat) (σ : Sg) (a0 : Int32) (a1 : Int32) (a2 : Int32) (r : Int32) (σ' : Sg) (h : Co_centuries fu σ a0 a1 a2 = some (r, σ')) : Evc y_Co_centuries prog_1_method_19_code 4 (some .int) 6 (fun ad => [Value.ref (ad 0), Value.int a0, Value.int a1, Value.int a2]) σ σ' (fun _ => some (.int r)) := by
  refine Evc_ofI (by decide) (fun ad => Nat.le_of_ble_eq_true rfl) (fun p l e R s m args below meth c D ad cI cB A Q X hQ => ?_)
  have X : Cx p R s m args meth c jR0 prog_1_method_19_code 4 6 D ad cI cB A 0 0 := X
  have h : wpO (Co_centuries fu σ a0 a1 a2) (fun q => q = (r, σ')) := ⟨_, h, rfl⟩
  rw [Co_centuries] at h
  refine V_sub (lv' := [(0, Value.ref (ad 0)), (1, Value.int a0), (2, Value.int a1), (3, Value.int a2)]) [0, 1, 2, 3] rfl ?_
  refine V_iload_n X 1 d_Co_centuries_0 rfl ?_
  refine V_iconst (v := 1) X d_Co_centuries_1 (by decide) ?_
  refine V_icmp_lt X 24 d_Co_centuries_2 (by decide) h (fun c1 h => ?_) (fun c1 h => ?_)
  · skip
    refine V_bipush (v := -102) X d_Co_centuries_24 (by decide) ?_
    have h9 := wp_some h
    exact hQ _ _ h9 (fun h9 => absurd h9 (by decide)) _ _ d_Co_centuries_26
  · skip
    refine V_iload_n X 1 d_Co_centuries_5 rfl ?_
    refine V_bipush (v := 60) X d_Co_centuries_6 (by decide) ?_
    refine V_icmp_gt X 24 d_Co_centuries_8 (by decide) h (fun c2 h => ?_) (fun c2 h => ?_)
    · skip
      refine V_bipush (v := -102) X d_Co_centuries_24 (by decide) ?_
      have h9 := wp_some h
      exact hQ _ _ h9 (fun h9 => absurd h9 (by decide)) _ _ d_Co_centuries_26
    · skip
      refine V_iload_n X 2 d_Co_centuries_11 rfl ?_
      refine V_if_lt X 24 d_Co_centuries_12 (by decide) h (fun c3 h => ?_) (fun c3 h => ?_)
      · skip
        refine V_bipush (v := -102) X d_Co_centuries_24 (by decide) ?_
        have h9 := wp_some h
        exact hQ _ _ h9 (fun h9 => absurd h9 (by decide)) _ _ d_Co_centuries_26
      · skip
        refine V_iload_n X 3 d_Co_centuries_15 rfl ?_
        refine V_if_lt X 24 d_Co_centuries_16 (by decide) h (fun c4 h => ?_) (fun c4 h => ?_)
        · skip
          refine V_bipush (v := -102) X d_Co_centuries_24 (by decide) ?_
          have h9 := wp_some h
          exact hQ _ _ h9 (fun h9 => absurd h9 (by decide)) _ _ d_Co_centuries_26
        · skip
          refine V_iload_n X 3 d_Co_centuries_19 rfl ?_
          refine V_iconst (v := 2) X d_Co_centuries_20 (by decide) ?_
          refine V_icmp_le X 27 d_Co_centuries_21 (by decide) h (fun c5 h => ?_) (fun c5 h => ?_)
          · skip
            refine V_aload_n X 0 d_Co_centuries_27 rfl ?_
            refine V_cI X h (fun r6 q => C_V (q := 0) X [] mt_Co_isRead ms_Co_isRead ml_Co_161 (k_Co_isRead σ r6 q) rfl rfl (by omega) (Nat.le_of_ble_eq_true rfl) rfl (by decide) (by decide) (by decide) d_Co_centuries_28) (fun r6 h => ?_)
            refine V_if_ne X 37 d_Co_centuries_31 (by decide) h (fun c7 h => ?_) (fun c7 h => ?_)
            · skip
              refine V_aload_n X 0 d_Co_centuries_37 rfl ?_
              refine V_getR X 0 7 66 rfl ji0 (by decide) (by decide) (by decide) fl_Co_61 d_Co_centuries_38 (by decide) (by decide) (by decide) (by decide) ?_
              refine V_iload_n X 1 d_Co_centuries_41 rfl ?_
              refine V_iload_n X 2 d_Co_centuries_42 rfl ?_
              refine V_cV X h (fun s8 q => C_V (q := 8) X [Value.int a0, Value.int a1] mt_Fo_pass ms_Fo_pass ml_Co_230 (k_Fo_pass fu σ a0 a1 s8 q) rfl rfl (by omega) (Nat.le_of_ble_eq_true rfl) rfl (by decide) (by decide) (by decide) d_Co_centuries_43) (fun s8 h => ?_)
              refine V_iload_n X 3 d_Co_centuries_46 rfl ?_
              rcases wp_case h with ⟨c9, h⟩ | ⟨c9, h⟩
              · skip
                refine V_lookup X 25 72 d_Co_centuries_47 (by decide) (by rw [c9]; decide) (by decide) ?_
                refine V_aload_n X 0 d_Co_centuries_72 rfl ?_
                refine V_getR X 0 7 66 rfl ji0 (by decide) (by decide) (by decide) fl_Co_61 d_Co_centuries_73 (by decide) (by decide) (by decide) (by decide) ?_
                refine V_cI X h (fun r10 q => C_V (q := 8) X [] mt_Fo_rightings ms_Fo_rightings ml_Co_233 (k_Fo_rightings s8 r10 q) rfl rfl (by omega) (Nat.le_of_ble_eq_true rfl) rfl (by decide) (by decide) (by decide) d_Co_centuries_76) (fun r10 h => ?_)
                have h9 := wp_some h
                exact hQ _ _ h9 (fun h9 => absurd h9 (by decide)) _ _ d_Co_centuries_79
              · skip
                rcases wp_case h with ⟨c11, h⟩ | ⟨c11, h⟩
                · skip
                  refine V_lookup X 33 80 d_Co_centuries_47 (by decide) (by rw [c11]; decide) (by decide) ?_
                  refine V_aload_n X 0 d_Co_centuries_80 rfl ?_
                  refine V_getR X 0 7 66 rfl ji0 (by decide) (by decide) (by decide) fl_Co_61 d_Co_centuries_81 (by decide) (by decide) (by decide) (by decide) ?_
                  refine V_cI X h (fun r12 q => C_V (q := 8) X [] mt_Fo_holds ms_Fo_holds ml_Co_234 (k_Fo_holds fu s8 r12 q) rfl rfl (by omega) (Nat.le_of_ble_eq_true rfl) rfl (by decide) (by decide) (by decide) d_Co_centuries_84) (fun r12 h => ?_)
                  have h9 := wp_some h
                  exact hQ _ _ h9 (fun h9 => absurd h9 (by decide)) _ _ d_Co_centuries_87
                · skip
                  refine V_lookup X 41 88 d_Co_centuries_47 (by decide) (by show Op.lookupswitch.offset [(0, 25), (1, 33)] _ _ = _; rw [Op.lookupswitch.offset_cons, if_neg (Ne.symm (sw_ne c9 (0) (by decide))), Op.lookupswitch.offset_cons, if_neg (Ne.symm (sw_ne c11 (1) (by decide))), Op.lookupswitch.offset_nil]) (by decide) ?_
                  refine V_aload_n X 0 d_Co_centuries_88 rfl ?_
                  refine V_getR X 0 7 66 rfl ji0 (by decide) (by decide) (by decide) fl_Co_61 d_Co_centuries_89 (by decide) (by decide) (by decide) (by decide) ?_
                  refine V_cI X h (fun r13 q => C_V (q := 8) X [] mt_Fo_seed ms_Fo_seed ml_Co_235 (k_Fo_seed s8 r13 q) rfl rfl (by omega) (Nat.le_of_ble_eq_true rfl) rfl (by decide) (by decide) (by decide) d_Co_centuries_92) (fun r13 h => ?_)
                  have h9 := wp_some h
                  exact hQ _ _ h9 (fun h9 => absurd h9 (by decide)) _ _ d_Co_centuries_95
            · skip
              refine V_bipush (v := -103) X d_Co_centuries_34 (by decide) ?_
              have h9 := wp_some h
              exact hQ _ _ h9 (fun h9 => absurd h9 (by decide)) _ _ d_Co_centuries_36
          · skip
            refine V_bipush (v := -102) X d_Co_centuries_24 (by decide) ?_
            have h9 := wp_some h
            exact hQ _ _ h9 (fun h9 => absurd h9 (by decide)) _ _ d_Co_centuries_26
set_option maxHeartbeats 4000000 in
set_option maxRecDepth 100000 in
theorem Rw_sum_L4_ok {p : Program} {l : Launch} {e : Env} {R : Room} {s : State} {m : MethodId} {args : Array Value} {below : List Frame} {meth : Method} {c : Code} {D : va_G} {ad : Nat → Nat} {cI cB : ClassId} {A : Nat → Prop} {cells slots : Nat} {Q : State → Prop} (X : Cx p R s m args meth c jR9 prog_9_method_5_code 4 2 D ad cI cB A cells slots) (fu : Nat) (k : Nat) (hl_k : k < 93) (hc_k : jv_cls k = 9) (l1 : Int32) (σ : Sg) (kont : (Int32 → Int32 → Option Int32)) {K : Int32 → Prop} (hQ : RP p l e R s m args below meth c 4 D ad cI cB A cells slots Q prog_9_method_5_code false σ K) (hk : ∀ (l2 : Int32) (l3 : Int32), wpO (kont l2 l3) K → V p l e R s m args below meth c 4 D A cells slots Q (wl ad cI cB σ) 23 [(0, Value.ref (ad k)), (1, Value.int l1), (2, Value.int l2), (3, Value.int l3)] []) : ∀ (n : Nat) (l2 : Int32) (l3 : Int32), wpO (Rw_sum_L4 fu k l1 σ kont n l2 l3) K → V p l e R s m args below meth c 4 D A cells slots Q (wl ad cI cB σ) 4 [(0, Value.ref (ad k)), (1, Value.int l1), (2, Value.int l2), (3, Value.int l3)] [] := by
  intro n
  induction n with
  | zero =>
    intro l2 l3 h
    exact (wp_none h).elim
  | succ n ih =>
    intro l2 l3 h
    rw [Rw_sum_L4] at h
    refine V_iload_n X 3 d_Rw_sum_4 rfl ?_
    refine V_iload_n X 1 d_Rw_sum_5 rfl ?_
    refine V_icmp_ge X 23 d_Rw_sum_6 (by decide) h (fun c1 h => ?_) (fun c1 h => ?_)
    · skip
      exact hk l2 l3 h
    · skip
      refine V_iload_n X 2 d_Rw_sum_9 rfl ?_
      refine V_aload_n X 0 d_Rw_sum_10 rfl ?_
      refine V_iload_n X 3 d_Rw_sum_11 rfl ?_
      refine V_cI X h (fun r2 q => C_V (q := 9) X [Value.int l3] mt_Rw_at ms_Rw_at ml_Rw_13 (k_Rw_at σ k hl_k hc_k l3 r2 q) rfl rfl (by omega) (Nat.le_of_ble_eq_true rfl) rfl hl_k hc_k (by decide) d_Rw_sum_12) (fun r2 h => ?_)
      refine V_iadd X d_Rw_sum_15 ?_
      refine V_istore_n X [(2, Value.int (l2 + r2)), (0, Value.ref (ad k)), (1, Value.int l1), (3, Value.int l3)] d_Rw_sum_16 (by decide) rfl ?_
      refine V_iinc X 3 (l3 + (1 : Int32)) [(3, Value.int (l3 + (1 : Int32))), (2, Value.int (l2 + r2)), (0, Value.ref (ad k)), (1, Value.int l1)] d_Rw_sum_17 rfl (by first | rfl | decide) (by decide) rfl ?_
      refine V_goto X 4 d_Rw_sum_20 (by decide) ?_
      refine V_sub (lv' := [(0, Value.ref (ad k)), (1, Value.int l1), (2, Value.int (l2 + r2)), (3, Value.int (l3 + (1 : Int32)))]) [2, 3, 1, 0] rfl ?_
      exact ih (l2 + r2) (l3 + (1 : Int32)) h
set_option maxHeartbeats 4000000 in
set_option maxRecDepth 100000 in
theorem k_Rw_sum (fu : Nat) (σ : Sg) (k : Nat) (hl_k : k < 93) (hc_k : jv_cls k = 9) (a0 : Int32) (r : Int32) (h : Rw_sum fu σ k a0 = some r) : Evc y_Rw_sum prog_9_method_5_code 4 (some .int) 2 (fun ad => [Value.ref (ad k), Value.int a0]) σ σ (fun _ => some (.int r)) := by
  refine Evc_ofI (by decide) (fun ad => Nat.le_of_ble_eq_true rfl) (fun p l e R s m args below meth c D ad cI cB A Q X hQ => ?_)
  have X : Cx p R s m args meth c jR9 prog_9_method_5_code 4 2 D ad cI cB A 0 0 := X
  have hQ := hQ.pure
  have h : wpO (Rw_sum fu σ k a0) (fun q => q = r) := ⟨_, h, rfl⟩
  rw [Rw_sum] at h
  refine V_sub (lv' := [(0, Value.ref (ad k)), (1, Value.int a0)]) [0, 1] rfl ?_
  refine V_iconst (v := 0) X d_Rw_sum_0 (by decide) ?_
  refine V_istore_n X [(2, Value.int (0 : Int32)), (0, Value.ref (ad k)), (1, Value.int a0)] d_Rw_sum_1 (by decide) rfl ?_
  refine V_iconst (v := 0) X d_Rw_sum_2 (by decide) ?_
  refine V_istore_n X [(3, Value.int (0 : Int32)), (2, Value.int (0 : Int32)), (0, Value.ref (ad k)), (1, Value.int a0)] d_Rw_sum_3 (by decide) rfl ?_
  refine V_sub (lv' := [(0, Value.ref (ad k)), (1, Value.int a0), (2, Value.int (0 : Int32)), (3, Value.int (0 : Int32))]) [2, 3, 1, 0] rfl ?_
  refine Rw_sum_L4_ok X fu k hl_k hc_k a0 σ _ hQ (fun l2_3 l3_4 h => ?_) fu (0 : Int32) (0 : Int32) h
  refine V_iload_n X 2 d_Rw_sum_23 rfl ?_
  have h9 := wp_some h
  exact hQ _ h9 (fun h9 => absurd h9 (by decide)) _ _ d_Rw_sum_24
set_option maxHeartbeats 4000000 in
set_option maxRecDepth 100000 in
theorem k_Sh_allBerries (fu : Nat) (σ : Sg) (k : Nat) (hl_k : k < 93) (hc_k : jv_cls k = 3) (r : Int32) (h : Sh_allBerries fu σ k = some r) : Evc y_Sh_allBerries prog_10_method_16_code 1 (some .int) 3 (fun ad => [Value.ref (ad k)]) σ σ (fun _ => some (.int r)) := by
  refine Evc_ofI (by decide) (fun ad => Nat.le_of_ble_eq_true rfl) (fun p l e R s m args below meth c D ad cI cB A Q X hQ => ?_)
  have X : Cx p R s m args meth c jR3 prog_10_method_16_code 1 3 D ad cI cB A 0 0 := X
  have hQ := hQ.pure
  have h : wpO (Sh_allBerries fu σ k) (fun q => q = r) := ⟨_, h, rfl⟩
  rw [Sh_allBerries] at h
  refine V_sub (lv' := [(0, Value.ref (ad k))]) [0] rfl ?_
  refine V_aload_n X 0 d_Sh_allBerries_0 rfl ?_
  refine V_getR X 3 2 (k + 1) rfl ji3 (by decide) (by decide) (by decide) fl_Sh_14 d_Sh_allBerries_1 hl_k hc_k (by decide) (jl_sh2 k hl_k hc_k).2.2 ?_
  refine V_aload_n X 0 d_Sh_allBerries_4 rfl ?_
  refine V_getI X 3 0 rfl ji3 (by decide) (by decide) (by decide) fl_Sh_48 d_Sh_allBerries_5 hl_k hc_k (by decide) ?_
  refine V_cI X h (fun r1 q => C_V (q := 9) X [Value.int (gF σ k 0)] mt_Rw_sum ms_Rw_sum ml_Sh_85 (k_Rw_sum fu σ (k + 1) (jl_sh2 k hl_k hc_k).1 (jl_sh2 k hl_k hc_k).2.1 (gF σ k 0) r1 q) rfl rfl (by omega) (Nat.le_of_ble_eq_true rfl) rfl (jl_sh2 k hl_k hc_k).1 (jl_sh2 k hl_k hc_k).2.1 (by decide) d_Sh_allBerries_8) (fun r1 h => ?_)
  have h9 := wp_some h
  exact hQ _ h9 (fun h9 => absurd h9 (by decide)) _ _ d_Sh_allBerries_11
set_option maxHeartbeats 4000000 in
set_option maxRecDepth 100000 in
theorem k_Sh_allBirds (fu : Nat) (σ : Sg) (k : Nat) (hl_k : k < 93) (hc_k : jv_cls k = 3) (r : Int32) (h : Sh_allBirds fu σ k = some r) : Evc y_Sh_allBirds prog_10_method_17_code 1 (some .int) 3 (fun ad => [Value.ref (ad k)]) σ σ (fun _ => some (.int r)) := by
  refine Evc_ofI (by decide) (fun ad => Nat.le_of_ble_eq_true rfl) (fun p l e R s m args below meth c D ad cI cB A Q X hQ => ?_)
  have X : Cx p R s m args meth c jR3 prog_10_method_17_code 1 3 D ad cI cB A 0 0 := X
  have hQ := hQ.pure
  have h : wpO (Sh_allBirds fu σ k) (fun q => q = r) := ⟨_, h, rfl⟩
  rw [Sh_allBirds] at h
  refine V_sub (lv' := [(0, Value.ref (ad k))]) [0] rfl ?_
  refine V_aload_n X 0 d_Sh_allBirds_0 rfl ?_
  refine V_getR X 3 3 (k + 3) rfl ji3 (by decide) (by decide) (by decide) fl_Sh_20 d_Sh_allBirds_1 hl_k hc_k (by decide) (jl_sh3 k hl_k hc_k).2.2 ?_
  refine V_aload_n X 0 d_Sh_allBirds_4 rfl ?_
  refine V_getI X 3 0 rfl ji3 (by decide) (by decide) (by decide) fl_Sh_48 d_Sh_allBirds_5 hl_k hc_k (by decide) ?_
  refine V_cI X h (fun r1 q => C_V (q := 9) X [Value.int (gF σ k 0)] mt_Rw_sum ms_Rw_sum ml_Sh_85 (k_Rw_sum fu σ (k + 3) (jl_sh3 k hl_k hc_k).1 (jl_sh3 k hl_k hc_k).2.1 (gF σ k 0) r1 q) rfl rfl (by omega) (Nat.le_of_ble_eq_true rfl) rfl (jl_sh3 k hl_k hc_k).1 (jl_sh3 k hl_k hc_k).2.1 (by decide) d_Sh_allBirds_8) (fun r1 h => ?_)
  have h9 := wp_some h
  exact hQ _ h9 (fun h9 => absurd h9 (by decide)) _ _ d_Sh_allBirds_11
set_option maxHeartbeats 4000000 in
set_option maxRecDepth 100000 in
theorem k_Sh_righted (σ : Sg) (k : Nat) (hl_k : k < 93) (hc_k : jv_cls k = 3) (r : Int32) (h : Sh_righted σ k = some r) : Evc y_Sh_righted prog_10_method_10_code 1 (some .int) 1 (fun ad => [Value.ref (ad k)]) σ σ (fun _ => some (.int r)) := by
  refine Evc_ofI (by decide) (fun ad => Nat.le_of_ble_eq_true rfl) (fun p l e R s m args below meth c D ad cI cB A Q X hQ => ?_)
  have X : Cx p R s m args meth c jR3 prog_10_method_10_code 1 1 D ad cI cB A 0 0 := X
  have hQ := hQ.pure
  have h : wpO (Sh_righted σ k) (fun q => q = r) := ⟨_, h, rfl⟩
  rw [Sh_righted] at h
  refine V_sub (lv' := [(0, Value.ref (ad k))]) [0] rfl ?_
  refine V_aload_n X 0 d_Sh_righted_0 rfl ?_
  refine V_getI X 3 11 rfl ji3 (by decide) (by decide) (by decide) fl_Sh_55 d_Sh_righted_1 hl_k hc_k (by decide) ?_
  have h9 := wp_some h
  exact hQ _ h9 (fun h9 => absurd h9 (by decide)) _ _ d_Sh_righted_4
