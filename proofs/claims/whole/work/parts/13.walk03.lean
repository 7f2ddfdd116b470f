set_option maxHeartbeats 4000000 in
set_option maxRecDepth 100000 in
theorem k_Pl_canBeBetter (fu : Nat) (σ : Sg) (a0 : Int32) (a1 : Int32) (a2 : Int32) (r : Int32) (h : Pl_canBeBetter fu σ a0 a1 a2 = some r) : Evc y_Pl_canBeBetter prog_7_method_8_code 5 (some .boolean) 3 (fun ad => [Value.ref (ad 54), Value.int a0, Value.int a1, Value.int a2]) σ σ (fun _ => some (.int r)) := by
  refine Evc_ofZ (by decide) (fun ad => Nat.le_of_ble_eq_true rfl) (fun p l e R s m args below meth c D ad cI cB A Q X hQ => ?_)
  have X : Cx p R s m args meth c jR6 prog_7_method_8_code 5 3 D ad cI cB A 0 0 := X
  have hQ := hQ.pure
  have h : wpO (Pl_canBeBetter fu σ a0 a1 a2) (fun q => q = r) := ⟨_, h, rfl⟩
  rw [Pl_canBeBetter] at h
  refine V_sub (lv' := [(0, Value.ref (ad 54)), (1, Value.int a0), (2, Value.int a1), (3, Value.int a2)]) [0, 1, 2, 3] rfl ?_
  refine V_aload_n X 0 d_Pl_canBeBetter_0 rfl ?_
  refine V_getR X 6 0 5 rfl ji6 (by decide) (by decide) (by decide) fl_Pl_26 d_Pl_canBeBetter_1 (by decide) (by decide) (by decide) (by decide) ?_
  refine V_iload_n X 2 d_Pl_canBeBetter_4 rfl ?_
  refine V_iload_n X 1 d_Pl_canBeBetter_5 rfl ?_
  refine V_cI X h (fun r1 q => C_SN X [Value.int a0] mt_Co_bit ms_Co_bit mn_Pl_93 (k_Co_bit σ a0 r1 q) rfl rfl (by omega) (Nat.le_of_ble_eq_true rfl) d_Pl_canBeBetter_6) (fun r1 h => ?_)
  refine V_ineg X d_Pl_canBeBetter_9 ?_
  refine V_ior X d_Pl_canBeBetter_10 ?_
  refine V_cI X h (fun r2 q => C_V (q := 3) X [Value.int (a1 ||| (-r1))] mt_Sh_worthOf ms_Sh_worthOf ml_Pl_72 (k_Sh_worthOf fu σ 5 (by decide) (by decide) (a1 ||| (-r1)) r2 q) rfl rfl (by omega) (Nat.le_of_ble_eq_true rfl) rfl (by decide) (by decide) (by decide) d_Pl_canBeBetter_11) (fun r2 h => ?_)
  refine V_istore X [(4, Value.int r2), (0, Value.ref (ad 54)), (1, Value.int a0), (2, Value.int a1), (3, Value.int a2)] d_Pl_canBeBetter_14 (by decide) rfl ?_
  refine V_iload X 0 d_Pl_canBeBetter_16 rfl ?_
  refine V_aload_n X 1 d_Pl_canBeBetter_18 rfl ?_
  refine V_getI X 6 4 rfl ji6 (by decide) (by decide) (by decide) fl_Pl_30 d_Pl_canBeBetter_19 (by decide) (by decide) (by decide) ?_
  refine V_icmp_gt X 42 d_Pl_canBeBetter_22 (by decide) h (fun c3 h => ?_) (fun c3 h => ?_)
  · skip
    refine V_iconst (v := 1) X d_Pl_canBeBetter_42 (by decide) ?_
    refine V_goto X 47 d_Pl_canBeBetter_43 (by decide) ?_
    have h9 := wp_some h
    exact hQ _ h9 (fun _ => by decide) _ _ d_Pl_canBeBetter_47
  · skip
    refine V_iload X 0 d_Pl_canBeBetter_25 rfl ?_
    refine V_aload_n X 1 d_Pl_canBeBetter_27 rfl ?_
    refine V_getI X 6 4 rfl ji6 (by decide) (by decide) (by decide) fl_Pl_30 d_Pl_canBeBetter_28 (by decide) (by decide) (by decide) ?_
    refine V_icmp_ne X 46 d_Pl_canBeBetter_31 (by decide) h (fun c4 h => ?_) (fun c4 h => ?_)
    · skip
      refine V_iconst (v := 0) X d_Pl_canBeBetter_46 (by decide) ?_
      have h9 := wp_some h
      exact hQ _ h9 (fun _ => by decide) _ _ d_Pl_canBeBetter_47
    · skip
      refine V_iload_n X 4 d_Pl_canBeBetter_34 rfl ?_
      refine V_aload_n X 1 d_Pl_canBeBetter_35 rfl ?_
      refine V_getI X 6 5 rfl ji6 (by decide) (by decide) (by decide) fl_Pl_34 d_Pl_canBeBetter_36 (by decide) (by decide) (by decide) ?_
      refine V_icmp_ge X 46 d_Pl_canBeBetter_39 (by decide) h (fun c5 h => ?_) (fun c5 h => ?_)
      · skip
        refine V_iconst (v := 0) X d_Pl_canBeBetter_46 (by decide) ?_
        have h9 := wp_some h
        exact hQ _ h9 (fun _ => by decide) _ _ d_Pl_canBeBetter_47
      · skip
        refine V_iconst (v := 1) X d_Pl_canBeBetter_42 (by decide) ?_
        refine V_goto X 47 d_Pl_canBeBetter_43 (by decide) ?_
        have h9 := wp_some h
        exact hQ _ h9 (fun _ => by decide) _ _ d_Pl_canBeBetter_47
set_option maxHeartbeats 4000000 in
set_option maxRecDepth 100000 in
theorem Pl_placeAtEachTree_L13_ok {p : Program} {l : Launch} {e : Env} {R : Room} {s : State} {m : MethodId} {args : Array Value} {below : List Frame} {meth : Method} {c : Code} {D : va_G} {ad : Nat → Nat} {cI cB : ClassId} {A : Nat → Prop} {cells slots : Nat} {Q : State → Prop} {rd : Nat} (X : Cx p R s m args meth c jR6 prog_7_method_7_code 7 (10 + 2 * rd) D ad cI cB A cells slots) (fu : Nat) (rec : Sg → Int32 → Int32 → Int32 → Option Sg) (hrec : ∀ (σ : Sg) (a0 a1 a2 : Int32) (σ' : Sg), rec σ a0 a1 a2 = some σ' → Evc y_Pl_placeFrom prog_7_method_6_code 4 (none) (9 + 2 * rd) (fun ad => [Value.ref (ad 54), Value.int a0, Value.int a1, Value.int a2]) σ σ' (fun _ => none)) (l1 : Int32) (l2 : Int32) (l3 : Int32) (l4 : Int32) (kont : (Int32 → Sg → Option Sg)) {K : Sg → Prop} (hQ : RV p l e R s m args below meth c 7 D ad cI cB A cells slots Q prog_7_method_7_code K) (hk : ∀ (l5 : Int32) (σ : Sg), wpO (kont l5 σ) K → V p l e R s m args below meth c 7 D A cells slots Q (wl ad cI cB σ) 93 [(0, Value.ref (ad 54)), (1, Value.int l1), (2, Value.int l2), (3, Value.int l3), (4, Value.int l4), (5, Value.int l5)] []) : ∀ (n : Nat) (l5 : Int32) (σ : Sg), wpO (Pl_placeAtEachTree_L13 fu rec l1 l2 l3 l4 kont n l5 σ) K → V p l e R s m args below meth c 7 D A cells slots Q (wl ad cI cB σ) 13 [(0, Value.ref (ad 54)), (1, Value.int l1), (2, Value.int l2), (3, Value.int l3), (4, Value.int l4), (5, Value.int l5)] [] := by
  intro n
  induction n with
  | zero =>
    intro l5 σ h
    exact (wp_none h).elim
  | succ n ih =>
    intro l5 σ h
    rw [Pl_placeAtEachTree_L13] at h
    refine V_iload X 5 d_Pl_placeAtEachTree_13 rfl ?_
    refine V_aload_n X 0 d_Pl_placeAtEachTree_15 rfl ?_
    refine V_getR X 6 0 5 rfl ji6 (by decide) (by decide) (by decide) fl_Pl_26 d_Pl_placeAtEachTree_16 (by decide) (by decide) (by decide) (by decide) ?_
    refine V_cI X h (fun r2 q => C_V (q := 3) X [] mt_Sh_trees ms_Sh_trees ml_Pl_47 (k_Sh_trees σ 5 (by decide) (by decide) r2 q) rfl rfl (by omega) (Nat.le_of_ble_eq_true rfl) rfl (by decide) (by decide) (by decide) d_Pl_placeAtEachTree_19) (fun r2 h => ?_)
    refine V_icmp_ge X 93 d_Pl_placeAtEachTree_22 (by decide) h (fun c3 h => ?_) (fun c3 h => ?_)
    · skip
      exact hk l5 σ h
    · skip
      refine V_aload_n X 0 d_Pl_placeAtEachTree_25 rfl ?_
      refine V_getR X 6 1 55 rfl ji6 (by decide) (by decide) (by decide) fl_Pl_14 d_Pl_placeAtEachTree_26 (by decide) (by decide) (by decide) (by decide) ?_
      refine V_iload X 5 d_Pl_placeAtEachTree_29 rfl ?_
      refine V_cI X h (fun r4 q => C_V (q := 9) X [Value.int l5] mt_Rw_at ms_Rw_at ml_Pl_43 (k_Rw_at σ 55 (by decide) (by decide) l5 r4 q) rfl rfl (by omega) (Nat.le_of_ble_eq_true rfl) rfl (by decide) (by decide) (by decide) d_Pl_placeAtEachTree_31) (fun r4 h => ?_)
      refine V_istore X [(6, Value.int r4), (0, Value.ref (ad 54)), (1, Value.int l1), (2, Value.int l2), (3, Value.int l3), (4, Value.int l4), (5, Value.int l5)] d_Pl_placeAtEachTree_34 (by decide) rfl ?_
      refine V_iload X 0 d_Pl_placeAtEachTree_36 rfl ?_
      refine V_iload X 5 d_Pl_placeAtEachTree_38 rfl ?_
      refine V_icmp_lt X 87 d_Pl_placeAtEachTree_40 (by decide) h (fun c5 h => ?_) (fun c5 h => ?_)
      · skip
        refine V_iinc X 6 (l5 + (1 : Int32)) [(5, Value.int (l5 + (1 : Int32))), (6, Value.int r4), (0, Value.ref (ad 54)), (1, Value.int l1), (2, Value.int l2), (3, Value.int l3), (4, Value.int l4)] d_Pl_placeAtEachTree_87 rfl (by first | rfl | decide) (by decide) rfl ?_
        refine V_goto X 13 d_Pl_placeAtEachTree_90 (by decide) ?_
        refine V_sub (lv' := [(0, Value.ref (ad 54)), (1, Value.int l1), (2, Value.int l2), (3, Value.int l3), (4, Value.int l4), (5, Value.int (l5 + (1 : Int32)))]) [2, 3, 4, 5, 6, 0] rfl ?_
        exact ih (l5 + (1 : Int32)) σ h
      · skip
        refine V_aload_n X 1 d_Pl_placeAtEachTree_43 rfl ?_
        refine V_getR X 6 1 55 rfl ji6 (by decide) (by decide) (by decide) fl_Pl_14 d_Pl_placeAtEachTree_44 (by decide) (by decide) (by decide) (by decide) ?_
        refine V_iload X 6 d_Pl_placeAtEachTree_47 rfl ?_
        refine V_iload X 0 d_Pl_placeAtEachTree_49 rfl ?_
        refine V_iload X 5 d_Pl_placeAtEachTree_51 rfl ?_
        refine V_isub X d_Pl_placeAtEachTree_53 ?_
        refine V_cV X h (fun s6 q => C_V (q := 9) X [Value.int l5, Value.int (r4 - l4)] mt_Rw_put ms_Rw_put ml_Pl_54 (k_Rw_put σ 55 (by decide) (by decide) l5 (r4 - l4) s6 q) rfl rfl (by omega) (Nat.le_of_ble_eq_true rfl) rfl (by decide) (by decide) (by decide) d_Pl_placeAtEachTree_54) (fun s6 h => ?_)
        refine V_aload_n X 1 d_Pl_placeAtEachTree_57 rfl ?_
        refine V_getR X 6 2 57 rfl ji6 (by decide) (by decide) (by decide) fl_Pl_20 d_Pl_placeAtEachTree_58 (by decide) (by decide) (by decide) (by decide) ?_
        refine V_iload_n X 2 d_Pl_placeAtEachTree_61 rfl ?_
        refine V_iload X 6 d_Pl_placeAtEachTree_62 rfl ?_
        refine V_cV X h (fun s7 q => C_V (q := 9) X [Value.int l1, Value.int l5] mt_Rw_put ms_Rw_put ml_Pl_54 (k_Rw_put s6 57 (by decide) (by decide) l1 l5 s7 q) rfl rfl (by omega) (Nat.le_of_ble_eq_true rfl) rfl (by decide) (by decide) (by decide) d_Pl_placeAtEachTree_64) (fun s7 h => ?_)
        refine V_aload_n X 1 d_Pl_placeAtEachTree_67 rfl ?_
        refine V_iload_n X 2 d_Pl_placeAtEachTree_68 rfl ?_
        refine V_iconst (v := 1) X d_Pl_placeAtEachTree_69 (by decide) ?_
        refine V_iadd X d_Pl_placeAtEachTree_70 ?_
        refine V_iload_n X 3 d_Pl_placeAtEachTree_71 rfl ?_
        refine V_iload_n X 4 d_Pl_placeAtEachTree_72 rfl ?_
        refine V_cV X h (fun s8 q => C_V (q := 6) X [Value.int (l1 + (1 : Int32)), Value.int l2, Value.int l3] mt_Pl_placeFrom ms_Pl_placeFrom ml_Pl_61 (hrec s7 (l1 + (1 : Int32)) l2 l3 s8 q) rfl rfl (by omega) (Nat.le_of_ble_eq_true rfl) rfl (by decide) (by decide) (by decide) d_Pl_placeAtEachTree_73) (fun s8 h => ?_)
        refine V_aload_n X 1 d_Pl_placeAtEachTree_76 rfl ?_
        refine V_getR X 6 1 55 rfl ji6 (by decide) (by decide) (by decide) fl_Pl_14 d_Pl_placeAtEachTree_77 (by decide) (by decide) (by decide) (by decide) ?_
        refine V_iload X 6 d_Pl_placeAtEachTree_80 rfl ?_
        refine V_iload X 0 d_Pl_placeAtEachTree_82 rfl ?_
        refine V_cV X h (fun s9 q => C_V (q := 9) X [Value.int l5, Value.int r4] mt_Rw_put ms_Rw_put ml_Pl_54 (k_Rw_put s8 55 (by decide) (by decide) l5 r4 s9 q) rfl rfl (by omega) (Nat.le_of_ble_eq_true rfl) rfl (by decide) (by decide) (by decide) d_Pl_placeAtEachTree_84) (fun s9 h => ?_)
        refine V_iinc X 6 (l5 + (1 : Int32)) [(5, Value.int (l5 + (1 : Int32))), (6, Value.int r4), (0, Value.ref (ad 54)), (1, Value.int l1), (2, Value.int l2), (3, Value.int l3), (4, Value.int l4)] d_Pl_placeAtEachTree_87 rfl (by first | rfl | decide) (by decide) rfl ?_
        refine V_goto X 13 d_Pl_placeAtEachTree_90 (by decide) ?_
        refine V_sub (lv' := [(0, Value.ref (ad 54)), (1, Value.int l1), (2, Value.int l2), (3, Value.int l3), (4, Value.int l4), (5, Value.int (l5 + (1 : Int32)))]) [2, 3, 4, 5, 6, 0] rfl ?_
        exact ih (l5 + (1 : Int32)) s9 h
set_option maxHeartbeats 4000000 in
set_option maxRecDepth 100000 in
theorem k_Pl_placeAtEachTree (fu : Nat) (rec : Sg → Int32 → Int32 → Int32 → Option Sg) (rd : Nat) (hrec : ∀ (σ : Sg) (a0 a1 a2 : Int32) (σ' : Sg), rec σ a0 a1 a2 = some σ' → Evc y_Pl_placeFrom prog_7_method_6_code 4 (none) (9 + 2 * rd) (fun ad => [Value.ref (ad 54), Value.int a0, Value.int a1, Value.int a2]) σ σ' (fun _ => none)) (σ : Sg) (a0 : Int32) (a1 : Int32) (a2 : Int32) (σ' : Sg) (h : Pl_placeAtEachTree fu rec σ a0 a1 a2 = some σ') : Evc y_Pl_placeAtEachTree prog_7_method_7_code 7 (none) (10 + 2 * rd) (fun ad => [Value.ref (ad 54), Value.int a0, Value.int a1, Value.int a2]) σ σ' (fun _ => none) := by
  refine Evc_ofV (by decide) (fun ad => Nat.le_of_ble_eq_true rfl) (fun p l e R s m args below meth c D ad cI cB A Q X hQ => ?_)
  have X : Cx p R s m args meth c jR6 prog_7_method_7_code 7 (10 + 2 * rd) D ad cI cB A 0 0 := X
  have h : wpO (Pl_placeAtEachTree fu rec σ a0 a1 a2) (fun q => q = σ') := ⟨_, h, rfl⟩
  rw [Pl_placeAtEachTree] at h
  refine V_sub (lv' := [(0, Value.ref (ad 54)), (1, Value.int a0), (2, Value.int a1), (3, Value.int a2)]) [0, 1, 2, 3] rfl ?_
  refine V_aload_n X 0 d_Pl_placeAtEachTree_0 rfl ?_
  refine V_getR X 6 0 5 rfl ji6 (by decide) (by decide) (by decide) fl_Pl_26 d_Pl_placeAtEachTree_1 (by decide) (by decide) (by decide) (by decide) ?_
  refine V_iload_n X 1 d_Pl_placeAtEachTree_4 rfl ?_
  refine V_cI X h (fun r1 q => C_V (q := 3) X [Value.int a0] mt_Sh_cost ms_Sh_cost ml_Pl_87 (k_Sh_cost σ 5 (by decide) (by decide) a0 r1 q) rfl rfl (by omega) (Nat.le_of_ble_eq_true rfl) rfl (by decide) (by decide) (by decide) d_Pl_placeAtEachTree_5) (fun r1 h => ?_)
  refine V_istore X [(4, Value.int r1), (0, Value.ref (ad 54)), (1, Value.int a0), (2, Value.int a1), (3, Value.int a2)] d_Pl_placeAtEachTree_8 (by decide) rfl ?_
  refine V_iconst (v := 0) X d_Pl_placeAtEachTree_10 (by decide) ?_
  refine V_istore X [(5, Value.int (0 : Int32)), (4, Value.int r1), (0, Value.ref (ad 54)), (1, Value.int a0), (2, Value.int a1), (3, Value.int a2)] d_Pl_placeAtEachTree_11 (by decide) rfl ?_
  refine V_sub (lv' := [(0, Value.ref (ad 54)), (1, Value.int a0), (2, Value.int a1), (3, Value.int a2), (4, Value.int r1), (5, Value.int (0 : Int32))]) [2, 3, 4, 5, 1, 0] rfl ?_
  refine Pl_placeAtEachTree_L13_ok X fu rec hrec a0 a1 a2 r1 _ hQ (fun l5_10 s11 h => ?_) fu (0 : Int32) σ h
  have h9 := wp_some h
  exact hQ _ h9 _ _ d_Pl_placeAtEachTree_93
set_option maxHeartbeats 4000000 in
set_option maxRecDepth 100000 in
theorem k_Pl_placeFrom (fu : Nat) : ∀ (rd : Nat) (σ : Sg) (a0 : Int32) (a1 : Int32) (a2 : Int32) (σ' : Sg), Pl_placeFrom fu rd σ a0 a1 a2 = some σ' → Evc y_Pl_placeFrom prog_7_method_6_code 4 (none) (9 + 2 * rd) (fun ad => [Value.ref (ad 54), Value.int a0, Value.int a1, Value.int a2]) σ σ' (fun _ => none) := by
  intro rd
  induction rd with
  | zero =>
    intro σ a0 a1 a2 σ' h
    cases h
  | succ rd hrec =>
    intro σ a0 a1 a2 σ' h
    refine Evc_ofV (by decide) (fun ad => Nat.le_of_ble_eq_true rfl) (fun p l e R s m args below meth c D ad cI cB A Q X hQ => ?_)
    have X : Cx p R s m args meth c jR6 prog_7_method_6_code 4 (9 + 2 * (rd + 1)) D ad cI cB A 0 0 := X
    have h : wpO (Pl_placeFrom fu (rd + 1) σ a0 a1 a2) (fun q => q = σ') := ⟨_, h, rfl⟩
    rw [Pl_placeFrom] at h
    generalize hrf : Pl_placeFrom fu rd = rec at h hrec
    refine V_sub (lv' := [(0, Value.ref (ad 54)), (1, Value.int a0), (2, Value.int a1), (3, Value.int a2)]) [0, 1, 2, 3] rfl ?_
    refine V_aload_n X 0 d_Pl_placeFrom_0 rfl ?_
    refine V_iload_n X 1 d_Pl_placeFrom_1 rfl ?_
    refine V_iload_n X 2 d_Pl_placeFrom_2 rfl ?_
    refine V_iload_n X 3 d_Pl_placeFrom_3 rfl ?_
    refine V_cI X h (fun r1 q => C_V (q := 6) X [Value.int a0, Value.int a1, Value.int a2] mt_Pl_canBeBetter ms_Pl_canBeBetter ml_Pl_65 (k_Pl_canBeBetter fu σ a0 a1 a2 r1 q) rfl rfl (by omega) (Nat.le_of_ble_eq_true rfl) rfl (by decide) (by decide) (by decide) d_Pl_placeFrom_4) (fun r1 h => ?_)
    refine V_if_ne X 11 d_Pl_placeFrom_7 (by decide) h (fun c2 h => ?_) (fun c2 h => ?_)
    · skip
      refine V_iload_n X 1 d_Pl_placeFrom_11 rfl ?_
      refine V_aload_n X 0 d_Pl_placeFrom_12 rfl ?_
      refine V_getR X 6 0 5 rfl ji6 (by decide) (by decide) (by decide) fl_Pl_26 d_Pl_placeFrom_13 (by decide) (by decide) (by decide) (by decide) ?_
      refine V_cI X h (fun r3 q => C_V (q := 3) X [] mt_Sh_suits ms_Sh_suits ml_Pl_69 (k_Sh_suits σ 5 (by decide) (by decide) r3 q) rfl rfl (by omega) (Nat.le_of_ble_eq_true rfl) rfl (by decide) (by decide) (by decide) d_Pl_placeFrom_16) (fun r3 h => ?_)
      refine V_icmp_lt X 51 d_Pl_placeFrom_19 (by decide) h (fun c4 h => ?_) (fun c4 h => ?_)
      · skip
        refine V_aload_n X 0 d_Pl_placeFrom_51 rfl ?_
        refine V_getR X 6 2 57 rfl ji6 (by decide) (by decide) (by decide) fl_Pl_20 d_Pl_placeFrom_52 (by decide) (by decide) (by decide) (by decide) ?_
        refine V_iload_n X 1 d_Pl_placeFrom_55 rfl ?_
        refine V_iconst (v := -1) X d_Pl_placeFrom_56 (by decide) ?_
        refine V_cV X h (fun s5 q => C_V (q := 9) X [Value.int a0, Value.int (-1 : Int32)] mt_Rw_put ms_Rw_put ml_Pl_54 (k_Rw_put σ 57 (by decide) (by decide) a0 (-1 : Int32) s5 q) rfl rfl (by omega) (Nat.le_of_ble_eq_true rfl) rfl (by decide) (by decide) (by decide) d_Pl_placeFrom_57) (fun s5 h => ?_)
        refine V_aload_n X 0 d_Pl_placeFrom_60 rfl ?_
        refine V_iload_n X 1 d_Pl_placeFrom_61 rfl ?_
        refine V_iconst (v := 1) X d_Pl_placeFrom_62 (by decide) ?_
        refine V_iadd X d_Pl_placeFrom_63 ?_
        refine V_iload_n X 2 d_Pl_placeFrom_64 rfl ?_
        refine V_iload_n X 3 d_Pl_placeFrom_65 rfl ?_
        refine V_cV X h (fun s6 q => C_V (q := 6) X [Value.int (a0 + (1 : Int32)), Value.int a1, Value.int a2] mt_Pl_placeFrom ms_Pl_placeFrom ml_Pl_61 (hrec s5 (a0 + (1 : Int32)) a1 a2 s6 q) rfl rfl (by omega) (Nat.le_of_ble_eq_true rfl) rfl (by decide) (by decide) (by decide) d_Pl_placeFrom_66) (fun s6 h => ?_)
        refine V_aload_n X 0 d_Pl_placeFrom_69 rfl ?_
        refine V_getR X 6 0 5 rfl ji6 (by decide) (by decide) (by decide) fl_Pl_26 d_Pl_placeFrom_70 (by decide) (by decide) (by decide) (by decide) ?_
        refine V_iload_n X 1 d_Pl_placeFrom_73 rfl ?_
        refine V_iload_n X 2 d_Pl_placeFrom_74 rfl ?_
        refine V_cI X h (fun r7 q => C_V (q := 3) X [Value.int a0, Value.int a1] mt_Sh_isOpen ms_Sh_isOpen ml_Pl_79 (k_Sh_isOpen s6 5 (by decide) (by decide) a0 a1 r7 q) rfl rfl (by omega) (Nat.le_of_ble_eq_true rfl) rfl (by decide) (by decide) (by decide) d_Pl_placeFrom_75) (fun r7 h => ?_)
        refine V_if_eq X 105 d_Pl_placeFrom_78 (by decide) h (fun c8 h => ?_) (fun c8 h => ?_)
        · skip
          have h9 := wp_some h
          exact hQ _ h9 _ _ d_Pl_placeFrom_105
        · skip
          refine V_aload_n X 0 d_Pl_placeFrom_81 rfl ?_
          refine V_iload_n X 1 d_Pl_placeFrom_82 rfl ?_
          refine V_aload_n X 0 d_Pl_placeFrom_83 rfl ?_
          refine V_getR X 6 0 5 rfl ji6 (by decide) (by decide) (by decide) fl_Pl_26 d_Pl_placeFrom_84 (by decide) (by decide) (by decide) (by decide) ?_
          refine V_iload_n X 1 d_Pl_placeFrom_87 rfl ?_
          refine V_iload_n X 2 d_Pl_placeFrom_88 rfl ?_
          refine V_cI X h (fun r9 q => C_V (q := 3) X [Value.int a0, Value.int a1] mt_Sh_rightedBehind ms_Sh_rightedBehind ml_Pl_83 (k_Sh_rightedBehind s6 5 (by decide) (by decide) a0 a1 r9 q) rfl rfl (by omega) (Nat.le_of_ble_eq_true rfl) rfl (by decide) (by decide) (by decide) d_Pl_placeFrom_89) (fun r9 h => ?_)
          refine V_iload_n X 3 d_Pl_placeFrom_92 rfl ?_
          refine V_aload_n X 0 d_Pl_placeFrom_93 rfl ?_
          refine V_getR X 6 0 5 rfl ji6 (by decide) (by decide) (by decide) fl_Pl_26 d_Pl_placeFrom_94 (by decide) (by decide) (by decide) (by decide) ?_
          refine V_iload_n X 1 d_Pl_placeFrom_97 rfl ?_
          refine V_cI X h (fun r10 q => C_V (q := 3) X [Value.int a0] mt_Sh_cost ms_Sh_cost ml_Pl_87 (k_Sh_cost s6 5 (by decide) (by decide) a0 r10 q) rfl rfl (by omega) (Nat.le_of_ble_eq_true rfl) rfl (by decide) (by decide) (by decide) d_Pl_placeFrom_98) (fun r10 h => ?_)
          refine V_iadd X d_Pl_placeFrom_101 ?_
          refine V_cV X h (fun s11 q => C_V (q := 6) X [Value.int a0, Value.int r9, Value.int (a2 + r10)] mt_Pl_placeAtEachTree ms_Pl_placeAtEachTree ml_Pl_90 (k_Pl_placeAtEachTree fu (rec) rd (fun σ a0 a1 a2 σ' q => hrec σ a0 a1 a2 σ' q)  s6 a0 r9 (a2 + r10) s11 q) rfl rfl (by omega) (Nat.le_of_ble_eq_true rfl) rfl (by decide) (by decide) (by decide) d_Pl_placeFrom_102) (fun s11 h => ?_)
          have h9 := wp_some h
          exact hQ _ h9 _ _ d_Pl_placeFrom_105
      · skip
        refine V_aload_n X 0 d_Pl_placeFrom_22 rfl ?_
        refine V_aload_n X 0 d_Pl_placeFrom_23 rfl ?_
        refine V_getR X 6 0 5 rfl ji6 (by decide) (by decide) (by decide) fl_Pl_26 d_Pl_placeFrom_24 (by decide) (by decide) (by decide) (by decide) ?_
        refine V_iload_n X 2 d_Pl_placeFrom_27 rfl ?_
        refine V_cI X h (fun r12 q => C_V (q := 3) X [Value.int a1] mt_Sh_worthOf ms_Sh_worthOf ml_Pl_72 (k_Sh_worthOf fu σ 5 (by decide) (by decide) a1 r12 q) rfl rfl (by omega) (Nat.le_of_ble_eq_true rfl) rfl (by decide) (by decide) (by decide) d_Pl_placeFrom_28) (fun r12 h => ?_)
        refine V_putI X 6 4 rfl ji6 jk6 jn6 (by decide) (by decide) (by decide) rfl (by decide +kernel) fl_Pl_30 d_Pl_placeFrom_31 (by decide) (by decide) (by decide) ?_
        refine V_aload_n X 0 d_Pl_placeFrom_34 rfl ?_
        refine V_iload_n X 3 d_Pl_placeFrom_35 rfl ?_
        refine V_putI X 6 5 rfl ji6 jk6 jn6 (by decide) (by decide) (by decide) rfl (by decide +kernel) fl_Pl_34 d_Pl_placeFrom_36 (by decide) (by decide) (by decide) ?_
        refine V_aload_n X 0 d_Pl_placeFrom_39 rfl ?_
        refine V_getR X 6 3 59 rfl ji6 (by decide) (by decide) (by decide) fl_Pl_23 d_Pl_placeFrom_40 (by decide) (by decide) (by decide) (by decide) ?_
        refine V_aload_n X 0 d_Pl_placeFrom_43 rfl ?_
        refine V_getR X 6 2 57 rfl ji6 (by decide) (by decide) (by decide) fl_Pl_20 d_Pl_placeFrom_44 (by decide) (by decide) (by decide) (by decide) ?_
        refine V_cV X h (fun s13 q => C_V (q := 9) X [Value.ref (ad 57)] mt_Rw_copyFrom ms_Rw_copyFrom ml_Pl_75 (k_Rw_copyFrom fu (sF (sF σ 54 4 r12) 54 5 a2) 59 (by decide) (by decide) 57 (by decide) (by decide) s13 q) rfl rfl (by omega) (Nat.le_of_ble_eq_true rfl) rfl (by decide) (by decide) (by decide) d_Pl_placeFrom_47) (fun s13 h => ?_)
        have h9 := wp_some h
        exact hQ _ h9 _ _ d_Pl_placeFrom_50
    · skip
      have h9 := wp_some h
      exact hQ _ h9 _ _ d_Pl_placeFrom_10
set_option maxHeartbeats 4000000 in
set_option maxRecDepth 100000 in
theorem Pl_seek_L12_ok {p : Program} {l : Launch} {e : Env} {R : Room} {s : State} {m : MethodId} {args : Array Value} {below : List Frame} {meth : Method} {c : Code} {D : va_G} {ad : Nat → Nat} {cI cB : ClassId} {A : Nat → Prop} {cells slots : Nat} {Q : State → Prop} (X : Cx p R s m args meth c jR6 prog_7_method_5_code 2 30 D ad cI cB A cells slots) (fu : Nat) (kont : (Int32 → Sg → Option Sg)) {K : Sg → Prop} (hQ : RV p l e R s m args below meth c 2 D ad cI cB A cells slots Q prog_7_method_5_code K) (hk : ∀ (l1 : Int32) (σ : Sg), wpO (kont l1 σ) K → V p l e R s m args below meth c 2 D A cells slots Q (wl ad cI cB σ) 45 [(0, Value.ref (ad 54)), (1, Value.int l1)] []) : ∀ (n : Nat) (l1 : Int32) (σ : Sg), wpO (Pl_seek_L12 fu kont n l1 σ) K → V p l e R s m args below meth c 2 D A cells slots Q (wl ad cI cB σ) 12 [(0, Value.ref (ad 54)), (1, Value.int l1)] [] := by
  intro n
  induction n with
  | zero =>
    intro l1 σ h
    exact (wp_none h).elim
  | succ n ih =>
    intro l1 σ h
    rw [Pl_seek_L12] at h
    refine V_iload_n X 1 d_Pl_seek_12 rfl ?_
    refine V_aload_n X 0 d_Pl_seek_13 rfl ?_
    refine V_getR X 6 0 5 rfl ji6 (by decide) (by decide) (by decide) fl_Pl_26 d_Pl_seek_14 (by decide) (by decide) (by decide) (by decide) ?_
    refine V_cI X h (fun r1 q => C_V (q := 3) X [] mt_Sh_trees ms_Sh_trees ml_Pl_47 (k_Sh_trees σ 5 (by decide) (by decide) r1 q) rfl rfl (by omega) (Nat.le_of_ble_eq_true rfl) rfl (by decide) (by decide) (by decide) d_Pl_seek_17) (fun r1 h => ?_)
    refine V_icmp_ge X 45 d_Pl_seek_20 (by decide) h (fun c2 h => ?_) (fun c2 h => ?_)
    · skip
      exact hk l1 σ h
    · skip
      refine V_aload_n X 0 d_Pl_seek_23 rfl ?_
      refine V_getR X 6 1 55 rfl ji6 (by decide) (by decide) (by decide) fl_Pl_14 d_Pl_seek_24 (by decide) (by decide) (by decide) (by decide) ?_
      refine V_iload_n X 1 d_Pl_seek_27 rfl ?_
      refine V_aload_n X 0 d_Pl_seek_28 rfl ?_
      refine V_getR X 6 0 5 rfl ji6 (by decide) (by decide) (by decide) fl_Pl_26 d_Pl_seek_29 (by decide) (by decide) (by decide) (by decide) ?_
      refine V_iload_n X 1 d_Pl_seek_32 rfl ?_
      refine V_cI X h (fun r3 q => C_V (q := 3) X [Value.int l1] mt_Sh_berries ms_Sh_berries ml_Pl_51 (k_Sh_berries σ 5 (by decide) (by decide) l1 r3 q) rfl rfl (by omega) (Nat.le_of_ble_eq_true rfl) rfl (by decide) (by decide) (by decide) d_Pl_seek_33) (fun r3 h => ?_)
      refine V_cV X h (fun s4 q => C_V (q := 9) X [Value.int l1, Value.int r3] mt_Rw_put ms_Rw_put ml_Pl_54 (k_Rw_put σ 55 (by decide) (by decide) l1 r3 s4 q) rfl rfl (by omega) (Nat.le_of_ble_eq_true rfl) rfl (by decide) (by decide) (by decide) d_Pl_seek_36) (fun s4 h => ?_)
      refine V_iinc X 1 (l1 + (1 : Int32)) [(1, Value.int (l1 + (1 : Int32))), (0, Value.ref (ad 54))] d_Pl_seek_39 rfl (by first | rfl | decide) (by decide) rfl ?_
      refine V_goto X 12 d_Pl_seek_42 (by decide) ?_
      refine V_sub (lv' := [(0, Value.ref (ad 54)), (1, Value.int (l1 + (1 : Int32)))]) [1, 0] rfl ?_
      exact ih (l1 + (1 : Int32)) s4 h
set_option maxHeartbeats 4000000 in
set_option maxRecDepth 100000 in
theorem k_Pl_seek (fu : Nat) (σ : Sg) (σ' : Sg) (h : Pl_seek fu σ = some σ') : Evc y_Pl_seek prog_7_method_5_code 2 (none) 30 (fun ad => [Value.ref (ad 54)]) σ σ' (fun _ => none) := by
  refine Evc_ofV (by decide) (fun ad => Nat.le_of_ble_eq_true rfl) (fun p l e R s m args below meth c D ad cI cB A Q X hQ => ?_)
  have X : Cx p R s m args meth c jR6 prog_7_method_5_code 2 30 D ad cI cB A 0 0 := X
  have h : wpO (Pl_seek fu σ) (fun q => q = σ') := ⟨_, h, rfl⟩
  rw [Pl_seek] at h
  refine V_sub (lv' := [(0, Value.ref (ad 54))]) [0] rfl ?_
  refine V_aload_n X 0 d_Pl_seek_0 rfl ?_
  refine V_iconst (v := -1) X d_Pl_seek_1 (by decide) ?_
  refine V_putI X 6 4 rfl ji6 jk6 jn6 (by decide) (by decide) (by decide) rfl (by decide +kernel) fl_Pl_30 d_Pl_seek_2 (by decide) (by decide) (by decide) ?_
  refine V_aload_n X 0 d_Pl_seek_5 rfl ?_
  refine V_iconst (v := 0) X d_Pl_seek_6 (by decide) ?_
  refine V_putI X 6 5 rfl ji6 jk6 jn6 (by decide) (by decide) (by decide) rfl (by decide +kernel) fl_Pl_34 d_Pl_seek_7 (by decide) (by decide) (by decide) ?_
  refine V_iconst (v := 0) X d_Pl_seek_10 (by decide) ?_
  refine V_istore_n X [(1, Value.int (0 : Int32)), (0, Value.ref (ad 54))] d_Pl_seek_11 (by decide) rfl ?_
  refine V_sub (lv' := [(0, Value.ref (ad 54)), (1, Value.int (0 : Int32))]) [1, 0] rfl ?_
  refine Pl_seek_L12_ok X fu _ hQ (fun l1_5 s6 h => ?_) fu (0 : Int32) (sF (sF σ 54 4 (-1 : Int32)) 54 5 (0 : Int32)) h
  refine V_aload_n X 0 d_Pl_seek_45 rfl ?_
  refine V_iconst (v := 0) X d_Pl_seek_46 (by decide) ?_
  refine V_aload_n X 0 d_Pl_seek_47 rfl ?_
  refine V_getR X 6 0 5 rfl ji6 (by decide) (by decide) (by decide) fl_Pl_26 d_Pl_seek_48 (by decide) (by decide) (by decide) (by decide) ?_
  refine V_cI X h (fun r7 q => C_V (q := 3) X [] mt_Sh_righted ms_Sh_righted ml_Pl_58 (k_Sh_righted s6 5 (by decide) (by decide) r7 q) rfl rfl (by omega) (Nat.le_of_ble_eq_true rfl) rfl (by decide) (by decide) (by decide) d_Pl_seek_51) (fun r7 h => ?_)
  refine V_iconst (v := 0) X d_Pl_seek_54 (by decide) ?_
  refine V_cV X h (fun s8 q => C_V (q := 6) X [Value.int (0 : Int32), Value.int r7, Value.int (0 : Int32)] mt_Pl_placeFrom ms_Pl_placeFrom ml_Pl_61 (k_Pl_placeFrom fu 10 s6 (0 : Int32) r7 (0 : Int32) s8 q) rfl rfl (by omega) (Nat.le_of_ble_eq_true rfl) rfl (by decide) (by decide) (by decide) d_Pl_seek_55) (fun s8 h => ?_)
  have h9 := wp_some h
  exact hQ _ h9 _ _ d_Pl_seek_58
set_option maxHeartbeats 4000000 in
set_option maxRecDepth 100000 in
theorem k_Pl_placeOf (σ : Sg) (a0 : Int32) (r : Int32) (h : Pl_placeOf σ a0 = some r) : Evc y_Pl_placeOf prog_7_method_4_code 2 (some .int) 2 (fun ad => [Value.ref (ad 54), Value.int a0]) σ σ (fun _ => some (.int r)) := by
  refine Evc_ofI (by decide) (fun ad => Nat.le_of_ble_eq_true rfl) (fun p l e R s m args below meth c D ad cI cB A Q X hQ => ?_)
  have X : Cx p R s m args meth c jR6 prog_7_method_4_code 2 2 D ad cI cB A 0 0 := X
  have hQ := hQ.pure
  have h : wpO (Pl_placeOf σ a0) (fun q => q = r) := ⟨_, h, rfl⟩
  rw [Pl_placeOf] at h
  refine V_sub (lv' := [(0, Value.ref (ad 54)), (1, Value.int a0)]) [0, 1] rfl ?_
  refine V_aload_n X 0 d_Pl_placeOf_0 rfl ?_
  refine V_getR X 6 0 5 rfl ji6 (by decide) (by decide) (by decide) fl_Pl_26 d_Pl_placeOf_1 (by decide) (by decide) (by decide) (by decide) ?_
  refine V_iload_n X 1 d_Pl_placeOf_4 rfl ?_
  refine V_cI X h (fun r1 q => C_V (q := 3) X [Value.int a0] mt_Sh_hasSuit ms_Sh_hasSuit ml_Pl_37 (k_Sh_hasSuit σ 5 (by decide) (by decide) a0 r1 q) rfl rfl (by omega) (Nat.le_of_ble_eq_true rfl) rfl (by decide) (by decide) (by decide) d_Pl_placeOf_5) (fun r1 h => ?_)
  refine V_if_eq X 22 d_Pl_placeOf_8 (by decide) h (fun c2 h => ?_) (fun c2 h => ?_)
  · skip
    refine V_iconst (v := -1) X d_Pl_placeOf_22 (by decide) ?_
    have h9 := wp_some h
    exact hQ _ h9 (fun h9 => absurd h9 (by decide)) _ _ d_Pl_placeOf_23
  · skip
    refine V_aload_n X 0 d_Pl_placeOf_11 rfl ?_
    refine V_getR X 6 3 59 rfl ji6 (by decide) (by decide) (by decide) fl_Pl_23 d_Pl_placeOf_12 (by decide) (by decide) (by decide) (by decide) ?_
    refine V_iload_n X 1 d_Pl_placeOf_15 rfl ?_
    refine V_cI X h (fun r3 q => C_V (q := 9) X [Value.int a0] mt_Rw_at ms_Rw_at ml_Pl_43 (k_Rw_at σ 59 (by decide) (by decide) a0 r3 q) rfl rfl (by omega) (Nat.le_of_ble_eq_true rfl) rfl (by decide) (by decide) (by decide) d_Pl_placeOf_16) (fun r3 h => ?_)
    refine V_goto X 23 d_Pl_placeOf_19 (by decide) ?_
    have h9 := wp_some h
    exact hQ _ h9 (fun h9 => absurd h9 (by decide)) _ _ d_Pl_placeOf_23
set_option maxHeartbeats 4000000 in
set_option maxRecDepth 100000 in
theorem k_Pl_holds (σ : Sg) (r : Int32) (h : Pl_holds σ = some r) : Evc y_Pl_holds prog_7_method_2_code 1 (some .int) 1 (fun ad => [Value.ref (ad 54)]) σ σ (fun _ => some (.int r)) := by
  refine Evc_ofI (by decide) (fun ad => Nat.le_of_ble_eq_true rfl) (fun p l e R s m args below meth c D ad cI cB A Q X hQ => ?_)
  have X : Cx p R s m args meth c jR6 prog_7_method_2_code 1 1 D ad cI cB A 0 0 := X
  have hQ := hQ.pure
  have h : wpO (Pl_holds σ) (fun q => q = r) := ⟨_, h, rfl⟩
  rw [Pl_holds] at h
  refine V_sub (lv' := [(0, Value.ref (ad 54))]) [0] rfl ?_
  refine V_aload_n X 0 d_Pl_holds_0 rfl ?_
  refine V_getI X 6 4 rfl ji6 (by decide) (by decide) (by decide) fl_Pl_30 d_Pl_holds_1 (by decide) (by decide) (by decide) ?_
  have h9 := wp_some h
  exact hQ _ h9 (fun h9 => absurd h9 (by decide)) _ _ d_Pl_holds_4
set_option maxHeartbeats 4000000 in
set_option maxRecDepth 100000 in
theorem k_Pl_spent (σ : Sg) (r : Int32) (h : Pl_spent σ = some r) : Evc y_Pl_spent prog_7_method_3_code 1 (some .int) 1 (fun ad => [Value.ref (ad 54)]) σ σ (fun _ => some (.int r)) := by
  refine Evc_ofI (by decide) (fun ad => Nat.le_of_ble_eq_true rfl) (fun p l e R s m args below meth c D ad cI cB A Q X hQ => ?_)
  have X : Cx p R s m args meth c jR6 prog_7_method_3_code 1 1 D ad cI cB A 0 0 := X
  have hQ := hQ.pure
  have h : wpO (Pl_spent σ) (fun q => q = r) := ⟨_, h, rfl⟩
  rw [Pl_spent] at h
  refine V_sub (lv' := [(0, Value.ref (ad 54))]) [0] rfl ?_
  refine V_aload_n X 0 d_Pl_spent_0 rfl ?_
  refine V_getI X 6 5 rfl ji6 (by decide) (by decide) (by decide) fl_Pl_34 d_Pl_spent_1 (by decide) (by decide) (by decide) ?_
  have h9 := wp_some h
  exact hQ _ h9 (fun h9 => absurd h9 (by decide)) _ _ d_Pl_spent_4
set_option maxHeartbeats 4000000 in
set_option maxRecDepth 100000 in
theorem k_Co_plan (fu : Nat) (σ : Sg) (a0 : Int32) (r : Int32) (σ' : Sg) (h : Co_plan fu σ a0 = some (r, σ')) : Evc y_Co_plan prog_1_method_14_code 3 (some .int) 31 (fun ad => [Value.ref (ad 0), Value.int a0]) σ σ' (fun _ => some (.int r)) := by
  refine Evc_ofI (by decide) (fun ad => Nat.le_of_ble_eq_true rfl) (fun p l e R s m args below meth c D ad cI cB A Q X hQ => ?_)
  have X : Cx p R s m args meth c jR0 prog_1_method_14_code 3 31 D ad cI cB A 0 0 := X
  have h : wpO (Co_plan fu σ a0) (fun q => q = (r, σ')) := ⟨_, h, rfl⟩
  rw [Co_plan] at h
  refine V_sub (lv' := [(0, Value.ref (ad 0)), (1, Value.int a0)]) [0, 1] rfl ?_
  refine V_iload_n X 1 d_Co_plan_0 rfl ?_
  refine V_bipush (v := 10) X d_Co_plan_1 (by decide) ?_
  refine V_icmp_lt X 16 d_Co_plan_3 (by decide) h (fun c1 h => ?_) (fun c1 h => ?_)
  · skip
    refine V_iconst (v := 0) X d_Co_plan_16 (by decide) ?_
    refine V_istore_n X [(2, Value.int (0 : Int32)), (0, Value.ref (ad 0)), (1, Value.int a0)] d_Co_plan_17 (by decide) rfl ?_
    refine V_iload_n X 2 d_Co_plan_18 rfl ?_
    refine V_if_eq X 34 d_Co_plan_19 (by decide) h (fun c2 h => ?_) (fun c2 h => ?_)
    · skip
      refine V_aload_n X 1 d_Co_plan_34 rfl ?_
      refine V_cI X h (fun r3 q => C_V (q := 0) X [] mt_Co_isRead ms_Co_isRead ml_Co_161 (k_Co_isRead σ r3 q) rfl rfl (by omega) (Nat.le_of_ble_eq_true rfl) rfl (by decide) (by decide) (by decide) d_Co_plan_35) (fun r3 h => ?_)
      refine V_if_eq X 50 d_Co_plan_38 (by decide) h (fun c4 h => ?_) (fun c4 h => ?_)
      · skip
        refine V_bipush (v := -103) X d_Co_plan_50 (by decide) ?_
        have h9 := wp_some h
        exact hQ _ _ h9 (fun h9 => absurd h9 (by decide)) _ _ d_Co_plan_52
      · skip
        refine V_aload_n X 1 d_Co_plan_41 rfl ?_
        refine V_getI X 0 10 rfl ji0 (by decide) (by decide) (by decide) fl_Co_183 d_Co_plan_42 (by decide) (by decide) (by decide) ?_
        refine V_bipush (v := 20) X d_Co_plan_45 (by decide) ?_
        refine V_icmp_lt X 53 d_Co_plan_47 (by decide) h (fun c5 h => ?_) (fun c5 h => ?_)
        · skip
          refine V_aload_n X 1 d_Co_plan_53 rfl ?_
          refine V_dup X d_Co_plan_54 rfl ?_
          refine V_getI X 0 10 rfl ji0 (by decide) (by decide) (by decide) fl_Co_183 d_Co_plan_55 (by decide) (by decide) (by decide) ?_
          refine V_iconst (v := 1) X d_Co_plan_58 (by decide) ?_
          refine V_iadd X d_Co_plan_59 ?_
          refine V_putI X 0 10 rfl ji0 jk0 jn0 (by decide) (by decide) (by decide) rfl (by decide +kernel) fl_Co_183 d_Co_plan_60 (by decide) (by decide) (by decide) ?_
          refine V_aload_n X 1 d_Co_plan_63 rfl ?_
          refine V_getR X 0 5 54 rfl ji0 (by decide) (by decide) (by decide) fl_Co_47 d_Co_plan_64 (by decide) (by decide) (by decide) (by decide) ?_
          refine V_cV X h (fun s6 q => C_V (q := 6) X [] mt_Pl_seek ms_Pl_seek ml_Co_186 (k_Pl_seek fu (sF σ 0 10 ((gF σ 0 10) + (1 : Int32))) s6 q) rfl rfl (by omega) (Nat.le_of_ble_eq_true rfl) rfl (by decide) (by decide) (by decide) d_Co_plan_67) (fun s6 h => ?_)
          refine V_iload_n X 0 d_Co_plan_70 rfl ?_
          refine V_if_eqT X 86 d_Co_plan_71 (by decide) (by decide) ?_
          refine V_iload_n X 2 d_Co_plan_86 rfl ?_
          refine V_if_ne X 100 d_Co_plan_87 (by decide) h (fun c7 h => ?_) (fun c7 h => ?_)
          · skip
            refine V_aload_n X 1 d_Co_plan_100 rfl ?_
            refine V_getR X 0 5 54 rfl ji0 (by decide) (by decide) (by decide) fl_Co_47 d_Co_plan_101 (by decide) (by decide) (by decide) (by decide) ?_
            refine V_cI X h (fun r8 q => C_V (q := 6) X [] mt_Pl_spent ms_Pl_spent ml_Co_193 (k_Pl_spent s6 r8 q) rfl rfl (by omega) (Nat.le_of_ble_eq_true rfl) rfl (by decide) (by decide) (by decide) d_Co_plan_104) (fun r8 h => ?_)
            have h9 := wp_some h
            exact hQ _ _ h9 (fun h9 => absurd h9 (by decide)) _ _ d_Co_plan_107
          · skip
            refine V_aload_n X 1 d_Co_plan_90 rfl ?_
            refine V_getR X 0 5 54 rfl ji0 (by decide) (by decide) (by decide) fl_Co_47 d_Co_plan_91 (by decide) (by decide) (by decide) (by decide) ?_
            refine V_cI X h (fun r9 q => C_V (q := 6) X [] mt_Pl_holds ms_Pl_holds ml_Co_192 (k_Pl_holds s6 r9 q) rfl rfl (by omega) (Nat.le_of_ble_eq_true rfl) rfl (by decide) (by decide) (by decide) d_Co_plan_94) (fun r9 h => ?_)
            refine V_goto X 107 d_Co_plan_97 (by decide) ?_
            have h9 := wp_some h
            exact hQ _ _ h9 (fun h9 => absurd h9 (by decide)) _ _ d_Co_plan_107
        · skip
          refine V_bipush (v := -103) X d_Co_plan_50 (by decide) ?_
          have h9 := wp_some h
          exact hQ _ _ h9 (fun h9 => absurd h9 (by decide)) _ _ d_Co_plan_52
    · skip
      refine V_iload_n X 2 d_Co_plan_22 rfl ?_
      refine V_iconst (v := 1) X d_Co_plan_23 (by decide) ?_
      refine V_icmp_eq X 34 d_Co_plan_24 (by decide) h (fun c10 h => ?_) (fun c10 h => ?_)
      · skip
        refine V_aload_n X 1 d_Co_plan_34 rfl ?_
        refine V_cI X h (fun r11 q => C_V (q := 0) X [] mt_Co_isRead ms_Co_isRead ml_Co_161 (k_Co_isRead σ r11 q) rfl rfl (by omega) (Nat.le_of_ble_eq_true rfl) rfl (by decide) (by decide) (by decide) d_Co_plan_35) (fun r11 h => ?_)
        refine V_if_eq X 50 d_Co_plan_38 (by decide) h (fun c12 h => ?_) (fun c12 h => ?_)
        · skip
          refine V_bipush (v := -103) X d_Co_plan_50 (by decide) ?_
          have h9 := wp_some h
          exact hQ _ _ h9 (fun h9 => absurd h9 (by decide)) _ _ d_Co_plan_52
        · skip
          refine V_aload_n X 1 d_Co_plan_41 rfl ?_
          refine V_getI X 0 10 rfl ji0 (by decide) (by decide) (by decide) fl_Co_183 d_Co_plan_42 (by decide) (by decide) (by decide) ?_
          refine V_bipush (v := 20) X d_Co_plan_45 (by decide) ?_
          refine V_icmp_lt X 53 d_Co_plan_47 (by decide) h (fun c13 h => ?_) (fun c13 h => ?_)
          · skip
            refine V_aload_n X 1 d_Co_plan_53 rfl ?_
            refine V_dup X d_Co_plan_54 rfl ?_
            refine V_getI X 0 10 rfl ji0 (by decide) (by decide) (by decide) fl_Co_183 d_Co_plan_55 (by decide) (by decide) (by decide) ?_
            refine V_iconst (v := 1) X d_Co_plan_58 (by decide) ?_
            refine V_iadd X d_Co_plan_59 ?_
            refine V_putI X 0 10 rfl ji0 jk0 jn0 (by decide) (by decide) (by decide) rfl (by decide +kernel) fl_Co_183 d_Co_plan_60 (by decide) (by decide) (by decide) ?_
            refine V_aload_n X 1 d_Co_plan_63 rfl ?_
            refine V_getR X 0 5 54 rfl ji0 (by decide) (by decide) (by decide) fl_Co_47 d_Co_plan_64 (by decide) (by decide) (by decide) (by decide) ?_
            refine V_cV X h (fun s14 q => C_V (q := 6) X [] mt_Pl_seek ms_Pl_seek ml_Co_186 (k_Pl_seek fu (sF σ 0 10 ((gF σ 0 10) + (1 : Int32))) s14 q) rfl rfl (by omega) (Nat.le_of_ble_eq_true rfl) rfl (by decide) (by decide) (by decide) d_Co_plan_67) (fun s14 h => ?_)
            refine V_iload_n X 0 d_Co_plan_70 rfl ?_
            refine V_if_eqT X 86 d_Co_plan_71 (by decide) (by decide) ?_
            refine V_iload_n X 2 d_Co_plan_86 rfl ?_
            refine V_if_ne X 100 d_Co_plan_87 (by decide) h (fun c15 h => ?_) (fun c15 h => ?_)
            · skip
              refine V_aload_n X 1 d_Co_plan_100 rfl ?_
              refine V_getR X 0 5 54 rfl ji0 (by decide) (by decide) (by decide) fl_Co_47 d_Co_plan_101 (by decide) (by decide) (by decide) (by decide) ?_
              refine V_cI X h (fun r16 q => C_V (q := 6) X [] mt_Pl_spent ms_Pl_spent ml_Co_193 (k_Pl_spent s14 r16 q) rfl rfl (by omega) (Nat.le_of_ble_eq_true rfl) rfl (by decide) (by decide) (by decide) d_Co_plan_104) (fun r16 h => ?_)
              have h9 := wp_some h
              exact hQ _ _ h9 (fun h9 => absurd h9 (by decide)) _ _ d_Co_plan_107
            · skip
              refine V_aload_n X 1 d_Co_plan_90 rfl ?_
              refine V_getR X 0 5 54 rfl ji0 (by decide) (by decide) (by decide) fl_Co_47 d_Co_plan_91 (by decide) (by decide) (by decide) (by decide) ?_
              refine V_cI X h (fun r17 q => C_V (q := 6) X [] mt_Pl_holds ms_Pl_holds ml_Co_192 (k_Pl_holds s14 r17 q) rfl rfl (by omega) (Nat.le_of_ble_eq_true rfl) rfl (by decide) (by decide) (by decide) d_Co_plan_94) (fun r17 h => ?_)
              refine V_goto X 107 d_Co_plan_97 (by decide) ?_
              have h9 := wp_some h
              exact hQ _ _ h9 (fun h9 => absurd h9 (by decide)) _ _ d_Co_plan_107
          · skip
            refine V_bipush (v := -103) X d_Co_plan_50 (by decide) ?_
            have h9 := wp_some h
            exact hQ _ _ h9 (fun h9 => absurd h9 (by decide)) _ _ d_Co_plan_52
      · skip
        refine V_iload_n X 0 d_Co_plan_27 rfl ?_
        refine V_if_neF X d_Co_plan_28 34 (by decide) (by decide) ?_
        refine V_bipush (v := -102) X d_Co_plan_31 (by decide) ?_
        have h9 := wp_some h
        exact hQ _ _ h9 (fun h9 => absurd h9 (by decide)) _ _ d_Co_plan_33
  · skip
    refine V_iload_n X 1 d_Co_plan_6 rfl ?_
    refine V_bipush (v := 17) X d_Co_plan_7 (by decide) ?_
    refine V_icmp_ge X 16 d_Co_plan_9 (by decide) h (fun c18 h => ?_) (fun c18 h => ?_)
    · skip
      refine V_iconst (v := 0) X d_Co_plan_16 (by decide) ?_
      refine V_istore_n X [(2, Value.int (0 : Int32)), (0, Value.ref (ad 0)), (1, Value.int a0)] d_Co_plan_17 (by decide) rfl ?_
      refine V_iload_n X 2 d_Co_plan_18 rfl ?_
      refine V_if_eq X 34 d_Co_plan_19 (by decide) h (fun c19 h => ?_) (fun c19 h => ?_)
      · skip
        refine V_aload_n X 1 d_Co_plan_34 rfl ?_
        refine V_cI X h (fun r20 q => C_V (q := 0) X [] mt_Co_isRead ms_Co_isRead ml_Co_161 (k_Co_isRead σ r20 q) rfl rfl (by omega) (Nat.le_of_ble_eq_true rfl) rfl (by decide) (by decide) (by decide) d_Co_plan_35) (fun r20 h => ?_)
        refine V_if_eq X 50 d_Co_plan_38 (by decide) h (fun c21 h => ?_) (fun c21 h => ?_)
        · skip
          refine V_bipush (v := -103) X d_Co_plan_50 (by decide) ?_
          have h9 := wp_some h
          exact hQ _ _ h9 (fun h9 => absurd h9 (by decide)) _ _ d_Co_plan_52
        · skip
          refine V_aload_n X 1 d_Co_plan_41 rfl ?_
          refine V_getI X 0 10 rfl ji0 (by decide) (by decide) (by decide) fl_Co_183 d_Co_plan_42 (by decide) (by decide) (by decide) ?_
          refine V_bipush (v := 20) X d_Co_plan_45 (by decide) ?_
          refine V_icmp_lt X 53 d_Co_plan_47 (by decide) h (fun c22 h => ?_) (fun c22 h => ?_)
          · skip
            refine V_aload_n X 1 d_Co_plan_53 rfl ?_
            refine V_dup X d_Co_plan_54 rfl ?_
            refine V_getI X 0 10 rfl ji0 (by decide) (by decide) (by decide) fl_Co_183 d_Co_plan_55 (by decide) (by decide) (by decide) ?_
            refine V_iconst (v := 1) X d_Co_plan_58 (by decide) ?_
            refine V_iadd X d_Co_plan_59 ?_
            refine V_putI X 0 10 rfl ji0 jk0 jn0 (by decide) (by decide) (by decide) rfl (by decide +kernel) fl_Co_183 d_Co_plan_60 (by decide) (by decide) (by decide) ?_
            refine V_aload_n X 1 d_Co_plan_63 rfl ?_
            refine V_getR X 0 5 54 rfl ji0 (by decide) (by decide) (by decide) fl_Co_47 d_Co_plan_64 (by decide) (by decide) (by decide) (by decide) ?_
            refine V_cV X h (fun s23 q => C_V (q := 6) X [] mt_Pl_seek ms_Pl_seek ml_Co_186 (k_Pl_seek fu (sF σ 0 10 ((gF σ 0 10) + (1 : Int32))) s23 q) rfl rfl (by omega) (Nat.le_of_ble_eq_true rfl) rfl (by decide) (by decide) (by decide) d_Co_plan_67) (fun s23 h => ?_)
            refine V_iload_n X 0 d_Co_plan_70 rfl ?_
            refine V_if_eqT X 86 d_Co_plan_71 (by decide) (by decide) ?_
            refine V_iload_n X 2 d_Co_plan_86 rfl ?_
            refine V_if_ne X 100 d_Co_plan_87 (by decide) h (fun c24 h => ?_) (fun c24 h => ?_)
            · skip
              refine V_aload_n X 1 d_Co_plan_100 rfl ?_
              refine V_getR X 0 5 54 rfl ji0 (by decide) (by decide) (by decide) fl_Co_47 d_Co_plan_101 (by decide) (by decide) (by decide) (by decide) ?_
              refine V_cI X h (fun r25 q => C_V (q := 6) X [] mt_Pl_spent ms_Pl_spent ml_Co_193 (k_Pl_spent s23 r25 q) rfl rfl (by omega) (Nat.le_of_ble_eq_true rfl) rfl (by decide) (by decide) (by decide) d_Co_plan_104) (fun r25 h => ?_)
              have h9 := wp_some h
              exact hQ _ _ h9 (fun h9 => absurd h9 (by decide)) _ _ d_Co_plan_107
            · skip
              refine V_aload_n X 1 d_Co_plan_90 rfl ?_
              refine V_getR X 0 5 54 rfl ji0 (by decide) (by decide) (by decide) fl_Co_47 d_Co_plan_91 (by decide) (by decide) (by decide) (by decide) ?_
              refine V_cI X h (fun r26 q => C_V (q := 6) X [] mt_Pl_holds ms_Pl_holds ml_Co_192 (k_Pl_holds s23 r26 q) rfl rfl (by omega) (Nat.le_of_ble_eq_true rfl) rfl (by decide) (by decide) (by decide) d_Co_plan_94) (fun r26 h => ?_)
              refine V_goto X 107 d_Co_plan_97 (by decide) ?_
              have h9 := wp_some h
              exact hQ _ _ h9 (fun h9 => absurd h9 (by decide)) _ _ d_Co_plan_107
          · skip
            refine V_bipush (v := -103) X d_Co_plan_50 (by decide) ?_
            have h9 := wp_some h
            exact hQ _ _ h9 (fun h9 => absurd h9 (by decide)) _ _ d_Co_plan_52
      · skip
        refine V_iload_n X 2 d_Co_plan_22 rfl ?_
        refine V_iconst (v := 1) X d_Co_plan_23 (by decide) ?_
        refine V_icmp_eq X 34 d_Co_plan_24 (by decide) h (fun c27 h => ?_) (fun c27 h => ?_)
        · skip
          refine V_aload_n X 1 d_Co_plan_34 rfl ?_
          refine V_cI X h (fun r28 q => C_V (q := 0) X [] mt_Co_isRead ms_Co_isRead ml_Co_161 (k_Co_isRead σ r28 q) rfl rfl (by omega) (Nat.le_of_ble_eq_true rfl) rfl (by decide) (by decide) (by decide) d_Co_plan_35) (fun r28 h => ?_)
          refine V_if_eq X 50 d_Co_plan_38 (by decide) h (fun c29 h => ?_) (fun c29 h => ?_)
          · skip
            refine V_bipush (v := -103) X d_Co_plan_50 (by decide) ?_
            have h9 := wp_some h
            exact hQ _ _ h9 (fun h9 => absurd h9 (by decide)) _ _ d_Co_plan_52
          · skip
            refine V_aload_n X 1 d_Co_plan_41 rfl ?_
            refine V_getI X 0 10 rfl ji0 (by decide) (by decide) (by decide) fl_Co_183 d_Co_plan_42 (by decide) (by decide) (by decide) ?_
            refine V_bipush (v := 20) X d_Co_plan_45 (by decide) ?_
            refine V_icmp_lt X 53 d_Co_plan_47 (by decide) h (fun c30 h => ?_) (fun c30 h => ?_)
            · skip
              refine V_aload_n X 1 d_Co_plan_53 rfl ?_
              refine V_dup X d_Co_plan_54 rfl ?_
              refine V_getI X 0 10 rfl ji0 (by decide) (by decide) (by decide) fl_Co_183 d_Co_plan_55 (by decide) (by decide) (by decide) ?_
              refine V_iconst (v := 1) X d_Co_plan_58 (by decide) ?_
              refine V_iadd X d_Co_plan_59 ?_
              refine V_putI X 0 10 rfl ji0 jk0 jn0 (by decide) (by decide) (by decide) rfl (by decide +kernel) fl_Co_183 d_Co_plan_60 (by decide) (by decide) (by decide) ?_
              refine V_aload_n X 1 d_Co_plan_63 rfl ?_
              refine V_getR X 0 5 54 rfl ji0 (by decide) (by decide) (by decide) fl_Co_47 d_Co_plan_64 (by decide) (by decide) (by decide) (by decide) ?_
              refine V_cV X h (fun s31 q => C_V (q := 6) X [] mt_Pl_seek ms_Pl_seek ml_Co_186 (k_Pl_seek fu (sF σ 0 10 ((gF σ 0 10) + (1 : Int32))) s31 q) rfl rfl (by omega) (Nat.le_of_ble_eq_true rfl) rfl (by decide) (by decide) (by decide) d_Co_plan_67) (fun s31 h => ?_)
              refine V_iload_n X 0 d_Co_plan_70 rfl ?_
              refine V_if_eqT X 86 d_Co_plan_71 (by decide) (by decide) ?_
              refine V_iload_n X 2 d_Co_plan_86 rfl ?_
              refine V_if_ne X 100 d_Co_plan_87 (by decide) h (fun c32 h => ?_) (fun c32 h => ?_)
              · skip
                refine V_aload_n X 1 d_Co_plan_100 rfl ?_
                refine V_getR X 0 5 54 rfl ji0 (by decide) (by decide) (by decide) fl_Co_47 d_Co_plan_101 (by decide) (by decide) (by decide) (by decide) ?_
                refine V_cI X h (fun r33 q => C_V (q := 6) X [] mt_Pl_spent ms_Pl_spent ml_Co_193 (k_Pl_spent s31 r33 q) rfl rfl (by omega) (Nat.le_of_ble_eq_true rfl) rfl (by decide) (by decide) (by decide) d_Co_plan_104) (fun r33 h => ?_)
                have h9 := wp_some h
                exact hQ _ _ h9 (fun h9 => absurd h9 (by decide)) _ _ d_Co_plan_107
              · skip
                refine V_aload_n X 1 d_Co_plan_90 rfl ?_
                refine V_getR X 0 5 54 rfl ji0 (by decide) (by decide) (by decide) fl_Co_47 d_Co_plan_91 (by decide) (by decide) (by decide) (by decide) ?_
                refine V_cI X h (fun r34 q => C_V (q := 6) X [] mt_Pl_holds ms_Pl_holds ml_Co_192 (k_Pl_holds s31 r34 q) rfl rfl (by omega) (Nat.le_of_ble_eq_true rfl) rfl (by decide) (by decide) (by decide) d_Co_plan_94) (fun r34 h => ?_)
                refine V_goto X 107 d_Co_plan_97 (by decide) ?_
                have h9 := wp_some h
                exact hQ _ _ h9 (fun h9 => absurd h9 (by decide)) _ _ d_Co_plan_107
            · skip
              refine V_bipush (v := -103) X d_Co_plan_50 (by decide) ?_
              have h9 := wp_some h
              exact hQ _ _ h9 (fun h9 => absurd h9 (by decide)) _ _ d_Co_plan_52
        · skip
          refine V_iload_n X 0 d_Co_plan_27 rfl ?_
          refine V_if_neF X d_Co_plan_28 34 (by decide) (by decide) ?_
          refine V_bipush (v := -102) X d_Co_plan_31 (by decide) ?_
          have h9 := wp_some h
          exact hQ _ _ h9 (fun h9 => absurd h9 (by decide)) _ _ d_Co_plan_33
    · skip
      refine V_iconst (v := 1) X d_Co_plan_12 (by decide) ?_
      refine V_goto X 17 d_Co_plan_13 (by decide) ?_
      refine V_istore_n X [(2, Value.int (1 : Int32)), (0, Value.ref (ad 0)), (1, Value.int a0)] d_Co_plan_17 (by decide) rfl ?_
      refine V_iload_n X 2 d_Co_plan_18 rfl ?_
      refine V_if_eq X 34 d_Co_plan_19 (by decide) h (fun c35 h => ?_) (fun c35 h => ?_)
      · skip
        refine V_aload_n X 1 d_Co_plan_34 rfl ?_
        refine V_cI X h (fun r36 q => C_V (q := 0) X [] mt_Co_isRead ms_Co_isRead ml_Co_161 (k_Co_isRead σ r36 q) rfl rfl (by omega) (Nat.le_of_ble_eq_true rfl) rfl (by decide) (by decide) (by decide) d_Co_plan_35) (fun r36 h => ?_)
        refine V_if_eq X 50 d_Co_plan_38 (by decide) h (fun c37 h => ?_) (fun c37 h => ?_)
        · skip
          refine V_bipush (v := -103) X d_Co_plan_50 (by decide) ?_
          have h9 := wp_some h
          exact hQ _ _ h9 (fun h9 => absurd h9 (by decide)) _ _ d_Co_plan_52
        · skip
          refine V_aload_n X 1 d_Co_plan_41 rfl ?_
          refine V_getI X 0 10 rfl ji0 (by decide) (by decide) (by decide) fl_Co_183 d_Co_plan_42 (by decide) (by decide) (by decide) ?_
          refine V_bipush (v := 20) X d_Co_plan_45 (by decide) ?_
          refine V_icmp_lt X 53 d_Co_plan_47 (by decide) h (fun c38 h => ?_) (fun c38 h => ?_)
          · skip
            refine V_aload_n X 1 d_Co_plan_53 rfl ?_
            refine V_dup X d_Co_plan_54 rfl ?_
            refine V_getI X 0 10 rfl ji0 (by decide) (by decide) (by decide) fl_Co_183 d_Co_plan_55 (by decide) (by decide) (by decide) ?_
            refine V_iconst (v := 1) X d_Co_plan_58 (by decide) ?_
            refine V_iadd X d_Co_plan_59 ?_
            refine V_putI X 0 10 rfl ji0 jk0 jn0 (by decide) (by decide) (by decide) rfl (by decide +kernel) fl_Co_183 d_Co_plan_60 (by decide) (by decide) (by decide) ?_
            refine V_aload_n X 1 d_Co_plan_63 rfl ?_
            refine V_getR X 0 5 54 rfl ji0 (by decide) (by decide) (by decide) fl_Co_47 d_Co_plan_64 (by decide) (by decide) (by decide) (by decide) ?_
            refine V_cV X h (fun s39 q => C_V (q := 6) X [] mt_Pl_seek ms_Pl_seek ml_Co_186 (k_Pl_seek fu (sF σ 0 10 ((gF σ 0 10) + (1 : Int32))) s39 q) rfl rfl (by omega) (Nat.le_of_ble_eq_true rfl) rfl (by decide) (by decide) (by decide) d_Co_plan_67) (fun s39 h => ?_)
            refine V_iload_n X 0 d_Co_plan_70 rfl ?_
            refine V_if_eqF X d_Co_plan_71 86 (by decide) (by decide) ?_
            refine V_aload_n X 1 d_Co_plan_74 rfl ?_
            refine V_getR X 0 5 54 rfl ji0 (by decide) (by decide) (by decide) fl_Co_47 d_Co_plan_75 (by decide) (by decide) (by decide) (by decide) ?_
            refine V_iload_n X 2 d_Co_plan_78 rfl ?_
            refine V_bipush (v := 10) X d_Co_plan_79 (by decide) ?_
            refine V_isub X d_Co_plan_81 ?_
            refine V_cI X h (fun r40 q => C_V (q := 6) X [Value.int (a0 - (10 : Int32))] mt_Pl_placeOf ms_Pl_placeOf ml_Co_189 (k_Pl_placeOf s39 (a0 - (10 : Int32)) r40 q) rfl rfl (by omega) (Nat.le_of_ble_eq_true rfl) rfl (by decide) (by decide) (by decide) d_Co_plan_82) (fun r40 h => ?_)
            have h9 := wp_some h
            exact hQ _ _ h9 (fun h9 => absurd h9 (by decide)) _ _ d_Co_plan_85
          · skip
            refine V_bipush (v := -103) X d_Co_plan_50 (by decide) ?_
            have h9 := wp_some h
            exact hQ _ _ h9 (fun h9 => absurd h9 (by decide)) _ _ d_Co_plan_52
      · skip
        refine V_iload_n X 2 d_Co_plan_22 rfl ?_
        refine V_iconst (v := 1) X d_Co_plan_23 (by decide) ?_
        refine V_icmp_eq X 34 d_Co_plan_24 (by decide) h (fun c41 h => ?_) (fun c41 h => ?_)
        · skip
          refine V_aload_n X 1 d_Co_plan_34 rfl ?_
          refine V_cI X h (fun r42 q => C_V (q := 0) X [] mt_Co_isRead ms_Co_isRead ml_Co_161 (k_Co_isRead σ r42 q) rfl rfl (by omega) (Nat.le_of_ble_eq_true rfl) rfl (by decide) (by decide) (by decide) d_Co_plan_35) (fun r42 h => ?_)
          refine V_if_eq X 50 d_Co_plan_38 (by decide) h (fun c43 h => ?_) (fun c43 h => ?_)
          · skip
            refine V_bipush (v := -103) X d_Co_plan_50 (by decide) ?_
            have h9 := wp_some h
            exact hQ _ _ h9 (fun h9 => absurd h9 (by decide)) _ _ d_Co_plan_52
          · skip
            refine V_aload_n X 1 d_Co_plan_41 rfl ?_
            refine V_getI X 0 10 rfl ji0 (by decide) (by decide) (by decide) fl_Co_183 d_Co_plan_42 (by decide) (by decide) (by decide) ?_
            refine V_bipush (v := 20) X d_Co_plan_45 (by decide) ?_
            refine V_icmp_lt X 53 d_Co_plan_47 (by decide) h (fun c44 h => ?_) (fun c44 h => ?_)
            · skip
              refine V_aload_n X 1 d_Co_plan_53 rfl ?_
              refine V_dup X d_Co_plan_54 rfl ?_
              refine V_getI X 0 10 rfl ji0 (by decide) (by decide) (by decide) fl_Co_183 d_Co_plan_55 (by decide) (by decide) (by decide) ?_
              refine V_iconst (v := 1) X d_Co_plan_58 (by decide) ?_
              refine V_iadd X d_Co_plan_59 ?_
              refine V_putI X 0 10 rfl ji0 jk0 jn0 (by decide) (by decide) (by decide) rfl (by decide +kernel) fl_Co_183 d_Co_plan_60 (by decide) (by decide) (by decide) ?_
              refine V_aload_n X 1 d_Co_plan_63 rfl ?_
              refine V_getR X 0 5 54 rfl ji0 (by decide) (by decide) (by decide) fl_Co_47 d_Co_plan_64 (by decide) (by decide) (by decide) (by decide) ?_
              refine V_cV X h (fun s45 q => C_V (q := 6) X [] mt_Pl_seek ms_Pl_seek ml_Co_186 (k_Pl_seek fu (sF σ 0 10 ((gF σ 0 10) + (1 : Int32))) s45 q) rfl rfl (by omega) (Nat.le_of_ble_eq_true rfl) rfl (by decide) (by decide) (by decide) d_Co_plan_67) (fun s45 h => ?_)
              refine V_iload_n X 0 d_Co_plan_70 rfl ?_
              refine V_if_eqF X d_Co_plan_71 86 (by decide) (by decide) ?_
              refine V_aload_n X 1 d_Co_plan_74 rfl ?_
              refine V_getR X 0 5 54 rfl ji0 (by decide) (by decide) (by decide) fl_Co_47 d_Co_plan_75 (by decide) (by decide) (by decide) (by decide) ?_
              refine V_iload_n X 2 d_Co_plan_78 rfl ?_
              refine V_bipush (v := 10) X d_Co_plan_79 (by decide) ?_
              refine V_isub X d_Co_plan_81 ?_
              refine V_cI X h (fun r46 q => C_V (q := 6) X [Value.int (a0 - (10 : Int32))] mt_Pl_placeOf ms_Pl_placeOf ml_Co_189 (k_Pl_placeOf s45 (a0 - (10 : Int32)) r46 q) rfl rfl (by omega) (Nat.le_of_ble_eq_true rfl) rfl (by decide) (by decide) (by decide) d_Co_plan_82) (fun r46 h => ?_)
              have h9 := wp_some h
              exact hQ _ _ h9 (fun h9 => absurd h9 (by decide)) _ _ d_Co_plan_85
            · skip
              refine V_bipush (v := -103) X d_Co_plan_50 (by decide) ?_
              have h9 := wp_some h
              exact hQ _ _ h9 (fun h9 => absurd h9 (by decide)) _ _ d_Co_plan_52
        · skip
          refine V_iload_n X 0 d_Co_plan_27 rfl ?_
          refine V_if_neT X 34 d_Co_plan_28 (by decide) (by decide) ?_
          refine V_aload_n X 1 d_Co_plan_34 rfl ?_
          refine V_cI X h (fun r47 q => C_V (q := 0) X [] mt_Co_isRead ms_Co_isRead ml_Co_161 (k_Co_isRead σ r47 q) rfl rfl (by omega) (Nat.le_of_ble_eq_true rfl) rfl (by decide) (by decide) (by decide) d_Co_plan_35) (fun r47 h => ?_)
          refine V_if_eq X 50 d_Co_plan_38 (by decide) h (fun c48 h => ?_) (fun c48 h => ?_)
          · skip
            refine V_bipush (v := -103) X d_Co_plan_50 (by decide) ?_
            have h9 := wp_some h
            exact hQ _ _ h9 (fun h9 => absurd h9 (by decide)) _ _ d_Co_plan_52
          · skip
            refine V_aload_n X 1 d_Co_plan_41 rfl ?_
            refine V_getI X 0 10 rfl ji0 (by decide) (by decide) (by decide) fl_Co_183 d_Co_plan_42 (by decide) (by decide) (by decide) ?_
            refine V_bipush (v := 20) X d_Co_plan_45 (by decide) ?_
            refine V_icmp_lt X 53 d_Co_plan_47 (by decide) h (fun c49 h => ?_) (fun c49 h => ?_)
            · skip
              refine V_aload_n X 1 d_Co_plan_53 rfl ?_
              refine V_dup X d_Co_plan_54 rfl ?_
              refine V_getI X 0 10 rfl ji0 (by decide) (by decide) (by decide) fl_Co_183 d_Co_plan_55 (by decide) (by decide) (by decide) ?_
              refine V_iconst (v := 1) X d_Co_plan_58 (by decide) ?_
              refine V_iadd X d_Co_plan_59 ?_
              refine V_putI X 0 10 rfl ji0 jk0 jn0 (by decide) (by decide) (by decide) rfl (by decide +kernel) fl_Co_183 d_Co_plan_60 (by decide) (by decide) (by decide) ?_
              refine V_aload_n X 1 d_Co_plan_63 rfl ?_
              refine V_getR X 0 5 54 rfl ji0 (by decide) (by decide) (by decide) fl_Co_47 d_Co_plan_64 (by decide) (by decide) (by decide) (by decide) ?_
              refine V_cV X h (fun s50 q => C_V (q := 6) X [] mt_Pl_seek ms_Pl_seek ml_Co_186 (k_Pl_seek fu (sF σ 0 10 ((gF σ 0 10) + (1 : Int32))) s50 q) rfl rfl (by omega) (Nat.le_of_ble_eq_true rfl) rfl (by decide) (by decide) (by decide) d_Co_plan_67) (fun s50 h => ?_)
              refine V_iload_n X 0 d_Co_plan_70 rfl ?_
              refine V_if_eqF X d_Co_plan_71 86 (by decide) (by decide) ?_
              refine V_aload_n X 1 d_Co_plan_74 rfl ?_
              refine V_getR X 0 5 54 rfl ji0 (by decide) (by decide) (by decide) fl_Co_47 d_Co_plan_75 (by decide) (by decide) (by decide) (by decide) ?_
              refine V_iload_n X 2 d_Co_plan_78 rfl ?_
              refine V_bipush (v := 10) X d_Co_plan_79 (by decide) ?_
              refine V_isub X d_Co_plan_81 ?_
              refine V_cI X h (fun r51 q => C_V (q := 6) X [Value.int (a0 - (10 : Int32))] mt_Pl_placeOf ms_Pl_placeOf ml_Co_189 (k_Pl_placeOf s50 (a0 - (10 : Int32)) r51 q) rfl rfl (by omega) (Nat.le_of_ble_eq_true rfl) rfl (by decide) (by decide) (by decide) d_Co_plan_82) (fun r51 h => ?_)
              have h9 := wp_some h
              exact hQ _ _ h9 (fun h9 => absurd h9 (by decide)) _ _ d_Co_plan_85
            · skip
              refine V_bipush (v := -103) X d_Co_plan_50 (by decide) ?_
              have h9 := wp_some h
              exact hQ _ _ h9 (fun h9 => absurd h9 (by decide)) _ _ d_Co_plan_52
set_option maxHeartbeats 4000000 in
set_option maxRecDepth 100000 in
theorem k_Sh_setClaim (σ : Sg) (k : Nat) (hl_k : k < 116) (hc_k : jv_cls k = 3) (a0 : Int32) (a1 : Int32) (a2 : Int32) (σ' : Sg) (h : Sh_setClaim σ k a0 a1 a2 = some σ') : Evc y_Sh_setClaim prog_10_method_37_code 4 (none) 2 (fun ad => [Value.ref (ad k), Value.int a0, Value.int a1, Value.int a2]) σ σ' (fun _ => none) := by
  refine Evc_ofV (by decide) (fun ad => Nat.le_of_ble_eq_true rfl) (fun p l e R s m args below meth c D ad cI cB A Q X hQ => ?_)
  have X : Cx p R s m args meth c jR3 prog_10_method_37_code 4 2 D ad cI cB A 0 0 := X
  have h : wpO (Sh_setClaim σ k a0 a1 a2) (fun q => q = σ') := ⟨_, h, rfl⟩
  rw [Sh_setClaim] at h
  refine V_sub (lv' := [(0, Value.ref (ad k)), (1, Value.int a0), (2, Value.int a1), (3, Value.int a2)]) [0, 1, 2, 3] rfl ?_
  refine V_aload_n X 0 d_Sh_setClaim_0 rfl ?_
  refine V_getR X 3 5 (k + 7) rfl ji3 (by decide) (by decide) (by decide) fl_Sh_26 d_Sh_setClaim_1 hl_k hc_k (by decide) (jl_sh5 k hl_k hc_k).2.2 ?_
  refine V_iload_n X 1 d_Sh_setClaim_4 rfl ?_
  refine V_iload_n X 2 d_Sh_setClaim_5 rfl ?_
  refine V_cV X h (fun s1 q => C_V (q := 9) X [Value.int a0, Value.int a1] mt_Rw_put ms_Rw_put ml_Sh_67 (k_Rw_put σ (k + 7) (jl_sh5 k hl_k hc_k).1 (jl_sh5 k hl_k hc_k).2.1 a0 a1 s1 q) rfl rfl (by omega) (Nat.le_of_ble_eq_true rfl) rfl (jl_sh5 k hl_k hc_k).1 (jl_sh5 k hl_k hc_k).2.1 (by decide) d_Sh_setClaim_6) (fun s1 h => ?_)
  refine V_aload_n X 0 d_Sh_setClaim_9 rfl ?_
  refine V_getR X 3 6 (k + 9) rfl ji3 (by decide) (by decide) (by decide) fl_Sh_29 d_Sh_setClaim_10 hl_k hc_k (by decide) (jl_sh6 k hl_k hc_k).2.2 ?_
  refine V_iload_n X 1 d_Sh_setClaim_13 rfl ?_
  refine V_iload_n X 3 d_Sh_setClaim_14 rfl ?_
  refine V_cV X h (fun s2 q => C_V (q := 9) X [Value.int a0, Value.int a2] mt_Rw_put ms_Rw_put ml_Sh_67 (k_Rw_put s1 (k + 9) (jl_sh6 k hl_k hc_k).1 (jl_sh6 k hl_k hc_k).2.1 a0 a2 s2 q) rfl rfl (by omega) (Nat.le_of_ble_eq_true rfl) rfl (jl_sh6 k hl_k hc_k).1 (jl_sh6 k hl_k hc_k).2.1 (by decide) d_Sh_setClaim_15) (fun s2 h => ?_)
  have h9 := wp_some h
  exact hQ _ h9 _ _ d_Sh_setClaim_18
set_option maxHeartbeats 4000000 in
set_option maxRecDepth 100000 in
theorem k_Co_plead (σ : Sg) (a0 : Int32) (a1 : Int32) (a2 : Int32) (r : Int32) (σ' : Sg) (h : Co_plead σ a0 a1 a2 = some (r, σ')) : Evc y_Co_plead prog_1_method_12_code 5 (some .int) 3 (fun ad => [Value.ref (ad 0), Value.int a0, Value.int a1, Value.int a2]) σ σ' (fun _ => some (.int r)) := by
  refine Evc_ofI (by decide) (fun ad => Nat.le_of_ble_eq_true rfl) (fun p l e R s m args below meth c D ad cI cB A Q X hQ => ?_)
  have X : Cx p R s m args meth c jR0 prog_1_method_12_code 5 3 D ad cI cB A 0 0 := X
  have h : wpO (Co_plead σ a0 a1 a2) (fun q => q = (r, σ')) := ⟨_, h, rfl⟩
  rw [Co_plead] at h
  refine V_sub (lv' := [(0, Value.ref (ad 0)), (1, Value.int a0), (2, Value.int a1), (3, Value.int a2)]) [0, 1, 2, 3] rfl ?_
  refine V_aload_n X 0 d_Co_plead_0 rfl ?_
  refine V_getR X 0 2 5 rfl ji0 (by decide) (by decide) (by decide) fl_Co_28 d_Co_plead_1 (by decide) (by decide) (by decide) (by decide) ?_
  refine V_iload_n X 1 d_Co_plead_4 rfl ?_
  refine V_cI X h (fun r1 q => C_V (q := 3) X [Value.int a0] mt_Sh_hasSuit ms_Sh_hasSuit ml_Co_111 (k_Sh_hasSuit σ 5 (by decide) (by decide) a0 r1 q) rfl rfl (by omega) (Nat.le_of_ble_eq_true rfl) rfl (by decide) (by decide) (by decide) d_Co_plead_5) (fun r1 h => ?_)
  refine V_if_ne X 14 d_Co_plead_8 (by decide) h (fun c2 h => ?_) (fun c2 h => ?_)
  · skip
    refine V_iload_n X 2 d_Co_plead_14 rfl ?_
    refine V_iconst (v := 1) X d_Co_plead_15 (by decide) ?_
    refine V_icmp_lt X 36 d_Co_plead_16 (by decide) h (fun c3 h => ?_) (fun c3 h => ?_)
    · skip
      refine V_bipush (v := -102) X d_Co_plead_36 (by decide) ?_
      have h9 := wp_some h
      exact hQ _ _ h9 (fun h9 => absurd h9 (by decide)) _ _ d_Co_plead_38
    · skip
      refine V_iload_n X 2 d_Co_plead_19 rfl ?_
      refine V_bipush (v := 9) X d_Co_plead_20 (by decide) ?_
      refine V_icmp_gt X 36 d_Co_plead_22 (by decide) h (fun c4 h => ?_) (fun c4 h => ?_)
      · skip
        refine V_bipush (v := -102) X d_Co_plead_36 (by decide) ?_
        have h9 := wp_some h
        exact hQ _ _ h9 (fun h9 => absurd h9 (by decide)) _ _ d_Co_plead_38
      · skip
        refine V_iload_n X 3 d_Co_plead_25 rfl ?_
        refine V_iconst (v := 1) X d_Co_plead_26 (by decide) ?_
        refine V_icmp_lt X 36 d_Co_plead_27 (by decide) h (fun c5 h => ?_) (fun c5 h => ?_)
        · skip
          refine V_bipush (v := -102) X d_Co_plead_36 (by decide) ?_
          have h9 := wp_some h
          exact hQ _ _ h9 (fun h9 => absurd h9 (by decide)) _ _ d_Co_plead_38
        · skip
          refine V_iload_n X 3 d_Co_plead_30 rfl ?_
          refine V_bipush (v := 9) X d_Co_plead_31 (by decide) ?_
          refine V_icmp_le X 39 d_Co_plead_33 (by decide) h (fun c6 h => ?_) (fun c6 h => ?_)
          · skip
            refine V_aload_n X 0 d_Co_plead_39 rfl ?_
            refine V_getR X 0 2 5 rfl ji0 (by decide) (by decide) (by decide) fl_Co_28 d_Co_plead_40 (by decide) (by decide) (by decide) (by decide) ?_
            refine V_iload_n X 1 d_Co_plead_43 rfl ?_
            refine V_cI X h (fun r7 q => C_V (q := 3) X [Value.int a0] mt_Sh_worth ms_Sh_worth ml_Co_120 (k_Sh_worth σ 5 (by decide) (by decide) a0 r7 q) rfl rfl (by omega) (Nat.le_of_ble_eq_true rfl) rfl (by decide) (by decide) (by decide) d_Co_plead_44) (fun r7 h => ?_)
            refine V_istore X [(4, Value.int r7), (0, Value.ref (ad 0)), (1, Value.int a0), (2, Value.int a1), (3, Value.int a2)] d_Co_plead_47 (by decide) rfl ?_
            refine V_aload_n X 1 d_Co_plead_49 rfl ?_
            refine V_getR X 0 2 5 rfl ji0 (by decide) (by decide) (by decide) fl_Co_28 d_Co_plead_50 (by decide) (by decide) (by decide) (by decide) ?_
            refine V_iload_n X 2 d_Co_plead_53 rfl ?_
            refine V_iload_n X 3 d_Co_plead_54 rfl ?_
            refine V_iload_n X 4 d_Co_plead_55 rfl ?_
            refine V_cV X h (fun s8 q => C_V (q := 3) X [Value.int a0, Value.int a1, Value.int a2] mt_Sh_setClaim ms_Sh_setClaim ml_Co_173 (k_Sh_setClaim σ 5 (by decide) (by decide) a0 a1 a2 s8 q) rfl rfl (by omega) (Nat.le_of_ble_eq_true rfl) rfl (by decide) (by decide) (by decide) d_Co_plead_56) (fun s8 h => ?_)
            refine V_iload X 0 d_Co_plead_59 rfl ?_
            have h9 := wp_some h
            exact hQ _ _ h9 (fun h9 => absurd h9 (by decide)) _ _ d_Co_plead_61
          · skip
            refine V_bipush (v := -102) X d_Co_plead_36 (by decide) ?_
            have h9 := wp_some h
            exact hQ _ _ h9 (fun h9 => absurd h9 (by decide)) _ _ d_Co_plead_38
  · skip
    refine V_bipush (v := -101) X d_Co_plead_11 (by decide) ?_
    have h9 := wp_some h
    exact hQ _ _ h9 (fun h9 => absurd h9 (by decide)) _ _ d_Co_plead_13
set_option maxHeartbeats 4000000 in
set_option maxRecDepth 100000 in
theorem k_Co_restore (fu : Nat) (σ : Sg) (r : Int32) (σ' : Sg) (h : Co_restore fu σ = some (r, σ')) : Evc y_Co_restore prog_1_method_21_code 1 (some .int) 5 (fun ad => [Value.ref (ad 0)]) σ σ' (fun _ => some (.int r)) := by
  refine Evc_ofI (by decide) (fun ad => Nat.le_of_ble_eq_true rfl) (fun p l e R s m args below meth c D ad cI cB A Q X hQ => ?_)
  have X : Cx p R s m args meth c jR0 prog_1_method_21_code 1 5 D ad cI cB A 0 0 := X
  have h : wpO (Co_restore fu σ) (fun q => q = (r, σ')) := ⟨_, h, rfl⟩
  rw [Co_restore] at h
  refine V_sub (lv' := [(0, Value.ref (ad 0))]) [0] rfl ?_
  refine V_aload_n X 0 d_Co_restore_0 rfl ?_
  refine V_getI X 0 8 rfl ji0 (by decide) (by decide) (by decide) fl_Co_86 d_Co_restore_1 (by decide) (by decide) (by decide) ?_
  refine V_if_ne X 10 d_Co_restore_4 (by decide) h (fun c1 h => ?_) (fun c1 h => ?_)
  · skip
    refine V_aload_n X 0 d_Co_restore_10 rfl ?_
    refine V_getR X 0 2 5 rfl ji0 (by decide) (by decide) (by decide) fl_Co_28 d_Co_restore_11 (by decide) (by decide) (by decide) (by decide) ?_
    refine V_aload_n X 0 d_Co_restore_14 rfl ?_
    refine V_getR X 0 3 29 rfl ji0 (by decide) (by decide) (by decide) fl_Co_32 d_Co_restore_15 (by decide) (by decide) (by decide) (by decide) ?_
    refine V_cV X h (fun s2 q => C_V (q := 3) X [Value.ref (ad 29)] mt_Sh_copyFrom ms_Sh_copyFrom ml_Co_238 (k_Sh_copyFrom fu σ 5 (by decide) (by decide) 29 (by decide) (by decide) s2 q) rfl rfl (by omega) (Nat.le_of_ble_eq_true rfl) rfl (by decide) (by decide) (by decide) d_Co_restore_18) (fun s2 h => ?_)
    refine V_aload_n X 0 d_Co_restore_21 rfl ?_
    refine V_getR X 0 2 5 rfl ji0 (by decide) (by decide) (by decide) fl_Co_28 d_Co_restore_22 (by decide) (by decide) (by decide) (by decide) ?_
    refine V_cI X h (fun r3 q => C_V (q := 3) X [] mt_Sh_years ms_Sh_years ml_Co_164 (k_Sh_years s2 5 (by decide) (by decide) r3 q) rfl rfl (by omega) (Nat.le_of_ble_eq_true rfl) rfl (by decide) (by decide) (by decide) d_Co_restore_25) (fun r3 h => ?_)
    have h9 := wp_some h
    exact hQ _ _ h9 (fun h9 => absurd h9 (by decide)) _ _ d_Co_restore_28
  · skip
    refine V_bipush (v := -103) X d_Co_restore_7 (by decide) ?_
    have h9 := wp_some h
    exact hQ _ _ h9 (fun h9 => absurd h9 (by decide)) _ _ d_Co_restore_9
set_option maxHeartbeats 4000000 in
set_option maxRecDepth 100000 in
theorem k_Co_right (σ : Sg) (a0 : Int32) (a1 : Int32) (r : Int32) (σ' : Sg) (h : Co_right σ a0 a1 = some (r, σ')) : Evc y_Co_right prog_1_method_9_code 4 (some .int) 9 (fun ad => [Value.ref (ad 0), Value.int a0, Value.int a1]) σ σ' (fun _ => some (.int r)) := by
  refine Evc_ofI (by decide) (fun ad => Nat.le_of_ble_eq_true rfl) (fun p l e R s m args below meth c D ad cI cB A Q X hQ => ?_)
  have X : Cx p R s m args meth c jR0 prog_1_method_9_code 4 9 D ad cI cB A 0 0 := X
  have h : wpO (Co_right σ a0 a1) (fun q => q = (r, σ')) := ⟨_, h, rfl⟩
  rw [Co_right] at h
  refine V_sub (lv' := [(0, Value.ref (ad 0)), (1, Value.int a0), (2, Value.int a1)]) [0, 1, 2] rfl ?_
  refine V_aload_n X 0 d_Co_right_0 rfl ?_
  refine V_getR X 0 2 5 rfl ji0 (by decide) (by decide) (by decide) fl_Co_28 d_Co_right_1 (by decide) (by decide) (by decide) (by decide) ?_
  refine V_iload_n X 1 d_Co_right_4 rfl ?_
  refine V_cI X h (fun r1 q => C_V (q := 3) X [Value.int a0] mt_Sh_hasSuit ms_Sh_hasSuit ml_Co_111 (k_Sh_hasSuit σ 5 (by decide) (by decide) a0 r1 q) rfl rfl (by omega) (Nat.le_of_ble_eq_true rfl) rfl (by decide) (by decide) (by decide) d_Co_right_5) (fun r1 h => ?_)
  refine V_if_eq X 22 d_Co_right_8 (by decide) h (fun c2 h => ?_) (fun c2 h => ?_)
  · skip
    refine V_bipush (v := -101) X d_Co_right_22 (by decide) ?_
    have h9 := wp_some h
    exact hQ _ _ h9 (fun h9 => absurd h9 (by decide)) _ _ d_Co_right_24
  · skip
    refine V_aload_n X 0 d_Co_right_11 rfl ?_
    refine V_getR X 0 2 5 rfl ji0 (by decide) (by decide) (by decide) fl_Co_28 d_Co_right_12 (by decide) (by decide) (by decide) (by decide) ?_
    refine V_iload_n X 2 d_Co_right_15 rfl ?_
    refine V_cI X h (fun r3 q => C_V (q := 3) X [Value.int a1] mt_Sh_hasTree ms_Sh_hasTree ml_Co_97 (k_Sh_hasTree σ 5 (by decide) (by decide) a1 r3 q) rfl rfl (by omega) (Nat.le_of_ble_eq_true rfl) rfl (by decide) (by decide) (by decide) d_Co_right_16) (fun r3 h => ?_)
    refine V_if_ne X 25 d_Co_right_19 (by decide) h (fun c4 h => ?_) (fun c4 h => ?_)
    · skip
      refine V_aload_n X 0 d_Co_right_25 rfl ?_
      refine V_getR X 0 2 5 rfl ji0 (by decide) (by decide) (by decide) fl_Co_28 d_Co_right_26 (by decide) (by decide) (by decide) (by decide) ?_
      refine V_iload_n X 1 d_Co_right_29 rfl ?_
      refine V_iload_n X 2 d_Co_right_30 rfl ?_
      refine V_cI X h (fun r5 q => C_V (q := 3) X [Value.int a0, Value.int a1] mt_Sh_isPossible ms_Sh_isPossible ml_Co_151 (k_Sh_isPossible σ 5 (by decide) (by decide) a0 a1 r5 q) rfl rfl (by omega) (Nat.le_of_ble_eq_true rfl) rfl (by decide) (by decide) (by decide) d_Co_right_31) (fun r5 h => ?_)
      refine V_if_ne X 40 d_Co_right_34 (by decide) h (fun c6 h => ?_) (fun c6 h => ?_)
      · skip
        refine V_aload_n X 0 d_Co_right_40 rfl ?_
        refine V_getR X 0 2 5 rfl ji0 (by decide) (by decide) (by decide) fl_Co_28 d_Co_right_41 (by decide) (by decide) (by decide) (by decide) ?_
        refine V_cI X h (fun r7 q => C_V (q := 3) X [] mt_Sh_rightings ms_Sh_rightings ml_Co_154 (k_Sh_rightings σ 5 (by decide) (by decide) r7 q) rfl rfl (by omega) (Nat.le_of_ble_eq_true rfl) rfl (by decide) (by decide) (by decide) d_Co_right_44) (fun r7 h => ?_)
        refine V_sipush (v := 999) X d_Co_right_47 (by decide) ?_
        refine V_icmp_lt X 56 d_Co_right_50 (by decide) h (fun c8 h => ?_) (fun c8 h => ?_)
        · skip
          refine V_aload_n X 0 d_Co_right_56 rfl ?_
          refine V_getR X 0 2 5 rfl ji0 (by decide) (by decide) (by decide) fl_Co_28 d_Co_right_57 (by decide) (by decide) (by decide) (by decide) ?_
          refine V_iload_n X 1 d_Co_right_60 rfl ?_
          refine V_cI X h (fun r9 q => C_V (q := 3) X [Value.int a0] mt_Sh_shakes ms_Sh_shakes ml_Co_139 (k_Sh_shakes σ 5 (by decide) (by decide) a0 r9 q) rfl rfl (by omega) (Nat.le_of_ble_eq_true rfl) rfl (by decide) (by decide) (by decide) d_Co_right_61) (fun r9 h => ?_)
          refine V_istore_n X [(3, Value.int r9), (0, Value.ref (ad 0)), (1, Value.int a0), (2, Value.int a1)] d_Co_right_64 (by decide) rfl ?_
          refine V_aload_n X 1 d_Co_right_65 rfl ?_
          refine V_getR X 0 2 5 rfl ji0 (by decide) (by decide) (by decide) fl_Co_28 d_Co_right_66 (by decide) (by decide) (by decide) (by decide) ?_
          refine V_iload_n X 2 d_Co_right_69 rfl ?_
          refine V_iload_n X 3 d_Co_right_70 rfl ?_
          refine V_cV X h (fun s10 q => C_V (q := 3) X [Value.int a0, Value.int a1] mt_Sh_pluckAndRight ms_Sh_pluckAndRight ml_Co_157 (k_Sh_pluckAndRight σ 5 (by decide) (by decide) a0 a1 s10 q) rfl rfl (by omega) (Nat.le_of_ble_eq_true rfl) rfl (by decide) (by decide) (by decide) d_Co_right_71) (fun s10 h => ?_)
          refine V_iload_n X 0 d_Co_right_74 rfl ?_
          have h9 := wp_some h
          exact hQ _ _ h9 (fun h9 => absurd h9 (by decide)) _ _ d_Co_right_75
        · skip
          refine V_bipush (v := -104) X d_Co_right_53 (by decide) ?_
          have h9 := wp_some h
          exact hQ _ _ h9 (fun h9 => absurd h9 (by decide)) _ _ d_Co_right_55
      · skip
        refine V_bipush (v := -103) X d_Co_right_37 (by decide) ?_
        have h9 := wp_some h
        exact hQ _ _ h9 (fun h9 => absurd h9 (by decide)) _ _ d_Co_right_39
    · skip
      refine V_bipush (v := -101) X d_Co_right_22 (by decide) ?_
      have h9 := wp_some h
      exact hQ _ _ h9 (fun h9 => absurd h9 (by decide)) _ _ d_Co_right_24
set_option maxHeartbeats 4000000 in
set_option maxRecDepth 100000 in
theorem k_Si_add (σ : Sg) (k : Nat) (hl_k : k < 116) (hc_k : jv_cls k = 4) (a0 : Int32) (a1 : Int32) (a2 : Int32) (σ' : Sg) (h : Si_add σ k a0 a1 a2 = some σ') : Evc y_Si_add prog_11_method_3_code 4 (none) 2 (fun ad => [Value.ref (ad k), Value.int a0, Value.int a1, Value.int a2]) σ σ' (fun _ => none) := by
  refine Evc_ofV (by decide) (fun ad => Nat.le_of_ble_eq_true rfl) (fun p l e R s m args below meth c D ad cI cB A Q X hQ => ?_)
  have X : Cx p R s m args meth c jR4 prog_11_method_3_code 4 2 D ad cI cB A 0 0 := X
  have h : wpO (Si_add σ k a0 a1 a2) (fun q => q = σ') := ⟨_, h, rfl⟩
  rw [Si_add] at h
  refine V_sub (lv' := [(0, Value.ref (ad k)), (1, Value.int a0), (2, Value.int a1), (3, Value.int a2)]) [0, 1, 2, 3] rfl ?_
  refine V_aload_n X 0 d_Si_add_0 rfl ?_
  refine V_getR X 4 0 (k + 1) rfl ji4 (by decide) (by decide) (by decide) fl_Si_14 d_Si_add_1 hl_k hc_k (by decide) (jl_si0 k hl_k hc_k).2.2 ?_
  refine V_aload_n X 0 d_Si_add_4 rfl ?_
  refine V_getI X 4 3 rfl ji4 (by decide) (by decide) (by decide) fl_Si_26 d_Si_add_5 hl_k hc_k (by decide) ?_
  refine V_iload_n X 1 d_Si_add_8 rfl ?_
  refine V_cV X h (fun s1 q => C_V (q := 9) X [Value.int (gF σ k 3), Value.int a0] mt_Rw_put ms_Rw_put ml_Si_30 (k_Rw_put σ (k + 1) (jl_si0 k hl_k hc_k).1 (jl_si0 k hl_k hc_k).2.1 (gF σ k 3) a0 s1 q) rfl rfl (by omega) (Nat.le_of_ble_eq_true rfl) rfl (jl_si0 k hl_k hc_k).1 (jl_si0 k hl_k hc_k).2.1 (by decide) d_Si_add_9) (fun s1 h => ?_)
  refine V_aload_n X 0 d_Si_add_12 rfl ?_
  refine V_getR X 4 1 (k + 3) rfl ji4 (by decide) (by decide) (by decide) fl_Si_20 d_Si_add_13 hl_k hc_k (by decide) (jl_si1 k hl_k hc_k).2.2 ?_
  refine V_aload_n X 0 d_Si_add_16 rfl ?_
  refine V_getI X 4 3 rfl ji4 (by decide) (by decide) (by decide) fl_Si_26 d_Si_add_17 hl_k hc_k (by decide) ?_
  refine V_iload_n X 2 d_Si_add_20 rfl ?_
  refine V_cV X h (fun s2 q => C_V (q := 9) X [Value.int (gF s1 k 3), Value.int a1] mt_Rw_put ms_Rw_put ml_Si_30 (k_Rw_put s1 (k + 3) (jl_si1 k hl_k hc_k).1 (jl_si1 k hl_k hc_k).2.1 (gF s1 k 3) a1 s2 q) rfl rfl (by omega) (Nat.le_of_ble_eq_true rfl) rfl (jl_si1 k hl_k hc_k).1 (jl_si1 k hl_k hc_k).2.1 (by decide) d_Si_add_21) (fun s2 h => ?_)
  refine V_aload_n X 0 d_Si_add_24 rfl ?_
  refine V_getR X 4 2 (k + 5) rfl ji4 (by decide) (by decide) (by decide) fl_Si_23 d_Si_add_25 hl_k hc_k (by decide) (jl_si2 k hl_k hc_k).2.2 ?_
  refine V_aload_n X 0 d_Si_add_28 rfl ?_
  refine V_getI X 4 3 rfl ji4 (by decide) (by decide) (by decide) fl_Si_26 d_Si_add_29 hl_k hc_k (by decide) ?_
  refine V_iload_n X 3 d_Si_add_32 rfl ?_
  refine V_if_eq X 40 d_Si_add_33 (by decide) h (fun c3 h => ?_) (fun c3 h => ?_)
  · skip
    refine V_iconst (v := 0) X d_Si_add_40 (by decide) ?_
    refine V_cV X h (fun s4 q => C_V (q := 9) X [Value.int (gF s2 k 3), Value.int (0 : Int32)] mt_Rw_put ms_Rw_put ml_Si_30 (k_Rw_put s2 (k + 5) (jl_si2 k hl_k hc_k).1 (jl_si2 k hl_k hc_k).2.1 (gF s2 k 3) (0 : Int32) s4 q) rfl rfl (by omega) (Nat.le_of_ble_eq_true rfl) rfl (jl_si2 k hl_k hc_k).1 (jl_si2 k hl_k hc_k).2.1 (by decide) d_Si_add_41) (fun s4 h => ?_)
    refine V_aload_n X 0 d_Si_add_44 rfl ?_
    refine V_dup X d_Si_add_45 rfl ?_
    refine V_getI X 4 3 rfl ji4 (by decide) (by decide) (by decide) fl_Si_26 d_Si_add_46 hl_k hc_k (by decide) ?_
    refine V_iconst (v := 1) X d_Si_add_49 (by decide) ?_
    refine V_iadd X d_Si_add_50 ?_
    refine V_putI X 4 3 rfl ji4 jk4 jn4 (by decide) (by decide) (by decide) rfl (by decide +kernel) fl_Si_26 d_Si_add_51 hl_k hc_k (by decide) ?_
    have h9 := wp_some h
    exact hQ _ h9 _ _ d_Si_add_54
  · skip
    refine V_iconst (v := 1) X d_Si_add_36 (by decide) ?_
    refine V_goto X 41 d_Si_add_37 (by decide) ?_
    refine V_cV X h (fun s5 q => C_V (q := 9) X [Value.int (gF s2 k 3), Value.int (1 : Int32)] mt_Rw_put ms_Rw_put ml_Si_30 (k_Rw_put s2 (k + 5) (jl_si2 k hl_k hc_k).1 (jl_si2 k hl_k hc_k).2.1 (gF s2 k 3) (1 : Int32) s5 q) rfl rfl (by omega) (Nat.le_of_ble_eq_true rfl) rfl (jl_si2 k hl_k hc_k).1 (jl_si2 k hl_k hc_k).2.1 (by decide) d_Si_add_41) (fun s5 h => ?_)
    refine V_aload_n X 0 d_Si_add_44 rfl ?_
    refine V_dup X d_Si_add_45 rfl ?_
    refine V_getI X 4 3 rfl ji4 (by decide) (by decide) (by decide) fl_Si_26 d_Si_add_46 hl_k hc_k (by decide) ?_
    refine V_iconst (v := 1) X d_Si_add_49 (by decide) ?_
    refine V_iadd X d_Si_add_50 ?_
    refine V_putI X 4 3 rfl ji4 jk4 jn4 (by decide) (by decide) (by decide) rfl (by decide +kernel) fl_Si_26 d_Si_add_51 hl_k hc_k (by decide) ?_
    have h9 := wp_some h
    exact hQ _ h9 _ _ d_Si_add_54
set_option maxHeartbeats 4000000 in
set_option maxRecDepth 100000 in
theorem k_Co_see (σ : Sg) (a0 : Int32) (a1 : Int32) (a2 : Int32) (r : Int32) (σ' : Sg) (h : Co_see σ a0 a1 a2 = some (r, σ')) : Evc y_Co_see prog_1_method_17_code 4 (some .int) 3 (fun ad => [Value.ref (ad 0), Value.int a0, Value.int a1, Value.int a2]) σ σ' (fun _ => some (.int r)) := by
  refine Evc_ofI (by decide) (fun ad => Nat.le_of_ble_eq_true rfl) (fun p l e R s m args below meth c D ad cI cB A Q X hQ => ?_)
  have X : Cx p R s m args meth c jR0 prog_1_method_17_code 4 3 D ad cI cB A 0 0 := X
  have h : wpO (Co_see σ a0 a1 a2) (fun q => q = (r, σ')) := ⟨_, h, rfl⟩
  rw [Co_see] at h
  refine V_sub (lv' := [(0, Value.ref (ad 0)), (1, Value.int a0), (2, Value.int a1), (3, Value.int a2)]) [0, 1, 2, 3] rfl ?_
  refine V_aload_n X 0 d_Co_see_0 rfl ?_
  refine V_getR X 0 2 5 rfl ji0 (by decide) (by decide) (by decide) fl_Co_28 d_Co_see_1 (by decide) (by decide) (by decide) (by decide) ?_
  refine V_iload_n X 1 d_Co_see_4 rfl ?_
  refine V_cI X h (fun r1 q => C_V (q := 3) X [Value.int a0] mt_Sh_hasSuit ms_Sh_hasSuit ml_Co_111 (k_Sh_hasSuit σ 5 (by decide) (by decide) a0 r1 q) rfl rfl (by omega) (Nat.le_of_ble_eq_true rfl) rfl (by decide) (by decide) (by decide) d_Co_see_5) (fun r1 h => ?_)
  refine V_if_ne X 14 d_Co_see_8 (by decide) h (fun c2 h => ?_) (fun c2 h => ?_)
  · skip
    refine V_iload_n X 2 d_Co_see_14 rfl ?_
    refine V_iconst (v := 1) X d_Co_see_15 (by decide) ?_
    refine V_icmp_lt X 25 d_Co_see_16 (by decide) h (fun c3 h => ?_) (fun c3 h => ?_)
    · skip
      refine V_bipush (v := -102) X d_Co_see_25 (by decide) ?_
      have h9 := wp_some h
      exact hQ _ _ h9 (fun h9 => absurd h9 (by decide)) _ _ d_Co_see_27
    · skip
      refine V_iload_n X 2 d_Co_see_19 rfl ?_
      refine V_bipush (v := 18) X d_Co_see_20 (by decide) ?_
      refine V_icmp_le X 28 d_Co_see_22 (by decide) h (fun c4 h => ?_) (fun c4 h => ?_)
      · skip
        refine V_aload_n X 0 d_Co_see_28 rfl ?_
        refine V_getR X 0 2 5 rfl ji0 (by decide) (by decide) (by decide) fl_Co_28 d_Co_see_29 (by decide) (by decide) (by decide) (by decide) ?_
        refine V_cR (t := 22) X (C_V (q := 3) X [] mt_Sh_sightings ms_Sh_sightings ml_Co_219 (k_Sh_sightings σ 5 (by decide) (by decide)) rfl rfl (by omega) (Nat.le_of_ble_eq_true rfl) rfl (by decide) (by decide) (by decide) d_Co_see_32) ?_
        refine V_cI X h (fun r5 q => C_V (q := 4) X [] mt_Si_size ms_Si_size ml_Co_223 (k_Si_size σ 22 (by decide) (by decide) r5 q) rfl rfl (by omega) (Nat.le_of_ble_eq_true rfl) rfl (by decide) (by decide) (by decide) d_Co_see_35) (fun r5 h => ?_)
        refine V_bipush (v := 8) X d_Co_see_38 (by decide) ?_
        refine V_icmp_lt X 46 d_Co_see_40 (by decide) h (fun c6 h => ?_) (fun c6 h => ?_)
        · skip
          refine V_aload_n X 0 d_Co_see_46 rfl ?_
          refine V_getR X 0 2 5 rfl ji0 (by decide) (by decide) (by decide) fl_Co_28 d_Co_see_47 (by decide) (by decide) (by decide) (by decide) ?_
          refine V_cR (t := 22) X (C_V (q := 3) X [] mt_Sh_sightings ms_Sh_sightings ml_Co_219 (k_Sh_sightings σ 5 (by decide) (by decide)) rfl rfl (by omega) (Nat.le_of_ble_eq_true rfl) rfl (by decide) (by decide) (by decide) d_Co_see_50) ?_
          refine V_iload_n X 1 d_Co_see_53 rfl ?_
          refine V_iload_n X 2 d_Co_see_54 rfl ?_
          refine V_iload_n X 3 d_Co_see_55 rfl ?_
          refine V_cV X h (fun s7 q => C_V (q := 4) X [Value.int a0, Value.int a1, Value.int a2] mt_Si_add ms_Si_add ml_Co_226 (k_Si_add σ 22 (by decide) (by decide) a0 a1 a2 s7 q) rfl rfl (by omega) (Nat.le_of_ble_eq_true rfl) rfl (by decide) (by decide) (by decide) d_Co_see_56) (fun s7 h => ?_)
          refine V_aload_n X 0 d_Co_see_59 rfl ?_
          refine V_getR X 0 2 5 rfl ji0 (by decide) (by decide) (by decide) fl_Co_28 d_Co_see_60 (by decide) (by decide) (by decide) (by decide) ?_
          refine V_cR (t := 22) X (C_V (q := 3) X [] mt_Sh_sightings ms_Sh_sightings ml_Co_219 (k_Sh_sightings s7 5 (by decide) (by decide)) rfl rfl (by omega) (Nat.le_of_ble_eq_true rfl) rfl (by decide) (by decide) (by decide) d_Co_see_63) ?_
          refine V_cI X h (fun r8 q => C_V (q := 4) X [] mt_Si_size ms_Si_size ml_Co_223 (k_Si_size s7 22 (by decide) (by decide) r8 q) rfl rfl (by omega) (Nat.le_of_ble_eq_true rfl) rfl (by decide) (by decide) (by decide) d_Co_see_66) (fun r8 h => ?_)
          have h9 := wp_some h
          exact hQ _ _ h9 (fun h9 => absurd h9 (by decide)) _ _ d_Co_see_69
        · skip
          refine V_bipush (v := -104) X d_Co_see_43 (by decide) ?_
          have h9 := wp_some h
          exact hQ _ _ h9 (fun h9 => absurd h9 (by decide)) _ _ d_Co_see_45
      · skip
        refine V_bipush (v := -102) X d_Co_see_25 (by decide) ?_
        have h9 := wp_some h
        exact hQ _ _ h9 (fun h9 => absurd h9 (by decide)) _ _ d_Co_see_27
  · skip
    refine V_bipush (v := -101) X d_Co_see_11 (by decide) ?_
    have h9 := wp_some h
    exact hQ _ _ h9 (fun h9 => absurd h9 (by decide)) _ _ d_Co_see_13
set_option maxHeartbeats 4000000 in
set_option maxRecDepth 100000 in
theorem k_Rd_isWholeShire (fu : Nat) (σ : Sg) (r : Int32) (σ' : Sg) (h : Rd_isWholeShire fu σ = some (r, σ')) : Evc y_Rd_isWholeShire prog_8_method_3_code 1 (some .boolean) 8 (fun ad => [Value.ref (ad 4)]) σ σ' (fun _ => some (.int r)) := by
  refine Evc_ofZ (by decide) (fun ad => Nat.le_of_ble_eq_true rfl) (fun p l e R s m args below meth c D ad cI cB A Q X hQ => ?_)
  have X : Cx p R s m args meth c jR2 prog_8_method_3_code 1 8 D ad cI cB A 0 0 := X
  have h : wpO (Rd_isWholeShire fu σ) (fun q => q = (r, σ')) := ⟨_, h, rfl⟩
  rw [Rd_isWholeShire] at h
  refine V_sub (lv' := [(0, Value.ref (ad 4))]) [0] rfl ?_
  refine V_aload_n X 0 d_Rd_isWholeShire_0 rfl ?_
  refine V_cP X h (fun r1 s2 q => C_V (q := 2) X [] mt_Rd_firstFault ms_Rd_firstFault ml_Rd_39 (k_Rd_firstFault fu σ r1 s2 q) rfl rfl (by omega) (Nat.le_of_ble_eq_true rfl) rfl (by decide) (by decide) (by decide) d_Rd_isWholeShire_1) (fun r1 s2 h => ?_)
  refine V_aload_n X 0 d_Rd_isWholeShire_4 rfl ?_
  refine V_getR X 2 0 1 rfl ji2 (by decide) (by decide) (by decide) fl_Rd_9 d_Rd_isWholeShire_5 (by decide) (by decide) (by decide) (by decide) ?_
  refine V_cI X h (fun r3 q => C_V (q := 1) X [] mt_Pg_size ms_Pg_size ml_Rd_25 (k_Pg_size s2 r3 q) rfl rfl (by omega) (Nat.le_of_ble_eq_true rfl) rfl (by decide) (by decide) (by decide) d_Rd_isWholeShire_8) (fun r3 h => ?_)
  refine V_icmp_ne X 35 d_Rd_isWholeShire_11 (by decide) h (fun c4 h => ?_) (fun c4 h => ?_)
  · skip
    refine V_iconst (v := 0) X d_Rd_isWholeShire_35 (by decide) ?_
    have h9 := wp_some h
    exact hQ _ _ h9 (fun _ => by decide) _ _ d_Rd_isWholeShire_36
  · skip
    refine V_aload_n X 0 d_Rd_isWholeShire_14 rfl ?_
    refine V_getI X 2 1 rfl ji2 (by decide) (by decide) (by decide) fl_Rd_15 d_Rd_isWholeShire_15 (by decide) (by decide) (by decide) ?_
    refine V_bipush (v := 7) X d_Rd_isWholeShire_18 (by decide) ?_
    refine V_icmp_ne X 35 d_Rd_isWholeShire_20 (by decide) h (fun c5 h => ?_) (fun c5 h => ?_)
    · skip
      refine V_iconst (v := 0) X d_Rd_isWholeShire_35 (by decide) ?_
      have h9 := wp_some h
      exact hQ _ _ h9 (fun _ => by decide) _ _ d_Rd_isWholeShire_36
    · skip
      refine V_aload_n X 0 d_Rd_isWholeShire_23 rfl ?_
      refine V_getI X 2 3 rfl ji2 (by decide) (by decide) (by decide) fl_Rd_22 d_Rd_isWholeShire_24 (by decide) (by decide) (by decide) ?_
      refine V_iconst (v := 2) X d_Rd_isWholeShire_27 (by decide) ?_
      refine V_icmp_lt X 35 d_Rd_isWholeShire_28 (by decide) h (fun c6 h => ?_) (fun c6 h => ?_)
      · skip
        refine V_iconst (v := 0) X d_Rd_isWholeShire_35 (by decide) ?_
        have h9 := wp_some h
        exact hQ _ _ h9 (fun _ => by decide) _ _ d_Rd_isWholeShire_36
      · skip
        refine V_iconst (v := 1) X d_Rd_isWholeShire_31 (by decide) ?_
        refine V_goto X 36 d_Rd_isWholeShire_32 (by decide) ?_
        have h9 := wp_some h
        exact hQ _ _ h9 (fun _ => by decide) _ _ d_Rd_isWholeShire_36
set_option maxHeartbeats 4000000 in
set_option maxRecDepth 100000 in
theorem k_Sh_begin (σ : Sg) (k : Nat) (hl_k : k < 116) (hc_k : jv_cls k = 3) (σ' : Sg) (h : Sh_begin σ k = some σ') : Evc y_Sh_begin prog_10_method_2_code 1 (none) 2 (fun ad => [Value.ref (ad k)]) σ σ' (fun _ => none) := by
  refine Evc_ofV (by decide) (fun ad => Nat.le_of_ble_eq_true rfl) (fun p l e R s m args below meth c D ad cI cB A Q X hQ => ?_)
  have X : Cx p R s m args meth c jR3 prog_10_method_2_code 1 2 D ad cI cB A 0 0 := X
  have h : wpO (Sh_begin σ k) (fun q => q = σ') := ⟨_, h, rfl⟩
  rw [Sh_begin] at h
  refine V_sub (lv' := [(0, Value.ref (ad k))]) [0] rfl ?_
  refine V_aload_n X 0 d_Sh_begin_0 rfl ?_
  refine V_iconst (v := 0) X d_Sh_begin_1 (by decide) ?_
  refine V_putI X 3 0 rfl ji3 jk3 jn3 (by decide) (by decide) (by decide) rfl (by decide +kernel) fl_Sh_48 d_Sh_begin_2 hl_k hc_k (by decide) ?_
  refine V_aload_n X 0 d_Sh_begin_5 rfl ?_
  refine V_iconst (v := 0) X d_Sh_begin_6 (by decide) ?_
  refine V_putI X 3 1 rfl ji3 jk3 jn3 (by decide) (by decide) (by decide) rfl (by decide +kernel) fl_Sh_52 d_Sh_begin_7 hl_k hc_k (by decide) ?_
  refine V_aload_n X 0 d_Sh_begin_10 rfl ?_
  refine V_iconst (v := 0) X d_Sh_begin_11 (by decide) ?_
  refine V_putI X 3 11 rfl ji3 jk3 jn3 (by decide) (by decide) (by decide) rfl (by decide +kernel) fl_Sh_55 d_Sh_begin_12 hl_k hc_k (by decide) ?_
  refine V_aload_n X 0 d_Sh_begin_15 rfl ?_
  refine V_iconst (v := 0) X d_Sh_begin_16 (by decide) ?_
  refine V_putI X 3 12 rfl ji3 jk3 jn3 (by decide) (by decide) (by decide) rfl (by decide +kernel) fl_Sh_58 d_Sh_begin_17 hl_k hc_k (by decide) ?_
  refine V_aload_n X 0 d_Sh_begin_20 rfl ?_
  refine V_iconst (v := 0) X d_Sh_begin_21 (by decide) ?_
  refine V_putI X 3 13 rfl ji3 jk3 jn3 (by decide) (by decide) (by decide) rfl (by decide +kernel) fl_Sh_61 d_Sh_begin_22 hl_k hc_k (by decide) ?_
  refine V_aload_n X 0 d_Sh_begin_25 rfl ?_
  refine V_getR X 3 10 (k + 17) rfl ji3 (by decide) (by decide) (by decide) fl_Sh_44 d_Sh_begin_26 hl_k hc_k (by decide) (jl_sh10 k hl_k hc_k).2.2 ?_
  refine V_cV X h (fun s1 q => C_V (q := 4) X [] mt_Si_clear ms_Si_clear ml_Sh_64 (k_Si_clear (sF (sF (sF (sF (sF σ k 0 (0 : Int32)) k 1 (0 : Int32)) k 11 (0 : Int32)) k 12 (0 : Int32)) k 13 (0 : Int32)) (k + 17) (jl_sh10 k hl_k hc_k).1 (jl_sh10 k hl_k hc_k).2.1 s1 q) rfl rfl (by omega) (Nat.le_of_ble_eq_true rfl) rfl (jl_sh10 k hl_k hc_k).1 (jl_sh10 k hl_k hc_k).2.1 (by decide) d_Sh_begin_29) (fun s1 h => ?_)
  have h9 := wp_some h
  exact hQ _ h9 _ _ d_Sh_begin_32
set_option maxHeartbeats 4000000 in
set_option maxRecDepth 100000 in
theorem k_Pg_digit (σ : Sg) (a0 : Int32) (r : Int32) (h : Pg_digit σ a0 = some r) : Evc y_Pg_digit prog_6_method_4_code 2 (some .int) 2 (fun ad => [Value.ref (ad 1), Value.int a0]) σ σ (fun _ => some (.int r)) := by
  refine Evc_ofI (by decide) (fun ad => Nat.le_of_ble_eq_true rfl) (fun p l e R s m args below meth c D ad cI cB A Q X hQ => ?_)
  have X : Cx p R s m args meth c jR1 prog_6_method_4_code 2 2 D ad cI cB A 0 0 := X
  have hQ := hQ.pure
  have h : wpO (Pg_digit σ a0) (fun q => q = r) := ⟨_, h, rfl⟩
  rw [Pg_digit] at h
  refine V_sub (lv' := [(0, Value.ref (ad 1)), (1, Value.int a0)]) [0, 1] rfl ?_
  refine V_aload_n X 0 d_Pg_digit_0 rfl ?_
  refine V_getR X 1 0 2 rfl ji1 (by decide) (by decide) (by decide) fl_Pg_14 d_Pg_digit_1 (by decide) (by decide) (by decide) (by decide) ?_
  refine V_iload_n X 1 d_Pg_digit_4 rfl ?_
  refine V_cI X h (fun r1 q => C_V (q := 9) X [Value.int a0] mt_Rw_at ms_Rw_at ml_Pg_24 (k_Rw_at σ 2 (by decide) (by decide) a0 r1 q) rfl rfl (by omega) (Nat.le_of_ble_eq_true rfl) rfl (by decide) (by decide) (by decide) d_Pg_digit_5) (fun r1 h => ?_)
  refine V_bipush (v := 48) X d_Pg_digit_8 (by decide) ?_
  refine V_isub X d_Pg_digit_10 ?_
  have h9 := wp_some h
  exact hQ _ h9 (fun h9 => absurd h9 (by decide)) _ _ d_Pg_digit_11
set_option maxHeartbeats 4000000 in
set_option maxRecDepth 100000 in
theorem k_Sh_addTree (σ : Sg) (k : Nat) (hl_k : k < 116) (hc_k : jv_cls k = 3) (a0 : Int32) (a1 : Int32) (σ' : Sg) (h : Sh_addTree σ k a0 a1 = some σ') : Evc y_Sh_addTree prog_10_method_3_code 3 (none) 2 (fun ad => [Value.ref (ad k), Value.int a0, Value.int a1]) σ σ' (fun _ => none) := by
  refine Evc_ofV (by decide) (fun ad => Nat.le_of_ble_eq_true rfl) (fun p l e R s m args below meth c D ad cI cB A Q X hQ => ?_)
  have X : Cx p R s m args meth c jR3 prog_10_method_3_code 3 2 D ad cI cB A 0 0 := X
  have h : wpO (Sh_addTree σ k a0 a1) (fun q => q = σ') := ⟨_, h, rfl⟩
  rw [Sh_addTree] at h
  refine V_sub (lv' := [(0, Value.ref (ad k)), (1, Value.int a0), (2, Value.int a1)]) [0, 1, 2] rfl ?_
  refine V_aload_n X 0 d_Sh_addTree_0 rfl ?_
  refine V_getR X 3 2 (k + 1) rfl ji3 (by decide) (by decide) (by decide) fl_Sh_14 d_Sh_addTree_1 hl_k hc_k (by decide) (jl_sh2 k hl_k hc_k).2.2 ?_
  refine V_aload_n X 0 d_Sh_addTree_4 rfl ?_
  refine V_getI X 3 0 rfl ji3 (by decide) (by decide) (by decide) fl_Sh_48 d_Sh_addTree_5 hl_k hc_k (by decide) ?_
  refine V_iload_n X 1 d_Sh_addTree_8 rfl ?_
  refine V_cV X h (fun s1 q => C_V (q := 9) X [Value.int (gF σ k 0), Value.int a0] mt_Rw_put ms_Rw_put ml_Sh_67 (k_Rw_put σ (k + 1) (jl_sh2 k hl_k hc_k).1 (jl_sh2 k hl_k hc_k).2.1 (gF σ k 0) a0 s1 q) rfl rfl (by omega) (Nat.le_of_ble_eq_true rfl) rfl (jl_sh2 k hl_k hc_k).1 (jl_sh2 k hl_k hc_k).2.1 (by decide) d_Sh_addTree_9) (fun s1 h => ?_)
  refine V_aload_n X 0 d_Sh_addTree_12 rfl ?_
  refine V_getR X 3 3 (k + 3) rfl ji3 (by decide) (by decide) (by decide) fl_Sh_20 d_Sh_addTree_13 hl_k hc_k (by decide) (jl_sh3 k hl_k hc_k).2.2 ?_
  refine V_aload_n X 0 d_Sh_addTree_16 rfl ?_
  refine V_getI X 3 0 rfl ji3 (by decide) (by decide) (by decide) fl_Sh_48 d_Sh_addTree_17 hl_k hc_k (by decide) ?_
  refine V_iload_n X 2 d_Sh_addTree_20 rfl ?_
  refine V_cV X h (fun s2 q => C_V (q := 9) X [Value.int (gF s1 k 0), Value.int a1] mt_Rw_put ms_Rw_put ml_Sh_67 (k_Rw_put s1 (k + 3) (jl_sh3 k hl_k hc_k).1 (jl_sh3 k hl_k hc_k).2.1 (gF s1 k 0) a1 s2 q) rfl rfl (by omega) (Nat.le_of_ble_eq_true rfl) rfl (jl_sh3 k hl_k hc_k).1 (jl_sh3 k hl_k hc_k).2.1 (by decide) d_Sh_addTree_21) (fun s2 h => ?_)
  refine V_aload_n X 0 d_Sh_addTree_24 rfl ?_
  refine V_dup X d_Sh_addTree_25 rfl ?_
  refine V_getI X 3 0 rfl ji3 (by decide) (by decide) (by decide) fl_Sh_48 d_Sh_addTree_26 hl_k hc_k (by decide) ?_
  refine V_iconst (v := 1) X d_Sh_addTree_29 (by decide) ?_
  refine V_iadd X d_Sh_addTree_30 ?_
  refine V_putI X 3 0 rfl ji3 jk3 jn3 (by decide) (by decide) (by decide) rfl (by decide +kernel) fl_Sh_48 d_Sh_addTree_31 hl_k hc_k (by decide) ?_
  have h9 := wp_some h
  exact hQ _ h9 _ _ d_Sh_addTree_34
set_option maxHeartbeats 4000000 in
set_option maxRecDepth 100000 in
theorem Sh_addSuit_L94_ok {p : Program} {l : Launch} {e : Env} {R : Room} {s : State} {m : MethodId} {args : Array Value} {below : List Frame} {meth : Method} {c : Code} {D : va_G} {ad : Nat → Nat} {cI cB : ClassId} {A : Nat → Prop} {cells slots : Nat} {Q : State → Prop} (X : Cx p R s m args meth c jR3 prog_10_method_4_code 8 2 D ad cI cB A cells slots) (fu : Nat) (k : Nat) (hl_k : k < 116) (hc_k : jv_cls k = 3) (l5 : Int32) (kont : (Int32 → Int32 → Sg → Option Sg)) {K : Sg → Prop} (hQ : RV p l e R s m args below meth c 8 D ad cI cB A cells slots Q prog_10_method_4_code K) (hk : ∀ (l6 : Int32) (l7 : Int32) (σ : Sg), wpO (kont l6 l7 σ) K → V p l e R s m args below meth c 8 D A cells slots Q (wl ad cI cB σ) 148 [(0, Value.ref (ad k)), (5, Value.int l5), (6, Value.int l6), (7, Value.int l7)] []) : ∀ (n : Nat) (l6 : Int32) (l7 : Int32) (σ : Sg), wpO (Sh_addSuit_L94 fu k l5 kont n l6 l7 σ) K → V p l e R s m args below meth c 8 D A cells slots Q (wl ad cI cB σ) 94 [(0, Value.ref (ad k)), (5, Value.int l5), (6, Value.int l6), (7, Value.int l7)] [] := by
  intro n
  induction n with
  | zero =>
    intro l6 l7 σ h
    exact (wp_none h).elim
  | succ n ih =>
    intro l6 l7 σ h
    rw [Sh_addSuit_L94] at h
    refine V_iload X 3 d_Sh_addSuit_94 rfl ?_
    refine V_bipush (v := 7) X d_Sh_addSuit_96 (by decide) ?_
    refine V_icmp_ge X 148 d_Sh_addSuit_98 (by decide) h (fun c9 h => ?_) (fun c9 h => ?_)
    · skip
      exact hk l6 l7 σ h
    · skip
      refine V_iload X 2 d_Sh_addSuit_101 rfl ?_
      refine V_iconst (v := -1) X d_Sh_addSuit_103 (by decide) ?_
      refine V_icmp_eq X 148 d_Sh_addSuit_104 (by decide) h (fun c10 h => ?_) (fun c10 h => ?_)
      · skip
        exact hk l6 l7 σ h
      · skip
        refine V_aload_n X 0 d_Sh_addSuit_107 rfl ?_
        refine V_getR X 3 9 (k + 15) rfl ji3 (by decide) (by decide) (by decide) fl_Sh_38 d_Sh_addSuit_108 hl_k hc_k (by decide) (jl_sh9 k hl_k hc_k).2.2 ?_
        refine V_iload X 2 d_Sh_addSuit_111 rfl ?_
        refine V_aload_n X 0 d_Sh_addSuit_113 rfl ?_
        refine V_getR X 3 9 (k + 15) rfl ji3 (by decide) (by decide) (by decide) fl_Sh_38 d_Sh_addSuit_114 hl_k hc_k (by decide) (jl_sh9 k hl_k hc_k).2.2 ?_
        refine V_iload X 2 d_Sh_addSuit_117 rfl ?_
        refine V_cI X h (fun r11 q => C_V (q := 9) X [Value.int l6] mt_Rw_at ms_Rw_at ml_Sh_71 (k_Rw_at σ (k + 15) (jl_sh9 k hl_k hc_k).1 (jl_sh9 k hl_k hc_k).2.1 l6 r11 q) rfl rfl (by omega) (Nat.le_of_ble_eq_true rfl) rfl (jl_sh9 k hl_k hc_k).1 (jl_sh9 k hl_k hc_k).2.1 (by decide) d_Sh_addSuit_119) (fun r11 h => ?_)
        refine V_iload X 1 d_Sh_addSuit_122 rfl ?_
        refine V_cI X h (fun r12 q => C_SN X [Value.int l5] mt_Co_bit ms_Co_bit mn_Sh_75 (k_Co_bit σ l5 r12 q) rfl rfl (by omega) (Nat.le_of_ble_eq_true rfl) d_Sh_addSuit_124) (fun r12 h => ?_)
        refine V_ior X d_Sh_addSuit_127 ?_
        refine V_cV X h (fun s13 q => C_V (q := 9) X [Value.int l6, Value.int (r11 ||| r12)] mt_Rw_put ms_Rw_put ml_Sh_67 (k_Rw_put σ (k + 15) (jl_sh9 k hl_k hc_k).1 (jl_sh9 k hl_k hc_k).2.1 l6 (r11 ||| r12) s13 q) rfl rfl (by omega) (Nat.le_of_ble_eq_true rfl) rfl (jl_sh9 k hl_k hc_k).1 (jl_sh9 k hl_k hc_k).2.1 (by decide) d_Sh_addSuit_128) (fun s13 h => ?_)
        refine V_aload_n X 0 d_Sh_addSuit_131 rfl ?_
        refine V_getR X 3 7 (k + 11) rfl ji3 (by decide) (by decide) (by decide) fl_Sh_32 d_Sh_addSuit_132 hl_k hc_k (by decide) (jl_sh7 k hl_k hc_k).2.2 ?_
        refine V_iload X 2 d_Sh_addSuit_135 rfl ?_
        refine V_cI X h (fun r14 q => C_V (q := 9) X [Value.int l6] mt_Rw_at ms_Rw_at ml_Sh_71 (k_Rw_at s13 (k + 11) (jl_sh7 k hl_k hc_k).1 (jl_sh7 k hl_k hc_k).2.1 l6 r14 q) rfl rfl (by omega) (Nat.le_of_ble_eq_true rfl) rfl (jl_sh7 k hl_k hc_k).1 (jl_sh7 k hl_k hc_k).2.1 (by decide) d_Sh_addSuit_137) (fun r14 h => ?_)
        refine V_istore X [(6, Value.int r14), (0, Value.ref (ad k)), (5, Value.int l5), (7, Value.int l7)] d_Sh_addSuit_140 (by decide) rfl ?_
        refine V_iinc X 3 (l7 + (1 : Int32)) [(7, Value.int (l7 + (1 : Int32))), (6, Value.int r14), (0, Value.ref (ad k)), (5, Value.int l5)] d_Sh_addSuit_142 rfl (by first | rfl | decide) (by decide) rfl ?_
        refine V_goto X 94 d_Sh_addSuit_145 (by decide) ?_
        refine V_sub (lv' := [(0, Value.ref (ad k)), (5, Value.int l5), (6, Value.int r14), (7, Value.int (l7 + (1 : Int32)))]) [2, 3, 1, 0] rfl ?_
        exact ih r14 (l7 + (1 : Int32)) s13 h
set_option maxHeartbeats 4000000 in
set_option maxRecDepth 100000 in
theorem k_Sh_addSuit (fu : Nat) (σ : Sg) (k : Nat) (hl_k : k < 116) (hc_k : jv_cls k = 3) (a0 : Int32) (a1 : Int32) (a2 : Int32) (a3 : Int32) (σ' : Sg) (h : Sh_addSuit fu σ k a0 a1 a2 a3 = some σ') : Evc y_Sh_addSuit prog_10_method_4_code 8 (none) 2 (fun ad => [Value.ref (ad k), Value.int a0, Value.int a1, Value.int a2, Value.int a3]) σ σ' (fun _ => none) := by
  refine Evc_ofV (by decide) (fun ad => Nat.le_of_ble_eq_true rfl) (fun p l e R s m args below meth c D ad cI cB A Q X hQ => ?_)
  have X : Cx p R s m args meth c jR3 prog_10_method_4_code 8 2 D ad cI cB A 0 0 := X
  have h : wpO (Sh_addSuit fu σ k a0 a1 a2 a3) (fun q => q = σ') := ⟨_, h, rfl⟩
  rw [Sh_addSuit] at h
  refine V_sub (lv' := [(0, Value.ref (ad k)), (1, Value.int a0), (2, Value.int a1), (3, Value.int a2), (4, Value.int a3)]) [0, 1, 2, 3, 4] rfl ?_
  refine V_aload_n X 0 d_Sh_addSuit_0 rfl ?_
  refine V_getI X 3 1 rfl ji3 (by decide) (by decide) (by decide) fl_Sh_52 d_Sh_addSuit_1 hl_k hc_k (by decide) ?_
  refine V_istore X [(5, Value.int (gF σ k 1)), (0, Value.ref (ad k)), (1, Value.int a0), (2, Value.int a1), (3, Value.int a2), (4, Value.int a3)] d_Sh_addSuit_4 (by decide) rfl ?_
  refine V_aload_n X 1 d_Sh_addSuit_6 rfl ?_
  refine V_getR X 3 4 (k + 5) rfl ji3 (by decide) (by decide) (by decide) fl_Sh_23 d_Sh_addSuit_7 hl_k hc_k (by decide) (jl_sh4 k hl_k hc_k).2.2 ?_
  refine V_iload X 0 d_Sh_addSuit_10 rfl ?_
  refine V_iload_n X 2 d_Sh_addSuit_12 rfl ?_
  refine V_cV X h (fun s1 q => C_V (q := 9) X [Value.int (gF σ k 1), Value.int a0] mt_Rw_put ms_Rw_put ml_Sh_67 (k_Rw_put σ (k + 5) (jl_sh4 k hl_k hc_k).1 (jl_sh4 k hl_k hc_k).2.1 (gF σ k 1) a0 s1 q) rfl rfl (by omega) (Nat.le_of_ble_eq_true rfl) rfl (jl_sh4 k hl_k hc_k).1 (jl_sh4 k hl_k hc_k).2.1 (by decide) d_Sh_addSuit_13) (fun s1 h => ?_)
  refine V_aload_n X 1 d_Sh_addSuit_16 rfl ?_
  refine V_getR X 3 5 (k + 7) rfl ji3 (by decide) (by decide) (by decide) fl_Sh_26 d_Sh_addSuit_17 hl_k hc_k (by decide) (jl_sh5 k hl_k hc_k).2.2 ?_
  refine V_iload X 0 d_Sh_addSuit_20 rfl ?_
  refine V_iload_n X 3 d_Sh_addSuit_22 rfl ?_
  refine V_cV X h (fun s2 q => C_V (q := 9) X [Value.int (gF σ k 1), Value.int a1] mt_Rw_put ms_Rw_put ml_Sh_67 (k_Rw_put s1 (k + 7) (jl_sh5 k hl_k hc_k).1 (jl_sh5 k hl_k hc_k).2.1 (gF σ k 1) a1 s2 q) rfl rfl (by omega) (Nat.le_of_ble_eq_true rfl) rfl (jl_sh5 k hl_k hc_k).1 (jl_sh5 k hl_k hc_k).2.1 (by decide) d_Sh_addSuit_23) (fun s2 h => ?_)
  refine V_aload_n X 1 d_Sh_addSuit_26 rfl ?_
  refine V_getR X 3 6 (k + 9) rfl ji3 (by decide) (by decide) (by decide) fl_Sh_29 d_Sh_addSuit_27 hl_k hc_k (by decide) (jl_sh6 k hl_k hc_k).2.2 ?_
  refine V_iload X 0 d_Sh_addSuit_30 rfl ?_
  refine V_iload_n X 4 d_Sh_addSuit_32 rfl ?_
  refine V_cV X h (fun s3 q => C_V (q := 9) X [Value.int (gF σ k 1), Value.int a2] mt_Rw_put ms_Rw_put ml_Sh_67 (k_Rw_put s2 (k + 9) (jl_sh6 k hl_k hc_k).1 (jl_sh6 k hl_k hc_k).2.1 (gF σ k 1) a2 s3 q) rfl rfl (by omega) (Nat.le_of_ble_eq_true rfl) rfl (jl_sh6 k hl_k hc_k).1 (jl_sh6 k hl_k hc_k).2.1 (by decide) d_Sh_addSuit_33) (fun s3 h => ?_)
  refine V_aload_n X 1 d_Sh_addSuit_36 rfl ?_
  refine V_getR X 3 7 (k + 11) rfl ji3 (by decide) (by decide) (by decide) fl_Sh_32 d_Sh_addSuit_37 hl_k hc_k (by decide) (jl_sh7 k hl_k hc_k).2.2 ?_
  refine V_iload X 0 d_Sh_addSuit_40 rfl ?_
  refine V_iload X 5 d_Sh_addSuit_42 rfl ?_
  refine V_cV X h (fun s4 q => C_V (q := 9) X [Value.int (gF σ k 1), Value.int a3] mt_Rw_put ms_Rw_put ml_Sh_67 (k_Rw_put s3 (k + 11) (jl_sh7 k hl_k hc_k).1 (jl_sh7 k hl_k hc_k).2.1 (gF σ k 1) a3 s4 q) rfl rfl (by omega) (Nat.le_of_ble_eq_true rfl) rfl (jl_sh7 k hl_k hc_k).1 (jl_sh7 k hl_k hc_k).2.1 (by decide) d_Sh_addSuit_44) (fun s4 h => ?_)
  refine V_aload_n X 1 d_Sh_addSuit_47 rfl ?_
  refine V_getR X 3 8 (k + 13) rfl ji3 (by decide) (by decide) (by decide) fl_Sh_35 d_Sh_addSuit_48 hl_k hc_k (by decide) (jl_sh8 k hl_k hc_k).2.2 ?_
  refine V_iload X 0 d_Sh_addSuit_51 rfl ?_
  refine V_iconst (v := 0) X d_Sh_addSuit_53 (by decide) ?_
  refine V_cV X h (fun s5 q => C_V (q := 9) X [Value.int (gF σ k 1), Value.int (0 : Int32)] mt_Rw_put ms_Rw_put ml_Sh_67 (k_Rw_put s4 (k + 13) (jl_sh8 k hl_k hc_k).1 (jl_sh8 k hl_k hc_k).2.1 (gF σ k 1) (0 : Int32) s5 q) rfl rfl (by omega) (Nat.le_of_ble_eq_true rfl) rfl (jl_sh8 k hl_k hc_k).1 (jl_sh8 k hl_k hc_k).2.1 (by decide) d_Sh_addSuit_54) (fun s5 h => ?_)
  refine V_aload_n X 1 d_Sh_addSuit_57 rfl ?_
  refine V_getR X 3 9 (k + 15) rfl ji3 (by decide) (by decide) (by decide) fl_Sh_38 d_Sh_addSuit_58 hl_k hc_k (by decide) (jl_sh9 k hl_k hc_k).2.2 ?_
  refine V_iload X 0 d_Sh_addSuit_61 rfl ?_
  refine V_iconst (v := 0) X d_Sh_addSuit_63 (by decide) ?_
  refine V_cV X h (fun s6 q => C_V (q := 9) X [Value.int (gF σ k 1), Value.int (0 : Int32)] mt_Rw_put ms_Rw_put ml_Sh_67 (k_Rw_put s5 (k + 15) (jl_sh9 k hl_k hc_k).1 (jl_sh9 k hl_k hc_k).2.1 (gF σ k 1) (0 : Int32) s6 q) rfl rfl (by omega) (Nat.le_of_ble_eq_true rfl) rfl (jl_sh9 k hl_k hc_k).1 (jl_sh9 k hl_k hc_k).2.1 (by decide) d_Sh_addSuit_64) (fun s6 h => ?_)
  refine V_aload_n X 1 d_Sh_addSuit_67 rfl ?_
  refine V_getR X 3 8 (k + 13) rfl ji3 (by decide) (by decide) (by decide) fl_Sh_35 d_Sh_addSuit_68 hl_k hc_k (by decide) (jl_sh8 k hl_k hc_k).2.2 ?_
  refine V_iload X 5 d_Sh_addSuit_71 rfl ?_
  refine V_aload_n X 1 d_Sh_addSuit_73 rfl ?_
  refine V_getR X 3 8 (k + 13) rfl ji3 (by decide) (by decide) (by decide) fl_Sh_35 d_Sh_addSuit_74 hl_k hc_k (by decide) (jl_sh8 k hl_k hc_k).2.2 ?_
  refine V_iload X 5 d_Sh_addSuit_77 rfl ?_
  refine V_cI X h (fun r7 q => C_V (q := 9) X [Value.int a3] mt_Rw_at ms_Rw_at ml_Sh_71 (k_Rw_at s6 (k + 13) (jl_sh8 k hl_k hc_k).1 (jl_sh8 k hl_k hc_k).2.1 a3 r7 q) rfl rfl (by omega) (Nat.le_of_ble_eq_true rfl) rfl (jl_sh8 k hl_k hc_k).1 (jl_sh8 k hl_k hc_k).2.1 (by decide) d_Sh_addSuit_79) (fun r7 h => ?_)
  refine V_iconst (v := 1) X d_Sh_addSuit_82 (by decide) ?_
  refine V_iadd X d_Sh_addSuit_83 ?_
  refine V_cV X h (fun s8 q => C_V (q := 9) X [Value.int a3, Value.int (r7 + (1 : Int32))] mt_Rw_put ms_Rw_put ml_Sh_67 (k_Rw_put s6 (k + 13) (jl_sh8 k hl_k hc_k).1 (jl_sh8 k hl_k hc_k).2.1 a3 (r7 + (1 : Int32)) s8 q) rfl rfl (by omega) (Nat.le_of_ble_eq_true rfl) rfl (jl_sh8 k hl_k hc_k).1 (jl_sh8 k hl_k hc_k).2.1 (by decide) d_Sh_addSuit_84) (fun s8 h => ?_)
  refine V_iload X 5 d_Sh_addSuit_87 rfl ?_
  refine V_istore X [(6, Value.int a3), (5, Value.int (gF σ k 1)), (0, Value.ref (ad k)), (1, Value.int a0), (2, Value.int a1), (3, Value.int a2), (4, Value.int a3)] d_Sh_addSuit_89 (by decide) rfl ?_
  refine V_iconst (v := 0) X d_Sh_addSuit_91 (by decide) ?_
  refine V_istore X [(7, Value.int (0 : Int32)), (6, Value.int a3), (5, Value.int (gF σ k 1)), (0, Value.ref (ad k)), (1, Value.int a0), (2, Value.int a1), (3, Value.int a2), (4, Value.int a3)] d_Sh_addSuit_92 (by decide) rfl ?_
  refine V_sub (lv' := [(0, Value.ref (ad k)), (5, Value.int (gF σ k 1)), (6, Value.int a3), (7, Value.int (0 : Int32))]) [3, 2, 1, 0] rfl ?_
  refine Sh_addSuit_L94_ok X fu k hl_k hc_k (gF σ k 1) _ hQ (fun l6_15 l7_16 s17 h => ?_) fu a3 (0 : Int32) s8 h
  refine V_aload_n X 0 d_Sh_addSuit_148 rfl ?_
  refine V_dup X d_Sh_addSuit_149 rfl ?_
  refine V_getI X 3 1 rfl ji3 (by decide) (by decide) (by decide) fl_Sh_52 d_Sh_addSuit_150 hl_k hc_k (by decide) ?_
  refine V_iconst (v := 1) X d_Sh_addSuit_153 (by decide) ?_
  refine V_iadd X d_Sh_addSuit_154 ?_
  refine V_putI X 3 1 rfl ji3 jk3 jn3 (by decide) (by decide) (by decide) rfl (by decide +kernel) fl_Sh_52 d_Sh_addSuit_155 hl_k hc_k (by decide) ?_
  have h9 := wp_some h
  exact hQ _ h9 _ _ d_Sh_addSuit_158
