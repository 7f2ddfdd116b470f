set_option maxHeartbeats 4000000 in
set_option maxRecDepth 100000 in
theorem Mo_read_L17_ok {p : Program} {l : Launch} {e : Env} {R : Room} {s : State} {m : MethodId} {args : Array Value} {below : List Frame} {meth : Method} {c : Code} {D : va_G} {ad : Nat → Nat} {cI cB : ClassId} {A : Nat → Prop} {cells slots : Nat} {Q : State → Prop} (X : Cx p R s m args meth c jR10 prog_13_method_14_code 2 5 D ad cI cB A cells slots) (fu : Nat) (kont : (Int32 → Sg → Option (Int32 × Sg))) {K : (Int32 × Sg) → Prop} (hQ : RI p l e R s m args below meth c 2 D ad cI cB A cells slots Q prog_13_method_14_code false K) (hk : ∀ (l1 : Int32) (σ : Sg), wpO (kont l1 σ) K → V p l e R s m args below meth c 2 D A cells slots Q (wl ad cI cB σ) 112 [(0, Value.ref (ad 91)), (1, Value.int l1)] []) : ∀ (n : Nat) (l1 : Int32) (σ : Sg), wpO (Mo_read_L17 fu kont n l1 σ) K → V p l e R s m args below meth c 2 D A cells slots Q (wl ad cI cB σ) 17 [(0, Value.ref (ad 91)), (1, Value.int l1)] [] := by
  intro n
  induction n with
  | zero =>
    intro l1 σ h
    exact (wp_none h).elim
  | succ n ih =>
    intro l1 σ h
    rw [Mo_read_L17] at h
    refine V_aload_n X 0 d_Mo_read_17 rfl ?_
    refine V_getI X 10 20 rfl ji10 (by decide) (by decide) (by decide) fl_Mo_111 d_Mo_read_18 (by decide) (by decide) (by decide) ?_
    refine V_iconst (v := 3) X d_Mo_read_21 (by decide) ?_
    refine V_icmp_ge X 112 d_Mo_read_22 (by decide) h (fun c1 h => ?_) (fun c1 h => ?_)
    · skip
      exact hk l1 σ h
    · skip
      refine V_aload_n X 0 d_Mo_read_25 rfl ?_
      refine V_iload_n X 1 d_Mo_read_26 rfl ?_
      refine V_iconst (v := 0) X d_Mo_read_27 (by decide) ?_
      refine V_bipush (v := 9) X d_Mo_read_28 (by decide) ?_
      refine V_cI X h (fun r2 q => C_V (q := 10) X [Value.int l1, Value.int (0 : Int32), Value.int (9 : Int32)] mt_Mo_isFigure ms_Mo_isFigure ml_Mo_98 (k_Mo_isFigure σ l1 (0 : Int32) (9 : Int32) r2 q) rfl rfl (by omega) (Nat.le_of_ble_eq_true rfl) rfl (by decide) (by decide) (by decide) d_Mo_read_30) (fun r2 h => ?_)
      refine V_if_ne X 38 d_Mo_read_33 (by decide) h (fun c3 h => ?_) (fun c3 h => ?_)
      · skip
        refine V_aload_n X 0 d_Mo_read_38 rfl ?_
        refine V_iload_n X 1 d_Mo_read_39 rfl ?_
        refine V_iconst (v := 1) X d_Mo_read_40 (by decide) ?_
        refine V_iadd X d_Mo_read_41 ?_
        refine V_iconst (v := 0) X d_Mo_read_42 (by decide) ?_
        refine V_bipush (v := 9) X d_Mo_read_43 (by decide) ?_
        refine V_cI X h (fun r4 q => C_V (q := 10) X [Value.int (l1 + (1 : Int32)), Value.int (0 : Int32), Value.int (9 : Int32)] mt_Mo_isFigure ms_Mo_isFigure ml_Mo_98 (k_Mo_isFigure σ (l1 + (1 : Int32)) (0 : Int32) (9 : Int32) r4 q) rfl rfl (by omega) (Nat.le_of_ble_eq_true rfl) rfl (by decide) (by decide) (by decide) d_Mo_read_45) (fun r4 h => ?_)
        refine V_if_ne X 55 d_Mo_read_48 (by decide) h (fun c5 h => ?_) (fun c5 h => ?_)
        · skip
          refine V_aload_n X 0 d_Mo_read_55 rfl ?_
          refine V_dup X d_Mo_read_56 rfl ?_
          refine V_getI X 10 20 rfl ji10 (by decide) (by decide) (by decide) fl_Mo_111 d_Mo_read_57 (by decide) (by decide) (by decide) ?_
          refine V_iconst (v := 1) X d_Mo_read_60 (by decide) ?_
          refine V_iadd X d_Mo_read_61 ?_
          refine V_putI X 10 20 rfl ji10 jk10 jn10 (by decide) (by decide) (by decide) rfl (by decide +kernel) fl_Mo_111 d_Mo_read_62 (by decide) (by decide) (by decide) ?_
          refine V_iinc X 1 (l1 + (2 : Int32)) [(1, Value.int (l1 + (2 : Int32))), (0, Value.ref (ad 91))] d_Mo_read_65 rfl (by first | rfl | decide) (by decide) rfl ?_
          refine V_aload_n X 1 d_Mo_read_68 rfl ?_
          refine V_iload_n X 0 d_Mo_read_69 rfl ?_
          refine V_cI X h (fun r6 q => C_V (q := 10) X [Value.int (l1 + (2 : Int32))] mt_Mo_at ms_Mo_at ml_Mo_91 (k_Mo_at (sF σ 91 20 ((gF σ 91 20) + (1 : Int32))) (l1 + (2 : Int32)) r6 q) rfl rfl (by omega) (Nat.le_of_ble_eq_true rfl) rfl (by decide) (by decide) (by decide) d_Mo_read_70) (fun r6 h => ?_)
          refine V_bipush (v := 59) X d_Mo_read_73 (by decide) ?_
          refine V_icmp_ne X 86 d_Mo_read_75 (by decide) h (fun c7 h => ?_) (fun c7 h => ?_)
          · skip
            refine V_aload_n X 1 d_Mo_read_86 rfl ?_
            refine V_getI X 10 20 rfl ji10 (by decide) (by decide) (by decide) fl_Mo_111 d_Mo_read_87 (by decide) (by decide) (by decide) ?_
            refine V_iconst (v := 3) X d_Mo_read_90 (by decide) ?_
            refine V_icmp_eq X 104 d_Mo_read_91 (by decide) h (fun c8 h => ?_) (fun c8 h => ?_)
            · skip
              refine V_iload_n X 0 d_Mo_read_104 rfl ?_
              have h9 := wp_some h
              exact hQ _ _ h9 (fun h9 => absurd h9 (by decide)) _ _ d_Mo_read_105
            · skip
              refine V_aload_n X 1 d_Mo_read_94 rfl ?_
              refine V_iload_n X 0 d_Mo_read_95 rfl ?_
              refine V_cI X h (fun r9 q => C_V (q := 10) X [Value.int (l1 + (2 : Int32))] mt_Mo_at ms_Mo_at ml_Mo_91 (k_Mo_at (sF σ 91 20 ((gF σ 91 20) + (1 : Int32))) (l1 + (2 : Int32)) r9 q) rfl rfl (by omega) (Nat.le_of_ble_eq_true rfl) rfl (by decide) (by decide) (by decide) d_Mo_read_96) (fun r9 h => ?_)
              refine V_bipush (v := 44) X d_Mo_read_99 (by decide) ?_
              refine V_icmp_eq X 106 d_Mo_read_101 (by decide) h (fun c10 h => ?_) (fun c10 h => ?_)
              · skip
                refine V_iinc X 0 ((l1 + (2 : Int32)) + (1 : Int32)) [(1, Value.int ((l1 + (2 : Int32)) + (1 : Int32))), (0, Value.ref (ad 91))] d_Mo_read_106 rfl (by first | rfl | decide) (by decide) rfl ?_
                refine V_goto X 17 d_Mo_read_109 (by decide) ?_
                refine V_sub (lv' := [(0, Value.ref (ad 91)), (1, Value.int ((l1 + (2 : Int32)) + (1 : Int32)))]) [1, 0] rfl ?_
                exact ih ((l1 + (2 : Int32)) + (1 : Int32)) (sF σ 91 20 ((gF σ 91 20) + (1 : Int32))) h
              · skip
                refine V_iload_n X 0 d_Mo_read_104 rfl ?_
                have h9 := wp_some h
                exact hQ _ _ h9 (fun h9 => absurd h9 (by decide)) _ _ d_Mo_read_105
          · skip
            refine V_aload_n X 1 d_Mo_read_78 rfl ?_
            refine V_iload_n X 0 d_Mo_read_79 rfl ?_
            refine V_iconst (v := 1) X d_Mo_read_80 (by decide) ?_
            refine V_iadd X d_Mo_read_81 ?_
            refine V_cP X h (fun r11 s12 q => C_V (q := 10) X [Value.int ((l1 + (2 : Int32)) + (1 : Int32))] mt_Mo_readCases ms_Mo_readCases ml_Mo_114 (k_Mo_readCases fu (sF σ 91 20 ((gF σ 91 20) + (1 : Int32))) ((l1 + (2 : Int32)) + (1 : Int32)) r11 s12 q) rfl rfl (by omega) (Nat.le_of_ble_eq_true rfl) rfl (by decide) (by decide) (by decide) d_Mo_read_82) (fun r11 s12 h => ?_)
            have h9 := wp_some h
            exact hQ _ _ h9 (fun h9 => absurd h9 (by decide)) _ _ d_Mo_read_85
        · skip
          refine V_iload_n X 1 d_Mo_read_51 rfl ?_
          refine V_iconst (v := 1) X d_Mo_read_52 (by decide) ?_
          refine V_iadd X d_Mo_read_53 ?_
          have h9 := wp_some h
          exact hQ _ _ h9 (fun h9 => absurd h9 (by decide)) _ _ d_Mo_read_54
      · skip
        refine V_iload_n X 1 d_Mo_read_36 rfl ?_
        have h9 := wp_some h
        exact hQ _ _ h9 (fun h9 => absurd h9 (by decide)) _ _ d_Mo_read_37
set_option maxHeartbeats 4000000 in
set_option maxRecDepth 100000 in
theorem k_Mo_read (fu : Nat) (σ : Sg) (r : Int32) (σ' : Sg) (h : Mo_read fu σ = some (r, σ')) : Evc y_Mo_read prog_13_method_14_code 2 (some .int) 5 (fun ad => [Value.ref (ad 91)]) σ σ' (fun _ => some (.int r)) := by
  refine Evc_ofI (by decide) (fun ad => Nat.le_of_ble_eq_true rfl) (fun p l e R s m args below meth c D ad cI cB A Q X hQ => ?_)
  have X : Cx p R s m args meth c jR10 prog_13_method_14_code 2 5 D ad cI cB A 0 0 := X
  have h : wpO (Mo_read fu σ) (fun q => q = (r, σ')) := ⟨_, h, rfl⟩
  rw [Mo_read] at h
  refine V_sub (lv' := [(0, Value.ref (ad 91))]) [0] rfl ?_
  refine V_aload_n X 0 d_Mo_read_0 rfl ?_
  refine V_iconst (v := 0) X d_Mo_read_1 (by decide) ?_
  refine V_putZ X 10 19 (by decide) rfl ji10 jk10 jn10 (by decide) (by decide) (by decide) rfl (by decide +kernel) fl_Mo_107 d_Mo_read_2 (by decide) (by decide) (by decide) ?_
  refine V_aload_n X 0 d_Mo_read_5 rfl ?_
  refine V_iconst (v := 0) X d_Mo_read_6 (by decide) ?_
  refine V_putI X 10 20 rfl ji10 jk10 jn10 (by decide) (by decide) (by decide) rfl (by decide +kernel) fl_Mo_111 d_Mo_read_7 (by decide) (by decide) (by decide) ?_
  refine V_aload_n X 0 d_Mo_read_10 rfl ?_
  refine V_iconst (v := 0) X d_Mo_read_11 (by decide) ?_
  refine V_putI X 10 21 rfl ji10 jk10 jn10 (by decide) (by decide) (by decide) rfl (by decide +kernel) fl_Mo_101 d_Mo_read_12 (by decide) (by decide) (by decide) ?_
  refine V_iconst (v := 0) X d_Mo_read_15 (by decide) ?_
  refine V_istore_n X [(1, Value.int (0 : Int32)), (0, Value.ref (ad 91))] d_Mo_read_16 (by decide) rfl ?_
  refine V_sub (lv' := [(0, Value.ref (ad 91)), (1, Value.int (0 : Int32))]) [1, 0] rfl ?_
  refine Mo_read_L17_ok X fu _ hQ (fun l1_13 s14 h => ?_) fu (0 : Int32) (sF (sF (sF σ 91 19 (0 : Int32)) 91 20 (0 : Int32)) 91 21 (0 : Int32)) h
  refine V_iload_n X 1 d_Mo_read_112 rfl ?_
  have h9 := wp_some h
  exact hQ _ _ h9 (fun h9 => absurd h9 (by decide)) _ _ d_Mo_read_113
set_option maxHeartbeats 4000000 in
set_option maxRecDepth 100000 in
theorem k_Mo_fault (fu : Nat) (σ : Sg) (r : Int32) (σ' : Sg) (h : Mo_fault fu σ = some (r, σ')) : Evc y_Mo_fault prog_13_method_15_code 1 (some .int) 6 (fun ad => [Value.ref (ad 91)]) σ σ' (fun _ => some (.int r)) := by
  refine Evc_ofI (by decide) (fun ad => Nat.le_of_ble_eq_true rfl) (fun p l e R s m args below meth c D ad cI cB A Q X hQ => ?_)
  have X : Cx p R s m args meth c jR10 prog_13_method_15_code 1 6 D ad cI cB A 0 0 := X
  have h : wpO (Mo_fault fu σ) (fun q => q = (r, σ')) := ⟨_, h, rfl⟩
  rw [Mo_fault] at h
  refine V_sub (lv' := [(0, Value.ref (ad 91))]) [0] rfl ?_
  refine V_aload_n X 0 d_Mo_fault_0 rfl ?_
  refine V_cP X h (fun r1 s2 q => C_V (q := 10) X [] mt_Mo_read ms_Mo_read ml_Mo_117 (k_Mo_read fu σ r1 s2 q) rfl rfl (by omega) (Nat.le_of_ble_eq_true rfl) rfl (by decide) (by decide) (by decide) d_Mo_fault_1) (fun r1 s2 h => ?_)
  have h9 := wp_some h
  exact hQ _ _ h9 (fun h9 => absurd h9 (by decide)) _ _ d_Mo_fault_4
set_option maxHeartbeats 4000000 in
set_option maxRecDepth 100000 in
theorem k_Mo_forget (σ : Sg) (r : Int32) (σ' : Sg) (h : Mo_forget σ = some (r, σ')) : Evc y_Mo_forget prog_13_method_48_code 2 (some .int) 1 (fun ad => [Value.ref (ad 91)]) σ σ' (fun _ => some (.int r)) := by
  refine Evc_ofI (by decide) (fun ad => Nat.le_of_ble_eq_true rfl) (fun p l e R s m args below meth c D ad cI cB A Q X hQ => ?_)
  have X : Cx p R s m args meth c jR10 prog_13_method_48_code 2 1 D ad cI cB A 0 0 := X
  have h : wpO (Mo_forget σ) (fun q => q = (r, σ')) := ⟨_, h, rfl⟩
  rw [Mo_forget] at h
  refine V_sub (lv' := [(0, Value.ref (ad 91))]) [0] rfl ?_
  refine V_aload_n X 0 d_Mo_forget_0 rfl ?_
  refine V_getI X 10 13 rfl ji10 (by decide) (by decide) (by decide) fl_Mo_139 d_Mo_forget_1 (by decide) (by decide) (by decide) ?_
  refine V_istore_n X [(1, Value.int (gF σ 91 13)), (0, Value.ref (ad 91))] d_Mo_forget_4 (by decide) rfl ?_
  refine V_aload_n X 1 d_Mo_forget_5 rfl ?_
  refine V_iconst (v := 0) X d_Mo_forget_6 (by decide) ?_
  refine V_putI X 10 13 rfl ji10 jk10 jn10 (by decide) (by decide) (by decide) rfl (by decide +kernel) fl_Mo_139 d_Mo_forget_7 (by decide) (by decide) (by decide) ?_
  refine V_iload_n X 0 d_Mo_forget_10 rfl ?_
  have h9 := wp_some h
  exact hQ _ _ h9 (fun h9 => absurd h9 (by decide)) _ _ d_Mo_forget_11
set_option maxHeartbeats 4000000 in
set_option maxRecDepth 100000 in
theorem k_Mo_game (fu : Nat) (σ : Sg) (a0 : Int32) (a1 : Int32) (r : Int32) (σ' : Sg) (h : Mo_game fu σ a0 a1 = some (r, σ')) : Evc y_Mo_game prog_13_method_44_code 3 (some .int) 7 (fun ad => [Value.ref (ad 91), Value.int a0, Value.int a1]) σ σ' (fun _ => some (.int r)) := by
  refine Evc_ofI (by decide) (fun ad => Nat.le_of_ble_eq_true rfl) (fun p l e R s m args below meth c D ad cI cB A Q X hQ => ?_)
  have X : Cx p R s m args meth c jR10 prog_13_method_44_code 3 7 D ad cI cB A 0 0 := X
  have h : wpO (Mo_game fu σ a0 a1) (fun q => q = (r, σ')) := ⟨_, h, rfl⟩
  rw [Mo_game] at h
  refine V_sub (lv' := [(0, Value.ref (ad 91)), (1, Value.int a0), (2, Value.int a1)]) [0, 1, 2] rfl ?_
  refine V_aload_n X 0 d_Mo_game_0 rfl ?_
  refine V_iload_n X 1 d_Mo_game_1 rfl ?_
  refine V_cI X h (fun r1 q => C_V (q := 10) X [Value.int a0] mt_Mo_isTree ms_Mo_isTree ml_Mo_158 (k_Mo_isTree σ a0 r1 q) rfl rfl (by omega) (Nat.le_of_ble_eq_true rfl) rfl (by decide) (by decide) (by decide) d_Mo_game_2) (fun r1 h => ?_)
  refine V_if_ne X 11 d_Mo_game_5 (by decide) h (fun c2 h => ?_) (fun c2 h => ?_)
  · skip
    refine V_iload_n X 2 d_Mo_game_11 rfl ?_
    refine V_iconst (v := 0) X d_Mo_game_12 (by decide) ?_
    refine V_iconst (v := 1) X d_Mo_game_13 (by decide) ?_
    refine V_cI X h (fun r3 q => C_S X [Value.int a1, Value.int (0 : Int32), Value.int (1 : Int32)] mt_Mo_within ms_Mo_within ml_Mo_83 (k_Mo_within σ a1 (0 : Int32) (1 : Int32) r3 q) rfl rfl (by omega) (Nat.le_of_ble_eq_true rfl) d_Mo_game_14) (fun r3 h => ?_)
    refine V_if_eq X 29 d_Mo_game_17 (by decide) h (fun c4 h => ?_) (fun c4 h => ?_)
    · skip
      refine V_bipush (v := -102) X d_Mo_game_29 (by decide) ?_
      have h9 := wp_some h
      exact hQ _ _ h9 (fun h9 => absurd h9 (by decide)) _ _ d_Mo_game_31
    · skip
      refine V_aload_n X 0 d_Mo_game_20 rfl ?_
      refine V_iload_n X 1 d_Mo_game_21 rfl ?_
      refine V_iload_n X 2 d_Mo_game_22 rfl ?_
      refine V_cP X h (fun r5 s6 q => C_V (q := 10) X [Value.int a0, Value.int a1] mt_Mo_gameNow ms_Mo_gameNow ml_Mo_219 (k_Mo_gameNow fu σ a0 a1 r5 s6 q) rfl rfl (by omega) (Nat.le_of_ble_eq_true rfl) rfl (by decide) (by decide) (by decide) d_Mo_game_23) (fun r5 s6 h => ?_)
      refine V_goto X 31 d_Mo_game_26 (by decide) ?_
      have h9 := wp_some h
      exact hQ _ _ h9 (fun h9 => absurd h9 (by decide)) _ _ d_Mo_game_31
  · skip
    refine V_bipush (v := -101) X d_Mo_game_8 (by decide) ?_
    have h9 := wp_some h
    exact hQ _ _ h9 (fun h9 => absurd h9 (by decide)) _ _ d_Mo_game_10
set_option maxHeartbeats 4000000 in
set_option maxRecDepth 100000 in
theorem Mo_image_L57_ok {p : Program} {l : Launch} {e : Env} {R : Room} {s : State} {m : MethodId} {args : Array Value} {below : List Frame} {meth : Method} {c : Code} {D : va_G} {ad : Nat → Nat} {cI cB : ClassId} {A : Nat → Prop} {cells slots : Nat} {Q : State → Prop} (X : Cx p R s m args meth c jR10 prog_13_method_55_code 2 1 D ad cI cB A cells slots) (fu : Nat) (kont : (Int32 → Sg → Option (Int32 × Sg))) {K : (Int32 × Sg) → Prop} (hQ : RI p l e R s m args below meth c 2 D ad cI cB A cells slots Q prog_13_method_55_code false K) (hk : ∀ (l1 : Int32) (σ : Sg), wpO (kont l1 σ) K → V p l e R s m args below meth c 2 D A cells slots Q (wl ad cI cB σ) 92 [(0, Value.ref (ad 91)), (1, Value.int l1)] []) : ∀ (n : Nat) (l1 : Int32) (σ : Sg), wpO (Mo_image_L57 fu kont n l1 σ) K → V p l e R s m args below meth c 2 D A cells slots Q (wl ad cI cB σ) 57 [(0, Value.ref (ad 91)), (1, Value.int l1)] [] := by
  intro n
  induction n with
  | zero =>
    intro l1 σ h
    exact (wp_none h).elim
  | succ n ih =>
    intro l1 σ h
    rw [Mo_image_L57] at h
    refine V_iload_n X 1 d_Mo_image_57 rfl ?_
    refine V_iconst (v := 3) X d_Mo_image_58 (by decide) ?_
    refine V_icmp_ge X 92 d_Mo_image_59 (by decide) h (fun c2 h => ?_) (fun c2 h => ?_)
    · skip
      exact hk l1 σ h
    · skip
      refine V_aload_n X 0 d_Mo_image_62 rfl ?_
      refine V_getR X 10 38 109 rfl ji10 (by decide) (by decide) (by decide) fl_Mo_62 d_Mo_image_63 (by decide) (by decide) (by decide) (by decide) ?_
      refine V_iload_n X 1 d_Mo_image_66 rfl ?_
      refine V_aload_n X 0 d_Mo_image_67 rfl ?_
      refine V_getR X 10 3 92 rfl ji10 (by decide) (by decide) (by decide) fl_Mo_7 d_Mo_image_68 (by decide) (by decide) (by decide) (by decide) ?_
      refine V_iload_n X 1 d_Mo_image_71 rfl ?_
      refine V_iald X d_Mo_image_72 (by decide) (by decide) rfl h (fun h => ?_)
      refine V_iast X d_Mo_image_73 (by decide) (by decide) rfl h (fun h => ?_)
      refine V_aload_n X 0 d_Mo_image_74 rfl ?_
      refine V_getR X 10 39 110 rfl ji10 (by decide) (by decide) (by decide) fl_Mo_65 d_Mo_image_75 (by decide) (by decide) (by decide) (by decide) ?_
      refine V_iload_n X 1 d_Mo_image_78 rfl ?_
      refine V_aload_n X 0 d_Mo_image_79 rfl ?_
      refine V_getR X 10 4 93 rfl ji10 (by decide) (by decide) (by decide) fl_Mo_13 d_Mo_image_80 (by decide) (by decide) (by decide) (by decide) ?_
      refine V_iload_n X 1 d_Mo_image_83 rfl ?_
      refine V_iald X d_Mo_image_84 (by decide) (by decide) rfl h (fun h => ?_)
      refine V_iast X d_Mo_image_85 (by decide) (by decide) rfl h (fun h => ?_)
      refine V_iinc X 1 (l1 + (1 : Int32)) [(1, Value.int (l1 + (1 : Int32))), (0, Value.ref (ad 91))] d_Mo_image_86 rfl (by first | rfl | decide) (by decide) rfl ?_
      refine V_goto X 57 d_Mo_image_89 (by decide) ?_
      refine V_sub (lv' := [(0, Value.ref (ad 91)), (1, Value.int (l1 + (1 : Int32)))]) [1, 0] rfl ?_
      exact ih (l1 + (1 : Int32)) (sA (sA σ 109 (ix l1) (gA σ 92 (ix l1))) 110 (ix l1) (gA (sA σ 109 (ix l1) (gA σ 92 (ix l1))) 93 (ix l1))) h
set_option maxHeartbeats 4000000 in
set_option maxRecDepth 100000 in
theorem Mo_image_L94_ok {p : Program} {l : Launch} {e : Env} {R : Room} {s : State} {m : MethodId} {args : Array Value} {below : List Frame} {meth : Method} {c : Code} {D : va_G} {ad : Nat → Nat} {cI cB : ClassId} {A : Nat → Prop} {cells slots : Nat} {Q : State → Prop} (X : Cx p R s m args meth c jR10 prog_13_method_55_code 2 1 D ad cI cB A cells slots) (fu : Nat) (kont : (Int32 → Sg → Option (Int32 × Sg))) {K : (Int32 × Sg) → Prop} (hQ : RI p l e R s m args below meth c 2 D ad cI cB A cells slots Q prog_13_method_55_code false K) (hk : ∀ (l1 : Int32) (σ : Sg), wpO (kont l1 σ) K → V p l e R s m args below meth c 2 D A cells slots Q (wl ad cI cB σ) 130 [(0, Value.ref (ad 91)), (1, Value.int l1)] []) : ∀ (n : Nat) (l1 : Int32) (σ : Sg), wpO (Mo_image_L94 fu kont n l1 σ) K → V p l e R s m args below meth c 2 D A cells slots Q (wl ad cI cB σ) 94 [(0, Value.ref (ad 91)), (1, Value.int l1)] [] := by
  intro n
  induction n with
  | zero =>
    intro l1 σ h
    exact (wp_none h).elim
  | succ n ih =>
    intro l1 σ h
    rw [Mo_image_L94] at h
    refine V_iload_n X 1 d_Mo_image_94 rfl ?_
    refine V_bipush (v := 7) X d_Mo_image_95 (by decide) ?_
    refine V_icmp_ge X 130 d_Mo_image_97 (by decide) h (fun c5 h => ?_) (fun c5 h => ?_)
    · skip
      exact hk l1 σ h
    · skip
      refine V_aload_n X 0 d_Mo_image_100 rfl ?_
      refine V_getR X 10 40 111 rfl ji10 (by decide) (by decide) (by decide) fl_Mo_68 d_Mo_image_101 (by decide) (by decide) (by decide) (by decide) ?_
      refine V_iload_n X 1 d_Mo_image_104 rfl ?_
      refine V_aload_n X 0 d_Mo_image_105 rfl ?_
      refine V_getR X 10 6 95 rfl ji10 (by decide) (by decide) (by decide) fl_Mo_19 d_Mo_image_106 (by decide) (by decide) (by decide) (by decide) ?_
      refine V_iload_n X 1 d_Mo_image_109 rfl ?_
      refine V_iald X d_Mo_image_110 (by decide) (by decide) rfl h (fun h => ?_)
      refine V_iast X d_Mo_image_111 (by decide) (by decide) rfl h (fun h => ?_)
      refine V_aload_n X 0 d_Mo_image_112 rfl ?_
      refine V_getR X 10 41 112 rfl ji10 (by decide) (by decide) (by decide) fl_Mo_71 d_Mo_image_113 (by decide) (by decide) (by decide) (by decide) ?_
      refine V_iload_n X 1 d_Mo_image_116 rfl ?_
      refine V_aload_n X 0 d_Mo_image_117 rfl ?_
      refine V_getR X 10 7 96 rfl ji10 (by decide) (by decide) (by decide) fl_Mo_22 d_Mo_image_118 (by decide) (by decide) (by decide) (by decide) ?_
      refine V_iload_n X 1 d_Mo_image_121 rfl ?_
      refine V_iald X d_Mo_image_122 (by decide) (by decide) rfl h (fun h => ?_)
      refine V_iast X d_Mo_image_123 (by decide) (by decide) rfl h (fun h => ?_)
      refine V_iinc X 1 (l1 + (1 : Int32)) [(1, Value.int (l1 + (1 : Int32))), (0, Value.ref (ad 91))] d_Mo_image_124 rfl (by first | rfl | decide) (by decide) rfl ?_
      refine V_goto X 94 d_Mo_image_127 (by decide) ?_
      refine V_sub (lv' := [(0, Value.ref (ad 91)), (1, Value.int (l1 + (1 : Int32)))]) [1, 0] rfl ?_
      exact ih (l1 + (1 : Int32)) (sA (sA σ 111 (ix l1) (gA σ 95 (ix l1))) 112 (ix l1) (gA (sA σ 111 (ix l1) (gA σ 95 (ix l1))) 96 (ix l1))) h
set_option maxHeartbeats 4000000 in
set_option maxRecDepth 100000 in
theorem Mo_image_L132_ok {p : Program} {l : Launch} {e : Env} {R : Room} {s : State} {m : MethodId} {args : Array Value} {below : List Frame} {meth : Method} {c : Code} {D : va_G} {ad : Nat → Nat} {cI cB : ClassId} {A : Nat → Prop} {cells slots : Nat} {Q : State → Prop} (X : Cx p R s m args meth c jR10 prog_13_method_55_code 2 1 D ad cI cB A cells slots) (fu : Nat) (kont : (Int32 → Sg → Option (Int32 × Sg))) {K : (Int32 × Sg) → Prop} (hQ : RI p l e R s m args below meth c 2 D ad cI cB A cells slots Q prog_13_method_55_code false K) (hk : ∀ (l1 : Int32) (σ : Sg), wpO (kont l1 σ) K → V p l e R s m args below meth c 2 D A cells slots Q (wl ad cI cB σ) 180 [(0, Value.ref (ad 91)), (1, Value.int l1)] []) : ∀ (n : Nat) (l1 : Int32) (σ : Sg), wpO (Mo_image_L132 fu kont n l1 σ) K → V p l e R s m args below meth c 2 D A cells slots Q (wl ad cI cB σ) 132 [(0, Value.ref (ad 91)), (1, Value.int l1)] [] := by
  intro n
  induction n with
  | zero =>
    intro l1 σ h
    exact (wp_none h).elim
  | succ n ih =>
    intro l1 σ h
    rw [Mo_image_L132] at h
    refine V_iload_n X 1 d_Mo_image_132 rfl ?_
    refine V_bipush (v := 8) X d_Mo_image_133 (by decide) ?_
    refine V_icmp_ge X 180 d_Mo_image_135 (by decide) h (fun c8 h => ?_) (fun c8 h => ?_)
    · skip
      exact hk l1 σ h
    · skip
      refine V_aload_n X 0 d_Mo_image_138 rfl ?_
      refine V_getR X 10 42 113 rfl ji10 (by decide) (by decide) (by decide) fl_Mo_74 d_Mo_image_139 (by decide) (by decide) (by decide) (by decide) ?_
      refine V_iload_n X 1 d_Mo_image_142 rfl ?_
      refine V_aload_n X 0 d_Mo_image_143 rfl ?_
      refine V_getR X 10 14 98 rfl ji10 (by decide) (by decide) (by decide) fl_Mo_28 d_Mo_image_144 (by decide) (by decide) (by decide) (by decide) ?_
      refine V_iload_n X 1 d_Mo_image_147 rfl ?_
      refine V_iald X d_Mo_image_148 (by decide) (by decide) rfl h (fun h => ?_)
      refine V_iast X d_Mo_image_149 (by decide) (by decide) rfl h (fun h => ?_)
      refine V_aload_n X 0 d_Mo_image_150 rfl ?_
      refine V_getR X 10 43 114 rfl ji10 (by decide) (by decide) (by decide) fl_Mo_77 d_Mo_image_151 (by decide) (by decide) (by decide) (by decide) ?_
      refine V_iload_n X 1 d_Mo_image_154 rfl ?_
      refine V_aload_n X 0 d_Mo_image_155 rfl ?_
      refine V_getR X 10 15 99 rfl ji10 (by decide) (by decide) (by decide) fl_Mo_31 d_Mo_image_156 (by decide) (by decide) (by decide) (by decide) ?_
      refine V_iload_n X 1 d_Mo_image_159 rfl ?_
      refine V_iald X d_Mo_image_160 (by decide) (by decide) rfl h (fun h => ?_)
      refine V_iast X d_Mo_image_161 (by decide) (by decide) rfl h (fun h => ?_)
      refine V_aload_n X 0 d_Mo_image_162 rfl ?_
      refine V_getR X 10 44 115 rfl ji10 (by decide) (by decide) (by decide) fl_Mo_80 d_Mo_image_163 (by decide) (by decide) (by decide) (by decide) ?_
      refine V_iload_n X 1 d_Mo_image_166 rfl ?_
      refine V_aload_n X 0 d_Mo_image_167 rfl ?_
      refine V_getR X 10 16 100 rfl ji10 (by decide) (by decide) (by decide) fl_Mo_34 d_Mo_image_168 (by decide) (by decide) (by decide) (by decide) ?_
      refine V_iload_n X 1 d_Mo_image_171 rfl ?_
      refine V_iald X d_Mo_image_172 (by decide) (by decide) rfl h (fun h => ?_)
      refine V_iast X d_Mo_image_173 (by decide) (by decide) rfl h (fun h => ?_)
      refine V_iinc X 1 (l1 + (1 : Int32)) [(1, Value.int (l1 + (1 : Int32))), (0, Value.ref (ad 91))] d_Mo_image_174 rfl (by first | rfl | decide) (by decide) rfl ?_
      refine V_goto X 132 d_Mo_image_177 (by decide) ?_
      refine V_sub (lv' := [(0, Value.ref (ad 91)), (1, Value.int (l1 + (1 : Int32)))]) [1, 0] rfl ?_
      exact ih (l1 + (1 : Int32)) (sA (sA (sA σ 113 (ix l1) (gA σ 98 (ix l1))) 114 (ix l1) (gA (sA σ 113 (ix l1) (gA σ 98 (ix l1))) 99 (ix l1))) 115 (ix l1) (gA (sA (sA σ 113 (ix l1) (gA σ 98 (ix l1))) 114 (ix l1) (gA (sA σ 113 (ix l1) (gA σ 98 (ix l1))) 99 (ix l1))) 100 (ix l1))) h
set_option maxHeartbeats 4000000 in
set_option maxRecDepth 100000 in
theorem k_Mo_image (fu : Nat) (σ : Sg) (r : Int32) (σ' : Sg) (h : Mo_image fu σ = some (r, σ')) : Evc y_Mo_image prog_13_method_55_code 2 (some .int) 1 (fun ad => [Value.ref (ad 91)]) σ σ' (fun _ => some (.int r)) := by
  refine Evc_ofI (by decide) (fun ad => Nat.le_of_ble_eq_true rfl) (fun p l e R s m args below meth c D ad cI cB A Q X hQ => ?_)
  have X : Cx p R s m args meth c jR10 prog_13_method_55_code 2 1 D ad cI cB A 0 0 := X
  have h : wpO (Mo_image fu σ) (fun q => q = (r, σ')) := ⟨_, h, rfl⟩
  rw [Mo_image] at h
  refine V_sub (lv' := [(0, Value.ref (ad 91))]) [0] rfl ?_
  refine V_aload_n X 0 d_Mo_image_0 rfl ?_
  refine V_getI X 10 2 rfl ji10 (by decide) (by decide) (by decide) fl_Mo_124 d_Mo_image_1 (by decide) (by decide) (by decide) ?_
  refine V_if_ne X 10 d_Mo_image_4 (by decide) h (fun c1 h => ?_) (fun c1 h => ?_)
  · skip
    refine V_aload_n X 0 d_Mo_image_10 rfl ?_
    refine V_iconst (v := 1) X d_Mo_image_11 (by decide) ?_
    refine V_putZ X 10 32 (by decide) rfl ji10 jk10 jn10 (by decide) (by decide) (by decide) rfl (by decide +kernel) fl_Mo_251 d_Mo_image_12 (by decide) (by decide) (by decide) ?_
    refine V_aload_n X 0 d_Mo_image_15 rfl ?_
    refine V_aload_n X 0 d_Mo_image_16 rfl ?_
    refine V_getI X 10 0 rfl ji10 (by decide) (by decide) (by decide) fl_Mo_136 d_Mo_image_17 (by decide) (by decide) (by decide) ?_
    refine V_putI X 10 33 rfl ji10 jk10 jn10 (by decide) (by decide) (by decide) rfl (by decide +kernel) fl_Mo_254 d_Mo_image_20 (by decide) (by decide) (by decide) ?_
    refine V_aload_n X 0 d_Mo_image_23 rfl ?_
    refine V_aload_n X 0 d_Mo_image_24 rfl ?_
    refine V_getI X 10 9 rfl ji10 (by decide) (by decide) (by decide) fl_Mo_127 d_Mo_image_25 (by decide) (by decide) (by decide) ?_
    refine V_putI X 10 34 rfl ji10 jk10 jn10 (by decide) (by decide) (by decide) rfl (by decide +kernel) fl_Mo_257 d_Mo_image_28 (by decide) (by decide) (by decide) ?_
    refine V_aload_n X 0 d_Mo_image_31 rfl ?_
    refine V_aload_n X 0 d_Mo_image_32 rfl ?_
    refine V_getI X 10 10 rfl ji10 (by decide) (by decide) (by decide) fl_Mo_130 d_Mo_image_33 (by decide) (by decide) (by decide) ?_
    refine V_putI X 10 35 rfl ji10 jk10 jn10 (by decide) (by decide) (by decide) rfl (by decide +kernel) fl_Mo_260 d_Mo_image_36 (by decide) (by decide) (by decide) ?_
    refine V_aload_n X 0 d_Mo_image_39 rfl ?_
    refine V_aload_n X 0 d_Mo_image_40 rfl ?_
    refine V_getI X 10 11 rfl ji10 (by decide) (by decide) (by decide) fl_Mo_133 d_Mo_image_41 (by decide) (by decide) (by decide) ?_
    refine V_putI X 10 36 rfl ji10 jk10 jn10 (by decide) (by decide) (by decide) rfl (by decide +kernel) fl_Mo_263 d_Mo_image_44 (by decide) (by decide) (by decide) ?_
    refine V_aload_n X 0 d_Mo_image_47 rfl ?_
    refine V_aload_n X 0 d_Mo_image_48 rfl ?_
    refine V_getI X 10 13 rfl ji10 (by decide) (by decide) (by decide) fl_Mo_139 d_Mo_image_49 (by decide) (by decide) (by decide) ?_
    refine V_putI X 10 37 rfl ji10 jk10 jn10 (by decide) (by decide) (by decide) rfl (by decide +kernel) fl_Mo_266 d_Mo_image_52 (by decide) (by decide) (by decide) ?_
    refine V_iconst (v := 0) X d_Mo_image_55 (by decide) ?_
    refine V_istore_n X [(1, Value.int (0 : Int32)), (0, Value.ref (ad 91))] d_Mo_image_56 (by decide) rfl ?_
    refine V_sub (lv' := [(0, Value.ref (ad 91)), (1, Value.int (0 : Int32))]) [1, 0] rfl ?_
    refine Mo_image_L57_ok X fu _ hQ (fun l1_3 s4 h => ?_) fu (0 : Int32) (sF (sF (sF (sF (sF (sF σ 91 32 (1 : Int32)) 91 33 (gF (sF σ 91 32 (1 : Int32)) 91 0)) 91 34 (gF (sF (sF σ 91 32 (1 : Int32)) 91 33 (gF (sF σ 91 32 (1 : Int32)) 91 0)) 91 9)) 91 35 (gF (sF (sF (sF σ 91 32 (1 : Int32)) 91 33 (gF (sF σ 91 32 (1 : Int32)) 91 0)) 91 34 (gF (sF (sF σ 91 32 (1 : Int32)) 91 33 (gF (sF σ 91 32 (1 : Int32)) 91 0)) 91 9)) 91 10)) 91 36 (gF (sF (sF (sF (sF σ 91 32 (1 : Int32)) 91 33 (gF (sF σ 91 32 (1 : Int32)) 91 0)) 91 34 (gF (sF (sF σ 91 32 (1 : Int32)) 91 33 (gF (sF σ 91 32 (1 : Int32)) 91 0)) 91 9)) 91 35 (gF (sF (sF (sF σ 91 32 (1 : Int32)) 91 33 (gF (sF σ 91 32 (1 : Int32)) 91 0)) 91 34 (gF (sF (sF σ 91 32 (1 : Int32)) 91 33 (gF (sF σ 91 32 (1 : Int32)) 91 0)) 91 9)) 91 10)) 91 11)) 91 37 (gF (sF (sF (sF (sF (sF σ 91 32 (1 : Int32)) 91 33 (gF (sF σ 91 32 (1 : Int32)) 91 0)) 91 34 (gF (sF (sF σ 91 32 (1 : Int32)) 91 33 (gF (sF σ 91 32 (1 : Int32)) 91 0)) 91 9)) 91 35 (gF (sF (sF (sF σ 91 32 (1 : Int32)) 91 33 (gF (sF σ 91 32 (1 : Int32)) 91 0)) 91 34 (gF (sF (sF σ 91 32 (1 : Int32)) 91 33 (gF (sF σ 91 32 (1 : Int32)) 91 0)) 91 9)) 91 10)) 91 36 (gF (sF (sF (sF (sF σ 91 32 (1 : Int32)) 91 33 (gF (sF σ 91 32 (1 : Int32)) 91 0)) 91 34 (gF (sF (sF σ 91 32 (1 : Int32)) 91 33 (gF (sF σ 91 32 (1 : Int32)) 91 0)) 91 9)) 91 35 (gF (sF (sF (sF σ 91 32 (1 : Int32)) 91 33 (gF (sF σ 91 32 (1 : Int32)) 91 0)) 91 34 (gF (sF (sF σ 91 32 (1 : Int32)) 91 33 (gF (sF σ 91 32 (1 : Int32)) 91 0)) 91 9)) 91 10)) 91 11)) 91 13)) h
    refine V_iconst (v := 0) X d_Mo_image_92 (by decide) ?_
    refine V_istore_n X [(1, Value.int (0 : Int32)), (0, Value.ref (ad 91))] d_Mo_image_93 (by decide) rfl ?_
    refine V_sub (lv' := [(0, Value.ref (ad 91)), (1, Value.int (0 : Int32))]) [1, 0] rfl ?_
    refine Mo_image_L94_ok X fu _ hQ (fun l1_6 s7 h => ?_) fu (0 : Int32) s4 h
    refine V_iconst (v := 0) X d_Mo_image_130 (by decide) ?_
    refine V_istore_n X [(1, Value.int (0 : Int32)), (0, Value.ref (ad 91))] d_Mo_image_131 (by decide) rfl ?_
    refine V_sub (lv' := [(0, Value.ref (ad 91)), (1, Value.int (0 : Int32))]) [1, 0] rfl ?_
    refine Mo_image_L132_ok X fu _ hQ (fun l1_9 s10 h => ?_) fu (0 : Int32) s7 h
    refine V_aload_n X 0 d_Mo_image_180 rfl ?_
    refine V_getI X 10 11 rfl ji10 (by decide) (by decide) (by decide) fl_Mo_133 d_Mo_image_181 (by decide) (by decide) (by decide) ?_
    have h9 := wp_some h
    exact hQ _ _ h9 (fun h9 => absurd h9 (by decide)) _ _ d_Mo_image_184
  · skip
    refine V_bipush (v := -103) X d_Mo_image_7 (by decide) ?_
    have h9 := wp_some h
    exact hQ _ _ h9 (fun h9 => absurd h9 (by decide)) _ _ d_Mo_image_9
set_option maxHeartbeats 4000000 in
set_option maxRecDepth 100000 in
theorem k_Mo_letter (σ : Sg) (a0 : Int32) (r : Int32) (σ' : Sg) (h : Mo_letter σ a0 = some (r, σ')) : Evc y_Mo_letter prog_13_method_7_code 2 (some .int) 2 (fun ad => [Value.ref (ad 91), Value.int a0]) σ σ' (fun _ => some (.int r)) := by
  refine Evc_ofI (by decide) (fun ad => Nat.le_of_ble_eq_true rfl) (fun p l e R s m args below meth c D ad cI cB A Q X hQ => ?_)
  have X : Cx p R s m args meth c jR10 prog_13_method_7_code 2 2 D ad cI cB A 0 0 := X
  have h : wpO (Mo_letter σ a0) (fun q => q = (r, σ')) := ⟨_, h, rfl⟩
  rw [Mo_letter] at h
  refine V_sub (lv' := [(0, Value.ref (ad 91)), (1, Value.int a0)]) [0, 1] rfl ?_
  refine V_iload_n X 1 d_Mo_letter_0 rfl ?_
  refine V_bipush (v := 32) X d_Mo_letter_1 (by decide) ?_
  refine V_bipush (v := 126) X d_Mo_letter_3 (by decide) ?_
  refine V_cI X h (fun r1 q => C_S X [Value.int a0, Value.int (32 : Int32), Value.int (126 : Int32)] mt_Mo_within ms_Mo_within ml_Mo_83 (k_Mo_within σ a0 (32 : Int32) (126 : Int32) r1 q) rfl rfl (by omega) (Nat.le_of_ble_eq_true rfl) d_Mo_letter_5) (fun r1 h => ?_)
  refine V_if_ne X 14 d_Mo_letter_8 (by decide) h (fun c2 h => ?_) (fun c2 h => ?_)
  · skip
    refine V_aload_n X 0 d_Mo_letter_14 rfl ?_
    refine V_getI X 10 17 rfl ji10 (by decide) (by decide) (by decide) fl_Mo_87 d_Mo_letter_15 (by decide) (by decide) (by decide) ?_
    refine V_bipush (v := 46) X d_Mo_letter_18 (by decide) ?_
    refine V_icmp_ne X 26 d_Mo_letter_20 (by decide) h (fun c3 h => ?_) (fun c3 h => ?_)
    · skip
      refine V_aload_n X 0 d_Mo_letter_26 rfl ?_
      refine V_getR X 10 18 101 rfl ji10 (by decide) (by decide) (by decide) fl_Mo_37 d_Mo_letter_27 (by decide) (by decide) (by decide) (by decide) ?_
      refine V_aload_n X 0 d_Mo_letter_30 rfl ?_
      refine V_getI X 10 17 rfl ji10 (by decide) (by decide) (by decide) fl_Mo_87 d_Mo_letter_31 (by decide) (by decide) (by decide) ?_
      refine V_iload_n X 1 d_Mo_letter_34 rfl ?_
      refine V_i2b X d_Mo_letter_35 ?_
      refine V_bast X d_Mo_letter_36 (by decide) (by decide) rfl h (fun h => ?_)
      refine V_aload_n X 0 d_Mo_letter_37 rfl ?_
      refine V_dup X d_Mo_letter_38 rfl ?_
      refine V_getI X 10 17 rfl ji10 (by decide) (by decide) (by decide) fl_Mo_87 d_Mo_letter_39 (by decide) (by decide) (by decide) ?_
      refine V_iconst (v := 1) X d_Mo_letter_42 (by decide) ?_
      refine V_iadd X d_Mo_letter_43 ?_
      refine V_putI X 10 17 rfl ji10 jk10 jn10 (by decide) (by decide) (by decide) rfl (by decide +kernel) fl_Mo_87 d_Mo_letter_44 (by decide) (by decide) (by decide) ?_
      refine V_aload_n X 0 d_Mo_letter_47 rfl ?_
      refine V_getI X 10 17 rfl ji10 (by decide) (by decide) (by decide) fl_Mo_87 d_Mo_letter_48 (by decide) (by decide) (by decide) ?_
      have h9 := wp_some h
      exact hQ _ _ h9 (fun h9 => absurd h9 (by decide)) _ _ d_Mo_letter_51
    · skip
      refine V_bipush (v := -104) X d_Mo_letter_23 (by decide) ?_
      have h9 := wp_some h
      exact hQ _ _ h9 (fun h9 => absurd h9 (by decide)) _ _ d_Mo_letter_25
  · skip
    refine V_bipush (v := -102) X d_Mo_letter_11 (by decide) ?_
    have h9 := wp_some h
    exact hQ _ _ h9 (fun h9 => absurd h9 (by decide)) _ _ d_Mo_letter_13
set_option maxHeartbeats 4000000 in
set_option maxRecDepth 100000 in
theorem Mo_nextRow_L7_ok {p : Program} {l : Launch} {e : Env} {R : Room} {s : State} {m : MethodId} {args : Array Value} {below : List Frame} {meth : Method} {c : Code} {D : va_G} {ad : Nat → Nat} {cI cB : ClassId} {A : Nat → Prop} {cells slots : Nat} {Q : State → Prop} (X : Cx p R s m args meth c jR10 prog_13_method_37_code 2 1 D ad cI cB A cells slots) (fu : Nat) (kont : (Int32 → Sg → Option (Int32 × Sg))) {K : (Int32 × Sg) → Prop} (hQ : RI p l e R s m args below meth c 2 D ad cI cB A cells slots Q prog_13_method_37_code true K) (hk : ∀ (l1 : Int32) (σ : Sg), wpO (kont l1 σ) K → V p l e R s m args below meth c 2 D A cells slots Q (wl ad cI cB σ) 37 [(0, Value.ref (ad 91)), (1, Value.int l1)] []) : ∀ (n : Nat) (l1 : Int32) (σ : Sg), wpO (Mo_nextRow_L7 fu kont n l1 σ) K → V p l e R s m args below meth c 2 D A cells slots Q (wl ad cI cB σ) 7 [(0, Value.ref (ad 91)), (1, Value.int l1)] [] := by
  intro n
  induction n with
  | zero =>
    intro l1 σ h
    exact (wp_none h).elim
  | succ n ih =>
    intro l1 σ h
    rw [Mo_nextRow_L7] at h
    refine V_iload_n X 1 d_Mo_nextRow_7 rfl ?_
    refine V_if_lt X 37 d_Mo_nextRow_8 (by decide) h (fun c1 h => ?_) (fun c1 h => ?_)
    · skip
      exact hk l1 σ h
    · skip
      refine V_aload_n X 0 d_Mo_nextRow_11 rfl ?_
      refine V_getR X 10 22 102 rfl ji10 (by decide) (by decide) (by decide) fl_Mo_41 d_Mo_nextRow_12 (by decide) (by decide) (by decide) (by decide) ?_
      refine V_iload_n X 1 d_Mo_nextRow_15 rfl ?_
      refine V_iald X d_Mo_nextRow_16 (by decide) (by decide) rfl h (fun h => ?_)
      refine V_aload_n X 0 d_Mo_nextRow_17 rfl ?_
      refine V_getI X 10 1 rfl ji10 (by decide) (by decide) (by decide) fl_Mo_121 d_Mo_nextRow_18 (by decide) (by decide) (by decide) ?_
      refine V_icmp_ne X 37 d_Mo_nextRow_21 (by decide) h (fun c2 h => ?_) (fun c2 h => ?_)
      · skip
        exact hk l1 σ h
      · skip
        refine V_aload_n X 0 d_Mo_nextRow_24 rfl ?_
        refine V_getR X 10 22 102 rfl ji10 (by decide) (by decide) (by decide) fl_Mo_41 d_Mo_nextRow_25 (by decide) (by decide) (by decide) (by decide) ?_
        refine V_iload_n X 1 d_Mo_nextRow_28 rfl ?_
        refine V_iconst (v := 0) X d_Mo_nextRow_29 (by decide) ?_
        refine V_iast X d_Mo_nextRow_30 (by decide) (by decide) rfl h (fun h => ?_)
        refine V_iinc X 1 (l1 + (-1 : Int32)) [(1, Value.int (l1 + (-1 : Int32))), (0, Value.ref (ad 91))] d_Mo_nextRow_31 rfl (by first | rfl | decide) (by decide) rfl ?_
        refine V_goto X 7 d_Mo_nextRow_34 (by decide) ?_
        refine V_sub (lv' := [(0, Value.ref (ad 91)), (1, Value.int (l1 + (-1 : Int32)))]) [1, 0] rfl ?_
        exact ih (l1 + (-1 : Int32)) (sA σ 102 (ix l1) (0 : Int32)) h
set_option maxHeartbeats 4000000 in
set_option maxRecDepth 100000 in
theorem k_Mo_nextRow (fu : Nat) (σ : Sg) (r : Int32) (σ' : Sg) (h : Mo_nextRow fu σ = some (r, σ')) : Evc y_Mo_nextRow prog_13_method_37_code 2 (some .boolean) 1 (fun ad => [Value.ref (ad 91)]) σ σ' (fun _ => some (.int r)) := by
  refine Evc_ofZ (by decide) (fun ad => Nat.le_of_ble_eq_true rfl) (fun p l e R s m args below meth c D ad cI cB A Q X hQ => ?_)
  have X : Cx p R s m args meth c jR10 prog_13_method_37_code 2 1 D ad cI cB A 0 0 := X
  have h : wpO (Mo_nextRow fu σ) (fun q => q = (r, σ')) := ⟨_, h, rfl⟩
  rw [Mo_nextRow] at h
  refine V_sub (lv' := [(0, Value.ref (ad 91))]) [0] rfl ?_
  refine V_aload_n X 0 d_Mo_nextRow_0 rfl ?_
  refine V_getI X 10 2 rfl ji10 (by decide) (by decide) (by decide) fl_Mo_124 d_Mo_nextRow_1 (by decide) (by decide) (by decide) ?_
  refine V_iconst (v := 1) X d_Mo_nextRow_4 (by decide) ?_
  refine V_isub X d_Mo_nextRow_5 ?_
  refine V_istore_n X [(1, Value.int ((gF σ 91 2) - (1 : Int32))), (0, Value.ref (ad 91))] d_Mo_nextRow_6 (by decide) rfl ?_
  refine V_sub (lv' := [(0, Value.ref (ad 91)), (1, Value.int ((gF σ 91 2) - (1 : Int32)))]) [1, 0] rfl ?_
  refine Mo_nextRow_L7_ok X fu _ hQ (fun l1_3 s4 h => ?_) fu ((gF σ 91 2) - (1 : Int32)) σ h
  refine V_iload_n X 1 d_Mo_nextRow_37 rfl ?_
  refine V_if_ge X 43 d_Mo_nextRow_38 (by decide) h (fun c5 h => ?_) (fun c5 h => ?_)
  · skip
    refine V_aload_n X 0 d_Mo_nextRow_43 rfl ?_
    refine V_getR X 10 22 102 rfl ji10 (by decide) (by decide) (by decide) fl_Mo_41 d_Mo_nextRow_44 (by decide) (by decide) (by decide) (by decide) ?_
    refine V_iload_n X 1 d_Mo_nextRow_47 rfl ?_
    refine V_dup2 X d_Mo_nextRow_48 rfl rfl ?_
    refine V_iald X d_Mo_nextRow_49 (by decide) (by decide) rfl h (fun h => ?_)
    refine V_iconst (v := 1) X d_Mo_nextRow_50 (by decide) ?_
    refine V_iadd X d_Mo_nextRow_51 ?_
    refine V_iast X d_Mo_nextRow_52 (by decide) (by decide) rfl h (fun h => ?_)
    refine V_iconst (v := 1) X d_Mo_nextRow_53 (by decide) ?_
    have h9 := wp_some h
    exact hQ _ _ h9 (fun _ => by decide) _ _ d_Mo_nextRow_54
  · skip
    refine V_iconst (v := 0) X d_Mo_nextRow_41 (by decide) ?_
    have h9 := wp_some h
    exact hQ _ _ h9 (fun _ => by decide) _ _ d_Mo_nextRow_42
set_option maxHeartbeats 4000000 in
set_option maxRecDepth 100000 in
theorem k_Mo_odds (fu : Nat) (σ : Sg) (a0 : Int32) (a1 : Int32) (a2 : Int32) (a3 : Int32) (r : Int32) (σ' : Sg) (h : Mo_odds fu σ a0 a1 a2 a3 = some (r, σ')) : Evc y_Mo_odds prog_13_method_46_code 5 (some .int) 4 (fun ad => [Value.ref (ad 91), Value.int a0, Value.int a1, Value.int a2, Value.int a3]) σ σ' (fun _ => some (.int r)) := by
  refine Evc_ofI (by decide) (fun ad => Nat.le_of_ble_eq_true rfl) (fun p l e R s m args below meth c D ad cI cB A Q X hQ => ?_)
  have X : Cx p R s m args meth c jR10 prog_13_method_46_code 5 4 D ad cI cB A 0 0 := X
  have h : wpO (Mo_odds fu σ a0 a1 a2 a3) (fun q => q = (r, σ')) := ⟨_, h, rfl⟩
  rw [Mo_odds] at h
  refine V_sub (lv' := [(0, Value.ref (ad 91)), (1, Value.int a0), (2, Value.int a1), (3, Value.int a2), (4, Value.int a3)]) [0, 1, 2, 3, 4] rfl ?_
  refine V_aload_n X 0 d_Mo_odds_0 rfl ?_
  refine V_iload_n X 1 d_Mo_odds_1 rfl ?_
  refine V_cI X h (fun r1 q => C_V (q := 10) X [Value.int a0] mt_Mo_isCase ms_Mo_isCase ml_Mo_178 (k_Mo_isCase σ a0 r1 q) rfl rfl (by omega) (Nat.le_of_ble_eq_true rfl) rfl (by decide) (by decide) (by decide) d_Mo_odds_2) (fun r1 h => ?_)
  refine V_if_eq X 16 d_Mo_odds_5 (by decide) h (fun c2 h => ?_) (fun c2 h => ?_)
  · skip
    refine V_bipush (v := -101) X d_Mo_odds_16 (by decide) ?_
    have h9 := wp_some h
    exact hQ _ _ h9 (fun h9 => absurd h9 (by decide)) _ _ d_Mo_odds_18
  · skip
    refine V_aload_n X 0 d_Mo_odds_8 rfl ?_
    refine V_iload_n X 2 d_Mo_odds_9 rfl ?_
    refine V_cI X h (fun r3 q => C_V (q := 10) X [Value.int a1] mt_Mo_isTree ms_Mo_isTree ml_Mo_158 (k_Mo_isTree σ a1 r3 q) rfl rfl (by omega) (Nat.le_of_ble_eq_true rfl) rfl (by decide) (by decide) (by decide) d_Mo_odds_10) (fun r3 h => ?_)
    refine V_if_ne X 19 d_Mo_odds_13 (by decide) h (fun c4 h => ?_) (fun c4 h => ?_)
    · skip
      refine V_iload_n X 3 d_Mo_odds_19 rfl ?_
      refine V_iconst (v := 1) X d_Mo_odds_20 (by decide) ?_
      refine V_iconst (v := 3) X d_Mo_odds_21 (by decide) ?_
      refine V_cI X h (fun r5 q => C_S X [Value.int a2, Value.int (1 : Int32), Value.int (3 : Int32)] mt_Mo_within ms_Mo_within ml_Mo_83 (k_Mo_within σ a2 (1 : Int32) (3 : Int32) r5 q) rfl rfl (by omega) (Nat.le_of_ble_eq_true rfl) d_Mo_odds_22) (fun r5 h => ?_)
      refine V_if_eq X 50 d_Mo_odds_25 (by decide) h (fun c6 h => ?_) (fun c6 h => ?_)
      · skip
        refine V_bipush (v := -102) X d_Mo_odds_50 (by decide) ?_
        have h9 := wp_some h
        exact hQ _ _ h9 (fun h9 => absurd h9 (by decide)) _ _ d_Mo_odds_52
      · skip
        refine V_iload X 4 d_Mo_odds_28 rfl ?_
        refine V_iconst (v := 0) X d_Mo_odds_30 (by decide) ?_
        refine V_iconst (v := 1) X d_Mo_odds_31 (by decide) ?_
        refine V_cI X h (fun r7 q => C_S X [Value.int a3, Value.int (0 : Int32), Value.int (1 : Int32)] mt_Mo_within ms_Mo_within ml_Mo_83 (k_Mo_within σ a3 (0 : Int32) (1 : Int32) r7 q) rfl rfl (by omega) (Nat.le_of_ble_eq_true rfl) d_Mo_odds_32) (fun r7 h => ?_)
        refine V_if_eq X 50 d_Mo_odds_35 (by decide) h (fun c8 h => ?_) (fun c8 h => ?_)
        · skip
          refine V_bipush (v := -102) X d_Mo_odds_50 (by decide) ?_
          have h9 := wp_some h
          exact hQ _ _ h9 (fun h9 => absurd h9 (by decide)) _ _ d_Mo_odds_52
        · skip
          refine V_aload_n X 0 d_Mo_odds_38 rfl ?_
          refine V_iload_n X 1 d_Mo_odds_39 rfl ?_
          refine V_iload_n X 2 d_Mo_odds_40 rfl ?_
          refine V_iload_n X 3 d_Mo_odds_41 rfl ?_
          refine V_iload X 4 d_Mo_odds_42 rfl ?_
          refine V_cP X h (fun r9 s10 q => C_V (q := 10) X [Value.int a0, Value.int a1, Value.int a2, Value.int a3] mt_Mo_oddsNow ms_Mo_oddsNow ml_Mo_225 (k_Mo_oddsNow fu σ a0 a1 a2 a3 r9 s10 q) rfl rfl (by omega) (Nat.le_of_ble_eq_true rfl) rfl (by decide) (by decide) (by decide) d_Mo_odds_44) (fun r9 s10 h => ?_)
          refine V_goto X 52 d_Mo_odds_47 (by decide) ?_
          have h9 := wp_some h
          exact hQ _ _ h9 (fun h9 => absurd h9 (by decide)) _ _ d_Mo_odds_52
    · skip
      refine V_bipush (v := -101) X d_Mo_odds_16 (by decide) ?_
      have h9 := wp_some h
      exact hQ _ _ h9 (fun h9 => absurd h9 (by decide)) _ _ d_Mo_odds_18
set_option maxHeartbeats 4000000 in
set_option maxRecDepth 100000 in
theorem Mo_planNow_L2_ok {p : Program} {l : Launch} {e : Env} {R : Room} {s : State} {m : MethodId} {args : Array Value} {below : List Frame} {meth : Method} {c : Code} {D : va_G} {ad : Nat → Nat} {cI cB : ClassId} {A : Nat → Prop} {cells slots : Nat} {Q : State → Prop} (X : Cx p R s m args meth c jR10 prog_13_method_38_code 7 4 D ad cI cB A cells slots) (fu : Nat) (l1 : Int32) (kont : (Int32 → Sg → Option (Int32 × Sg))) {K : (Int32 × Sg) → Prop} (hQ : RI p l e R s m args below meth c 7 D ad cI cB A cells slots Q prog_13_method_38_code false K) (hk : ∀ (l2 : Int32) (σ : Sg), wpO (kont l2 σ) K → V p l e R s m args below meth c 7 D A cells slots Q (wl ad cI cB σ) 28 [(0, Value.ref (ad 91)), (1, Value.int l1), (2, Value.int l2)] []) : ∀ (n : Nat) (l2 : Int32) (σ : Sg), wpO (Mo_planNow_L2 fu l1 kont n l2 σ) K → V p l e R s m args below meth c 7 D A cells slots Q (wl ad cI cB σ) 2 [(0, Value.ref (ad 91)), (1, Value.int l1), (2, Value.int l2)] [] := by
  intro n
  induction n with
  | zero =>
    intro l2 σ h
    exact (wp_none h).elim
  | succ n ih =>
    intro l2 σ h
    rw [Mo_planNow_L2] at h
    refine V_iload_n X 2 d_Mo_planNow_2 rfl ?_
    refine V_bipush (v := 7) X d_Mo_planNow_3 (by decide) ?_
    refine V_icmp_ge X 28 d_Mo_planNow_5 (by decide) h (fun c1 h => ?_) (fun c1 h => ?_)
    · skip
      exact hk l2 σ h
    · skip
      refine V_aload_n X 0 d_Mo_planNow_8 rfl ?_
      refine V_getR X 10 22 102 rfl ji10 (by decide) (by decide) (by decide) fl_Mo_41 d_Mo_planNow_9 (by decide) (by decide) (by decide) (by decide) ?_
      refine V_iload_n X 2 d_Mo_planNow_12 rfl ?_
      refine V_iconst (v := 0) X d_Mo_planNow_13 (by decide) ?_
      refine V_iast X d_Mo_planNow_14 (by decide) (by decide) rfl h (fun h => ?_)
      refine V_aload_n X 0 d_Mo_planNow_15 rfl ?_
      refine V_getR X 10 23 103 rfl ji10 (by decide) (by decide) (by decide) fl_Mo_44 d_Mo_planNow_16 (by decide) (by decide) (by decide) (by decide) ?_
      refine V_iload_n X 2 d_Mo_planNow_19 rfl ?_
      refine V_iconst (v := 0) X d_Mo_planNow_20 (by decide) ?_
      refine V_iast X d_Mo_planNow_21 (by decide) (by decide) rfl h (fun h => ?_)
      refine V_iinc X 2 (l2 + (1 : Int32)) [(2, Value.int (l2 + (1 : Int32))), (0, Value.ref (ad 91)), (1, Value.int l1)] d_Mo_planNow_22 rfl (by first | rfl | decide) (by decide) rfl ?_
      refine V_goto X 2 d_Mo_planNow_25 (by decide) ?_
      refine V_sub (lv' := [(0, Value.ref (ad 91)), (1, Value.int l1), (2, Value.int (l2 + (1 : Int32)))]) [1, 2, 0] rfl ?_
      exact ih (l2 + (1 : Int32)) (sA (sA σ 102 (ix l2) (0 : Int32)) 103 (ix l2) (0 : Int32)) h
set_option maxHeartbeats 4000000 in
set_option maxRecDepth 100000 in
theorem Mo_planNow_L89_ok {p : Program} {l : Launch} {e : Env} {R : Room} {s : State} {m : MethodId} {args : Array Value} {below : List Frame} {meth : Method} {c : Code} {D : va_G} {ad : Nat → Nat} {cI cB : ClassId} {A : Nat → Prop} {cells slots : Nat} {Q : State → Prop} (X : Cx p R s m args meth c jR10 prog_13_method_38_code 7 4 D ad cI cB A cells slots) (fu : Nat) (l1 : Int32) (l2 : Int32) (l3 : Int32) (kont : (Int32 → Sg → Option (Int32 × Sg))) {K : (Int32 × Sg) → Prop} (hQ : RI p l e R s m args below meth c 7 D ad cI cB A cells slots Q prog_13_method_38_code false K) (hk : ∀ (l6 : Int32) (σ : Sg), wpO (kont l6 σ) K → V p l e R s m args below meth c 7 D A cells slots Q (wl ad cI cB σ) 118 [(0, Value.ref (ad 91)), (1, Value.int l1), (2, Value.int l2), (3, Value.int l3), (6, Value.int l6)] []) : ∀ (n : Nat) (l6 : Int32) (σ : Sg), wpO (Mo_planNow_L89 fu l1 l2 l3 kont n l6 σ) K → V p l e R s m args below meth c 7 D A cells slots Q (wl ad cI cB σ) 89 [(0, Value.ref (ad 91)), (1, Value.int l1), (2, Value.int l2), (3, Value.int l3), (6, Value.int l6)] [] := by
  intro n
  induction n with
  | zero =>
    intro l6 σ h
    exact (wp_none h).elim
  | succ n ih =>
    intro l6 σ h
    rw [Mo_planNow_L89] at h
    refine V_iload X 4 d_Mo_planNow_89 rfl ?_
    refine V_aload_n X 0 d_Mo_planNow_91 rfl ?_
    refine V_getI X 10 2 rfl ji10 (by decide) (by decide) (by decide) fl_Mo_124 d_Mo_planNow_92 (by decide) (by decide) (by decide) ?_
    refine V_icmp_ge X 118 d_Mo_planNow_95 (by decide) h (fun c12 h => ?_) (fun c12 h => ?_)
    · skip
      exact hk l6 σ h
    · skip
      refine V_aload_n X 0 d_Mo_planNow_98 rfl ?_
      refine V_getR X 10 23 103 rfl ji10 (by decide) (by decide) (by decide) fl_Mo_44 d_Mo_planNow_99 (by decide) (by decide) (by decide) (by decide) ?_
      refine V_iload X 4 d_Mo_planNow_102 rfl ?_
      refine V_aload_n X 0 d_Mo_planNow_104 rfl ?_
      refine V_getR X 10 22 102 rfl ji10 (by decide) (by decide) (by decide) fl_Mo_41 d_Mo_planNow_105 (by decide) (by decide) (by decide) (by decide) ?_
      refine V_iload X 4 d_Mo_planNow_108 rfl ?_
      refine V_iald X d_Mo_planNow_110 (by decide) (by decide) rfl h (fun h => ?_)
      refine V_iast X d_Mo_planNow_111 (by decide) (by decide) rfl h (fun h => ?_)
      refine V_iinc X 4 (l6 + (1 : Int32)) [(6, Value.int (l6 + (1 : Int32))), (0, Value.ref (ad 91)), (1, Value.int l1), (2, Value.int l2), (3, Value.int l3)] d_Mo_planNow_112 rfl (by first | rfl | decide) (by decide) rfl ?_
      refine V_goto X 89 d_Mo_planNow_115 (by decide) ?_
      refine V_sub (lv' := [(0, Value.ref (ad 91)), (1, Value.int l1), (2, Value.int l2), (3, Value.int l3), (6, Value.int (l6 + (1 : Int32)))]) [1, 2, 3, 4, 0] rfl ?_
      exact ih (l6 + (1 : Int32)) (sA σ 103 (ix l6) (gA σ 102 (ix l6))) h
set_option maxHeartbeats 4000000 in
set_option maxRecDepth 100000 in
theorem Mo_planNow_L36_ok {p : Program} {l : Launch} {e : Env} {R : Room} {s : State} {m : MethodId} {args : Array Value} {below : List Frame} {meth : Method} {c : Code} {D : va_G} {ad : Nat → Nat} {cI cB : ClassId} {A : Nat → Prop} {cells slots : Nat} {Q : State → Prop} (X : Cx p R s m args meth c jR10 prog_13_method_38_code 7 4 D ad cI cB A cells slots) (fu : Nat) (l1 : Int32) (kont : (Int32 → Int32 → Int32 → Sg → Option (Int32 × Sg))) {K : (Int32 × Sg) → Prop} (hQ : RI p l e R s m args below meth c 7 D ad cI cB A cells slots Q prog_13_method_38_code false K) (hk : ∀ (l2 : Int32) (l3 : Int32) (l4 : Int32) (σ : Sg), wpO (kont l2 l3 l4 σ) K → V p l e R s m args below meth c 7 D A cells slots Q (wl ad cI cB σ) 127 [(0, Value.ref (ad 91)), (1, Value.int l1), (2, Value.int l2), (3, Value.int l3), (4, Value.int l4)] []) : ∀ (n : Nat) (l2 : Int32) (l3 : Int32) (l4 : Int32) (σ : Sg), wpO (Mo_planNow_L36 fu l1 kont n l2 l3 l4 σ) K → V p l e R s m args below meth c 7 D A cells slots Q (wl ad cI cB σ) 36 [(0, Value.ref (ad 91)), (1, Value.int l1), (2, Value.int l2), (3, Value.int l3), (4, Value.int l4)] [] := by
  intro n
  induction n with
  | zero =>
    intro l2 l3 l4 σ h
    exact (wp_none h).elim
  | succ n ih =>
    intro l2 l3 l4 σ h
    rw [Mo_planNow_L36] at h
    refine V_iload X 4 d_Mo_planNow_36 rfl ?_
    refine V_if_eq X 127 d_Mo_planNow_38 (by decide) h (fun c4 h => ?_) (fun c4 h => ?_)
    · skip
      exact hk l2 l3 l4 σ h
    · skip
      refine V_aload_n X 0 d_Mo_planNow_41 rfl ?_
      refine V_cP X h (fun r5 s6 q => C_V (q := 10) X [] mt_Mo_canBe ms_Mo_canBe ml_Mo_197 (k_Mo_canBe fu σ r5 s6 q) rfl rfl (by omega) (Nat.le_of_ble_eq_true rfl) rfl (by decide) (by decide) (by decide) d_Mo_planNow_42) (fun r5 s6 h => ?_)
      refine V_if_eq X 118 d_Mo_planNow_45 (by decide) h (fun c7 h => ?_) (fun c7 h => ?_)
      · skip
        refine V_aload_n X 0 d_Mo_planNow_118 rfl ?_
        refine V_cP X h (fun r8 s9 q => C_V (q := 10) X [] mt_Mo_nextRow ms_Mo_nextRow ml_Mo_201 (k_Mo_nextRow fu s6 r8 s9 q) rfl rfl (by omega) (Nat.le_of_ble_eq_true rfl) rfl (by decide) (by decide) (by decide) d_Mo_planNow_119) (fun r8 s9 h => ?_)
        refine V_istore X [(4, Value.int r8), (0, Value.ref (ad 91)), (1, Value.int l1), (2, Value.int l2), (3, Value.int l3)] d_Mo_planNow_122 (by decide) rfl ?_
        refine V_goto X 36 d_Mo_planNow_124 (by decide) ?_
        refine V_sub (lv' := [(0, Value.ref (ad 91)), (1, Value.int l1), (2, Value.int l2), (3, Value.int l3), (4, Value.int r8)]) [1, 2, 3, 4, 0] rfl ?_
        exact ih l2 l3 r8 s9 h
      · skip
        refine V_aload_n X 0 d_Mo_planNow_48 rfl ?_
        refine V_aload_n X 0 d_Mo_planNow_49 rfl ?_
        refine V_getI X 10 25 rfl ji10 (by decide) (by decide) (by decide) fl_Mo_190 d_Mo_planNow_50 (by decide) (by decide) (by decide) ?_
        refine V_cI X h (fun r10 q => C_V (q := 10) X [Value.int (gF s6 91 25)] mt_Mo_worthIn ms_Mo_worthIn ml_Mo_187 (k_Mo_worthIn fu s6 (gF s6 91 25) r10 q) rfl rfl (by omega) (Nat.le_of_ble_eq_true rfl) rfl (by decide) (by decide) (by decide) d_Mo_planNow_53) (fun r10 h => ?_)
        refine V_istore X [(5, Value.int r10), (0, Value.ref (ad 91)), (1, Value.int l1), (2, Value.int l2), (3, Value.int l3), (4, Value.int l4)] d_Mo_planNow_56 (by decide) rfl ?_
        refine V_iload X 0 d_Mo_planNow_58 rfl ?_
        refine V_iload_n X 3 d_Mo_planNow_60 rfl ?_
        refine V_icmp_gt X 78 d_Mo_planNow_61 (by decide) h (fun c11 h => ?_) (fun c11 h => ?_)
        · skip
          refine V_iload X 0 d_Mo_planNow_78 rfl ?_
          refine V_istore_n X [(2, Value.int r10), (5, Value.int r10), (0, Value.ref (ad 91)), (1, Value.int l1), (3, Value.int l3), (4, Value.int l4)] d_Mo_planNow_80 (by decide) rfl ?_
          refine V_aload_n X 2 d_Mo_planNow_81 rfl ?_
          refine V_getI X 10 26 rfl ji10 (by decide) (by decide) (by decide) fl_Mo_193 d_Mo_planNow_82 (by decide) (by decide) (by decide) ?_
          refine V_istore_n X [(3, Value.int (gF s6 91 26)), (2, Value.int r10), (5, Value.int r10), (0, Value.ref (ad 91)), (1, Value.int l1), (4, Value.int l4)] d_Mo_planNow_85 (by decide) rfl ?_
          refine V_iconst (v := 0) X d_Mo_planNow_86 (by decide) ?_
          refine V_istore X [(6, Value.int (0 : Int32)), (3, Value.int (gF s6 91 26)), (2, Value.int r10), (5, Value.int r10), (0, Value.ref (ad 91)), (1, Value.int l1), (4, Value.int l4)] d_Mo_planNow_87 (by decide) rfl ?_
          refine V_sub (lv' := [(0, Value.ref (ad 91)), (1, Value.int l1), (2, Value.int r10), (3, Value.int (gF s6 91 26)), (6, Value.int (0 : Int32))]) [4, 5, 2, 1, 0] rfl ?_
          refine Mo_planNow_L89_ok X fu l1 r10 (gF s6 91 26) _ hQ (fun l6_13 s14 h => ?_) fu (0 : Int32) s6 h
          refine V_aload_n X 0 d_Mo_planNow_118 rfl ?_
          refine V_cP X h (fun r15 s16 q => C_V (q := 10) X [] mt_Mo_nextRow ms_Mo_nextRow ml_Mo_201 (k_Mo_nextRow fu s14 r15 s16 q) rfl rfl (by omega) (Nat.le_of_ble_eq_true rfl) rfl (by decide) (by decide) (by decide) d_Mo_planNow_119) (fun r15 s16 h => ?_)
          refine V_istore X [(4, Value.int r15), (0, Value.ref (ad 91)), (1, Value.int l1), (2, Value.int r10), (3, Value.int (gF s6 91 26)), (6, Value.int l6_13)] d_Mo_planNow_122 (by decide) rfl ?_
          refine V_goto X 36 d_Mo_planNow_124 (by decide) ?_
          refine V_sub (lv' := [(0, Value.ref (ad 91)), (1, Value.int l1), (2, Value.int r10), (3, Value.int (gF s6 91 26)), (4, Value.int r15)]) [1, 2, 3, 4, 0] rfl ?_
          exact ih r10 (gF s6 91 26) r15 s16 h
        · skip
          refine V_iload X 0 d_Mo_planNow_64 rfl ?_
          refine V_iload_n X 3 d_Mo_planNow_66 rfl ?_
          refine V_icmp_ne X 118 d_Mo_planNow_67 (by decide) h (fun c17 h => ?_) (fun c17 h => ?_)
          · skip
            refine V_aload_n X 1 d_Mo_planNow_118 rfl ?_
            refine V_cP X h (fun r18 s19 q => C_V (q := 10) X [] mt_Mo_nextRow ms_Mo_nextRow ml_Mo_201 (k_Mo_nextRow fu s6 r18 s19 q) rfl rfl (by omega) (Nat.le_of_ble_eq_true rfl) rfl (by decide) (by decide) (by decide) d_Mo_planNow_119) (fun r18 s19 h => ?_)
            refine V_istore X [(4, Value.int r18), (5, Value.int r10), (0, Value.ref (ad 91)), (1, Value.int l1), (2, Value.int l2), (3, Value.int l3)] d_Mo_planNow_122 (by decide) rfl ?_
            refine V_goto X 36 d_Mo_planNow_124 (by decide) ?_
            refine V_sub (lv' := [(0, Value.ref (ad 91)), (1, Value.int l1), (2, Value.int l2), (3, Value.int l3), (4, Value.int r18)]) [2, 3, 4, 5, 0] rfl ?_
            exact ih l2 l3 r18 s19 h
          · skip
            refine V_aload_n X 1 d_Mo_planNow_70 rfl ?_
            refine V_getI X 10 26 rfl ji10 (by decide) (by decide) (by decide) fl_Mo_193 d_Mo_planNow_71 (by decide) (by decide) (by decide) ?_
            refine V_iload_n X 4 d_Mo_planNow_74 rfl ?_
            refine V_icmp_ge X 118 d_Mo_planNow_75 (by decide) h (fun c20 h => ?_) (fun c20 h => ?_)
            · skip
              refine V_aload_n X 1 d_Mo_planNow_118 rfl ?_
              refine V_cP X h (fun r21 s22 q => C_V (q := 10) X [] mt_Mo_nextRow ms_Mo_nextRow ml_Mo_201 (k_Mo_nextRow fu s6 r21 s22 q) rfl rfl (by omega) (Nat.le_of_ble_eq_true rfl) rfl (by decide) (by decide) (by decide) d_Mo_planNow_119) (fun r21 s22 h => ?_)
              refine V_istore X [(4, Value.int r21), (5, Value.int r10), (0, Value.ref (ad 91)), (1, Value.int l1), (2, Value.int l2), (3, Value.int l3)] d_Mo_planNow_122 (by decide) rfl ?_
              refine V_goto X 36 d_Mo_planNow_124 (by decide) ?_
              refine V_sub (lv' := [(0, Value.ref (ad 91)), (1, Value.int l1), (2, Value.int l2), (3, Value.int l3), (4, Value.int r21)]) [2, 3, 4, 5, 0] rfl ?_
              exact ih l2 l3 r21 s22 h
            · skip
              refine V_iload X 0 d_Mo_planNow_78 rfl ?_
              refine V_istore_n X [(2, Value.int r10), (5, Value.int r10), (0, Value.ref (ad 91)), (1, Value.int l1), (3, Value.int l3), (4, Value.int l4)] d_Mo_planNow_80 (by decide) rfl ?_
              refine V_aload_n X 2 d_Mo_planNow_81 rfl ?_
              refine V_getI X 10 26 rfl ji10 (by decide) (by decide) (by decide) fl_Mo_193 d_Mo_planNow_82 (by decide) (by decide) (by decide) ?_
              refine V_istore_n X [(3, Value.int (gF s6 91 26)), (2, Value.int r10), (5, Value.int r10), (0, Value.ref (ad 91)), (1, Value.int l1), (4, Value.int l4)] d_Mo_planNow_85 (by decide) rfl ?_
              refine V_iconst (v := 0) X d_Mo_planNow_86 (by decide) ?_
              refine V_istore X [(6, Value.int (0 : Int32)), (3, Value.int (gF s6 91 26)), (2, Value.int r10), (5, Value.int r10), (0, Value.ref (ad 91)), (1, Value.int l1), (4, Value.int l4)] d_Mo_planNow_87 (by decide) rfl ?_
              refine V_sub (lv' := [(0, Value.ref (ad 91)), (1, Value.int l1), (2, Value.int r10), (3, Value.int (gF s6 91 26)), (6, Value.int (0 : Int32))]) [4, 5, 2, 1, 0] rfl ?_
              refine Mo_planNow_L89_ok X fu l1 r10 (gF s6 91 26) _ hQ (fun l6_23 s24 h => ?_) fu (0 : Int32) s6 h
              refine V_aload_n X 0 d_Mo_planNow_118 rfl ?_
              refine V_cP X h (fun r25 s26 q => C_V (q := 10) X [] mt_Mo_nextRow ms_Mo_nextRow ml_Mo_201 (k_Mo_nextRow fu s24 r25 s26 q) rfl rfl (by omega) (Nat.le_of_ble_eq_true rfl) rfl (by decide) (by decide) (by decide) d_Mo_planNow_119) (fun r25 s26 h => ?_)
              refine V_istore X [(4, Value.int r25), (0, Value.ref (ad 91)), (1, Value.int l1), (2, Value.int r10), (3, Value.int (gF s6 91 26)), (6, Value.int l6_23)] d_Mo_planNow_122 (by decide) rfl ?_
              refine V_goto X 36 d_Mo_planNow_124 (by decide) ?_
              refine V_sub (lv' := [(0, Value.ref (ad 91)), (1, Value.int l1), (2, Value.int r10), (3, Value.int (gF s6 91 26)), (4, Value.int r25)]) [1, 2, 3, 4, 0] rfl ?_
              exact ih r10 (gF s6 91 26) r25 s26 h
set_option maxHeartbeats 4000000 in
set_option maxRecDepth 100000 in
theorem k_Mo_planNow (fu : Nat) (σ : Sg) (a0 : Int32) (r : Int32) (σ' : Sg) (h : Mo_planNow fu σ a0 = some (r, σ')) : Evc y_Mo_planNow prog_13_method_38_code 7 (some .int) 4 (fun ad => [Value.ref (ad 91), Value.int a0]) σ σ' (fun _ => some (.int r)) := by
  refine Evc_ofI (by decide) (fun ad => Nat.le_of_ble_eq_true rfl) (fun p l e R s m args below meth c D ad cI cB A Q X hQ => ?_)
  have X : Cx p R s m args meth c jR10 prog_13_method_38_code 7 4 D ad cI cB A 0 0 := X
  have h : wpO (Mo_planNow fu σ a0) (fun q => q = (r, σ')) := ⟨_, h, rfl⟩
  rw [Mo_planNow] at h
  refine V_sub (lv' := [(0, Value.ref (ad 91)), (1, Value.int a0)]) [0, 1] rfl ?_
  refine V_iconst (v := 0) X d_Mo_planNow_0 (by decide) ?_
  refine V_istore_n X [(2, Value.int (0 : Int32)), (0, Value.ref (ad 91)), (1, Value.int a0)] d_Mo_planNow_1 (by decide) rfl ?_
  refine V_sub (lv' := [(0, Value.ref (ad 91)), (1, Value.int a0), (2, Value.int (0 : Int32))]) [1, 2, 0] rfl ?_
  refine Mo_planNow_L2_ok X fu a0 _ hQ (fun l2_2 s3 h => ?_) fu (0 : Int32) σ h
  refine V_iconst (v := -1) X d_Mo_planNow_28 (by decide) ?_
  refine V_istore_n X [(2, Value.int (-1 : Int32)), (0, Value.ref (ad 91)), (1, Value.int a0)] d_Mo_planNow_29 (by decide) rfl ?_
  refine V_ldc X d_Mo_planNow_30 kc_Mo_196 ?_
  refine V_istore_n X [(3, Value.int (268435456 : Int32)), (2, Value.int (-1 : Int32)), (0, Value.ref (ad 91)), (1, Value.int a0)] d_Mo_planNow_32 (by decide) rfl ?_
  refine V_iconst (v := 1) X d_Mo_planNow_33 (by decide) ?_
  refine V_istore X [(4, Value.int (1 : Int32)), (3, Value.int (268435456 : Int32)), (2, Value.int (-1 : Int32)), (0, Value.ref (ad 91)), (1, Value.int a0)] d_Mo_planNow_34 (by decide) rfl ?_
  refine V_sub (lv' := [(0, Value.ref (ad 91)), (1, Value.int a0), (2, Value.int (-1 : Int32)), (3, Value.int (268435456 : Int32)), (4, Value.int (1 : Int32))]) [3, 4, 2, 1, 0] rfl ?_
  refine Mo_planNow_L36_ok X fu a0 _ hQ (fun l2_27 l3_28 l4_29 s30 h => ?_) fu (-1 : Int32) (268435456 : Int32) (1 : Int32) s3 h
  refine V_iload_n X 1 d_Mo_planNow_127 rfl ?_
  refine V_if_ne X 135 d_Mo_planNow_128 (by decide) h (fun c31 h => ?_) (fun c31 h => ?_)
  · skip
    refine V_iload_n X 1 d_Mo_planNow_135 rfl ?_
    refine V_iconst (v := 1) X d_Mo_planNow_136 (by decide) ?_
    refine V_icmp_ne X 144 d_Mo_planNow_137 (by decide) h (fun c32 h => ?_) (fun c32 h => ?_)
    · skip
      refine V_aload_n X 0 d_Mo_planNow_144 rfl ?_
      refine V_getR X 10 23 103 rfl ji10 (by decide) (by decide) (by decide) fl_Mo_44 d_Mo_planNow_145 (by decide) (by decide) (by decide) (by decide) ?_
      refine V_iload_n X 1 d_Mo_planNow_148 rfl ?_
      refine V_bipush (v := 10) X d_Mo_planNow_149 (by decide) ?_
      refine V_isub X d_Mo_planNow_151 ?_
      refine V_iald X d_Mo_planNow_152 (by decide) (by decide) rfl h (fun h => ?_)
      refine V_iconst (v := 1) X d_Mo_planNow_153 (by decide) ?_
      refine V_isub X d_Mo_planNow_154 ?_
      have h9 := wp_some h
      exact hQ _ _ h9 (fun h9 => absurd h9 (by decide)) _ _ d_Mo_planNow_155
    · skip
      refine V_iload_n X 3 d_Mo_planNow_140 rfl ?_
      refine V_goto X 155 d_Mo_planNow_141 (by decide) ?_
      have h9 := wp_some h
      exact hQ _ _ h9 (fun h9 => absurd h9 (by decide)) _ _ d_Mo_planNow_155
  · skip
    refine V_iload_n X 2 d_Mo_planNow_131 rfl ?_
    refine V_goto X 155 d_Mo_planNow_132 (by decide) ?_
    have h9 := wp_some h
    exact hQ _ _ h9 (fun h9 => absurd h9 (by decide)) _ _ d_Mo_planNow_155
set_option maxHeartbeats 4000000 in
set_option maxRecDepth 100000 in
theorem k_Mo_plan (fu : Nat) (σ : Sg) (a0 : Int32) (r : Int32) (σ' : Sg) (h : Mo_plan fu σ a0 = some (r, σ')) : Evc y_Mo_plan prog_13_method_39_code 2 (some .int) 5 (fun ad => [Value.ref (ad 91), Value.int a0]) σ σ' (fun _ => some (.int r)) := by
  refine Evc_ofI (by decide) (fun ad => Nat.le_of_ble_eq_true rfl) (fun p l e R s m args below meth c D ad cI cB A Q X hQ => ?_)
  have X : Cx p R s m args meth c jR10 prog_13_method_39_code 2 5 D ad cI cB A 0 0 := X
  have h : wpO (Mo_plan fu σ a0) (fun q => q = (r, σ')) := ⟨_, h, rfl⟩
  rw [Mo_plan] at h
  refine V_sub (lv' := [(0, Value.ref (ad 91)), (1, Value.int a0)]) [0, 1] rfl ?_
  refine V_iload_n X 1 d_Mo_plan_0 rfl ?_
  refine V_iconst (v := 0) X d_Mo_plan_1 (by decide) ?_
  refine V_iconst (v := 1) X d_Mo_plan_2 (by decide) ?_
  refine V_cI X h (fun r1 q => C_S X [Value.int a0, Value.int (0 : Int32), Value.int (1 : Int32)] mt_Mo_within ms_Mo_within ml_Mo_83 (k_Mo_within σ a0 (0 : Int32) (1 : Int32) r1 q) rfl rfl (by omega) (Nat.le_of_ble_eq_true rfl) d_Mo_plan_3) (fun r1 h => ?_)
  refine V_if_ne X 23 d_Mo_plan_6 (by decide) h (fun c2 h => ?_) (fun c2 h => ?_)
  · skip
    refine V_aload_n X 0 d_Mo_plan_23 rfl ?_
    refine V_getI X 10 2 rfl ji10 (by decide) (by decide) (by decide) fl_Mo_124 d_Mo_plan_24 (by decide) (by decide) (by decide) ?_
    refine V_if_eq X 39 d_Mo_plan_27 (by decide) h (fun c3 h => ?_) (fun c3 h => ?_)
    · skip
      refine V_bipush (v := -103) X d_Mo_plan_39 (by decide) ?_
      have h9 := wp_some h
      exact hQ _ _ h9 (fun h9 => absurd h9 (by decide)) _ _ d_Mo_plan_41
    · skip
      refine V_aload_n X 0 d_Mo_plan_30 rfl ?_
      refine V_getI X 10 12 rfl ji10 (by decide) (by decide) (by decide) fl_Mo_204 d_Mo_plan_31 (by decide) (by decide) (by decide) ?_
      refine V_bipush (v := 20) X d_Mo_plan_34 (by decide) ?_
      refine V_icmp_ne X 42 d_Mo_plan_36 (by decide) h (fun c4 h => ?_) (fun c4 h => ?_)
      · skip
        refine V_aload_n X 0 d_Mo_plan_42 rfl ?_
        refine V_dup X d_Mo_plan_43 rfl ?_
        refine V_getI X 10 12 rfl ji10 (by decide) (by decide) (by decide) fl_Mo_204 d_Mo_plan_44 (by decide) (by decide) (by decide) ?_
        refine V_iconst (v := 1) X d_Mo_plan_47 (by decide) ?_
        refine V_iadd X d_Mo_plan_48 ?_
        refine V_putI X 10 12 rfl ji10 jk10 jn10 (by decide) (by decide) (by decide) rfl (by decide +kernel) fl_Mo_204 d_Mo_plan_49 (by decide) (by decide) (by decide) ?_
        refine V_aload_n X 0 d_Mo_plan_52 rfl ?_
        refine V_iload_n X 1 d_Mo_plan_53 rfl ?_
        refine V_cP X h (fun r5 s6 q => C_V (q := 10) X [Value.int a0] mt_Mo_planNow ms_Mo_planNow ml_Mo_207 (k_Mo_planNow fu (sF σ 91 12 ((gF σ 91 12) + (1 : Int32))) a0 r5 s6 q) rfl rfl (by omega) (Nat.le_of_ble_eq_true rfl) rfl (by decide) (by decide) (by decide) d_Mo_plan_54) (fun r5 s6 h => ?_)
        have h9 := wp_some h
        exact hQ _ _ h9 (fun h9 => absurd h9 (by decide)) _ _ d_Mo_plan_57
      · skip
        refine V_bipush (v := -103) X d_Mo_plan_39 (by decide) ?_
        have h9 := wp_some h
        exact hQ _ _ h9 (fun h9 => absurd h9 (by decide)) _ _ d_Mo_plan_41
  · skip
    refine V_iload_n X 1 d_Mo_plan_9 rfl ?_
    refine V_bipush (v := 10) X d_Mo_plan_10 (by decide) ?_
    refine V_bipush (v := 16) X d_Mo_plan_12 (by decide) ?_
    refine V_cI X h (fun r7 q => C_S X [Value.int a0, Value.int (10 : Int32), Value.int (16 : Int32)] mt_Mo_within ms_Mo_within ml_Mo_83 (k_Mo_within σ a0 (10 : Int32) (16 : Int32) r7 q) rfl rfl (by omega) (Nat.le_of_ble_eq_true rfl) d_Mo_plan_14) (fun r7 h => ?_)
    refine V_if_ne X 23 d_Mo_plan_17 (by decide) h (fun c8 h => ?_) (fun c8 h => ?_)
    · skip
      refine V_aload_n X 0 d_Mo_plan_23 rfl ?_
      refine V_getI X 10 2 rfl ji10 (by decide) (by decide) (by decide) fl_Mo_124 d_Mo_plan_24 (by decide) (by decide) (by decide) ?_
      refine V_if_eq X 39 d_Mo_plan_27 (by decide) h (fun c9 h => ?_) (fun c9 h => ?_)
      · skip
        refine V_bipush (v := -103) X d_Mo_plan_39 (by decide) ?_
        have h9 := wp_some h
        exact hQ _ _ h9 (fun h9 => absurd h9 (by decide)) _ _ d_Mo_plan_41
      · skip
        refine V_aload_n X 0 d_Mo_plan_30 rfl ?_
        refine V_getI X 10 12 rfl ji10 (by decide) (by decide) (by decide) fl_Mo_204 d_Mo_plan_31 (by decide) (by decide) (by decide) ?_
        refine V_bipush (v := 20) X d_Mo_plan_34 (by decide) ?_
        refine V_icmp_ne X 42 d_Mo_plan_36 (by decide) h (fun c10 h => ?_) (fun c10 h => ?_)
        · skip
          refine V_aload_n X 0 d_Mo_plan_42 rfl ?_
          refine V_dup X d_Mo_plan_43 rfl ?_
          refine V_getI X 10 12 rfl ji10 (by decide) (by decide) (by decide) fl_Mo_204 d_Mo_plan_44 (by decide) (by decide) (by decide) ?_
          refine V_iconst (v := 1) X d_Mo_plan_47 (by decide) ?_
          refine V_iadd X d_Mo_plan_48 ?_
          refine V_putI X 10 12 rfl ji10 jk10 jn10 (by decide) (by decide) (by decide) rfl (by decide +kernel) fl_Mo_204 d_Mo_plan_49 (by decide) (by decide) (by decide) ?_
          refine V_aload_n X 0 d_Mo_plan_52 rfl ?_
          refine V_iload_n X 1 d_Mo_plan_53 rfl ?_
          refine V_cP X h (fun r11 s12 q => C_V (q := 10) X [Value.int a0] mt_Mo_planNow ms_Mo_planNow ml_Mo_207 (k_Mo_planNow fu (sF σ 91 12 ((gF σ 91 12) + (1 : Int32))) a0 r11 s12 q) rfl rfl (by omega) (Nat.le_of_ble_eq_true rfl) rfl (by decide) (by decide) (by decide) d_Mo_plan_54) (fun r11 s12 h => ?_)
          have h9 := wp_some h
          exact hQ _ _ h9 (fun h9 => absurd h9 (by decide)) _ _ d_Mo_plan_57
        · skip
          refine V_bipush (v := -103) X d_Mo_plan_39 (by decide) ?_
          have h9 := wp_some h
          exact hQ _ _ h9 (fun h9 => absurd h9 (by decide)) _ _ d_Mo_plan_41
    · skip
      refine V_bipush (v := -102) X d_Mo_plan_20 (by decide) ?_
      have h9 := wp_some h
      exact hQ _ _ h9 (fun h9 => absurd h9 (by decide)) _ _ d_Mo_plan_22
set_option maxHeartbeats 4000000 in
set_option maxRecDepth 100000 in
theorem k_Mo_plead (σ : Sg) (a0 : Int32) (a1 : Int32) (a2 : Int32) (r : Int32) (σ' : Sg) (h : Mo_plead σ a0 a1 a2 = some (r, σ')) : Evc y_Mo_plead prog_13_method_34_code 5 (some .int) 3 (fun ad => [Value.ref (ad 91), Value.int a0, Value.int a1, Value.int a2]) σ σ' (fun _ => some (.int r)) := by
  refine Evc_ofI (by decide) (fun ad => Nat.le_of_ble_eq_true rfl) (fun p l e R s m args below meth c D ad cI cB A Q X hQ => ?_)
  have X : Cx p R s m args meth c jR10 prog_13_method_34_code 5 3 D ad cI cB A 0 0 := X
  have h : wpO (Mo_plead σ a0 a1 a2) (fun q => q = (r, σ')) := ⟨_, h, rfl⟩
  rw [Mo_plead] at h
  refine V_sub (lv' := [(0, Value.ref (ad 91)), (1, Value.int a0), (2, Value.int a1), (3, Value.int a2)]) [0, 1, 2, 3] rfl ?_
  refine V_aload_n X 0 d_Mo_plead_0 rfl ?_
  refine V_iload_n X 1 d_Mo_plead_1 rfl ?_
  refine V_cI X h (fun r1 q => C_V (q := 10) X [Value.int a0] mt_Mo_isCase ms_Mo_isCase ml_Mo_178 (k_Mo_isCase σ a0 r1 q) rfl rfl (by omega) (Nat.le_of_ble_eq_true rfl) rfl (by decide) (by decide) (by decide) d_Mo_plead_2) (fun r1 h => ?_)
  refine V_if_ne X 11 d_Mo_plead_5 (by decide) h (fun c2 h => ?_) (fun c2 h => ?_)
  · skip
    refine V_iload_n X 2 d_Mo_plead_11 rfl ?_
    refine V_iconst (v := 1) X d_Mo_plead_12 (by decide) ?_
    refine V_bipush (v := 9) X d_Mo_plead_13 (by decide) ?_
    refine V_cI X h (fun r3 q => C_S X [Value.int a1, Value.int (1 : Int32), Value.int (9 : Int32)] mt_Mo_within ms_Mo_within ml_Mo_83 (k_Mo_within σ a1 (1 : Int32) (9 : Int32) r3 q) rfl rfl (by omega) (Nat.le_of_ble_eq_true rfl) d_Mo_plead_15) (fun r3 h => ?_)
    refine V_if_eq X 31 d_Mo_plead_18 (by decide) h (fun c4 h => ?_) (fun c4 h => ?_)
    · skip
      refine V_bipush (v := -102) X d_Mo_plead_31 (by decide) ?_
      have h9 := wp_some h
      exact hQ _ _ h9 (fun h9 => absurd h9 (by decide)) _ _ d_Mo_plead_33
    · skip
      refine V_iload_n X 3 d_Mo_plead_21 rfl ?_
      refine V_iconst (v := 1) X d_Mo_plead_22 (by decide) ?_
      refine V_bipush (v := 9) X d_Mo_plead_23 (by decide) ?_
      refine V_cI X h (fun r5 q => C_S X [Value.int a2, Value.int (1 : Int32), Value.int (9 : Int32)] mt_Mo_within ms_Mo_within ml_Mo_83 (k_Mo_within σ a2 (1 : Int32) (9 : Int32) r5 q) rfl rfl (by omega) (Nat.le_of_ble_eq_true rfl) d_Mo_plead_25) (fun r5 h => ?_)
      refine V_if_ne X 34 d_Mo_plead_28 (by decide) h (fun c6 h => ?_) (fun c6 h => ?_)
      · skip
        refine V_aload_n X 0 d_Mo_plead_34 rfl ?_
        refine V_getR X 10 7 96 rfl ji10 (by decide) (by decide) (by decide) fl_Mo_22 d_Mo_plead_35 (by decide) (by decide) (by decide) (by decide) ?_
        refine V_iload_n X 1 d_Mo_plead_38 rfl ?_
        refine V_iald X d_Mo_plead_39 (by decide) (by decide) rfl h (fun h => ?_)
        refine V_istore X [(4, Value.int (gA σ 96 (ix a0))), (0, Value.ref (ad 91)), (1, Value.int a0), (2, Value.int a1), (3, Value.int a2)] d_Mo_plead_40 (by decide) rfl ?_
        refine V_aload_n X 1 d_Mo_plead_42 rfl ?_
        refine V_getR X 10 6 95 rfl ji10 (by decide) (by decide) (by decide) fl_Mo_19 d_Mo_plead_43 (by decide) (by decide) (by decide) (by decide) ?_
        refine V_iload_n X 2 d_Mo_plead_46 rfl ?_
        refine V_iload_n X 3 d_Mo_plead_47 rfl ?_
        refine V_iast X d_Mo_plead_48 (by decide) (by decide) rfl h (fun h => ?_)
        refine V_aload_n X 1 d_Mo_plead_49 rfl ?_
        refine V_getR X 10 7 96 rfl ji10 (by decide) (by decide) (by decide) fl_Mo_22 d_Mo_plead_50 (by decide) (by decide) (by decide) (by decide) ?_
        refine V_iload_n X 2 d_Mo_plead_53 rfl ?_
        refine V_iload_n X 4 d_Mo_plead_54 rfl ?_
        refine V_iast X d_Mo_plead_55 (by decide) (by decide) rfl h (fun h => ?_)
        refine V_iload X 0 d_Mo_plead_56 rfl ?_
        have h9 := wp_some h
        exact hQ _ _ h9 (fun h9 => absurd h9 (by decide)) _ _ d_Mo_plead_58
      · skip
        refine V_bipush (v := -102) X d_Mo_plead_31 (by decide) ?_
        have h9 := wp_some h
        exact hQ _ _ h9 (fun h9 => absurd h9 (by decide)) _ _ d_Mo_plead_33
  · skip
    refine V_bipush (v := -101) X d_Mo_plead_8 (by decide) ?_
    have h9 := wp_some h
    exact hQ _ _ h9 (fun h9 => absurd h9 (by decide)) _ _ d_Mo_plead_10
set_option maxHeartbeats 4000000 in
set_option maxRecDepth 100000 in
theorem Mo_restore_L55_ok {p : Program} {l : Launch} {e : Env} {R : Room} {s : State} {m : MethodId} {args : Array Value} {below : List Frame} {meth : Method} {c : Code} {D : va_G} {ad : Nat → Nat} {cI cB : ClassId} {A : Nat → Prop} {cells slots : Nat} {Q : State → Prop} (X : Cx p R s m args meth c jR10 prog_13_method_56_code 2 1 D ad cI cB A cells slots) (fu : Nat) (kont : (Int32 → Sg → Option (Int32 × Sg))) {K : (Int32 × Sg) → Prop} (hQ : RI p l e R s m args below meth c 2 D ad cI cB A cells slots Q prog_13_method_56_code false K) (hk : ∀ (l1 : Int32) (σ : Sg), wpO (kont l1 σ) K → V p l e R s m args below meth c 2 D A cells slots Q (wl ad cI cB σ) 90 [(0, Value.ref (ad 91)), (1, Value.int l1)] []) : ∀ (n : Nat) (l1 : Int32) (σ : Sg), wpO (Mo_restore_L55 fu kont n l1 σ) K → V p l e R s m args below meth c 2 D A cells slots Q (wl ad cI cB σ) 55 [(0, Value.ref (ad 91)), (1, Value.int l1)] [] := by
  intro n
  induction n with
  | zero =>
    intro l1 σ h
    exact (wp_none h).elim
  | succ n ih =>
    intro l1 σ h
    rw [Mo_restore_L55] at h
    refine V_iload_n X 1 d_Mo_restore_55 rfl ?_
    refine V_iconst (v := 3) X d_Mo_restore_56 (by decide) ?_
    refine V_icmp_ge X 90 d_Mo_restore_57 (by decide) h (fun c3 h => ?_) (fun c3 h => ?_)
    · skip
      exact hk l1 σ h
    · skip
      refine V_aload_n X 0 d_Mo_restore_60 rfl ?_
      refine V_getR X 10 3 92 rfl ji10 (by decide) (by decide) (by decide) fl_Mo_7 d_Mo_restore_61 (by decide) (by decide) (by decide) (by decide) ?_
      refine V_iload_n X 1 d_Mo_restore_64 rfl ?_
      refine V_aload_n X 0 d_Mo_restore_65 rfl ?_
      refine V_getR X 10 38 109 rfl ji10 (by decide) (by decide) (by decide) fl_Mo_62 d_Mo_restore_66 (by decide) (by decide) (by decide) (by decide) ?_
      refine V_iload_n X 1 d_Mo_restore_69 rfl ?_
      refine V_iald X d_Mo_restore_70 (by decide) (by decide) rfl h (fun h => ?_)
      refine V_iast X d_Mo_restore_71 (by decide) (by decide) rfl h (fun h => ?_)
      refine V_aload_n X 0 d_Mo_restore_72 rfl ?_
      refine V_getR X 10 4 93 rfl ji10 (by decide) (by decide) (by decide) fl_Mo_13 d_Mo_restore_73 (by decide) (by decide) (by decide) (by decide) ?_
      refine V_iload_n X 1 d_Mo_restore_76 rfl ?_
      refine V_aload_n X 0 d_Mo_restore_77 rfl ?_
      refine V_getR X 10 39 110 rfl ji10 (by decide) (by decide) (by decide) fl_Mo_65 d_Mo_restore_78 (by decide) (by decide) (by decide) (by decide) ?_
      refine V_iload_n X 1 d_Mo_restore_81 rfl ?_
      refine V_iald X d_Mo_restore_82 (by decide) (by decide) rfl h (fun h => ?_)
      refine V_iast X d_Mo_restore_83 (by decide) (by decide) rfl h (fun h => ?_)
      refine V_iinc X 1 (l1 + (1 : Int32)) [(1, Value.int (l1 + (1 : Int32))), (0, Value.ref (ad 91))] d_Mo_restore_84 rfl (by first | rfl | decide) (by decide) rfl ?_
      refine V_goto X 55 d_Mo_restore_87 (by decide) ?_
      refine V_sub (lv' := [(0, Value.ref (ad 91)), (1, Value.int (l1 + (1 : Int32)))]) [1, 0] rfl ?_
      exact ih (l1 + (1 : Int32)) (sA (sA σ 92 (ix l1) (gA σ 109 (ix l1))) 93 (ix l1) (gA (sA σ 92 (ix l1) (gA σ 109 (ix l1))) 110 (ix l1))) h
set_option maxHeartbeats 4000000 in
set_option maxRecDepth 100000 in
theorem Mo_restore_L92_ok {p : Program} {l : Launch} {e : Env} {R : Room} {s : State} {m : MethodId} {args : Array Value} {below : List Frame} {meth : Method} {c : Code} {D : va_G} {ad : Nat → Nat} {cI cB : ClassId} {A : Nat → Prop} {cells slots : Nat} {Q : State → Prop} (X : Cx p R s m args meth c jR10 prog_13_method_56_code 2 1 D ad cI cB A cells slots) (fu : Nat) (kont : (Int32 → Sg → Option (Int32 × Sg))) {K : (Int32 × Sg) → Prop} (hQ : RI p l e R s m args below meth c 2 D ad cI cB A cells slots Q prog_13_method_56_code false K) (hk : ∀ (l1 : Int32) (σ : Sg), wpO (kont l1 σ) K → V p l e R s m args below meth c 2 D A cells slots Q (wl ad cI cB σ) 128 [(0, Value.ref (ad 91)), (1, Value.int l1)] []) : ∀ (n : Nat) (l1 : Int32) (σ : Sg), wpO (Mo_restore_L92 fu kont n l1 σ) K → V p l e R s m args below meth c 2 D A cells slots Q (wl ad cI cB σ) 92 [(0, Value.ref (ad 91)), (1, Value.int l1)] [] := by
  intro n
  induction n with
  | zero =>
    intro l1 σ h
    exact (wp_none h).elim
  | succ n ih =>
    intro l1 σ h
    rw [Mo_restore_L92] at h
    refine V_iload_n X 1 d_Mo_restore_92 rfl ?_
    refine V_bipush (v := 7) X d_Mo_restore_93 (by decide) ?_
    refine V_icmp_ge X 128 d_Mo_restore_95 (by decide) h (fun c6 h => ?_) (fun c6 h => ?_)
    · skip
      exact hk l1 σ h
    · skip
      refine V_aload_n X 0 d_Mo_restore_98 rfl ?_
      refine V_getR X 10 6 95 rfl ji10 (by decide) (by decide) (by decide) fl_Mo_19 d_Mo_restore_99 (by decide) (by decide) (by decide) (by decide) ?_
      refine V_iload_n X 1 d_Mo_restore_102 rfl ?_
      refine V_aload_n X 0 d_Mo_restore_103 rfl ?_
      refine V_getR X 10 40 111 rfl ji10 (by decide) (by decide) (by decide) fl_Mo_68 d_Mo_restore_104 (by decide) (by decide) (by decide) (by decide) ?_
      refine V_iload_n X 1 d_Mo_restore_107 rfl ?_
      refine V_iald X d_Mo_restore_108 (by decide) (by decide) rfl h (fun h => ?_)
      refine V_iast X d_Mo_restore_109 (by decide) (by decide) rfl h (fun h => ?_)
      refine V_aload_n X 0 d_Mo_restore_110 rfl ?_
      refine V_getR X 10 7 96 rfl ji10 (by decide) (by decide) (by decide) fl_Mo_22 d_Mo_restore_111 (by decide) (by decide) (by decide) (by decide) ?_
      refine V_iload_n X 1 d_Mo_restore_114 rfl ?_
      refine V_aload_n X 0 d_Mo_restore_115 rfl ?_
      refine V_getR X 10 41 112 rfl ji10 (by decide) (by decide) (by decide) fl_Mo_71 d_Mo_restore_116 (by decide) (by decide) (by decide) (by decide) ?_
      refine V_iload_n X 1 d_Mo_restore_119 rfl ?_
      refine V_iald X d_Mo_restore_120 (by decide) (by decide) rfl h (fun h => ?_)
      refine V_iast X d_Mo_restore_121 (by decide) (by decide) rfl h (fun h => ?_)
      refine V_iinc X 1 (l1 + (1 : Int32)) [(1, Value.int (l1 + (1 : Int32))), (0, Value.ref (ad 91))] d_Mo_restore_122 rfl (by first | rfl | decide) (by decide) rfl ?_
      refine V_goto X 92 d_Mo_restore_125 (by decide) ?_
      refine V_sub (lv' := [(0, Value.ref (ad 91)), (1, Value.int (l1 + (1 : Int32)))]) [1, 0] rfl ?_
      exact ih (l1 + (1 : Int32)) (sA (sA σ 95 (ix l1) (gA σ 111 (ix l1))) 96 (ix l1) (gA (sA σ 95 (ix l1) (gA σ 111 (ix l1))) 112 (ix l1))) h
set_option maxHeartbeats 4000000 in
set_option maxRecDepth 100000 in
theorem Mo_restore_L130_ok {p : Program} {l : Launch} {e : Env} {R : Room} {s : State} {m : MethodId} {args : Array Value} {below : List Frame} {meth : Method} {c : Code} {D : va_G} {ad : Nat → Nat} {cI cB : ClassId} {A : Nat → Prop} {cells slots : Nat} {Q : State → Prop} (X : Cx p R s m args meth c jR10 prog_13_method_56_code 2 1 D ad cI cB A cells slots) (fu : Nat) (kont : (Int32 → Sg → Option (Int32 × Sg))) {K : (Int32 × Sg) → Prop} (hQ : RI p l e R s m args below meth c 2 D ad cI cB A cells slots Q prog_13_method_56_code false K) (hk : ∀ (l1 : Int32) (σ : Sg), wpO (kont l1 σ) K → V p l e R s m args below meth c 2 D A cells slots Q (wl ad cI cB σ) 178 [(0, Value.ref (ad 91)), (1, Value.int l1)] []) : ∀ (n : Nat) (l1 : Int32) (σ : Sg), wpO (Mo_restore_L130 fu kont n l1 σ) K → V p l e R s m args below meth c 2 D A cells slots Q (wl ad cI cB σ) 130 [(0, Value.ref (ad 91)), (1, Value.int l1)] [] := by
  intro n
  induction n with
  | zero =>
    intro l1 σ h
    exact (wp_none h).elim
  | succ n ih =>
    intro l1 σ h
    rw [Mo_restore_L130] at h
    refine V_iload_n X 1 d_Mo_restore_130 rfl ?_
    refine V_bipush (v := 8) X d_Mo_restore_131 (by decide) ?_
    refine V_icmp_ge X 178 d_Mo_restore_133 (by decide) h (fun c9 h => ?_) (fun c9 h => ?_)
    · skip
      exact hk l1 σ h
    · skip
      refine V_aload_n X 0 d_Mo_restore_136 rfl ?_
      refine V_getR X 10 14 98 rfl ji10 (by decide) (by decide) (by decide) fl_Mo_28 d_Mo_restore_137 (by decide) (by decide) (by decide) (by decide) ?_
      refine V_iload_n X 1 d_Mo_restore_140 rfl ?_
      refine V_aload_n X 0 d_Mo_restore_141 rfl ?_
      refine V_getR X 10 42 113 rfl ji10 (by decide) (by decide) (by decide) fl_Mo_74 d_Mo_restore_142 (by decide) (by decide) (by decide) (by decide) ?_
      refine V_iload_n X 1 d_Mo_restore_145 rfl ?_
      refine V_iald X d_Mo_restore_146 (by decide) (by decide) rfl h (fun h => ?_)
      refine V_iast X d_Mo_restore_147 (by decide) (by decide) rfl h (fun h => ?_)
      refine V_aload_n X 0 d_Mo_restore_148 rfl ?_
      refine V_getR X 10 15 99 rfl ji10 (by decide) (by decide) (by decide) fl_Mo_31 d_Mo_restore_149 (by decide) (by decide) (by decide) (by decide) ?_
      refine V_iload_n X 1 d_Mo_restore_152 rfl ?_
      refine V_aload_n X 0 d_Mo_restore_153 rfl ?_
      refine V_getR X 10 43 114 rfl ji10 (by decide) (by decide) (by decide) fl_Mo_77 d_Mo_restore_154 (by decide) (by decide) (by decide) (by decide) ?_
      refine V_iload_n X 1 d_Mo_restore_157 rfl ?_
      refine V_iald X d_Mo_restore_158 (by decide) (by decide) rfl h (fun h => ?_)
      refine V_iast X d_Mo_restore_159 (by decide) (by decide) rfl h (fun h => ?_)
      refine V_aload_n X 0 d_Mo_restore_160 rfl ?_
      refine V_getR X 10 16 100 rfl ji10 (by decide) (by decide) (by decide) fl_Mo_34 d_Mo_restore_161 (by decide) (by decide) (by decide) (by decide) ?_
      refine V_iload_n X 1 d_Mo_restore_164 rfl ?_
      refine V_aload_n X 0 d_Mo_restore_165 rfl ?_
      refine V_getR X 10 44 115 rfl ji10 (by decide) (by decide) (by decide) fl_Mo_80 d_Mo_restore_166 (by decide) (by decide) (by decide) (by decide) ?_
      refine V_iload_n X 1 d_Mo_restore_169 rfl ?_
      refine V_iald X d_Mo_restore_170 (by decide) (by decide) rfl h (fun h => ?_)
      refine V_iast X d_Mo_restore_171 (by decide) (by decide) rfl h (fun h => ?_)
      refine V_iinc X 1 (l1 + (1 : Int32)) [(1, Value.int (l1 + (1 : Int32))), (0, Value.ref (ad 91))] d_Mo_restore_172 rfl (by first | rfl | decide) (by decide) rfl ?_
      refine V_goto X 130 d_Mo_restore_175 (by decide) ?_
      refine V_sub (lv' := [(0, Value.ref (ad 91)), (1, Value.int (l1 + (1 : Int32)))]) [1, 0] rfl ?_
      exact ih (l1 + (1 : Int32)) (sA (sA (sA σ 98 (ix l1) (gA σ 113 (ix l1))) 99 (ix l1) (gA (sA σ 98 (ix l1) (gA σ 113 (ix l1))) 114 (ix l1))) 100 (ix l1) (gA (sA (sA σ 98 (ix l1) (gA σ 113 (ix l1))) 99 (ix l1) (gA (sA σ 98 (ix l1) (gA σ 113 (ix l1))) 114 (ix l1))) 115 (ix l1))) h
set_option maxHeartbeats 4000000 in
set_option maxRecDepth 100000 in
theorem k_Mo_restore (fu : Nat) (σ : Sg) (r : Int32) (σ' : Sg) (h : Mo_restore fu σ = some (r, σ')) : Evc y_Mo_restore prog_13_method_56_code 2 (some .int) 1 (fun ad => [Value.ref (ad 91)]) σ σ' (fun _ => some (.int r)) := by
  refine Evc_ofI (by decide) (fun ad => Nat.le_of_ble_eq_true rfl) (fun p l e R s m args below meth c D ad cI cB A Q X hQ => ?_)
  have X : Cx p R s m args meth c jR10 prog_13_method_56_code 2 1 D ad cI cB A 0 0 := X
  have h : wpO (Mo_restore fu σ) (fun q => q = (r, σ')) := ⟨_, h, rfl⟩
  rw [Mo_restore] at h
  refine V_sub (lv' := [(0, Value.ref (ad 91))]) [0] rfl ?_
  refine V_aload_n X 0 d_Mo_restore_0 rfl ?_
  refine V_getI X 10 32 rfl ji10 (by decide) (by decide) (by decide) fl_Mo_251 d_Mo_restore_1 (by decide) (by decide) (by decide) ?_
  refine V_if_eq X 18 d_Mo_restore_4 (by decide) h (fun c1 h => ?_) (fun c1 h => ?_)
  · skip
    refine V_bipush (v := -103) X d_Mo_restore_18 (by decide) ?_
    have h9 := wp_some h
    exact hQ _ _ h9 (fun h9 => absurd h9 (by decide)) _ _ d_Mo_restore_20
  · skip
    refine V_aload_n X 0 d_Mo_restore_7 rfl ?_
    refine V_getI X 10 33 rfl ji10 (by decide) (by decide) (by decide) fl_Mo_254 d_Mo_restore_8 (by decide) (by decide) (by decide) ?_
    refine V_aload_n X 0 d_Mo_restore_11 rfl ?_
    refine V_getI X 10 0 rfl ji10 (by decide) (by decide) (by decide) fl_Mo_136 d_Mo_restore_12 (by decide) (by decide) (by decide) ?_
    refine V_icmp_eq X 21 d_Mo_restore_15 (by decide) h (fun c2 h => ?_) (fun c2 h => ?_)
    · skip
      refine V_aload_n X 0 d_Mo_restore_21 rfl ?_
      refine V_aload_n X 0 d_Mo_restore_22 rfl ?_
      refine V_getI X 10 34 rfl ji10 (by decide) (by decide) (by decide) fl_Mo_257 d_Mo_restore_23 (by decide) (by decide) (by decide) ?_
      refine V_putI X 10 9 rfl ji10 jk10 jn10 (by decide) (by decide) (by decide) rfl (by decide +kernel) fl_Mo_127 d_Mo_restore_26 (by decide) (by decide) (by decide) ?_
      refine V_aload_n X 0 d_Mo_restore_29 rfl ?_
      refine V_aload_n X 0 d_Mo_restore_30 rfl ?_
      refine V_getI X 10 35 rfl ji10 (by decide) (by decide) (by decide) fl_Mo_260 d_Mo_restore_31 (by decide) (by decide) (by decide) ?_
      refine V_putI X 10 10 rfl ji10 jk10 jn10 (by decide) (by decide) (by decide) rfl (by decide +kernel) fl_Mo_130 d_Mo_restore_34 (by decide) (by decide) (by decide) ?_
      refine V_aload_n X 0 d_Mo_restore_37 rfl ?_
      refine V_aload_n X 0 d_Mo_restore_38 rfl ?_
      refine V_getI X 10 36 rfl ji10 (by decide) (by decide) (by decide) fl_Mo_263 d_Mo_restore_39 (by decide) (by decide) (by decide) ?_
      refine V_putI X 10 11 rfl ji10 jk10 jn10 (by decide) (by decide) (by decide) rfl (by decide +kernel) fl_Mo_133 d_Mo_restore_42 (by decide) (by decide) (by decide) ?_
      refine V_aload_n X 0 d_Mo_restore_45 rfl ?_
      refine V_aload_n X 0 d_Mo_restore_46 rfl ?_
      refine V_getI X 10 37 rfl ji10 (by decide) (by decide) (by decide) fl_Mo_266 d_Mo_restore_47 (by decide) (by decide) (by decide) ?_
      refine V_putI X 10 13 rfl ji10 jk10 jn10 (by decide) (by decide) (by decide) rfl (by decide +kernel) fl_Mo_139 d_Mo_restore_50 (by decide) (by decide) (by decide) ?_
      refine V_iconst (v := 0) X d_Mo_restore_53 (by decide) ?_
      refine V_istore_n X [(1, Value.int (0 : Int32)), (0, Value.ref (ad 91))] d_Mo_restore_54 (by decide) rfl ?_
      refine V_sub (lv' := [(0, Value.ref (ad 91)), (1, Value.int (0 : Int32))]) [1, 0] rfl ?_
      refine Mo_restore_L55_ok X fu _ hQ (fun l1_4 s5 h => ?_) fu (0 : Int32) (sF (sF (sF (sF σ 91 9 (gF σ 91 34)) 91 10 (gF (sF σ 91 9 (gF σ 91 34)) 91 35)) 91 11 (gF (sF (sF σ 91 9 (gF σ 91 34)) 91 10 (gF (sF σ 91 9 (gF σ 91 34)) 91 35)) 91 36)) 91 13 (gF (sF (sF (sF σ 91 9 (gF σ 91 34)) 91 10 (gF (sF σ 91 9 (gF σ 91 34)) 91 35)) 91 11 (gF (sF (sF σ 91 9 (gF σ 91 34)) 91 10 (gF (sF σ 91 9 (gF σ 91 34)) 91 35)) 91 36)) 91 37)) h
      refine V_iconst (v := 0) X d_Mo_restore_90 (by decide) ?_
      refine V_istore_n X [(1, Value.int (0 : Int32)), (0, Value.ref (ad 91))] d_Mo_restore_91 (by decide) rfl ?_
      refine V_sub (lv' := [(0, Value.ref (ad 91)), (1, Value.int (0 : Int32))]) [1, 0] rfl ?_
      refine Mo_restore_L92_ok X fu _ hQ (fun l1_7 s8 h => ?_) fu (0 : Int32) s5 h
      refine V_iconst (v := 0) X d_Mo_restore_128 (by decide) ?_
      refine V_istore_n X [(1, Value.int (0 : Int32)), (0, Value.ref (ad 91))] d_Mo_restore_129 (by decide) rfl ?_
      refine V_sub (lv' := [(0, Value.ref (ad 91)), (1, Value.int (0 : Int32))]) [1, 0] rfl ?_
      refine Mo_restore_L130_ok X fu _ hQ (fun l1_10 s11 h => ?_) fu (0 : Int32) s8 h
      refine V_aload_n X 0 d_Mo_restore_178 rfl ?_
      refine V_getI X 10 11 rfl ji10 (by decide) (by decide) (by decide) fl_Mo_133 d_Mo_restore_179 (by decide) (by decide) (by decide) ?_
      have h9 := wp_some h
      exact hQ _ _ h9 (fun h9 => absurd h9 (by decide)) _ _ d_Mo_restore_182
    · skip
      refine V_bipush (v := -103) X d_Mo_restore_18 (by decide) ?_
      have h9 := wp_some h
      exact hQ _ _ h9 (fun h9 => absurd h9 (by decide)) _ _ d_Mo_restore_20
set_option maxHeartbeats 4000000 in
set_option maxRecDepth 100000 in
theorem k_Mo_right (fu : Nat) (σ : Sg) (a0 : Int32) (a1 : Int32) (r : Int32) (σ' : Sg) (h : Mo_right fu σ a0 a1 = some (r, σ')) : Evc y_Mo_right prog_13_method_30_code 4 (some .int) 4 (fun ad => [Value.ref (ad 91), Value.int a0, Value.int a1]) σ σ' (fun _ => some (.int r)) := by
  refine Evc_ofI (by decide) (fun ad => Nat.le_of_ble_eq_true rfl) (fun p l e R s m args below meth c D ad cI cB A Q X hQ => ?_)
  have X : Cx p R s m args meth c jR10 prog_13_method_30_code 4 4 D ad cI cB A 0 0 := X
  have h : wpO (Mo_right fu σ a0 a1) (fun q => q = (r, σ')) := ⟨_, h, rfl⟩
  rw [Mo_right] at h
  refine V_sub (lv' := [(0, Value.ref (ad 91)), (1, Value.int a0), (2, Value.int a1)]) [0, 1, 2] rfl ?_
  refine V_aload_n X 0 d_Mo_right_0 rfl ?_
  refine V_iload_n X 1 d_Mo_right_1 rfl ?_
  refine V_cI X h (fun r1 q => C_V (q := 10) X [Value.int a0] mt_Mo_isCase ms_Mo_isCase ml_Mo_178 (k_Mo_isCase σ a0 r1 q) rfl rfl (by omega) (Nat.le_of_ble_eq_true rfl) rfl (by decide) (by decide) (by decide) d_Mo_right_2) (fun r1 h => ?_)
  refine V_if_eq X 16 d_Mo_right_5 (by decide) h (fun c2 h => ?_) (fun c2 h => ?_)
  · skip
    refine V_bipush (v := -101) X d_Mo_right_16 (by decide) ?_
    have h9 := wp_some h
    exact hQ _ _ h9 (fun h9 => absurd h9 (by decide)) _ _ d_Mo_right_18
  · skip
    refine V_aload_n X 0 d_Mo_right_8 rfl ?_
    refine V_iload_n X 2 d_Mo_right_9 rfl ?_
    refine V_cI X h (fun r3 q => C_V (q := 10) X [Value.int a1] mt_Mo_isTree ms_Mo_isTree ml_Mo_158 (k_Mo_isTree σ a1 r3 q) rfl rfl (by omega) (Nat.le_of_ble_eq_true rfl) rfl (by decide) (by decide) (by decide) d_Mo_right_10) (fun r3 h => ?_)
    refine V_if_ne X 19 d_Mo_right_13 (by decide) h (fun c4 h => ?_) (fun c4 h => ?_)
    · skip
      refine V_aload_n X 0 d_Mo_right_19 rfl ?_
      refine V_iload_n X 1 d_Mo_right_20 rfl ?_
      refine V_iload_n X 2 d_Mo_right_21 rfl ?_
      refine V_cI X h (fun r5 q => C_V (q := 10) X [Value.int a0, Value.int a1] mt_Mo_mayRight ms_Mo_mayRight ml_Mo_155 (k_Mo_mayRight fu σ a0 a1 r5 q) rfl rfl (by omega) (Nat.le_of_ble_eq_true rfl) rfl (by decide) (by decide) (by decide) d_Mo_right_22) (fun r5 h => ?_)
      refine V_if_ne X 31 d_Mo_right_25 (by decide) h (fun c6 h => ?_) (fun c6 h => ?_)
      · skip
        refine V_aload_n X 0 d_Mo_right_31 rfl ?_
        refine V_getI X 10 10 rfl ji10 (by decide) (by decide) (by decide) fl_Mo_130 d_Mo_right_32 (by decide) (by decide) (by decide) ?_
        refine V_sipush (v := 999) X d_Mo_right_35 (by decide) ?_
        refine V_icmp_ne X 44 d_Mo_right_38 (by decide) h (fun c7 h => ?_) (fun c7 h => ?_)
        · skip
          refine V_aload_n X 0 d_Mo_right_44 rfl ?_
          refine V_iload_n X 1 d_Mo_right_45 rfl ?_
          refine V_cI X h (fun r8 q => C_V (q := 10) X [Value.int a0] mt_Mo_allOn ms_Mo_allOn ml_Mo_166 (k_Mo_allOn fu σ a0 r8 q) rfl rfl (by omega) (Nat.le_of_ble_eq_true rfl) rfl (by decide) (by decide) (by decide) d_Mo_right_46) (fun r8 h => ?_)
          refine V_aload_n X 0 d_Mo_right_49 rfl ?_
          refine V_getI X 10 9 rfl ji10 (by decide) (by decide) (by decide) fl_Mo_127 d_Mo_right_50 (by decide) (by decide) (by decide) ?_
          refine V_iand X d_Mo_right_53 ?_
          refine V_istore_n X [(3, Value.int (r8 &&& (gF σ 91 9))), (0, Value.ref (ad 91)), (1, Value.int a0), (2, Value.int a1)] d_Mo_right_54 (by decide) rfl ?_
          refine V_aload_n X 1 d_Mo_right_55 rfl ?_
          refine V_getR X 10 3 92 rfl ji10 (by decide) (by decide) (by decide) fl_Mo_7 d_Mo_right_56 (by decide) (by decide) (by decide) (by decide) ?_
          refine V_iload_n X 3 d_Mo_right_59 rfl ?_
          refine V_dup2 X d_Mo_right_60 rfl rfl ?_
          refine V_iald X d_Mo_right_61 (by decide) (by decide) rfl h (fun h => ?_)
          refine V_aload_n X 1 d_Mo_right_62 rfl ?_
          refine V_iload_n X 2 d_Mo_right_63 rfl ?_
          refine V_cI X h (fun r9 q => C_V (q := 10) X [Value.int a0] mt_Mo_cost ms_Mo_cost ml_Mo_152 (k_Mo_cost fu σ a0 r9 q) rfl rfl (by omega) (Nat.le_of_ble_eq_true rfl) rfl (by decide) (by decide) (by decide) d_Mo_right_64) (fun r9 h => ?_)
          refine V_isub X d_Mo_right_67 ?_
          refine V_iast X d_Mo_right_68 (by decide) (by decide) rfl h (fun h => ?_)
          refine V_aload_n X 1 d_Mo_right_69 rfl ?_
          refine V_aload_n X 1 d_Mo_right_70 rfl ?_
          refine V_getI X 10 9 rfl ji10 (by decide) (by decide) (by decide) fl_Mo_127 d_Mo_right_71 (by decide) (by decide) (by decide) ?_
          refine V_iload_n X 0 d_Mo_right_74 rfl ?_
          refine V_iconst (v := -1) X d_Mo_right_75 (by decide) ?_
          refine V_ixor X d_Mo_right_76 ?_
          refine V_iand X d_Mo_right_77 ?_
          refine V_iconst (v := 1) X d_Mo_right_78 (by decide) ?_
          refine V_iload_n X 2 d_Mo_right_79 rfl ?_
          refine V_ishl X d_Mo_right_80 ?_
          refine V_ior X d_Mo_right_81 ?_
          refine V_putI X 10 9 rfl ji10 jk10 jn10 (by decide) (by decide) (by decide) rfl (by decide +kernel) fl_Mo_127 d_Mo_right_82 (by decide) (by decide) (by decide) ?_
          refine V_aload_n X 1 d_Mo_right_85 rfl ?_
          refine V_dup X d_Mo_right_86 rfl ?_
          refine V_getI X 10 10 rfl ji10 (by decide) (by decide) (by decide) fl_Mo_130 d_Mo_right_87 (by decide) (by decide) (by decide) ?_
          refine V_iconst (v := 1) X d_Mo_right_90 (by decide) ?_
          refine V_iadd X d_Mo_right_91 ?_
          refine V_putI X 10 10 rfl ji10 jk10 jn10 (by decide) (by decide) (by decide) rfl (by decide +kernel) fl_Mo_130 d_Mo_right_92 (by decide) (by decide) (by decide) ?_
          refine V_iload_n X 0 d_Mo_right_95 rfl ?_
          refine V_cI X h (fun r10 q => C_S X [Value.int (r8 &&& (gF σ 91 9))] mt_Mo_size ms_Mo_size ml_Mo_169 (k_Mo_size fu (sF (sF (sA σ 92 (ix a1) ((gA σ 92 (ix a1)) - r9)) 91 9 (((gF (sA σ 92 (ix a1) ((gA σ 92 (ix a1)) - r9)) 91 9) &&& ((r8 &&& (gF σ 91 9)) ^^^ (-1 : Int32))) ||| ((1 : Int32) <<< (a0 &&& 31)))) 91 10 ((gF (sF (sA σ 92 (ix a1) ((gA σ 92 (ix a1)) - r9)) 91 9 (((gF (sA σ 92 (ix a1) ((gA σ 92 (ix a1)) - r9)) 91 9) &&& ((r8 &&& (gF σ 91 9)) ^^^ (-1 : Int32))) ||| ((1 : Int32) <<< (a0 &&& 31)))) 91 10) + (1 : Int32))) (r8 &&& (gF σ 91 9)) r10 q) rfl rfl (by omega) (Nat.le_of_ble_eq_true rfl) d_Mo_right_96) (fun r10 h => ?_)
          have h9 := wp_some h
          exact hQ _ _ h9 (fun h9 => absurd h9 (by decide)) _ _ d_Mo_right_99
        · skip
          refine V_bipush (v := -104) X d_Mo_right_41 (by decide) ?_
          have h9 := wp_some h
          exact hQ _ _ h9 (fun h9 => absurd h9 (by decide)) _ _ d_Mo_right_43
      · skip
        refine V_bipush (v := -103) X d_Mo_right_28 (by decide) ?_
        have h9 := wp_some h
        exact hQ _ _ h9 (fun h9 => absurd h9 (by decide)) _ _ d_Mo_right_30
    · skip
      refine V_bipush (v := -101) X d_Mo_right_16 (by decide) ?_
      have h9 := wp_some h
      exact hQ _ _ h9 (fun h9 => absurd h9 (by decide)) _ _ d_Mo_right_18
set_option maxHeartbeats 4000000 in
set_option maxRecDepth 100000 in
theorem k_Mo_see (σ : Sg) (a0 : Int32) (a1 : Int32) (a2 : Int32) (r : Int32) (σ' : Sg) (h : Mo_see σ a0 a1 a2 = some (r, σ')) : Evc y_Mo_see prog_13_method_47_code 4 (some .int) 3 (fun ad => [Value.ref (ad 91), Value.int a0, Value.int a1, Value.int a2]) σ σ' (fun _ => some (.int r)) := by
  refine Evc_ofI (by decide) (fun ad => Nat.le_of_ble_eq_true rfl) (fun p l e R s m args below meth c D ad cI cB A Q X hQ => ?_)
  have X : Cx p R s m args meth c jR10 prog_13_method_47_code 4 3 D ad cI cB A 0 0 := X
  have h : wpO (Mo_see σ a0 a1 a2) (fun q => q = (r, σ')) := ⟨_, h, rfl⟩
  rw [Mo_see] at h
  refine V_sub (lv' := [(0, Value.ref (ad 91)), (1, Value.int a0), (2, Value.int a1), (3, Value.int a2)]) [0, 1, 2, 3] rfl ?_
  refine V_aload_n X 0 d_Mo_see_0 rfl ?_
  refine V_iload_n X 1 d_Mo_see_1 rfl ?_
  refine V_cI X h (fun r1 q => C_V (q := 10) X [Value.int a0] mt_Mo_isCase ms_Mo_isCase ml_Mo_178 (k_Mo_isCase σ a0 r1 q) rfl rfl (by omega) (Nat.le_of_ble_eq_true rfl) rfl (by decide) (by decide) (by decide) d_Mo_see_2) (fun r1 h => ?_)
  refine V_if_ne X 11 d_Mo_see_5 (by decide) h (fun c2 h => ?_) (fun c2 h => ?_)
  · skip
    refine V_iload_n X 2 d_Mo_see_11 rfl ?_
    refine V_iconst (v := 1) X d_Mo_see_12 (by decide) ?_
    refine V_bipush (v := 18) X d_Mo_see_13 (by decide) ?_
    refine V_cI X h (fun r3 q => C_S X [Value.int a1, Value.int (1 : Int32), Value.int (18 : Int32)] mt_Mo_within ms_Mo_within ml_Mo_83 (k_Mo_within σ a1 (1 : Int32) (18 : Int32) r3 q) rfl rfl (by omega) (Nat.le_of_ble_eq_true rfl) d_Mo_see_15) (fun r3 h => ?_)
    refine V_if_ne X 24 d_Mo_see_18 (by decide) h (fun c4 h => ?_) (fun c4 h => ?_)
    · skip
      refine V_aload_n X 0 d_Mo_see_24 rfl ?_
      refine V_getI X 10 13 rfl ji10 (by decide) (by decide) (by decide) fl_Mo_139 d_Mo_see_25 (by decide) (by decide) (by decide) ?_
      refine V_bipush (v := 8) X d_Mo_see_28 (by decide) ?_
      refine V_icmp_ne X 36 d_Mo_see_30 (by decide) h (fun c5 h => ?_) (fun c5 h => ?_)
      · skip
        refine V_aload_n X 0 d_Mo_see_36 rfl ?_
        refine V_getR X 10 14 98 rfl ji10 (by decide) (by decide) (by decide) fl_Mo_28 d_Mo_see_37 (by decide) (by decide) (by decide) (by decide) ?_
        refine V_aload_n X 0 d_Mo_see_40 rfl ?_
        refine V_getI X 10 13 rfl ji10 (by decide) (by decide) (by decide) fl_Mo_139 d_Mo_see_41 (by decide) (by decide) (by decide) ?_
        refine V_iload_n X 1 d_Mo_see_44 rfl ?_
        refine V_iast X d_Mo_see_45 (by decide) (by decide) rfl h (fun h => ?_)
        refine V_aload_n X 0 d_Mo_see_46 rfl ?_
        refine V_getR X 10 15 99 rfl ji10 (by decide) (by decide) (by decide) fl_Mo_31 d_Mo_see_47 (by decide) (by decide) (by decide) (by decide) ?_
        refine V_aload_n X 0 d_Mo_see_50 rfl ?_
        refine V_getI X 10 13 rfl ji10 (by decide) (by decide) (by decide) fl_Mo_139 d_Mo_see_51 (by decide) (by decide) (by decide) ?_
        refine V_iload_n X 2 d_Mo_see_54 rfl ?_
        refine V_iast X d_Mo_see_55 (by decide) (by decide) rfl h (fun h => ?_)
        refine V_aload_n X 0 d_Mo_see_56 rfl ?_
        refine V_getR X 10 16 100 rfl ji10 (by decide) (by decide) (by decide) fl_Mo_34 d_Mo_see_57 (by decide) (by decide) (by decide) (by decide) ?_
        refine V_aload_n X 0 d_Mo_see_60 rfl ?_
        refine V_getI X 10 13 rfl ji10 (by decide) (by decide) (by decide) fl_Mo_139 d_Mo_see_61 (by decide) (by decide) (by decide) ?_
        refine V_iload_n X 3 d_Mo_see_64 rfl ?_
        refine V_if_eq X 72 d_Mo_see_65 (by decide) h (fun c6 h => ?_) (fun c6 h => ?_)
        · skip
          refine V_iconst (v := 0) X d_Mo_see_72 (by decide) ?_
          refine V_iast X d_Mo_see_73 (by decide) (by decide) rfl h (fun h => ?_)
          refine V_aload_n X 0 d_Mo_see_74 rfl ?_
          refine V_dup X d_Mo_see_75 rfl ?_
          refine V_getI X 10 13 rfl ji10 (by decide) (by decide) (by decide) fl_Mo_139 d_Mo_see_76 (by decide) (by decide) (by decide) ?_
          refine V_iconst (v := 1) X d_Mo_see_79 (by decide) ?_
          refine V_iadd X d_Mo_see_80 ?_
          refine V_putI X 10 13 rfl ji10 jk10 jn10 (by decide) (by decide) (by decide) rfl (by decide +kernel) fl_Mo_139 d_Mo_see_81 (by decide) (by decide) (by decide) ?_
          refine V_aload_n X 0 d_Mo_see_84 rfl ?_
          refine V_getI X 10 13 rfl ji10 (by decide) (by decide) (by decide) fl_Mo_139 d_Mo_see_85 (by decide) (by decide) (by decide) ?_
          have h9 := wp_some h
          exact hQ _ _ h9 (fun h9 => absurd h9 (by decide)) _ _ d_Mo_see_88
        · skip
          refine V_iconst (v := 1) X d_Mo_see_68 (by decide) ?_
          refine V_goto X 73 d_Mo_see_69 (by decide) ?_
          refine V_iast X d_Mo_see_73 (by decide) (by decide) rfl h (fun h => ?_)
          refine V_aload_n X 0 d_Mo_see_74 rfl ?_
          refine V_dup X d_Mo_see_75 rfl ?_
          refine V_getI X 10 13 rfl ji10 (by decide) (by decide) (by decide) fl_Mo_139 d_Mo_see_76 (by decide) (by decide) (by decide) ?_
          refine V_iconst (v := 1) X d_Mo_see_79 (by decide) ?_
          refine V_iadd X d_Mo_see_80 ?_
          refine V_putI X 10 13 rfl ji10 jk10 jn10 (by decide) (by decide) (by decide) rfl (by decide +kernel) fl_Mo_139 d_Mo_see_81 (by decide) (by decide) (by decide) ?_
          refine V_aload_n X 0 d_Mo_see_84 rfl ?_
          refine V_getI X 10 13 rfl ji10 (by decide) (by decide) (by decide) fl_Mo_139 d_Mo_see_85 (by decide) (by decide) (by decide) ?_
          have h9 := wp_some h
          exact hQ _ _ h9 (fun h9 => absurd h9 (by decide)) _ _ d_Mo_see_88
      · skip
        refine V_bipush (v := -104) X d_Mo_see_33 (by decide) ?_
        have h9 := wp_some h
        exact hQ _ _ h9 (fun h9 => absurd h9 (by decide)) _ _ d_Mo_see_35
    · skip
      refine V_bipush (v := -102) X d_Mo_see_21 (by decide) ?_
      have h9 := wp_some h
      exact hQ _ _ h9 (fun h9 => absurd h9 (by decide)) _ _ d_Mo_see_23
  · skip
    refine V_bipush (v := -101) X d_Mo_see_8 (by decide) ?_
    have h9 := wp_some h
    exact hQ _ _ h9 (fun h9 => absurd h9 (by decide)) _ _ d_Mo_see_10
