set_option maxHeartbeats 4000000 in
set_option maxRecDepth 100000 in
theorem Mo_canBe_L15_ok {p : Program} {l : Launch} {e : Env} {R : Room} {s : State} {m : MethodId} {args : Array Value} {below : List Frame} {meth : Method} {c : Code} {D : va_G} {ad : Nat → Nat} {cI cB : ClassId} {A : Nat → Prop} {cells slots : Nat} {Q : State → Prop} (X : Cx p R s m args meth c jR10 prog_13_method_36_code 3 3 D ad cI cB A cells slots) (fu : Nat) (kont : (Int32 → Sg → Option (Int32 × Sg))) {K : (Int32 × Sg) → Prop} (hQ : RI p l e R s m args below meth c 3 D ad cI cB A cells slots Q prog_13_method_36_code true K) (hk : ∀ (l1 : Int32) (σ : Sg), wpO (kont l1 σ) K → V p l e R s m args below meth c 3 D A cells slots Q (wl ad cI cB σ) 41 [(0, Value.ref (ad 91)), (1, Value.int l1)] []) : ∀ (n : Nat) (l1 : Int32) (σ : Sg), wpO (Mo_canBe_L15 fu kont n l1 σ) K → V p l e R s m args below meth c 3 D A cells slots Q (wl ad cI cB σ) 15 [(0, Value.ref (ad 91)), (1, Value.int l1)] [] := by
  intro n
  induction n with
  | zero =>
    intro l1 σ h
    exact (wp_none h).elim
  | succ n ih =>
    intro l1 σ h
    rw [Mo_canBe_L15] at h
    refine V_iload_n X 1 d_Mo_canBe_15 rfl ?_
    refine V_aload_n X 0 d_Mo_canBe_16 rfl ?_
    refine V_getI X 10 1 rfl ji10 (by decide) (by decide) (by decide) fl_Mo_121 d_Mo_canBe_17 (by decide) (by decide) (by decide) ?_
    refine V_icmp_ge X 41 d_Mo_canBe_20 (by decide) h (fun c1 h => ?_) (fun c1 h => ?_)
    · skip
      exact hk l1 σ h
    · skip
      refine V_aload_n X 0 d_Mo_canBe_23 rfl ?_
      refine V_getR X 10 24 104 rfl ji10 (by decide) (by decide) (by decide) fl_Mo_47 d_Mo_canBe_24 (by decide) (by decide) (by decide) (by decide) ?_
      refine V_iload_n X 1 d_Mo_canBe_27 rfl ?_
      refine V_aload_n X 0 d_Mo_canBe_28 rfl ?_
      refine V_getR X 10 3 92 rfl ji10 (by decide) (by decide) (by decide) fl_Mo_7 d_Mo_canBe_29 (by decide) (by decide) (by decide) (by decide) ?_
      refine V_iload_n X 1 d_Mo_canBe_32 rfl ?_
      refine V_iald X d_Mo_canBe_33 (by decide) (by decide) rfl h (fun h => ?_)
      refine V_iast X d_Mo_canBe_34 (by decide) (by decide) rfl h (fun h => ?_)
      refine V_iinc X 1 (l1 + (1 : Int32)) [(1, Value.int (l1 + (1 : Int32))), (0, Value.ref (ad 91))] d_Mo_canBe_35 rfl (by first | rfl | decide) (by decide) rfl ?_
      refine V_goto X 15 d_Mo_canBe_38 (by decide) ?_
      refine V_sub (lv' := [(0, Value.ref (ad 91)), (1, Value.int (l1 + (1 : Int32)))]) [1, 0] rfl ?_
      exact ih (l1 + (1 : Int32)) (sA σ 104 (ix l1) (gA σ 92 (ix l1))) h
set_option maxHeartbeats 4000000 in
set_option maxRecDepth 100000 in
theorem Mo_canBe_L43_ok {p : Program} {l : Launch} {e : Env} {R : Room} {s : State} {m : MethodId} {args : Array Value} {below : List Frame} {meth : Method} {c : Code} {D : va_G} {ad : Nat → Nat} {cI cB : ClassId} {A : Nat → Prop} {cells slots : Nat} {Q : State → Prop} (X : Cx p R s m args meth c jR10 prog_13_method_36_code 3 3 D ad cI cB A cells slots) (fu : Nat) (kont : (Int32 → Sg → Option (Int32 × Sg))) {K : (Int32 × Sg) → Prop} (hQ : RI p l e R s m args below meth c 3 D ad cI cB A cells slots Q prog_13_method_36_code true K) (hk : ∀ (l1 : Int32) (σ : Sg), wpO (kont l1 σ) K → V p l e R s m args below meth c 3 D A cells slots Q (wl ad cI cB σ) 146 [(0, Value.ref (ad 91)), (1, Value.int l1)] []) : ∀ (n : Nat) (l1 : Int32) (σ : Sg), wpO (Mo_canBe_L43 fu kont n l1 σ) K → V p l e R s m args below meth c 3 D A cells slots Q (wl ad cI cB σ) 43 [(0, Value.ref (ad 91)), (1, Value.int l1)] [] := by
  intro n
  induction n with
  | zero =>
    intro l1 σ h
    exact (wp_none h).elim
  | succ n ih =>
    intro l1 σ h
    rw [Mo_canBe_L43] at h
    refine V_iload_n X 1 d_Mo_canBe_43 rfl ?_
    refine V_aload_n X 0 d_Mo_canBe_44 rfl ?_
    refine V_getI X 10 2 rfl ji10 (by decide) (by decide) (by decide) fl_Mo_124 d_Mo_canBe_45 (by decide) (by decide) (by decide) ?_
    refine V_icmp_ge X 146 d_Mo_canBe_48 (by decide) h (fun c4 h => ?_) (fun c4 h => ?_)
    · skip
      exact hk l1 σ h
    · skip
      refine V_aload_n X 0 d_Mo_canBe_51 rfl ?_
      refine V_getR X 10 22 102 rfl ji10 (by decide) (by decide) (by decide) fl_Mo_41 d_Mo_canBe_52 (by decide) (by decide) (by decide) (by decide) ?_
      refine V_iload_n X 1 d_Mo_canBe_55 rfl ?_
      refine V_iald X d_Mo_canBe_56 (by decide) (by decide) rfl h (fun h => ?_)
      refine V_iconst (v := 1) X d_Mo_canBe_57 (by decide) ?_
      refine V_isub X d_Mo_canBe_58 ?_
      refine V_istore_n X [(2, Value.int ((gA σ 102 (ix l1)) - (1 : Int32))), (0, Value.ref (ad 91)), (1, Value.int l1)] d_Mo_canBe_59 (by decide) rfl ?_
      refine V_iload_n X 0 d_Mo_canBe_60 rfl ?_
      refine V_if_lt X 140 d_Mo_canBe_61 (by decide) h (fun c5 h => ?_) (fun c5 h => ?_)
      · skip
        refine V_iinc X 2 (l1 + (1 : Int32)) [(1, Value.int (l1 + (1 : Int32))), (2, Value.int ((gA σ 102 (ix l1)) - (1 : Int32))), (0, Value.ref (ad 91))] d_Mo_canBe_140 rfl (by first | rfl | decide) (by decide) rfl ?_
        refine V_goto X 43 d_Mo_canBe_143 (by decide) ?_
        refine V_sub (lv' := [(0, Value.ref (ad 91)), (1, Value.int (l1 + (1 : Int32)))]) [2, 0] rfl ?_
        exact ih (l1 + (1 : Int32)) σ h
      · skip
        refine V_aload_n X 1 d_Mo_canBe_64 rfl ?_
        refine V_iload_n X 2 d_Mo_canBe_65 rfl ?_
        refine V_aload_n X 1 d_Mo_canBe_66 rfl ?_
        refine V_getI X 10 25 rfl ji10 (by decide) (by decide) (by decide) fl_Mo_190 d_Mo_canBe_67 (by decide) (by decide) (by decide) ?_
        refine V_cI X h (fun r6 q => C_V (q := 10) X [Value.int l1, Value.int (gF σ 91 25)] mt_Mo_isOpen ms_Mo_isOpen ml_Mo_149 (k_Mo_isOpen σ l1 (gF σ 91 25) r6 q) rfl rfl (by omega) (Nat.le_of_ble_eq_true rfl) rfl (by decide) (by decide) (by decide) d_Mo_canBe_70) (fun r6 h => ?_)
        refine V_if_eq X 90 d_Mo_canBe_73 (by decide) h (fun c7 h => ?_) (fun c7 h => ?_)
        · skip
          refine V_iconst (v := 0) X d_Mo_canBe_90 (by decide) ?_
          have h9 := wp_some h
          exact hQ _ _ h9 (fun _ => by decide) _ _ d_Mo_canBe_91
        · skip
          refine V_aload_n X 1 d_Mo_canBe_76 rfl ?_
          refine V_getR X 10 24 104 rfl ji10 (by decide) (by decide) (by decide) fl_Mo_47 d_Mo_canBe_77 (by decide) (by decide) (by decide) (by decide) ?_
          refine V_iload_n X 0 d_Mo_canBe_80 rfl ?_
          refine V_iald X d_Mo_canBe_81 (by decide) (by decide) rfl h (fun h => ?_)
          refine V_aload_n X 1 d_Mo_canBe_82 rfl ?_
          refine V_iload_n X 2 d_Mo_canBe_83 rfl ?_
          refine V_cI X h (fun r8 q => C_V (q := 10) X [Value.int l1] mt_Mo_cost ms_Mo_cost ml_Mo_152 (k_Mo_cost fu σ l1 r8 q) rfl rfl (by omega) (Nat.le_of_ble_eq_true rfl) rfl (by decide) (by decide) (by decide) d_Mo_canBe_84) (fun r8 h => ?_)
          refine V_icmp_ge X 92 d_Mo_canBe_87 (by decide) h (fun c9 h => ?_) (fun c9 h => ?_)
          · skip
            refine V_aload_n X 1 d_Mo_canBe_92 rfl ?_
            refine V_getR X 10 24 104 rfl ji10 (by decide) (by decide) (by decide) fl_Mo_47 d_Mo_canBe_93 (by decide) (by decide) (by decide) (by decide) ?_
            refine V_iload_n X 0 d_Mo_canBe_96 rfl ?_
            refine V_dup2 X d_Mo_canBe_97 rfl rfl ?_
            refine V_iald X d_Mo_canBe_98 (by decide) (by decide) rfl h (fun h => ?_)
            refine V_aload_n X 1 d_Mo_canBe_99 rfl ?_
            refine V_iload_n X 2 d_Mo_canBe_100 rfl ?_
            refine V_cI X h (fun r10 q => C_V (q := 10) X [Value.int l1] mt_Mo_cost ms_Mo_cost ml_Mo_152 (k_Mo_cost fu σ l1 r10 q) rfl rfl (by omega) (Nat.le_of_ble_eq_true rfl) rfl (by decide) (by decide) (by decide) d_Mo_canBe_101) (fun r10 h => ?_)
            refine V_isub X d_Mo_canBe_104 ?_
            refine V_iast X d_Mo_canBe_105 (by decide) (by decide) rfl h (fun h => ?_)
            refine V_aload_n X 1 d_Mo_canBe_106 rfl ?_
            refine V_dup X d_Mo_canBe_107 rfl ?_
            refine V_getI X 10 26 rfl ji10 (by decide) (by decide) (by decide) fl_Mo_193 d_Mo_canBe_108 (by decide) (by decide) (by decide) ?_
            refine V_aload_n X 1 d_Mo_canBe_111 rfl ?_
            refine V_iload_n X 2 d_Mo_canBe_112 rfl ?_
            refine V_cI X h (fun r11 q => C_V (q := 10) X [Value.int l1] mt_Mo_cost ms_Mo_cost ml_Mo_152 (k_Mo_cost fu (sA σ 104 (ix ((gA σ 102 (ix l1)) - (1 : Int32))) ((gA σ 104 (ix ((gA σ 102 (ix l1)) - (1 : Int32)))) - r10)) l1 r11 q) rfl rfl (by omega) (Nat.le_of_ble_eq_true rfl) rfl (by decide) (by decide) (by decide) d_Mo_canBe_113) (fun r11 h => ?_)
            refine V_iadd X d_Mo_canBe_116 ?_
            refine V_putI X 10 26 rfl ji10 jk10 jn10 (by decide) (by decide) (by decide) rfl (by decide +kernel) fl_Mo_193 d_Mo_canBe_117 (by decide) (by decide) (by decide) ?_
            refine V_aload_n X 1 d_Mo_canBe_120 rfl ?_
            refine V_aload_n X 1 d_Mo_canBe_121 rfl ?_
            refine V_getI X 10 25 rfl ji10 (by decide) (by decide) (by decide) fl_Mo_190 d_Mo_canBe_122 (by decide) (by decide) (by decide) ?_
            refine V_aload_n X 1 d_Mo_canBe_125 rfl ?_
            refine V_iload_n X 2 d_Mo_canBe_126 rfl ?_
            refine V_cI X h (fun r12 q => C_V (q := 10) X [Value.int l1] mt_Mo_allOn ms_Mo_allOn ml_Mo_166 (k_Mo_allOn fu (sF (sA σ 104 (ix ((gA σ 102 (ix l1)) - (1 : Int32))) ((gA σ 104 (ix ((gA σ 102 (ix l1)) - (1 : Int32)))) - r10)) 91 26 ((gF (sA σ 104 (ix ((gA σ 102 (ix l1)) - (1 : Int32))) ((gA σ 104 (ix ((gA σ 102 (ix l1)) - (1 : Int32)))) - r10)) 91 26) + r11)) l1 r12 q) rfl rfl (by omega) (Nat.le_of_ble_eq_true rfl) rfl (by decide) (by decide) (by decide) d_Mo_canBe_127) (fun r12 h => ?_)
            refine V_iconst (v := -1) X d_Mo_canBe_130 (by decide) ?_
            refine V_ixor X d_Mo_canBe_131 ?_
            refine V_iand X d_Mo_canBe_132 ?_
            refine V_iconst (v := 1) X d_Mo_canBe_133 (by decide) ?_
            refine V_iload_n X 2 d_Mo_canBe_134 rfl ?_
            refine V_ishl X d_Mo_canBe_135 ?_
            refine V_ior X d_Mo_canBe_136 ?_
            refine V_putI X 10 25 rfl ji10 jk10 jn10 (by decide) (by decide) (by decide) rfl (by decide +kernel) fl_Mo_190 d_Mo_canBe_137 (by decide) (by decide) (by decide) ?_
            refine V_iinc X 2 (l1 + (1 : Int32)) [(1, Value.int (l1 + (1 : Int32))), (2, Value.int ((gA σ 102 (ix l1)) - (1 : Int32))), (0, Value.ref (ad 91))] d_Mo_canBe_140 rfl (by first | rfl | decide) (by decide) rfl ?_
            refine V_goto X 43 d_Mo_canBe_143 (by decide) ?_
            refine V_sub (lv' := [(0, Value.ref (ad 91)), (1, Value.int (l1 + (1 : Int32)))]) [2, 0] rfl ?_
            exact ih (l1 + (1 : Int32)) (sF (sF (sA σ 104 (ix ((gA σ 102 (ix l1)) - (1 : Int32))) ((gA σ 104 (ix ((gA σ 102 (ix l1)) - (1 : Int32)))) - r10)) 91 26 ((gF (sA σ 104 (ix ((gA σ 102 (ix l1)) - (1 : Int32))) ((gA σ 104 (ix ((gA σ 102 (ix l1)) - (1 : Int32)))) - r10)) 91 26) + r11)) 91 25 (((gF (sF (sA σ 104 (ix ((gA σ 102 (ix l1)) - (1 : Int32))) ((gA σ 104 (ix ((gA σ 102 (ix l1)) - (1 : Int32)))) - r10)) 91 26 ((gF (sA σ 104 (ix ((gA σ 102 (ix l1)) - (1 : Int32))) ((gA σ 104 (ix ((gA σ 102 (ix l1)) - (1 : Int32)))) - r10)) 91 26) + r11)) 91 25) &&& (r12 ^^^ (-1 : Int32))) ||| ((1 : Int32) <<< (l1 &&& 31)))) h
          · skip
            refine V_iconst (v := 0) X d_Mo_canBe_90 (by decide) ?_
            have h9 := wp_some h
            exact hQ _ _ h9 (fun _ => by decide) _ _ d_Mo_canBe_91
set_option maxHeartbeats 4000000 in
set_option maxRecDepth 100000 in
theorem k_Mo_canBe (fu : Nat) (σ : Sg) (r : Int32) (σ' : Sg) (h : Mo_canBe fu σ = some (r, σ')) : Evc y_Mo_canBe prog_13_method_36_code 3 (some .boolean) 3 (fun ad => [Value.ref (ad 91)]) σ σ' (fun _ => some (.int r)) := by
  refine Evc_ofZ (by decide) (fun ad => Nat.le_of_ble_eq_true rfl) (fun p l e R s m args below meth c D ad cI cB A Q X hQ => ?_)
  have X : Cx p R s m args meth c jR10 prog_13_method_36_code 3 3 D ad cI cB A 0 0 := X
  have h : wpO (Mo_canBe fu σ) (fun q => q = (r, σ')) := ⟨_, h, rfl⟩
  rw [Mo_canBe] at h
  refine V_sub (lv' := [(0, Value.ref (ad 91))]) [0] rfl ?_
  refine V_aload_n X 0 d_Mo_canBe_0 rfl ?_
  refine V_aload_n X 0 d_Mo_canBe_1 rfl ?_
  refine V_getI X 10 9 rfl ji10 (by decide) (by decide) (by decide) fl_Mo_127 d_Mo_canBe_2 (by decide) (by decide) (by decide) ?_
  refine V_putI X 10 25 rfl ji10 jk10 jn10 (by decide) (by decide) (by decide) rfl (by decide +kernel) fl_Mo_190 d_Mo_canBe_5 (by decide) (by decide) (by decide) ?_
  refine V_aload_n X 0 d_Mo_canBe_8 rfl ?_
  refine V_iconst (v := 0) X d_Mo_canBe_9 (by decide) ?_
  refine V_putI X 10 26 rfl ji10 jk10 jn10 (by decide) (by decide) (by decide) rfl (by decide +kernel) fl_Mo_193 d_Mo_canBe_10 (by decide) (by decide) (by decide) ?_
  refine V_iconst (v := 0) X d_Mo_canBe_13 (by decide) ?_
  refine V_istore_n X [(1, Value.int (0 : Int32)), (0, Value.ref (ad 91))] d_Mo_canBe_14 (by decide) rfl ?_
  refine V_sub (lv' := [(0, Value.ref (ad 91)), (1, Value.int (0 : Int32))]) [1, 0] rfl ?_
  refine Mo_canBe_L15_ok X fu _ hQ (fun l1_2 s3 h => ?_) fu (0 : Int32) (sF (sF σ 91 25 (gF σ 91 9)) 91 26 (0 : Int32)) h
  refine V_iconst (v := 0) X d_Mo_canBe_41 (by decide) ?_
  refine V_istore_n X [(1, Value.int (0 : Int32)), (0, Value.ref (ad 91))] d_Mo_canBe_42 (by decide) rfl ?_
  refine V_sub (lv' := [(0, Value.ref (ad 91)), (1, Value.int (0 : Int32))]) [1, 0] rfl ?_
  refine Mo_canBe_L43_ok X fu _ hQ (fun l1_13 s14 h => ?_) fu (0 : Int32) s3 h
  refine V_iconst (v := 1) X d_Mo_canBe_146 (by decide) ?_
  have h9 := wp_some h
  exact hQ _ _ h9 (fun _ => by decide) _ _ d_Mo_canBe_147
set_option maxHeartbeats 4000000 in
set_option maxRecDepth 100000 in
theorem k_Mo_draw (σ : Sg) (a0 : Int32) (r : Int32) (σ' : Sg) (h : Mo_draw σ a0 = some (r, σ')) : Evc y_Mo_draw prog_13_method_52_code 2 (some .int) 1 (fun ad => [Value.ref (ad 91), Value.int a0]) σ σ' (fun _ => some (.int r)) := by
  refine Evc_ofI (by decide) (fun ad => Nat.le_of_ble_eq_true rfl) (fun p l e R s m args below meth c D ad cI cB A Q X hQ => ?_)
  have X : Cx p R s m args meth c jR10 prog_13_method_52_code 2 1 D ad cI cB A 0 0 := X
  have h : wpO (Mo_draw σ a0) (fun q => q = (r, σ')) := ⟨_, h, rfl⟩
  rw [Mo_draw] at h
  refine V_sub (lv' := [(0, Value.ref (ad 91)), (1, Value.int a0)]) [0, 1] rfl ?_
  refine V_aload_n X 0 d_Mo_draw_0 rfl ?_
  refine V_ldc2 X d_Mo_draw_1 kl_Mo_232 ?_
  refine V_aload_n X 0 d_Mo_draw_4 rfl ?_
  refine V_getL X 10 30 rfl ji10 (by decide) (by decide) (by decide) fl_Mo_234 d_Mo_draw_5 (by decide) (by decide) (by decide) ?_
  refine V_lmul X d_Mo_draw_8 ?_
  refine V_ldc2 X d_Mo_draw_9 kl_Mo_238 ?_
  refine V_ladd X d_Mo_draw_12 ?_
  refine V_ldc2 X d_Mo_draw_13 kl_Mo_240 ?_
  refine V_land X d_Mo_draw_16 ?_
  refine V_putL X 10 30 rfl ji10 jk10 jn10 (by decide) (by decide) (by decide) rfl (by decide +kernel) fl_Mo_234 d_Mo_draw_17 (by decide) (by decide) (by decide) ?_
  refine V_aload_n X 0 d_Mo_draw_20 rfl ?_
  refine V_getL X 10 30 rfl ji10 (by decide) (by decide) (by decide) fl_Mo_234 d_Mo_draw_21 (by decide) (by decide) (by decide) ?_
  refine V_ldc2 X d_Mo_draw_24 kl_Mo_242 ?_
  refine V_ldiv X d_Mo_draw_27 (by decide) ?_
  refine V_iload_n X 1 d_Mo_draw_28 rfl ?_
  refine V_i2l X d_Mo_draw_29 ?_
  obtain ⟨hz, h⟩ := wp_nz h
  refine V_lrem X d_Mo_draw_30 hz ?_
  refine V_l2i X d_Mo_draw_31 ?_
  have h9 := wp_some h
  exact hQ _ _ h9 (fun h9 => absurd h9 (by decide)) _ _ d_Mo_draw_32
set_option maxHeartbeats 4000000 in
set_option maxRecDepth 100000 in
theorem k_Mo_mayRight (fu : Nat) (σ : Sg) (a0 : Int32) (a1 : Int32) (r : Int32) (h : Mo_mayRight fu σ a0 a1 = some r) : Evc y_Mo_mayRight prog_13_method_23_code 3 (some .boolean) 3 (fun ad => [Value.ref (ad 91), Value.int a0, Value.int a1]) σ σ (fun _ => some (.int r)) := by
  refine Evc_ofZ (by decide) (fun ad => Nat.le_of_ble_eq_true rfl) (fun p l e R s m args below meth c D ad cI cB A Q X hQ => ?_)
  have X : Cx p R s m args meth c jR10 prog_13_method_23_code 3 3 D ad cI cB A 0 0 := X
  have hQ := hQ.pure
  have h : wpO (Mo_mayRight fu σ a0 a1) (fun q => q = r) := ⟨_, h, rfl⟩
  rw [Mo_mayRight] at h
  refine V_sub (lv' := [(0, Value.ref (ad 91)), (1, Value.int a0), (2, Value.int a1)]) [0, 1, 2] rfl ?_
  refine V_aload_n X 0 d_Mo_mayRight_0 rfl ?_
  refine V_iload_n X 1 d_Mo_mayRight_1 rfl ?_
  refine V_aload_n X 0 d_Mo_mayRight_2 rfl ?_
  refine V_getI X 10 9 rfl ji10 (by decide) (by decide) (by decide) fl_Mo_127 d_Mo_mayRight_3 (by decide) (by decide) (by decide) ?_
  refine V_cI X h (fun r1 q => C_V (q := 10) X [Value.int a0, Value.int (gF σ 91 9)] mt_Mo_isOpen ms_Mo_isOpen ml_Mo_149 (k_Mo_isOpen σ a0 (gF σ 91 9) r1 q) rfl rfl (by omega) (Nat.le_of_ble_eq_true rfl) rfl (by decide) (by decide) (by decide) d_Mo_mayRight_6) (fun r1 h => ?_)
  refine V_if_eq X 30 d_Mo_mayRight_9 (by decide) h (fun c2 h => ?_) (fun c2 h => ?_)
  · skip
    refine V_iconst (v := 0) X d_Mo_mayRight_30 (by decide) ?_
    have h9 := wp_some h
    exact hQ _ h9 (fun _ => by decide) _ _ d_Mo_mayRight_31
  · skip
    refine V_aload_n X 0 d_Mo_mayRight_12 rfl ?_
    refine V_getR X 10 3 92 rfl ji10 (by decide) (by decide) (by decide) fl_Mo_7 d_Mo_mayRight_13 (by decide) (by decide) (by decide) (by decide) ?_
    refine V_iload_n X 2 d_Mo_mayRight_16 rfl ?_
    refine V_iald X d_Mo_mayRight_17 (by decide) (by decide) rfl h (fun h => ?_)
    refine V_aload_n X 0 d_Mo_mayRight_18 rfl ?_
    refine V_iload_n X 1 d_Mo_mayRight_19 rfl ?_
    refine V_cI X h (fun r3 q => C_V (q := 10) X [Value.int a0] mt_Mo_cost ms_Mo_cost ml_Mo_152 (k_Mo_cost fu σ a0 r3 q) rfl rfl (by omega) (Nat.le_of_ble_eq_true rfl) rfl (by decide) (by decide) (by decide) d_Mo_mayRight_20) (fun r3 h => ?_)
    refine V_icmp_lt X 30 d_Mo_mayRight_23 (by decide) h (fun c4 h => ?_) (fun c4 h => ?_)
    · skip
      refine V_iconst (v := 0) X d_Mo_mayRight_30 (by decide) ?_
      have h9 := wp_some h
      exact hQ _ h9 (fun _ => by decide) _ _ d_Mo_mayRight_31
    · skip
      refine V_iconst (v := 1) X d_Mo_mayRight_26 (by decide) ?_
      refine V_goto X 31 d_Mo_mayRight_27 (by decide) ?_
      have h9 := wp_some h
      exact hQ _ h9 (fun _ => by decide) _ _ d_Mo_mayRight_31
set_option maxHeartbeats 4000000 in
set_option maxRecDepth 100000 in
theorem Mo_goYear_L2_ok {p : Program} {l : Launch} {e : Env} {R : Room} {s : State} {m : MethodId} {args : Array Value} {below : List Frame} {meth : Method} {c : Code} {D : va_G} {ad : Nat → Nat} {cI cB : ClassId} {A : Nat → Prop} {cells slots : Nat} {Q : State → Prop} (X : Cx p R s m args meth c jR10 prog_13_method_31_code 3 1 D ad cI cB A cells slots) (fu : Nat) (kont : (Int32 → Sg → Option Sg)) {K : Sg → Prop} (hQ : RV p l e R s m args below meth c 3 D ad cI cB A cells slots Q prog_13_method_31_code K) (hk : ∀ (l1 : Int32) (σ : Sg), wpO (kont l1 σ) K → V p l e R s m args below meth c 3 D A cells slots Q (wl ad cI cB σ) 48 [(0, Value.ref (ad 91)), (1, Value.int l1)] []) : ∀ (n : Nat) (l1 : Int32) (σ : Sg), wpO (Mo_goYear_L2 fu kont n l1 σ) K → V p l e R s m args below meth c 3 D A cells slots Q (wl ad cI cB σ) 2 [(0, Value.ref (ad 91)), (1, Value.int l1)] [] := by
  intro n
  induction n with
  | zero =>
    intro l1 σ h
    exact (wp_none h).elim
  | succ n ih =>
    intro l1 σ h
    rw [Mo_goYear_L2] at h
    refine V_iload_n X 1 d_Mo_goYear_2 rfl ?_
    refine V_aload_n X 0 d_Mo_goYear_3 rfl ?_
    refine V_getI X 10 1 rfl ji10 (by decide) (by decide) (by decide) fl_Mo_121 d_Mo_goYear_4 (by decide) (by decide) (by decide) ?_
    refine V_icmp_ge X 48 d_Mo_goYear_7 (by decide) h (fun c1 h => ?_) (fun c1 h => ?_)
    · skip
      exact hk l1 σ h
    · skip
      refine V_aload_n X 0 d_Mo_goYear_10 rfl ?_
      refine V_getR X 10 3 92 rfl ji10 (by decide) (by decide) (by decide) fl_Mo_7 d_Mo_goYear_11 (by decide) (by decide) (by decide) (by decide) ?_
      refine V_iload_n X 1 d_Mo_goYear_14 rfl ?_
      refine V_iald X d_Mo_goYear_15 (by decide) (by decide) rfl h (fun h => ?_)
      refine V_aload_n X 0 d_Mo_goYear_16 rfl ?_
      refine V_getR X 10 4 93 rfl ji10 (by decide) (by decide) (by decide) fl_Mo_13 d_Mo_goYear_17 (by decide) (by decide) (by decide) (by decide) ?_
      refine V_iload_n X 1 d_Mo_goYear_20 rfl ?_
      refine V_iald X d_Mo_goYear_21 (by decide) (by decide) rfl h (fun h => ?_)
      refine V_iadd X d_Mo_goYear_22 ?_
      refine V_istore_n X [(2, Value.int ((gA σ 92 (ix l1)) + (gA σ 93 (ix l1)))), (0, Value.ref (ad 91)), (1, Value.int l1)] d_Mo_goYear_23 (by decide) rfl ?_
      refine V_aload_n X 1 d_Mo_goYear_24 rfl ?_
      refine V_getR X 10 3 92 rfl ji10 (by decide) (by decide) (by decide) fl_Mo_7 d_Mo_goYear_25 (by decide) (by decide) (by decide) (by decide) ?_
      refine V_iload_n X 2 d_Mo_goYear_28 rfl ?_
      refine V_iload_n X 0 d_Mo_goYear_29 rfl ?_
      refine V_bipush (v := 20) X d_Mo_goYear_30 (by decide) ?_
      refine V_icmp_le X 40 d_Mo_goYear_32 (by decide) h (fun c2 h => ?_) (fun c2 h => ?_)
      · skip
        refine V_iload_n X 0 d_Mo_goYear_40 rfl ?_
        refine V_iast X d_Mo_goYear_41 (by decide) (by decide) rfl h (fun h => ?_)
        refine V_iinc X 2 (l1 + (1 : Int32)) [(1, Value.int (l1 + (1 : Int32))), (2, Value.int ((gA σ 92 (ix l1)) + (gA σ 93 (ix l1)))), (0, Value.ref (ad 91))] d_Mo_goYear_42 rfl (by first | rfl | decide) (by decide) rfl ?_
        refine V_goto X 2 d_Mo_goYear_45 (by decide) ?_
        refine V_sub (lv' := [(0, Value.ref (ad 91)), (1, Value.int (l1 + (1 : Int32)))]) [2, 0] rfl ?_
        exact ih (l1 + (1 : Int32)) (sA σ 92 (ix l1) ((gA σ 92 (ix l1)) + (gA σ 93 (ix l1)))) h
      · skip
        refine V_bipush (v := 20) X d_Mo_goYear_35 (by decide) ?_
        refine V_goto X 41 d_Mo_goYear_37 (by decide) ?_
        refine V_iast X d_Mo_goYear_41 (by decide) (by decide) rfl h (fun h => ?_)
        refine V_iinc X 2 (l1 + (1 : Int32)) [(1, Value.int (l1 + (1 : Int32))), (2, Value.int ((gA σ 92 (ix l1)) + (gA σ 93 (ix l1)))), (0, Value.ref (ad 91))] d_Mo_goYear_42 rfl (by first | rfl | decide) (by decide) rfl ?_
        refine V_goto X 2 d_Mo_goYear_45 (by decide) ?_
        refine V_sub (lv' := [(0, Value.ref (ad 91)), (1, Value.int (l1 + (1 : Int32)))]) [2, 0] rfl ?_
        exact ih (l1 + (1 : Int32)) (sA σ 92 (ix l1) (20 : Int32)) h
set_option maxHeartbeats 4000000 in
set_option maxRecDepth 100000 in
theorem k_Mo_goYear (fu : Nat) (σ : Sg) (σ' : Sg) (h : Mo_goYear fu σ = some σ') : Evc y_Mo_goYear prog_13_method_31_code 3 (none) 1 (fun ad => [Value.ref (ad 91)]) σ σ' (fun _ => none) := by
  refine Evc_ofV (by decide) (fun ad => Nat.le_of_ble_eq_true rfl) (fun p l e R s m args below meth c D ad cI cB A Q X hQ => ?_)
  have X : Cx p R s m args meth c jR10 prog_13_method_31_code 3 1 D ad cI cB A 0 0 := X
  have h : wpO (Mo_goYear fu σ) (fun q => q = σ') := ⟨_, h, rfl⟩
  rw [Mo_goYear] at h
  refine V_sub (lv' := [(0, Value.ref (ad 91))]) [0] rfl ?_
  refine V_iconst (v := 0) X d_Mo_goYear_0 (by decide) ?_
  refine V_istore_n X [(1, Value.int (0 : Int32)), (0, Value.ref (ad 91))] d_Mo_goYear_1 (by decide) rfl ?_
  refine V_sub (lv' := [(0, Value.ref (ad 91)), (1, Value.int (0 : Int32))]) [1, 0] rfl ?_
  refine Mo_goYear_L2_ok X fu _ hQ (fun l1_3 s4 h => ?_) fu (0 : Int32) σ h
  have h9 := wp_some h
  exact hQ _ h9 _ _ d_Mo_goYear_48
set_option maxHeartbeats 4000000 in
set_option maxRecDepth 100000 in
theorem Mo_worthIn_L4_ok {p : Program} {l : Launch} {e : Env} {R : Room} {s : State} {m : MethodId} {args : Array Value} {below : List Frame} {meth : Method} {c : Code} {D : va_G} {ad : Nat → Nat} {cI cB : ClassId} {A : Nat → Prop} {cells slots : Nat} {Q : State → Prop} (X : Cx p R s m args meth c jR10 prog_13_method_24_code 4 2 D ad cI cB A cells slots) (fu : Nat) (l1 : Int32) (σ : Sg) (kont : (Int32 → Int32 → Option Int32)) {K : Int32 → Prop} (hQ : RP p l e R s m args below meth c 4 D ad cI cB A cells slots Q prog_13_method_24_code false σ K) (hk : ∀ (l2 : Int32) (l3 : Int32), wpO (kont l2 l3) K → V p l e R s m args below meth c 4 D A cells slots Q (wl ad cI cB σ) 39 [(0, Value.ref (ad 91)), (1, Value.int l1), (2, Value.int l2), (3, Value.int l3)] []) : ∀ (n : Nat) (l2 : Int32) (l3 : Int32), wpO (Mo_worthIn_L4 fu l1 σ kont n l2 l3) K → V p l e R s m args below meth c 4 D A cells slots Q (wl ad cI cB σ) 4 [(0, Value.ref (ad 91)), (1, Value.int l1), (2, Value.int l2), (3, Value.int l3)] [] := by
  intro n
  induction n with
  | zero =>
    intro l2 l3 h
    exact (wp_none h).elim
  | succ n ih =>
    intro l2 l3 h
    rw [Mo_worthIn_L4] at h
    refine V_iload_n X 3 d_Mo_worthIn_4 rfl ?_
    refine V_aload_n X 0 d_Mo_worthIn_5 rfl ?_
    refine V_getI X 10 2 rfl ji10 (by decide) (by decide) (by decide) fl_Mo_124 d_Mo_worthIn_6 (by decide) (by decide) (by decide) ?_
    refine V_icmp_ge X 39 d_Mo_worthIn_9 (by decide) h (fun c1 h => ?_) (fun c1 h => ?_)
    · skip
      exact hk l2 l3 h
    · skip
      refine V_iload_n X 2 d_Mo_worthIn_12 rfl ?_
      refine V_iload_n X 1 d_Mo_worthIn_13 rfl ?_
      refine V_iload_n X 3 d_Mo_worthIn_14 rfl ?_
      refine V_cI X h (fun r2 q => C_S X [Value.int l1, Value.int l3] mt_Mo_isIn ms_Mo_isIn ml_Mo_142 (k_Mo_isIn σ l1 l3 r2 q) rfl rfl (by omega) (Nat.le_of_ble_eq_true rfl) d_Mo_worthIn_15) (fun r2 h => ?_)
      refine V_if_eq X 30 d_Mo_worthIn_18 (by decide) h (fun c3 h => ?_) (fun c3 h => ?_)
      · skip
        refine V_iconst (v := 0) X d_Mo_worthIn_30 (by decide) ?_
        refine V_iadd X d_Mo_worthIn_31 ?_
        refine V_istore_n X [(2, Value.int (l2 + (0 : Int32))), (0, Value.ref (ad 91)), (1, Value.int l1), (3, Value.int l3)] d_Mo_worthIn_32 (by decide) rfl ?_
        refine V_iinc X 3 (l3 + (1 : Int32)) [(3, Value.int (l3 + (1 : Int32))), (2, Value.int (l2 + (0 : Int32))), (0, Value.ref (ad 91)), (1, Value.int l1)] d_Mo_worthIn_33 rfl (by first | rfl | decide) (by decide) rfl ?_
        refine V_goto X 4 d_Mo_worthIn_36 (by decide) ?_
        refine V_sub (lv' := [(0, Value.ref (ad 91)), (1, Value.int l1), (2, Value.int (l2 + (0 : Int32))), (3, Value.int (l3 + (1 : Int32)))]) [2, 3, 1, 0] rfl ?_
        exact ih (l2 + (0 : Int32)) (l3 + (1 : Int32)) h
      · skip
        refine V_aload_n X 0 d_Mo_worthIn_21 rfl ?_
        refine V_getR X 10 7 96 rfl ji10 (by decide) (by decide) (by decide) fl_Mo_22 d_Mo_worthIn_22 (by decide) (by decide) (by decide) (by decide) ?_
        refine V_iload_n X 3 d_Mo_worthIn_25 rfl ?_
        refine V_iald X d_Mo_worthIn_26 (by decide) (by decide) rfl h (fun h => ?_)
        refine V_goto X 31 d_Mo_worthIn_27 (by decide) ?_
        refine V_iadd X d_Mo_worthIn_31 ?_
        refine V_istore_n X [(2, Value.int (l2 + (gA σ 96 (ix l3)))), (0, Value.ref (ad 91)), (1, Value.int l1), (3, Value.int l3)] d_Mo_worthIn_32 (by decide) rfl ?_
        refine V_iinc X 3 (l3 + (1 : Int32)) [(3, Value.int (l3 + (1 : Int32))), (2, Value.int (l2 + (gA σ 96 (ix l3)))), (0, Value.ref (ad 91)), (1, Value.int l1)] d_Mo_worthIn_33 rfl (by first | rfl | decide) (by decide) rfl ?_
        refine V_goto X 4 d_Mo_worthIn_36 (by decide) ?_
        refine V_sub (lv' := [(0, Value.ref (ad 91)), (1, Value.int l1), (2, Value.int (l2 + (gA σ 96 (ix l3)))), (3, Value.int (l3 + (1 : Int32)))]) [2, 3, 1, 0] rfl ?_
        exact ih (l2 + (gA σ 96 (ix l3))) (l3 + (1 : Int32)) h
set_option maxHeartbeats 4000000 in
set_option maxRecDepth 100000 in
theorem k_Mo_worthIn (fu : Nat) (σ : Sg) (a0 : Int32) (r : Int32) (h : Mo_worthIn fu σ a0 = some r) : Evc y_Mo_worthIn prog_13_method_24_code 4 (some .int) 2 (fun ad => [Value.ref (ad 91), Value.int a0]) σ σ (fun _ => some (.int r)) := by
  refine Evc_ofI (by decide) (fun ad => Nat.le_of_ble_eq_true rfl) (fun p l e R s m args below meth c D ad cI cB A Q X hQ => ?_)
  have X : Cx p R s m args meth c jR10 prog_13_method_24_code 4 2 D ad cI cB A 0 0 := X
  have hQ := hQ.pure
  have h : wpO (Mo_worthIn fu σ a0) (fun q => q = r) := ⟨_, h, rfl⟩
  rw [Mo_worthIn] at h
  refine V_sub (lv' := [(0, Value.ref (ad 91)), (1, Value.int a0)]) [0, 1] rfl ?_
  refine V_iconst (v := 0) X d_Mo_worthIn_0 (by decide) ?_
  refine V_istore_n X [(2, Value.int (0 : Int32)), (0, Value.ref (ad 91)), (1, Value.int a0)] d_Mo_worthIn_1 (by decide) rfl ?_
  refine V_iconst (v := 0) X d_Mo_worthIn_2 (by decide) ?_
  refine V_istore_n X [(3, Value.int (0 : Int32)), (2, Value.int (0 : Int32)), (0, Value.ref (ad 91)), (1, Value.int a0)] d_Mo_worthIn_3 (by decide) rfl ?_
  refine V_sub (lv' := [(0, Value.ref (ad 91)), (1, Value.int a0), (2, Value.int (0 : Int32)), (3, Value.int (0 : Int32))]) [2, 3, 1, 0] rfl ?_
  refine Mo_worthIn_L4_ok X fu a0 σ _ hQ (fun l2_4 l3_5 h => ?_) fu (0 : Int32) (0 : Int32) h
  refine V_iload_n X 2 d_Mo_worthIn_39 rfl ?_
  have h9 := wp_some h
  exact hQ _ h9 (fun h9 => absurd h9 (by decide)) _ _ d_Mo_worthIn_40
set_option maxHeartbeats 4000000 in
set_option maxRecDepth 100000 in
theorem Mo_centuriesNow_L9_ok {p : Program} {l : Launch} {e : Env} {R : Room} {s : State} {m : MethodId} {args : Array Value} {below : List Frame} {meth : Method} {c : Code} {D : va_G} {ad : Nat → Nat} {cI cB : ClassId} {A : Nat → Prop} {cells slots : Nat} {Q : State → Prop} (X : Cx p R s m args meth c jR10 prog_13_method_53_code 9 4 D ad cI cB A cells slots) (fu : Nat) (l1 : Int32) (l2 : Int32) (l3 : Int32) (l4 : Int32) (kont : (Int32 → Sg → Option (Int32 × Sg))) {K : (Int32 × Sg) → Prop} (hQ : RI p l e R s m args below meth c 9 D ad cI cB A cells slots Q prog_13_method_53_code false K) (hk : ∀ (l5 : Int32) (σ : Sg), wpO (kont l5 σ) K → V p l e R s m args below meth c 9 D A cells slots Q (wl ad cI cB σ) 35 [(0, Value.ref (ad 91)), (1, Value.int l1), (2, Value.int l2), (3, Value.int l3), (4, Value.int l4), (5, Value.int l5)] []) : ∀ (n : Nat) (l5 : Int32) (σ : Sg), wpO (Mo_centuriesNow_L9 fu l1 l2 l3 l4 kont n l5 σ) K → V p l e R s m args below meth c 9 D A cells slots Q (wl ad cI cB σ) 9 [(0, Value.ref (ad 91)), (1, Value.int l1), (2, Value.int l2), (3, Value.int l3), (4, Value.int l4), (5, Value.int l5)] [] := by
  intro n
  induction n with
  | zero =>
    intro l5 σ h
    exact (wp_none h).elim
  | succ n ih =>
    intro l5 σ h
    rw [Mo_centuriesNow_L9] at h
    refine V_iload X 5 d_Mo_centuriesNow_9 rfl ?_
    refine V_iconst (v := 3) X d_Mo_centuriesNow_11 (by decide) ?_
    refine V_icmp_ge X 35 d_Mo_centuriesNow_12 (by decide) h (fun c1 h => ?_) (fun c1 h => ?_)
    · skip
      exact hk l5 σ h
    · skip
      refine V_aload_n X 0 d_Mo_centuriesNow_15 rfl ?_
      refine V_getR X 10 31 108 rfl ji10 (by decide) (by decide) (by decide) fl_Mo_59 d_Mo_centuriesNow_16 (by decide) (by decide) (by decide) (by decide) ?_
      refine V_iload X 5 d_Mo_centuriesNow_19 rfl ?_
      refine V_aload_n X 0 d_Mo_centuriesNow_21 rfl ?_
      refine V_getR X 10 3 92 rfl ji10 (by decide) (by decide) (by decide) fl_Mo_7 d_Mo_centuriesNow_22 (by decide) (by decide) (by decide) (by decide) ?_
      refine V_iload X 5 d_Mo_centuriesNow_25 rfl ?_
      refine V_iald X d_Mo_centuriesNow_27 (by decide) (by decide) rfl h (fun h => ?_)
      refine V_iast X d_Mo_centuriesNow_28 (by decide) (by decide) rfl h (fun h => ?_)
      refine V_iinc X 5 (l5 + (1 : Int32)) [(5, Value.int (l5 + (1 : Int32))), (0, Value.ref (ad 91)), (1, Value.int l1), (2, Value.int l2), (3, Value.int l3), (4, Value.int l4)] d_Mo_centuriesNow_29 rfl (by first | rfl | decide) (by decide) rfl ?_
      refine V_goto X 9 d_Mo_centuriesNow_32 (by decide) ?_
      refine V_sub (lv' := [(0, Value.ref (ad 91)), (1, Value.int l1), (2, Value.int l2), (3, Value.int l3), (4, Value.int l4), (5, Value.int (l5 + (1 : Int32)))]) [1, 2, 3, 4, 5, 0] rfl ?_
      exact ih (l5 + (1 : Int32)) (sA σ 108 (ix l5) (gA σ 92 (ix l5))) h
set_option maxHeartbeats 4000000 in
set_option maxRecDepth 100000 in
theorem Mo_centuriesNow_L47_ok {p : Program} {l : Launch} {e : Env} {R : Room} {s : State} {m : MethodId} {args : Array Value} {below : List Frame} {meth : Method} {c : Code} {D : va_G} {ad : Nat → Nat} {cI cB : ClassId} {A : Nat → Prop} {cells slots : Nat} {Q : State → Prop} (X : Cx p R s m args meth c jR10 prog_13_method_53_code 9 4 D ad cI cB A cells slots) (fu : Nat) (l1 : Int32) (l3 : Int32) (l4 : Int32) (kont : (Int32 → Int32 → Sg → Option (Int32 × Sg))) {K : (Int32 × Sg) → Prop} (hQ : RI p l e R s m args below meth c 9 D ad cI cB A cells slots Q prog_13_method_53_code false K) (hk : ∀ (l5 : Int32) (l6 : Int32) (σ : Sg), wpO (kont l5 l6 σ) K → V p l e R s m args below meth c 9 D A cells slots Q (wl ad cI cB σ) 138 [(0, Value.ref (ad 91)), (1, Value.int l1), (3, Value.int l3), (4, Value.int l4), (5, Value.int l5), (6, Value.int l6)] []) : ∀ (n : Nat) (l5 : Int32) (l6 : Int32) (σ : Sg), wpO (Mo_centuriesNow_L47 fu l1 l3 l4 kont n l5 l6 σ) K → V p l e R s m args below meth c 9 D A cells slots Q (wl ad cI cB σ) 47 [(0, Value.ref (ad 91)), (1, Value.int l1), (3, Value.int l3), (4, Value.int l4), (5, Value.int l5), (6, Value.int l6)] [] := by
  intro n
  induction n with
  | zero =>
    intro l5 l6 σ h
    exact (wp_none h).elim
  | succ n ih =>
    intro l5 l6 σ h
    rw [Mo_centuriesNow_L47] at h
    refine V_iload X 5 d_Mo_centuriesNow_47 rfl ?_
    refine V_iload_n X 1 d_Mo_centuriesNow_49 rfl ?_
    refine V_icmp_ge X 138 d_Mo_centuriesNow_50 (by decide) h (fun c4 h => ?_) (fun c4 h => ?_)
    · skip
      exact hk l5 l6 σ h
    · skip
      refine V_aload_n X 0 d_Mo_centuriesNow_53 rfl ?_
      refine V_aload_n X 0 d_Mo_centuriesNow_54 rfl ?_
      refine V_getI X 10 2 rfl ji10 (by decide) (by decide) (by decide) fl_Mo_124 d_Mo_centuriesNow_55 (by decide) (by decide) (by decide) ?_
      refine V_cP X h (fun r5 s6 q => C_V (q := 10) X [Value.int (gF σ 91 2)] mt_Mo_draw ms_Mo_draw ml_Mo_244 (k_Mo_draw σ (gF σ 91 2) r5 s6 q) rfl rfl (by omega) (Nat.le_of_ble_eq_true rfl) rfl (by decide) (by decide) (by decide) d_Mo_centuriesNow_58) (fun r5 s6 h => ?_)
      refine V_istore X [(7, Value.int r5), (0, Value.ref (ad 91)), (1, Value.int l1), (3, Value.int l3), (4, Value.int l4), (5, Value.int l5), (6, Value.int l6)] d_Mo_centuriesNow_61 (by decide) rfl ?_
      refine V_aload_n X 1 d_Mo_centuriesNow_63 rfl ?_
      refine V_aload_n X 1 d_Mo_centuriesNow_64 rfl ?_
      refine V_getI X 10 1 rfl ji10 (by decide) (by decide) (by decide) fl_Mo_121 d_Mo_centuriesNow_65 (by decide) (by decide) (by decide) ?_
      refine V_cP X h (fun r7 s8 q => C_V (q := 10) X [Value.int (gF s6 91 1)] mt_Mo_draw ms_Mo_draw ml_Mo_244 (k_Mo_draw s6 (gF s6 91 1) r7 s8 q) rfl rfl (by omega) (Nat.le_of_ble_eq_true rfl) rfl (by decide) (by decide) (by decide) d_Mo_centuriesNow_68) (fun r7 s8 h => ?_)
      refine V_istore X [(8, Value.int r7), (7, Value.int r5), (0, Value.ref (ad 91)), (1, Value.int l1), (3, Value.int l3), (4, Value.int l4), (5, Value.int l5), (6, Value.int l6)] d_Mo_centuriesNow_71 (by decide) rfl ?_
      refine V_aload_n X 2 d_Mo_centuriesNow_73 rfl ?_
      refine V_iload X 1 d_Mo_centuriesNow_74 rfl ?_
      refine V_iload X 0 d_Mo_centuriesNow_76 rfl ?_
      refine V_cI X h (fun r9 q => C_V (q := 10) X [Value.int r5, Value.int r7] mt_Mo_mayRight ms_Mo_mayRight ml_Mo_155 (k_Mo_mayRight fu s8 r5 r7 r9 q) rfl rfl (by omega) (Nat.le_of_ble_eq_true rfl) rfl (by decide) (by decide) (by decide) d_Mo_centuriesNow_78) (fun r9 h => ?_)
      refine V_if_eq X 128 d_Mo_centuriesNow_81 (by decide) h (fun c10 h => ?_) (fun c10 h => ?_)
      · skip
        refine V_aload_n X 2 d_Mo_centuriesNow_128 rfl ?_
        refine V_cV X h (fun s11 q => C_V (q := 10) X [] mt_Mo_goYear ms_Mo_goYear ml_Mo_184 (k_Mo_goYear fu s8 s11 q) rfl rfl (by omega) (Nat.le_of_ble_eq_true rfl) rfl (by decide) (by decide) (by decide) d_Mo_centuriesNow_129) (fun s11 h => ?_)
        refine V_iinc X 7 (l6 + (1 : Int32)) [(6, Value.int (l6 + (1 : Int32))), (8, Value.int r7), (7, Value.int r5), (0, Value.ref (ad 91)), (1, Value.int l1), (3, Value.int l3), (4, Value.int l4), (5, Value.int l5)] d_Mo_centuriesNow_132 rfl (by first | rfl | decide) (by decide) rfl ?_
        refine V_goto X 47 d_Mo_centuriesNow_135 (by decide) ?_
        refine V_sub (lv' := [(0, Value.ref (ad 91)), (1, Value.int l1), (3, Value.int l3), (4, Value.int l4), (5, Value.int l5), (6, Value.int (l6 + (1 : Int32)))]) [3, 4, 5, 6, 7, 0] rfl ?_
        exact ih l5 (l6 + (1 : Int32)) s11 h
      · skip
        refine V_aload_n X 2 d_Mo_centuriesNow_84 rfl ?_
        refine V_getR X 10 3 92 rfl ji10 (by decide) (by decide) (by decide) fl_Mo_7 d_Mo_centuriesNow_85 (by decide) (by decide) (by decide) (by decide) ?_
        refine V_iload X 0 d_Mo_centuriesNow_88 rfl ?_
        refine V_dup2 X d_Mo_centuriesNow_90 rfl rfl ?_
        refine V_iald X d_Mo_centuriesNow_91 (by decide) (by decide) rfl h (fun h => ?_)
        refine V_aload_n X 2 d_Mo_centuriesNow_92 rfl ?_
        refine V_iload X 1 d_Mo_centuriesNow_93 rfl ?_
        refine V_cI X h (fun r12 q => C_V (q := 10) X [Value.int r5] mt_Mo_cost ms_Mo_cost ml_Mo_152 (k_Mo_cost fu s8 r5 r12 q) rfl rfl (by omega) (Nat.le_of_ble_eq_true rfl) rfl (by decide) (by decide) (by decide) d_Mo_centuriesNow_95) (fun r12 h => ?_)
        refine V_isub X d_Mo_centuriesNow_98 ?_
        refine V_iast X d_Mo_centuriesNow_99 (by decide) (by decide) rfl h (fun h => ?_)
        refine V_aload_n X 2 d_Mo_centuriesNow_100 rfl ?_
        refine V_aload_n X 2 d_Mo_centuriesNow_101 rfl ?_
        refine V_getI X 10 9 rfl ji10 (by decide) (by decide) (by decide) fl_Mo_127 d_Mo_centuriesNow_102 (by decide) (by decide) (by decide) ?_
        refine V_aload_n X 2 d_Mo_centuriesNow_105 rfl ?_
        refine V_iload X 1 d_Mo_centuriesNow_106 rfl ?_
        refine V_cI X h (fun r13 q => C_V (q := 10) X [Value.int r5] mt_Mo_allOn ms_Mo_allOn ml_Mo_166 (k_Mo_allOn fu (sA s8 92 (ix r7) ((gA s8 92 (ix r7)) - r12)) r5 r13 q) rfl rfl (by omega) (Nat.le_of_ble_eq_true rfl) rfl (by decide) (by decide) (by decide) d_Mo_centuriesNow_108) (fun r13 h => ?_)
        refine V_iconst (v := -1) X d_Mo_centuriesNow_111 (by decide) ?_
        refine V_ixor X d_Mo_centuriesNow_112 ?_
        refine V_iand X d_Mo_centuriesNow_113 ?_
        refine V_iconst (v := 1) X d_Mo_centuriesNow_114 (by decide) ?_
        refine V_iload X 1 d_Mo_centuriesNow_115 rfl ?_
        refine V_ishl X d_Mo_centuriesNow_117 ?_
        refine V_ior X d_Mo_centuriesNow_118 ?_
        refine V_putI X 10 9 rfl ji10 jk10 jn10 (by decide) (by decide) (by decide) rfl (by decide +kernel) fl_Mo_127 d_Mo_centuriesNow_119 (by decide) (by decide) (by decide) ?_
        refine V_iinc X 6 (l5 + (1 : Int32)) [(5, Value.int (l5 + (1 : Int32))), (8, Value.int r7), (7, Value.int r5), (0, Value.ref (ad 91)), (1, Value.int l1), (3, Value.int l3), (4, Value.int l4), (6, Value.int l6)] d_Mo_centuriesNow_122 rfl (by first | rfl | decide) (by decide) rfl ?_
        refine V_goto X 132 d_Mo_centuriesNow_125 (by decide) ?_
        refine V_iinc X 7 (l6 + (1 : Int32)) [(6, Value.int (l6 + (1 : Int32))), (5, Value.int (l5 + (1 : Int32))), (8, Value.int r7), (7, Value.int r5), (0, Value.ref (ad 91)), (1, Value.int l1), (3, Value.int l3), (4, Value.int l4)] d_Mo_centuriesNow_132 rfl (by first | rfl | decide) (by decide) rfl ?_
        refine V_goto X 47 d_Mo_centuriesNow_135 (by decide) ?_
        refine V_sub (lv' := [(0, Value.ref (ad 91)), (1, Value.int l1), (3, Value.int l3), (4, Value.int l4), (5, Value.int (l5 + (1 : Int32))), (6, Value.int (l6 + (1 : Int32)))]) [4, 5, 6, 7, 1, 0] rfl ?_
        exact ih (l5 + (1 : Int32)) (l6 + (1 : Int32)) (sF (sA s8 92 (ix r7) ((gA s8 92 (ix r7)) - r12)) 91 9 (((gF (sA s8 92 (ix r7) ((gA s8 92 (ix r7)) - r12)) 91 9) &&& (r13 ^^^ (-1 : Int32))) ||| ((1 : Int32) <<< (r5 &&& 31)))) h
set_option maxHeartbeats 4000000 in
set_option maxRecDepth 100000 in
theorem Mo_centuriesNow_L157_ok {p : Program} {l : Launch} {e : Env} {R : Room} {s : State} {m : MethodId} {args : Array Value} {below : List Frame} {meth : Method} {c : Code} {D : va_G} {ad : Nat → Nat} {cI cB : ClassId} {A : Nat → Prop} {cells slots : Nat} {Q : State → Prop} (X : Cx p R s m args meth c jR10 prog_13_method_53_code 9 4 D ad cI cB A cells slots) (fu : Nat) (l3 : Int32) (l5 : Int32) (l6 : Int32) (kont : (Int32 → Sg → Option (Int32 × Sg))) {K : (Int32 × Sg) → Prop} (hQ : RI p l e R s m args below meth c 9 D ad cI cB A cells slots Q prog_13_method_53_code false K) (hk : ∀ (l7 : Int32) (σ : Sg), wpO (kont l7 σ) K → V p l e R s m args below meth c 9 D A cells slots Q (wl ad cI cB σ) 183 [(0, Value.ref (ad 91)), (3, Value.int l3), (5, Value.int l5), (6, Value.int l6), (7, Value.int l7)] []) : ∀ (n : Nat) (l7 : Int32) (σ : Sg), wpO (Mo_centuriesNow_L157 fu l3 l5 l6 kont n l7 σ) K → V p l e R s m args below meth c 9 D A cells slots Q (wl ad cI cB σ) 157 [(0, Value.ref (ad 91)), (3, Value.int l3), (5, Value.int l5), (6, Value.int l6), (7, Value.int l7)] [] := by
  intro n
  induction n with
  | zero =>
    intro l7 σ h
    exact (wp_none h).elim
  | succ n ih =>
    intro l7 σ h
    rw [Mo_centuriesNow_L157] at h
    refine V_iload X 4 d_Mo_centuriesNow_157 rfl ?_
    refine V_iconst (v := 3) X d_Mo_centuriesNow_159 (by decide) ?_
    refine V_icmp_ge X 183 d_Mo_centuriesNow_160 (by decide) h (fun c18 h => ?_) (fun c18 h => ?_)
    · skip
      exact hk l7 σ h
    · skip
      refine V_aload_n X 0 d_Mo_centuriesNow_163 rfl ?_
      refine V_getR X 10 3 92 rfl ji10 (by decide) (by decide) (by decide) fl_Mo_7 d_Mo_centuriesNow_164 (by decide) (by decide) (by decide) (by decide) ?_
      refine V_iload X 4 d_Mo_centuriesNow_167 rfl ?_
      refine V_aload_n X 0 d_Mo_centuriesNow_169 rfl ?_
      refine V_getR X 10 31 108 rfl ji10 (by decide) (by decide) (by decide) fl_Mo_59 d_Mo_centuriesNow_170 (by decide) (by decide) (by decide) (by decide) ?_
      refine V_iload X 4 d_Mo_centuriesNow_173 rfl ?_
      refine V_iald X d_Mo_centuriesNow_175 (by decide) (by decide) rfl h (fun h => ?_)
      refine V_iast X d_Mo_centuriesNow_176 (by decide) (by decide) rfl h (fun h => ?_)
      refine V_iinc X 4 (l7 + (1 : Int32)) [(7, Value.int (l7 + (1 : Int32))), (0, Value.ref (ad 91)), (3, Value.int l3), (5, Value.int l5), (6, Value.int l6)] d_Mo_centuriesNow_177 rfl (by first | rfl | decide) (by decide) rfl ?_
      refine V_goto X 157 d_Mo_centuriesNow_180 (by decide) ?_
      refine V_sub (lv' := [(0, Value.ref (ad 91)), (3, Value.int l3), (5, Value.int l5), (6, Value.int l6), (7, Value.int (l7 + (1 : Int32)))]) [1, 2, 3, 4, 0] rfl ?_
      exact ih (l7 + (1 : Int32)) (sA σ 92 (ix l7) (gA σ 108 (ix l7))) h
set_option maxHeartbeats 4000000 in
set_option maxRecDepth 100000 in
theorem k_Mo_centuriesNow (fu : Nat) (σ : Sg) (a0 : Int32) (a1 : Int32) (a2 : Int32) (r : Int32) (σ' : Sg) (h : Mo_centuriesNow fu σ a0 a1 a2 = some (r, σ')) : Evc y_Mo_centuriesNow prog_13_method_53_code 9 (some .int) 4 (fun ad => [Value.ref (ad 91), Value.int a0, Value.int a1, Value.int a2]) σ σ' (fun _ => some (.int r)) := by
  refine Evc_ofI (by decide) (fun ad => Nat.le_of_ble_eq_true rfl) (fun p l e R s m args below meth c D ad cI cB A Q X hQ => ?_)
  have X : Cx p R s m args meth c jR10 prog_13_method_53_code 9 4 D ad cI cB A 0 0 := X
  have h : wpO (Mo_centuriesNow fu σ a0 a1 a2) (fun q => q = (r, σ')) := ⟨_, h, rfl⟩
  rw [Mo_centuriesNow] at h
  refine V_sub (lv' := [(0, Value.ref (ad 91)), (1, Value.int a0), (2, Value.int a1), (3, Value.int a2)]) [0, 1, 2, 3] rfl ?_
  refine V_aload_n X 0 d_Mo_centuriesNow_0 rfl ?_
  refine V_getI X 10 9 rfl ji10 (by decide) (by decide) (by decide) fl_Mo_127 d_Mo_centuriesNow_1 (by decide) (by decide) (by decide) ?_
  refine V_istore X [(4, Value.int (gF σ 91 9)), (0, Value.ref (ad 91)), (1, Value.int a0), (2, Value.int a1), (3, Value.int a2)] d_Mo_centuriesNow_4 (by decide) rfl ?_
  refine V_iconst (v := 0) X d_Mo_centuriesNow_6 (by decide) ?_
  refine V_istore X [(5, Value.int (0 : Int32)), (4, Value.int (gF σ 91 9)), (0, Value.ref (ad 91)), (1, Value.int a0), (2, Value.int a1), (3, Value.int a2)] d_Mo_centuriesNow_7 (by decide) rfl ?_
  refine V_sub (lv' := [(0, Value.ref (ad 91)), (1, Value.int a0), (2, Value.int a1), (3, Value.int a2), (4, Value.int (gF σ 91 9)), (5, Value.int (0 : Int32))]) [2, 3, 4, 5, 1, 0] rfl ?_
  refine Mo_centuriesNow_L9_ok X fu a0 a1 a2 (gF σ 91 9) _ hQ (fun l5_2 s3 h => ?_) fu (0 : Int32) σ h
  refine V_aload_n X 0 d_Mo_centuriesNow_35 rfl ?_
  refine V_iload_n X 2 d_Mo_centuriesNow_36 rfl ?_
  refine V_i2l X d_Mo_centuriesNow_37 ?_
  refine V_putL X 10 30 rfl ji10 jk10 jn10 (by decide) (by decide) (by decide) rfl (by decide +kernel) fl_Mo_234 d_Mo_centuriesNow_38 (by decide) (by decide) (by decide) ?_
  refine V_iconst (v := 0) X d_Mo_centuriesNow_41 (by decide) ?_
  refine V_istore X [(5, Value.int (0 : Int32)), (0, Value.ref (ad 91)), (1, Value.int a0), (2, Value.int a1), (3, Value.int a2), (4, Value.int (gF σ 91 9))] d_Mo_centuriesNow_42 (by decide) rfl ?_
  refine V_iconst (v := 0) X d_Mo_centuriesNow_44 (by decide) ?_
  refine V_istore X [(6, Value.int (0 : Int32)), (5, Value.int (0 : Int32)), (0, Value.ref (ad 91)), (1, Value.int a0), (2, Value.int a1), (3, Value.int a2), (4, Value.int (gF σ 91 9))] d_Mo_centuriesNow_45 (by decide) rfl ?_
  refine V_sub (lv' := [(0, Value.ref (ad 91)), (1, Value.int a0), (3, Value.int a2), (4, Value.int (gF σ 91 9)), (5, Value.int (0 : Int32)), (6, Value.int (0 : Int32))]) [2, 3, 5, 6, 1, 0] rfl ?_
  refine Mo_centuriesNow_L47_ok X fu a0 a2 (gF σ 91 9) _ hQ (fun l5_14 l6_15 s16 h => ?_) fu (0 : Int32) (0 : Int32) (sL s3 91 30 a1.toInt64) h
  refine V_aload_n X 0 d_Mo_centuriesNow_138 rfl ?_
  refine V_aload_n X 0 d_Mo_centuriesNow_139 rfl ?_
  refine V_getI X 10 9 rfl ji10 (by decide) (by decide) (by decide) fl_Mo_127 d_Mo_centuriesNow_140 (by decide) (by decide) (by decide) ?_
  refine V_cI X h (fun r17 q => C_V (q := 10) X [Value.int (gF s16 91 9)] mt_Mo_worthIn ms_Mo_worthIn ml_Mo_187 (k_Mo_worthIn fu s16 (gF s16 91 9) r17 q) rfl rfl (by omega) (Nat.le_of_ble_eq_true rfl) rfl (by decide) (by decide) (by decide) d_Mo_centuriesNow_143) (fun r17 h => ?_)
  refine V_istore X [(6, Value.int r17), (0, Value.ref (ad 91)), (1, Value.int a0), (3, Value.int a2), (4, Value.int (gF σ 91 9)), (5, Value.int l5_14)] d_Mo_centuriesNow_146 (by decide) rfl ?_
  refine V_aload_n X 1 d_Mo_centuriesNow_148 rfl ?_
  refine V_iload X 4 d_Mo_centuriesNow_149 rfl ?_
  refine V_putI X 10 9 rfl ji10 jk10 jn10 (by decide) (by decide) (by decide) rfl (by decide +kernel) fl_Mo_127 d_Mo_centuriesNow_151 (by decide) (by decide) (by decide) ?_
  refine V_iconst (v := 0) X d_Mo_centuriesNow_154 (by decide) ?_
  refine V_istore X [(7, Value.int (0 : Int32)), (6, Value.int r17), (0, Value.ref (ad 91)), (1, Value.int a0), (3, Value.int a2), (4, Value.int (gF σ 91 9)), (5, Value.int l5_14)] d_Mo_centuriesNow_155 (by decide) rfl ?_
  refine V_sub (lv' := [(0, Value.ref (ad 91)), (3, Value.int a2), (5, Value.int l5_14), (6, Value.int r17), (7, Value.int (0 : Int32))]) [2, 4, 6, 1, 0] rfl ?_
  refine Mo_centuriesNow_L157_ok X fu a2 l5_14 r17 _ hQ (fun l7_19 s20 h => ?_) fu (0 : Int32) (sF s16 91 9 (gF σ 91 9)) h
  refine V_iload_n X 1 d_Mo_centuriesNow_183 rfl ?_
  refine V_if_ne X 192 d_Mo_centuriesNow_184 (by decide) h (fun c21 h => ?_) (fun c21 h => ?_)
  · skip
    refine V_iload_n X 1 d_Mo_centuriesNow_192 rfl ?_
    refine V_iconst (v := 1) X d_Mo_centuriesNow_193 (by decide) ?_
    refine V_icmp_ne X 202 d_Mo_centuriesNow_194 (by decide) h (fun c22 h => ?_) (fun c22 h => ?_)
    · skip
      refine V_aload_n X 0 d_Mo_centuriesNow_202 rfl ?_
      refine V_getL X 10 30 rfl ji10 (by decide) (by decide) (by decide) fl_Mo_234 d_Mo_centuriesNow_203 (by decide) (by decide) (by decide) ?_
      refine V_l2i X d_Mo_centuriesNow_206 ?_
      have h9 := wp_some h
      exact hQ _ _ h9 (fun h9 => absurd h9 (by decide)) _ _ d_Mo_centuriesNow_207
    · skip
      refine V_iload X 3 d_Mo_centuriesNow_197 rfl ?_
      refine V_goto X 207 d_Mo_centuriesNow_199 (by decide) ?_
      have h9 := wp_some h
      exact hQ _ _ h9 (fun h9 => absurd h9 (by decide)) _ _ d_Mo_centuriesNow_207
  · skip
    refine V_iload X 2 d_Mo_centuriesNow_187 rfl ?_
    refine V_goto X 207 d_Mo_centuriesNow_189 (by decide) ?_
    have h9 := wp_some h
    exact hQ _ _ h9 (fun h9 => absurd h9 (by decide)) _ _ d_Mo_centuriesNow_207
set_option maxHeartbeats 4000000 in
set_option maxRecDepth 100000 in
theorem k_Mo_centuries (fu : Nat) (σ : Sg) (a0 : Int32) (a1 : Int32) (a2 : Int32) (r : Int32) (σ' : Sg) (h : Mo_centuries fu σ a0 a1 a2 = some (r, σ')) : Evc y_Mo_centuries prog_13_method_54_code 4 (some .int) 5 (fun ad => [Value.ref (ad 91), Value.int a0, Value.int a1, Value.int a2]) σ σ' (fun _ => some (.int r)) := by
  refine Evc_ofI (by decide) (fun ad => Nat.le_of_ble_eq_true rfl) (fun p l e R s m args below meth c D ad cI cB A Q X hQ => ?_)
  have X : Cx p R s m args meth c jR10 prog_13_method_54_code 4 5 D ad cI cB A 0 0 := X
  have h : wpO (Mo_centuries fu σ a0 a1 a2) (fun q => q = (r, σ')) := ⟨_, h, rfl⟩
  rw [Mo_centuries] at h
  refine V_sub (lv' := [(0, Value.ref (ad 91)), (1, Value.int a0), (2, Value.int a1), (3, Value.int a2)]) [0, 1, 2, 3] rfl ?_
  refine V_iload_n X 1 d_Mo_centuries_0 rfl ?_
  refine V_iconst (v := 1) X d_Mo_centuries_1 (by decide) ?_
  refine V_bipush (v := 60) X d_Mo_centuries_2 (by decide) ?_
  refine V_cI X h (fun r1 q => C_S X [Value.int a0, Value.int (1 : Int32), Value.int (60 : Int32)] mt_Mo_within ms_Mo_within ml_Mo_83 (k_Mo_within σ a0 (1 : Int32) (60 : Int32) r1 q) rfl rfl (by omega) (Nat.le_of_ble_eq_true rfl) d_Mo_centuries_4) (fun r1 h => ?_)
  refine V_if_eq X 23 d_Mo_centuries_7 (by decide) h (fun c2 h => ?_) (fun c2 h => ?_)
  · skip
    refine V_bipush (v := -102) X d_Mo_centuries_23 (by decide) ?_
    have h9 := wp_some h
    exact hQ _ _ h9 (fun h9 => absurd h9 (by decide)) _ _ d_Mo_centuries_25
  · skip
    refine V_iload_n X 2 d_Mo_centuries_10 rfl ?_
    refine V_if_lt X 23 d_Mo_centuries_11 (by decide) h (fun c3 h => ?_) (fun c3 h => ?_)
    · skip
      refine V_bipush (v := -102) X d_Mo_centuries_23 (by decide) ?_
      have h9 := wp_some h
      exact hQ _ _ h9 (fun h9 => absurd h9 (by decide)) _ _ d_Mo_centuries_25
    · skip
      refine V_iload_n X 3 d_Mo_centuries_14 rfl ?_
      refine V_iconst (v := 0) X d_Mo_centuries_15 (by decide) ?_
      refine V_iconst (v := 2) X d_Mo_centuries_16 (by decide) ?_
      refine V_cI X h (fun r4 q => C_S X [Value.int a2, Value.int (0 : Int32), Value.int (2 : Int32)] mt_Mo_within ms_Mo_within ml_Mo_83 (k_Mo_within σ a2 (0 : Int32) (2 : Int32) r4 q) rfl rfl (by omega) (Nat.le_of_ble_eq_true rfl) d_Mo_centuries_17) (fun r4 h => ?_)
      refine V_if_ne X 26 d_Mo_centuries_20 (by decide) h (fun c5 h => ?_) (fun c5 h => ?_)
      · skip
        refine V_aload_n X 0 d_Mo_centuries_26 rfl ?_
        refine V_getI X 10 2 rfl ji10 (by decide) (by decide) (by decide) fl_Mo_124 d_Mo_centuries_27 (by decide) (by decide) (by decide) ?_
        refine V_if_ne X 38 d_Mo_centuries_30 (by decide) h (fun c6 h => ?_) (fun c6 h => ?_)
        · skip
          refine V_aload_n X 0 d_Mo_centuries_38 rfl ?_
          refine V_iload_n X 1 d_Mo_centuries_39 rfl ?_
          refine V_iload_n X 2 d_Mo_centuries_40 rfl ?_
          refine V_iload_n X 3 d_Mo_centuries_41 rfl ?_
          refine V_cP X h (fun r7 s8 q => C_V (q := 10) X [Value.int a0, Value.int a1, Value.int a2] mt_Mo_centuriesNow ms_Mo_centuriesNow ml_Mo_247 (k_Mo_centuriesNow fu σ a0 a1 a2 r7 s8 q) rfl rfl (by omega) (Nat.le_of_ble_eq_true rfl) rfl (by decide) (by decide) (by decide) d_Mo_centuries_42) (fun r7 s8 h => ?_)
          have h9 := wp_some h
          exact hQ _ _ h9 (fun h9 => absurd h9 (by decide)) _ _ d_Mo_centuries_45
        · skip
          refine V_bipush (v := -103) X d_Mo_centuries_33 (by decide) ?_
          refine V_goto X 45 d_Mo_centuries_35 (by decide) ?_
          have h9 := wp_some h
          exact hQ _ _ h9 (fun h9 => absurd h9 (by decide)) _ _ d_Mo_centuries_45
      · skip
        refine V_bipush (v := -102) X d_Mo_centuries_23 (by decide) ?_
        have h9 := wp_some h
        exact hQ _ _ h9 (fun h9 => absurd h9 (by decide)) _ _ d_Mo_centuries_25
set_option maxHeartbeats 4000000 in
set_option maxRecDepth 100000 in
theorem k_Mo_costWith (fu : Nat) (σ : Sg) (a0 : Int32) (a1 : Int32) (r : Int32) (σ' : Sg) (h : Mo_costWith fu σ a0 a1 = some (r, σ')) : Evc y_Mo_costWith prog_13_method_49_code 5 (some .int) 3 (fun ad => [Value.ref (ad 91), Value.int a0, Value.int a1]) σ σ' (fun _ => some (.int r)) := by
  refine Evc_ofI (by decide) (fun ad => Nat.le_of_ble_eq_true rfl) (fun p l e R s m args below meth c D ad cI cB A Q X hQ => ?_)
  have X : Cx p R s m args meth c jR10 prog_13_method_49_code 5 3 D ad cI cB A 0 0 := X
  have h : wpO (Mo_costWith fu σ a0 a1) (fun q => q = (r, σ')) := ⟨_, h, rfl⟩
  rw [Mo_costWith] at h
  refine V_sub (lv' := [(0, Value.ref (ad 91)), (1, Value.int a0), (2, Value.int a1)]) [0, 1, 2] rfl ?_
  refine V_aload_n X 0 d_Mo_costWith_0 rfl ?_
  refine V_getR X 10 6 95 rfl ji10 (by decide) (by decide) (by decide) fl_Mo_19 d_Mo_costWith_1 (by decide) (by decide) (by decide) (by decide) ?_
  refine V_iload_n X 1 d_Mo_costWith_4 rfl ?_
  refine V_iald X d_Mo_costWith_5 (by decide) (by decide) rfl h (fun h => ?_)
  refine V_istore_n X [(3, Value.int (gA σ 95 (ix a0))), (0, Value.ref (ad 91)), (1, Value.int a0), (2, Value.int a1)] d_Mo_costWith_6 (by decide) rfl ?_
  refine V_aload_n X 1 d_Mo_costWith_7 rfl ?_
  refine V_getR X 10 6 95 rfl ji10 (by decide) (by decide) (by decide) fl_Mo_19 d_Mo_costWith_8 (by decide) (by decide) (by decide) (by decide) ?_
  refine V_iload_n X 2 d_Mo_costWith_11 rfl ?_
  refine V_iload_n X 3 d_Mo_costWith_12 rfl ?_
  refine V_iast X d_Mo_costWith_13 (by decide) (by decide) rfl h (fun h => ?_)
  refine V_aload_n X 1 d_Mo_costWith_14 rfl ?_
  refine V_iload_n X 2 d_Mo_costWith_15 rfl ?_
  refine V_cI X h (fun r1 q => C_V (q := 10) X [Value.int a0] mt_Mo_cost ms_Mo_cost ml_Mo_152 (k_Mo_cost fu (sA σ 95 (ix a0) a1) a0 r1 q) rfl rfl (by omega) (Nat.le_of_ble_eq_true rfl) rfl (by decide) (by decide) (by decide) d_Mo_costWith_16) (fun r1 h => ?_)
  refine V_istore X [(4, Value.int r1), (3, Value.int (gA σ 95 (ix a0))), (0, Value.ref (ad 91)), (1, Value.int a0), (2, Value.int a1)] d_Mo_costWith_19 (by decide) rfl ?_
  refine V_aload_n X 2 d_Mo_costWith_21 rfl ?_
  refine V_getR X 10 6 95 rfl ji10 (by decide) (by decide) (by decide) fl_Mo_19 d_Mo_costWith_22 (by decide) (by decide) (by decide) (by decide) ?_
  refine V_iload_n X 3 d_Mo_costWith_25 rfl ?_
  refine V_iload_n X 1 d_Mo_costWith_26 rfl ?_
  refine V_iast X d_Mo_costWith_27 (by decide) (by decide) rfl h (fun h => ?_)
  refine V_iload X 0 d_Mo_costWith_28 rfl ?_
  have h9 := wp_some h
  exact hQ _ _ h9 (fun h9 => absurd h9 (by decide)) _ _ d_Mo_costWith_30
set_option maxHeartbeats 4000000 in
set_option maxRecDepth 100000 in
theorem Mo_treeNow_L5_ok {p : Program} {l : Launch} {e : Env} {R : Room} {s : State} {m : MethodId} {args : Array Value} {below : List Frame} {meth : Method} {c : Code} {D : va_G} {ad : Nat → Nat} {cI cB : ClassId} {A : Nat → Prop} {cells slots : Nat} {Q : State → Prop} (X : Cx p R s m args meth c jR10 prog_13_method_25_code 5 4 D ad cI cB A cells slots) (fu : Nat) (l1 : Int32) (l2 : Int32) (σ : Sg) (kont : (Int32 → Int32 → Option Int32)) {K : Int32 → Prop} (hQ : RP p l e R s m args below meth c 5 D ad cI cB A cells slots Q prog_13_method_25_code false σ K) (hk : ∀ (l3 : Int32) (l4 : Int32), wpO (kont l3 l4) K → V p l e R s m args below meth c 5 D A cells slots Q (wl ad cI cB σ) 41 [(0, Value.ref (ad 91)), (1, Value.int l1), (2, Value.int l2), (3, Value.int l3), (4, Value.int l4)] []) : ∀ (n : Nat) (l3 : Int32) (l4 : Int32), wpO (Mo_treeNow_L5 fu l1 l2 σ kont n l3 l4) K → V p l e R s m args below meth c 5 D A cells slots Q (wl ad cI cB σ) 5 [(0, Value.ref (ad 91)), (1, Value.int l1), (2, Value.int l2), (3, Value.int l3), (4, Value.int l4)] [] := by
  intro n
  induction n with
  | zero =>
    intro l3 l4 h
    exact (wp_none h).elim
  | succ n ih =>
    intro l3 l4 h
    rw [Mo_treeNow_L5] at h
    refine V_iload X 4 d_Mo_treeNow_5 rfl ?_
    refine V_aload_n X 0 d_Mo_treeNow_7 rfl ?_
    refine V_getI X 10 2 rfl ji10 (by decide) (by decide) (by decide) fl_Mo_124 d_Mo_treeNow_8 (by decide) (by decide) (by decide) ?_
    refine V_icmp_ge X 41 d_Mo_treeNow_11 (by decide) h (fun c1 h => ?_) (fun c1 h => ?_)
    · skip
      exact hk l3 l4 h
    · skip
      refine V_iload_n X 3 d_Mo_treeNow_14 rfl ?_
      refine V_aload_n X 0 d_Mo_treeNow_15 rfl ?_
      refine V_iload X 4 d_Mo_treeNow_16 rfl ?_
      refine V_iload_n X 1 d_Mo_treeNow_18 rfl ?_
      refine V_cI X h (fun r2 q => C_V (q := 10) X [Value.int l4, Value.int l1] mt_Mo_mayRight ms_Mo_mayRight ml_Mo_155 (k_Mo_mayRight fu σ l4 l1 r2 q) rfl rfl (by omega) (Nat.le_of_ble_eq_true rfl) rfl (by decide) (by decide) (by decide) d_Mo_treeNow_19) (fun r2 h => ?_)
      refine V_if_eq X 32 d_Mo_treeNow_22 (by decide) h (fun c3 h => ?_) (fun c3 h => ?_)
      · skip
        refine V_iconst (v := 0) X d_Mo_treeNow_32 (by decide) ?_
        refine V_ior X d_Mo_treeNow_33 ?_
        refine V_istore_n X [(3, Value.int (l3 ||| (0 : Int32))), (0, Value.ref (ad 91)), (1, Value.int l1), (2, Value.int l2), (4, Value.int l4)] d_Mo_treeNow_34 (by decide) rfl ?_
        refine V_iinc X 4 (l4 + (1 : Int32)) [(4, Value.int (l4 + (1 : Int32))), (3, Value.int (l3 ||| (0 : Int32))), (0, Value.ref (ad 91)), (1, Value.int l1), (2, Value.int l2)] d_Mo_treeNow_35 rfl (by first | rfl | decide) (by decide) rfl ?_
        refine V_goto X 5 d_Mo_treeNow_38 (by decide) ?_
        refine V_sub (lv' := [(0, Value.ref (ad 91)), (1, Value.int l1), (2, Value.int l2), (3, Value.int (l3 ||| (0 : Int32))), (4, Value.int (l4 + (1 : Int32)))]) [2, 3, 4, 1, 0] rfl ?_
        exact ih (l3 ||| (0 : Int32)) (l4 + (1 : Int32)) h
      · skip
        refine V_iconst (v := 1) X d_Mo_treeNow_25 (by decide) ?_
        refine V_iload X 4 d_Mo_treeNow_26 rfl ?_
        refine V_ishl X d_Mo_treeNow_28 ?_
        refine V_goto X 33 d_Mo_treeNow_29 (by decide) ?_
        refine V_ior X d_Mo_treeNow_33 ?_
        refine V_istore_n X [(3, Value.int (l3 ||| ((1 : Int32) <<< (l4 &&& 31)))), (0, Value.ref (ad 91)), (1, Value.int l1), (2, Value.int l2), (4, Value.int l4)] d_Mo_treeNow_34 (by decide) rfl ?_
        refine V_iinc X 4 (l4 + (1 : Int32)) [(4, Value.int (l4 + (1 : Int32))), (3, Value.int (l3 ||| ((1 : Int32) <<< (l4 &&& 31)))), (0, Value.ref (ad 91)), (1, Value.int l1), (2, Value.int l2)] d_Mo_treeNow_35 rfl (by first | rfl | decide) (by decide) rfl ?_
        refine V_goto X 5 d_Mo_treeNow_38 (by decide) ?_
        refine V_sub (lv' := [(0, Value.ref (ad 91)), (1, Value.int l1), (2, Value.int l2), (3, Value.int (l3 ||| ((1 : Int32) <<< (l4 &&& 31)))), (4, Value.int (l4 + (1 : Int32)))]) [2, 3, 4, 1, 0] rfl ?_
        exact ih (l3 ||| ((1 : Int32) <<< (l4 &&& 31))) (l4 + (1 : Int32)) h
set_option maxHeartbeats 4000000 in
set_option maxRecDepth 100000 in
theorem k_Mo_treeNow (fu : Nat) (σ : Sg) (a0 : Int32) (a1 : Int32) (r : Int32) (h : Mo_treeNow fu σ a0 a1 = some r) : Evc y_Mo_treeNow prog_13_method_25_code 5 (some .int) 4 (fun ad => [Value.ref (ad 91), Value.int a0, Value.int a1]) σ σ (fun _ => some (.int r)) := by
  refine Evc_ofI (by decide) (fun ad => Nat.le_of_ble_eq_true rfl) (fun p l e R s m args below meth c D ad cI cB A Q X hQ => ?_)
  have X : Cx p R s m args meth c jR10 prog_13_method_25_code 5 4 D ad cI cB A 0 0 := X
  have hQ := hQ.pure
  have h : wpO (Mo_treeNow fu σ a0 a1) (fun q => q = r) := ⟨_, h, rfl⟩
  rw [Mo_treeNow] at h
  refine V_sub (lv' := [(0, Value.ref (ad 91)), (1, Value.int a0), (2, Value.int a1)]) [0, 1, 2] rfl ?_
  refine V_iconst (v := 0) X d_Mo_treeNow_0 (by decide) ?_
  refine V_istore_n X [(3, Value.int (0 : Int32)), (0, Value.ref (ad 91)), (1, Value.int a0), (2, Value.int a1)] d_Mo_treeNow_1 (by decide) rfl ?_
  refine V_iconst (v := 0) X d_Mo_treeNow_2 (by decide) ?_
  refine V_istore X [(4, Value.int (0 : Int32)), (3, Value.int (0 : Int32)), (0, Value.ref (ad 91)), (1, Value.int a0), (2, Value.int a1)] d_Mo_treeNow_3 (by decide) rfl ?_
  refine V_sub (lv' := [(0, Value.ref (ad 91)), (1, Value.int a0), (2, Value.int a1), (3, Value.int (0 : Int32)), (4, Value.int (0 : Int32))]) [2, 3, 4, 1, 0] rfl ?_
  refine Mo_treeNow_L5_ok X fu a0 a1 σ _ hQ (fun l3_4 l4_5 h => ?_) fu (0 : Int32) (0 : Int32) h
  refine V_iload_n X 2 d_Mo_treeNow_41 rfl ?_
  refine V_if_ne X 54 d_Mo_treeNow_42 (by decide) h (fun c6 h => ?_) (fun c6 h => ?_)
  · skip
    refine V_iload_n X 2 d_Mo_treeNow_54 rfl ?_
    refine V_iconst (v := 1) X d_Mo_treeNow_55 (by decide) ?_
    refine V_icmp_ne X 68 d_Mo_treeNow_56 (by decide) h (fun c7 h => ?_) (fun c7 h => ?_)
    · skip
      refine V_iload_n X 3 d_Mo_treeNow_68 rfl ?_
      have h9 := wp_some h
      exact hQ _ h9 (fun h9 => absurd h9 (by decide)) _ _ d_Mo_treeNow_69
    · skip
      refine V_aload_n X 0 d_Mo_treeNow_59 rfl ?_
      refine V_getR X 10 4 93 rfl ji10 (by decide) (by decide) (by decide) fl_Mo_13 d_Mo_treeNow_60 (by decide) (by decide) (by decide) (by decide) ?_
      refine V_iload_n X 1 d_Mo_treeNow_63 rfl ?_
      refine V_iald X d_Mo_treeNow_64 (by decide) (by decide) rfl h (fun h => ?_)
      refine V_goto X 69 d_Mo_treeNow_65 (by decide) ?_
      have h9 := wp_some h
      exact hQ _ h9 (fun h9 => absurd h9 (by decide)) _ _ d_Mo_treeNow_69
  · skip
    refine V_aload_n X 0 d_Mo_treeNow_45 rfl ?_
    refine V_getR X 10 3 92 rfl ji10 (by decide) (by decide) (by decide) fl_Mo_7 d_Mo_treeNow_46 (by decide) (by decide) (by decide) (by decide) ?_
    refine V_iload_n X 1 d_Mo_treeNow_49 rfl ?_
    refine V_iald X d_Mo_treeNow_50 (by decide) (by decide) rfl h (fun h => ?_)
    refine V_goto X 69 d_Mo_treeNow_51 (by decide) ?_
    have h9 := wp_some h
    exact hQ _ h9 (fun h9 => absurd h9 (by decide)) _ _ d_Mo_treeNow_69
set_option maxHeartbeats 4000000 in
set_option maxRecDepth 100000 in
theorem Mo_ofTrees_L4_ok {p : Program} {l : Launch} {e : Env} {R : Room} {s : State} {m : MethodId} {args : Array Value} {below : List Frame} {meth : Method} {c : Code} {D : va_G} {ad : Nat → Nat} {cI cB : ClassId} {A : Nat → Prop} {cells slots : Nat} {Q : State → Prop} (X : Cx p R s m args meth c jR10 prog_13_method_57_code 4 5 D ad cI cB A cells slots) (fu : Nat) (l1 : Int32) (σ : Sg) (kont : (Int32 → Int32 → Option Int32)) {K : Int32 → Prop} (hQ : RP p l e R s m args below meth c 4 D ad cI cB A cells slots Q prog_13_method_57_code false σ K) (hk : ∀ (l2 : Int32) (l3 : Int32), wpO (kont l2 l3) K → V p l e R s m args below meth c 4 D A cells slots Q (wl ad cI cB σ) 27 [(0, Value.ref (ad 91)), (1, Value.int l1), (2, Value.int l2), (3, Value.int l3)] []) : ∀ (n : Nat) (l2 : Int32) (l3 : Int32), wpO (Mo_ofTrees_L4 fu l1 σ kont n l2 l3) K → V p l e R s m args below meth c 4 D A cells slots Q (wl ad cI cB σ) 4 [(0, Value.ref (ad 91)), (1, Value.int l1), (2, Value.int l2), (3, Value.int l3)] [] := by
  intro n
  induction n with
  | zero =>
    intro l2 l3 h
    exact (wp_none h).elim
  | succ n ih =>
    intro l2 l3 h
    rw [Mo_ofTrees_L4] at h
    refine V_iload_n X 3 d_Mo_ofTrees_4 rfl ?_
    refine V_aload_n X 0 d_Mo_ofTrees_5 rfl ?_
    refine V_getI X 10 1 rfl ji10 (by decide) (by decide) (by decide) fl_Mo_121 d_Mo_ofTrees_6 (by decide) (by decide) (by decide) ?_
    refine V_icmp_ge X 27 d_Mo_ofTrees_9 (by decide) h (fun c1 h => ?_) (fun c1 h => ?_)
    · skip
      exact hk l2 l3 h
    · skip
      refine V_iload_n X 2 d_Mo_ofTrees_12 rfl ?_
      refine V_aload_n X 0 d_Mo_ofTrees_13 rfl ?_
      refine V_iload_n X 3 d_Mo_ofTrees_14 rfl ?_
      refine V_iload_n X 1 d_Mo_ofTrees_15 rfl ?_
      refine V_cI X h (fun r2 q => C_V (q := 10) X [Value.int l3, Value.int l1] mt_Mo_treeNow ms_Mo_treeNow ml_Mo_162 (k_Mo_treeNow fu σ l3 l1 r2 q) rfl rfl (by omega) (Nat.le_of_ble_eq_true rfl) rfl (by decide) (by decide) (by decide) d_Mo_ofTrees_16) (fun r2 h => ?_)
      refine V_iadd X d_Mo_ofTrees_19 ?_
      refine V_istore_n X [(2, Value.int (l2 + r2)), (0, Value.ref (ad 91)), (1, Value.int l1), (3, Value.int l3)] d_Mo_ofTrees_20 (by decide) rfl ?_
      refine V_iinc X 3 (l3 + (1 : Int32)) [(3, Value.int (l3 + (1 : Int32))), (2, Value.int (l2 + r2)), (0, Value.ref (ad 91)), (1, Value.int l1)] d_Mo_ofTrees_21 rfl (by first | rfl | decide) (by decide) rfl ?_
      refine V_goto X 4 d_Mo_ofTrees_24 (by decide) ?_
      refine V_sub (lv' := [(0, Value.ref (ad 91)), (1, Value.int l1), (2, Value.int (l2 + r2)), (3, Value.int (l3 + (1 : Int32)))]) [2, 3, 1, 0] rfl ?_
      exact ih (l2 + r2) (l3 + (1 : Int32)) h
set_option maxHeartbeats 4000000 in
set_option maxRecDepth 100000 in
theorem k_Mo_ofTrees (fu : Nat) (σ : Sg) (a0 : Int32) (r : Int32) (h : Mo_ofTrees fu σ a0 = some r) : Evc y_Mo_ofTrees prog_13_method_57_code 4 (some .int) 5 (fun ad => [Value.ref (ad 91), Value.int a0]) σ σ (fun _ => some (.int r)) := by
  refine Evc_ofI (by decide) (fun ad => Nat.le_of_ble_eq_true rfl) (fun p l e R s m args below meth c D ad cI cB A Q X hQ => ?_)
  have X : Cx p R s m args meth c jR10 prog_13_method_57_code 4 5 D ad cI cB A 0 0 := X
  have hQ := hQ.pure
  have h : wpO (Mo_ofTrees fu σ a0) (fun q => q = r) := ⟨_, h, rfl⟩
  rw [Mo_ofTrees] at h
  refine V_sub (lv' := [(0, Value.ref (ad 91)), (1, Value.int a0)]) [0, 1] rfl ?_
  refine V_iconst (v := 0) X d_Mo_ofTrees_0 (by decide) ?_
  refine V_istore_n X [(2, Value.int (0 : Int32)), (0, Value.ref (ad 91)), (1, Value.int a0)] d_Mo_ofTrees_1 (by decide) rfl ?_
  refine V_iconst (v := 0) X d_Mo_ofTrees_2 (by decide) ?_
  refine V_istore_n X [(3, Value.int (0 : Int32)), (2, Value.int (0 : Int32)), (0, Value.ref (ad 91)), (1, Value.int a0)] d_Mo_ofTrees_3 (by decide) rfl ?_
  refine V_sub (lv' := [(0, Value.ref (ad 91)), (1, Value.int a0), (2, Value.int (0 : Int32)), (3, Value.int (0 : Int32))]) [2, 3, 1, 0] rfl ?_
  refine Mo_ofTrees_L4_ok X fu a0 σ _ hQ (fun l2_3 l3_4 h => ?_) fu (0 : Int32) (0 : Int32) h
  refine V_iload_n X 2 d_Mo_ofTrees_27 rfl ?_
  have h9 := wp_some h
  exact hQ _ h9 (fun h9 => absurd h9 (by decide)) _ _ d_Mo_ofTrees_28
set_option maxHeartbeats 4000000 in
set_option maxRecDepth 100000 in
theorem Mo_size_L4_ok {p : Program} {l : Launch} {e : Env} {R : Room} {s : State} {m : MethodId} {args : Array Value} {below : List Frame} {meth : Method} {c : Code} {D : va_G} {ad : Nat → Nat} {cI cB : ClassId} {A : Nat → Prop} {cells slots : Nat} {Q : State → Prop} (X : Cx p R s m args meth c jR10 prog_13_method_5_code 3 1 D ad cI cB A cells slots) (fu : Nat) (l0 : Int32) (σ : Sg) (kont : (Int32 → Int32 → Option Int32)) {K : Int32 → Prop} (hQ : RP p l e R s m args below meth c 3 D ad cI cB A cells slots Q prog_13_method_5_code false σ K) (hk : ∀ (l1 : Int32) (l2 : Int32), wpO (kont l1 l2) K → V p l e R s m args below meth c 3 D A cells slots Q (wl ad cI cB σ) 24 [(0, Value.int l0), (1, Value.int l1), (2, Value.int l2)] []) : ∀ (n : Nat) (l1 : Int32) (l2 : Int32), wpO (Mo_size_L4 fu l0 kont n l1 l2) K → V p l e R s m args below meth c 3 D A cells slots Q (wl ad cI cB σ) 4 [(0, Value.int l0), (1, Value.int l1), (2, Value.int l2)] [] := by
  intro n
  induction n with
  | zero =>
    intro l1 l2 h
    exact (wp_none h).elim
  | succ n ih =>
    intro l1 l2 h
    rw [Mo_size_L4] at h
    refine V_iload_n X 2 d_Mo_size_4 rfl ?_
    refine V_bipush (v := 10) X d_Mo_size_5 (by decide) ?_
    refine V_icmp_ge X 24 d_Mo_size_7 (by decide) h (fun c1 h => ?_) (fun c1 h => ?_)
    · skip
      exact hk l1 l2 h
    · skip
      refine V_iload_n X 1 d_Mo_size_10 rfl ?_
      refine V_iload_n X 0 d_Mo_size_11 rfl ?_
      refine V_iload_n X 2 d_Mo_size_12 rfl ?_
      refine V_ishr X d_Mo_size_13 ?_
      refine V_iconst (v := 1) X d_Mo_size_14 (by decide) ?_
      refine V_iand X d_Mo_size_15 ?_
      refine V_iadd X d_Mo_size_16 ?_
      refine V_istore_n X [(1, Value.int (l1 + ((l0 >>> (l2 &&& 31)) &&& (1 : Int32)))), (0, Value.int l0), (2, Value.int l2)] d_Mo_size_17 (by decide) rfl ?_
      refine V_iinc X 2 (l2 + (1 : Int32)) [(2, Value.int (l2 + (1 : Int32))), (1, Value.int (l1 + ((l0 >>> (l2 &&& 31)) &&& (1 : Int32)))), (0, Value.int l0)] d_Mo_size_18 rfl (by first | rfl | decide) (by decide) rfl ?_
      refine V_goto X 4 d_Mo_size_21 (by decide) ?_
      refine V_sub (lv' := [(0, Value.int l0), (1, Value.int (l1 + ((l0 >>> (l2 &&& 31)) &&& (1 : Int32)))), (2, Value.int (l2 + (1 : Int32)))]) [2, 1, 0] rfl ?_
      exact ih (l1 + ((l0 >>> (l2 &&& 31)) &&& (1 : Int32))) (l2 + (1 : Int32)) h
set_option maxHeartbeats 4000000 in
set_option maxRecDepth 100000 in
theorem k_Mo_size (fu : Nat) (σ : Sg) (a0 : Int32) (r : Int32) (h : Mo_size fu a0 = some r) : Evc y_Mo_size prog_13_method_5_code 3 (some .int) 1 (fun ad => [Value.int a0]) σ σ (fun _ => some (.int r)) := by
  refine Evc_ofI (by decide) (fun ad => Nat.le_of_ble_eq_true rfl) (fun p l e R s m args below meth c D ad cI cB A Q X hQ => ?_)
  have X : Cx p R s m args meth c jR10 prog_13_method_5_code 3 1 D ad cI cB A 0 0 := X
  have hQ := hQ.pure
  have h : wpO (Mo_size fu a0) (fun q => q = r) := ⟨_, h, rfl⟩
  rw [Mo_size] at h
  refine V_sub (lv' := [(0, Value.int a0)]) [0] rfl ?_
  refine V_iconst (v := 0) X d_Mo_size_0 (by decide) ?_
  refine V_istore_n X [(1, Value.int (0 : Int32)), (0, Value.int a0)] d_Mo_size_1 (by decide) rfl ?_
  refine V_iconst (v := 0) X d_Mo_size_2 (by decide) ?_
  refine V_istore_n X [(2, Value.int (0 : Int32)), (1, Value.int (0 : Int32)), (0, Value.int a0)] d_Mo_size_3 (by decide) rfl ?_
  refine V_sub (lv' := [(0, Value.int a0), (1, Value.int (0 : Int32)), (2, Value.int (0 : Int32))]) [2, 1, 0] rfl ?_
  refine Mo_size_L4_ok X fu a0 σ _ hQ (fun l1_2 l2_3 h => ?_) fu (0 : Int32) (0 : Int32) h
  refine V_iload_n X 1 d_Mo_size_24 rfl ?_
  have h9 := wp_some h
  exact hQ _ h9 (fun h9 => absurd h9 (by decide)) _ _ d_Mo_size_25
set_option maxHeartbeats 4000000 in
set_option maxRecDepth 100000 in
theorem k_Mo_howMany (fu : Nat) (σ : Sg) (a0 : Int32) (r : Int32) (h : Mo_howMany fu σ a0 = some r) : Evc y_Mo_howMany prog_13_method_58_code 2 (some .int) 6 (fun ad => [Value.ref (ad 91), Value.int a0]) σ σ (fun _ => some (.int r)) := by
  refine Evc_ofI (by decide) (fun ad => Nat.le_of_ble_eq_true rfl) (fun p l e R s m args below meth c D ad cI cB A Q X hQ => ?_)
  have X : Cx p R s m args meth c jR10 prog_13_method_58_code 2 6 D ad cI cB A 0 0 := X
  have hQ := hQ.pure
  have h : wpO (Mo_howMany fu σ a0) (fun q => q = r) := ⟨_, h, rfl⟩
  rw [Mo_howMany] at h
  refine V_sub (lv' := [(0, Value.ref (ad 91)), (1, Value.int a0)]) [0, 1] rfl ?_
  refine V_iload_n X 1 d_Mo_howMany_0 rfl ?_
  rcases wp_case h with ⟨c1, h⟩ | ⟨c1, h⟩
  · skip
    refine V_tableIn X 63 64 d_Mo_howMany_1 (0) (by rw [c1]; decide) (by decide) (by decide) rfl (by decide) ?_
    refine V_aload_n X 0 d_Mo_howMany_64 rfl ?_
    refine V_getI X 10 1 rfl ji10 (by decide) (by decide) (by decide) fl_Mo_121 d_Mo_howMany_65 (by decide) (by decide) (by decide) ?_
    have h9 := wp_some h
    exact hQ _ h9 (fun h9 => absurd h9 (by decide)) _ _ d_Mo_howMany_68
  · skip
    rcases wp_case h with ⟨c2, h⟩ | ⟨c2, h⟩
    · skip
      refine V_tableIn X 68 69 d_Mo_howMany_1 (1) (by rw [c2]; decide) (by decide) (by decide) rfl (by decide) ?_
      refine V_aload_n X 0 d_Mo_howMany_69 rfl ?_
      refine V_getI X 10 2 rfl ji10 (by decide) (by decide) (by decide) fl_Mo_124 d_Mo_howMany_70 (by decide) (by decide) (by decide) ?_
      have h9 := wp_some h
      exact hQ _ h9 (fun h9 => absurd h9 (by decide)) _ _ d_Mo_howMany_73
    · skip
      rcases wp_case h with ⟨c3, h⟩ | ⟨c3, h⟩
      · skip
        refine V_tableIn X 73 74 d_Mo_howMany_1 (2) (by rw [c3]; decide) (by decide) (by decide) rfl (by decide) ?_
        refine V_aload_n X 0 d_Mo_howMany_74 rfl ?_
        refine V_iload_n X 1 d_Mo_howMany_75 rfl ?_
        refine V_iconst (v := 2) X d_Mo_howMany_76 (by decide) ?_
        refine V_isub X d_Mo_howMany_77 ?_
        refine V_cI X h (fun r4 q => C_V (q := 10) X [Value.int (a0 - (2 : Int32))] mt_Mo_ofTrees ms_Mo_ofTrees ml_Mo_269 (k_Mo_ofTrees fu σ (a0 - (2 : Int32)) r4 q) rfl rfl (by omega) (Nat.le_of_ble_eq_true rfl) rfl (by decide) (by decide) (by decide) d_Mo_howMany_78) (fun r4 h => ?_)
        have h9 := wp_some h
        exact hQ _ h9 (fun h9 => absurd h9 (by decide)) _ _ d_Mo_howMany_81
      · skip
        rcases wp_case h with ⟨c5, h⟩ | ⟨c5, h⟩
        · skip
          refine V_tableIn X 73 74 d_Mo_howMany_1 (3) (by rw [c5]; decide) (by decide) (by decide) rfl (by decide) ?_
          refine V_aload_n X 0 d_Mo_howMany_74 rfl ?_
          refine V_iload_n X 1 d_Mo_howMany_75 rfl ?_
          refine V_iconst (v := 2) X d_Mo_howMany_76 (by decide) ?_
          refine V_isub X d_Mo_howMany_77 ?_
          refine V_cI X h (fun r6 q => C_V (q := 10) X [Value.int (a0 - (2 : Int32))] mt_Mo_ofTrees ms_Mo_ofTrees ml_Mo_269 (k_Mo_ofTrees fu σ (a0 - (2 : Int32)) r6 q) rfl rfl (by omega) (Nat.le_of_ble_eq_true rfl) rfl (by decide) (by decide) (by decide) d_Mo_howMany_78) (fun r6 h => ?_)
          have h9 := wp_some h
          exact hQ _ h9 (fun h9 => absurd h9 (by decide)) _ _ d_Mo_howMany_81
        · skip
          rcases wp_case h with ⟨c7, h⟩ | ⟨c7, h⟩
          · skip
            refine V_tableIn X 81 82 d_Mo_howMany_1 (4) (by rw [c7]; decide) (by decide) (by decide) rfl (by decide) ?_
            refine V_aload_n X 0 d_Mo_howMany_82 rfl ?_
            refine V_getI X 10 9 rfl ji10 (by decide) (by decide) (by decide) fl_Mo_127 d_Mo_howMany_83 (by decide) (by decide) (by decide) ?_
            refine V_cI X h (fun r8 q => C_S X [Value.int (gF σ 91 9)] mt_Mo_size ms_Mo_size ml_Mo_169 (k_Mo_size fu σ (gF σ 91 9) r8 q) rfl rfl (by omega) (Nat.le_of_ble_eq_true rfl) d_Mo_howMany_86) (fun r8 h => ?_)
            have h9 := wp_some h
            exact hQ _ h9 (fun h9 => absurd h9 (by decide)) _ _ d_Mo_howMany_89
          · skip
            rcases wp_case h with ⟨c9, h⟩ | ⟨c9, h⟩
            · skip
              refine V_tableIn X 89 90 d_Mo_howMany_1 (5) (by rw [c9]; decide) (by decide) (by decide) rfl (by decide) ?_
              refine V_aload_n X 0 d_Mo_howMany_90 rfl ?_
              refine V_aload_n X 0 d_Mo_howMany_91 rfl ?_
              refine V_getI X 10 9 rfl ji10 (by decide) (by decide) (by decide) fl_Mo_127 d_Mo_howMany_92 (by decide) (by decide) (by decide) ?_
              refine V_cI X h (fun r10 q => C_V (q := 10) X [Value.int (gF σ 91 9)] mt_Mo_worthIn ms_Mo_worthIn ml_Mo_187 (k_Mo_worthIn fu σ (gF σ 91 9) r10 q) rfl rfl (by omega) (Nat.le_of_ble_eq_true rfl) rfl (by decide) (by decide) (by decide) d_Mo_howMany_95) (fun r10 h => ?_)
              have h9 := wp_some h
              exact hQ _ h9 (fun h9 => absurd h9 (by decide)) _ _ d_Mo_howMany_98
            · skip
              rcases wp_case h with ⟨c11, h⟩ | ⟨c11, h⟩
              · skip
                refine V_tableIn X 98 99 d_Mo_howMany_1 (6) (by rw [c11]; decide) (by decide) (by decide) rfl (by decide) ?_
                refine V_aload_n X 0 d_Mo_howMany_99 rfl ?_
                refine V_getI X 10 11 rfl ji10 (by decide) (by decide) (by decide) fl_Mo_133 d_Mo_howMany_100 (by decide) (by decide) (by decide) ?_
                have h9 := wp_some h
                exact hQ _ h9 (fun h9 => absurd h9 (by decide)) _ _ d_Mo_howMany_103
              · skip
                rcases wp_case h with ⟨c12, h⟩ | ⟨c12, h⟩
                · skip
                  refine V_tableIn X 103 104 d_Mo_howMany_1 (7) (by rw [c12]; decide) (by decide) (by decide) rfl (by decide) ?_
                  refine V_aload_n X 0 d_Mo_howMany_104 rfl ?_
                  refine V_getI X 10 10 rfl ji10 (by decide) (by decide) (by decide) fl_Mo_130 d_Mo_howMany_105 (by decide) (by decide) (by decide) ?_
                  have h9 := wp_some h
                  exact hQ _ h9 (fun h9 => absurd h9 (by decide)) _ _ d_Mo_howMany_108
                · skip
                  rcases wp_case h with ⟨c13, h⟩ | ⟨c13, h⟩
                  · skip
                    refine V_tableIn X 108 109 d_Mo_howMany_1 (8) (by rw [c13]; decide) (by decide) (by decide) rfl (by decide) ?_
                    refine V_aload_n X 0 d_Mo_howMany_109 rfl ?_
                    refine V_getI X 10 13 rfl ji10 (by decide) (by decide) (by decide) fl_Mo_139 d_Mo_howMany_110 (by decide) (by decide) (by decide) ?_
                    have h9 := wp_some h
                    exact hQ _ h9 (fun h9 => absurd h9 (by decide)) _ _ d_Mo_howMany_113
                  · skip
                    rcases wp_case h with ⟨c14, h⟩ | ⟨c14, h⟩
                    · skip
                      refine V_tableIn X 113 114 d_Mo_howMany_1 (9) (by rw [c14]; decide) (by decide) (by decide) rfl (by decide) ?_
                      refine V_aload_n X 0 d_Mo_howMany_114 rfl ?_
                      refine V_getI X 10 17 rfl ji10 (by decide) (by decide) (by decide) fl_Mo_87 d_Mo_howMany_115 (by decide) (by decide) (by decide) ?_
                      have h9 := wp_some h
                      exact hQ _ h9 (fun h9 => absurd h9 (by decide)) _ _ d_Mo_howMany_118
                    · skip
                      rcases wp_case h with ⟨c15, h⟩ | ⟨c15, h⟩
                      · skip
                        refine V_tableIn X 118 119 d_Mo_howMany_1 (10) (by rw [c15]; decide) (by decide) (by decide) rfl (by decide) ?_
                        refine V_aload_n X 0 d_Mo_howMany_119 rfl ?_
                        refine V_getI X 10 0 rfl ji10 (by decide) (by decide) (by decide) fl_Mo_136 d_Mo_howMany_120 (by decide) (by decide) (by decide) ?_
                        have h9 := wp_some h
                        exact hQ _ h9 (fun h9 => absurd h9 (by decide)) _ _ d_Mo_howMany_123
                      · skip
                        rcases wp_case h with ⟨c16, h⟩ | ⟨c16, h⟩
                        · skip
                          refine V_tableIn X 123 124 d_Mo_howMany_1 (11) (by rw [c16]; decide) (by decide) (by decide) rfl (by decide) ?_
                          refine V_aload_n X 0 d_Mo_howMany_124 rfl ?_
                          refine V_getI X 10 12 rfl ji10 (by decide) (by decide) (by decide) fl_Mo_204 d_Mo_howMany_125 (by decide) (by decide) (by decide) ?_
                          have h9 := wp_some h
                          exact hQ _ h9 (fun h9 => absurd h9 (by decide)) _ _ d_Mo_howMany_128
                        · skip
                          refine V_tableOut X 129 d_Mo_howMany_1 (by have z0 := sw_ne c1 (0) (by decide); have z1 := sw_ne c2 (1) (by decide); have z2 := sw_ne c3 (2) (by decide); have z3 := sw_ne c5 (3) (by decide); have z4 := sw_ne c7 (4) (by decide); have z5 := sw_ne c9 (5) (by decide); have z6 := sw_ne c11 (6) (by decide); have z7 := sw_ne c12 (7) (by decide); have z8 := sw_ne c13 (8) (by decide); have z9 := sw_ne c14 (9) (by decide); have z10 := sw_ne c15 (10) (by decide); have z11 := sw_ne c16 (11) (by decide); omega) (by decide) ?_
                          refine V_bipush (v := -102) X d_Mo_howMany_129 (by decide) ?_
                          have h9 := wp_some h
                          exact hQ _ h9 (fun h9 => absurd h9 (by decide)) _ _ d_Mo_howMany_131
set_option maxHeartbeats 4000000 in
set_option maxRecDepth 100000 in
theorem k_Mo_count (fu : Nat) (σ : Sg) (a0 : Int32) (r : Int32) (h : Mo_count fu σ a0 = some r) : Evc y_Mo_count prog_13_method_59_code 2 (some .int) 7 (fun ad => [Value.ref (ad 91), Value.int a0]) σ σ (fun _ => some (.int r)) := by
  refine Evc_ofI (by decide) (fun ad => Nat.le_of_ble_eq_true rfl) (fun p l e R s m args below meth c D ad cI cB A Q X hQ => ?_)
  have X : Cx p R s m args meth c jR10 prog_13_method_59_code 2 7 D ad cI cB A 0 0 := X
  have hQ := hQ.pure
  have h : wpO (Mo_count fu σ a0) (fun q => q = r) := ⟨_, h, rfl⟩
  rw [Mo_count] at h
  refine V_sub (lv' := [(0, Value.ref (ad 91)), (1, Value.int a0)]) [0, 1] rfl ?_
  refine V_aload_n X 0 d_Mo_count_0 rfl ?_
  refine V_iload_n X 1 d_Mo_count_1 rfl ?_
  refine V_cI X h (fun r1 q => C_V (q := 10) X [Value.int a0] mt_Mo_howMany ms_Mo_howMany ml_Mo_272 (k_Mo_howMany fu σ a0 r1 q) rfl rfl (by omega) (Nat.le_of_ble_eq_true rfl) rfl (by decide) (by decide) (by decide) d_Mo_count_2) (fun r1 h => ?_)
  have h9 := wp_some h
  exact hQ _ h9 (fun h9 => absurd h9 (by decide)) _ _ d_Mo_count_5
set_option maxHeartbeats 4000000 in
set_option maxRecDepth 100000 in
theorem k_Mo_mix (σ : Sg) (a0 : Int64) (σ' : Sg) (h : Mo_mix σ a0 = some σ') : Evc y_Mo_mix prog_13_method_60_code 3 (none) 1 (fun ad => [Value.ref (ad 91), Value.long a0]) σ σ' (fun _ => none) := by
  refine Evc_ofV (by decide) (fun ad => Nat.le_of_ble_eq_true rfl) (fun p l e R s m args below meth c D ad cI cB A Q X hQ => ?_)
  have X : Cx p R s m args meth c jR10 prog_13_method_60_code 3 1 D ad cI cB A 0 0 := X
  have h : wpO (Mo_mix σ a0) (fun q => q = σ') := ⟨_, h, rfl⟩
  rw [Mo_mix] at h
  refine V_sub (lv' := [(0, Value.ref (ad 91)), (1, Value.long a0)]) [0, 1] rfl ?_
  refine V_aload_n X 0 d_Mo_mix_0 rfl ?_
  refine V_ldc2 X d_Mo_mix_1 kl_Mo_275 ?_
  refine V_aload_n X 0 d_Mo_mix_4 rfl ?_
  refine V_getL X 10 45 rfl ji10 (by decide) (by decide) (by decide) fl_Mo_277 d_Mo_mix_5 (by decide) (by decide) (by decide) ?_
  refine V_lmul X d_Mo_mix_8 ?_
  refine V_lload_n X 1 d_Mo_mix_9 rfl ?_
  refine V_ladd X d_Mo_mix_10 ?_
  refine V_putL X 10 45 rfl ji10 jk10 jn10 (by decide) (by decide) (by decide) rfl (by decide +kernel) fl_Mo_277 d_Mo_mix_11 (by decide) (by decide) (by decide) ?_
  have h9 := wp_some h
  exact hQ _ h9 _ _ d_Mo_mix_14
set_option maxHeartbeats 4000000 in
set_option maxRecDepth 100000 in
theorem Mo_gameNow_L9_ok {p : Program} {l : Launch} {e : Env} {R : Room} {s : State} {m : MethodId} {args : Array Value} {below : List Frame} {meth : Method} {c : Code} {D : va_G} {ad : Nat → Nat} {cI cB : ClassId} {A : Nat → Prop} {cells slots : Nat} {Q : State → Prop} (X : Cx p R s m args meth c jR10 prog_13_method_43_code 5 6 D ad cI cB A cells slots) (fu : Nat) (l1 : Int32) (l2 : Int32) (kont : (Int32 → Sg → Option (Int32 × Sg))) {K : (Int32 × Sg) → Prop} (hQ : RI p l e R s m args below meth c 5 D ad cI cB A cells slots Q prog_13_method_43_code false K) (hk : ∀ (l3 : Int32) (σ : Sg), wpO (kont l3 σ) K → V p l e R s m args below meth c 5 D A cells slots Q (wl ad cI cB σ) 62 [(0, Value.ref (ad 91)), (1, Value.int l1), (2, Value.int l2), (3, Value.int l3)] []) : ∀ (n : Nat) (l3 : Int32) (σ : Sg), wpO (Mo_gameNow_L9 fu l1 l2 kont n l3 σ) K → V p l e R s m args below meth c 5 D A cells slots Q (wl ad cI cB σ) 9 [(0, Value.ref (ad 91)), (1, Value.int l1), (2, Value.int l2), (3, Value.int l3)] [] := by
  intro n
  induction n with
  | zero =>
    intro l3 σ h
    exact (wp_none h).elim
  | succ n ih =>
    intro l3 σ h
    rw [Mo_gameNow_L9] at h
    refine V_iload_n X 3 d_Mo_gameNow_9 rfl ?_
    refine V_if_lt X 62 d_Mo_gameNow_10 (by decide) h (fun c1 h => ?_) (fun c1 h => ?_)
    · skip
      exact hk l3 σ h
    · skip
      refine V_aload_n X 0 d_Mo_gameNow_13 rfl ?_
      refine V_iload_n X 1 d_Mo_gameNow_14 rfl ?_
      refine V_iload_n X 3 d_Mo_gameNow_15 rfl ?_
      refine V_cI X h (fun r2 q => C_V (q := 10) X [Value.int l1, Value.int l3] mt_Mo_bestNext ms_Mo_bestNext ml_Mo_216 (k_Mo_bestNext fu σ l1 l3 r2 q) rfl rfl (by omega) (Nat.le_of_ble_eq_true rfl) rfl (by decide) (by decide) (by decide) d_Mo_gameNow_16) (fun r2 h => ?_)
      refine V_istore X [(4, Value.int r2), (0, Value.ref (ad 91)), (1, Value.int l1), (2, Value.int l2), (3, Value.int l3)] d_Mo_gameNow_19 (by decide) rfl ?_
      refine V_aload_n X 1 d_Mo_gameNow_21 rfl ?_
      refine V_getR X 10 27 105 rfl ji10 (by decide) (by decide) (by decide) fl_Mo_50 d_Mo_gameNow_22 (by decide) (by decide) (by decide) (by decide) ?_
      refine V_iload_n X 4 d_Mo_gameNow_25 rfl ?_
      refine V_iload X 0 d_Mo_gameNow_26 rfl ?_
      refine V_iconst (v := -1) X d_Mo_gameNow_28 (by decide) ?_
      refine V_icmp_ne X 36 d_Mo_gameNow_29 (by decide) h (fun c3 h => ?_) (fun c3 h => ?_)
      · skip
        refine V_aload_n X 1 d_Mo_gameNow_36 rfl ?_
        refine V_getR X 10 7 96 rfl ji10 (by decide) (by decide) (by decide) fl_Mo_22 d_Mo_gameNow_37 (by decide) (by decide) (by decide) (by decide) ?_
        refine V_iload X 0 d_Mo_gameNow_40 rfl ?_
        refine V_iald X d_Mo_gameNow_42 (by decide) (by decide) rfl h (fun h => ?_)
        refine V_aload_n X 1 d_Mo_gameNow_43 rfl ?_
        refine V_getR X 10 27 105 rfl ji10 (by decide) (by decide) (by decide) fl_Mo_50 d_Mo_gameNow_44 (by decide) (by decide) (by decide) (by decide) ?_
        refine V_iload_n X 4 d_Mo_gameNow_47 rfl ?_
        refine V_iconst (v := 1) X d_Mo_gameNow_48 (by decide) ?_
        refine V_iload X 0 d_Mo_gameNow_49 rfl ?_
        refine V_ishl X d_Mo_gameNow_51 ?_
        refine V_ior X d_Mo_gameNow_52 ?_
        refine V_iald X d_Mo_gameNow_53 (by decide) (by decide) rfl h (fun h => ?_)
        refine V_isub X d_Mo_gameNow_54 ?_
        refine V_iast X d_Mo_gameNow_55 (by decide) (by decide) rfl h (fun h => ?_)
        refine V_iinc X 4 (l3 + (-1 : Int32)) [(3, Value.int (l3 + (-1 : Int32))), (4, Value.int r2), (0, Value.ref (ad 91)), (1, Value.int l1), (2, Value.int l2)] d_Mo_gameNow_56 rfl (by first | rfl | decide) (by decide) rfl ?_
        refine V_goto X 9 d_Mo_gameNow_59 (by decide) ?_
        refine V_sub (lv' := [(0, Value.ref (ad 91)), (1, Value.int l1), (2, Value.int l2), (3, Value.int (l3 + (-1 : Int32)))]) [2, 3, 4, 0] rfl ?_
        exact ih (l3 + (-1 : Int32)) (sA σ 105 (ix l3) ((gA σ 96 (ix r2)) - (gA σ 105 (ix (l3 ||| ((1 : Int32) <<< (r2 &&& 31))))))) h
      · skip
        refine V_iconst (v := 0) X d_Mo_gameNow_32 (by decide) ?_
        refine V_goto X 55 d_Mo_gameNow_33 (by decide) ?_
        refine V_iast X d_Mo_gameNow_55 (by decide) (by decide) rfl h (fun h => ?_)
        refine V_iinc X 4 (l3 + (-1 : Int32)) [(3, Value.int (l3 + (-1 : Int32))), (4, Value.int r2), (0, Value.ref (ad 91)), (1, Value.int l1), (2, Value.int l2)] d_Mo_gameNow_56 rfl (by first | rfl | decide) (by decide) rfl ?_
        refine V_goto X 9 d_Mo_gameNow_59 (by decide) ?_
        refine V_sub (lv' := [(0, Value.ref (ad 91)), (1, Value.int l1), (2, Value.int l2), (3, Value.int (l3 + (-1 : Int32)))]) [2, 3, 4, 0] rfl ?_
        exact ih (l3 + (-1 : Int32)) (sA σ 105 (ix l3) (0 : Int32)) h
set_option maxHeartbeats 4000000 in
set_option maxRecDepth 100000 in
theorem k_Mo_gameNow (fu : Nat) (σ : Sg) (a0 : Int32) (a1 : Int32) (r : Int32) (σ' : Sg) (h : Mo_gameNow fu σ a0 a1 = some (r, σ')) : Evc y_Mo_gameNow prog_13_method_43_code 5 (some .int) 6 (fun ad => [Value.ref (ad 91), Value.int a0, Value.int a1]) σ σ' (fun _ => some (.int r)) := by
  refine Evc_ofI (by decide) (fun ad => Nat.le_of_ble_eq_true rfl) (fun p l e R s m args below meth c D ad cI cB A Q X hQ => ?_)
  have X : Cx p R s m args meth c jR10 prog_13_method_43_code 5 6 D ad cI cB A 0 0 := X
  have h : wpO (Mo_gameNow fu σ a0 a1) (fun q => q = (r, σ')) := ⟨_, h, rfl⟩
  rw [Mo_gameNow] at h
  refine V_sub (lv' := [(0, Value.ref (ad 91)), (1, Value.int a0), (2, Value.int a1)]) [0, 1, 2] rfl ?_
  refine V_iconst (v := 1) X d_Mo_gameNow_0 (by decide) ?_
  refine V_aload_n X 0 d_Mo_gameNow_1 rfl ?_
  refine V_getI X 10 2 rfl ji10 (by decide) (by decide) (by decide) fl_Mo_124 d_Mo_gameNow_2 (by decide) (by decide) (by decide) ?_
  refine V_ishl X d_Mo_gameNow_5 ?_
  refine V_iconst (v := 1) X d_Mo_gameNow_6 (by decide) ?_
  refine V_isub X d_Mo_gameNow_7 ?_
  refine V_istore_n X [(3, Value.int (((1 : Int32) <<< ((gF σ 91 2) &&& 31)) - (1 : Int32))), (0, Value.ref (ad 91)), (1, Value.int a0), (2, Value.int a1)] d_Mo_gameNow_8 (by decide) rfl ?_
  refine V_sub (lv' := [(0, Value.ref (ad 91)), (1, Value.int a0), (2, Value.int a1), (3, Value.int (((1 : Int32) <<< ((gF σ 91 2) &&& 31)) - (1 : Int32)))]) [1, 2, 3, 0] rfl ?_
  refine Mo_gameNow_L9_ok X fu a0 a1 _ hQ (fun l3_4 s5 h => ?_) fu (((1 : Int32) <<< ((gF σ 91 2) &&& 31)) - (1 : Int32)) σ h
  refine V_iload_n X 2 d_Mo_gameNow_62 rfl ?_
  refine V_if_ne X 78 d_Mo_gameNow_63 (by decide) h (fun c6 h => ?_) (fun c6 h => ?_)
  · skip
    refine V_aload_n X 0 d_Mo_gameNow_78 rfl ?_
    refine V_iload_n X 1 d_Mo_gameNow_79 rfl ?_
    refine V_iconst (v := 0) X d_Mo_gameNow_80 (by decide) ?_
    refine V_cI X h (fun r7 q => C_V (q := 10) X [Value.int a0, Value.int (0 : Int32)] mt_Mo_bestNext ms_Mo_bestNext ml_Mo_216 (k_Mo_bestNext fu s5 a0 (0 : Int32) r7 q) rfl rfl (by omega) (Nat.le_of_ble_eq_true rfl) rfl (by decide) (by decide) (by decide) d_Mo_gameNow_81) (fun r7 h => ?_)
    have h9 := wp_some h
    exact hQ _ _ h9 (fun h9 => absurd h9 (by decide)) _ _ d_Mo_gameNow_84
  · skip
    refine V_aload_n X 0 d_Mo_gameNow_66 rfl ?_
    refine V_getR X 10 27 105 rfl ji10 (by decide) (by decide) (by decide) fl_Mo_50 d_Mo_gameNow_67 (by decide) (by decide) (by decide) (by decide) ?_
    refine V_iconst (v := 0) X d_Mo_gameNow_70 (by decide) ?_
    refine V_iald X d_Mo_gameNow_71 (by decide) (by decide) rfl h (fun h => ?_)
    refine V_bipush (v := 100) X d_Mo_gameNow_72 (by decide) ?_
    refine V_iadd X d_Mo_gameNow_74 ?_
    refine V_goto X 84 d_Mo_gameNow_75 (by decide) ?_
    have h9 := wp_some h
    exact hQ _ _ h9 (fun h9 => absurd h9 (by decide)) _ _ d_Mo_gameNow_84
set_option maxHeartbeats 4000000 in
set_option maxRecDepth 100000 in
theorem Mo_needsOf_L16_ok {p : Program} {l : Launch} {e : Env} {R : Room} {s : State} {m : MethodId} {args : Array Value} {below : List Frame} {meth : Method} {c : Code} {D : va_G} {ad : Nat → Nat} {cI cB : ClassId} {A : Nat → Prop} {cells slots : Nat} {Q : State → Prop} (X : Cx p R s m args meth c jR10 prog_13_method_50_code 6 4 D ad cI cB A cells slots) (fu : Nat) (l1 : Int32) (l2 : Int32) (l3 : Int32) (kont : (Int32 → Int32 → Sg → Option (Int32 × Sg))) {K : (Int32 × Sg) → Prop} (hQ : RI p l e R s m args below meth c 6 D ad cI cB A cells slots Q prog_13_method_50_code false K) (hk : ∀ (l4 : Int32) (l5 : Int32) (σ : Sg), wpO (kont l4 l5 σ) K → V p l e R s m args below meth c 6 D A cells slots Q (wl ad cI cB σ) 94 [(0, Value.ref (ad 91)), (1, Value.int l1), (2, Value.int l2), (3, Value.int l3), (4, Value.int l4), (5, Value.int l5)] []) : ∀ (n : Nat) (l4 : Int32) (l5 : Int32) (σ : Sg), wpO (Mo_needsOf_L16 fu l1 l2 l3 kont n l4 l5 σ) K → V p l e R s m args below meth c 6 D A cells slots Q (wl ad cI cB σ) 16 [(0, Value.ref (ad 91)), (1, Value.int l1), (2, Value.int l2), (3, Value.int l3), (4, Value.int l4), (5, Value.int l5)] [] := by
  intro n
  induction n with
  | zero =>
    intro l4 l5 σ h
    exact (wp_none h).elim
  | succ n ih =>
    intro l4 l5 σ h
    rw [Mo_needsOf_L16] at h
    refine V_iload X 5 d_Mo_needsOf_16 rfl ?_
    refine V_aload_n X 0 d_Mo_needsOf_18 rfl ?_
    refine V_getI X 10 13 rfl ji10 (by decide) (by decide) (by decide) fl_Mo_139 d_Mo_needsOf_19 (by decide) (by decide) (by decide) ?_
    refine V_icmp_ge X 94 d_Mo_needsOf_22 (by decide) h (fun c2 h => ?_) (fun c2 h => ?_)
    · skip
      exact hk l4 l5 σ h
    · skip
      refine V_iload X 4 d_Mo_needsOf_25 rfl ?_
      refine V_if_eq X 85 d_Mo_needsOf_27 (by decide) h (fun c3 h => ?_) (fun c3 h => ?_)
      · skip
        refine V_iconst (v := 0) X d_Mo_needsOf_85 (by decide) ?_
        refine V_istore X [(4, Value.int (0 : Int32)), (0, Value.ref (ad 91)), (1, Value.int l1), (2, Value.int l2), (3, Value.int l3), (5, Value.int l5)] d_Mo_needsOf_86 (by decide) rfl ?_
        refine V_iinc X 5 (l5 + (1 : Int32)) [(5, Value.int (l5 + (1 : Int32))), (4, Value.int (0 : Int32)), (0, Value.ref (ad 91)), (1, Value.int l1), (2, Value.int l2), (3, Value.int l3)] d_Mo_needsOf_88 rfl (by first | rfl | decide) (by decide) rfl ?_
        refine V_goto X 16 d_Mo_needsOf_91 (by decide) ?_
        refine V_sub (lv' := [(0, Value.ref (ad 91)), (1, Value.int l1), (2, Value.int l2), (3, Value.int l3), (4, Value.int (0 : Int32)), (5, Value.int (l5 + (1 : Int32)))]) [2, 3, 4, 5, 1, 0] rfl ?_
        exact ih (0 : Int32) (l5 + (1 : Int32)) σ h
      · skip
        refine V_aload_n X 0 d_Mo_needsOf_30 rfl ?_
        refine V_getR X 10 14 98 rfl ji10 (by decide) (by decide) (by decide) fl_Mo_28 d_Mo_needsOf_31 (by decide) (by decide) (by decide) (by decide) ?_
        refine V_iload X 5 d_Mo_needsOf_34 rfl ?_
        refine V_iald X d_Mo_needsOf_36 (by decide) (by decide) rfl h (fun h => ?_)
        refine V_iload_n X 1 d_Mo_needsOf_37 rfl ?_
        refine V_icmp_ne X 81 d_Mo_needsOf_38 (by decide) h (fun c4 h => ?_) (fun c4 h => ?_)
        · skip
          refine V_iconst (v := 1) X d_Mo_needsOf_81 (by decide) ?_
          refine V_goto X 86 d_Mo_needsOf_82 (by decide) ?_
          refine V_istore X [(4, Value.int (1 : Int32)), (0, Value.ref (ad 91)), (1, Value.int l1), (2, Value.int l2), (3, Value.int l3), (5, Value.int l5)] d_Mo_needsOf_86 (by decide) rfl ?_
          refine V_iinc X 5 (l5 + (1 : Int32)) [(5, Value.int (l5 + (1 : Int32))), (4, Value.int (1 : Int32)), (0, Value.ref (ad 91)), (1, Value.int l1), (2, Value.int l2), (3, Value.int l3)] d_Mo_needsOf_88 rfl (by first | rfl | decide) (by decide) rfl ?_
          refine V_goto X 16 d_Mo_needsOf_91 (by decide) ?_
          refine V_sub (lv' := [(0, Value.ref (ad 91)), (1, Value.int l1), (2, Value.int l2), (3, Value.int l3), (4, Value.int (1 : Int32)), (5, Value.int (l5 + (1 : Int32)))]) [2, 3, 4, 5, 1, 0] rfl ?_
          exact ih (1 : Int32) (l5 + (1 : Int32)) σ h
        · skip
          refine V_aload_n X 0 d_Mo_needsOf_41 rfl ?_
          refine V_iload_n X 1 d_Mo_needsOf_42 rfl ?_
          refine V_iload_n X 3 d_Mo_needsOf_43 rfl ?_
          refine V_cP X h (fun r5 s6 q => C_V (q := 10) X [Value.int l1, Value.int l3] mt_Mo_costWith ms_Mo_costWith ml_Mo_229 (k_Mo_costWith fu σ l1 l3 r5 s6 q) rfl rfl (by omega) (Nat.le_of_ble_eq_true rfl) rfl (by decide) (by decide) (by decide) d_Mo_needsOf_44) (fun r5 s6 h => ?_)
          refine V_aload_n X 0 d_Mo_needsOf_47 rfl ?_
          refine V_getR X 10 15 99 rfl ji10 (by decide) (by decide) (by decide) fl_Mo_31 d_Mo_needsOf_48 (by decide) (by decide) (by decide) (by decide) ?_
          refine V_iload X 5 d_Mo_needsOf_51 rfl ?_
          refine V_iald X d_Mo_needsOf_53 (by decide) (by decide) rfl h (fun h => ?_)
          refine V_icmp_gt X 61 d_Mo_needsOf_54 (by decide) h (fun c7 h => ?_) (fun c7 h => ?_)
          · skip
            refine V_iconst (v := 0) X d_Mo_needsOf_61 (by decide) ?_
            refine V_aload_n X 0 d_Mo_needsOf_62 rfl ?_
            refine V_getR X 10 16 100 rfl ji10 (by decide) (by decide) (by decide) fl_Mo_34 d_Mo_needsOf_63 (by decide) (by decide) (by decide) (by decide) ?_
            refine V_iload X 5 d_Mo_needsOf_66 rfl ?_
            refine V_iald X d_Mo_needsOf_68 (by decide) (by decide) rfl h (fun h => ?_)
            refine V_iconst (v := 1) X d_Mo_needsOf_69 (by decide) ?_
            refine V_icmp_ne X 77 d_Mo_needsOf_70 (by decide) h (fun c8 h => ?_) (fun c8 h => ?_)
            · skip
              refine V_iconst (v := 0) X d_Mo_needsOf_77 (by decide) ?_
              refine V_icmp_ne X 85 d_Mo_needsOf_78 (by decide) h (fun c9 h => ?_) (fun c9 h => ?_)
              · skip
                refine V_iconst (v := 0) X d_Mo_needsOf_85 (by decide) ?_
                refine V_istore X [(4, Value.int (0 : Int32)), (0, Value.ref (ad 91)), (1, Value.int l1), (2, Value.int l2), (3, Value.int l3), (5, Value.int l5)] d_Mo_needsOf_86 (by decide) rfl ?_
                refine V_iinc X 5 (l5 + (1 : Int32)) [(5, Value.int (l5 + (1 : Int32))), (4, Value.int (0 : Int32)), (0, Value.ref (ad 91)), (1, Value.int l1), (2, Value.int l2), (3, Value.int l3)] d_Mo_needsOf_88 rfl (by first | rfl | decide) (by decide) rfl ?_
                refine V_goto X 16 d_Mo_needsOf_91 (by decide) ?_
                refine V_sub (lv' := [(0, Value.ref (ad 91)), (1, Value.int l1), (2, Value.int l2), (3, Value.int l3), (4, Value.int (0 : Int32)), (5, Value.int (l5 + (1 : Int32)))]) [2, 3, 4, 5, 1, 0] rfl ?_
                exact ih (0 : Int32) (l5 + (1 : Int32)) s6 h
              · skip
                refine V_iconst (v := 1) X d_Mo_needsOf_81 (by decide) ?_
                refine V_goto X 86 d_Mo_needsOf_82 (by decide) ?_
                refine V_istore X [(4, Value.int (1 : Int32)), (0, Value.ref (ad 91)), (1, Value.int l1), (2, Value.int l2), (3, Value.int l3), (5, Value.int l5)] d_Mo_needsOf_86 (by decide) rfl ?_
                refine V_iinc X 5 (l5 + (1 : Int32)) [(5, Value.int (l5 + (1 : Int32))), (4, Value.int (1 : Int32)), (0, Value.ref (ad 91)), (1, Value.int l1), (2, Value.int l2), (3, Value.int l3)] d_Mo_needsOf_88 rfl (by first | rfl | decide) (by decide) rfl ?_
                refine V_goto X 16 d_Mo_needsOf_91 (by decide) ?_
                refine V_sub (lv' := [(0, Value.ref (ad 91)), (1, Value.int l1), (2, Value.int l2), (3, Value.int l3), (4, Value.int (1 : Int32)), (5, Value.int (l5 + (1 : Int32)))]) [2, 3, 4, 5, 1, 0] rfl ?_
                exact ih (1 : Int32) (l5 + (1 : Int32)) s6 h
            · skip
              refine V_iconst (v := 1) X d_Mo_needsOf_73 (by decide) ?_
              refine V_goto X 78 d_Mo_needsOf_74 (by decide) ?_
              refine V_icmp_ne X 85 d_Mo_needsOf_78 (by decide) h (fun c10 h => ?_) (fun c10 h => ?_)
              · skip
                refine V_iconst (v := 0) X d_Mo_needsOf_85 (by decide) ?_
                refine V_istore X [(4, Value.int (0 : Int32)), (0, Value.ref (ad 91)), (1, Value.int l1), (2, Value.int l2), (3, Value.int l3), (5, Value.int l5)] d_Mo_needsOf_86 (by decide) rfl ?_
                refine V_iinc X 5 (l5 + (1 : Int32)) [(5, Value.int (l5 + (1 : Int32))), (4, Value.int (0 : Int32)), (0, Value.ref (ad 91)), (1, Value.int l1), (2, Value.int l2), (3, Value.int l3)] d_Mo_needsOf_88 rfl (by first | rfl | decide) (by decide) rfl ?_
                refine V_goto X 16 d_Mo_needsOf_91 (by decide) ?_
                refine V_sub (lv' := [(0, Value.ref (ad 91)), (1, Value.int l1), (2, Value.int l2), (3, Value.int l3), (4, Value.int (0 : Int32)), (5, Value.int (l5 + (1 : Int32)))]) [2, 3, 4, 5, 1, 0] rfl ?_
                exact ih (0 : Int32) (l5 + (1 : Int32)) s6 h
              · skip
                refine V_iconst (v := 1) X d_Mo_needsOf_81 (by decide) ?_
                refine V_goto X 86 d_Mo_needsOf_82 (by decide) ?_
                refine V_istore X [(4, Value.int (1 : Int32)), (0, Value.ref (ad 91)), (1, Value.int l1), (2, Value.int l2), (3, Value.int l3), (5, Value.int l5)] d_Mo_needsOf_86 (by decide) rfl ?_
                refine V_iinc X 5 (l5 + (1 : Int32)) [(5, Value.int (l5 + (1 : Int32))), (4, Value.int (1 : Int32)), (0, Value.ref (ad 91)), (1, Value.int l1), (2, Value.int l2), (3, Value.int l3)] d_Mo_needsOf_88 rfl (by first | rfl | decide) (by decide) rfl ?_
                refine V_goto X 16 d_Mo_needsOf_91 (by decide) ?_
                refine V_sub (lv' := [(0, Value.ref (ad 91)), (1, Value.int l1), (2, Value.int l2), (3, Value.int l3), (4, Value.int (1 : Int32)), (5, Value.int (l5 + (1 : Int32)))]) [2, 3, 4, 5, 1, 0] rfl ?_
                exact ih (1 : Int32) (l5 + (1 : Int32)) s6 h
          · skip
            refine V_iconst (v := 1) X d_Mo_needsOf_57 (by decide) ?_
            refine V_goto X 62 d_Mo_needsOf_58 (by decide) ?_
            refine V_aload_n X 0 d_Mo_needsOf_62 rfl ?_
            refine V_getR X 10 16 100 rfl ji10 (by decide) (by decide) (by decide) fl_Mo_34 d_Mo_needsOf_63 (by decide) (by decide) (by decide) (by decide) ?_
            refine V_iload X 5 d_Mo_needsOf_66 rfl ?_
            refine V_iald X d_Mo_needsOf_68 (by decide) (by decide) rfl h (fun h => ?_)
            refine V_iconst (v := 1) X d_Mo_needsOf_69 (by decide) ?_
            refine V_icmp_ne X 77 d_Mo_needsOf_70 (by decide) h (fun c11 h => ?_) (fun c11 h => ?_)
            · skip
              refine V_iconst (v := 0) X d_Mo_needsOf_77 (by decide) ?_
              refine V_icmp_ne X 85 d_Mo_needsOf_78 (by decide) h (fun c12 h => ?_) (fun c12 h => ?_)
              · skip
                refine V_iconst (v := 0) X d_Mo_needsOf_85 (by decide) ?_
                refine V_istore X [(4, Value.int (0 : Int32)), (0, Value.ref (ad 91)), (1, Value.int l1), (2, Value.int l2), (3, Value.int l3), (5, Value.int l5)] d_Mo_needsOf_86 (by decide) rfl ?_
                refine V_iinc X 5 (l5 + (1 : Int32)) [(5, Value.int (l5 + (1 : Int32))), (4, Value.int (0 : Int32)), (0, Value.ref (ad 91)), (1, Value.int l1), (2, Value.int l2), (3, Value.int l3)] d_Mo_needsOf_88 rfl (by first | rfl | decide) (by decide) rfl ?_
                refine V_goto X 16 d_Mo_needsOf_91 (by decide) ?_
                refine V_sub (lv' := [(0, Value.ref (ad 91)), (1, Value.int l1), (2, Value.int l2), (3, Value.int l3), (4, Value.int (0 : Int32)), (5, Value.int (l5 + (1 : Int32)))]) [2, 3, 4, 5, 1, 0] rfl ?_
                exact ih (0 : Int32) (l5 + (1 : Int32)) s6 h
              · skip
                refine V_iconst (v := 1) X d_Mo_needsOf_81 (by decide) ?_
                refine V_goto X 86 d_Mo_needsOf_82 (by decide) ?_
                refine V_istore X [(4, Value.int (1 : Int32)), (0, Value.ref (ad 91)), (1, Value.int l1), (2, Value.int l2), (3, Value.int l3), (5, Value.int l5)] d_Mo_needsOf_86 (by decide) rfl ?_
                refine V_iinc X 5 (l5 + (1 : Int32)) [(5, Value.int (l5 + (1 : Int32))), (4, Value.int (1 : Int32)), (0, Value.ref (ad 91)), (1, Value.int l1), (2, Value.int l2), (3, Value.int l3)] d_Mo_needsOf_88 rfl (by first | rfl | decide) (by decide) rfl ?_
                refine V_goto X 16 d_Mo_needsOf_91 (by decide) ?_
                refine V_sub (lv' := [(0, Value.ref (ad 91)), (1, Value.int l1), (2, Value.int l2), (3, Value.int l3), (4, Value.int (1 : Int32)), (5, Value.int (l5 + (1 : Int32)))]) [2, 3, 4, 5, 1, 0] rfl ?_
                exact ih (1 : Int32) (l5 + (1 : Int32)) s6 h
            · skip
              refine V_iconst (v := 1) X d_Mo_needsOf_73 (by decide) ?_
              refine V_goto X 78 d_Mo_needsOf_74 (by decide) ?_
              refine V_icmp_ne X 85 d_Mo_needsOf_78 (by decide) h (fun c13 h => ?_) (fun c13 h => ?_)
              · skip
                refine V_iconst (v := 0) X d_Mo_needsOf_85 (by decide) ?_
                refine V_istore X [(4, Value.int (0 : Int32)), (0, Value.ref (ad 91)), (1, Value.int l1), (2, Value.int l2), (3, Value.int l3), (5, Value.int l5)] d_Mo_needsOf_86 (by decide) rfl ?_
                refine V_iinc X 5 (l5 + (1 : Int32)) [(5, Value.int (l5 + (1 : Int32))), (4, Value.int (0 : Int32)), (0, Value.ref (ad 91)), (1, Value.int l1), (2, Value.int l2), (3, Value.int l3)] d_Mo_needsOf_88 rfl (by first | rfl | decide) (by decide) rfl ?_
                refine V_goto X 16 d_Mo_needsOf_91 (by decide) ?_
                refine V_sub (lv' := [(0, Value.ref (ad 91)), (1, Value.int l1), (2, Value.int l2), (3, Value.int l3), (4, Value.int (0 : Int32)), (5, Value.int (l5 + (1 : Int32)))]) [2, 3, 4, 5, 1, 0] rfl ?_
                exact ih (0 : Int32) (l5 + (1 : Int32)) s6 h
              · skip
                refine V_iconst (v := 1) X d_Mo_needsOf_81 (by decide) ?_
                refine V_goto X 86 d_Mo_needsOf_82 (by decide) ?_
                refine V_istore X [(4, Value.int (1 : Int32)), (0, Value.ref (ad 91)), (1, Value.int l1), (2, Value.int l2), (3, Value.int l3), (5, Value.int l5)] d_Mo_needsOf_86 (by decide) rfl ?_
                refine V_iinc X 5 (l5 + (1 : Int32)) [(5, Value.int (l5 + (1 : Int32))), (4, Value.int (1 : Int32)), (0, Value.ref (ad 91)), (1, Value.int l1), (2, Value.int l2), (3, Value.int l3)] d_Mo_needsOf_88 rfl (by first | rfl | decide) (by decide) rfl ?_
                refine V_goto X 16 d_Mo_needsOf_91 (by decide) ?_
                refine V_sub (lv' := [(0, Value.ref (ad 91)), (1, Value.int l1), (2, Value.int l2), (3, Value.int l3), (4, Value.int (1 : Int32)), (5, Value.int (l5 + (1 : Int32)))]) [2, 3, 4, 5, 1, 0] rfl ?_
                exact ih (1 : Int32) (l5 + (1 : Int32)) s6 h
set_option maxHeartbeats 4000000 in
set_option maxRecDepth 100000 in
theorem Mo_needsOf_L4_ok {p : Program} {l : Launch} {e : Env} {R : Room} {s : State} {m : MethodId} {args : Array Value} {below : List Frame} {meth : Method} {c : Code} {D : va_G} {ad : Nat → Nat} {cI cB : ClassId} {A : Nat → Prop} {cells slots : Nat} {Q : State → Prop} (X : Cx p R s m args meth c jR10 prog_13_method_50_code 6 4 D ad cI cB A cells slots) (fu : Nat) (l1 : Int32) (kont : (Int32 → Int32 → Sg → Option (Int32 × Sg))) {K : (Int32 × Sg) → Prop} (hQ : RI p l e R s m args below meth c 6 D ad cI cB A cells slots Q prog_13_method_50_code false K) (hk : ∀ (l2 : Int32) (l3 : Int32) (σ : Sg), wpO (kont l2 l3 σ) K → V p l e R s m args below meth c 6 D A cells slots Q (wl ad cI cB σ) 117 [(0, Value.ref (ad 91)), (1, Value.int l1), (2, Value.int l2), (3, Value.int l3)] []) : ∀ (n : Nat) (l2 : Int32) (l3 : Int32) (σ : Sg), wpO (Mo_needsOf_L4 fu l1 kont n l2 l3 σ) K → V p l e R s m args below meth c 6 D A cells slots Q (wl ad cI cB σ) 4 [(0, Value.ref (ad 91)), (1, Value.int l1), (2, Value.int l2), (3, Value.int l3)] [] := by
  intro n
  induction n with
  | zero =>
    intro l2 l3 σ h
    exact (wp_none h).elim
  | succ n ih =>
    intro l2 l3 σ h
    rw [Mo_needsOf_L4] at h
    refine V_iload_n X 3 d_Mo_needsOf_4 rfl ?_
    refine V_bipush (v := 9) X d_Mo_needsOf_5 (by decide) ?_
    refine V_icmp_gt X 117 d_Mo_needsOf_7 (by decide) h (fun c1 h => ?_) (fun c1 h => ?_)
    · skip
      exact hk l2 l3 σ h
    · skip
      refine V_iconst (v := 1) X d_Mo_needsOf_10 (by decide) ?_
      refine V_istore X [(4, Value.int (1 : Int32)), (0, Value.ref (ad 91)), (1, Value.int l1), (2, Value.int l2), (3, Value.int l3)] d_Mo_needsOf_11 (by decide) rfl ?_
      refine V_iconst (v := 0) X d_Mo_needsOf_13 (by decide) ?_
      refine V_istore X [(5, Value.int (0 : Int32)), (4, Value.int (1 : Int32)), (0, Value.ref (ad 91)), (1, Value.int l1), (2, Value.int l2), (3, Value.int l3)] d_Mo_needsOf_14 (by decide) rfl ?_
      refine V_sub (lv' := [(0, Value.ref (ad 91)), (1, Value.int l1), (2, Value.int l2), (3, Value.int l3), (4, Value.int (1 : Int32)), (5, Value.int (0 : Int32))]) [2, 3, 4, 5, 1, 0] rfl ?_
      refine Mo_needsOf_L16_ok X fu l1 l2 l3 _ hQ (fun l4_14 l5_15 s16 h => ?_) fu (1 : Int32) (0 : Int32) σ h
      refine V_iload_n X 2 d_Mo_needsOf_94 rfl ?_
      refine V_iload X 4 d_Mo_needsOf_95 rfl ?_
      refine V_if_eq X 108 d_Mo_needsOf_97 (by decide) h (fun c17 h => ?_) (fun c17 h => ?_)
      · skip
        refine V_iconst (v := 0) X d_Mo_needsOf_108 (by decide) ?_
        refine V_ior X d_Mo_needsOf_109 ?_
        refine V_istore_n X [(2, Value.int (l2 ||| (0 : Int32))), (0, Value.ref (ad 91)), (1, Value.int l1), (3, Value.int l3), (4, Value.int l4_14), (5, Value.int l5_15)] d_Mo_needsOf_110 (by decide) rfl ?_
        refine V_iinc X 3 (l3 + (1 : Int32)) [(3, Value.int (l3 + (1 : Int32))), (2, Value.int (l2 ||| (0 : Int32))), (0, Value.ref (ad 91)), (1, Value.int l1), (4, Value.int l4_14), (5, Value.int l5_15)] d_Mo_needsOf_111 rfl (by first | rfl | decide) (by decide) rfl ?_
        refine V_goto X 4 d_Mo_needsOf_114 (by decide) ?_
        refine V_sub (lv' := [(0, Value.ref (ad 91)), (1, Value.int l1), (2, Value.int (l2 ||| (0 : Int32))), (3, Value.int (l3 + (1 : Int32)))]) [2, 3, 1, 0] rfl ?_
        exact ih (l2 ||| (0 : Int32)) (l3 + (1 : Int32)) s16 h
      · skip
        refine V_iconst (v := 1) X d_Mo_needsOf_100 (by decide) ?_
        refine V_iload_n X 3 d_Mo_needsOf_101 rfl ?_
        refine V_iconst (v := 1) X d_Mo_needsOf_102 (by decide) ?_
        refine V_isub X d_Mo_needsOf_103 ?_
        refine V_ishl X d_Mo_needsOf_104 ?_
        refine V_goto X 109 d_Mo_needsOf_105 (by decide) ?_
        refine V_ior X d_Mo_needsOf_109 ?_
        refine V_istore_n X [(2, Value.int (l2 ||| ((1 : Int32) <<< ((l3 - (1 : Int32)) &&& 31)))), (0, Value.ref (ad 91)), (1, Value.int l1), (3, Value.int l3), (4, Value.int l4_14), (5, Value.int l5_15)] d_Mo_needsOf_110 (by decide) rfl ?_
        refine V_iinc X 3 (l3 + (1 : Int32)) [(3, Value.int (l3 + (1 : Int32))), (2, Value.int (l2 ||| ((1 : Int32) <<< ((l3 - (1 : Int32)) &&& 31)))), (0, Value.ref (ad 91)), (1, Value.int l1), (4, Value.int l4_14), (5, Value.int l5_15)] d_Mo_needsOf_111 rfl (by first | rfl | decide) (by decide) rfl ?_
        refine V_goto X 4 d_Mo_needsOf_114 (by decide) ?_
        refine V_sub (lv' := [(0, Value.ref (ad 91)), (1, Value.int l1), (2, Value.int (l2 ||| ((1 : Int32) <<< ((l3 - (1 : Int32)) &&& 31)))), (3, Value.int (l3 + (1 : Int32)))]) [2, 3, 1, 0] rfl ?_
        exact ih (l2 ||| ((1 : Int32) <<< ((l3 - (1 : Int32)) &&& 31))) (l3 + (1 : Int32)) s16 h
set_option maxHeartbeats 4000000 in
set_option maxRecDepth 100000 in
theorem k_Mo_needsOf (fu : Nat) (σ : Sg) (a0 : Int32) (r : Int32) (σ' : Sg) (h : Mo_needsOf fu σ a0 = some (r, σ')) : Evc y_Mo_needsOf prog_13_method_50_code 6 (some .int) 4 (fun ad => [Value.ref (ad 91), Value.int a0]) σ σ' (fun _ => some (.int r)) := by
  refine Evc_ofI (by decide) (fun ad => Nat.le_of_ble_eq_true rfl) (fun p l e R s m args below meth c D ad cI cB A Q X hQ => ?_)
  have X : Cx p R s m args meth c jR10 prog_13_method_50_code 6 4 D ad cI cB A 0 0 := X
  have h : wpO (Mo_needsOf fu σ a0) (fun q => q = (r, σ')) := ⟨_, h, rfl⟩
  rw [Mo_needsOf] at h
  refine V_sub (lv' := [(0, Value.ref (ad 91)), (1, Value.int a0)]) [0, 1] rfl ?_
  refine V_iconst (v := 0) X d_Mo_needsOf_0 (by decide) ?_
  refine V_istore_n X [(2, Value.int (0 : Int32)), (0, Value.ref (ad 91)), (1, Value.int a0)] d_Mo_needsOf_1 (by decide) rfl ?_
  refine V_iconst (v := 1) X d_Mo_needsOf_2 (by decide) ?_
  refine V_istore_n X [(3, Value.int (1 : Int32)), (2, Value.int (0 : Int32)), (0, Value.ref (ad 91)), (1, Value.int a0)] d_Mo_needsOf_3 (by decide) rfl ?_
  refine V_sub (lv' := [(0, Value.ref (ad 91)), (1, Value.int a0), (2, Value.int (0 : Int32)), (3, Value.int (1 : Int32))]) [2, 3, 1, 0] rfl ?_
  refine Mo_needsOf_L4_ok X fu a0 _ hQ (fun l2_18 l3_19 s20 h => ?_) fu (0 : Int32) (1 : Int32) σ h
  refine V_iload_n X 2 d_Mo_needsOf_117 rfl ?_
  have h9 := wp_some h
  exact hQ _ _ h9 (fun h9 => absurd h9 (by decide)) _ _ d_Mo_needsOf_118
